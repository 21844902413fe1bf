/-! FrequencyOfficeModel.<init>()V -/
theorem i217_0 : insAt 217 0 = some (.aload_n 0, 1, (0, 0, 0, 0), 0) := rfl
theorem s217_0 {c : Nat → List AV → SS → Option Out} {o : OId} {L2 : List (Nat × AV)} {St : List AV} {S : SS} : ev c 217 0 [some (aR o)] L2 St S = ev c 217 1 [some (aR o)] L2 (aR o :: St) S := ev_go i217_0 rfl
theorem i217_1 : insAt 217 1 = some (.invokespecial 1, 3, (0, 0, 20, 0), 0) := rfl
theorem s217_1 {c : Nat → List AV → SS → Option Out} {l0 : Option AV} {o : OId} {L2 : List (Nat × AV)} {St : List AV} {S : SS} : ev c 217 1 [l0] L2 (aR o :: St) S = ev c 217 4 [l0] L2 St S := ev_go i217_1 rfl
theorem i217_4 : insAt 217 4 = some (.aload_n 0, 1, (0, 0, 0, 0), 0) := rfl
theorem s217_4 {c : Nat → List AV → SS → Option Out} {o : OId} {L2 : List (Nat × AV)} {St : List AV} {S : SS} : ev c 217 4 [some (aR o)] L2 St S = ev c 217 5 [some (aR o)] L2 (aR o :: St) S := ev_go i217_4 rfl
theorem i217_5 : insAt 217 5 = some (.bipush 106, 2, (0, 0, 0, 0), 0) := rfl
theorem s217_5 {c : Nat → List AV → SS → Option Out} {l0 : Option AV} {L2 : List (Nat × AV)} {St : List AV} {S : SS} : ev c 217 5 [l0] L2 St S = ev c 217 7 [l0] L2 (aI 106 :: St) S := ev_go i217_5 rfl
theorem i217_7 : insAt 217 7 = some (.newarray .int, 2, (0, 0, 0, 0), 0) := rfl
theorem i217_9 : insAt 217 9 = some (.putfield 7, 3, (12, 0, 0, 0), 0) := rfl
theorem s217_9 {c : Nat → List AV → SS → Option Out} {l0 : Option AV} {j t : Nat} {p : OId} {L2 : List (Nat × AV)} {St : List AV} {S : SS} : ev c 217 9 [l0] L2 (aR p :: aR (12, j, t) :: St) S = ev c 217 12 [l0] L2 St (S.1, S.2.1, setV S.2.2.1 (12, j, t) 0 (aR p), S.2.2.2) := ev_go i217_9 rfl
theorem i217_12 : insAt 217 12 = some (.aload_n 0, 1, (0, 0, 0, 0), 0) := rfl
theorem s217_12 {c : Nat → List AV → SS → Option Out} {o : OId} {L2 : List (Nat × AV)} {St : List AV} {S : SS} : ev c 217 12 [some (aR o)] L2 St S = ev c 217 13 [some (aR o)] L2 (aR o :: St) S := ev_go i217_12 rfl
theorem i217_13 : insAt 217 13 = some (.bipush 106, 2, (0, 0, 0, 0), 0) := rfl
theorem s217_13 {c : Nat → List AV → SS → Option Out} {l0 : Option AV} {L2 : List (Nat × AV)} {St : List AV} {S : SS} : ev c 217 13 [l0] L2 St S = ev c 217 15 [l0] L2 (aI 106 :: St) S := ev_go i217_13 rfl
theorem i217_15 : insAt 217 15 = some (.newarray .int, 2, (0, 0, 0, 0), 0) := rfl
theorem i217_17 : insAt 217 17 = some (.putfield 13, 3, (12, 1, 0, 0), 0) := rfl
theorem s217_17 {c : Nat → List AV → SS → Option Out} {l0 : Option AV} {j t : Nat} {p : OId} {L2 : List (Nat × AV)} {St : List AV} {S : SS} : ev c 217 17 [l0] L2 (aR p :: aR (12, j, t) :: St) S = ev c 217 20 [l0] L2 St (S.1, S.2.1, setV S.2.2.1 (12, j, t) 1 (aR p), S.2.2.2) := ev_go i217_17 rfl
theorem i217_20 : insAt 217 20 = some (.aload_n 0, 1, (0, 0, 0, 0), 0) := rfl
theorem s217_20 {c : Nat → List AV → SS → Option Out} {o : OId} {L2 : List (Nat × AV)} {St : List AV} {S : SS} : ev c 217 20 [some (aR o)] L2 St S = ev c 217 21 [some (aR o)] L2 (aR o :: St) S := ev_go i217_20 rfl
theorem i217_21 : insAt 217 21 = some (.sipush 636, 3, (0, 0, 0, 0), 0) := rfl
theorem s217_21 {c : Nat → List AV → SS → Option Out} {l0 : Option AV} {L2 : List (Nat × AV)} {St : List AV} {S : SS} : ev c 217 21 [l0] L2 St S = ev c 217 24 [l0] L2 (aI 636 :: St) S := ev_go i217_21 rfl
theorem i217_24 : insAt 217 24 = some (.newarray .int, 2, (0, 0, 0, 0), 0) := rfl
theorem i217_26 : insAt 217 26 = some (.putfield 16, 3, (12, 2, 0, 0), 0) := rfl
theorem s217_26 {c : Nat → List AV → SS → Option Out} {l0 : Option AV} {j t : Nat} {p : OId} {L2 : List (Nat × AV)} {St : List AV} {S : SS} : ev c 217 26 [l0] L2 (aR p :: aR (12, j, t) :: St) S = ev c 217 29 [l0] L2 St (S.1, S.2.1, setV S.2.2.1 (12, j, t) 2 (aR p), S.2.2.2) := ev_go i217_26 rfl
theorem i217_29 : insAt 217 29 = some (.aload_n 0, 1, (0, 0, 0, 0), 0) := rfl
theorem s217_29 {c : Nat → List AV → SS → Option Out} {o : OId} {L2 : List (Nat × AV)} {St : List AV} {S : SS} : ev c 217 29 [some (aR o)] L2 St S = ev c 217 30 [some (aR o)] L2 (aR o :: St) S := ev_go i217_29 rfl
theorem i217_30 : insAt 217 30 = some (.bipush 106, 2, (0, 0, 0, 0), 0) := rfl
theorem s217_30 {c : Nat → List AV → SS → Option Out} {l0 : Option AV} {L2 : List (Nat × AV)} {St : List AV} {S : SS} : ev c 217 30 [l0] L2 St S = ev c 217 32 [l0] L2 (aI 106 :: St) S := ev_go i217_30 rfl
theorem i217_32 : insAt 217 32 = some (.newarray .int, 2, (0, 0, 0, 0), 0) := rfl
theorem i217_34 : insAt 217 34 = some (.putfield 19, 3, (12, 3, 0, 0), 0) := rfl
theorem s217_34 {c : Nat → List AV → SS → Option Out} {l0 : Option AV} {j t : Nat} {p : OId} {L2 : List (Nat × AV)} {St : List AV} {S : SS} : ev c 217 34 [l0] L2 (aR p :: aR (12, j, t) :: St) S = ev c 217 37 [l0] L2 St (S.1, S.2.1, setV S.2.2.1 (12, j, t) 3 (aR p), S.2.2.2) := ev_go i217_34 rfl
theorem i217_37 : insAt 217 37 = some (.aload_n 0, 1, (0, 0, 0, 0), 0) := rfl
theorem s217_37 {c : Nat → List AV → SS → Option Out} {o : OId} {L2 : List (Nat × AV)} {St : List AV} {S : SS} : ev c 217 37 [some (aR o)] L2 St S = ev c 217 38 [some (aR o)] L2 (aR o :: St) S := ev_go i217_37 rfl
theorem i217_38 : insAt 217 38 = some (.iconst 2, 1, (0, 0, 0, 0), 0) := rfl
theorem s217_38 {c : Nat → List AV → SS → Option Out} {l0 : Option AV} {L2 : List (Nat × AV)} {St : List AV} {S : SS} : ev c 217 38 [l0] L2 St S = ev c 217 39 [l0] L2 (aI 2 :: St) S := ev_go i217_38 rfl
theorem i217_39 : insAt 217 39 = some (.newarray .int, 2, (0, 0, 0, 0), 0) := rfl
theorem i217_41 : insAt 217 41 = some (.putfield 22, 3, (12, 4, 0, 0), 0) := rfl
theorem s217_41 {c : Nat → List AV → SS → Option Out} {l0 : Option AV} {j t : Nat} {p : OId} {L2 : List (Nat × AV)} {St : List AV} {S : SS} : ev c 217 41 [l0] L2 (aR p :: aR (12, j, t) :: St) S = ev c 217 44 [l0] L2 St (S.1, S.2.1, setV S.2.2.1 (12, j, t) 4 (aR p), S.2.2.2) := ev_go i217_41 rfl
theorem i217_44 : insAt 217 44 = some (.aload_n 0, 1, (0, 0, 0, 0), 0) := rfl
theorem s217_44 {c : Nat → List AV → SS → Option Out} {o : OId} {L2 : List (Nat × AV)} {St : List AV} {S : SS} : ev c 217 44 [some (aR o)] L2 St S = ev c 217 45 [some (aR o)] L2 (aR o :: St) S := ev_go i217_44 rfl
theorem i217_45 : insAt 217 45 = some (.iconst 2, 1, (0, 0, 0, 0), 0) := rfl
theorem s217_45 {c : Nat → List AV → SS → Option Out} {l0 : Option AV} {L2 : List (Nat × AV)} {St : List AV} {S : SS} : ev c 217 45 [l0] L2 St S = ev c 217 46 [l0] L2 (aI 2 :: St) S := ev_go i217_45 rfl
theorem i217_46 : insAt 217 46 = some (.newarray .int, 2, (0, 0, 0, 0), 0) := rfl
theorem i217_48 : insAt 217 48 = some (.putfield 25, 3, (12, 5, 0, 0), 0) := rfl
theorem s217_48 {c : Nat → List AV → SS → Option Out} {l0 : Option AV} {j t : Nat} {p : OId} {L2 : List (Nat × AV)} {St : List AV} {S : SS} : ev c 217 48 [l0] L2 (aR p :: aR (12, j, t) :: St) S = ev c 217 51 [l0] L2 St (S.1, S.2.1, setV S.2.2.1 (12, j, t) 5 (aR p), S.2.2.2) := ev_go i217_48 rfl
theorem i217_51 : insAt 217 51 = some (.aload_n 0, 1, (0, 0, 0, 0), 0) := rfl
theorem s217_51 {c : Nat → List AV → SS → Option Out} {o : OId} {L2 : List (Nat × AV)} {St : List AV} {S : SS} : ev c 217 51 [some (aR o)] L2 St S = ev c 217 52 [some (aR o)] L2 (aR o :: St) S := ev_go i217_51 rfl
theorem i217_52 : insAt 217 52 = some (.bipush 7, 2, (0, 0, 0, 0), 0) := rfl
theorem s217_52 {c : Nat → List AV → SS → Option Out} {l0 : Option AV} {L2 : List (Nat × AV)} {St : List AV} {S : SS} : ev c 217 52 [l0] L2 St S = ev c 217 54 [l0] L2 (aI 7 :: St) S := ev_go i217_52 rfl
theorem i217_54 : insAt 217 54 = some (.newarray .int, 2, (0, 0, 0, 0), 0) := rfl
theorem i217_56 : insAt 217 56 = some (.putfield 28, 3, (12, 6, 0, 0), 0) := rfl
theorem s217_56 {c : Nat → List AV → SS → Option Out} {l0 : Option AV} {j t : Nat} {p : OId} {L2 : List (Nat × AV)} {St : List AV} {S : SS} : ev c 217 56 [l0] L2 (aR p :: aR (12, j, t) :: St) S = ev c 217 59 [l0] L2 St (S.1, S.2.1, setV S.2.2.1 (12, j, t) 6 (aR p), S.2.2.2) := ev_go i217_56 rfl
theorem i217_59 : insAt 217 59 = some (.aload_n 0, 1, (0, 0, 0, 0), 0) := rfl
theorem s217_59 {c : Nat → List AV → SS → Option Out} {o : OId} {L2 : List (Nat × AV)} {St : List AV} {S : SS} : ev c 217 59 [some (aR o)] L2 St S = ev c 217 60 [some (aR o)] L2 (aR o :: St) S := ev_go i217_59 rfl
theorem i217_60 : insAt 217 60 = some (.iconst 0, 1, (0, 0, 0, 0), 0) := rfl
theorem s217_60 {c : Nat → List AV → SS → Option Out} {l0 : Option AV} {L2 : List (Nat × AV)} {St : List AV} {S : SS} : ev c 217 60 [l0] L2 St S = ev c 217 61 [l0] L2 (aI 0 :: St) S := ev_go i217_60 rfl
theorem i217_61 : insAt 217 61 = some (.putfield 31, 3, (12, 7, 0, 0), 0) := rfl
theorem s217_61 {c : Nat → List AV → SS → Option Out} {l0 : Option AV} {j t : Nat} {x : Int32} {L2 : List (Nat × AV)} {St : List AV} {S : SS} : ev c 217 61 [l0] L2 (aI x :: aR (12, j, t) :: St) S = ev c 217 64 [l0] L2 St (setI S.1 (12, j, t) 7 x, S.2) := ev_go i217_61 rfl
theorem i217_64 : insAt 217 64 = some (.aload_n 0, 1, (0, 0, 0, 0), 0) := rfl
theorem s217_64 {c : Nat → List AV → SS → Option Out} {o : OId} {L2 : List (Nat × AV)} {St : List AV} {S : SS} : ev c 217 64 [some (aR o)] L2 St S = ev c 217 65 [some (aR o)] L2 (aR o :: St) S := ev_go i217_64 rfl
theorem i217_65 : insAt 217 65 = some (.iconst 0, 1, (0, 0, 0, 0), 0) := rfl
theorem s217_65 {c : Nat → List AV → SS → Option Out} {l0 : Option AV} {L2 : List (Nat × AV)} {St : List AV} {S : SS} : ev c 217 65 [l0] L2 St S = ev c 217 66 [l0] L2 (aI 0 :: St) S := ev_go i217_65 rfl
theorem i217_66 : insAt 217 66 = some (.putfield 35, 3, (12, 8, 0, 0), 0) := rfl
theorem s217_66 {c : Nat → List AV → SS → Option Out} {l0 : Option AV} {j t : Nat} {x : Int32} {L2 : List (Nat × AV)} {St : List AV} {S : SS} : ev c 217 66 [l0] L2 (aI x :: aR (12, j, t) :: St) S = ev c 217 69 [l0] L2 St (setI S.1 (12, j, t) 8 x, S.2) := ev_go i217_66 rfl
theorem i217_69 : insAt 217 69 = some (.aload_n 0, 1, (0, 0, 0, 0), 0) := rfl
theorem s217_69 {c : Nat → List AV → SS → Option Out} {o : OId} {L2 : List (Nat × AV)} {St : List AV} {S : SS} : ev c 217 69 [some (aR o)] L2 St S = ev c 217 70 [some (aR o)] L2 (aR o :: St) S := ev_go i217_69 rfl
theorem i217_70 : insAt 217 70 = some (.iconst 0, 1, (0, 0, 0, 0), 0) := rfl
theorem s217_70 {c : Nat → List AV → SS → Option Out} {l0 : Option AV} {L2 : List (Nat × AV)} {St : List AV} {S : SS} : ev c 217 70 [l0] L2 St S = ev c 217 71 [l0] L2 (aI 0 :: St) S := ev_go i217_70 rfl
theorem i217_71 : insAt 217 71 = some (.putfield 38, 3, (12, 9, 0, 0), 0) := rfl
theorem s217_71 {c : Nat → List AV → SS → Option Out} {l0 : Option AV} {j t : Nat} {x : Int32} {L2 : List (Nat × AV)} {St : List AV} {S : SS} : ev c 217 71 [l0] L2 (aI x :: aR (12, j, t) :: St) S = ev c 217 74 [l0] L2 St (setI S.1 (12, j, t) 9 x, S.2) := ev_go i217_71 rfl
theorem i217_74 : insAt 217 74 = some (.aload_n 0, 1, (0, 0, 0, 0), 0) := rfl
theorem s217_74 {c : Nat → List AV → SS → Option Out} {o : OId} {L2 : List (Nat × AV)} {St : List AV} {S : SS} : ev c 217 74 [some (aR o)] L2 St S = ev c 217 75 [some (aR o)] L2 (aR o :: St) S := ev_go i217_74 rfl
theorem i217_75 : insAt 217 75 = some (.iconst 0, 1, (0, 0, 0, 0), 0) := rfl
theorem s217_75 {c : Nat → List AV → SS → Option Out} {l0 : Option AV} {L2 : List (Nat × AV)} {St : List AV} {S : SS} : ev c 217 75 [l0] L2 St S = ev c 217 76 [l0] L2 (aI 0 :: St) S := ev_go i217_75 rfl
theorem i217_76 : insAt 217 76 = some (.putfield 41, 3, (12, 10, 0, 0), 0) := rfl
theorem s217_76 {c : Nat → List AV → SS → Option Out} {l0 : Option AV} {j t : Nat} {x : Int32} {L2 : List (Nat × AV)} {St : List AV} {S : SS} : ev c 217 76 [l0] L2 (aI x :: aR (12, j, t) :: St) S = ev c 217 79 [l0] L2 St (setI S.1 (12, j, t) 10 x, S.2) := ev_go i217_76 rfl
theorem i217_79 : insAt 217 79 = some (.aload_n 0, 1, (0, 0, 0, 0), 0) := rfl
theorem s217_79 {c : Nat → List AV → SS → Option Out} {o : OId} {L2 : List (Nat × AV)} {St : List AV} {S : SS} : ev c 217 79 [some (aR o)] L2 St S = ev c 217 80 [some (aR o)] L2 (aR o :: St) S := ev_go i217_79 rfl
theorem i217_80 : insAt 217 80 = some (.iconst 0, 1, (0, 0, 0, 0), 0) := rfl
theorem s217_80 {c : Nat → List AV → SS → Option Out} {l0 : Option AV} {L2 : List (Nat × AV)} {St : List AV} {S : SS} : ev c 217 80 [l0] L2 St S = ev c 217 81 [l0] L2 (aI 0 :: St) S := ev_go i217_80 rfl
theorem i217_81 : insAt 217 81 = some (.putfield 44, 3, (12, 11, 0, 0), 0) := rfl
theorem s217_81 {c : Nat → List AV → SS → Option Out} {l0 : Option AV} {j t : Nat} {x : Int32} {L2 : List (Nat × AV)} {St : List AV} {S : SS} : ev c 217 81 [l0] L2 (aI x :: aR (12, j, t) :: St) S = ev c 217 84 [l0] L2 St (setI S.1 (12, j, t) 11 x, S.2) := ev_go i217_81 rfl
theorem i217_84 : insAt 217 84 = some (.aload_n 0, 1, (0, 0, 0, 0), 0) := rfl
theorem s217_84 {c : Nat → List AV → SS → Option Out} {o : OId} {L2 : List (Nat × AV)} {St : List AV} {S : SS} : ev c 217 84 [some (aR o)] L2 St S = ev c 217 85 [some (aR o)] L2 (aR o :: St) S := ev_go i217_84 rfl
theorem i217_85 : insAt 217 85 = some (.iconst 0, 1, (0, 0, 0, 0), 0) := rfl
theorem s217_85 {c : Nat → List AV → SS → Option Out} {l0 : Option AV} {L2 : List (Nat × AV)} {St : List AV} {S : SS} : ev c 217 85 [l0] L2 St S = ev c 217 86 [l0] L2 (aI 0 :: St) S := ev_go i217_85 rfl
theorem i217_86 : insAt 217 86 = some (.putfield 47, 3, (12, 12, 0, 0), 0) := rfl
theorem s217_86 {c : Nat → List AV → SS → Option Out} {l0 : Option AV} {j t : Nat} {x : Int32} {L2 : List (Nat × AV)} {St : List AV} {S : SS} : ev c 217 86 [l0] L2 (aI x :: aR (12, j, t) :: St) S = ev c 217 89 [l0] L2 St (setI S.1 (12, j, t) 12 x, S.2) := ev_go i217_86 rfl
theorem i217_89 : insAt 217 89 = some (.aload_n 0, 1, (0, 0, 0, 0), 0) := rfl
theorem s217_89 {c : Nat → List AV → SS → Option Out} {o : OId} {L2 : List (Nat × AV)} {St : List AV} {S : SS} : ev c 217 89 [some (aR o)] L2 St S = ev c 217 90 [some (aR o)] L2 (aR o :: St) S := ev_go i217_89 rfl
theorem i217_90 : insAt 217 90 = some (.iconst 0, 1, (0, 0, 0, 0), 0) := rfl
theorem s217_90 {c : Nat → List AV → SS → Option Out} {l0 : Option AV} {L2 : List (Nat × AV)} {St : List AV} {S : SS} : ev c 217 90 [l0] L2 St S = ev c 217 91 [l0] L2 (aI 0 :: St) S := ev_go i217_90 rfl
theorem i217_91 : insAt 217 91 = some (.putfield 50, 3, (12, 13, 0, 0), 0) := rfl
theorem s217_91 {c : Nat → List AV → SS → Option Out} {l0 : Option AV} {j t : Nat} {x : Int32} {L2 : List (Nat × AV)} {St : List AV} {S : SS} : ev c 217 91 [l0] L2 (aI x :: aR (12, j, t) :: St) S = ev c 217 94 [l0] L2 St (setI S.1 (12, j, t) 13 x, S.2) := ev_go i217_91 rfl
theorem i217_94 : insAt 217 94 = some (.aload_n 0, 1, (0, 0, 0, 0), 0) := rfl
theorem s217_94 {c : Nat → List AV → SS → Option Out} {o : OId} {L2 : List (Nat × AV)} {St : List AV} {S : SS} : ev c 217 94 [some (aR o)] L2 St S = ev c 217 95 [some (aR o)] L2 (aR o :: St) S := ev_go i217_94 rfl
theorem i217_95 : insAt 217 95 = some (.iconst 0, 1, (0, 0, 0, 0), 0) := rfl
theorem s217_95 {c : Nat → List AV → SS → Option Out} {l0 : Option AV} {L2 : List (Nat × AV)} {St : List AV} {S : SS} : ev c 217 95 [l0] L2 St S = ev c 217 96 [l0] L2 (aI 0 :: St) S := ev_go i217_95 rfl
theorem i217_96 : insAt 217 96 = some (.putfield 53, 3, (12, 14, 0, 0), 0) := rfl
theorem s217_96 {c : Nat → List AV → SS → Option Out} {l0 : Option AV} {j t : Nat} {x : Int32} {L2 : List (Nat × AV)} {St : List AV} {S : SS} : ev c 217 96 [l0] L2 (aI x :: aR (12, j, t) :: St) S = ev c 217 99 [l0] L2 St (setI S.1 (12, j, t) 14 x, S.2) := ev_go i217_96 rfl
theorem i217_99 : insAt 217 99 = some (.aload_n 0, 1, (0, 0, 0, 0), 0) := rfl
theorem s217_99 {c : Nat → List AV → SS → Option Out} {o : OId} {L2 : List (Nat × AV)} {St : List AV} {S : SS} : ev c 217 99 [some (aR o)] L2 St S = ev c 217 100 [some (aR o)] L2 (aR o :: St) S := ev_go i217_99 rfl
theorem i217_100 : insAt 217 100 = some (.iconst 0, 1, (0, 0, 0, 0), 0) := rfl
theorem s217_100 {c : Nat → List AV → SS → Option Out} {l0 : Option AV} {L2 : List (Nat × AV)} {St : List AV} {S : SS} : ev c 217 100 [l0] L2 St S = ev c 217 101 [l0] L2 (aI 0 :: St) S := ev_go i217_100 rfl
theorem i217_101 : insAt 217 101 = some (.putfield 56, 3, (12, 15, 0, 0), 0) := rfl
theorem s217_101 {c : Nat → List AV → SS → Option Out} {l0 : Option AV} {j t : Nat} {x : Int32} {L2 : List (Nat × AV)} {St : List AV} {S : SS} : ev c 217 101 [l0] L2 (aI x :: aR (12, j, t) :: St) S = if x = 0 ∨ x = 1 then ev c 217 104 [l0] L2 St (setI S.1 (12, j, t) 15 x, S.2) else none := ev_if i217_101 rfl
theorem i217_104 : insAt 217 104 = some (.aload_n 0, 1, (0, 0, 0, 0), 0) := rfl
theorem s217_104 {c : Nat → List AV → SS → Option Out} {o : OId} {L2 : List (Nat × AV)} {St : List AV} {S : SS} : ev c 217 104 [some (aR o)] L2 St S = ev c 217 105 [some (aR o)] L2 (aR o :: St) S := ev_go i217_104 rfl
theorem i217_105 : insAt 217 105 = some (.new 60, 3, (1, 0, 0, 0), 0) := rfl
theorem i217_108 : insAt 217 108 = some (.dup, 1, (0, 0, 0, 0), 0) := rfl
theorem s217_108 {c : Nat → List AV → SS → Option Out} {l0 : Option AV} {x : OId} {L2 : List (Nat × AV)} {St : List AV} {S : SS} : ev c 217 108 [l0] L2 (aR x :: St) S = ev c 217 109 [l0] L2 (aR x :: aR x :: St) S := ev_go i217_108 rfl
theorem i217_109 : insAt 217 109 = some (.invokespecial 62, 3, (8, 0, 5, 1), 0) := rfl
theorem s217_109 {c : Nat → List AV → SS → Option Out} {l0 : Option AV} {t0 t1 : AV} {j t : Nat} {L2 : List (Nat × AV)} {S : SS} : ev c 217 109 [l0] L2 [aR (1, j, t), t0, t1] S = ck (c 8 [aR (1, j, t)] S) (fun v S' => ev c 217 112 [l0] L2 (v.toList ++ [t0, t1]) S') := ev_call i217_109 rfl
theorem i217_112 : insAt 217 112 = some (.invokevirtual 63, 3, (193, 0, 2, 1), 0) := rfl
theorem s217_112 {c : Nat → List AV → SS → Option Out} {l0 : Option AV} {t0 : AV} {j t : Nat} {L2 : List (Nat × AV)} {S : SS} : ev c 217 112 [l0] L2 [aR (1, j, t), t0] S = ck (c 193 [aR (1, j, t)] S) (fun v S' => ev c 217 115 [l0] L2 (v.toList ++ [t0]) S') := ev_call i217_112 rfl
theorem i217_115 : insAt 217 115 = some (.putfield 67, 3, (12, 16, 0, 0), 0) := rfl
theorem s217_115 {c : Nat → List AV → SS → Option Out} {l0 : Option AV} {j t : Nat} {p : OId} {L2 : List (Nat × AV)} {St : List AV} {S : SS} : ev c 217 115 [l0] L2 (aR p :: aR (12, j, t) :: St) S = ev c 217 118 [l0] L2 St (S.1, setV S.2.1 (12, j, t) 16 (aR p), S.2.2) := ev_go i217_115 rfl
theorem i217_118 : insAt 217 118 = some (.aload_n 0, 1, (0, 0, 0, 0), 0) := rfl
theorem s217_118 {c : Nat → List AV → SS → Option Out} {o : OId} {L2 : List (Nat × AV)} {St : List AV} {S : SS} : ev c 217 118 [some (aR o)] L2 St S = ev c 217 119 [some (aR o)] L2 (aR o :: St) S := ev_go i217_118 rfl
theorem i217_119 : insAt 217 119 = some (.getfield 7, 3, (12, 0, 0, 0), 0) := rfl
theorem s217_119 {c : Nat → List AV → SS → Option Out} {l0 : Option AV} {j t : Nat} {L2 : List (Nat × AV)} {St : List AV} {S : SS} : ev c 217 119 [l0] L2 (aR (12, j, t) :: St) S = ev c 217 122 [l0] L2 (S.2.2.1 (12, j, t) 0 :: St) S := ev_go i217_119 rfl
theorem i217_122 : insAt 217 122 = some (.iconst 0, 1, (0, 0, 0, 0), 0) := rfl
theorem s217_122 {c : Nat → List AV → SS → Option Out} {l0 : Option AV} {L2 : List (Nat × AV)} {St : List AV} {S : SS} : ev c 217 122 [l0] L2 St S = ev c 217 123 [l0] L2 (aI 0 :: St) S := ev_go i217_122 rfl
theorem i217_123 : insAt 217 123 = some (.bipush 10, 2, (0, 0, 0, 0), 0) := rfl
theorem s217_123 {c : Nat → List AV → SS → Option Out} {l0 : Option AV} {L2 : List (Nat × AV)} {St : List AV} {S : SS} : ev c 217 123 [l0] L2 St S = ev c 217 125 [l0] L2 (aI 10 :: St) S := ev_go i217_123 rfl
theorem i217_125 : insAt 217 125 = some (.iastore, 1, (0, 0, 0, 0), 0) := rfl
theorem s217_125 {c : Nat → List AV → SS → Option Out} {l0 : Option AV} {x i : Int32} {o : OId} {L2 : List (Nat × AV)} {St : List AV} {S : SS} : ev c 217 125 [l0] L2 (aI x :: aI i :: aR o :: St) S = kIw o i (ev c 217 126 [l0] L2 St (setI S.1 o i.toNatClampNeg x, S.2)) := ev_iastore i217_125
theorem i217_126 : insAt 217 126 = some (.aload_n 0, 1, (0, 0, 0, 0), 0) := rfl
theorem s217_126 {c : Nat → List AV → SS → Option Out} {o : OId} {L2 : List (Nat × AV)} {St : List AV} {S : SS} : ev c 217 126 [some (aR o)] L2 St S = ev c 217 127 [some (aR o)] L2 (aR o :: St) S := ev_go i217_126 rfl
theorem i217_127 : insAt 217 127 = some (.getfield 7, 3, (12, 0, 0, 0), 0) := rfl
theorem s217_127 {c : Nat → List AV → SS → Option Out} {l0 : Option AV} {j t : Nat} {L2 : List (Nat × AV)} {St : List AV} {S : SS} : ev c 217 127 [l0] L2 (aR (12, j, t) :: St) S = ev c 217 130 [l0] L2 (S.2.2.1 (12, j, t) 0 :: St) S := ev_go i217_127 rfl
theorem i217_130 : insAt 217 130 = some (.iconst 1, 1, (0, 0, 0, 0), 0) := rfl
theorem s217_130 {c : Nat → List AV → SS → Option Out} {l0 : Option AV} {L2 : List (Nat × AV)} {St : List AV} {S : SS} : ev c 217 130 [l0] L2 St S = ev c 217 131 [l0] L2 (aI 1 :: St) S := ev_go i217_130 rfl
theorem i217_131 : insAt 217 131 = some (.bipush 20, 2, (0, 0, 0, 0), 0) := rfl
theorem s217_131 {c : Nat → List AV → SS → Option Out} {l0 : Option AV} {L2 : List (Nat × AV)} {St : List AV} {S : SS} : ev c 217 131 [l0] L2 St S = ev c 217 133 [l0] L2 (aI 20 :: St) S := ev_go i217_131 rfl
theorem i217_133 : insAt 217 133 = some (.iastore, 1, (0, 0, 0, 0), 0) := rfl
theorem s217_133 {c : Nat → List AV → SS → Option Out} {l0 : Option AV} {x i : Int32} {o : OId} {L2 : List (Nat × AV)} {St : List AV} {S : SS} : ev c 217 133 [l0] L2 (aI x :: aI i :: aR o :: St) S = kIw o i (ev c 217 134 [l0] L2 St (setI S.1 o i.toNatClampNeg x, S.2)) := ev_iastore i217_133
theorem i217_134 : insAt 217 134 = some (.aload_n 0, 1, (0, 0, 0, 0), 0) := rfl
theorem s217_134 {c : Nat → List AV → SS → Option Out} {o : OId} {L2 : List (Nat × AV)} {St : List AV} {S : SS} : ev c 217 134 [some (aR o)] L2 St S = ev c 217 135 [some (aR o)] L2 (aR o :: St) S := ev_go i217_134 rfl
theorem i217_135 : insAt 217 135 = some (.getfield 7, 3, (12, 0, 0, 0), 0) := rfl
theorem s217_135 {c : Nat → List AV → SS → Option Out} {l0 : Option AV} {j t : Nat} {L2 : List (Nat × AV)} {St : List AV} {S : SS} : ev c 217 135 [l0] L2 (aR (12, j, t) :: St) S = ev c 217 138 [l0] L2 (S.2.2.1 (12, j, t) 0 :: St) S := ev_go i217_135 rfl
theorem i217_138 : insAt 217 138 = some (.iconst 2, 1, (0, 0, 0, 0), 0) := rfl
theorem s217_138 {c : Nat → List AV → SS → Option Out} {l0 : Option AV} {L2 : List (Nat × AV)} {St : List AV} {S : SS} : ev c 217 138 [l0] L2 St S = ev c 217 139 [l0] L2 (aI 2 :: St) S := ev_go i217_138 rfl
theorem i217_139 : insAt 217 139 = some (.bipush 40, 2, (0, 0, 0, 0), 0) := rfl
theorem s217_139 {c : Nat → List AV → SS → Option Out} {l0 : Option AV} {L2 : List (Nat × AV)} {St : List AV} {S : SS} : ev c 217 139 [l0] L2 St S = ev c 217 141 [l0] L2 (aI 40 :: St) S := ev_go i217_139 rfl
theorem i217_141 : insAt 217 141 = some (.iastore, 1, (0, 0, 0, 0), 0) := rfl
theorem s217_141 {c : Nat → List AV → SS → Option Out} {l0 : Option AV} {x i : Int32} {o : OId} {L2 : List (Nat × AV)} {St : List AV} {S : SS} : ev c 217 141 [l0] L2 (aI x :: aI i :: aR o :: St) S = kIw o i (ev c 217 142 [l0] L2 St (setI S.1 o i.toNatClampNeg x, S.2)) := ev_iastore i217_141
theorem i217_142 : insAt 217 142 = some (.aload_n 0, 1, (0, 0, 0, 0), 0) := rfl
theorem s217_142 {c : Nat → List AV → SS → Option Out} {o : OId} {L2 : List (Nat × AV)} {St : List AV} {S : SS} : ev c 217 142 [some (aR o)] L2 St S = ev c 217 143 [some (aR o)] L2 (aR o :: St) S := ev_go i217_142 rfl
theorem i217_143 : insAt 217 143 = some (.getfield 7, 3, (12, 0, 0, 0), 0) := rfl
theorem s217_143 {c : Nat → List AV → SS → Option Out} {l0 : Option AV} {j t : Nat} {L2 : List (Nat × AV)} {St : List AV} {S : SS} : ev c 217 143 [l0] L2 (aR (12, j, t) :: St) S = ev c 217 146 [l0] L2 (S.2.2.1 (12, j, t) 0 :: St) S := ev_go i217_143 rfl
theorem i217_146 : insAt 217 146 = some (.bipush 8, 2, (0, 0, 0, 0), 0) := rfl
theorem s217_146 {c : Nat → List AV → SS → Option Out} {l0 : Option AV} {L2 : List (Nat × AV)} {St : List AV} {S : SS} : ev c 217 146 [l0] L2 St S = ev c 217 148 [l0] L2 (aI 8 :: St) S := ev_go i217_146 rfl
theorem i217_148 : insAt 217 148 = some (.iconst (-1), 1, (0, 0, 0, 0), 0) := rfl
theorem s217_148 {c : Nat → List AV → SS → Option Out} {l0 : Option AV} {L2 : List (Nat × AV)} {St : List AV} {S : SS} : ev c 217 148 [l0] L2 St S = ev c 217 149 [l0] L2 (aI (-1) :: St) S := ev_go i217_148 rfl
theorem i217_149 : insAt 217 149 = some (.iastore, 1, (0, 0, 0, 0), 0) := rfl
theorem s217_149 {c : Nat → List AV → SS → Option Out} {l0 : Option AV} {x i : Int32} {o : OId} {L2 : List (Nat × AV)} {St : List AV} {S : SS} : ev c 217 149 [l0] L2 (aI x :: aI i :: aR o :: St) S = kIw o i (ev c 217 150 [l0] L2 St (setI S.1 o i.toNatClampNeg x, S.2)) := ev_iastore i217_149
theorem i217_150 : insAt 217 150 = some (.return_, 1, (0, 0, 0, 0), 0) := rfl
theorem s217_150 {c : Nat → List AV → SS → Option Out} {l0 : Option AV} {L2 : List (Nat × AV)} {St : List AV} {S : SS} : ev c 217 150 [l0] L2 [] S = some (.inl none, S) := ev_end i217_150 rfl
theorem m217 {d : Nat} {o : OId} {S : SS} : evm (d + 1) 217 [aR o] S = ev (evm d) 217 0 [some (aR o)] [] [] S := evm_s (n := 1) rfl (Nat.le_of_ble_eq_true rfl) rfl rfl
/-! FrequencyOfficeModel.thrown()I -/
theorem i218_0 : insAt 218 0 = some (.aload_n 0, 1, (0, 0, 0, 0), 0) := rfl
theorem s218_0 {c : Nat → List AV → SS → Option Out} {o : OId} {L2 : List (Nat × AV)} {St : List AV} {S : SS} : ev c 218 0 [some (aR o)] L2 St S = ev c 218 1 [some (aR o)] L2 (aR o :: St) S := ev_go i218_0 rfl
theorem i218_1 : insAt 218 1 = some (.getfield 31, 3, (12, 7, 0, 0), 0) := rfl
theorem s218_1 {c : Nat → List AV → SS → Option Out} {l0 : Option AV} {j t : Nat} {L2 : List (Nat × AV)} {St : List AV} {S : SS} : ev c 218 1 [l0] L2 (aR (12, j, t) :: St) S = ev c 218 4 [l0] L2 (aI (S.1 (12, j, t) 7) :: St) S := ev_go i218_1 rfl
theorem i218_4 : insAt 218 4 = some (.ireturn, 1, (0, 0, 0, 0), 0) := rfl
theorem s218_4 {c : Nat → List AV → SS → Option Out} {l0 : Option AV} {x : Int32} {L2 : List (Nat × AV)} {St : List AV} {S : SS} : ev c 218 4 [l0] L2 [aI x] S = some (.inl (some (aI x)), S) := ev_end i218_4 rfl
theorem m218 {d : Nat} {o : OId} {S : SS} : evm (d + 1) 218 [aR o] S = ev (evm d) 218 0 [some (aR o)] [] [] S := evm_s (n := 1) rfl (Nat.le_of_ble_eq_true rfl) rfl rfl
/-! FrequencyOfficeModel.setRadii(III)I -/
theorem i219_0 : insAt 219 0 = some (.aload_n 0, 1, (0, 0, 0, 0), 0) := rfl
theorem s219_0 {c : Nat → List AV → SS → Option Out} {l1 l2 l3 l4 : Option AV} {o : OId} {L2 : List (Nat × AV)} {St : List AV} {S : SS} : ev c 219 0 [some (aR o), l1, l2, l3, l4] L2 St S = ev c 219 1 [some (aR o), l1, l2, l3, l4] L2 (aR o :: St) S := ev_go i219_0 rfl
theorem i219_1 : insAt 219 1 = some (.iload_n 1, 1, (0, 0, 0, 0), 0) := rfl
theorem s219_1 {c : Nat → List AV → SS → Option Out} {l0 l2 l3 l4 : Option AV} {x : Int32} {L2 : List (Nat × AV)} {St : List AV} {S : SS} : ev c 219 1 [l0, some (aI x), l2, l3, l4] L2 St S = ev c 219 2 [l0, some (aI x), l2, l3, l4] L2 (aI x :: St) S := ev_go i219_1 rfl
theorem i219_2 : insAt 219 2 = some (.ifCond .lt 20, 3, (0, 0, 0, 0), 0) := rfl
theorem s219_2 {c : Nat → List AV → SS → Option Out} {l0 l1 l2 l3 l4 : Option AV} {x : Int32} {L2 : List (Nat × AV)} {St : List AV} {S : SS} : ev c 219 2 [l0, l1, l2, l3, l4] L2 (aI x :: St) S = if x < 0 then ev c 219 22 [l0, l1, l2, l3, l4] L2 St S else ev c 219 5 [l0, l1, l2, l3, l4] L2 St S := ev_br i219_2 rfl
theorem i219_5 : insAt 219 5 = some (.iload_n 2, 1, (0, 0, 0, 0), 0) := rfl
theorem s219_5 {c : Nat → List AV → SS → Option Out} {l0 l1 l3 l4 : Option AV} {x : Int32} {L2 : List (Nat × AV)} {St : List AV} {S : SS} : ev c 219 5 [l0, l1, some (aI x), l3, l4] L2 St S = ev c 219 6 [l0, l1, some (aI x), l3, l4] L2 (aI x :: St) S := ev_go i219_5 rfl
theorem i219_6 : insAt 219 6 = some (.iload_n 1, 1, (0, 0, 0, 0), 0) := rfl
theorem s219_6 {c : Nat → List AV → SS → Option Out} {l0 l2 l3 l4 : Option AV} {x : Int32} {L2 : List (Nat × AV)} {St : List AV} {S : SS} : ev c 219 6 [l0, some (aI x), l2, l3, l4] L2 St S = ev c 219 7 [l0, some (aI x), l2, l3, l4] L2 (aI x :: St) S := ev_go i219_6 rfl
theorem i219_7 : insAt 219 7 = some (.if_icmp .lt 15, 3, (0, 0, 0, 0), 0) := rfl
theorem s219_7 {c : Nat → List AV → SS → Option Out} {l0 l1 l2 l3 l4 : Option AV} {x y : Int32} {L2 : List (Nat × AV)} {St : List AV} {S : SS} : ev c 219 7 [l0, l1, l2, l3, l4] L2 (aI y :: aI x :: St) S = if x < y then ev c 219 22 [l0, l1, l2, l3, l4] L2 St S else ev c 219 10 [l0, l1, l2, l3, l4] L2 St S := ev_br i219_7 rfl
theorem i219_10 : insAt 219 10 = some (.iload_n 3, 1, (0, 0, 0, 0), 0) := rfl
theorem s219_10 {c : Nat → List AV → SS → Option Out} {l0 l1 l2 l4 : Option AV} {x : Int32} {L2 : List (Nat × AV)} {St : List AV} {S : SS} : ev c 219 10 [l0, l1, l2, some (aI x), l4] L2 St S = ev c 219 11 [l0, l1, l2, some (aI x), l4] L2 (aI x :: St) S := ev_go i219_10 rfl
theorem i219_11 : insAt 219 11 = some (.iload_n 2, 1, (0, 0, 0, 0), 0) := rfl
theorem s219_11 {c : Nat → List AV → SS → Option Out} {l0 l1 l3 l4 : Option AV} {x : Int32} {L2 : List (Nat × AV)} {St : List AV} {S : SS} : ev c 219 11 [l0, l1, some (aI x), l3, l4] L2 St S = ev c 219 12 [l0, l1, some (aI x), l3, l4] L2 (aI x :: St) S := ev_go i219_11 rfl
theorem i219_12 : insAt 219 12 = some (.if_icmp .lt 10, 3, (0, 0, 0, 0), 0) := rfl
theorem s219_12 {c : Nat → List AV → SS → Option Out} {l0 l1 l2 l3 l4 : Option AV} {x y : Int32} {L2 : List (Nat × AV)} {St : List AV} {S : SS} : ev c 219 12 [l0, l1, l2, l3, l4] L2 (aI y :: aI x :: St) S = if x < y then ev c 219 22 [l0, l1, l2, l3, l4] L2 St S else ev c 219 15 [l0, l1, l2, l3, l4] L2 St S := ev_br i219_12 rfl
theorem i219_15 : insAt 219 15 = some (.iload_n 3, 1, (0, 0, 0, 0), 0) := rfl
theorem s219_15 {c : Nat → List AV → SS → Option Out} {l0 l1 l2 l4 : Option AV} {x : Int32} {L2 : List (Nat × AV)} {St : List AV} {S : SS} : ev c 219 15 [l0, l1, l2, some (aI x), l4] L2 St S = ev c 219 16 [l0, l1, l2, some (aI x), l4] L2 (aI x :: St) S := ev_go i219_15 rfl
theorem i219_16 : insAt 219 16 = some (.sipush 200, 3, (0, 0, 0, 0), 0) := rfl
theorem s219_16 {c : Nat → List AV → SS → Option Out} {l0 l1 l2 l3 l4 : Option AV} {L2 : List (Nat × AV)} {St : List AV} {S : SS} : ev c 219 16 [l0, l1, l2, l3, l4] L2 St S = ev c 219 19 [l0, l1, l2, l3, l4] L2 (aI 200 :: St) S := ev_go i219_16 rfl
theorem i219_19 : insAt 219 19 = some (.if_icmp .le 7, 3, (0, 0, 0, 0), 0) := rfl
theorem s219_19 {c : Nat → List AV → SS → Option Out} {l0 l1 l2 l3 l4 : Option AV} {x y : Int32} {L2 : List (Nat × AV)} {St : List AV} {S : SS} : ev c 219 19 [l0, l1, l2, l3, l4] L2 (aI y :: aI x :: St) S = if x ≤ y then ev c 219 26 [l0, l1, l2, l3, l4] L2 St S else ev c 219 22 [l0, l1, l2, l3, l4] L2 St S := ev_br i219_19 rfl
theorem i219_22 : insAt 219 22 = some (.iconst 1, 1, (0, 0, 0, 0), 0) := rfl
theorem s219_22 {c : Nat → List AV → SS → Option Out} {l0 l1 l2 l3 l4 : Option AV} {L2 : List (Nat × AV)} {St : List AV} {S : SS} : ev c 219 22 [l0, l1, l2, l3, l4] L2 St S = ev c 219 23 [l0, l1, l2, l3, l4] L2 (aI 1 :: St) S := ev_go i219_22 rfl
theorem i219_23 : insAt 219 23 = some (.goto 18, 3, (0, 0, 0, 0), 0) := rfl
theorem s219_23 {c : Nat → List AV → SS → Option Out} {l0 l1 l2 l3 l4 : Option AV} {L2 : List (Nat × AV)} {St : List AV} {S : SS} : ev c 219 23 [l0, l1, l2, l3, l4] L2 St S = ev c 219 41 [l0, l1, l2, l3, l4] L2 St S := ev_go i219_23 rfl
theorem i219_26 : insAt 219 26 = some (.aload_n 0, 1, (0, 0, 0, 0), 0) := rfl
theorem s219_26 {c : Nat → List AV → SS → Option Out} {l1 l2 l3 l4 : Option AV} {o : OId} {L2 : List (Nat × AV)} {St : List AV} {S : SS} : ev c 219 26 [some (aR o), l1, l2, l3, l4] L2 St S = ev c 219 27 [some (aR o), l1, l2, l3, l4] L2 (aR o :: St) S := ev_go i219_26 rfl
theorem i219_27 : insAt 219 27 = some (.getfield 7, 3, (12, 0, 0, 0), 0) := rfl
theorem s219_27 {c : Nat → List AV → SS → Option Out} {l0 l1 l2 l3 l4 : Option AV} {j t : Nat} {L2 : List (Nat × AV)} {St : List AV} {S : SS} : ev c 219 27 [l0, l1, l2, l3, l4] L2 (aR (12, j, t) :: St) S = ev c 219 30 [l0, l1, l2, l3, l4] L2 (S.2.2.1 (12, j, t) 0 :: St) S := ev_go i219_27 rfl
theorem i219_30 : insAt 219 30 = some (.bipush 7, 2, (0, 0, 0, 0), 0) := rfl
theorem s219_30 {c : Nat → List AV → SS → Option Out} {l0 l1 l2 l3 l4 : Option AV} {L2 : List (Nat × AV)} {St : List AV} {S : SS} : ev c 219 30 [l0, l1, l2, l3, l4] L2 St S = ev c 219 32 [l0, l1, l2, l3, l4] L2 (aI 7 :: St) S := ev_go i219_30 rfl
theorem i219_32 : insAt 219 32 = some (.iaload, 1, (0, 0, 0, 0), 0) := rfl
theorem s219_32 {c : Nat → List AV → SS → Option Out} {l0 l1 l2 l3 l4 : Option AV} {i : Int32} {o : OId} {L2 : List (Nat × AV)} {St : List AV} {S : SS} : ev c 219 32 [l0, l1, l2, l3, l4] L2 (aI i :: aR o :: St) S = kI o i (ev c 219 33 [l0, l1, l2, l3, l4] L2 (aI (agI S o i.toNatClampNeg) :: St) S) := ev_iaload i219_32
theorem i219_33 : insAt 219 33 = some (.ifCond .le 7, 3, (0, 0, 0, 0), 0) := rfl
theorem s219_33 {c : Nat → List AV → SS → Option Out} {l0 l1 l2 l3 l4 : Option AV} {x : Int32} {L2 : List (Nat × AV)} {St : List AV} {S : SS} : ev c 219 33 [l0, l1, l2, l3, l4] L2 (aI x :: St) S = if x ≤ 0 then ev c 219 40 [l0, l1, l2, l3, l4] L2 St S else ev c 219 36 [l0, l1, l2, l3, l4] L2 St S := ev_br i219_33 rfl
theorem i219_36 : insAt 219 36 = some (.iconst 2, 1, (0, 0, 0, 0), 0) := rfl
theorem s219_36 {c : Nat → List AV → SS → Option Out} {l0 l1 l2 l3 l4 : Option AV} {L2 : List (Nat × AV)} {St : List AV} {S : SS} : ev c 219 36 [l0, l1, l2, l3, l4] L2 St S = ev c 219 37 [l0, l1, l2, l3, l4] L2 (aI 2 :: St) S := ev_go i219_36 rfl
theorem i219_37 : insAt 219 37 = some (.goto 4, 3, (0, 0, 0, 0), 0) := rfl
theorem s219_37 {c : Nat → List AV → SS → Option Out} {l0 l1 l2 l3 l4 : Option AV} {L2 : List (Nat × AV)} {St : List AV} {S : SS} : ev c 219 37 [l0, l1, l2, l3, l4] L2 St S = ev c 219 41 [l0, l1, l2, l3, l4] L2 St S := ev_go i219_37 rfl
theorem i219_40 : insAt 219 40 = some (.iconst 0, 1, (0, 0, 0, 0), 0) := rfl
theorem s219_40 {c : Nat → List AV → SS → Option Out} {l0 l1 l2 l3 l4 : Option AV} {L2 : List (Nat × AV)} {St : List AV} {S : SS} : ev c 219 40 [l0, l1, l2, l3, l4] L2 St S = ev c 219 41 [l0, l1, l2, l3, l4] L2 (aI 0 :: St) S := ev_go i219_40 rfl
theorem i219_41 : insAt 219 41 = some (.putfield 31, 3, (12, 7, 0, 0), 0) := rfl
theorem s219_41 {c : Nat → List AV → SS → Option Out} {l0 l1 l2 l3 l4 : Option AV} {j t : Nat} {x : Int32} {L2 : List (Nat × AV)} {St : List AV} {S : SS} : ev c 219 41 [l0, l1, l2, l3, l4] L2 (aI x :: aR (12, j, t) :: St) S = ev c 219 44 [l0, l1, l2, l3, l4] L2 St (setI S.1 (12, j, t) 7 x, S.2) := ev_go i219_41 rfl
theorem i219_44 : insAt 219 44 = some (.aload_n 0, 1, (0, 0, 0, 0), 0) := rfl
theorem s219_44 {c : Nat → List AV → SS → Option Out} {l1 l2 l3 l4 : Option AV} {o : OId} {L2 : List (Nat × AV)} {St : List AV} {S : SS} : ev c 219 44 [some (aR o), l1, l2, l3, l4] L2 St S = ev c 219 45 [some (aR o), l1, l2, l3, l4] L2 (aR o :: St) S := ev_go i219_44 rfl
theorem i219_45 : insAt 219 45 = some (.getfield 31, 3, (12, 7, 0, 0), 0) := rfl
theorem s219_45 {c : Nat → List AV → SS → Option Out} {l0 l1 l2 l3 l4 : Option AV} {j t : Nat} {L2 : List (Nat × AV)} {St : List AV} {S : SS} : ev c 219 45 [l0, l1, l2, l3, l4] L2 (aR (12, j, t) :: St) S = ev c 219 48 [l0, l1, l2, l3, l4] L2 (aI (S.1 (12, j, t) 7) :: St) S := ev_go i219_45 rfl
theorem i219_48 : insAt 219 48 = some (.ifCond .le 5, 3, (0, 0, 0, 0), 0) := rfl
theorem s219_48 {c : Nat → List AV → SS → Option Out} {l0 l1 l2 l3 l4 : Option AV} {x : Int32} {L2 : List (Nat × AV)} {St : List AV} {S : SS} : ev c 219 48 [l0, l1, l2, l3, l4] L2 (aI x :: St) S = if x ≤ 0 then ev c 219 53 [l0, l1, l2, l3, l4] L2 St S else ev c 219 51 [l0, l1, l2, l3, l4] L2 St S := ev_br i219_48 rfl
theorem i219_51 : insAt 219 51 = some (.iconst 0, 1, (0, 0, 0, 0), 0) := rfl
theorem s219_51 {c : Nat → List AV → SS → Option Out} {l0 l1 l2 l3 l4 : Option AV} {L2 : List (Nat × AV)} {St : List AV} {S : SS} : ev c 219 51 [l0, l1, l2, l3, l4] L2 St S = ev c 219 52 [l0, l1, l2, l3, l4] L2 (aI 0 :: St) S := ev_go i219_51 rfl
theorem i219_52 : insAt 219 52 = some (.ireturn, 1, (0, 0, 0, 0), 0) := rfl
theorem s219_52 {c : Nat → List AV → SS → Option Out} {l0 l1 l2 l3 l4 : Option AV} {x : Int32} {L2 : List (Nat × AV)} {St : List AV} {S : SS} : ev c 219 52 [l0, l1, l2, l3, l4] L2 [aI x] S = some (.inl (some (aI x)), S) := ev_end i219_52 rfl
theorem i219_53 : insAt 219 53 = some (.aload_n 0, 1, (0, 0, 0, 0), 0) := rfl
theorem s219_53 {c : Nat → List AV → SS → Option Out} {l1 l2 l3 l4 : Option AV} {o : OId} {L2 : List (Nat × AV)} {St : List AV} {S : SS} : ev c 219 53 [some (aR o), l1, l2, l3, l4] L2 St S = ev c 219 54 [some (aR o), l1, l2, l3, l4] L2 (aR o :: St) S := ev_go i219_53 rfl
theorem i219_54 : insAt 219 54 = some (.invokevirtual 86, 3, (220, 0, 2, 12), 0) := rfl
theorem s219_54 {c : Nat → List AV → SS → Option Out} {l0 l1 l2 l3 l4 : Option AV} {j t : Nat} {L2 : List (Nat × AV)} {S : SS} : ev c 219 54 [l0, l1, l2, l3, l4] L2 [aR (12, j, t)] S = ck (c 220 [aR (12, j, t)] S) (fun v S' => ev c 219 57 [l0, l1, l2, l3, l4] L2 (v.toList ++ []) S') := ev_call i219_54 rfl
theorem i219_57 : insAt 219 57 = some (.aload_n 0, 1, (0, 0, 0, 0), 0) := rfl
theorem s219_57 {c : Nat → List AV → SS → Option Out} {l1 l2 l3 l4 : Option AV} {o : OId} {L2 : List (Nat × AV)} {St : List AV} {S : SS} : ev c 219 57 [some (aR o), l1, l2, l3, l4] L2 St S = ev c 219 58 [some (aR o), l1, l2, l3, l4] L2 (aR o :: St) S := ev_go i219_57 rfl
theorem i219_58 : insAt 219 58 = some (.getfield 7, 3, (12, 0, 0, 0), 0) := rfl
theorem s219_58 {c : Nat → List AV → SS → Option Out} {l0 l1 l2 l3 l4 : Option AV} {j t : Nat} {L2 : List (Nat × AV)} {St : List AV} {S : SS} : ev c 219 58 [l0, l1, l2, l3, l4] L2 (aR (12, j, t) :: St) S = ev c 219 61 [l0, l1, l2, l3, l4] L2 (S.2.2.1 (12, j, t) 0 :: St) S := ev_go i219_58 rfl
theorem i219_61 : insAt 219 61 = some (.iconst 2, 1, (0, 0, 0, 0), 0) := rfl
theorem s219_61 {c : Nat → List AV → SS → Option Out} {l0 l1 l2 l3 l4 : Option AV} {L2 : List (Nat × AV)} {St : List AV} {S : SS} : ev c 219 61 [l0, l1, l2, l3, l4] L2 St S = ev c 219 62 [l0, l1, l2, l3, l4] L2 (aI 2 :: St) S := ev_go i219_61 rfl
theorem i219_62 : insAt 219 62 = some (.iaload, 1, (0, 0, 0, 0), 0) := rfl
theorem s219_62 {c : Nat → List AV → SS → Option Out} {l0 l1 l2 l3 l4 : Option AV} {i : Int32} {o : OId} {L2 : List (Nat × AV)} {St : List AV} {S : SS} : ev c 219 62 [l0, l1, l2, l3, l4] L2 (aI i :: aR o :: St) S = kI o i (ev c 219 63 [l0, l1, l2, l3, l4] L2 (aI (agI S o i.toNatClampNeg) :: St) S) := ev_iaload i219_62
theorem i219_63 : insAt 219 63 = some (.istore 4, 2, (0, 0, 0, 0), 0) := rfl
theorem s219_63 {c : Nat → List AV → SS → Option Out} {l0 l1 l2 l3 l4 : Option AV} {x : Int32} {L2 : List (Nat × AV)} {St : List AV} {S : SS} : ev c 219 63 [l0, l1, l2, l3, l4] L2 (aI x :: St) S = ev c 219 65 [l0, l1, l2, l3, some (aI x)] (kil L2 4) St S := ev_go i219_63 rfl
theorem i219_65 : insAt 219 65 = some (.aload_n 0, 1, (0, 0, 0, 0), 0) := rfl
theorem s219_65 {c : Nat → List AV → SS → Option Out} {l1 l2 l3 l4 : Option AV} {o : OId} {L2 : List (Nat × AV)} {St : List AV} {S : SS} : ev c 219 65 [some (aR o), l1, l2, l3, l4] L2 St S = ev c 219 66 [some (aR o), l1, l2, l3, l4] L2 (aR o :: St) S := ev_go i219_65 rfl
theorem i219_66 : insAt 219 66 = some (.getfield 7, 3, (12, 0, 0, 0), 0) := rfl
theorem s219_66 {c : Nat → List AV → SS → Option Out} {l0 l1 l2 l3 l4 : Option AV} {j t : Nat} {L2 : List (Nat × AV)} {St : List AV} {S : SS} : ev c 219 66 [l0, l1, l2, l3, l4] L2 (aR (12, j, t) :: St) S = ev c 219 69 [l0, l1, l2, l3, l4] L2 (S.2.2.1 (12, j, t) 0 :: St) S := ev_go i219_66 rfl
theorem i219_69 : insAt 219 69 = some (.iconst 0, 1, (0, 0, 0, 0), 0) := rfl
theorem s219_69 {c : Nat → List AV → SS → Option Out} {l0 l1 l2 l3 l4 : Option AV} {L2 : List (Nat × AV)} {St : List AV} {S : SS} : ev c 219 69 [l0, l1, l2, l3, l4] L2 St S = ev c 219 70 [l0, l1, l2, l3, l4] L2 (aI 0 :: St) S := ev_go i219_69 rfl
theorem i219_70 : insAt 219 70 = some (.iload_n 1, 1, (0, 0, 0, 0), 0) := rfl
theorem s219_70 {c : Nat → List AV → SS → Option Out} {l0 l2 l3 l4 : Option AV} {x : Int32} {L2 : List (Nat × AV)} {St : List AV} {S : SS} : ev c 219 70 [l0, some (aI x), l2, l3, l4] L2 St S = ev c 219 71 [l0, some (aI x), l2, l3, l4] L2 (aI x :: St) S := ev_go i219_70 rfl
theorem i219_71 : insAt 219 71 = some (.iastore, 1, (0, 0, 0, 0), 0) := rfl
theorem s219_71 {c : Nat → List AV → SS → Option Out} {l0 l1 l2 l3 l4 : Option AV} {x i : Int32} {o : OId} {L2 : List (Nat × AV)} {St : List AV} {S : SS} : ev c 219 71 [l0, l1, l2, l3, l4] L2 (aI x :: aI i :: aR o :: St) S = kIw o i (ev c 219 72 [l0, l1, l2, l3, l4] L2 St (setI S.1 o i.toNatClampNeg x, S.2)) := ev_iastore i219_71
theorem i219_72 : insAt 219 72 = some (.aload_n 0, 1, (0, 0, 0, 0), 0) := rfl
theorem s219_72 {c : Nat → List AV → SS → Option Out} {l1 l2 l3 l4 : Option AV} {o : OId} {L2 : List (Nat × AV)} {St : List AV} {S : SS} : ev c 219 72 [some (aR o), l1, l2, l3, l4] L2 St S = ev c 219 73 [some (aR o), l1, l2, l3, l4] L2 (aR o :: St) S := ev_go i219_72 rfl
theorem i219_73 : insAt 219 73 = some (.getfield 7, 3, (12, 0, 0, 0), 0) := rfl
theorem s219_73 {c : Nat → List AV → SS → Option Out} {l0 l1 l2 l3 l4 : Option AV} {j t : Nat} {L2 : List (Nat × AV)} {St : List AV} {S : SS} : ev c 219 73 [l0, l1, l2, l3, l4] L2 (aR (12, j, t) :: St) S = ev c 219 76 [l0, l1, l2, l3, l4] L2 (S.2.2.1 (12, j, t) 0 :: St) S := ev_go i219_73 rfl
theorem i219_76 : insAt 219 76 = some (.iconst 1, 1, (0, 0, 0, 0), 0) := rfl
theorem s219_76 {c : Nat → List AV → SS → Option Out} {l0 l1 l2 l3 l4 : Option AV} {L2 : List (Nat × AV)} {St : List AV} {S : SS} : ev c 219 76 [l0, l1, l2, l3, l4] L2 St S = ev c 219 77 [l0, l1, l2, l3, l4] L2 (aI 1 :: St) S := ev_go i219_76 rfl
theorem i219_77 : insAt 219 77 = some (.iload_n 2, 1, (0, 0, 0, 0), 0) := rfl
theorem s219_77 {c : Nat → List AV → SS → Option Out} {l0 l1 l3 l4 : Option AV} {x : Int32} {L2 : List (Nat × AV)} {St : List AV} {S : SS} : ev c 219 77 [l0, l1, some (aI x), l3, l4] L2 St S = ev c 219 78 [l0, l1, some (aI x), l3, l4] L2 (aI x :: St) S := ev_go i219_77 rfl
theorem i219_78 : insAt 219 78 = some (.iastore, 1, (0, 0, 0, 0), 0) := rfl
theorem s219_78 {c : Nat → List AV → SS → Option Out} {l0 l1 l2 l3 l4 : Option AV} {x i : Int32} {o : OId} {L2 : List (Nat × AV)} {St : List AV} {S : SS} : ev c 219 78 [l0, l1, l2, l3, l4] L2 (aI x :: aI i :: aR o :: St) S = kIw o i (ev c 219 79 [l0, l1, l2, l3, l4] L2 St (setI S.1 o i.toNatClampNeg x, S.2)) := ev_iastore i219_78
theorem i219_79 : insAt 219 79 = some (.aload_n 0, 1, (0, 0, 0, 0), 0) := rfl
theorem s219_79 {c : Nat → List AV → SS → Option Out} {l1 l2 l3 l4 : Option AV} {o : OId} {L2 : List (Nat × AV)} {St : List AV} {S : SS} : ev c 219 79 [some (aR o), l1, l2, l3, l4] L2 St S = ev c 219 80 [some (aR o), l1, l2, l3, l4] L2 (aR o :: St) S := ev_go i219_79 rfl
theorem i219_80 : insAt 219 80 = some (.getfield 7, 3, (12, 0, 0, 0), 0) := rfl
theorem s219_80 {c : Nat → List AV → SS → Option Out} {l0 l1 l2 l3 l4 : Option AV} {j t : Nat} {L2 : List (Nat × AV)} {St : List AV} {S : SS} : ev c 219 80 [l0, l1, l2, l3, l4] L2 (aR (12, j, t) :: St) S = ev c 219 83 [l0, l1, l2, l3, l4] L2 (S.2.2.1 (12, j, t) 0 :: St) S := ev_go i219_80 rfl
theorem i219_83 : insAt 219 83 = some (.iconst 2, 1, (0, 0, 0, 0), 0) := rfl
theorem s219_83 {c : Nat → List AV → SS → Option Out} {l0 l1 l2 l3 l4 : Option AV} {L2 : List (Nat × AV)} {St : List AV} {S : SS} : ev c 219 83 [l0, l1, l2, l3, l4] L2 St S = ev c 219 84 [l0, l1, l2, l3, l4] L2 (aI 2 :: St) S := ev_go i219_83 rfl
theorem i219_84 : insAt 219 84 = some (.iload_n 3, 1, (0, 0, 0, 0), 0) := rfl
theorem s219_84 {c : Nat → List AV → SS → Option Out} {l0 l1 l2 l4 : Option AV} {x : Int32} {L2 : List (Nat × AV)} {St : List AV} {S : SS} : ev c 219 84 [l0, l1, l2, some (aI x), l4] L2 St S = ev c 219 85 [l0, l1, l2, some (aI x), l4] L2 (aI x :: St) S := ev_go i219_84 rfl
theorem i219_85 : insAt 219 85 = some (.iastore, 1, (0, 0, 0, 0), 0) := rfl
theorem s219_85 {c : Nat → List AV → SS → Option Out} {l0 l1 l2 l3 l4 : Option AV} {x i : Int32} {o : OId} {L2 : List (Nat × AV)} {St : List AV} {S : SS} : ev c 219 85 [l0, l1, l2, l3, l4] L2 (aI x :: aI i :: aR o :: St) S = kIw o i (ev c 219 86 [l0, l1, l2, l3, l4] L2 St (setI S.1 o i.toNatClampNeg x, S.2)) := ev_iastore i219_85
theorem i219_86 : insAt 219 86 = some (.iload 4, 2, (0, 0, 0, 0), 0) := rfl
theorem s219_86 {c : Nat → List AV → SS → Option Out} {l0 l1 l2 l3 : Option AV} {x : Int32} {L2 : List (Nat × AV)} {St : List AV} {S : SS} : ev c 219 86 [l0, l1, l2, l3, some (aI x)] L2 St S = ev c 219 88 [l0, l1, l2, l3, some (aI x)] L2 (aI x :: St) S := ev_go i219_86 rfl
theorem i219_88 : insAt 219 88 = some (.ireturn, 1, (0, 0, 0, 0), 0) := rfl
theorem s219_88 {c : Nat → List AV → SS → Option Out} {l0 l1 l2 l3 l4 : Option AV} {x : Int32} {L2 : List (Nat × AV)} {St : List AV} {S : SS} : ev c 219 88 [l0, l1, l2, l3, l4] L2 [aI x] S = some (.inl (some (aI x)), S) := ev_end i219_88 rfl
theorem m219 {d : Nat} {o : OId} {a0 : Int32} {a1 : Int32} {a2 : Int32} {S : SS} : evm (d + 1) 219 [aR o, aI a0, aI a1, aI a2] S = ev (evm d) 219 0 [some (aR o), some (aI a0), some (aI a1), some (aI a2), none] [] [] S := evm_s (n := 5) rfl (Nat.le_of_ble_eq_true rfl) rfl rfl
/-! FrequencyOfficeModel.keeps()V -/
theorem i220_0 : insAt 220 0 = some (.aload_n 0, 1, (0, 0, 0, 0), 0) := rfl
theorem s220_0 {c : Nat → List AV → SS → Option Out} {l1 : Option AV} {o : OId} {L2 : List (Nat × AV)} {St : List AV} {S : SS} : ev c 220 0 [some (aR o), l1] L2 St S = ev c 220 1 [some (aR o), l1] L2 (aR o :: St) S := ev_go i220_0 rfl
theorem i220_1 : insAt 220 1 = some (.getfield 35, 3, (12, 8, 0, 0), 0) := rfl
theorem s220_1 {c : Nat → List AV → SS → Option Out} {l0 l1 : Option AV} {j t : Nat} {L2 : List (Nat × AV)} {St : List AV} {S : SS} : ev c 220 1 [l0, l1] L2 (aR (12, j, t) :: St) S = ev c 220 4 [l0, l1] L2 (aI (S.1 (12, j, t) 8) :: St) S := ev_go i220_1 rfl
theorem i220_4 : insAt 220 4 = some (.bipush 6, 2, (0, 0, 0, 0), 0) := rfl
theorem s220_4 {c : Nat → List AV → SS → Option Out} {l0 l1 : Option AV} {L2 : List (Nat × AV)} {St : List AV} {S : SS} : ev c 220 4 [l0, l1] L2 St S = ev c 220 6 [l0, l1] L2 (aI 6 :: St) S := ev_go i220_4 rfl
theorem i220_6 : insAt 220 6 = some (.if_icmp .ne 43, 3, (0, 0, 0, 0), 0) := rfl
theorem s220_6 {c : Nat → List AV → SS → Option Out} {l0 l1 : Option AV} {x y : Int32} {L2 : List (Nat × AV)} {St : List AV} {S : SS} : ev c 220 6 [l0, l1] L2 (aI y :: aI x :: St) S = if x = y then ev c 220 9 [l0, l1] L2 St S else ev c 220 49 [l0, l1] L2 St S := (ev_br i220_6 rfl).trans (ite_not _ _ _)
theorem i220_9 : insAt 220 9 = some (.iconst 0, 1, (0, 0, 0, 0), 0) := rfl
theorem s220_9 {c : Nat → List AV → SS → Option Out} {l0 l1 : Option AV} {L2 : List (Nat × AV)} {St : List AV} {S : SS} : ev c 220 9 [l0, l1] L2 St S = ev c 220 10 [l0, l1] L2 (aI 0 :: St) S := ev_go i220_9 rfl
theorem i220_10 : insAt 220 10 = some (.istore_n 1, 1, (0, 0, 0, 0), 0) := rfl
theorem s220_10 {c : Nat → List AV → SS → Option Out} {l0 l1 : Option AV} {x : Int32} {L2 : List (Nat × AV)} {St : List AV} {S : SS} : ev c 220 10 [l0, l1] L2 (aI x :: St) S = ev c 220 11 [l0, some (aI x)] (kil L2 1) St S := ev_go i220_10 rfl
theorem i220_11 : insAt 220 11 = some (.iload_n 1, 1, (0, 0, 0, 0), 0) := rfl
theorem s220_11 {c : Nat → List AV → SS → Option Out} {l0 : Option AV} {x : Int32} {L2 : List (Nat × AV)} {St : List AV} {S : SS} : ev c 220 11 [l0, some (aI x)] L2 St S = ev c 220 12 [l0, some (aI x)] L2 (aI x :: St) S := ev_go i220_11 rfl
theorem i220_12 : insAt 220 12 = some (.sipush 530, 3, (0, 0, 0, 0), 0) := rfl
theorem s220_12 {c : Nat → List AV → SS → Option Out} {l0 l1 : Option AV} {L2 : List (Nat × AV)} {St : List AV} {S : SS} : ev c 220 12 [l0, l1] L2 St S = ev c 220 15 [l0, l1] L2 (aI 530 :: St) S := ev_go i220_12 rfl
theorem i220_15 : insAt 220 15 = some (.if_icmp .ge 24, 3, (0, 0, 0, 0), 0) := rfl
theorem s220_15 {c : Nat → List AV → SS → Option Out} {l0 l1 : Option AV} {x y : Int32} {L2 : List (Nat × AV)} {St : List AV} {S : SS} : ev c 220 15 [l0, l1] L2 (aI y :: aI x :: St) S = if y ≤ x then ev c 220 39 [l0, l1] L2 St S else ev c 220 18 [l0, l1] L2 St S := ev_br i220_15 rfl
theorem i220_18 : insAt 220 18 = some (.aload_n 0, 1, (0, 0, 0, 0), 0) := rfl
theorem s220_18 {c : Nat → List AV → SS → Option Out} {l1 : Option AV} {o : OId} {L2 : List (Nat × AV)} {St : List AV} {S : SS} : ev c 220 18 [some (aR o), l1] L2 St S = ev c 220 19 [some (aR o), l1] L2 (aR o :: St) S := ev_go i220_18 rfl
theorem i220_19 : insAt 220 19 = some (.getfield 16, 3, (12, 2, 0, 0), 0) := rfl
theorem s220_19 {c : Nat → List AV → SS → Option Out} {l0 l1 : Option AV} {j t : Nat} {L2 : List (Nat × AV)} {St : List AV} {S : SS} : ev c 220 19 [l0, l1] L2 (aR (12, j, t) :: St) S = ev c 220 22 [l0, l1] L2 (S.2.2.1 (12, j, t) 2 :: St) S := ev_go i220_19 rfl
theorem i220_22 : insAt 220 22 = some (.iload_n 1, 1, (0, 0, 0, 0), 0) := rfl
theorem s220_22 {c : Nat → List AV → SS → Option Out} {l0 : Option AV} {x : Int32} {L2 : List (Nat × AV)} {St : List AV} {S : SS} : ev c 220 22 [l0, some (aI x)] L2 St S = ev c 220 23 [l0, some (aI x)] L2 (aI x :: St) S := ev_go i220_22 rfl
theorem i220_23 : insAt 220 23 = some (.aload_n 0, 1, (0, 0, 0, 0), 0) := rfl
theorem s220_23 {c : Nat → List AV → SS → Option Out} {l1 : Option AV} {o : OId} {L2 : List (Nat × AV)} {St : List AV} {S : SS} : ev c 220 23 [some (aR o), l1] L2 St S = ev c 220 24 [some (aR o), l1] L2 (aR o :: St) S := ev_go i220_23 rfl
theorem i220_24 : insAt 220 24 = some (.getfield 16, 3, (12, 2, 0, 0), 0) := rfl
theorem s220_24 {c : Nat → List AV → SS → Option Out} {l0 l1 : Option AV} {j t : Nat} {L2 : List (Nat × AV)} {St : List AV} {S : SS} : ev c 220 24 [l0, l1] L2 (aR (12, j, t) :: St) S = ev c 220 27 [l0, l1] L2 (S.2.2.1 (12, j, t) 2 :: St) S := ev_go i220_24 rfl
theorem i220_27 : insAt 220 27 = some (.iload_n 1, 1, (0, 0, 0, 0), 0) := rfl
theorem s220_27 {c : Nat → List AV → SS → Option Out} {l0 : Option AV} {x : Int32} {L2 : List (Nat × AV)} {St : List AV} {S : SS} : ev c 220 27 [l0, some (aI x)] L2 St S = ev c 220 28 [l0, some (aI x)] L2 (aI x :: St) S := ev_go i220_27 rfl
theorem i220_28 : insAt 220 28 = some (.bipush 106, 2, (0, 0, 0, 0), 0) := rfl
theorem s220_28 {c : Nat → List AV → SS → Option Out} {l0 l1 : Option AV} {L2 : List (Nat × AV)} {St : List AV} {S : SS} : ev c 220 28 [l0, l1] L2 St S = ev c 220 30 [l0, l1] L2 (aI 106 :: St) S := ev_go i220_28 rfl
theorem i220_30 : insAt 220 30 = some (.iadd, 1, (0, 0, 0, 0), 0) := rfl
theorem s220_30 {c : Nat → List AV → SS → Option Out} {l0 l1 : Option AV} {x y : Int32} {L2 : List (Nat × AV)} {St : List AV} {S : SS} : ev c 220 30 [l0, l1] L2 (aI y :: aI x :: St) S = ev c 220 31 [l0, l1] L2 (aI (x + y) :: St) S := ev_go i220_30 rfl
theorem i220_31 : insAt 220 31 = some (.iaload, 1, (0, 0, 0, 0), 0) := rfl
theorem s220_31 {c : Nat → List AV → SS → Option Out} {l0 l1 : Option AV} {i : Int32} {o : OId} {L2 : List (Nat × AV)} {St : List AV} {S : SS} : ev c 220 31 [l0, l1] L2 (aI i :: aR o :: St) S = kI o i (ev c 220 32 [l0, l1] L2 (aI (agI S o i.toNatClampNeg) :: St) S) := ev_iaload i220_31
theorem i220_32 : insAt 220 32 = some (.iastore, 1, (0, 0, 0, 0), 0) := rfl
theorem s220_32 {c : Nat → List AV → SS → Option Out} {l0 l1 : Option AV} {x i : Int32} {o : OId} {L2 : List (Nat × AV)} {St : List AV} {S : SS} : ev c 220 32 [l0, l1] L2 (aI x :: aI i :: aR o :: St) S = kIw o i (ev c 220 33 [l0, l1] L2 St (setI S.1 o i.toNatClampNeg x, S.2)) := ev_iastore i220_32
theorem i220_33 : insAt 220 33 = some (.iinc 1 1, 3, (0, 0, 0, 0), 0) := rfl
theorem s220_33 {c : Nat → List AV → SS → Option Out} {l0 : Option AV} {x : Int32} {L2 : List (Nat × AV)} {St : List AV} {S : SS} : ev c 220 33 [l0, some (aI x)] L2 St S = ev c 220 36 [l0, some (aI (x + 1))] (kil L2 1) St S := ev_go i220_33 rfl
theorem i220_36 : insAt 220 36 = some (.goto (-25), 3, (0, 0, 0, 0), 0) := rfl
theorem s220_36 {c : Nat → List AV → SS → Option Out} {l0 l1 : Option AV} {L2 : List (Nat × AV)} {St : List AV} {S : SS} : ev c 220 36 [l0, l1] L2 St S = ev c 220 11 [l0, l1] L2 St S := ev_go i220_36 rfl
theorem i220_39 : insAt 220 39 = some (.aload_n 0, 1, (0, 0, 0, 0), 0) := rfl
theorem s220_39 {c : Nat → List AV → SS → Option Out} {l1 : Option AV} {o : OId} {L2 : List (Nat × AV)} {St : List AV} {S : SS} : ev c 220 39 [some (aR o), l1] L2 St S = ev c 220 40 [some (aR o), l1] L2 (aR o :: St) S := ev_go i220_39 rfl
theorem i220_40 : insAt 220 40 = some (.dup, 1, (0, 0, 0, 0), 0) := rfl
theorem s220_40 {c : Nat → List AV → SS → Option Out} {l0 l1 : Option AV} {x : OId} {L2 : List (Nat × AV)} {St : List AV} {S : SS} : ev c 220 40 [l0, l1] L2 (aR x :: St) S = ev c 220 41 [l0, l1] L2 (aR x :: aR x :: St) S := ev_go i220_40 rfl
theorem i220_41 : insAt 220 41 = some (.getfield 35, 3, (12, 8, 0, 0), 0) := rfl
theorem s220_41 {c : Nat → List AV → SS → Option Out} {l0 l1 : Option AV} {j t : Nat} {L2 : List (Nat × AV)} {St : List AV} {S : SS} : ev c 220 41 [l0, l1] L2 (aR (12, j, t) :: St) S = ev c 220 44 [l0, l1] L2 (aI (S.1 (12, j, t) 8) :: St) S := ev_go i220_41 rfl
theorem i220_44 : insAt 220 44 = some (.iconst 1, 1, (0, 0, 0, 0), 0) := rfl
theorem s220_44 {c : Nat → List AV → SS → Option Out} {l0 l1 : Option AV} {L2 : List (Nat × AV)} {St : List AV} {S : SS} : ev c 220 44 [l0, l1] L2 St S = ev c 220 45 [l0, l1] L2 (aI 1 :: St) S := ev_go i220_44 rfl
theorem i220_45 : insAt 220 45 = some (.isub, 1, (0, 0, 0, 0), 0) := rfl
theorem s220_45 {c : Nat → List AV → SS → Option Out} {l0 l1 : Option AV} {x y : Int32} {L2 : List (Nat × AV)} {St : List AV} {S : SS} : ev c 220 45 [l0, l1] L2 (aI y :: aI x :: St) S = ev c 220 46 [l0, l1] L2 (aI (x - y) :: St) S := ev_go i220_45 rfl
theorem i220_46 : insAt 220 46 = some (.putfield 35, 3, (12, 8, 0, 0), 0) := rfl
theorem s220_46 {c : Nat → List AV → SS → Option Out} {l0 l1 : Option AV} {j t : Nat} {x : Int32} {L2 : List (Nat × AV)} {St : List AV} {S : SS} : ev c 220 46 [l0, l1] L2 (aI x :: aR (12, j, t) :: St) S = ev c 220 49 [l0, l1] L2 St (setI S.1 (12, j, t) 8 x, S.2) := ev_go i220_46 rfl
theorem i220_49 : insAt 220 49 = some (.aload_n 0, 1, (0, 0, 0, 0), 0) := rfl
theorem s220_49 {c : Nat → List AV → SS → Option Out} {l1 : Option AV} {o : OId} {L2 : List (Nat × AV)} {St : List AV} {S : SS} : ev c 220 49 [some (aR o), l1] L2 St S = ev c 220 50 [some (aR o), l1] L2 (aR o :: St) S := ev_go i220_49 rfl
theorem i220_50 : insAt 220 50 = some (.aload_n 0, 1, (0, 0, 0, 0), 0) := rfl
theorem s220_50 {c : Nat → List AV → SS → Option Out} {l1 : Option AV} {o : OId} {L2 : List (Nat × AV)} {St : List AV} {S : SS} : ev c 220 50 [some (aR o), l1] L2 St S = ev c 220 51 [some (aR o), l1] L2 (aR o :: St) S := ev_go i220_50 rfl
theorem i220_51 : insAt 220 51 = some (.getfield 7, 3, (12, 0, 0, 0), 0) := rfl
theorem s220_51 {c : Nat → List AV → SS → Option Out} {l0 l1 : Option AV} {j t : Nat} {L2 : List (Nat × AV)} {St : List AV} {S : SS} : ev c 220 51 [l0, l1] L2 (aR (12, j, t) :: St) S = ev c 220 54 [l0, l1] L2 (S.2.2.1 (12, j, t) 0 :: St) S := ev_go i220_51 rfl
theorem i220_54 : insAt 220 54 = some (.iconst 0, 1, (0, 0, 0, 0), 0) := rfl
theorem s220_54 {c : Nat → List AV → SS → Option Out} {l0 l1 : Option AV} {L2 : List (Nat × AV)} {St : List AV} {S : SS} : ev c 220 54 [l0, l1] L2 St S = ev c 220 55 [l0, l1] L2 (aI 0 :: St) S := ev_go i220_54 rfl
theorem i220_55 : insAt 220 55 = some (.aload_n 0, 1, (0, 0, 0, 0), 0) := rfl
theorem s220_55 {c : Nat → List AV → SS → Option Out} {l1 : Option AV} {o : OId} {L2 : List (Nat × AV)} {St : List AV} {S : SS} : ev c 220 55 [some (aR o), l1] L2 St S = ev c 220 56 [some (aR o), l1] L2 (aR o :: St) S := ev_go i220_55 rfl
theorem i220_56 : insAt 220 56 = some (.getfield 16, 3, (12, 2, 0, 0), 0) := rfl
theorem s220_56 {c : Nat → List AV → SS → Option Out} {l0 l1 : Option AV} {j t : Nat} {L2 : List (Nat × AV)} {St : List AV} {S : SS} : ev c 220 56 [l0, l1] L2 (aR (12, j, t) :: St) S = ev c 220 59 [l0, l1] L2 (S.2.2.1 (12, j, t) 2 :: St) S := ev_go i220_56 rfl
theorem i220_59 : insAt 220 59 = some (.bipush 106, 2, (0, 0, 0, 0), 0) := rfl
theorem s220_59 {c : Nat → List AV → SS → Option Out} {l0 l1 : Option AV} {L2 : List (Nat × AV)} {St : List AV} {S : SS} : ev c 220 59 [l0, l1] L2 St S = ev c 220 61 [l0, l1] L2 (aI 106 :: St) S := ev_go i220_59 rfl
theorem i220_61 : insAt 220 61 = some (.aload_n 0, 1, (0, 0, 0, 0), 0) := rfl
theorem s220_61 {c : Nat → List AV → SS → Option Out} {l1 : Option AV} {o : OId} {L2 : List (Nat × AV)} {St : List AV} {S : SS} : ev c 220 61 [some (aR o), l1] L2 St S = ev c 220 62 [some (aR o), l1] L2 (aR o :: St) S := ev_go i220_61 rfl
theorem i220_62 : insAt 220 62 = some (.getfield 35, 3, (12, 8, 0, 0), 0) := rfl
theorem s220_62 {c : Nat → List AV → SS → Option Out} {l0 l1 : Option AV} {j t : Nat} {L2 : List (Nat × AV)} {St : List AV} {S : SS} : ev c 220 62 [l0, l1] L2 (aR (12, j, t) :: St) S = ev c 220 65 [l0, l1] L2 (aI (S.1 (12, j, t) 8) :: St) S := ev_go i220_62 rfl
theorem i220_65 : insAt 220 65 = some (.imul, 1, (0, 0, 0, 0), 0) := rfl
theorem s220_65 {c : Nat → List AV → SS → Option Out} {l0 l1 : Option AV} {x y : Int32} {L2 : List (Nat × AV)} {St : List AV} {S : SS} : ev c 220 65 [l0, l1] L2 (aI y :: aI x :: St) S = ev c 220 66 [l0, l1] L2 (aI (x * y) :: St) S := ev_go i220_65 rfl
theorem i220_66 : insAt 220 66 = some (.invokevirtual 71, 3, (221, 4, 2, 12), 0) := rfl
theorem s220_66 {c : Nat → List AV → SS → Option Out} {l0 l1 : Option AV} {a0 : OId} {a1 : Int32} {a2 : OId} {a3 : Int32} {j t : Nat} {L2 : List (Nat × AV)} {S : SS} : ev c 220 66 [l0, l1] L2 [aI a3, aR a2, aI a1, aR a0, aR (12, j, t)] S = ck (c 221 [aR (12, j, t), aR a0, aI a1, aR a2, aI a3] S) (fun v S' => ev c 220 69 [l0, l1] L2 (v.toList ++ []) S') := ev_call i220_66 rfl
theorem i220_69 : insAt 220 69 = some (.aload_n 0, 1, (0, 0, 0, 0), 0) := rfl
theorem s220_69 {c : Nat → List AV → SS → Option Out} {l1 : Option AV} {o : OId} {L2 : List (Nat × AV)} {St : List AV} {S : SS} : ev c 220 69 [some (aR o), l1] L2 St S = ev c 220 70 [some (aR o), l1] L2 (aR o :: St) S := ev_go i220_69 rfl
theorem i220_70 : insAt 220 70 = some (.dup, 1, (0, 0, 0, 0), 0) := rfl
theorem s220_70 {c : Nat → List AV → SS → Option Out} {l0 l1 : Option AV} {x : OId} {L2 : List (Nat × AV)} {St : List AV} {S : SS} : ev c 220 70 [l0, l1] L2 (aR x :: St) S = ev c 220 71 [l0, l1] L2 (aR x :: aR x :: St) S := ev_go i220_70 rfl
theorem i220_71 : insAt 220 71 = some (.getfield 35, 3, (12, 8, 0, 0), 0) := rfl
theorem s220_71 {c : Nat → List AV → SS → Option Out} {l0 l1 : Option AV} {j t : Nat} {L2 : List (Nat × AV)} {St : List AV} {S : SS} : ev c 220 71 [l0, l1] L2 (aR (12, j, t) :: St) S = ev c 220 74 [l0, l1] L2 (aI (S.1 (12, j, t) 8) :: St) S := ev_go i220_71 rfl
theorem i220_74 : insAt 220 74 = some (.iconst 1, 1, (0, 0, 0, 0), 0) := rfl
theorem s220_74 {c : Nat → List AV → SS → Option Out} {l0 l1 : Option AV} {L2 : List (Nat × AV)} {St : List AV} {S : SS} : ev c 220 74 [l0, l1] L2 St S = ev c 220 75 [l0, l1] L2 (aI 1 :: St) S := ev_go i220_74 rfl
theorem i220_75 : insAt 220 75 = some (.iadd, 1, (0, 0, 0, 0), 0) := rfl
theorem s220_75 {c : Nat → List AV → SS → Option Out} {l0 l1 : Option AV} {x y : Int32} {L2 : List (Nat × AV)} {St : List AV} {S : SS} : ev c 220 75 [l0, l1] L2 (aI y :: aI x :: St) S = ev c 220 76 [l0, l1] L2 (aI (x + y) :: St) S := ev_go i220_75 rfl
theorem i220_76 : insAt 220 76 = some (.putfield 35, 3, (12, 8, 0, 0), 0) := rfl
theorem s220_76 {c : Nat → List AV → SS → Option Out} {l0 l1 : Option AV} {j t : Nat} {x : Int32} {L2 : List (Nat × AV)} {St : List AV} {S : SS} : ev c 220 76 [l0, l1] L2 (aI x :: aR (12, j, t) :: St) S = ev c 220 79 [l0, l1] L2 St (setI S.1 (12, j, t) 8 x, S.2) := ev_go i220_76 rfl
theorem i220_79 : insAt 220 79 = some (.return_, 1, (0, 0, 0, 0), 0) := rfl
theorem s220_79 {c : Nat → List AV → SS → Option Out} {l0 l1 : Option AV} {L2 : List (Nat × AV)} {St : List AV} {S : SS} : ev c 220 79 [l0, l1] L2 [] S = some (.inl none, S) := ev_end i220_79 rfl
theorem m220 {d : Nat} {o : OId} {S : SS} : evm (d + 1) 220 [aR o] S = ev (evm d) 220 0 [some (aR o), none] [] [] S := evm_s (n := 2) rfl (Nat.le_of_ble_eq_true rfl) rfl rfl
/-! FrequencyOfficeModel.copies([II[II)V -/
theorem i221_0 : insAt 221 0 = some (.iconst 0, 1, (0, 0, 0, 0), 0) := rfl
theorem s221_0 {c : Nat → List AV → SS → Option Out} {l0 l1 l2 l3 l4 l5 : Option AV} {L2 : List (Nat × AV)} {St : List AV} {S : SS} : ev c 221 0 [l0, l1, l2, l3, l4, l5] L2 St S = ev c 221 1 [l0, l1, l2, l3, l4, l5] L2 (aI 0 :: St) S := ev_go i221_0 rfl
theorem i221_1 : insAt 221 1 = some (.istore 5, 2, (0, 0, 0, 0), 0) := rfl
theorem s221_1 {c : Nat → List AV → SS → Option Out} {l0 l1 l2 l3 l4 l5 : Option AV} {x : Int32} {L2 : List (Nat × AV)} {St : List AV} {S : SS} : ev c 221 1 [l0, l1, l2, l3, l4, l5] L2 (aI x :: St) S = ev c 221 3 [l0, l1, l2, l3, l4, some (aI x)] (kil L2 5) St S := ev_go i221_1 rfl
theorem i221_3 : insAt 221 3 = some (.iload 5, 2, (0, 0, 0, 0), 0) := rfl
theorem s221_3 {c : Nat → List AV → SS → Option Out} {l0 l1 l2 l3 l4 : Option AV} {x : Int32} {L2 : List (Nat × AV)} {St : List AV} {S : SS} : ev c 221 3 [l0, l1, l2, l3, l4, some (aI x)] L2 St S = ev c 221 5 [l0, l1, l2, l3, l4, some (aI x)] L2 (aI x :: St) S := ev_go i221_3 rfl
theorem i221_5 : insAt 221 5 = some (.bipush 106, 2, (0, 0, 0, 0), 0) := rfl
theorem s221_5 {c : Nat → List AV → SS → Option Out} {l0 l1 l2 l3 l4 l5 : Option AV} {L2 : List (Nat × AV)} {St : List AV} {S : SS} : ev c 221 5 [l0, l1, l2, l3, l4, l5] L2 St S = ev c 221 7 [l0, l1, l2, l3, l4, l5] L2 (aI 106 :: St) S := ev_go i221_5 rfl
theorem i221_7 : insAt 221 7 = some (.if_icmp .ge 22, 3, (0, 0, 0, 0), 0) := rfl
theorem s221_7 {c : Nat → List AV → SS → Option Out} {l0 l1 l2 l3 l4 l5 : Option AV} {x y : Int32} {L2 : List (Nat × AV)} {St : List AV} {S : SS} : ev c 221 7 [l0, l1, l2, l3, l4, l5] L2 (aI y :: aI x :: St) S = if y ≤ x then ev c 221 29 [l0, l1, l2, l3, l4, l5] L2 St S else ev c 221 10 [l0, l1, l2, l3, l4, l5] L2 St S := ev_br i221_7 rfl
theorem i221_10 : insAt 221 10 = some (.aload_n 3, 1, (0, 0, 0, 0), 0) := rfl
theorem s221_10 {c : Nat → List AV → SS → Option Out} {l0 l1 l2 l4 l5 : Option AV} {o : OId} {L2 : List (Nat × AV)} {St : List AV} {S : SS} : ev c 221 10 [l0, l1, l2, some (aR o), l4, l5] L2 St S = ev c 221 11 [l0, l1, l2, some (aR o), l4, l5] L2 (aR o :: St) S := ev_go i221_10 rfl
theorem i221_11 : insAt 221 11 = some (.iload 4, 2, (0, 0, 0, 0), 0) := rfl
theorem s221_11 {c : Nat → List AV → SS → Option Out} {l0 l1 l2 l3 l5 : Option AV} {x : Int32} {L2 : List (Nat × AV)} {St : List AV} {S : SS} : ev c 221 11 [l0, l1, l2, l3, some (aI x), l5] L2 St S = ev c 221 13 [l0, l1, l2, l3, some (aI x), l5] L2 (aI x :: St) S := ev_go i221_11 rfl
theorem i221_13 : insAt 221 13 = some (.iload 5, 2, (0, 0, 0, 0), 0) := rfl
theorem s221_13 {c : Nat → List AV → SS → Option Out} {l0 l1 l2 l3 l4 : Option AV} {x : Int32} {L2 : List (Nat × AV)} {St : List AV} {S : SS} : ev c 221 13 [l0, l1, l2, l3, l4, some (aI x)] L2 St S = ev c 221 15 [l0, l1, l2, l3, l4, some (aI x)] L2 (aI x :: St) S := ev_go i221_13 rfl
theorem i221_15 : insAt 221 15 = some (.iadd, 1, (0, 0, 0, 0), 0) := rfl
theorem s221_15 {c : Nat → List AV → SS → Option Out} {l0 l1 l2 l3 l4 l5 : Option AV} {x y : Int32} {L2 : List (Nat × AV)} {St : List AV} {S : SS} : ev c 221 15 [l0, l1, l2, l3, l4, l5] L2 (aI y :: aI x :: St) S = ev c 221 16 [l0, l1, l2, l3, l4, l5] L2 (aI (x + y) :: St) S := ev_go i221_15 rfl
theorem i221_16 : insAt 221 16 = some (.aload_n 1, 1, (0, 0, 0, 0), 0) := rfl
theorem s221_16 {c : Nat → List AV → SS → Option Out} {l0 l2 l3 l4 l5 : Option AV} {o : OId} {L2 : List (Nat × AV)} {St : List AV} {S : SS} : ev c 221 16 [l0, some (aR o), l2, l3, l4, l5] L2 St S = ev c 221 17 [l0, some (aR o), l2, l3, l4, l5] L2 (aR o :: St) S := ev_go i221_16 rfl
theorem i221_17 : insAt 221 17 = some (.iload_n 2, 1, (0, 0, 0, 0), 0) := rfl
theorem s221_17 {c : Nat → List AV → SS → Option Out} {l0 l1 l3 l4 l5 : Option AV} {x : Int32} {L2 : List (Nat × AV)} {St : List AV} {S : SS} : ev c 221 17 [l0, l1, some (aI x), l3, l4, l5] L2 St S = ev c 221 18 [l0, l1, some (aI x), l3, l4, l5] L2 (aI x :: St) S := ev_go i221_17 rfl
theorem i221_18 : insAt 221 18 = some (.iload 5, 2, (0, 0, 0, 0), 0) := rfl
theorem s221_18 {c : Nat → List AV → SS → Option Out} {l0 l1 l2 l3 l4 : Option AV} {x : Int32} {L2 : List (Nat × AV)} {St : List AV} {S : SS} : ev c 221 18 [l0, l1, l2, l3, l4, some (aI x)] L2 St S = ev c 221 20 [l0, l1, l2, l3, l4, some (aI x)] L2 (aI x :: St) S := ev_go i221_18 rfl
theorem i221_20 : insAt 221 20 = some (.iadd, 1, (0, 0, 0, 0), 0) := rfl
theorem s221_20 {c : Nat → List AV → SS → Option Out} {l0 l1 l2 l3 l4 l5 : Option AV} {x y : Int32} {L2 : List (Nat × AV)} {St : List AV} {S : SS} : ev c 221 20 [l0, l1, l2, l3, l4, l5] L2 (aI y :: aI x :: St) S = ev c 221 21 [l0, l1, l2, l3, l4, l5] L2 (aI (x + y) :: St) S := ev_go i221_20 rfl
theorem i221_21 : insAt 221 21 = some (.iaload, 1, (0, 0, 0, 0), 0) := rfl
theorem s221_21 {c : Nat → List AV → SS → Option Out} {l0 l1 l2 l3 l4 l5 : Option AV} {i : Int32} {o : OId} {L2 : List (Nat × AV)} {St : List AV} {S : SS} : ev c 221 21 [l0, l1, l2, l3, l4, l5] L2 (aI i :: aR o :: St) S = kI o i (ev c 221 22 [l0, l1, l2, l3, l4, l5] L2 (aI (agI S o i.toNatClampNeg) :: St) S) := ev_iaload i221_21
theorem i221_22 : insAt 221 22 = some (.iastore, 1, (0, 0, 0, 0), 0) := rfl
theorem s221_22 {c : Nat → List AV → SS → Option Out} {l0 l1 l2 l3 l4 l5 : Option AV} {x i : Int32} {o : OId} {L2 : List (Nat × AV)} {St : List AV} {S : SS} : ev c 221 22 [l0, l1, l2, l3, l4, l5] L2 (aI x :: aI i :: aR o :: St) S = kIw o i (ev c 221 23 [l0, l1, l2, l3, l4, l5] L2 St (setI S.1 o i.toNatClampNeg x, S.2)) := ev_iastore i221_22
theorem i221_23 : insAt 221 23 = some (.iinc 5 1, 3, (0, 0, 0, 0), 0) := rfl
theorem s221_23 {c : Nat → List AV → SS → Option Out} {l0 l1 l2 l3 l4 : Option AV} {x : Int32} {L2 : List (Nat × AV)} {St : List AV} {S : SS} : ev c 221 23 [l0, l1, l2, l3, l4, some (aI x)] L2 St S = ev c 221 26 [l0, l1, l2, l3, l4, some (aI (x + 1))] (kil L2 5) St S := ev_go i221_23 rfl
theorem i221_26 : insAt 221 26 = some (.goto (-23), 3, (0, 0, 0, 0), 0) := rfl
theorem s221_26 {c : Nat → List AV → SS → Option Out} {l0 l1 l2 l3 l4 l5 : Option AV} {L2 : List (Nat × AV)} {St : List AV} {S : SS} : ev c 221 26 [l0, l1, l2, l3, l4, l5] L2 St S = ev c 221 3 [l0, l1, l2, l3, l4, l5] L2 St S := ev_go i221_26 rfl
theorem i221_29 : insAt 221 29 = some (.return_, 1, (0, 0, 0, 0), 0) := rfl
theorem s221_29 {c : Nat → List AV → SS → Option Out} {l0 l1 l2 l3 l4 l5 : Option AV} {L2 : List (Nat × AV)} {St : List AV} {S : SS} : ev c 221 29 [l0, l1, l2, l3, l4, l5] L2 [] S = some (.inl none, S) := ev_end i221_29 rfl
theorem m221 {d : Nat} {o : OId} {a0 : OId} {a1 : Int32} {a2 : OId} {a3 : Int32} {S : SS} : evm (d + 1) 221 [aR o, aR a0, aI a1, aR a2, aI a3] S = ev (evm d) 221 0 [some (aR o), some (aR a0), some (aI a1), some (aR a2), some (aI a3), none] [] [] S := evm_s (n := 6) rfl (Nat.le_of_ble_eq_true rfl) rfl rfl
/-! FrequencyOfficeModel.nearRadius()I -/
theorem i222_0 : insAt 222 0 = some (.aload_n 0, 1, (0, 0, 0, 0), 0) := rfl
theorem s222_0 {c : Nat → List AV → SS → Option Out} {o : OId} {L2 : List (Nat × AV)} {St : List AV} {S : SS} : ev c 222 0 [some (aR o)] L2 St S = ev c 222 1 [some (aR o)] L2 (aR o :: St) S := ev_go i222_0 rfl
theorem i222_1 : insAt 222 1 = some (.aload_n 0, 1, (0, 0, 0, 0), 0) := rfl
theorem s222_1 {c : Nat → List AV → SS → Option Out} {o : OId} {L2 : List (Nat × AV)} {St : List AV} {S : SS} : ev c 222 1 [some (aR o)] L2 St S = ev c 222 2 [some (aR o)] L2 (aR o :: St) S := ev_go i222_1 rfl
theorem i222_2 : insAt 222 2 = some (.getfield 7, 3, (12, 0, 0, 0), 0) := rfl
theorem s222_2 {c : Nat → List AV → SS → Option Out} {l0 : Option AV} {j t : Nat} {L2 : List (Nat × AV)} {St : List AV} {S : SS} : ev c 222 2 [l0] L2 (aR (12, j, t) :: St) S = ev c 222 5 [l0] L2 (S.2.2.1 (12, j, t) 0 :: St) S := ev_go i222_2 rfl
theorem i222_5 : insAt 222 5 = some (.iconst 0, 1, (0, 0, 0, 0), 0) := rfl
theorem s222_5 {c : Nat → List AV → SS → Option Out} {l0 : Option AV} {L2 : List (Nat × AV)} {St : List AV} {S : SS} : ev c 222 5 [l0] L2 St S = ev c 222 6 [l0] L2 (aI 0 :: St) S := ev_go i222_5 rfl
theorem i222_6 : insAt 222 6 = some (.iaload, 1, (0, 0, 0, 0), 0) := rfl
theorem s222_6 {c : Nat → List AV → SS → Option Out} {l0 : Option AV} {i : Int32} {o : OId} {L2 : List (Nat × AV)} {St : List AV} {S : SS} : ev c 222 6 [l0] L2 (aI i :: aR o :: St) S = kI o i (ev c 222 7 [l0] L2 (aI (agI S o i.toNatClampNeg) :: St) S) := ev_iaload i222_6
theorem i222_7 : insAt 222 7 = some (.invokevirtual 89, 3, (223, 1, 2, 12), 0) := rfl
theorem s222_7 {c : Nat → List AV → SS → Option Out} {l0 : Option AV} {a0 : Int32} {j t : Nat} {L2 : List (Nat × AV)} {S : SS} : ev c 222 7 [l0] L2 [aI a0, aR (12, j, t)] S = ck (c 223 [aR (12, j, t), aI a0] S) (fun v S' => ev c 222 10 [l0] L2 (v.toList ++ []) S') := ev_call i222_7 rfl
theorem i222_10 : insAt 222 10 = some (.ireturn, 1, (0, 0, 0, 0), 0) := rfl
theorem s222_10 {c : Nat → List AV → SS → Option Out} {l0 : Option AV} {x : Int32} {L2 : List (Nat × AV)} {St : List AV} {S : SS} : ev c 222 10 [l0] L2 [aI x] S = some (.inl (some (aI x)), S) := ev_end i222_10 rfl
theorem m222 {d : Nat} {o : OId} {S : SS} : evm (d + 1) 222 [aR o] S = ev (evm d) 222 0 [some (aR o)] [] [] S := evm_s (n := 1) rfl (Nat.le_of_ble_eq_true rfl) rfl rfl
/-! FrequencyOfficeModel.plain(I)I -/
theorem i223_0 : insAt 223 0 = some (.aload_n 0, 1, (0, 0, 0, 0), 0) := rfl
theorem s223_0 {c : Nat → List AV → SS → Option Out} {l1 : Option AV} {o : OId} {L2 : List (Nat × AV)} {St : List AV} {S : SS} : ev c 223 0 [some (aR o), l1] L2 St S = ev c 223 1 [some (aR o), l1] L2 (aR o :: St) S := ev_go i223_0 rfl
theorem i223_1 : insAt 223 1 = some (.iconst 0, 1, (0, 0, 0, 0), 0) := rfl
theorem s223_1 {c : Nat → List AV → SS → Option Out} {l0 l1 : Option AV} {L2 : List (Nat × AV)} {St : List AV} {S : SS} : ev c 223 1 [l0, l1] L2 St S = ev c 223 2 [l0, l1] L2 (aI 0 :: St) S := ev_go i223_1 rfl
theorem i223_2 : insAt 223 2 = some (.putfield 31, 3, (12, 7, 0, 0), 0) := rfl
theorem s223_2 {c : Nat → List AV → SS → Option Out} {l0 l1 : Option AV} {j t : Nat} {x : Int32} {L2 : List (Nat × AV)} {St : List AV} {S : SS} : ev c 223 2 [l0, l1] L2 (aI x :: aR (12, j, t) :: St) S = ev c 223 5 [l0, l1] L2 St (setI S.1 (12, j, t) 7 x, S.2) := ev_go i223_2 rfl
theorem i223_5 : insAt 223 5 = some (.iload_n 1, 1, (0, 0, 0, 0), 0) := rfl
theorem s223_5 {c : Nat → List AV → SS → Option Out} {l0 : Option AV} {x : Int32} {L2 : List (Nat × AV)} {St : List AV} {S : SS} : ev c 223 5 [l0, some (aI x)] L2 St S = ev c 223 6 [l0, some (aI x)] L2 (aI x :: St) S := ev_go i223_5 rfl
theorem i223_6 : insAt 223 6 = some (.ireturn, 1, (0, 0, 0, 0), 0) := rfl
theorem s223_6 {c : Nat → List AV → SS → Option Out} {l0 l1 : Option AV} {x : Int32} {L2 : List (Nat × AV)} {St : List AV} {S : SS} : ev c 223 6 [l0, l1] L2 [aI x] S = some (.inl (some (aI x)), S) := ev_end i223_6 rfl
theorem m223 {d : Nat} {o : OId} {a0 : Int32} {S : SS} : evm (d + 1) 223 [aR o, aI a0] S = ev (evm d) 223 0 [some (aR o), some (aI a0)] [] [] S := evm_s (n := 2) rfl (Nat.le_of_ble_eq_true rfl) rfl rfl
/-! FrequencyOfficeModel.middleRadius()I -/
theorem i224_0 : insAt 224 0 = some (.aload_n 0, 1, (0, 0, 0, 0), 0) := rfl
theorem s224_0 {c : Nat → List AV → SS → Option Out} {o : OId} {L2 : List (Nat × AV)} {St : List AV} {S : SS} : ev c 224 0 [some (aR o)] L2 St S = ev c 224 1 [some (aR o)] L2 (aR o :: St) S := ev_go i224_0 rfl
theorem i224_1 : insAt 224 1 = some (.aload_n 0, 1, (0, 0, 0, 0), 0) := rfl
theorem s224_1 {c : Nat → List AV → SS → Option Out} {o : OId} {L2 : List (Nat × AV)} {St : List AV} {S : SS} : ev c 224 1 [some (aR o)] L2 St S = ev c 224 2 [some (aR o)] L2 (aR o :: St) S := ev_go i224_1 rfl
theorem i224_2 : insAt 224 2 = some (.getfield 7, 3, (12, 0, 0, 0), 0) := rfl
theorem s224_2 {c : Nat → List AV → SS → Option Out} {l0 : Option AV} {j t : Nat} {L2 : List (Nat × AV)} {St : List AV} {S : SS} : ev c 224 2 [l0] L2 (aR (12, j, t) :: St) S = ev c 224 5 [l0] L2 (S.2.2.1 (12, j, t) 0 :: St) S := ev_go i224_2 rfl
theorem i224_5 : insAt 224 5 = some (.iconst 1, 1, (0, 0, 0, 0), 0) := rfl
theorem s224_5 {c : Nat → List AV → SS → Option Out} {l0 : Option AV} {L2 : List (Nat × AV)} {St : List AV} {S : SS} : ev c 224 5 [l0] L2 St S = ev c 224 6 [l0] L2 (aI 1 :: St) S := ev_go i224_5 rfl
theorem i224_6 : insAt 224 6 = some (.iaload, 1, (0, 0, 0, 0), 0) := rfl
theorem s224_6 {c : Nat → List AV → SS → Option Out} {l0 : Option AV} {i : Int32} {o : OId} {L2 : List (Nat × AV)} {St : List AV} {S : SS} : ev c 224 6 [l0] L2 (aI i :: aR o :: St) S = kI o i (ev c 224 7 [l0] L2 (aI (agI S o i.toNatClampNeg) :: St) S) := ev_iaload i224_6
theorem i224_7 : insAt 224 7 = some (.invokevirtual 89, 3, (223, 1, 2, 12), 0) := rfl
theorem s224_7 {c : Nat → List AV → SS → Option Out} {l0 : Option AV} {a0 : Int32} {j t : Nat} {L2 : List (Nat × AV)} {S : SS} : ev c 224 7 [l0] L2 [aI a0, aR (12, j, t)] S = ck (c 223 [aR (12, j, t), aI a0] S) (fun v S' => ev c 224 10 [l0] L2 (v.toList ++ []) S') := ev_call i224_7 rfl
theorem i224_10 : insAt 224 10 = some (.ireturn, 1, (0, 0, 0, 0), 0) := rfl
theorem s224_10 {c : Nat → List AV → SS → Option Out} {l0 : Option AV} {x : Int32} {L2 : List (Nat × AV)} {St : List AV} {S : SS} : ev c 224 10 [l0] L2 [aI x] S = some (.inl (some (aI x)), S) := ev_end i224_10 rfl
theorem m224 {d : Nat} {o : OId} {S : SS} : evm (d + 1) 224 [aR o] S = ev (evm d) 224 0 [some (aR o)] [] [] S := evm_s (n := 1) rfl (Nat.le_of_ble_eq_true rfl) rfl rfl
/-! FrequencyOfficeModel.farRadius()I -/
theorem i225_0 : insAt 225 0 = some (.aload_n 0, 1, (0, 0, 0, 0), 0) := rfl
theorem s225_0 {c : Nat → List AV → SS → Option Out} {o : OId} {L2 : List (Nat × AV)} {St : List AV} {S : SS} : ev c 225 0 [some (aR o)] L2 St S = ev c 225 1 [some (aR o)] L2 (aR o :: St) S := ev_go i225_0 rfl
theorem i225_1 : insAt 225 1 = some (.aload_n 0, 1, (0, 0, 0, 0), 0) := rfl
theorem s225_1 {c : Nat → List AV → SS → Option Out} {o : OId} {L2 : List (Nat × AV)} {St : List AV} {S : SS} : ev c 225 1 [some (aR o)] L2 St S = ev c 225 2 [some (aR o)] L2 (aR o :: St) S := ev_go i225_1 rfl
theorem i225_2 : insAt 225 2 = some (.getfield 7, 3, (12, 0, 0, 0), 0) := rfl
theorem s225_2 {c : Nat → List AV → SS → Option Out} {l0 : Option AV} {j t : Nat} {L2 : List (Nat × AV)} {St : List AV} {S : SS} : ev c 225 2 [l0] L2 (aR (12, j, t) :: St) S = ev c 225 5 [l0] L2 (S.2.2.1 (12, j, t) 0 :: St) S := ev_go i225_2 rfl
theorem i225_5 : insAt 225 5 = some (.iconst 2, 1, (0, 0, 0, 0), 0) := rfl
theorem s225_5 {c : Nat → List AV → SS → Option Out} {l0 : Option AV} {L2 : List (Nat × AV)} {St : List AV} {S : SS} : ev c 225 5 [l0] L2 St S = ev c 225 6 [l0] L2 (aI 2 :: St) S := ev_go i225_5 rfl
theorem i225_6 : insAt 225 6 = some (.iaload, 1, (0, 0, 0, 0), 0) := rfl
theorem s225_6 {c : Nat → List AV → SS → Option Out} {l0 : Option AV} {i : Int32} {o : OId} {L2 : List (Nat × AV)} {St : List AV} {S : SS} : ev c 225 6 [l0] L2 (aI i :: aR o :: St) S = kI o i (ev c 225 7 [l0] L2 (aI (agI S o i.toNatClampNeg) :: St) S) := ev_iaload i225_6
theorem i225_7 : insAt 225 7 = some (.invokevirtual 89, 3, (223, 1, 2, 12), 0) := rfl
theorem s225_7 {c : Nat → List AV → SS → Option Out} {l0 : Option AV} {a0 : Int32} {j t : Nat} {L2 : List (Nat × AV)} {S : SS} : ev c 225 7 [l0] L2 [aI a0, aR (12, j, t)] S = ck (c 223 [aR (12, j, t), aI a0] S) (fun v S' => ev c 225 10 [l0] L2 (v.toList ++ []) S') := ev_call i225_7 rfl
theorem i225_10 : insAt 225 10 = some (.ireturn, 1, (0, 0, 0, 0), 0) := rfl
theorem s225_10 {c : Nat → List AV → SS → Option Out} {l0 : Option AV} {x : Int32} {L2 : List (Nat × AV)} {St : List AV} {S : SS} : ev c 225 10 [l0] L2 [aI x] S = some (.inl (some (aI x)), S) := ev_end i225_10 rfl
theorem m225 {d : Nat} {o : OId} {S : SS} : evm (d + 1) 225 [aR o] S = ev (evm d) 225 0 [some (aR o)] [] [] S := evm_s (n := 1) rfl (Nat.le_of_ble_eq_true rfl) rfl rfl
/-! FrequencyOfficeModel.license(III)I -/
theorem i226_0 : insAt 226 0 = some (.aload_n 0, 1, (0, 0, 0, 0), 0) := rfl
theorem s226_0 {c : Nat → List AV → SS → Option Out} {l1 l2 l3 l4 l5 : Option AV} {o : OId} {L2 : List (Nat × AV)} {St : List AV} {S : SS} : ev c 226 0 [some (aR o), l1, l2, l3, l4, l5] L2 St S = ev c 226 1 [some (aR o), l1, l2, l3, l4, l5] L2 (aR o :: St) S := ev_go i226_0 rfl
theorem i226_1 : insAt 226 1 = some (.iload_n 1, 1, (0, 0, 0, 0), 0) := rfl
theorem s226_1 {c : Nat → List AV → SS → Option Out} {l0 l2 l3 l4 l5 : Option AV} {x : Int32} {L2 : List (Nat × AV)} {St : List AV} {S : SS} : ev c 226 1 [l0, some (aI x), l2, l3, l4, l5] L2 St S = ev c 226 2 [l0, some (aI x), l2, l3, l4, l5] L2 (aI x :: St) S := ev_go i226_1 rfl
theorem i226_2 : insAt 226 2 = some (.iload_n 2, 1, (0, 0, 0, 0), 0) := rfl
theorem s226_2 {c : Nat → List AV → SS → Option Out} {l0 l1 l3 l4 l5 : Option AV} {x : Int32} {L2 : List (Nat × AV)} {St : List AV} {S : SS} : ev c 226 2 [l0, l1, some (aI x), l3, l4, l5] L2 St S = ev c 226 3 [l0, l1, some (aI x), l3, l4, l5] L2 (aI x :: St) S := ev_go i226_2 rfl
theorem i226_3 : insAt 226 3 = some (.invokestatic 158, 3, (227, 2, 0, 0), 0) := rfl
theorem s226_3 {c : Nat → List AV → SS → Option Out} {l0 l1 l2 l3 l4 l5 : Option AV} {t0 : AV} {a0 : Int32} {a1 : Int32} {L2 : List (Nat × AV)} {S : SS} : ev c 226 3 [l0, l1, l2, l3, l4, l5] L2 [aI a1, aI a0, t0] S = ck (c 227 [aI a0, aI a1] S) (fun v S' => ev c 226 6 [l0, l1, l2, l3, l4, l5] L2 (v.toList ++ [t0]) S') := ev_call i226_3 rfl
theorem i226_6 : insAt 226 6 = some (.ifCond .eq 14, 3, (0, 0, 0, 0), 0) := rfl
theorem s226_6 {c : Nat → List AV → SS → Option Out} {l0 l1 l2 l3 l4 l5 : Option AV} {x : Int32} {L2 : List (Nat × AV)} {St : List AV} {S : SS} : ev c 226 6 [l0, l1, l2, l3, l4, l5] L2 (aI x :: St) S = if x = 0 then ev c 226 20 [l0, l1, l2, l3, l4, l5] L2 St S else ev c 226 9 [l0, l1, l2, l3, l4, l5] L2 St S := ev_br i226_6 rfl
theorem i226_9 : insAt 226 9 = some (.iload_n 3, 1, (0, 0, 0, 0), 0) := rfl
theorem s226_9 {c : Nat → List AV → SS → Option Out} {l0 l1 l2 l4 l5 : Option AV} {x : Int32} {L2 : List (Nat × AV)} {St : List AV} {S : SS} : ev c 226 9 [l0, l1, l2, some (aI x), l4, l5] L2 St S = ev c 226 10 [l0, l1, l2, some (aI x), l4, l5] L2 (aI x :: St) S := ev_go i226_9 rfl
theorem i226_10 : insAt 226 10 = some (.iconst 1, 1, (0, 0, 0, 0), 0) := rfl
theorem s226_10 {c : Nat → List AV → SS → Option Out} {l0 l1 l2 l3 l4 l5 : Option AV} {L2 : List (Nat × AV)} {St : List AV} {S : SS} : ev c 226 10 [l0, l1, l2, l3, l4, l5] L2 St S = ev c 226 11 [l0, l1, l2, l3, l4, l5] L2 (aI 1 :: St) S := ev_go i226_10 rfl
theorem i226_11 : insAt 226 11 = some (.sipush 365, 3, (0, 0, 0, 0), 0) := rfl
theorem s226_11 {c : Nat → List AV → SS → Option Out} {l0 l1 l2 l3 l4 l5 : Option AV} {L2 : List (Nat × AV)} {St : List AV} {S : SS} : ev c 226 11 [l0, l1, l2, l3, l4, l5] L2 St S = ev c 226 14 [l0, l1, l2, l3, l4, l5] L2 (aI 365 :: St) S := ev_go i226_11 rfl
theorem i226_14 : insAt 226 14 = some (.invokestatic 154, 3, (228, 3, 0, 0), 0) := rfl
theorem s226_14 {c : Nat → List AV → SS → Option Out} {l0 l1 l2 l3 l4 l5 : Option AV} {t0 : AV} {a0 : Int32} {a1 : Int32} {a2 : Int32} {L2 : List (Nat × AV)} {S : SS} : ev c 226 14 [l0, l1, l2, l3, l4, l5] L2 [aI a2, aI a1, aI a0, t0] S = ck (c 228 [aI a0, aI a1, aI a2] S) (fun v S' => ev c 226 17 [l0, l1, l2, l3, l4, l5] L2 (v.toList ++ [t0]) S') := ev_call i226_14 rfl
theorem i226_17 : insAt 226 17 = some (.ifCond .ne 7, 3, (0, 0, 0, 0), 0) := rfl
theorem s226_17 {c : Nat → List AV → SS → Option Out} {l0 l1 l2 l3 l4 l5 : Option AV} {x : Int32} {L2 : List (Nat × AV)} {St : List AV} {S : SS} : ev c 226 17 [l0, l1, l2, l3, l4, l5] L2 (aI x :: St) S = if x = 0 then ev c 226 20 [l0, l1, l2, l3, l4, l5] L2 St S else ev c 226 24 [l0, l1, l2, l3, l4, l5] L2 St S := (ev_br i226_17 rfl).trans (ite_not _ _ _)
theorem i226_20 : insAt 226 20 = some (.iconst 1, 1, (0, 0, 0, 0), 0) := rfl
theorem s226_20 {c : Nat → List AV → SS → Option Out} {l0 l1 l2 l3 l4 l5 : Option AV} {L2 : List (Nat × AV)} {St : List AV} {S : SS} : ev c 226 20 [l0, l1, l2, l3, l4, l5] L2 St S = ev c 226 21 [l0, l1, l2, l3, l4, l5] L2 (aI 1 :: St) S := ev_go i226_20 rfl
theorem i226_21 : insAt 226 21 = some (.goto 20, 3, (0, 0, 0, 0), 0) := rfl
theorem s226_21 {c : Nat → List AV → SS → Option Out} {l0 l1 l2 l3 l4 l5 : Option AV} {L2 : List (Nat × AV)} {St : List AV} {S : SS} : ev c 226 21 [l0, l1, l2, l3, l4, l5] L2 St S = ev c 226 41 [l0, l1, l2, l3, l4, l5] L2 St S := ev_go i226_21 rfl
theorem i226_24 : insAt 226 24 = some (.aload_n 0, 1, (0, 0, 0, 0), 0) := rfl
theorem s226_24 {c : Nat → List AV → SS → Option Out} {l1 l2 l3 l4 l5 : Option AV} {o : OId} {L2 : List (Nat × AV)} {St : List AV} {S : SS} : ev c 226 24 [some (aR o), l1, l2, l3, l4, l5] L2 St S = ev c 226 25 [some (aR o), l1, l2, l3, l4, l5] L2 (aR o :: St) S := ev_go i226_24 rfl
theorem i226_25 : insAt 226 25 = some (.getfield 7, 3, (12, 0, 0, 0), 0) := rfl
theorem s226_25 {c : Nat → List AV → SS → Option Out} {l0 l1 l2 l3 l4 l5 : Option AV} {j t : Nat} {L2 : List (Nat × AV)} {St : List AV} {S : SS} : ev c 226 25 [l0, l1, l2, l3, l4, l5] L2 (aR (12, j, t) :: St) S = ev c 226 28 [l0, l1, l2, l3, l4, l5] L2 (S.2.2.1 (12, j, t) 0 :: St) S := ev_go i226_25 rfl
theorem i226_28 : insAt 226 28 = some (.bipush 7, 2, (0, 0, 0, 0), 0) := rfl
theorem s226_28 {c : Nat → List AV → SS → Option Out} {l0 l1 l2 l3 l4 l5 : Option AV} {L2 : List (Nat × AV)} {St : List AV} {S : SS} : ev c 226 28 [l0, l1, l2, l3, l4, l5] L2 St S = ev c 226 30 [l0, l1, l2, l3, l4, l5] L2 (aI 7 :: St) S := ev_go i226_28 rfl
theorem i226_30 : insAt 226 30 = some (.iaload, 1, (0, 0, 0, 0), 0) := rfl
theorem s226_30 {c : Nat → List AV → SS → Option Out} {l0 l1 l2 l3 l4 l5 : Option AV} {i : Int32} {o : OId} {L2 : List (Nat × AV)} {St : List AV} {S : SS} : ev c 226 30 [l0, l1, l2, l3, l4, l5] L2 (aI i :: aR o :: St) S = kI o i (ev c 226 31 [l0, l1, l2, l3, l4, l5] L2 (aI (agI S o i.toNatClampNeg) :: St) S) := ev_iaload i226_30
theorem i226_31 : insAt 226 31 = some (.bipush 7, 2, (0, 0, 0, 0), 0) := rfl
theorem s226_31 {c : Nat → List AV → SS → Option Out} {l0 l1 l2 l3 l4 l5 : Option AV} {L2 : List (Nat × AV)} {St : List AV} {S : SS} : ev c 226 31 [l0, l1, l2, l3, l4, l5] L2 St S = ev c 226 33 [l0, l1, l2, l3, l4, l5] L2 (aI 7 :: St) S := ev_go i226_31 rfl
theorem i226_33 : insAt 226 33 = some (.if_icmp .ne 7, 3, (0, 0, 0, 0), 0) := rfl
theorem s226_33 {c : Nat → List AV → SS → Option Out} {l0 l1 l2 l3 l4 l5 : Option AV} {x y : Int32} {L2 : List (Nat × AV)} {St : List AV} {S : SS} : ev c 226 33 [l0, l1, l2, l3, l4, l5] L2 (aI y :: aI x :: St) S = if x = y then ev c 226 36 [l0, l1, l2, l3, l4, l5] L2 St S else ev c 226 40 [l0, l1, l2, l3, l4, l5] L2 St S := (ev_br i226_33 rfl).trans (ite_not _ _ _)
theorem i226_36 : insAt 226 36 = some (.iconst 2, 1, (0, 0, 0, 0), 0) := rfl
theorem s226_36 {c : Nat → List AV → SS → Option Out} {l0 l1 l2 l3 l4 l5 : Option AV} {L2 : List (Nat × AV)} {St : List AV} {S : SS} : ev c 226 36 [l0, l1, l2, l3, l4, l5] L2 St S = ev c 226 37 [l0, l1, l2, l3, l4, l5] L2 (aI 2 :: St) S := ev_go i226_36 rfl
theorem i226_37 : insAt 226 37 = some (.goto 4, 3, (0, 0, 0, 0), 0) := rfl
theorem s226_37 {c : Nat → List AV → SS → Option Out} {l0 l1 l2 l3 l4 l5 : Option AV} {L2 : List (Nat × AV)} {St : List AV} {S : SS} : ev c 226 37 [l0, l1, l2, l3, l4, l5] L2 St S = ev c 226 41 [l0, l1, l2, l3, l4, l5] L2 St S := ev_go i226_37 rfl
theorem i226_40 : insAt 226 40 = some (.iconst 0, 1, (0, 0, 0, 0), 0) := rfl
theorem s226_40 {c : Nat → List AV → SS → Option Out} {l0 l1 l2 l3 l4 l5 : Option AV} {L2 : List (Nat × AV)} {St : List AV} {S : SS} : ev c 226 40 [l0, l1, l2, l3, l4, l5] L2 St S = ev c 226 41 [l0, l1, l2, l3, l4, l5] L2 (aI 0 :: St) S := ev_go i226_40 rfl
theorem i226_41 : insAt 226 41 = some (.putfield 31, 3, (12, 7, 0, 0), 0) := rfl
theorem s226_41 {c : Nat → List AV → SS → Option Out} {l0 l1 l2 l3 l4 l5 : Option AV} {j t : Nat} {x : Int32} {L2 : List (Nat × AV)} {St : List AV} {S : SS} : ev c 226 41 [l0, l1, l2, l3, l4, l5] L2 (aI x :: aR (12, j, t) :: St) S = ev c 226 44 [l0, l1, l2, l3, l4, l5] L2 St (setI S.1 (12, j, t) 7 x, S.2) := ev_go i226_41 rfl
theorem i226_44 : insAt 226 44 = some (.aload_n 0, 1, (0, 0, 0, 0), 0) := rfl
theorem s226_44 {c : Nat → List AV → SS → Option Out} {l1 l2 l3 l4 l5 : Option AV} {o : OId} {L2 : List (Nat × AV)} {St : List AV} {S : SS} : ev c 226 44 [some (aR o), l1, l2, l3, l4, l5] L2 St S = ev c 226 45 [some (aR o), l1, l2, l3, l4, l5] L2 (aR o :: St) S := ev_go i226_44 rfl
theorem i226_45 : insAt 226 45 = some (.getfield 31, 3, (12, 7, 0, 0), 0) := rfl
theorem s226_45 {c : Nat → List AV → SS → Option Out} {l0 l1 l2 l3 l4 l5 : Option AV} {j t : Nat} {L2 : List (Nat × AV)} {St : List AV} {S : SS} : ev c 226 45 [l0, l1, l2, l3, l4, l5] L2 (aR (12, j, t) :: St) S = ev c 226 48 [l0, l1, l2, l3, l4, l5] L2 (aI (S.1 (12, j, t) 7) :: St) S := ev_go i226_45 rfl
theorem i226_48 : insAt 226 48 = some (.ifCond .le 5, 3, (0, 0, 0, 0), 0) := rfl
theorem s226_48 {c : Nat → List AV → SS → Option Out} {l0 l1 l2 l3 l4 l5 : Option AV} {x : Int32} {L2 : List (Nat × AV)} {St : List AV} {S : SS} : ev c 226 48 [l0, l1, l2, l3, l4, l5] L2 (aI x :: St) S = if x ≤ 0 then ev c 226 53 [l0, l1, l2, l3, l4, l5] L2 St S else ev c 226 51 [l0, l1, l2, l3, l4, l5] L2 St S := ev_br i226_48 rfl
theorem i226_51 : insAt 226 51 = some (.iconst 0, 1, (0, 0, 0, 0), 0) := rfl
theorem s226_51 {c : Nat → List AV → SS → Option Out} {l0 l1 l2 l3 l4 l5 : Option AV} {L2 : List (Nat × AV)} {St : List AV} {S : SS} : ev c 226 51 [l0, l1, l2, l3, l4, l5] L2 St S = ev c 226 52 [l0, l1, l2, l3, l4, l5] L2 (aI 0 :: St) S := ev_go i226_51 rfl
theorem i226_52 : insAt 226 52 = some (.ireturn, 1, (0, 0, 0, 0), 0) := rfl
theorem s226_52 {c : Nat → List AV → SS → Option Out} {l0 l1 l2 l3 l4 l5 : Option AV} {x : Int32} {L2 : List (Nat × AV)} {St : List AV} {S : SS} : ev c 226 52 [l0, l1, l2, l3, l4, l5] L2 [aI x] S = some (.inl (some (aI x)), S) := ev_end i226_52 rfl
theorem i226_53 : insAt 226 53 = some (.aload_n 0, 1, (0, 0, 0, 0), 0) := rfl
theorem s226_53 {c : Nat → List AV → SS → Option Out} {l1 l2 l3 l4 l5 : Option AV} {o : OId} {L2 : List (Nat × AV)} {St : List AV} {S : SS} : ev c 226 53 [some (aR o), l1, l2, l3, l4, l5] L2 St S = ev c 226 54 [some (aR o), l1, l2, l3, l4, l5] L2 (aR o :: St) S := ev_go i226_53 rfl
theorem i226_54 : insAt 226 54 = some (.iload_n 1, 1, (0, 0, 0, 0), 0) := rfl
theorem s226_54 {c : Nat → List AV → SS → Option Out} {l0 l2 l3 l4 l5 : Option AV} {x : Int32} {L2 : List (Nat × AV)} {St : List AV} {S : SS} : ev c 226 54 [l0, some (aI x), l2, l3, l4, l5] L2 St S = ev c 226 55 [l0, some (aI x), l2, l3, l4, l5] L2 (aI x :: St) S := ev_go i226_54 rfl
theorem i226_55 : insAt 226 55 = some (.iload_n 2, 1, (0, 0, 0, 0), 0) := rfl
theorem s226_55 {c : Nat → List AV → SS → Option Out} {l0 l1 l3 l4 l5 : Option AV} {x : Int32} {L2 : List (Nat × AV)} {St : List AV} {S : SS} : ev c 226 55 [l0, l1, some (aI x), l3, l4, l5] L2 St S = ev c 226 56 [l0, l1, some (aI x), l3, l4, l5] L2 (aI x :: St) S := ev_go i226_55 rfl
theorem i226_56 : insAt 226 56 = some (.iconst (-1), 1, (0, 0, 0, 0), 0) := rfl
theorem s226_56 {c : Nat → List AV → SS → Option Out} {l0 l1 l2 l3 l4 l5 : Option AV} {L2 : List (Nat × AV)} {St : List AV} {S : SS} : ev c 226 56 [l0, l1, l2, l3, l4, l5] L2 St S = ev c 226 57 [l0, l1, l2, l3, l4, l5] L2 (aI (-1) :: St) S := ev_go i226_56 rfl
theorem i226_57 : insAt 226 57 = some (.iconst (-1), 1, (0, 0, 0, 0), 0) := rfl
theorem s226_57 {c : Nat → List AV → SS → Option Out} {l0 l1 l2 l3 l4 l5 : Option AV} {L2 : List (Nat × AV)} {St : List AV} {S : SS} : ev c 226 57 [l0, l1, l2, l3, l4, l5] L2 St S = ev c 226 58 [l0, l1, l2, l3, l4, l5] L2 (aI (-1) :: St) S := ev_go i226_57 rfl
theorem i226_58 : insAt 226 58 = some (.iconst (-1), 1, (0, 0, 0, 0), 0) := rfl
theorem s226_58 {c : Nat → List AV → SS → Option Out} {l0 l1 l2 l3 l4 l5 : Option AV} {L2 : List (Nat × AV)} {St : List AV} {S : SS} : ev c 226 58 [l0, l1, l2, l3, l4, l5] L2 St S = ev c 226 59 [l0, l1, l2, l3, l4, l5] L2 (aI (-1) :: St) S := ev_go i226_58 rfl
theorem i226_59 : insAt 226 59 = some (.invokevirtual 140, 3, (229, 5, 2, 12), 0) := rfl
theorem s226_59 {c : Nat → List AV → SS → Option Out} {l0 l1 l2 l3 l4 l5 : Option AV} {a0 : Int32} {a1 : Int32} {a2 : Int32} {a3 : Int32} {a4 : Int32} {j t : Nat} {L2 : List (Nat × AV)} {S : SS} : ev c 226 59 [l0, l1, l2, l3, l4, l5] L2 [aI a4, aI a3, aI a2, aI a1, aI a0, aR (12, j, t)] S = ck (c 229 [aR (12, j, t), aI a0, aI a1, aI a2, aI a3, aI a4] S) (fun v S' => ev c 226 62 [l0, l1, l2, l3, l4, l5] L2 (v.toList ++ []) S') := ev_call i226_59 rfl
theorem i226_62 : insAt 226 62 = some (.istore 4, 2, (0, 0, 0, 0), 0) := rfl
theorem s226_62 {c : Nat → List AV → SS → Option Out} {l0 l1 l2 l3 l4 l5 : Option AV} {x : Int32} {L2 : List (Nat × AV)} {St : List AV} {S : SS} : ev c 226 62 [l0, l1, l2, l3, l4, l5] L2 (aI x :: St) S = ev c 226 64 [l0, l1, l2, l3, some (aI x), l5] (kil L2 4) St S := ev_go i226_62 rfl
theorem i226_64 : insAt 226 64 = some (.aload_n 0, 1, (0, 0, 0, 0), 0) := rfl
theorem s226_64 {c : Nat → List AV → SS → Option Out} {l1 l2 l3 l4 l5 : Option AV} {o : OId} {L2 : List (Nat × AV)} {St : List AV} {S : SS} : ev c 226 64 [some (aR o), l1, l2, l3, l4, l5] L2 St S = ev c 226 65 [some (aR o), l1, l2, l3, l4, l5] L2 (aR o :: St) S := ev_go i226_64 rfl
theorem i226_65 : insAt 226 65 = some (.iload 4, 2, (0, 0, 0, 0), 0) := rfl
theorem s226_65 {c : Nat → List AV → SS → Option Out} {l0 l1 l2 l3 l5 : Option AV} {x : Int32} {L2 : List (Nat × AV)} {St : List AV} {S : SS} : ev c 226 65 [l0, l1, l2, l3, some (aI x), l5] L2 St S = ev c 226 67 [l0, l1, l2, l3, some (aI x), l5] L2 (aI x :: St) S := ev_go i226_65 rfl
theorem i226_67 : insAt 226 67 = some (.ifCond .ge 7, 3, (0, 0, 0, 0), 0) := rfl
theorem s226_67 {c : Nat → List AV → SS → Option Out} {l0 l1 l2 l3 l4 l5 : Option AV} {x : Int32} {L2 : List (Nat × AV)} {St : List AV} {S : SS} : ev c 226 67 [l0, l1, l2, l3, l4, l5] L2 (aI x :: St) S = if 0 ≤ x then ev c 226 74 [l0, l1, l2, l3, l4, l5] L2 St S else ev c 226 70 [l0, l1, l2, l3, l4, l5] L2 St S := ev_br i226_67 rfl
theorem i226_70 : insAt 226 70 = some (.iconst 3, 1, (0, 0, 0, 0), 0) := rfl
theorem s226_70 {c : Nat → List AV → SS → Option Out} {l0 l1 l2 l3 l4 l5 : Option AV} {L2 : List (Nat × AV)} {St : List AV} {S : SS} : ev c 226 70 [l0, l1, l2, l3, l4, l5] L2 St S = ev c 226 71 [l0, l1, l2, l3, l4, l5] L2 (aI 3 :: St) S := ev_go i226_70 rfl
theorem i226_71 : insAt 226 71 = some (.goto 4, 3, (0, 0, 0, 0), 0) := rfl
theorem s226_71 {c : Nat → List AV → SS → Option Out} {l0 l1 l2 l3 l4 l5 : Option AV} {L2 : List (Nat × AV)} {St : List AV} {S : SS} : ev c 226 71 [l0, l1, l2, l3, l4, l5] L2 St S = ev c 226 75 [l0, l1, l2, l3, l4, l5] L2 St S := ev_go i226_71 rfl
theorem i226_74 : insAt 226 74 = some (.iconst 0, 1, (0, 0, 0, 0), 0) := rfl
theorem s226_74 {c : Nat → List AV → SS → Option Out} {l0 l1 l2 l3 l4 l5 : Option AV} {L2 : List (Nat × AV)} {St : List AV} {S : SS} : ev c 226 74 [l0, l1, l2, l3, l4, l5] L2 St S = ev c 226 75 [l0, l1, l2, l3, l4, l5] L2 (aI 0 :: St) S := ev_go i226_74 rfl
theorem i226_75 : insAt 226 75 = some (.putfield 31, 3, (12, 7, 0, 0), 0) := rfl
theorem s226_75 {c : Nat → List AV → SS → Option Out} {l0 l1 l2 l3 l4 l5 : Option AV} {j t : Nat} {x : Int32} {L2 : List (Nat × AV)} {St : List AV} {S : SS} : ev c 226 75 [l0, l1, l2, l3, l4, l5] L2 (aI x :: aR (12, j, t) :: St) S = ev c 226 78 [l0, l1, l2, l3, l4, l5] L2 St (setI S.1 (12, j, t) 7 x, S.2) := ev_go i226_75 rfl
theorem i226_78 : insAt 226 78 = some (.aload_n 0, 1, (0, 0, 0, 0), 0) := rfl
theorem s226_78 {c : Nat → List AV → SS → Option Out} {l1 l2 l3 l4 l5 : Option AV} {o : OId} {L2 : List (Nat × AV)} {St : List AV} {S : SS} : ev c 226 78 [some (aR o), l1, l2, l3, l4, l5] L2 St S = ev c 226 79 [some (aR o), l1, l2, l3, l4, l5] L2 (aR o :: St) S := ev_go i226_78 rfl
theorem i226_79 : insAt 226 79 = some (.getfield 31, 3, (12, 7, 0, 0), 0) := rfl
theorem s226_79 {c : Nat → List AV → SS → Option Out} {l0 l1 l2 l3 l4 l5 : Option AV} {j t : Nat} {L2 : List (Nat × AV)} {St : List AV} {S : SS} : ev c 226 79 [l0, l1, l2, l3, l4, l5] L2 (aR (12, j, t) :: St) S = ev c 226 82 [l0, l1, l2, l3, l4, l5] L2 (aI (S.1 (12, j, t) 7) :: St) S := ev_go i226_79 rfl
theorem i226_82 : insAt 226 82 = some (.ifCond .le 5, 3, (0, 0, 0, 0), 0) := rfl
theorem s226_82 {c : Nat → List AV → SS → Option Out} {l0 l1 l2 l3 l4 l5 : Option AV} {x : Int32} {L2 : List (Nat × AV)} {St : List AV} {S : SS} : ev c 226 82 [l0, l1, l2, l3, l4, l5] L2 (aI x :: St) S = if x ≤ 0 then ev c 226 87 [l0, l1, l2, l3, l4, l5] L2 St S else ev c 226 85 [l0, l1, l2, l3, l4, l5] L2 St S := ev_br i226_82 rfl
theorem i226_85 : insAt 226 85 = some (.iconst 0, 1, (0, 0, 0, 0), 0) := rfl
theorem s226_85 {c : Nat → List AV → SS → Option Out} {l0 l1 l2 l3 l4 l5 : Option AV} {L2 : List (Nat × AV)} {St : List AV} {S : SS} : ev c 226 85 [l0, l1, l2, l3, l4, l5] L2 St S = ev c 226 86 [l0, l1, l2, l3, l4, l5] L2 (aI 0 :: St) S := ev_go i226_85 rfl
theorem i226_86 : insAt 226 86 = some (.ireturn, 1, (0, 0, 0, 0), 0) := rfl
theorem s226_86 {c : Nat → List AV → SS → Option Out} {l0 l1 l2 l3 l4 l5 : Option AV} {x : Int32} {L2 : List (Nat × AV)} {St : List AV} {S : SS} : ev c 226 86 [l0, l1, l2, l3, l4, l5] L2 [aI x] S = some (.inl (some (aI x)), S) := ev_end i226_86 rfl
theorem i226_87 : insAt 226 87 = some (.aload_n 0, 1, (0, 0, 0, 0), 0) := rfl
theorem s226_87 {c : Nat → List AV → SS → Option Out} {l1 l2 l3 l4 l5 : Option AV} {o : OId} {L2 : List (Nat × AV)} {St : List AV} {S : SS} : ev c 226 87 [some (aR o), l1, l2, l3, l4, l5] L2 St S = ev c 226 88 [some (aR o), l1, l2, l3, l4, l5] L2 (aR o :: St) S := ev_go i226_87 rfl
theorem i226_88 : insAt 226 88 = some (.invokevirtual 86, 3, (220, 0, 2, 12), 0) := rfl
theorem s226_88 {c : Nat → List AV → SS → Option Out} {l0 l1 l2 l3 l4 l5 : Option AV} {j t : Nat} {L2 : List (Nat × AV)} {S : SS} : ev c 226 88 [l0, l1, l2, l3, l4, l5] L2 [aR (12, j, t)] S = ck (c 220 [aR (12, j, t)] S) (fun v S' => ev c 226 91 [l0, l1, l2, l3, l4, l5] L2 (v.toList ++ []) S') := ev_call i226_88 rfl
theorem i226_91 : insAt 226 91 = some (.aload_n 0, 1, (0, 0, 0, 0), 0) := rfl
theorem s226_91 {c : Nat → List AV → SS → Option Out} {l1 l2 l3 l4 l5 : Option AV} {o : OId} {L2 : List (Nat × AV)} {St : List AV} {S : SS} : ev c 226 91 [some (aR o), l1, l2, l3, l4, l5] L2 St S = ev c 226 92 [some (aR o), l1, l2, l3, l4, l5] L2 (aR o :: St) S := ev_go i226_91 rfl
theorem i226_92 : insAt 226 92 = some (.iload 4, 2, (0, 0, 0, 0), 0) := rfl
theorem s226_92 {c : Nat → List AV → SS → Option Out} {l0 l1 l2 l3 l5 : Option AV} {x : Int32} {L2 : List (Nat × AV)} {St : List AV} {S : SS} : ev c 226 92 [l0, l1, l2, l3, some (aI x), l5] L2 St S = ev c 226 94 [l0, l1, l2, l3, some (aI x), l5] L2 (aI x :: St) S := ev_go i226_92 rfl
theorem i226_94 : insAt 226 94 = some (.invokevirtual 161, 3, (246, 1, 2, 12), 0) := rfl
theorem s226_94 {c : Nat → List AV → SS → Option Out} {l0 l1 l2 l3 l4 l5 : Option AV} {a0 : Int32} {j t : Nat} {L2 : List (Nat × AV)} {S : SS} : ev c 226 94 [l0, l1, l2, l3, l4, l5] L2 [aI a0, aR (12, j, t)] S = ck (c 246 [aR (12, j, t), aI a0] S) (fun v S' => ev c 226 97 [l0, l1, l2, l3, l4, l5] L2 (v.toList ++ []) S') := ev_call i226_94 rfl
theorem i226_97 : insAt 226 97 = some (.aload_n 0, 1, (0, 0, 0, 0), 0) := rfl
theorem s226_97 {c : Nat → List AV → SS → Option Out} {l1 l2 l3 l4 l5 : Option AV} {o : OId} {L2 : List (Nat × AV)} {St : List AV} {S : SS} : ev c 226 97 [some (aR o), l1, l2, l3, l4, l5] L2 St S = ev c 226 98 [some (aR o), l1, l2, l3, l4, l5] L2 (aR o :: St) S := ev_go i226_97 rfl
theorem i226_98 : insAt 226 98 = some (.iload_n 1, 1, (0, 0, 0, 0), 0) := rfl
theorem s226_98 {c : Nat → List AV → SS → Option Out} {l0 l2 l3 l4 l5 : Option AV} {x : Int32} {L2 : List (Nat × AV)} {St : List AV} {S : SS} : ev c 226 98 [l0, some (aI x), l2, l3, l4, l5] L2 St S = ev c 226 99 [l0, some (aI x), l2, l3, l4, l5] L2 (aI x :: St) S := ev_go i226_98 rfl
theorem i226_99 : insAt 226 99 = some (.iload_n 2, 1, (0, 0, 0, 0), 0) := rfl
theorem s226_99 {c : Nat → List AV → SS → Option Out} {l0 l1 l3 l4 l5 : Option AV} {x : Int32} {L2 : List (Nat × AV)} {St : List AV} {S : SS} : ev c 226 99 [l0, l1, some (aI x), l3, l4, l5] L2 St S = ev c 226 100 [l0, l1, some (aI x), l3, l4, l5] L2 (aI x :: St) S := ev_go i226_99 rfl
theorem i226_100 : insAt 226 100 = some (.aload_n 0, 1, (0, 0, 0, 0), 0) := rfl
theorem s226_100 {c : Nat → List AV → SS → Option Out} {l1 l2 l3 l4 l5 : Option AV} {o : OId} {L2 : List (Nat × AV)} {St : List AV} {S : SS} : ev c 226 100 [some (aR o), l1, l2, l3, l4, l5] L2 St S = ev c 226 101 [some (aR o), l1, l2, l3, l4, l5] L2 (aR o :: St) S := ev_go i226_100 rfl
theorem i226_101 : insAt 226 101 = some (.getfield 53, 3, (12, 14, 0, 0), 0) := rfl
theorem s226_101 {c : Nat → List AV → SS → Option Out} {l0 l1 l2 l3 l4 l5 : Option AV} {j t : Nat} {L2 : List (Nat × AV)} {St : List AV} {S : SS} : ev c 226 101 [l0, l1, l2, l3, l4, l5] L2 (aR (12, j, t) :: St) S = ev c 226 104 [l0, l1, l2, l3, l4, l5] L2 (aI (S.1 (12, j, t) 14) :: St) S := ev_go i226_101 rfl
theorem i226_104 : insAt 226 104 = some (.iload_n 3, 1, (0, 0, 0, 0), 0) := rfl
theorem s226_104 {c : Nat → List AV → SS → Option Out} {l0 l1 l2 l4 l5 : Option AV} {x : Int32} {L2 : List (Nat × AV)} {St : List AV} {S : SS} : ev c 226 104 [l0, l1, l2, some (aI x), l4, l5] L2 St S = ev c 226 105 [l0, l1, l2, some (aI x), l4, l5] L2 (aI x :: St) S := ev_go i226_104 rfl
theorem i226_105 : insAt 226 105 = some (.iconst 1, 1, (0, 0, 0, 0), 0) := rfl
theorem s226_105 {c : Nat → List AV → SS → Option Out} {l0 l1 l2 l3 l4 l5 : Option AV} {L2 : List (Nat × AV)} {St : List AV} {S : SS} : ev c 226 105 [l0, l1, l2, l3, l4, l5] L2 St S = ev c 226 106 [l0, l1, l2, l3, l4, l5] L2 (aI 1 :: St) S := ev_go i226_105 rfl
theorem i226_106 : insAt 226 106 = some (.invokevirtual 164, 3, (247, 5, 2, 12), 0) := rfl
theorem s226_106 {c : Nat → List AV → SS → Option Out} {l0 l1 l2 l3 l4 l5 : Option AV} {a0 : Int32} {a1 : Int32} {a2 : Int32} {a3 : Int32} {a4 : Int32} {j t : Nat} {L2 : List (Nat × AV)} {S : SS} : ev c 226 106 [l0, l1, l2, l3, l4, l5] L2 [aI a4, aI a3, aI a2, aI a1, aI a0, aR (12, j, t)] S = ck (c 247 [aR (12, j, t), aI a0, aI a1, aI a2, aI a3, aI a4] S) (fun v S' => ev c 226 109 [l0, l1, l2, l3, l4, l5] L2 (v.toList ++ []) S') := ev_call i226_106 rfl
theorem i226_109 : insAt 226 109 = some (.istore 5, 2, (0, 0, 0, 0), 0) := rfl
theorem s226_109 {c : Nat → List AV → SS → Option Out} {l0 l1 l2 l3 l4 l5 : Option AV} {x : Int32} {L2 : List (Nat × AV)} {St : List AV} {S : SS} : ev c 226 109 [l0, l1, l2, l3, l4, l5] L2 (aI x :: St) S = ev c 226 111 [l0, l1, l2, l3, l4, some (aI x)] (kil L2 5) St S := ev_go i226_109 rfl
theorem i226_111 : insAt 226 111 = some (.aload_n 0, 1, (0, 0, 0, 0), 0) := rfl
theorem s226_111 {c : Nat → List AV → SS → Option Out} {l1 l2 l3 l4 l5 : Option AV} {o : OId} {L2 : List (Nat × AV)} {St : List AV} {S : SS} : ev c 226 111 [some (aR o), l1, l2, l3, l4, l5] L2 St S = ev c 226 112 [some (aR o), l1, l2, l3, l4, l5] L2 (aR o :: St) S := ev_go i226_111 rfl
theorem i226_112 : insAt 226 112 = some (.invokevirtual 167, 3, (249, 0, 2, 12), 0) := rfl
theorem s226_112 {c : Nat → List AV → SS → Option Out} {l0 l1 l2 l3 l4 l5 : Option AV} {j t : Nat} {L2 : List (Nat × AV)} {S : SS} : ev c 226 112 [l0, l1, l2, l3, l4, l5] L2 [aR (12, j, t)] S = ck (c 249 [aR (12, j, t)] S) (fun v S' => ev c 226 115 [l0, l1, l2, l3, l4, l5] L2 (v.toList ++ []) S') := ev_call i226_112 rfl
theorem i226_115 : insAt 226 115 = some (.iload 5, 2, (0, 0, 0, 0), 0) := rfl
theorem s226_115 {c : Nat → List AV → SS → Option Out} {l0 l1 l2 l3 l4 : Option AV} {x : Int32} {L2 : List (Nat × AV)} {St : List AV} {S : SS} : ev c 226 115 [l0, l1, l2, l3, l4, some (aI x)] L2 St S = ev c 226 117 [l0, l1, l2, l3, l4, some (aI x)] L2 (aI x :: St) S := ev_go i226_115 rfl
theorem i226_117 : insAt 226 117 = some (.ireturn, 1, (0, 0, 0, 0), 0) := rfl
theorem s226_117 {c : Nat → List AV → SS → Option Out} {l0 l1 l2 l3 l4 l5 : Option AV} {x : Int32} {L2 : List (Nat × AV)} {St : List AV} {S : SS} : ev c 226 117 [l0, l1, l2, l3, l4, l5] L2 [aI x] S = some (.inl (some (aI x)), S) := ev_end i226_117 rfl
theorem m226 {d : Nat} {o : OId} {a0 : Int32} {a1 : Int32} {a2 : Int32} {S : SS} : evm (d + 1) 226 [aR o, aI a0, aI a1, aI a2] S = ev (evm d) 226 0 [some (aR o), some (aI a0), some (aI a1), some (aI a2), none, none] [] [] S := evm_s (n := 6) rfl (Nat.le_of_ble_eq_true rfl) rfl rfl
/-! FrequencyOfficeModel.isPoint(II)Z -/
theorem i227_0 : insAt 227 0 = some (.iload_n 0, 1, (0, 0, 0, 0), 0) := rfl
theorem s227_0 {c : Nat → List AV → SS → Option Out} {l1 : Option AV} {x : Int32} {L2 : List (Nat × AV)} {St : List AV} {S : SS} : ev c 227 0 [some (aI x), l1] L2 St S = ev c 227 1 [some (aI x), l1] L2 (aI x :: St) S := ev_go i227_0 rfl
theorem i227_1 : insAt 227 1 = some (.iconst 0, 1, (0, 0, 0, 0), 0) := rfl
theorem s227_1 {c : Nat → List AV → SS → Option Out} {l0 l1 : Option AV} {L2 : List (Nat × AV)} {St : List AV} {S : SS} : ev c 227 1 [l0, l1] L2 St S = ev c 227 2 [l0, l1] L2 (aI 0 :: St) S := ev_go i227_1 rfl
theorem i227_2 : insAt 227 2 = some (.bipush 99, 2, (0, 0, 0, 0), 0) := rfl
theorem s227_2 {c : Nat → List AV → SS → Option Out} {l0 l1 : Option AV} {L2 : List (Nat × AV)} {St : List AV} {S : SS} : ev c 227 2 [l0, l1] L2 St S = ev c 227 4 [l0, l1] L2 (aI 99 :: St) S := ev_go i227_2 rfl
theorem i227_4 : insAt 227 4 = some (.invokestatic 154, 3, (228, 3, 0, 0), 0) := rfl
theorem s227_4 {c : Nat → List AV → SS → Option Out} {l0 l1 : Option AV} {a0 : Int32} {a1 : Int32} {a2 : Int32} {L2 : List (Nat × AV)} {S : SS} : ev c 227 4 [l0, l1] L2 [aI a2, aI a1, aI a0] S = ck (c 228 [aI a0, aI a1, aI a2] S) (fun v S' => ev c 227 7 [l0, l1] L2 (v.toList ++ []) S') := ev_call i227_4 rfl
theorem i227_7 : insAt 227 7 = some (.ifCond .eq 17, 3, (0, 0, 0, 0), 0) := rfl
theorem s227_7 {c : Nat → List AV → SS → Option Out} {l0 l1 : Option AV} {x : Int32} {L2 : List (Nat × AV)} {St : List AV} {S : SS} : ev c 227 7 [l0, l1] L2 (aI x :: St) S = if x = 0 then ev c 227 24 [l0, l1] L2 St S else ev c 227 10 [l0, l1] L2 St S := ev_br i227_7 rfl
theorem i227_10 : insAt 227 10 = some (.iload_n 1, 1, (0, 0, 0, 0), 0) := rfl
theorem s227_10 {c : Nat → List AV → SS → Option Out} {l0 : Option AV} {x : Int32} {L2 : List (Nat × AV)} {St : List AV} {S : SS} : ev c 227 10 [l0, some (aI x)] L2 St S = ev c 227 11 [l0, some (aI x)] L2 (aI x :: St) S := ev_go i227_10 rfl
theorem i227_11 : insAt 227 11 = some (.iconst 0, 1, (0, 0, 0, 0), 0) := rfl
theorem s227_11 {c : Nat → List AV → SS → Option Out} {l0 l1 : Option AV} {L2 : List (Nat × AV)} {St : List AV} {S : SS} : ev c 227 11 [l0, l1] L2 St S = ev c 227 12 [l0, l1] L2 (aI 0 :: St) S := ev_go i227_11 rfl
theorem i227_12 : insAt 227 12 = some (.bipush 99, 2, (0, 0, 0, 0), 0) := rfl
theorem s227_12 {c : Nat → List AV → SS → Option Out} {l0 l1 : Option AV} {L2 : List (Nat × AV)} {St : List AV} {S : SS} : ev c 227 12 [l0, l1] L2 St S = ev c 227 14 [l0, l1] L2 (aI 99 :: St) S := ev_go i227_12 rfl
theorem i227_14 : insAt 227 14 = some (.invokestatic 154, 3, (228, 3, 0, 0), 0) := rfl
theorem s227_14 {c : Nat → List AV → SS → Option Out} {l0 l1 : Option AV} {a0 : Int32} {a1 : Int32} {a2 : Int32} {L2 : List (Nat × AV)} {S : SS} : ev c 227 14 [l0, l1] L2 [aI a2, aI a1, aI a0] S = ck (c 228 [aI a0, aI a1, aI a2] S) (fun v S' => ev c 227 17 [l0, l1] L2 (v.toList ++ []) S') := ev_call i227_14 rfl
theorem i227_17 : insAt 227 17 = some (.ifCond .eq 7, 3, (0, 0, 0, 0), 0) := rfl
theorem s227_17 {c : Nat → List AV → SS → Option Out} {l0 l1 : Option AV} {x : Int32} {L2 : List (Nat × AV)} {St : List AV} {S : SS} : ev c 227 17 [l0, l1] L2 (aI x :: St) S = if x = 0 then ev c 227 24 [l0, l1] L2 St S else ev c 227 20 [l0, l1] L2 St S := ev_br i227_17 rfl
theorem i227_20 : insAt 227 20 = some (.iconst 1, 1, (0, 0, 0, 0), 0) := rfl
theorem s227_20 {c : Nat → List AV → SS → Option Out} {l0 l1 : Option AV} {L2 : List (Nat × AV)} {St : List AV} {S : SS} : ev c 227 20 [l0, l1] L2 St S = ev c 227 21 [l0, l1] L2 (aI 1 :: St) S := ev_go i227_20 rfl
theorem i227_21 : insAt 227 21 = some (.goto 4, 3, (0, 0, 0, 0), 0) := rfl
theorem s227_21 {c : Nat → List AV → SS → Option Out} {l0 l1 : Option AV} {L2 : List (Nat × AV)} {St : List AV} {S : SS} : ev c 227 21 [l0, l1] L2 St S = ev c 227 25 [l0, l1] L2 St S := ev_go i227_21 rfl
theorem i227_24 : insAt 227 24 = some (.iconst 0, 1, (0, 0, 0, 0), 0) := rfl
theorem s227_24 {c : Nat → List AV → SS → Option Out} {l0 l1 : Option AV} {L2 : List (Nat × AV)} {St : List AV} {S : SS} : ev c 227 24 [l0, l1] L2 St S = ev c 227 25 [l0, l1] L2 (aI 0 :: St) S := ev_go i227_24 rfl
theorem i227_25 : insAt 227 25 = some (.ireturn, 1, (0, 0, 0, 0), 0) := rfl
theorem s227_25 {c : Nat → List AV → SS → Option Out} {l0 l1 : Option AV} {x : Int32} {L2 : List (Nat × AV)} {St : List AV} {S : SS} : ev c 227 25 [l0, l1] L2 [aI x] S = if x = 0 ∨ x = 1 then some (.inl (some (aI x)), S) else none := ev_rt i227_25 rfl
theorem m227 {d : Nat} {a0 : Int32} {a1 : Int32} {S : SS} : evm (d + 1) 227 [aI a0, aI a1] S = ev (evm d) 227 0 [some (aI a0), some (aI a1)] [] [] S := evm_s (n := 2) rfl (Nat.le_of_ble_eq_true rfl) rfl rfl
/-! FrequencyOfficeModel.in(III)Z -/
theorem i228_0 : insAt 228 0 = some (.iload_n 0, 1, (0, 0, 0, 0), 0) := rfl
theorem s228_0 {c : Nat → List AV → SS → Option Out} {l1 l2 : Option AV} {x : Int32} {L2 : List (Nat × AV)} {St : List AV} {S : SS} : ev c 228 0 [some (aI x), l1, l2] L2 St S = ev c 228 1 [some (aI x), l1, l2] L2 (aI x :: St) S := ev_go i228_0 rfl
theorem i228_1 : insAt 228 1 = some (.iload_n 1, 1, (0, 0, 0, 0), 0) := rfl
theorem s228_1 {c : Nat → List AV → SS → Option Out} {l0 l2 : Option AV} {x : Int32} {L2 : List (Nat × AV)} {St : List AV} {S : SS} : ev c 228 1 [l0, some (aI x), l2] L2 St S = ev c 228 2 [l0, some (aI x), l2] L2 (aI x :: St) S := ev_go i228_1 rfl
theorem i228_2 : insAt 228 2 = some (.if_icmp .lt 12, 3, (0, 0, 0, 0), 0) := rfl
theorem s228_2 {c : Nat → List AV → SS → Option Out} {l0 l1 l2 : Option AV} {x y : Int32} {L2 : List (Nat × AV)} {St : List AV} {S : SS} : ev c 228 2 [l0, l1, l2] L2 (aI y :: aI x :: St) S = if x < y then ev c 228 14 [l0, l1, l2] L2 St S else ev c 228 5 [l0, l1, l2] L2 St S := ev_br i228_2 rfl
theorem i228_5 : insAt 228 5 = some (.iload_n 0, 1, (0, 0, 0, 0), 0) := rfl
theorem s228_5 {c : Nat → List AV → SS → Option Out} {l1 l2 : Option AV} {x : Int32} {L2 : List (Nat × AV)} {St : List AV} {S : SS} : ev c 228 5 [some (aI x), l1, l2] L2 St S = ev c 228 6 [some (aI x), l1, l2] L2 (aI x :: St) S := ev_go i228_5 rfl
theorem i228_6 : insAt 228 6 = some (.iload_n 2, 1, (0, 0, 0, 0), 0) := rfl
theorem s228_6 {c : Nat → List AV → SS → Option Out} {l0 l1 : Option AV} {x : Int32} {L2 : List (Nat × AV)} {St : List AV} {S : SS} : ev c 228 6 [l0, l1, some (aI x)] L2 St S = ev c 228 7 [l0, l1, some (aI x)] L2 (aI x :: St) S := ev_go i228_6 rfl
theorem i228_7 : insAt 228 7 = some (.if_icmp .gt 7, 3, (0, 0, 0, 0), 0) := rfl
theorem s228_7 {c : Nat → List AV → SS → Option Out} {l0 l1 l2 : Option AV} {x y : Int32} {L2 : List (Nat × AV)} {St : List AV} {S : SS} : ev c 228 7 [l0, l1, l2] L2 (aI y :: aI x :: St) S = if y < x then ev c 228 14 [l0, l1, l2] L2 St S else ev c 228 10 [l0, l1, l2] L2 St S := ev_br i228_7 rfl
theorem i228_10 : insAt 228 10 = some (.iconst 1, 1, (0, 0, 0, 0), 0) := rfl
theorem s228_10 {c : Nat → List AV → SS → Option Out} {l0 l1 l2 : Option AV} {L2 : List (Nat × AV)} {St : List AV} {S : SS} : ev c 228 10 [l0, l1, l2] L2 St S = ev c 228 11 [l0, l1, l2] L2 (aI 1 :: St) S := ev_go i228_10 rfl
theorem i228_11 : insAt 228 11 = some (.goto 4, 3, (0, 0, 0, 0), 0) := rfl
theorem s228_11 {c : Nat → List AV → SS → Option Out} {l0 l1 l2 : Option AV} {L2 : List (Nat × AV)} {St : List AV} {S : SS} : ev c 228 11 [l0, l1, l2] L2 St S = ev c 228 15 [l0, l1, l2] L2 St S := ev_go i228_11 rfl
theorem i228_14 : insAt 228 14 = some (.iconst 0, 1, (0, 0, 0, 0), 0) := rfl
theorem s228_14 {c : Nat → List AV → SS → Option Out} {l0 l1 l2 : Option AV} {L2 : List (Nat × AV)} {St : List AV} {S : SS} : ev c 228 14 [l0, l1, l2] L2 St S = ev c 228 15 [l0, l1, l2] L2 (aI 0 :: St) S := ev_go i228_14 rfl
theorem i228_15 : insAt 228 15 = some (.ireturn, 1, (0, 0, 0, 0), 0) := rfl
theorem s228_15 {c : Nat → List AV → SS → Option Out} {l0 l1 l2 : Option AV} {x : Int32} {L2 : List (Nat × AV)} {St : List AV} {S : SS} : ev c 228 15 [l0, l1, l2] L2 [aI x] S = if x = 0 ∨ x = 1 then some (.inl (some (aI x)), S) else none := ev_rt i228_15 rfl
theorem m228 {d : Nat} {a0 : Int32} {a1 : Int32} {a2 : Int32} {S : SS} : evm (d + 1) 228 [aI a0, aI a1, aI a2] S = ev (evm d) 228 0 [some (aI a0), some (aI a1), some (aI a2)] [] [] S := evm_s (n := 3) rfl (Nat.le_of_ble_eq_true rfl) rfl rfl
/-! FrequencyOfficeModel.planFor(IIIII)I -/
theorem i229_0 : insAt 229 0 = some (.aload_n 0, 1, (0, 0, 0, 0), 0) := rfl
theorem s229_0 {c : Nat → List AV → SS → Option Out} {l1 l2 l3 l4 l5 l6 l7 : Option AV} {o : OId} {L2 : List (Nat × AV)} {St : List AV} {S : SS} : ev c 229 0 [some (aR o), l1, l2, l3, l4, l5, l6, l7] L2 St S = ev c 229 1 [some (aR o), l1, l2, l3, l4, l5, l6, l7] L2 (aR o :: St) S := ev_go i229_0 rfl
theorem i229_1 : insAt 229 1 = some (.iload_n 1, 1, (0, 0, 0, 0), 0) := rfl
theorem s229_1 {c : Nat → List AV → SS → Option Out} {l0 l2 l3 l4 l5 l6 l7 : Option AV} {x : Int32} {L2 : List (Nat × AV)} {St : List AV} {S : SS} : ev c 229 1 [l0, some (aI x), l2, l3, l4, l5, l6, l7] L2 St S = ev c 229 2 [l0, some (aI x), l2, l3, l4, l5, l6, l7] L2 (aI x :: St) S := ev_go i229_1 rfl
theorem i229_2 : insAt 229 2 = some (.putfield 41, 3, (12, 10, 0, 0), 0) := rfl
theorem s229_2 {c : Nat → List AV → SS → Option Out} {l0 l1 l2 l3 l4 l5 l6 l7 : Option AV} {j t : Nat} {x : Int32} {L2 : List (Nat × AV)} {St : List AV} {S : SS} : ev c 229 2 [l0, l1, l2, l3, l4, l5, l6, l7] L2 (aI x :: aR (12, j, t) :: St) S = ev c 229 5 [l0, l1, l2, l3, l4, l5, l6, l7] L2 St (setI S.1 (12, j, t) 10 x, S.2) := ev_go i229_2 rfl
theorem i229_5 : insAt 229 5 = some (.aload_n 0, 1, (0, 0, 0, 0), 0) := rfl
theorem s229_5 {c : Nat → List AV → SS → Option Out} {l1 l2 l3 l4 l5 l6 l7 : Option AV} {o : OId} {L2 : List (Nat × AV)} {St : List AV} {S : SS} : ev c 229 5 [some (aR o), l1, l2, l3, l4, l5, l6, l7] L2 St S = ev c 229 6 [some (aR o), l1, l2, l3, l4, l5, l6, l7] L2 (aR o :: St) S := ev_go i229_5 rfl
theorem i229_6 : insAt 229 6 = some (.iload_n 2, 1, (0, 0, 0, 0), 0) := rfl
theorem s229_6 {c : Nat → List AV → SS → Option Out} {l0 l1 l3 l4 l5 l6 l7 : Option AV} {x : Int32} {L2 : List (Nat × AV)} {St : List AV} {S : SS} : ev c 229 6 [l0, l1, some (aI x), l3, l4, l5, l6, l7] L2 St S = ev c 229 7 [l0, l1, some (aI x), l3, l4, l5, l6, l7] L2 (aI x :: St) S := ev_go i229_6 rfl
theorem i229_7 : insAt 229 7 = some (.putfield 44, 3, (12, 11, 0, 0), 0) := rfl
theorem s229_7 {c : Nat → List AV → SS → Option Out} {l0 l1 l2 l3 l4 l5 l6 l7 : Option AV} {j t : Nat} {x : Int32} {L2 : List (Nat × AV)} {St : List AV} {S : SS} : ev c 229 7 [l0, l1, l2, l3, l4, l5, l6, l7] L2 (aI x :: aR (12, j, t) :: St) S = ev c 229 10 [l0, l1, l2, l3, l4, l5, l6, l7] L2 St (setI S.1 (12, j, t) 11 x, S.2) := ev_go i229_7 rfl
theorem i229_10 : insAt 229 10 = some (.aload_n 0, 1, (0, 0, 0, 0), 0) := rfl
theorem s229_10 {c : Nat → List AV → SS → Option Out} {l1 l2 l3 l4 l5 l6 l7 : Option AV} {o : OId} {L2 : List (Nat × AV)} {St : List AV} {S : SS} : ev c 229 10 [some (aR o), l1, l2, l3, l4, l5, l6, l7] L2 St S = ev c 229 11 [some (aR o), l1, l2, l3, l4, l5, l6, l7] L2 (aR o :: St) S := ev_go i229_10 rfl
theorem i229_11 : insAt 229 11 = some (.iload_n 3, 1, (0, 0, 0, 0), 0) := rfl
theorem s229_11 {c : Nat → List AV → SS → Option Out} {l0 l1 l2 l4 l5 l6 l7 : Option AV} {x : Int32} {L2 : List (Nat × AV)} {St : List AV} {S : SS} : ev c 229 11 [l0, l1, l2, some (aI x), l4, l5, l6, l7] L2 St S = ev c 229 12 [l0, l1, l2, some (aI x), l4, l5, l6, l7] L2 (aI x :: St) S := ev_go i229_11 rfl
theorem i229_12 : insAt 229 12 = some (.putfield 38, 3, (12, 9, 0, 0), 0) := rfl
theorem s229_12 {c : Nat → List AV → SS → Option Out} {l0 l1 l2 l3 l4 l5 l6 l7 : Option AV} {j t : Nat} {x : Int32} {L2 : List (Nat × AV)} {St : List AV} {S : SS} : ev c 229 12 [l0, l1, l2, l3, l4, l5, l6, l7] L2 (aI x :: aR (12, j, t) :: St) S = ev c 229 15 [l0, l1, l2, l3, l4, l5, l6, l7] L2 St (setI S.1 (12, j, t) 9 x, S.2) := ev_go i229_12 rfl
theorem i229_15 : insAt 229 15 = some (.aload_n 0, 1, (0, 0, 0, 0), 0) := rfl
theorem s229_15 {c : Nat → List AV → SS → Option Out} {l1 l2 l3 l4 l5 l6 l7 : Option AV} {o : OId} {L2 : List (Nat × AV)} {St : List AV} {S : SS} : ev c 229 15 [some (aR o), l1, l2, l3, l4, l5, l6, l7] L2 St S = ev c 229 16 [some (aR o), l1, l2, l3, l4, l5, l6, l7] L2 (aR o :: St) S := ev_go i229_15 rfl
theorem i229_16 : insAt 229 16 = some (.iload 4, 2, (0, 0, 0, 0), 0) := rfl
theorem s229_16 {c : Nat → List AV → SS → Option Out} {l0 l1 l2 l3 l5 l6 l7 : Option AV} {x : Int32} {L2 : List (Nat × AV)} {St : List AV} {S : SS} : ev c 229 16 [l0, l1, l2, l3, some (aI x), l5, l6, l7] L2 St S = ev c 229 18 [l0, l1, l2, l3, some (aI x), l5, l6, l7] L2 (aI x :: St) S := ev_go i229_16 rfl
theorem i229_18 : insAt 229 18 = some (.putfield 47, 3, (12, 12, 0, 0), 0) := rfl
theorem s229_18 {c : Nat → List AV → SS → Option Out} {l0 l1 l2 l3 l4 l5 l6 l7 : Option AV} {j t : Nat} {x : Int32} {L2 : List (Nat × AV)} {St : List AV} {S : SS} : ev c 229 18 [l0, l1, l2, l3, l4, l5, l6, l7] L2 (aI x :: aR (12, j, t) :: St) S = ev c 229 21 [l0, l1, l2, l3, l4, l5, l6, l7] L2 St (setI S.1 (12, j, t) 12 x, S.2) := ev_go i229_18 rfl
theorem i229_21 : insAt 229 21 = some (.aload_n 0, 1, (0, 0, 0, 0), 0) := rfl
theorem s229_21 {c : Nat → List AV → SS → Option Out} {l1 l2 l3 l4 l5 l6 l7 : Option AV} {o : OId} {L2 : List (Nat × AV)} {St : List AV} {S : SS} : ev c 229 21 [some (aR o), l1, l2, l3, l4, l5, l6, l7] L2 St S = ev c 229 22 [some (aR o), l1, l2, l3, l4, l5, l6, l7] L2 (aR o :: St) S := ev_go i229_21 rfl
theorem i229_22 : insAt 229 22 = some (.iload 5, 2, (0, 0, 0, 0), 0) := rfl
theorem s229_22 {c : Nat → List AV → SS → Option Out} {l0 l1 l2 l3 l4 l6 l7 : Option AV} {x : Int32} {L2 : List (Nat × AV)} {St : List AV} {S : SS} : ev c 229 22 [l0, l1, l2, l3, l4, some (aI x), l6, l7] L2 St S = ev c 229 24 [l0, l1, l2, l3, l4, some (aI x), l6, l7] L2 (aI x :: St) S := ev_go i229_22 rfl
theorem i229_24 : insAt 229 24 = some (.putfield 50, 3, (12, 13, 0, 0), 0) := rfl
theorem s229_24 {c : Nat → List AV → SS → Option Out} {l0 l1 l2 l3 l4 l5 l6 l7 : Option AV} {j t : Nat} {x : Int32} {L2 : List (Nat × AV)} {St : List AV} {S : SS} : ev c 229 24 [l0, l1, l2, l3, l4, l5, l6, l7] L2 (aI x :: aR (12, j, t) :: St) S = ev c 229 27 [l0, l1, l2, l3, l4, l5, l6, l7] L2 St (setI S.1 (12, j, t) 13 x, S.2) := ev_go i229_24 rfl
theorem i229_27 : insAt 229 27 = some (.iconst 0, 1, (0, 0, 0, 0), 0) := rfl
theorem s229_27 {c : Nat → List AV → SS → Option Out} {l0 l1 l2 l3 l4 l5 l6 l7 : Option AV} {L2 : List (Nat × AV)} {St : List AV} {S : SS} : ev c 229 27 [l0, l1, l2, l3, l4, l5, l6, l7] L2 St S = ev c 229 28 [l0, l1, l2, l3, l4, l5, l6, l7] L2 (aI 0 :: St) S := ev_go i229_27 rfl
theorem i229_28 : insAt 229 28 = some (.istore 6, 2, (0, 0, 0, 0), 0) := rfl
theorem s229_28 {c : Nat → List AV → SS → Option Out} {l0 l1 l2 l3 l4 l5 l6 l7 : Option AV} {x : Int32} {L2 : List (Nat × AV)} {St : List AV} {S : SS} : ev c 229 28 [l0, l1, l2, l3, l4, l5, l6, l7] L2 (aI x :: St) S = ev c 229 30 [l0, l1, l2, l3, l4, l5, some (aI x), l7] (kil L2 6) St S := ev_go i229_28 rfl
theorem i229_30 : insAt 229 30 = some (.iload 6, 2, (0, 0, 0, 0), 0) := rfl
theorem s229_30 {c : Nat → List AV → SS → Option Out} {l0 l1 l2 l3 l4 l5 l7 : Option AV} {x : Int32} {L2 : List (Nat × AV)} {St : List AV} {S : SS} : ev c 229 30 [l0, l1, l2, l3, l4, l5, some (aI x), l7] L2 St S = ev c 229 32 [l0, l1, l2, l3, l4, l5, some (aI x), l7] L2 (aI x :: St) S := ev_go i229_30 rfl
theorem i229_32 : insAt 229 32 = some (.iconst 3, 1, (0, 0, 0, 0), 0) := rfl
theorem s229_32 {c : Nat → List AV → SS → Option Out} {l0 l1 l2 l3 l4 l5 l6 l7 : Option AV} {L2 : List (Nat × AV)} {St : List AV} {S : SS} : ev c 229 32 [l0, l1, l2, l3, l4, l5, l6, l7] L2 St S = ev c 229 33 [l0, l1, l2, l3, l4, l5, l6, l7] L2 (aI 3 :: St) S := ev_go i229_32 rfl
theorem i229_33 : insAt 229 33 = some (.if_icmp .ge 54, 3, (0, 0, 0, 0), 0) := rfl
theorem s229_33 {c : Nat → List AV → SS → Option Out} {l0 l1 l2 l3 l4 l5 l6 l7 : Option AV} {x y : Int32} {L2 : List (Nat × AV)} {St : List AV} {S : SS} : ev c 229 33 [l0, l1, l2, l3, l4, l5, l6, l7] L2 (aI y :: aI x :: St) S = if y ≤ x then ev c 229 87 [l0, l1, l2, l3, l4, l5, l6, l7] L2 St S else ev c 229 36 [l0, l1, l2, l3, l4, l5, l6, l7] L2 St S := ev_br i229_33 rfl
theorem i229_36 : insAt 229 36 = some (.aload_n 0, 1, (0, 0, 0, 0), 0) := rfl
theorem s229_36 {c : Nat → List AV → SS → Option Out} {l1 l2 l3 l4 l5 l6 l7 : Option AV} {o : OId} {L2 : List (Nat × AV)} {St : List AV} {S : SS} : ev c 229 36 [some (aR o), l1, l2, l3, l4, l5, l6, l7] L2 St S = ev c 229 37 [some (aR o), l1, l2, l3, l4, l5, l6, l7] L2 (aR o :: St) S := ev_go i229_36 rfl
theorem i229_37 : insAt 229 37 = some (.aload_n 0, 1, (0, 0, 0, 0), 0) := rfl
theorem s229_37 {c : Nat → List AV → SS → Option Out} {l1 l2 l3 l4 l5 l6 l7 : Option AV} {o : OId} {L2 : List (Nat × AV)} {St : List AV} {S : SS} : ev c 229 37 [some (aR o), l1, l2, l3, l4, l5, l6, l7] L2 St S = ev c 229 38 [some (aR o), l1, l2, l3, l4, l5, l6, l7] L2 (aR o :: St) S := ev_go i229_37 rfl
theorem i229_38 : insAt 229 38 = some (.getfield 7, 3, (12, 0, 0, 0), 0) := rfl
theorem s229_38 {c : Nat → List AV → SS → Option Out} {l0 l1 l2 l3 l4 l5 l6 l7 : Option AV} {j t : Nat} {L2 : List (Nat × AV)} {St : List AV} {S : SS} : ev c 229 38 [l0, l1, l2, l3, l4, l5, l6, l7] L2 (aR (12, j, t) :: St) S = ev c 229 41 [l0, l1, l2, l3, l4, l5, l6, l7] L2 (S.2.2.1 (12, j, t) 0 :: St) S := ev_go i229_38 rfl
theorem i229_41 : insAt 229 41 = some (.iconst 0, 1, (0, 0, 0, 0), 0) := rfl
theorem s229_41 {c : Nat → List AV → SS → Option Out} {l0 l1 l2 l3 l4 l5 l6 l7 : Option AV} {L2 : List (Nat × AV)} {St : List AV} {S : SS} : ev c 229 41 [l0, l1, l2, l3, l4, l5, l6, l7] L2 St S = ev c 229 42 [l0, l1, l2, l3, l4, l5, l6, l7] L2 (aI 0 :: St) S := ev_go i229_41 rfl
theorem i229_42 : insAt 229 42 = some (.aload_n 0, 1, (0, 0, 0, 0), 0) := rfl
theorem s229_42 {c : Nat → List AV → SS → Option Out} {l1 l2 l3 l4 l5 l6 l7 : Option AV} {o : OId} {L2 : List (Nat × AV)} {St : List AV} {S : SS} : ev c 229 42 [some (aR o), l1, l2, l3, l4, l5, l6, l7] L2 St S = ev c 229 43 [some (aR o), l1, l2, l3, l4, l5, l6, l7] L2 (aR o :: St) S := ev_go i229_42 rfl
theorem i229_43 : insAt 229 43 = some (.getfield 19, 3, (12, 3, 0, 0), 0) := rfl
theorem s229_43 {c : Nat → List AV → SS → Option Out} {l0 l1 l2 l3 l4 l5 l6 l7 : Option AV} {j t : Nat} {L2 : List (Nat × AV)} {St : List AV} {S : SS} : ev c 229 43 [l0, l1, l2, l3, l4, l5, l6, l7] L2 (aR (12, j, t) :: St) S = ev c 229 46 [l0, l1, l2, l3, l4, l5, l6, l7] L2 (S.2.2.1 (12, j, t) 3 :: St) S := ev_go i229_43 rfl
theorem i229_46 : insAt 229 46 = some (.iconst 0, 1, (0, 0, 0, 0), 0) := rfl
theorem s229_46 {c : Nat → List AV → SS → Option Out} {l0 l1 l2 l3 l4 l5 l6 l7 : Option AV} {L2 : List (Nat × AV)} {St : List AV} {S : SS} : ev c 229 46 [l0, l1, l2, l3, l4, l5, l6, l7] L2 St S = ev c 229 47 [l0, l1, l2, l3, l4, l5, l6, l7] L2 (aI 0 :: St) S := ev_go i229_46 rfl
theorem i229_47 : insAt 229 47 = some (.invokevirtual 71, 3, (221, 4, 2, 12), 0) := rfl
theorem s229_47 {c : Nat → List AV → SS → Option Out} {l0 l1 l2 l3 l4 l5 l6 l7 : Option AV} {a0 : OId} {a1 : Int32} {a2 : OId} {a3 : Int32} {j t : Nat} {L2 : List (Nat × AV)} {S : SS} : ev c 229 47 [l0, l1, l2, l3, l4, l5, l6, l7] L2 [aI a3, aR a2, aI a1, aR a0, aR (12, j, t)] S = ck (c 221 [aR (12, j, t), aR a0, aI a1, aR a2, aI a3] S) (fun v S' => ev c 229 50 [l0, l1, l2, l3, l4, l5, l6, l7] L2 (v.toList ++ []) S') := ev_call i229_47 rfl
theorem i229_50 : insAt 229 50 = some (.aload_n 0, 1, (0, 0, 0, 0), 0) := rfl
theorem s229_50 {c : Nat → List AV → SS → Option Out} {l1 l2 l3 l4 l5 l6 l7 : Option AV} {o : OId} {L2 : List (Nat × AV)} {St : List AV} {S : SS} : ev c 229 50 [some (aR o), l1, l2, l3, l4, l5, l6, l7] L2 St S = ev c 229 51 [some (aR o), l1, l2, l3, l4, l5, l6, l7] L2 (aR o :: St) S := ev_go i229_50 rfl
theorem i229_51 : insAt 229 51 = some (.iconst 0, 1, (0, 0, 0, 0), 0) := rfl
theorem s229_51 {c : Nat → List AV → SS → Option Out} {l0 l1 l2 l3 l4 l5 l6 l7 : Option AV} {L2 : List (Nat × AV)} {St : List AV} {S : SS} : ev c 229 51 [l0, l1, l2, l3, l4, l5, l6, l7] L2 St S = ev c 229 52 [l0, l1, l2, l3, l4, l5, l6, l7] L2 (aI 0 :: St) S := ev_go i229_51 rfl
theorem i229_52 : insAt 229 52 = some (.iload 6, 2, (0, 0, 0, 0), 0) := rfl
theorem s229_52 {c : Nat → List AV → SS → Option Out} {l0 l1 l2 l3 l4 l5 l7 : Option AV} {x : Int32} {L2 : List (Nat × AV)} {St : List AV} {S : SS} : ev c 229 52 [l0, l1, l2, l3, l4, l5, some (aI x), l7] L2 St S = ev c 229 54 [l0, l1, l2, l3, l4, l5, some (aI x), l7] L2 (aI x :: St) S := ev_go i229_52 rfl
theorem i229_54 : insAt 229 54 = some (.invokevirtual 137, 3, (230, 2, 2, 12), 0) := rfl
theorem s229_54 {c : Nat → List AV → SS → Option Out} {l0 l1 l2 l3 l4 l5 l6 l7 : Option AV} {a0 : Int32} {a1 : Int32} {j t : Nat} {L2 : List (Nat × AV)} {S : SS} : ev c 229 54 [l0, l1, l2, l3, l4, l5, l6, l7] L2 [aI a1, aI a0, aR (12, j, t)] S = ck (c 230 [aR (12, j, t), aI a0, aI a1] S) (fun v S' => ev c 229 57 [l0, l1, l2, l3, l4, l5, l6, l7] L2 (v.toList ++ []) S') := ev_call i229_54 rfl
theorem i229_57 : insAt 229 57 = some (.istore 7, 2, (0, 0, 0, 0), 0) := rfl
theorem s229_57 {c : Nat → List AV → SS → Option Out} {l0 l1 l2 l3 l4 l5 l6 l7 : Option AV} {x : Int32} {L2 : List (Nat × AV)} {St : List AV} {S : SS} : ev c 229 57 [l0, l1, l2, l3, l4, l5, l6, l7] L2 (aI x :: St) S = ev c 229 59 [l0, l1, l2, l3, l4, l5, l6, some (aI x)] (kil L2 7) St S := ev_go i229_57 rfl
theorem i229_59 : insAt 229 59 = some (.aload_n 0, 1, (0, 0, 0, 0), 0) := rfl
theorem s229_59 {c : Nat → List AV → SS → Option Out} {l1 l2 l3 l4 l5 l6 l7 : Option AV} {o : OId} {L2 : List (Nat × AV)} {St : List AV} {S : SS} : ev c 229 59 [some (aR o), l1, l2, l3, l4, l5, l6, l7] L2 St S = ev c 229 60 [some (aR o), l1, l2, l3, l4, l5, l6, l7] L2 (aR o :: St) S := ev_go i229_59 rfl
theorem i229_60 : insAt 229 60 = some (.aload_n 0, 1, (0, 0, 0, 0), 0) := rfl
theorem s229_60 {c : Nat → List AV → SS → Option Out} {l1 l2 l3 l4 l5 l6 l7 : Option AV} {o : OId} {L2 : List (Nat × AV)} {St : List AV} {S : SS} : ev c 229 60 [some (aR o), l1, l2, l3, l4, l5, l6, l7] L2 St S = ev c 229 61 [some (aR o), l1, l2, l3, l4, l5, l6, l7] L2 (aR o :: St) S := ev_go i229_60 rfl
theorem i229_61 : insAt 229 61 = some (.getfield 19, 3, (12, 3, 0, 0), 0) := rfl
theorem s229_61 {c : Nat → List AV → SS → Option Out} {l0 l1 l2 l3 l4 l5 l6 l7 : Option AV} {j t : Nat} {L2 : List (Nat × AV)} {St : List AV} {S : SS} : ev c 229 61 [l0, l1, l2, l3, l4, l5, l6, l7] L2 (aR (12, j, t) :: St) S = ev c 229 64 [l0, l1, l2, l3, l4, l5, l6, l7] L2 (S.2.2.1 (12, j, t) 3 :: St) S := ev_go i229_61 rfl
theorem i229_64 : insAt 229 64 = some (.iconst 0, 1, (0, 0, 0, 0), 0) := rfl
theorem s229_64 {c : Nat → List AV → SS → Option Out} {l0 l1 l2 l3 l4 l5 l6 l7 : Option AV} {L2 : List (Nat × AV)} {St : List AV} {S : SS} : ev c 229 64 [l0, l1, l2, l3, l4, l5, l6, l7] L2 St S = ev c 229 65 [l0, l1, l2, l3, l4, l5, l6, l7] L2 (aI 0 :: St) S := ev_go i229_64 rfl
theorem i229_65 : insAt 229 65 = some (.aload_n 0, 1, (0, 0, 0, 0), 0) := rfl
theorem s229_65 {c : Nat → List AV → SS → Option Out} {l1 l2 l3 l4 l5 l6 l7 : Option AV} {o : OId} {L2 : List (Nat × AV)} {St : List AV} {S : SS} : ev c 229 65 [some (aR o), l1, l2, l3, l4, l5, l6, l7] L2 St S = ev c 229 66 [some (aR o), l1, l2, l3, l4, l5, l6, l7] L2 (aR o :: St) S := ev_go i229_65 rfl
theorem i229_66 : insAt 229 66 = some (.getfield 7, 3, (12, 0, 0, 0), 0) := rfl
theorem s229_66 {c : Nat → List AV → SS → Option Out} {l0 l1 l2 l3 l4 l5 l6 l7 : Option AV} {j t : Nat} {L2 : List (Nat × AV)} {St : List AV} {S : SS} : ev c 229 66 [l0, l1, l2, l3, l4, l5, l6, l7] L2 (aR (12, j, t) :: St) S = ev c 229 69 [l0, l1, l2, l3, l4, l5, l6, l7] L2 (S.2.2.1 (12, j, t) 0 :: St) S := ev_go i229_66 rfl
theorem i229_69 : insAt 229 69 = some (.iconst 0, 1, (0, 0, 0, 0), 0) := rfl
theorem s229_69 {c : Nat → List AV → SS → Option Out} {l0 l1 l2 l3 l4 l5 l6 l7 : Option AV} {L2 : List (Nat × AV)} {St : List AV} {S : SS} : ev c 229 69 [l0, l1, l2, l3, l4, l5, l6, l7] L2 St S = ev c 229 70 [l0, l1, l2, l3, l4, l5, l6, l7] L2 (aI 0 :: St) S := ev_go i229_69 rfl
theorem i229_70 : insAt 229 70 = some (.invokevirtual 71, 3, (221, 4, 2, 12), 0) := rfl
theorem s229_70 {c : Nat → List AV → SS → Option Out} {l0 l1 l2 l3 l4 l5 l6 l7 : Option AV} {a0 : OId} {a1 : Int32} {a2 : OId} {a3 : Int32} {j t : Nat} {L2 : List (Nat × AV)} {S : SS} : ev c 229 70 [l0, l1, l2, l3, l4, l5, l6, l7] L2 [aI a3, aR a2, aI a1, aR a0, aR (12, j, t)] S = ck (c 221 [aR (12, j, t), aR a0, aI a1, aR a2, aI a3] S) (fun v S' => ev c 229 73 [l0, l1, l2, l3, l4, l5, l6, l7] L2 (v.toList ++ []) S') := ev_call i229_70 rfl
theorem i229_73 : insAt 229 73 = some (.iload 7, 2, (0, 0, 0, 0), 0) := rfl
theorem s229_73 {c : Nat → List AV → SS → Option Out} {l0 l1 l2 l3 l4 l5 l6 : Option AV} {x : Int32} {L2 : List (Nat × AV)} {St : List AV} {S : SS} : ev c 229 73 [l0, l1, l2, l3, l4, l5, l6, some (aI x)] L2 St S = ev c 229 75 [l0, l1, l2, l3, l4, l5, l6, some (aI x)] L2 (aI x :: St) S := ev_go i229_73 rfl
theorem i229_75 : insAt 229 75 = some (.ifCond .eq 6, 3, (0, 0, 0, 0), 0) := rfl
theorem s229_75 {c : Nat → List AV → SS → Option Out} {l0 l1 l2 l3 l4 l5 l6 l7 : Option AV} {x : Int32} {L2 : List (Nat × AV)} {St : List AV} {S : SS} : ev c 229 75 [l0, l1, l2, l3, l4, l5, l6, l7] L2 (aI x :: St) S = if x = 0 then ev c 229 81 [l0, l1, l2, l3, l4, l5, l6, l7] L2 St S else ev c 229 78 [l0, l1, l2, l3, l4, l5, l6, l7] L2 St S := ev_br i229_75 rfl
theorem i229_78 : insAt 229 78 = some (.iload 6, 2, (0, 0, 0, 0), 0) := rfl
theorem s229_78 {c : Nat → List AV → SS → Option Out} {l0 l1 l2 l3 l4 l5 l7 : Option AV} {x : Int32} {L2 : List (Nat × AV)} {St : List AV} {S : SS} : ev c 229 78 [l0, l1, l2, l3, l4, l5, some (aI x), l7] L2 St S = ev c 229 80 [l0, l1, l2, l3, l4, l5, some (aI x), l7] L2 (aI x :: St) S := ev_go i229_78 rfl
theorem i229_80 : insAt 229 80 = some (.ireturn, 1, (0, 0, 0, 0), 0) := rfl
theorem s229_80 {c : Nat → List AV → SS → Option Out} {l0 l1 l2 l3 l4 l5 l6 l7 : Option AV} {x : Int32} {L2 : List (Nat × AV)} {St : List AV} {S : SS} : ev c 229 80 [l0, l1, l2, l3, l4, l5, l6, l7] L2 [aI x] S = some (.inl (some (aI x)), S) := ev_end i229_80 rfl
theorem i229_81 : insAt 229 81 = some (.iinc 6 1, 3, (0, 0, 0, 0), 0) := rfl
theorem s229_81 {c : Nat → List AV → SS → Option Out} {l0 l1 l2 l3 l4 l5 l7 : Option AV} {x : Int32} {L2 : List (Nat × AV)} {St : List AV} {S : SS} : ev c 229 81 [l0, l1, l2, l3, l4, l5, some (aI x), l7] L2 St S = ev c 229 84 [l0, l1, l2, l3, l4, l5, some (aI (x + 1)), l7] (kil L2 6) St S := ev_go i229_81 rfl
theorem i229_84 : insAt 229 84 = some (.goto (-54), 3, (0, 0, 0, 0), 0) := rfl
theorem s229_84 {c : Nat → List AV → SS → Option Out} {l0 l1 l2 l3 l4 l5 l6 l7 : Option AV} {L2 : List (Nat × AV)} {St : List AV} {S : SS} : ev c 229 84 [l0, l1, l2, l3, l4, l5, l6, l7] L2 St S = ev c 229 30 [l0, l1, l2, l3, l4, l5, l6, l7] L2 St S := ev_go i229_84 rfl
theorem i229_87 : insAt 229 87 = some (.iconst (-1), 1, (0, 0, 0, 0), 0) := rfl
theorem s229_87 {c : Nat → List AV → SS → Option Out} {l0 l1 l2 l3 l4 l5 l6 l7 : Option AV} {L2 : List (Nat × AV)} {St : List AV} {S : SS} : ev c 229 87 [l0, l1, l2, l3, l4, l5, l6, l7] L2 St S = ev c 229 88 [l0, l1, l2, l3, l4, l5, l6, l7] L2 (aI (-1) :: St) S := ev_go i229_87 rfl
theorem i229_88 : insAt 229 88 = some (.ireturn, 1, (0, 0, 0, 0), 0) := rfl
theorem s229_88 {c : Nat → List AV → SS → Option Out} {l0 l1 l2 l3 l4 l5 l6 l7 : Option AV} {x : Int32} {L2 : List (Nat × AV)} {St : List AV} {S : SS} : ev c 229 88 [l0, l1, l2, l3, l4, l5, l6, l7] L2 [aI x] S = some (.inl (some (aI x)), S) := ev_end i229_88 rfl
theorem m229 {d : Nat} {o : OId} {a0 : Int32} {a1 : Int32} {a2 : Int32} {a3 : Int32} {a4 : Int32} {S : SS} : evm (d + 1) 229 [aR o, aI a0, aI a1, aI a2, aI a3, aI a4] S = ev (evm d) 229 0 [some (aR o), some (aI a0), some (aI a1), some (aI a2), some (aI a3), some (aI a4), none, none] [] [] S := evm_s (n := 8) rfl (Nat.le_of_ble_eq_true rfl) rfl rfl
/-! FrequencyOfficeModel.plans(II)Z -/
theorem i230_0 : insAt 230 0 = some (.iload_n 2, 1, (0, 0, 0, 0), 0) := rfl
theorem s230_0 {c : Nat → List AV → SS → Option Out} {l0 l1 l3 l4 l5 : Option AV} {x : Int32} {L2 : List (Nat × AV)} {St : List AV} {S : SS} : ev c 230 0 [l0, l1, some (aI x), l3, l4, l5] L2 St S = ev c 230 1 [l0, l1, some (aI x), l3, l4, l5] L2 (aI x :: St) S := ev_go i230_0 rfl
theorem i230_1 : insAt 230 1 = some (.ifCond .ne 24, 3, (0, 0, 0, 0), 0) := rfl
theorem s230_1 {c : Nat → List AV → SS → Option Out} {l0 l1 l2 l3 l4 l5 : Option AV} {x : Int32} {L2 : List (Nat × AV)} {St : List AV} {S : SS} : ev c 230 1 [l0, l1, l2, l3, l4, l5] L2 (aI x :: St) S = if x = 0 then ev c 230 4 [l0, l1, l2, l3, l4, l5] L2 St S else ev c 230 25 [l0, l1, l2, l3, l4, l5] L2 St S := (ev_br i230_1 rfl).trans (ite_not _ _ _)
theorem i230_4 : insAt 230 4 = some (.aload_n 0, 1, (0, 0, 0, 0), 0) := rfl
theorem s230_4 {c : Nat → List AV → SS → Option Out} {l1 l2 l3 l4 l5 : Option AV} {o : OId} {L2 : List (Nat × AV)} {St : List AV} {S : SS} : ev c 230 4 [some (aR o), l1, l2, l3, l4, l5] L2 St S = ev c 230 5 [some (aR o), l1, l2, l3, l4, l5] L2 (aR o :: St) S := ev_go i230_4 rfl
theorem i230_5 : insAt 230 5 = some (.aload_n 0, 1, (0, 0, 0, 0), 0) := rfl
theorem s230_5 {c : Nat → List AV → SS → Option Out} {l1 l2 l3 l4 l5 : Option AV} {o : OId} {L2 : List (Nat × AV)} {St : List AV} {S : SS} : ev c 230 5 [some (aR o), l1, l2, l3, l4, l5] L2 St S = ev c 230 6 [some (aR o), l1, l2, l3, l4, l5] L2 (aR o :: St) S := ev_go i230_5 rfl
theorem i230_6 : insAt 230 6 = some (.invokevirtual 129, 3, (231, 0, 2, 12), 0) := rfl
theorem s230_6 {c : Nat → List AV → SS → Option Out} {l0 l1 l2 l3 l4 l5 : Option AV} {t0 : AV} {j t : Nat} {L2 : List (Nat × AV)} {S : SS} : ev c 230 6 [l0, l1, l2, l3, l4, l5] L2 [aR (12, j, t), t0] S = ck (c 231 [aR (12, j, t)] S) (fun v S' => ev c 230 9 [l0, l1, l2, l3, l4, l5] L2 (v.toList ++ [t0]) S') := ev_call i230_6 rfl
theorem i230_9 : insAt 230 9 = some (.putfield 53, 3, (12, 14, 0, 0), 0) := rfl
theorem s230_9 {c : Nat → List AV → SS → Option Out} {l0 l1 l2 l3 l4 l5 : Option AV} {j t : Nat} {x : Int32} {L2 : List (Nat × AV)} {St : List AV} {S : SS} : ev c 230 9 [l0, l1, l2, l3, l4, l5] L2 (aI x :: aR (12, j, t) :: St) S = ev c 230 12 [l0, l1, l2, l3, l4, l5] L2 St (setI S.1 (12, j, t) 14 x, S.2) := ev_go i230_9 rfl
theorem i230_12 : insAt 230 12 = some (.aload_n 0, 1, (0, 0, 0, 0), 0) := rfl
theorem s230_12 {c : Nat → List AV → SS → Option Out} {l1 l2 l3 l4 l5 : Option AV} {o : OId} {L2 : List (Nat × AV)} {St : List AV} {S : SS} : ev c 230 12 [some (aR o), l1, l2, l3, l4, l5] L2 St S = ev c 230 13 [some (aR o), l1, l2, l3, l4, l5] L2 (aR o :: St) S := ev_go i230_12 rfl
theorem i230_13 : insAt 230 13 = some (.getfield 53, 3, (12, 14, 0, 0), 0) := rfl
theorem s230_13 {c : Nat → List AV → SS → Option Out} {l0 l1 l2 l3 l4 l5 : Option AV} {j t : Nat} {L2 : List (Nat × AV)} {St : List AV} {S : SS} : ev c 230 13 [l0, l1, l2, l3, l4, l5] L2 (aR (12, j, t) :: St) S = ev c 230 16 [l0, l1, l2, l3, l4, l5] L2 (aI (S.1 (12, j, t) 14) :: St) S := ev_go i230_13 rfl
theorem i230_16 : insAt 230 16 = some (.ifCond .lt 7, 3, (0, 0, 0, 0), 0) := rfl
theorem s230_16 {c : Nat → List AV → SS → Option Out} {l0 l1 l2 l3 l4 l5 : Option AV} {x : Int32} {L2 : List (Nat × AV)} {St : List AV} {S : SS} : ev c 230 16 [l0, l1, l2, l3, l4, l5] L2 (aI x :: St) S = if x < 0 then ev c 230 23 [l0, l1, l2, l3, l4, l5] L2 St S else ev c 230 19 [l0, l1, l2, l3, l4, l5] L2 St S := ev_br i230_16 rfl
theorem i230_19 : insAt 230 19 = some (.iconst 1, 1, (0, 0, 0, 0), 0) := rfl
theorem s230_19 {c : Nat → List AV → SS → Option Out} {l0 l1 l2 l3 l4 l5 : Option AV} {L2 : List (Nat × AV)} {St : List AV} {S : SS} : ev c 230 19 [l0, l1, l2, l3, l4, l5] L2 St S = ev c 230 20 [l0, l1, l2, l3, l4, l5] L2 (aI 1 :: St) S := ev_go i230_19 rfl
theorem i230_20 : insAt 230 20 = some (.goto 4, 3, (0, 0, 0, 0), 0) := rfl
theorem s230_20 {c : Nat → List AV → SS → Option Out} {l0 l1 l2 l3 l4 l5 : Option AV} {L2 : List (Nat × AV)} {St : List AV} {S : SS} : ev c 230 20 [l0, l1, l2, l3, l4, l5] L2 St S = ev c 230 24 [l0, l1, l2, l3, l4, l5] L2 St S := ev_go i230_20 rfl
theorem i230_23 : insAt 230 23 = some (.iconst 0, 1, (0, 0, 0, 0), 0) := rfl
theorem s230_23 {c : Nat → List AV → SS → Option Out} {l0 l1 l2 l3 l4 l5 : Option AV} {L2 : List (Nat × AV)} {St : List AV} {S : SS} : ev c 230 23 [l0, l1, l2, l3, l4, l5] L2 St S = ev c 230 24 [l0, l1, l2, l3, l4, l5] L2 (aI 0 :: St) S := ev_go i230_23 rfl
theorem i230_24 : insAt 230 24 = some (.ireturn, 1, (0, 0, 0, 0), 0) := rfl
theorem s230_24 {c : Nat → List AV → SS → Option Out} {l0 l1 l2 l3 l4 l5 : Option AV} {x : Int32} {L2 : List (Nat × AV)} {St : List AV} {S : SS} : ev c 230 24 [l0, l1, l2, l3, l4, l5] L2 [aI x] S = if x = 0 ∨ x = 1 then some (.inl (some (aI x)), S) else none := ev_rt i230_24 rfl
theorem i230_25 : insAt 230 25 = some (.iconst 0, 1, (0, 0, 0, 0), 0) := rfl
theorem s230_25 {c : Nat → List AV → SS → Option Out} {l0 l1 l2 l3 l4 l5 : Option AV} {L2 : List (Nat × AV)} {St : List AV} {S : SS} : ev c 230 25 [l0, l1, l2, l3, l4, l5] L2 St S = ev c 230 26 [l0, l1, l2, l3, l4, l5] L2 (aI 0 :: St) S := ev_go i230_25 rfl
theorem i230_26 : insAt 230 26 = some (.istore_n 3, 1, (0, 0, 0, 0), 0) := rfl
theorem s230_26 {c : Nat → List AV → SS → Option Out} {l0 l1 l2 l3 l4 l5 : Option AV} {x : Int32} {L2 : List (Nat × AV)} {St : List AV} {S : SS} : ev c 230 26 [l0, l1, l2, l3, l4, l5] L2 (aI x :: St) S = ev c 230 27 [l0, l1, l2, some (aI x), l4, l5] (kil L2 3) St S := ev_go i230_26 rfl
theorem i230_27 : insAt 230 27 = some (.iload_n 3, 1, (0, 0, 0, 0), 0) := rfl
theorem s230_27 {c : Nat → List AV → SS → Option Out} {l0 l1 l2 l4 l5 : Option AV} {x : Int32} {L2 : List (Nat × AV)} {St : List AV} {S : SS} : ev c 230 27 [l0, l1, l2, some (aI x), l4, l5] L2 St S = ev c 230 28 [l0, l1, l2, some (aI x), l4, l5] L2 (aI x :: St) S := ev_go i230_27 rfl
theorem i230_28 : insAt 230 28 = some (.aload_n 0, 1, (0, 0, 0, 0), 0) := rfl
theorem s230_28 {c : Nat → List AV → SS → Option Out} {l1 l2 l3 l4 l5 : Option AV} {o : OId} {L2 : List (Nat × AV)} {St : List AV} {S : SS} : ev c 230 28 [some (aR o), l1, l2, l3, l4, l5] L2 St S = ev c 230 29 [some (aR o), l1, l2, l3, l4, l5] L2 (aR o :: St) S := ev_go i230_28 rfl
theorem i230_29 : insAt 230 29 = some (.getfield 7, 3, (12, 0, 0, 0), 0) := rfl
theorem s230_29 {c : Nat → List AV → SS → Option Out} {l0 l1 l2 l3 l4 l5 : Option AV} {j t : Nat} {L2 : List (Nat × AV)} {St : List AV} {S : SS} : ev c 230 29 [l0, l1, l2, l3, l4, l5] L2 (aR (12, j, t) :: St) S = ev c 230 32 [l0, l1, l2, l3, l4, l5] L2 (S.2.2.1 (12, j, t) 0 :: St) S := ev_go i230_29 rfl
theorem i230_32 : insAt 230 32 = some (.bipush 7, 2, (0, 0, 0, 0), 0) := rfl
theorem s230_32 {c : Nat → List AV → SS → Option Out} {l0 l1 l2 l3 l4 l5 : Option AV} {L2 : List (Nat × AV)} {St : List AV} {S : SS} : ev c 230 32 [l0, l1, l2, l3, l4, l5] L2 St S = ev c 230 34 [l0, l1, l2, l3, l4, l5] L2 (aI 7 :: St) S := ev_go i230_32 rfl
theorem i230_34 : insAt 230 34 = some (.iaload, 1, (0, 0, 0, 0), 0) := rfl
theorem s230_34 {c : Nat → List AV → SS → Option Out} {l0 l1 l2 l3 l4 l5 : Option AV} {i : Int32} {o : OId} {L2 : List (Nat × AV)} {St : List AV} {S : SS} : ev c 230 34 [l0, l1, l2, l3, l4, l5] L2 (aI i :: aR o :: St) S = kI o i (ev c 230 35 [l0, l1, l2, l3, l4, l5] L2 (aI (agI S o i.toNatClampNeg) :: St) S) := ev_iaload i230_34
theorem i230_35 : insAt 230 35 = some (.if_icmp .ge 92, 3, (0, 0, 0, 0), 0) := rfl
theorem s230_35 {c : Nat → List AV → SS → Option Out} {l0 l1 l2 l3 l4 l5 : Option AV} {x y : Int32} {L2 : List (Nat × AV)} {St : List AV} {S : SS} : ev c 230 35 [l0, l1, l2, l3, l4, l5] L2 (aI y :: aI x :: St) S = if y ≤ x then ev c 230 127 [l0, l1, l2, l3, l4, l5] L2 St S else ev c 230 38 [l0, l1, l2, l3, l4, l5] L2 St S := ev_br i230_35 rfl
theorem i230_38 : insAt 230 38 = some (.iconst 0, 1, (0, 0, 0, 0), 0) := rfl
theorem s230_38 {c : Nat → List AV → SS → Option Out} {l0 l1 l2 l3 l4 l5 : Option AV} {L2 : List (Nat × AV)} {St : List AV} {S : SS} : ev c 230 38 [l0, l1, l2, l3, l4, l5] L2 St S = ev c 230 39 [l0, l1, l2, l3, l4, l5] L2 (aI 0 :: St) S := ev_go i230_38 rfl
theorem i230_39 : insAt 230 39 = some (.istore 4, 2, (0, 0, 0, 0), 0) := rfl
theorem s230_39 {c : Nat → List AV → SS → Option Out} {l0 l1 l2 l3 l4 l5 : Option AV} {x : Int32} {L2 : List (Nat × AV)} {St : List AV} {S : SS} : ev c 230 39 [l0, l1, l2, l3, l4, l5] L2 (aI x :: St) S = ev c 230 41 [l0, l1, l2, l3, some (aI x), l5] (kil L2 4) St S := ev_go i230_39 rfl
theorem i230_41 : insAt 230 41 = some (.iload 4, 2, (0, 0, 0, 0), 0) := rfl
theorem s230_41 {c : Nat → List AV → SS → Option Out} {l0 l1 l2 l3 l5 : Option AV} {x : Int32} {L2 : List (Nat × AV)} {St : List AV} {S : SS} : ev c 230 41 [l0, l1, l2, l3, some (aI x), l5] L2 St S = ev c 230 43 [l0, l1, l2, l3, some (aI x), l5] L2 (aI x :: St) S := ev_go i230_41 rfl
theorem i230_43 : insAt 230 43 = some (.bipush 8, 2, (0, 0, 0, 0), 0) := rfl
theorem s230_43 {c : Nat → List AV → SS → Option Out} {l0 l1 l2 l3 l4 l5 : Option AV} {L2 : List (Nat × AV)} {St : List AV} {S : SS} : ev c 230 43 [l0, l1, l2, l3, l4, l5] L2 St S = ev c 230 45 [l0, l1, l2, l3, l4, l5] L2 (aI 8 :: St) S := ev_go i230_43 rfl
theorem i230_45 : insAt 230 45 = some (.if_icmp .ge 76, 3, (0, 0, 0, 0), 0) := rfl
theorem s230_45 {c : Nat → List AV → SS → Option Out} {l0 l1 l2 l3 l4 l5 : Option AV} {x y : Int32} {L2 : List (Nat × AV)} {St : List AV} {S : SS} : ev c 230 45 [l0, l1, l2, l3, l4, l5] L2 (aI y :: aI x :: St) S = if y ≤ x then ev c 230 121 [l0, l1, l2, l3, l4, l5] L2 St S else ev c 230 48 [l0, l1, l2, l3, l4, l5] L2 St S := ev_br i230_45 rfl
theorem i230_48 : insAt 230 48 = some (.aload_n 0, 1, (0, 0, 0, 0), 0) := rfl
theorem s230_48 {c : Nat → List AV → SS → Option Out} {l1 l2 l3 l4 l5 : Option AV} {o : OId} {L2 : List (Nat × AV)} {St : List AV} {S : SS} : ev c 230 48 [some (aR o), l1, l2, l3, l4, l5] L2 St S = ev c 230 49 [some (aR o), l1, l2, l3, l4, l5] L2 (aR o :: St) S := ev_go i230_48 rfl
theorem i230_49 : insAt 230 49 = some (.iload_n 3, 1, (0, 0, 0, 0), 0) := rfl
theorem s230_49 {c : Nat → List AV → SS → Option Out} {l0 l1 l2 l4 l5 : Option AV} {x : Int32} {L2 : List (Nat × AV)} {St : List AV} {S : SS} : ev c 230 49 [l0, l1, l2, some (aI x), l4, l5] L2 St S = ev c 230 50 [l0, l1, l2, some (aI x), l4, l5] L2 (aI x :: St) S := ev_go i230_49 rfl
theorem i230_50 : insAt 230 50 = some (.iload 4, 2, (0, 0, 0, 0), 0) := rfl
theorem s230_50 {c : Nat → List AV → SS → Option Out} {l0 l1 l2 l3 l5 : Option AV} {x : Int32} {L2 : List (Nat × AV)} {St : List AV} {S : SS} : ev c 230 50 [l0, l1, l2, l3, some (aI x), l5] L2 St S = ev c 230 52 [l0, l1, l2, l3, some (aI x), l5] L2 (aI x :: St) S := ev_go i230_50 rfl
theorem i230_52 : insAt 230 52 = some (.invokevirtual 133, 3, (242, 2, 2, 12), 0) := rfl
theorem s230_52 {c : Nat → List AV → SS → Option Out} {l0 l1 l2 l3 l4 l5 : Option AV} {a0 : Int32} {a1 : Int32} {j t : Nat} {L2 : List (Nat × AV)} {S : SS} : ev c 230 52 [l0, l1, l2, l3, l4, l5] L2 [aI a1, aI a0, aR (12, j, t)] S = ck (c 242 [aR (12, j, t), aI a0, aI a1] S) (fun v S' => ev c 230 55 [l0, l1, l2, l3, l4, l5] L2 (v.toList ++ []) S') := ev_call i230_52 rfl
theorem i230_55 : insAt 230 55 = some (.ifCond .ne 6, 3, (0, 0, 0, 0), 0) := rfl
theorem s230_55 {c : Nat → List AV → SS → Option Out} {l0 l1 l2 l3 l4 l5 : Option AV} {x : Int32} {L2 : List (Nat × AV)} {St : List AV} {S : SS} : ev c 230 55 [l0, l1, l2, l3, l4, l5] L2 (aI x :: St) S = if x = 0 then ev c 230 58 [l0, l1, l2, l3, l4, l5] L2 St S else ev c 230 61 [l0, l1, l2, l3, l4, l5] L2 St S := (ev_br i230_55 rfl).trans (ite_not _ _ _)
theorem i230_58 : insAt 230 58 = some (.goto 57, 3, (0, 0, 0, 0), 0) := rfl
theorem s230_58 {c : Nat → List AV → SS → Option Out} {l0 l1 l2 l3 l4 l5 : Option AV} {L2 : List (Nat × AV)} {St : List AV} {S : SS} : ev c 230 58 [l0, l1, l2, l3, l4, l5] L2 St S = ev c 230 115 [l0, l1, l2, l3, l4, l5] L2 St S := ev_go i230_58 rfl
theorem i230_61 : insAt 230 61 = some (.aload_n 0, 1, (0, 0, 0, 0), 0) := rfl
theorem s230_61 {c : Nat → List AV → SS → Option Out} {l1 l2 l3 l4 l5 : Option AV} {o : OId} {L2 : List (Nat × AV)} {St : List AV} {S : SS} : ev c 230 61 [some (aR o), l1, l2, l3, l4, l5] L2 St S = ev c 230 62 [some (aR o), l1, l2, l3, l4, l5] L2 (aR o :: St) S := ev_go i230_61 rfl
theorem i230_62 : insAt 230 62 = some (.iload_n 3, 1, (0, 0, 0, 0), 0) := rfl
theorem s230_62 {c : Nat → List AV → SS → Option Out} {l0 l1 l2 l4 l5 : Option AV} {x : Int32} {L2 : List (Nat × AV)} {St : List AV} {S : SS} : ev c 230 62 [l0, l1, l2, some (aI x), l4, l5] L2 St S = ev c 230 63 [l0, l1, l2, some (aI x), l4, l5] L2 (aI x :: St) S := ev_go i230_62 rfl
theorem i230_63 : insAt 230 63 = some (.iconst 3, 1, (0, 0, 0, 0), 0) := rfl
theorem s230_63 {c : Nat → List AV → SS → Option Out} {l0 l1 l2 l3 l4 l5 : Option AV} {L2 : List (Nat × AV)} {St : List AV} {S : SS} : ev c 230 63 [l0, l1, l2, l3, l4, l5] L2 St S = ev c 230 64 [l0, l1, l2, l3, l4, l5] L2 (aI 3 :: St) S := ev_go i230_63 rfl
theorem i230_64 : insAt 230 64 = some (.invokevirtual 75, 3, (234, 2, 2, 12), 0) := rfl
theorem s230_64 {c : Nat → List AV → SS → Option Out} {l0 l1 l2 l3 l4 l5 : Option AV} {a0 : Int32} {a1 : Int32} {j t : Nat} {L2 : List (Nat × AV)} {S : SS} : ev c 230 64 [l0, l1, l2, l3, l4, l5] L2 [aI a1, aI a0, aR (12, j, t)] S = ck (c 234 [aR (12, j, t), aI a0, aI a1] S) (fun v S' => ev c 230 67 [l0, l1, l2, l3, l4, l5] L2 (v.toList ++ []) S') := ev_call i230_64 rfl
theorem i230_67 : insAt 230 67 = some (.istore 5, 2, (0, 0, 0, 0), 0) := rfl
theorem s230_67 {c : Nat → List AV → SS → Option Out} {l0 l1 l2 l3 l4 l5 : Option AV} {x : Int32} {L2 : List (Nat × AV)} {St : List AV} {S : SS} : ev c 230 67 [l0, l1, l2, l3, l4, l5] L2 (aI x :: St) S = ev c 230 69 [l0, l1, l2, l3, l4, some (aI x)] (kil L2 5) St S := ev_go i230_67 rfl
theorem i230_69 : insAt 230 69 = some (.aload_n 0, 1, (0, 0, 0, 0), 0) := rfl
theorem s230_69 {c : Nat → List AV → SS → Option Out} {l1 l2 l3 l4 l5 : Option AV} {o : OId} {L2 : List (Nat × AV)} {St : List AV} {S : SS} : ev c 230 69 [some (aR o), l1, l2, l3, l4, l5] L2 St S = ev c 230 70 [some (aR o), l1, l2, l3, l4, l5] L2 (aR o :: St) S := ev_go i230_69 rfl
theorem i230_70 : insAt 230 70 = some (.iload_n 3, 1, (0, 0, 0, 0), 0) := rfl
theorem s230_70 {c : Nat → List AV → SS → Option Out} {l0 l1 l2 l4 l5 : Option AV} {x : Int32} {L2 : List (Nat × AV)} {St : List AV} {S : SS} : ev c 230 70 [l0, l1, l2, some (aI x), l4, l5] L2 St S = ev c 230 71 [l0, l1, l2, some (aI x), l4, l5] L2 (aI x :: St) S := ev_go i230_70 rfl
theorem i230_71 : insAt 230 71 = some (.iconst 3, 1, (0, 0, 0, 0), 0) := rfl
theorem s230_71 {c : Nat → List AV → SS → Option Out} {l0 l1 l2 l3 l4 l5 : Option AV} {L2 : List (Nat × AV)} {St : List AV} {S : SS} : ev c 230 71 [l0, l1, l2, l3, l4, l5] L2 St S = ev c 230 72 [l0, l1, l2, l3, l4, l5] L2 (aI 3 :: St) S := ev_go i230_71 rfl
theorem i230_72 : insAt 230 72 = some (.iload 4, 2, (0, 0, 0, 0), 0) := rfl
theorem s230_72 {c : Nat → List AV → SS → Option Out} {l0 l1 l2 l3 l5 : Option AV} {x : Int32} {L2 : List (Nat × AV)} {St : List AV} {S : SS} : ev c 230 72 [l0, l1, l2, l3, some (aI x), l5] L2 St S = ev c 230 74 [l0, l1, l2, l3, some (aI x), l5] L2 (aI x :: St) S := ev_go i230_72 rfl
theorem i230_74 : insAt 230 74 = some (.invokevirtual 79, 3, (245, 3, 2, 12), 0) := rfl
theorem s230_74 {c : Nat → List AV → SS → Option Out} {l0 l1 l2 l3 l4 l5 : Option AV} {a0 : Int32} {a1 : Int32} {a2 : Int32} {j t : Nat} {L2 : List (Nat × AV)} {S : SS} : ev c 230 74 [l0, l1, l2, l3, l4, l5] L2 [aI a2, aI a1, aI a0, aR (12, j, t)] S = ck (c 245 [aR (12, j, t), aI a0, aI a1, aI a2] S) (fun v S' => ev c 230 77 [l0, l1, l2, l3, l4, l5] L2 (v.toList ++ []) S') := ev_call i230_74 rfl
theorem i230_77 : insAt 230 77 = some (.aload_n 0, 1, (0, 0, 0, 0), 0) := rfl
theorem s230_77 {c : Nat → List AV → SS → Option Out} {l1 l2 l3 l4 l5 : Option AV} {o : OId} {L2 : List (Nat × AV)} {St : List AV} {S : SS} : ev c 230 77 [some (aR o), l1, l2, l3, l4, l5] L2 St S = ev c 230 78 [some (aR o), l1, l2, l3, l4, l5] L2 (aR o :: St) S := ev_go i230_77 rfl
theorem i230_78 : insAt 230 78 = some (.getfield 22, 3, (12, 4, 0, 0), 0) := rfl
theorem s230_78 {c : Nat → List AV → SS → Option Out} {l0 l1 l2 l3 l4 l5 : Option AV} {j t : Nat} {L2 : List (Nat × AV)} {St : List AV} {S : SS} : ev c 230 78 [l0, l1, l2, l3, l4, l5] L2 (aR (12, j, t) :: St) S = ev c 230 81 [l0, l1, l2, l3, l4, l5] L2 (S.2.2.1 (12, j, t) 4 :: St) S := ev_go i230_78 rfl
theorem i230_81 : insAt 230 81 = some (.iload_n 1, 1, (0, 0, 0, 0), 0) := rfl
theorem s230_81 {c : Nat → List AV → SS → Option Out} {l0 l2 l3 l4 l5 : Option AV} {x : Int32} {L2 : List (Nat × AV)} {St : List AV} {S : SS} : ev c 230 81 [l0, some (aI x), l2, l3, l4, l5] L2 St S = ev c 230 82 [l0, some (aI x), l2, l3, l4, l5] L2 (aI x :: St) S := ev_go i230_81 rfl
theorem i230_82 : insAt 230 82 = some (.iload_n 3, 1, (0, 0, 0, 0), 0) := rfl
theorem s230_82 {c : Nat → List AV → SS → Option Out} {l0 l1 l2 l4 l5 : Option AV} {x : Int32} {L2 : List (Nat × AV)} {St : List AV} {S : SS} : ev c 230 82 [l0, l1, l2, some (aI x), l4, l5] L2 St S = ev c 230 83 [l0, l1, l2, some (aI x), l4, l5] L2 (aI x :: St) S := ev_go i230_82 rfl
theorem i230_83 : insAt 230 83 = some (.iastore, 1, (0, 0, 0, 0), 0) := rfl
theorem s230_83 {c : Nat → List AV → SS → Option Out} {l0 l1 l2 l3 l4 l5 : Option AV} {x i : Int32} {o : OId} {L2 : List (Nat × AV)} {St : List AV} {S : SS} : ev c 230 83 [l0, l1, l2, l3, l4, l5] L2 (aI x :: aI i :: aR o :: St) S = kIw o i (ev c 230 84 [l0, l1, l2, l3, l4, l5] L2 St (setI S.1 o i.toNatClampNeg x, S.2)) := ev_iastore i230_83
theorem i230_84 : insAt 230 84 = some (.aload_n 0, 1, (0, 0, 0, 0), 0) := rfl
theorem s230_84 {c : Nat → List AV → SS → Option Out} {l1 l2 l3 l4 l5 : Option AV} {o : OId} {L2 : List (Nat × AV)} {St : List AV} {S : SS} : ev c 230 84 [some (aR o), l1, l2, l3, l4, l5] L2 St S = ev c 230 85 [some (aR o), l1, l2, l3, l4, l5] L2 (aR o :: St) S := ev_go i230_84 rfl
theorem i230_85 : insAt 230 85 = some (.getfield 25, 3, (12, 5, 0, 0), 0) := rfl
theorem s230_85 {c : Nat → List AV → SS → Option Out} {l0 l1 l2 l3 l4 l5 : Option AV} {j t : Nat} {L2 : List (Nat × AV)} {St : List AV} {S : SS} : ev c 230 85 [l0, l1, l2, l3, l4, l5] L2 (aR (12, j, t) :: St) S = ev c 230 88 [l0, l1, l2, l3, l4, l5] L2 (S.2.2.1 (12, j, t) 5 :: St) S := ev_go i230_85 rfl
theorem i230_88 : insAt 230 88 = some (.iload_n 1, 1, (0, 0, 0, 0), 0) := rfl
theorem s230_88 {c : Nat → List AV → SS → Option Out} {l0 l2 l3 l4 l5 : Option AV} {x : Int32} {L2 : List (Nat × AV)} {St : List AV} {S : SS} : ev c 230 88 [l0, some (aI x), l2, l3, l4, l5] L2 St S = ev c 230 89 [l0, some (aI x), l2, l3, l4, l5] L2 (aI x :: St) S := ev_go i230_88 rfl
theorem i230_89 : insAt 230 89 = some (.iload 4, 2, (0, 0, 0, 0), 0) := rfl
theorem s230_89 {c : Nat → List AV → SS → Option Out} {l0 l1 l2 l3 l5 : Option AV} {x : Int32} {L2 : List (Nat × AV)} {St : List AV} {S : SS} : ev c 230 89 [l0, l1, l2, l3, some (aI x), l5] L2 St S = ev c 230 91 [l0, l1, l2, l3, some (aI x), l5] L2 (aI x :: St) S := ev_go i230_89 rfl
theorem i230_91 : insAt 230 91 = some (.iastore, 1, (0, 0, 0, 0), 0) := rfl
theorem s230_91 {c : Nat → List AV → SS → Option Out} {l0 l1 l2 l3 l4 l5 : Option AV} {x i : Int32} {o : OId} {L2 : List (Nat × AV)} {St : List AV} {S : SS} : ev c 230 91 [l0, l1, l2, l3, l4, l5] L2 (aI x :: aI i :: aR o :: St) S = kIw o i (ev c 230 92 [l0, l1, l2, l3, l4, l5] L2 St (setI S.1 o i.toNatClampNeg x, S.2)) := ev_iastore i230_91
theorem i230_92 : insAt 230 92 = some (.aload_n 0, 1, (0, 0, 0, 0), 0) := rfl
theorem s230_92 {c : Nat → List AV → SS → Option Out} {l1 l2 l3 l4 l5 : Option AV} {o : OId} {L2 : List (Nat × AV)} {St : List AV} {S : SS} : ev c 230 92 [some (aR o), l1, l2, l3, l4, l5] L2 St S = ev c 230 93 [some (aR o), l1, l2, l3, l4, l5] L2 (aR o :: St) S := ev_go i230_92 rfl
theorem i230_93 : insAt 230 93 = some (.iload_n 1, 1, (0, 0, 0, 0), 0) := rfl
theorem s230_93 {c : Nat → List AV → SS → Option Out} {l0 l2 l3 l4 l5 : Option AV} {x : Int32} {L2 : List (Nat × AV)} {St : List AV} {S : SS} : ev c 230 93 [l0, some (aI x), l2, l3, l4, l5] L2 St S = ev c 230 94 [l0, some (aI x), l2, l3, l4, l5] L2 (aI x :: St) S := ev_go i230_93 rfl
theorem i230_94 : insAt 230 94 = some (.iconst 1, 1, (0, 0, 0, 0), 0) := rfl
theorem s230_94 {c : Nat → List AV → SS → Option Out} {l0 l1 l2 l3 l4 l5 : Option AV} {L2 : List (Nat × AV)} {St : List AV} {S : SS} : ev c 230 94 [l0, l1, l2, l3, l4, l5] L2 St S = ev c 230 95 [l0, l1, l2, l3, l4, l5] L2 (aI 1 :: St) S := ev_go i230_94 rfl
theorem i230_95 : insAt 230 95 = some (.iadd, 1, (0, 0, 0, 0), 0) := rfl
theorem s230_95 {c : Nat → List AV → SS → Option Out} {l0 l1 l2 l3 l4 l5 : Option AV} {x y : Int32} {L2 : List (Nat × AV)} {St : List AV} {S : SS} : ev c 230 95 [l0, l1, l2, l3, l4, l5] L2 (aI y :: aI x :: St) S = ev c 230 96 [l0, l1, l2, l3, l4, l5] L2 (aI (x + y) :: St) S := ev_go i230_95 rfl
theorem i230_96 : insAt 230 96 = some (.iload_n 2, 1, (0, 0, 0, 0), 0) := rfl
theorem s230_96 {c : Nat → List AV → SS → Option Out} {l0 l1 l3 l4 l5 : Option AV} {x : Int32} {L2 : List (Nat × AV)} {St : List AV} {S : SS} : ev c 230 96 [l0, l1, some (aI x), l3, l4, l5] L2 St S = ev c 230 97 [l0, l1, some (aI x), l3, l4, l5] L2 (aI x :: St) S := ev_go i230_96 rfl
theorem i230_97 : insAt 230 97 = some (.iconst 1, 1, (0, 0, 0, 0), 0) := rfl
theorem s230_97 {c : Nat → List AV → SS → Option Out} {l0 l1 l2 l3 l4 l5 : Option AV} {L2 : List (Nat × AV)} {St : List AV} {S : SS} : ev c 230 97 [l0, l1, l2, l3, l4, l5] L2 St S = ev c 230 98 [l0, l1, l2, l3, l4, l5] L2 (aI 1 :: St) S := ev_go i230_97 rfl
theorem i230_98 : insAt 230 98 = some (.isub, 1, (0, 0, 0, 0), 0) := rfl
theorem s230_98 {c : Nat → List AV → SS → Option Out} {l0 l1 l2 l3 l4 l5 : Option AV} {x y : Int32} {L2 : List (Nat × AV)} {St : List AV} {S : SS} : ev c 230 98 [l0, l1, l2, l3, l4, l5] L2 (aI y :: aI x :: St) S = ev c 230 99 [l0, l1, l2, l3, l4, l5] L2 (aI (x - y) :: St) S := ev_go i230_98 rfl
theorem i230_99 : insAt 230 99 = some (.invokevirtual 137, 3, (230, 2, 2, 12), 0) := rfl
theorem s230_99 {c : Nat → List AV → SS → Option Out} {l0 l1 l2 l3 l4 l5 : Option AV} {a0 : Int32} {a1 : Int32} {j t : Nat} {L2 : List (Nat × AV)} {S : SS} : ev c 230 99 [l0, l1, l2, l3, l4, l5] L2 [aI a1, aI a0, aR (12, j, t)] S = ck (c 230 [aR (12, j, t), aI a0, aI a1] S) (fun v S' => ev c 230 102 [l0, l1, l2, l3, l4, l5] L2 (v.toList ++ []) S') := ev_call i230_99 rfl
theorem i230_102 : insAt 230 102 = some (.ifCond .eq 5, 3, (0, 0, 0, 0), 0) := rfl
theorem s230_102 {c : Nat → List AV → SS → Option Out} {l0 l1 l2 l3 l4 l5 : Option AV} {x : Int32} {L2 : List (Nat × AV)} {St : List AV} {S : SS} : ev c 230 102 [l0, l1, l2, l3, l4, l5] L2 (aI x :: St) S = if x = 0 then ev c 230 107 [l0, l1, l2, l3, l4, l5] L2 St S else ev c 230 105 [l0, l1, l2, l3, l4, l5] L2 St S := ev_br i230_102 rfl
theorem i230_105 : insAt 230 105 = some (.iconst 1, 1, (0, 0, 0, 0), 0) := rfl
theorem s230_105 {c : Nat → List AV → SS → Option Out} {l0 l1 l2 l3 l4 l5 : Option AV} {L2 : List (Nat × AV)} {St : List AV} {S : SS} : ev c 230 105 [l0, l1, l2, l3, l4, l5] L2 St S = ev c 230 106 [l0, l1, l2, l3, l4, l5] L2 (aI 1 :: St) S := ev_go i230_105 rfl
theorem i230_106 : insAt 230 106 = some (.ireturn, 1, (0, 0, 0, 0), 0) := rfl
theorem s230_106 {c : Nat → List AV → SS → Option Out} {l0 l1 l2 l3 l4 l5 : Option AV} {x : Int32} {L2 : List (Nat × AV)} {St : List AV} {S : SS} : ev c 230 106 [l0, l1, l2, l3, l4, l5] L2 [aI x] S = if x = 0 ∨ x = 1 then some (.inl (some (aI x)), S) else none := ev_rt i230_106 rfl
theorem i230_107 : insAt 230 107 = some (.aload_n 0, 1, (0, 0, 0, 0), 0) := rfl
theorem s230_107 {c : Nat → List AV → SS → Option Out} {l1 l2 l3 l4 l5 : Option AV} {o : OId} {L2 : List (Nat × AV)} {St : List AV} {S : SS} : ev c 230 107 [some (aR o), l1, l2, l3, l4, l5] L2 St S = ev c 230 108 [some (aR o), l1, l2, l3, l4, l5] L2 (aR o :: St) S := ev_go i230_107 rfl
theorem i230_108 : insAt 230 108 = some (.iload_n 3, 1, (0, 0, 0, 0), 0) := rfl
theorem s230_108 {c : Nat → List AV → SS → Option Out} {l0 l1 l2 l4 l5 : Option AV} {x : Int32} {L2 : List (Nat × AV)} {St : List AV} {S : SS} : ev c 230 108 [l0, l1, l2, some (aI x), l4, l5] L2 St S = ev c 230 109 [l0, l1, l2, some (aI x), l4, l5] L2 (aI x :: St) S := ev_go i230_108 rfl
theorem i230_109 : insAt 230 109 = some (.iconst 3, 1, (0, 0, 0, 0), 0) := rfl
theorem s230_109 {c : Nat → List AV → SS → Option Out} {l0 l1 l2 l3 l4 l5 : Option AV} {L2 : List (Nat × AV)} {St : List AV} {S : SS} : ev c 230 109 [l0, l1, l2, l3, l4, l5] L2 St S = ev c 230 110 [l0, l1, l2, l3, l4, l5] L2 (aI 3 :: St) S := ev_go i230_109 rfl
theorem i230_110 : insAt 230 110 = some (.iload 5, 2, (0, 0, 0, 0), 0) := rfl
theorem s230_110 {c : Nat → List AV → SS → Option Out} {l0 l1 l2 l3 l4 : Option AV} {x : Int32} {L2 : List (Nat × AV)} {St : List AV} {S : SS} : ev c 230 110 [l0, l1, l2, l3, l4, some (aI x)] L2 St S = ev c 230 112 [l0, l1, l2, l3, l4, some (aI x)] L2 (aI x :: St) S := ev_go i230_110 rfl
theorem i230_112 : insAt 230 112 = some (.invokevirtual 79, 3, (245, 3, 2, 12), 0) := rfl
theorem s230_112 {c : Nat → List AV → SS → Option Out} {l0 l1 l2 l3 l4 l5 : Option AV} {a0 : Int32} {a1 : Int32} {a2 : Int32} {j t : Nat} {L2 : List (Nat × AV)} {S : SS} : ev c 230 112 [l0, l1, l2, l3, l4, l5] L2 [aI a2, aI a1, aI a0, aR (12, j, t)] S = ck (c 245 [aR (12, j, t), aI a0, aI a1, aI a2] S) (fun v S' => ev c 230 115 [l0, l1, l2, l3, l4, l5] L2 (v.toList ++ []) S') := ev_call i230_112 rfl
theorem i230_115 : insAt 230 115 = some (.iinc 4 1, 3, (0, 0, 0, 0), 0) := rfl
theorem s230_115 {c : Nat → List AV → SS → Option Out} {l0 l1 l2 l3 l5 : Option AV} {x : Int32} {L2 : List (Nat × AV)} {St : List AV} {S : SS} : ev c 230 115 [l0, l1, l2, l3, some (aI x), l5] L2 St S = ev c 230 118 [l0, l1, l2, l3, some (aI (x + 1)), l5] (kil L2 4) St S := ev_go i230_115 rfl
theorem i230_118 : insAt 230 118 = some (.goto (-77), 3, (0, 0, 0, 0), 0) := rfl
theorem s230_118 {c : Nat → List AV → SS → Option Out} {l0 l1 l2 l3 l4 l5 : Option AV} {L2 : List (Nat × AV)} {St : List AV} {S : SS} : ev c 230 118 [l0, l1, l2, l3, l4, l5] L2 St S = ev c 230 41 [l0, l1, l2, l3, l4, l5] L2 St S := ev_go i230_118 rfl
theorem i230_121 : insAt 230 121 = some (.iinc 3 1, 3, (0, 0, 0, 0), 0) := rfl
theorem s230_121 {c : Nat → List AV → SS → Option Out} {l0 l1 l2 l4 l5 : Option AV} {x : Int32} {L2 : List (Nat × AV)} {St : List AV} {S : SS} : ev c 230 121 [l0, l1, l2, some (aI x), l4, l5] L2 St S = ev c 230 124 [l0, l1, l2, some (aI (x + 1)), l4, l5] (kil L2 3) St S := ev_go i230_121 rfl
theorem i230_124 : insAt 230 124 = some (.goto (-97), 3, (0, 0, 0, 0), 0) := rfl
theorem s230_124 {c : Nat → List AV → SS → Option Out} {l0 l1 l2 l3 l4 l5 : Option AV} {L2 : List (Nat × AV)} {St : List AV} {S : SS} : ev c 230 124 [l0, l1, l2, l3, l4, l5] L2 St S = ev c 230 27 [l0, l1, l2, l3, l4, l5] L2 St S := ev_go i230_124 rfl
theorem i230_127 : insAt 230 127 = some (.iconst 0, 1, (0, 0, 0, 0), 0) := rfl
theorem s230_127 {c : Nat → List AV → SS → Option Out} {l0 l1 l2 l3 l4 l5 : Option AV} {L2 : List (Nat × AV)} {St : List AV} {S : SS} : ev c 230 127 [l0, l1, l2, l3, l4, l5] L2 St S = ev c 230 128 [l0, l1, l2, l3, l4, l5] L2 (aI 0 :: St) S := ev_go i230_127 rfl
theorem i230_128 : insAt 230 128 = some (.ireturn, 1, (0, 0, 0, 0), 0) := rfl
theorem s230_128 {c : Nat → List AV → SS → Option Out} {l0 l1 l2 l3 l4 l5 : Option AV} {x : Int32} {L2 : List (Nat × AV)} {St : List AV} {S : SS} : ev c 230 128 [l0, l1, l2, l3, l4, l5] L2 [aI x] S = if x = 0 ∨ x = 1 then some (.inl (some (aI x)), S) else none := ev_rt i230_128 rfl
theorem m230 {d : Nat} {o : OId} {a0 : Int32} {a1 : Int32} {S : SS} : evm (d + 1) 230 [aR o, aI a0, aI a1] S = ev (evm d) 230 0 [some (aR o), some (aI a0), some (aI a1), none, none, none] [] [] S := evm_s (n := 6) rfl (Nat.le_of_ble_eq_true rfl) rfl rfl
/-! FrequencyOfficeModel.bestChannel()I -/
theorem i231_0 : insAt 231 0 = some (.iconst (-1), 1, (0, 0, 0, 0), 0) := rfl
theorem s231_0 {c : Nat → List AV → SS → Option Out} {l0 l1 l2 : Option AV} {L2 : List (Nat × AV)} {St : List AV} {S : SS} : ev c 231 0 [l0, l1, l2] L2 St S = ev c 231 1 [l0, l1, l2] L2 (aI (-1) :: St) S := ev_go i231_0 rfl
theorem i231_1 : insAt 231 1 = some (.istore_n 1, 1, (0, 0, 0, 0), 0) := rfl
theorem s231_1 {c : Nat → List AV → SS → Option Out} {l0 l1 l2 : Option AV} {x : Int32} {L2 : List (Nat × AV)} {St : List AV} {S : SS} : ev c 231 1 [l0, l1, l2] L2 (aI x :: St) S = ev c 231 2 [l0, some (aI x), l2] (kil L2 1) St S := ev_go i231_1 rfl
theorem i231_2 : insAt 231 2 = some (.iconst 0, 1, (0, 0, 0, 0), 0) := rfl
theorem s231_2 {c : Nat → List AV → SS → Option Out} {l0 l1 l2 : Option AV} {L2 : List (Nat × AV)} {St : List AV} {S : SS} : ev c 231 2 [l0, l1, l2] L2 St S = ev c 231 3 [l0, l1, l2] L2 (aI 0 :: St) S := ev_go i231_2 rfl
theorem i231_3 : insAt 231 3 = some (.istore_n 2, 1, (0, 0, 0, 0), 0) := rfl
theorem s231_3 {c : Nat → List AV → SS → Option Out} {l0 l1 l2 : Option AV} {x : Int32} {L2 : List (Nat × AV)} {St : List AV} {S : SS} : ev c 231 3 [l0, l1, l2] L2 (aI x :: St) S = ev c 231 4 [l0, l1, some (aI x)] (kil L2 2) St S := ev_go i231_3 rfl
theorem i231_4 : insAt 231 4 = some (.iload_n 2, 1, (0, 0, 0, 0), 0) := rfl
theorem s231_4 {c : Nat → List AV → SS → Option Out} {l0 l1 : Option AV} {x : Int32} {L2 : List (Nat × AV)} {St : List AV} {S : SS} : ev c 231 4 [l0, l1, some (aI x)] L2 St S = ev c 231 5 [l0, l1, some (aI x)] L2 (aI x :: St) S := ev_go i231_4 rfl
theorem i231_5 : insAt 231 5 = some (.bipush 8, 2, (0, 0, 0, 0), 0) := rfl
theorem s231_5 {c : Nat → List AV → SS → Option Out} {l0 l1 l2 : Option AV} {L2 : List (Nat × AV)} {St : List AV} {S : SS} : ev c 231 5 [l0, l1, l2] L2 St S = ev c 231 7 [l0, l1, l2] L2 (aI 8 :: St) S := ev_go i231_5 rfl
theorem i231_7 : insAt 231 7 = some (.if_icmp .ge 78, 3, (0, 0, 0, 0), 0) := rfl
theorem s231_7 {c : Nat → List AV → SS → Option Out} {l0 l1 l2 : Option AV} {x y : Int32} {L2 : List (Nat × AV)} {St : List AV} {S : SS} : ev c 231 7 [l0, l1, l2] L2 (aI y :: aI x :: St) S = if y ≤ x then ev c 231 85 [l0, l1, l2] L2 St S else ev c 231 10 [l0, l1, l2] L2 St S := ev_br i231_7 rfl
theorem i231_10 : insAt 231 10 = some (.aload_n 0, 1, (0, 0, 0, 0), 0) := rfl
theorem s231_10 {c : Nat → List AV → SS → Option Out} {l1 l2 : Option AV} {o : OId} {L2 : List (Nat × AV)} {St : List AV} {S : SS} : ev c 231 10 [some (aR o), l1, l2] L2 St S = ev c 231 11 [some (aR o), l1, l2] L2 (aR o :: St) S := ev_go i231_10 rfl
theorem i231_11 : insAt 231 11 = some (.getfield 47, 3, (12, 12, 0, 0), 0) := rfl
theorem s231_11 {c : Nat → List AV → SS → Option Out} {l0 l1 l2 : Option AV} {j t : Nat} {L2 : List (Nat × AV)} {St : List AV} {S : SS} : ev c 231 11 [l0, l1, l2] L2 (aR (12, j, t) :: St) S = ev c 231 14 [l0, l1, l2] L2 (aI (S.1 (12, j, t) 12) :: St) S := ev_go i231_11 rfl
theorem i231_14 : insAt 231 14 = some (.ifCond .lt 11, 3, (0, 0, 0, 0), 0) := rfl
theorem s231_14 {c : Nat → List AV → SS → Option Out} {l0 l1 l2 : Option AV} {x : Int32} {L2 : List (Nat × AV)} {St : List AV} {S : SS} : ev c 231 14 [l0, l1, l2] L2 (aI x :: St) S = if x < 0 then ev c 231 25 [l0, l1, l2] L2 St S else ev c 231 17 [l0, l1, l2] L2 St S := ev_br i231_14 rfl
theorem i231_17 : insAt 231 17 = some (.iload_n 2, 1, (0, 0, 0, 0), 0) := rfl
theorem s231_17 {c : Nat → List AV → SS → Option Out} {l0 l1 : Option AV} {x : Int32} {L2 : List (Nat × AV)} {St : List AV} {S : SS} : ev c 231 17 [l0, l1, some (aI x)] L2 St S = ev c 231 18 [l0, l1, some (aI x)] L2 (aI x :: St) S := ev_go i231_17 rfl
theorem i231_18 : insAt 231 18 = some (.aload_n 0, 1, (0, 0, 0, 0), 0) := rfl
theorem s231_18 {c : Nat → List AV → SS → Option Out} {l1 l2 : Option AV} {o : OId} {L2 : List (Nat × AV)} {St : List AV} {S : SS} : ev c 231 18 [some (aR o), l1, l2] L2 St S = ev c 231 19 [some (aR o), l1, l2] L2 (aR o :: St) S := ev_go i231_18 rfl
theorem i231_19 : insAt 231 19 = some (.getfield 47, 3, (12, 12, 0, 0), 0) := rfl
theorem s231_19 {c : Nat → List AV → SS → Option Out} {l0 l1 l2 : Option AV} {j t : Nat} {L2 : List (Nat × AV)} {St : List AV} {S : SS} : ev c 231 19 [l0, l1, l2] L2 (aR (12, j, t) :: St) S = ev c 231 22 [l0, l1, l2] L2 (aI (S.1 (12, j, t) 12) :: St) S := ev_go i231_19 rfl
theorem i231_22 : insAt 231 22 = some (.if_icmp .ne 57, 3, (0, 0, 0, 0), 0) := rfl
theorem s231_22 {c : Nat → List AV → SS → Option Out} {l0 l1 l2 : Option AV} {x y : Int32} {L2 : List (Nat × AV)} {St : List AV} {S : SS} : ev c 231 22 [l0, l1, l2] L2 (aI y :: aI x :: St) S = if x = y then ev c 231 25 [l0, l1, l2] L2 St S else ev c 231 79 [l0, l1, l2] L2 St S := (ev_br i231_22 rfl).trans (ite_not _ _ _)
theorem i231_25 : insAt 231 25 = some (.aload_n 0, 1, (0, 0, 0, 0), 0) := rfl
theorem s231_25 {c : Nat → List AV → SS → Option Out} {l1 l2 : Option AV} {o : OId} {L2 : List (Nat × AV)} {St : List AV} {S : SS} : ev c 231 25 [some (aR o), l1, l2] L2 St S = ev c 231 26 [some (aR o), l1, l2] L2 (aR o :: St) S := ev_go i231_25 rfl
theorem i231_26 : insAt 231 26 = some (.iload_n 2, 1, (0, 0, 0, 0), 0) := rfl
theorem s231_26 {c : Nat → List AV → SS → Option Out} {l0 l1 : Option AV} {x : Int32} {L2 : List (Nat × AV)} {St : List AV} {S : SS} : ev c 231 26 [l0, l1, some (aI x)] L2 St S = ev c 231 27 [l0, l1, some (aI x)] L2 (aI x :: St) S := ev_go i231_26 rfl
theorem i231_27 : insAt 231 27 = some (.invokevirtual 122, 3, (232, 1, 2, 12), 0) := rfl
theorem s231_27 {c : Nat → List AV → SS → Option Out} {l0 l1 l2 : Option AV} {a0 : Int32} {j t : Nat} {L2 : List (Nat × AV)} {S : SS} : ev c 231 27 [l0, l1, l2] L2 [aI a0, aR (12, j, t)] S = ck (c 232 [aR (12, j, t), aI a0] S) (fun v S' => ev c 231 30 [l0, l1, l2] L2 (v.toList ++ []) S') := ev_call i231_27 rfl
theorem i231_30 : insAt 231 30 = some (.ifCond .ne 6, 3, (0, 0, 0, 0), 0) := rfl
theorem s231_30 {c : Nat → List AV → SS → Option Out} {l0 l1 l2 : Option AV} {x : Int32} {L2 : List (Nat × AV)} {St : List AV} {S : SS} : ev c 231 30 [l0, l1, l2] L2 (aI x :: St) S = if x = 0 then ev c 231 33 [l0, l1, l2] L2 St S else ev c 231 36 [l0, l1, l2] L2 St S := (ev_br i231_30 rfl).trans (ite_not _ _ _)
theorem i231_33 : insAt 231 33 = some (.goto 46, 3, (0, 0, 0, 0), 0) := rfl
theorem s231_33 {c : Nat → List AV → SS → Option Out} {l0 l1 l2 : Option AV} {L2 : List (Nat × AV)} {St : List AV} {S : SS} : ev c 231 33 [l0, l1, l2] L2 St S = ev c 231 79 [l0, l1, l2] L2 St S := ev_go i231_33 rfl
theorem i231_36 : insAt 231 36 = some (.iload_n 1, 1, (0, 0, 0, 0), 0) := rfl
theorem s231_36 {c : Nat → List AV → SS → Option Out} {l0 l2 : Option AV} {x : Int32} {L2 : List (Nat × AV)} {St : List AV} {S : SS} : ev c 231 36 [l0, some (aI x), l2] L2 St S = ev c 231 37 [l0, some (aI x), l2] L2 (aI x :: St) S := ev_go i231_36 rfl
theorem i231_37 : insAt 231 37 = some (.ifCond .lt 40, 3, (0, 0, 0, 0), 0) := rfl
theorem s231_37 {c : Nat → List AV → SS → Option Out} {l0 l1 l2 : Option AV} {x : Int32} {L2 : List (Nat × AV)} {St : List AV} {S : SS} : ev c 231 37 [l0, l1, l2] L2 (aI x :: St) S = if x < 0 then ev c 231 77 [l0, l1, l2] L2 St S else ev c 231 40 [l0, l1, l2] L2 St S := ev_br i231_37 rfl
theorem i231_40 : insAt 231 40 = some (.aload_n 0, 1, (0, 0, 0, 0), 0) := rfl
theorem s231_40 {c : Nat → List AV → SS → Option Out} {l1 l2 : Option AV} {o : OId} {L2 : List (Nat × AV)} {St : List AV} {S : SS} : ev c 231 40 [some (aR o), l1, l2] L2 St S = ev c 231 41 [some (aR o), l1, l2] L2 (aR o :: St) S := ev_go i231_40 rfl
theorem i231_41 : insAt 231 41 = some (.aload_n 0, 1, (0, 0, 0, 0), 0) := rfl
theorem s231_41 {c : Nat → List AV → SS → Option Out} {l1 l2 : Option AV} {o : OId} {L2 : List (Nat × AV)} {St : List AV} {S : SS} : ev c 231 41 [some (aR o), l1, l2] L2 St S = ev c 231 42 [some (aR o), l1, l2] L2 (aR o :: St) S := ev_go i231_41 rfl
theorem i231_42 : insAt 231 42 = some (.getfield 41, 3, (12, 10, 0, 0), 0) := rfl
theorem s231_42 {c : Nat → List AV → SS → Option Out} {l0 l1 l2 : Option AV} {j t : Nat} {L2 : List (Nat × AV)} {St : List AV} {S : SS} : ev c 231 42 [l0, l1, l2] L2 (aR (12, j, t) :: St) S = ev c 231 45 [l0, l1, l2] L2 (aI (S.1 (12, j, t) 10) :: St) S := ev_go i231_42 rfl
theorem i231_45 : insAt 231 45 = some (.aload_n 0, 1, (0, 0, 0, 0), 0) := rfl
theorem s231_45 {c : Nat → List AV → SS → Option Out} {l1 l2 : Option AV} {o : OId} {L2 : List (Nat × AV)} {St : List AV} {S : SS} : ev c 231 45 [some (aR o), l1, l2] L2 St S = ev c 231 46 [some (aR o), l1, l2] L2 (aR o :: St) S := ev_go i231_45 rfl
theorem i231_46 : insAt 231 46 = some (.getfield 44, 3, (12, 11, 0, 0), 0) := rfl
theorem s231_46 {c : Nat → List AV → SS → Option Out} {l0 l1 l2 : Option AV} {j t : Nat} {L2 : List (Nat × AV)} {St : List AV} {S : SS} : ev c 231 46 [l0, l1, l2] L2 (aR (12, j, t) :: St) S = ev c 231 49 [l0, l1, l2] L2 (aI (S.1 (12, j, t) 11) :: St) S := ev_go i231_46 rfl
theorem i231_49 : insAt 231 49 = some (.iload_n 2, 1, (0, 0, 0, 0), 0) := rfl
theorem s231_49 {c : Nat → List AV → SS → Option Out} {l0 l1 : Option AV} {x : Int32} {L2 : List (Nat × AV)} {St : List AV} {S : SS} : ev c 231 49 [l0, l1, some (aI x)] L2 St S = ev c 231 50 [l0, l1, some (aI x)] L2 (aI x :: St) S := ev_go i231_49 rfl
theorem i231_50 : insAt 231 50 = some (.aload_n 0, 1, (0, 0, 0, 0), 0) := rfl
theorem s231_50 {c : Nat → List AV → SS → Option Out} {l1 l2 : Option AV} {o : OId} {L2 : List (Nat × AV)} {St : List AV} {S : SS} : ev c 231 50 [some (aR o), l1, l2] L2 St S = ev c 231 51 [some (aR o), l1, l2] L2 (aR o :: St) S := ev_go i231_50 rfl
theorem i231_51 : insAt 231 51 = some (.getfield 38, 3, (12, 9, 0, 0), 0) := rfl
theorem s231_51 {c : Nat → List AV → SS → Option Out} {l0 l1 l2 : Option AV} {j t : Nat} {L2 : List (Nat × AV)} {St : List AV} {S : SS} : ev c 231 51 [l0, l1, l2] L2 (aR (12, j, t) :: St) S = ev c 231 54 [l0, l1, l2] L2 (aI (S.1 (12, j, t) 9) :: St) S := ev_go i231_51 rfl
theorem i231_54 : insAt 231 54 = some (.invokevirtual 125, 3, (241, 4, 2, 12), 0) := rfl
theorem s231_54 {c : Nat → List AV → SS → Option Out} {l0 l1 l2 : Option AV} {a0 : Int32} {a1 : Int32} {a2 : Int32} {a3 : Int32} {j t : Nat} {L2 : List (Nat × AV)} {S : SS} : ev c 231 54 [l0, l1, l2] L2 [aI a3, aI a2, aI a1, aI a0, aR (12, j, t)] S = ck (c 241 [aR (12, j, t), aI a0, aI a1, aI a2, aI a3] S) (fun v S' => ev c 231 57 [l0, l1, l2] L2 (v.toList ++ []) S') := ev_call i231_54 rfl
theorem i231_57 : insAt 231 57 = some (.aload_n 0, 1, (0, 0, 0, 0), 0) := rfl
theorem s231_57 {c : Nat → List AV → SS → Option Out} {l1 l2 : Option AV} {o : OId} {L2 : List (Nat × AV)} {St : List AV} {S : SS} : ev c 231 57 [some (aR o), l1, l2] L2 St S = ev c 231 58 [some (aR o), l1, l2] L2 (aR o :: St) S := ev_go i231_57 rfl
theorem i231_58 : insAt 231 58 = some (.aload_n 0, 1, (0, 0, 0, 0), 0) := rfl
theorem s231_58 {c : Nat → List AV → SS → Option Out} {l1 l2 : Option AV} {o : OId} {L2 : List (Nat × AV)} {St : List AV} {S : SS} : ev c 231 58 [some (aR o), l1, l2] L2 St S = ev c 231 59 [some (aR o), l1, l2] L2 (aR o :: St) S := ev_go i231_58 rfl
theorem i231_59 : insAt 231 59 = some (.getfield 41, 3, (12, 10, 0, 0), 0) := rfl
theorem s231_59 {c : Nat → List AV → SS → Option Out} {l0 l1 l2 : Option AV} {j t : Nat} {L2 : List (Nat × AV)} {St : List AV} {S : SS} : ev c 231 59 [l0, l1, l2] L2 (aR (12, j, t) :: St) S = ev c 231 62 [l0, l1, l2] L2 (aI (S.1 (12, j, t) 10) :: St) S := ev_go i231_59 rfl
theorem i231_62 : insAt 231 62 = some (.aload_n 0, 1, (0, 0, 0, 0), 0) := rfl
theorem s231_62 {c : Nat → List AV → SS → Option Out} {l1 l2 : Option AV} {o : OId} {L2 : List (Nat × AV)} {St : List AV} {S : SS} : ev c 231 62 [some (aR o), l1, l2] L2 St S = ev c 231 63 [some (aR o), l1, l2] L2 (aR o :: St) S := ev_go i231_62 rfl
theorem i231_63 : insAt 231 63 = some (.getfield 44, 3, (12, 11, 0, 0), 0) := rfl
theorem s231_63 {c : Nat → List AV → SS → Option Out} {l0 l1 l2 : Option AV} {j t : Nat} {L2 : List (Nat × AV)} {St : List AV} {S : SS} : ev c 231 63 [l0, l1, l2] L2 (aR (12, j, t) :: St) S = ev c 231 66 [l0, l1, l2] L2 (aI (S.1 (12, j, t) 11) :: St) S := ev_go i231_63 rfl
theorem i231_66 : insAt 231 66 = some (.iload_n 1, 1, (0, 0, 0, 0), 0) := rfl
theorem s231_66 {c : Nat → List AV → SS → Option Out} {l0 l2 : Option AV} {x : Int32} {L2 : List (Nat × AV)} {St : List AV} {S : SS} : ev c 231 66 [l0, some (aI x), l2] L2 St S = ev c 231 67 [l0, some (aI x), l2] L2 (aI x :: St) S := ev_go i231_66 rfl
theorem i231_67 : insAt 231 67 = some (.aload_n 0, 1, (0, 0, 0, 0), 0) := rfl
theorem s231_67 {c : Nat → List AV → SS → Option Out} {l1 l2 : Option AV} {o : OId} {L2 : List (Nat × AV)} {St : List AV} {S : SS} : ev c 231 67 [some (aR o), l1, l2] L2 St S = ev c 231 68 [some (aR o), l1, l2] L2 (aR o :: St) S := ev_go i231_67 rfl
theorem i231_68 : insAt 231 68 = some (.getfield 38, 3, (12, 9, 0, 0), 0) := rfl
theorem s231_68 {c : Nat → List AV → SS → Option Out} {l0 l1 l2 : Option AV} {j t : Nat} {L2 : List (Nat × AV)} {St : List AV} {S : SS} : ev c 231 68 [l0, l1, l2] L2 (aR (12, j, t) :: St) S = ev c 231 71 [l0, l1, l2] L2 (aI (S.1 (12, j, t) 9) :: St) S := ev_go i231_68 rfl
theorem i231_71 : insAt 231 71 = some (.invokevirtual 125, 3, (241, 4, 2, 12), 0) := rfl
theorem s231_71 {c : Nat → List AV → SS → Option Out} {l0 l1 l2 : Option AV} {t0 : AV} {a0 : Int32} {a1 : Int32} {a2 : Int32} {a3 : Int32} {j t : Nat} {L2 : List (Nat × AV)} {S : SS} : ev c 231 71 [l0, l1, l2] L2 [aI a3, aI a2, aI a1, aI a0, aR (12, j, t), t0] S = ck (c 241 [aR (12, j, t), aI a0, aI a1, aI a2, aI a3] S) (fun v S' => ev c 231 74 [l0, l1, l2] L2 (v.toList ++ [t0]) S') := ev_call i231_71 rfl
theorem i231_74 : insAt 231 74 = some (.if_icmp .ge 5, 3, (0, 0, 0, 0), 0) := rfl
theorem s231_74 {c : Nat → List AV → SS → Option Out} {l0 l1 l2 : Option AV} {x y : Int32} {L2 : List (Nat × AV)} {St : List AV} {S : SS} : ev c 231 74 [l0, l1, l2] L2 (aI y :: aI x :: St) S = if y ≤ x then ev c 231 79 [l0, l1, l2] L2 St S else ev c 231 77 [l0, l1, l2] L2 St S := ev_br i231_74 rfl
theorem i231_77 : insAt 231 77 = some (.iload_n 2, 1, (0, 0, 0, 0), 0) := rfl
theorem s231_77 {c : Nat → List AV → SS → Option Out} {l0 l1 : Option AV} {x : Int32} {L2 : List (Nat × AV)} {St : List AV} {S : SS} : ev c 231 77 [l0, l1, some (aI x)] L2 St S = ev c 231 78 [l0, l1, some (aI x)] L2 (aI x :: St) S := ev_go i231_77 rfl
theorem i231_78 : insAt 231 78 = some (.istore_n 1, 1, (0, 0, 0, 0), 0) := rfl
theorem s231_78 {c : Nat → List AV → SS → Option Out} {l0 l1 l2 : Option AV} {x : Int32} {L2 : List (Nat × AV)} {St : List AV} {S : SS} : ev c 231 78 [l0, l1, l2] L2 (aI x :: St) S = ev c 231 79 [l0, some (aI x), l2] (kil L2 1) St S := ev_go i231_78 rfl
theorem i231_79 : insAt 231 79 = some (.iinc 2 1, 3, (0, 0, 0, 0), 0) := rfl
theorem s231_79 {c : Nat → List AV → SS → Option Out} {l0 l1 : Option AV} {x : Int32} {L2 : List (Nat × AV)} {St : List AV} {S : SS} : ev c 231 79 [l0, l1, some (aI x)] L2 St S = ev c 231 82 [l0, l1, some (aI (x + 1))] (kil L2 2) St S := ev_go i231_79 rfl
theorem i231_82 : insAt 231 82 = some (.goto (-78), 3, (0, 0, 0, 0), 0) := rfl
theorem s231_82 {c : Nat → List AV → SS → Option Out} {l0 l1 l2 : Option AV} {L2 : List (Nat × AV)} {St : List AV} {S : SS} : ev c 231 82 [l0, l1, l2] L2 St S = ev c 231 4 [l0, l1, l2] L2 St S := ev_go i231_82 rfl
theorem i231_85 : insAt 231 85 = some (.iload_n 1, 1, (0, 0, 0, 0), 0) := rfl
theorem s231_85 {c : Nat → List AV → SS → Option Out} {l0 l2 : Option AV} {x : Int32} {L2 : List (Nat × AV)} {St : List AV} {S : SS} : ev c 231 85 [l0, some (aI x), l2] L2 St S = ev c 231 86 [l0, some (aI x), l2] L2 (aI x :: St) S := ev_go i231_85 rfl
theorem i231_86 : insAt 231 86 = some (.ireturn, 1, (0, 0, 0, 0), 0) := rfl
theorem s231_86 {c : Nat → List AV → SS → Option Out} {l0 l1 l2 : Option AV} {x : Int32} {L2 : List (Nat × AV)} {St : List AV} {S : SS} : ev c 231 86 [l0, l1, l2] L2 [aI x] S = some (.inl (some (aI x)), S) := ev_end i231_86 rfl
theorem m231 {d : Nat} {o : OId} {S : SS} : evm (d + 1) 231 [aR o] S = ev (evm d) 231 0 [some (aR o), none, none] [] [] S := evm_s (n := 3) rfl (Nat.le_of_ble_eq_true rfl) rfl rfl
/-! FrequencyOfficeModel.isServedFree(I)Z -/
theorem i232_0 : insAt 232 0 = some (.iconst 0, 1, (0, 0, 0, 0), 0) := rfl
theorem s232_0 {c : Nat → List AV → SS → Option Out} {l0 l1 l2 : Option AV} {L2 : List (Nat × AV)} {St : List AV} {S : SS} : ev c 232 0 [l0, l1, l2] L2 St S = ev c 232 1 [l0, l1, l2] L2 (aI 0 :: St) S := ev_go i232_0 rfl
theorem i232_1 : insAt 232 1 = some (.istore_n 2, 1, (0, 0, 0, 0), 0) := rfl
theorem s232_1 {c : Nat → List AV → SS → Option Out} {l0 l1 l2 : Option AV} {x : Int32} {L2 : List (Nat × AV)} {St : List AV} {S : SS} : ev c 232 1 [l0, l1, l2] L2 (aI x :: St) S = ev c 232 2 [l0, l1, some (aI x)] (kil L2 2) St S := ev_go i232_1 rfl
theorem i232_2 : insAt 232 2 = some (.iload_n 2, 1, (0, 0, 0, 0), 0) := rfl
theorem s232_2 {c : Nat → List AV → SS → Option Out} {l0 l1 : Option AV} {x : Int32} {L2 : List (Nat × AV)} {St : List AV} {S : SS} : ev c 232 2 [l0, l1, some (aI x)] L2 St S = ev c 232 3 [l0, l1, some (aI x)] L2 (aI x :: St) S := ev_go i232_2 rfl
theorem i232_3 : insAt 232 3 = some (.aload_n 0, 1, (0, 0, 0, 0), 0) := rfl
theorem s232_3 {c : Nat → List AV → SS → Option Out} {l1 l2 : Option AV} {o : OId} {L2 : List (Nat × AV)} {St : List AV} {S : SS} : ev c 232 3 [some (aR o), l1, l2] L2 St S = ev c 232 4 [some (aR o), l1, l2] L2 (aR o :: St) S := ev_go i232_3 rfl
theorem i232_4 : insAt 232 4 = some (.getfield 7, 3, (12, 0, 0, 0), 0) := rfl
theorem s232_4 {c : Nat → List AV → SS → Option Out} {l0 l1 l2 : Option AV} {j t : Nat} {L2 : List (Nat × AV)} {St : List AV} {S : SS} : ev c 232 4 [l0, l1, l2] L2 (aR (12, j, t) :: St) S = ev c 232 7 [l0, l1, l2] L2 (S.2.2.1 (12, j, t) 0 :: St) S := ev_go i232_4 rfl
theorem i232_7 : insAt 232 7 = some (.bipush 7, 2, (0, 0, 0, 0), 0) := rfl
theorem s232_7 {c : Nat → List AV → SS → Option Out} {l0 l1 l2 : Option AV} {L2 : List (Nat × AV)} {St : List AV} {S : SS} : ev c 232 7 [l0, l1, l2] L2 St S = ev c 232 9 [l0, l1, l2] L2 (aI 7 :: St) S := ev_go i232_7 rfl
theorem i232_9 : insAt 232 9 = some (.iaload, 1, (0, 0, 0, 0), 0) := rfl
theorem s232_9 {c : Nat → List AV → SS → Option Out} {l0 l1 l2 : Option AV} {i : Int32} {o : OId} {L2 : List (Nat × AV)} {St : List AV} {S : SS} : ev c 232 9 [l0, l1, l2] L2 (aI i :: aR o :: St) S = kI o i (ev c 232 10 [l0, l1, l2] L2 (aI (agI S o i.toNatClampNeg) :: St) S) := ev_iaload i232_9
theorem i232_10 : insAt 232 10 = some (.if_icmp .ge 46, 3, (0, 0, 0, 0), 0) := rfl
theorem s232_10 {c : Nat → List AV → SS → Option Out} {l0 l1 l2 : Option AV} {x y : Int32} {L2 : List (Nat × AV)} {St : List AV} {S : SS} : ev c 232 10 [l0, l1, l2] L2 (aI y :: aI x :: St) S = if y ≤ x then ev c 232 56 [l0, l1, l2] L2 St S else ev c 232 13 [l0, l1, l2] L2 St S := ev_br i232_10 rfl
theorem i232_13 : insAt 232 13 = some (.iload_n 2, 1, (0, 0, 0, 0), 0) := rfl
theorem s232_13 {c : Nat → List AV → SS → Option Out} {l0 l1 : Option AV} {x : Int32} {L2 : List (Nat × AV)} {St : List AV} {S : SS} : ev c 232 13 [l0, l1, some (aI x)] L2 St S = ev c 232 14 [l0, l1, some (aI x)] L2 (aI x :: St) S := ev_go i232_13 rfl
theorem i232_14 : insAt 232 14 = some (.aload_n 0, 1, (0, 0, 0, 0), 0) := rfl
theorem s232_14 {c : Nat → List AV → SS → Option Out} {l1 l2 : Option AV} {o : OId} {L2 : List (Nat × AV)} {St : List AV} {S : SS} : ev c 232 14 [some (aR o), l1, l2] L2 St S = ev c 232 15 [some (aR o), l1, l2] L2 (aR o :: St) S := ev_go i232_14 rfl
theorem i232_15 : insAt 232 15 = some (.getfield 38, 3, (12, 9, 0, 0), 0) := rfl
theorem s232_15 {c : Nat → List AV → SS → Option Out} {l0 l1 l2 : Option AV} {j t : Nat} {L2 : List (Nat × AV)} {St : List AV} {S : SS} : ev c 232 15 [l0, l1, l2] L2 (aR (12, j, t) :: St) S = ev c 232 18 [l0, l1, l2] L2 (aI (S.1 (12, j, t) 9) :: St) S := ev_go i232_15 rfl
theorem i232_18 : insAt 232 18 = some (.if_icmp .eq 32, 3, (0, 0, 0, 0), 0) := rfl
theorem s232_18 {c : Nat → List AV → SS → Option Out} {l0 l1 l2 : Option AV} {x y : Int32} {L2 : List (Nat × AV)} {St : List AV} {S : SS} : ev c 232 18 [l0, l1, l2] L2 (aI y :: aI x :: St) S = if x = y then ev c 232 50 [l0, l1, l2] L2 St S else ev c 232 21 [l0, l1, l2] L2 St S := ev_br i232_18 rfl
theorem i232_21 : insAt 232 21 = some (.aload_n 0, 1, (0, 0, 0, 0), 0) := rfl
theorem s232_21 {c : Nat → List AV → SS → Option Out} {l1 l2 : Option AV} {o : OId} {L2 : List (Nat × AV)} {St : List AV} {S : SS} : ev c 232 21 [some (aR o), l1, l2] L2 St S = ev c 232 22 [some (aR o), l1, l2] L2 (aR o :: St) S := ev_go i232_21 rfl
theorem i232_22 : insAt 232 22 = some (.iload_n 2, 1, (0, 0, 0, 0), 0) := rfl
theorem s232_22 {c : Nat → List AV → SS → Option Out} {l0 l1 : Option AV} {x : Int32} {L2 : List (Nat × AV)} {St : List AV} {S : SS} : ev c 232 22 [l0, l1, some (aI x)] L2 St S = ev c 232 23 [l0, l1, some (aI x)] L2 (aI x :: St) S := ev_go i232_22 rfl
theorem i232_23 : insAt 232 23 = some (.invokevirtual 115, 3, (233, 1, 2, 12), 0) := rfl
theorem s232_23 {c : Nat → List AV → SS → Option Out} {l0 l1 l2 : Option AV} {a0 : Int32} {j t : Nat} {L2 : List (Nat × AV)} {S : SS} : ev c 232 23 [l0, l1, l2] L2 [aI a0, aR (12, j, t)] S = ck (c 233 [aR (12, j, t), aI a0] S) (fun v S' => ev c 232 26 [l0, l1, l2] L2 (v.toList ++ []) S') := ev_call i232_23 rfl
theorem i232_26 : insAt 232 26 = some (.ifCond .eq 24, 3, (0, 0, 0, 0), 0) := rfl
theorem s232_26 {c : Nat → List AV → SS → Option Out} {l0 l1 l2 : Option AV} {x : Int32} {L2 : List (Nat × AV)} {St : List AV} {S : SS} : ev c 232 26 [l0, l1, l2] L2 (aI x :: St) S = if x = 0 then ev c 232 50 [l0, l1, l2] L2 St S else ev c 232 29 [l0, l1, l2] L2 St S := ev_br i232_26 rfl
theorem i232_29 : insAt 232 29 = some (.aload_n 0, 1, (0, 0, 0, 0), 0) := rfl
theorem s232_29 {c : Nat → List AV → SS → Option Out} {l1 l2 : Option AV} {o : OId} {L2 : List (Nat × AV)} {St : List AV} {S : SS} : ev c 232 29 [some (aR o), l1, l2] L2 St S = ev c 232 30 [some (aR o), l1, l2] L2 (aR o :: St) S := ev_go i232_29 rfl
theorem i232_30 : insAt 232 30 = some (.iload_n 2, 1, (0, 0, 0, 0), 0) := rfl
theorem s232_30 {c : Nat → List AV → SS → Option Out} {l0 l1 : Option AV} {x : Int32} {L2 : List (Nat × AV)} {St : List AV} {S : SS} : ev c 232 30 [l0, l1, some (aI x)] L2 St S = ev c 232 31 [l0, l1, some (aI x)] L2 (aI x :: St) S := ev_go i232_30 rfl
theorem i232_31 : insAt 232 31 = some (.iconst 3, 1, (0, 0, 0, 0), 0) := rfl
theorem s232_31 {c : Nat → List AV → SS → Option Out} {l0 l1 l2 : Option AV} {L2 : List (Nat × AV)} {St : List AV} {S : SS} : ev c 232 31 [l0, l1, l2] L2 St S = ev c 232 32 [l0, l1, l2] L2 (aI 3 :: St) S := ev_go i232_31 rfl
theorem i232_32 : insAt 232 32 = some (.invokevirtual 75, 3, (234, 2, 2, 12), 0) := rfl
theorem s232_32 {c : Nat → List AV → SS → Option Out} {l0 l1 l2 : Option AV} {a0 : Int32} {a1 : Int32} {j t : Nat} {L2 : List (Nat × AV)} {S : SS} : ev c 232 32 [l0, l1, l2] L2 [aI a1, aI a0, aR (12, j, t)] S = ck (c 234 [aR (12, j, t), aI a0, aI a1] S) (fun v S' => ev c 232 35 [l0, l1, l2] L2 (v.toList ++ []) S') := ev_call i232_32 rfl
theorem i232_35 : insAt 232 35 = some (.iload_n 1, 1, (0, 0, 0, 0), 0) := rfl
theorem s232_35 {c : Nat → List AV → SS → Option Out} {l0 l2 : Option AV} {x : Int32} {L2 : List (Nat × AV)} {St : List AV} {S : SS} : ev c 232 35 [l0, some (aI x), l2] L2 St S = ev c 232 36 [l0, some (aI x), l2] L2 (aI x :: St) S := ev_go i232_35 rfl
theorem i232_36 : insAt 232 36 = some (.isub, 1, (0, 0, 0, 0), 0) := rfl
theorem s232_36 {c : Nat → List AV → SS → Option Out} {l0 l1 l2 : Option AV} {x y : Int32} {L2 : List (Nat × AV)} {St : List AV} {S : SS} : ev c 232 36 [l0, l1, l2] L2 (aI y :: aI x :: St) S = ev c 232 37 [l0, l1, l2] L2 (aI (x - y) :: St) S := ev_go i232_36 rfl
theorem i232_37 : insAt 232 37 = some (.invokestatic 109, 3, (235, 1, 0, 0), 0) := rfl
theorem s232_37 {c : Nat → List AV → SS → Option Out} {l0 l1 l2 : Option AV} {a0 : Int32} {L2 : List (Nat × AV)} {S : SS} : ev c 232 37 [l0, l1, l2] L2 [aI a0] S = ck (c 235 [aI a0] S) (fun v S' => ev c 232 40 [l0, l1, l2] L2 (v.toList ++ []) S') := ev_call i232_37 rfl
theorem i232_40 : insAt 232 40 = some (.aload_n 0, 1, (0, 0, 0, 0), 0) := rfl
theorem s232_40 {c : Nat → List AV → SS → Option Out} {l1 l2 : Option AV} {o : OId} {L2 : List (Nat × AV)} {St : List AV} {S : SS} : ev c 232 40 [some (aR o), l1, l2] L2 St S = ev c 232 41 [some (aR o), l1, l2] L2 (aR o :: St) S := ev_go i232_40 rfl
theorem i232_41 : insAt 232 41 = some (.iload_n 2, 1, (0, 0, 0, 0), 0) := rfl
theorem s232_41 {c : Nat → List AV → SS → Option Out} {l0 l1 : Option AV} {x : Int32} {L2 : List (Nat × AV)} {St : List AV} {S : SS} : ev c 232 41 [l0, l1, some (aI x)] L2 St S = ev c 232 42 [l0, l1, some (aI x)] L2 (aI x :: St) S := ev_go i232_41 rfl
theorem i232_42 : insAt 232 42 = some (.invokevirtual 119, 3, (236, 1, 2, 12), 0) := rfl
theorem s232_42 {c : Nat → List AV → SS → Option Out} {l0 l1 l2 : Option AV} {t0 : AV} {a0 : Int32} {j t : Nat} {L2 : List (Nat × AV)} {S : SS} : ev c 232 42 [l0, l1, l2] L2 [aI a0, aR (12, j, t), t0] S = ck (c 236 [aR (12, j, t), aI a0] S) (fun v S' => ev c 232 45 [l0, l1, l2] L2 (v.toList ++ [t0]) S') := ev_call i232_42 rfl
theorem i232_45 : insAt 232 45 = some (.if_icmp .ge 5, 3, (0, 0, 0, 0), 0) := rfl
theorem s232_45 {c : Nat → List AV → SS → Option Out} {l0 l1 l2 : Option AV} {x y : Int32} {L2 : List (Nat × AV)} {St : List AV} {S : SS} : ev c 232 45 [l0, l1, l2] L2 (aI y :: aI x :: St) S = if y ≤ x then ev c 232 50 [l0, l1, l2] L2 St S else ev c 232 48 [l0, l1, l2] L2 St S := ev_br i232_45 rfl
theorem i232_48 : insAt 232 48 = some (.iconst 0, 1, (0, 0, 0, 0), 0) := rfl
theorem s232_48 {c : Nat → List AV → SS → Option Out} {l0 l1 l2 : Option AV} {L2 : List (Nat × AV)} {St : List AV} {S : SS} : ev c 232 48 [l0, l1, l2] L2 St S = ev c 232 49 [l0, l1, l2] L2 (aI 0 :: St) S := ev_go i232_48 rfl
theorem i232_49 : insAt 232 49 = some (.ireturn, 1, (0, 0, 0, 0), 0) := rfl
theorem s232_49 {c : Nat → List AV → SS → Option Out} {l0 l1 l2 : Option AV} {x : Int32} {L2 : List (Nat × AV)} {St : List AV} {S : SS} : ev c 232 49 [l0, l1, l2] L2 [aI x] S = if x = 0 ∨ x = 1 then some (.inl (some (aI x)), S) else none := ev_rt i232_49 rfl
theorem i232_50 : insAt 232 50 = some (.iinc 2 1, 3, (0, 0, 0, 0), 0) := rfl
theorem s232_50 {c : Nat → List AV → SS → Option Out} {l0 l1 : Option AV} {x : Int32} {L2 : List (Nat × AV)} {St : List AV} {S : SS} : ev c 232 50 [l0, l1, some (aI x)] L2 St S = ev c 232 53 [l0, l1, some (aI (x + 1))] (kil L2 2) St S := ev_go i232_50 rfl
theorem i232_53 : insAt 232 53 = some (.goto (-51), 3, (0, 0, 0, 0), 0) := rfl
theorem s232_53 {c : Nat → List AV → SS → Option Out} {l0 l1 l2 : Option AV} {L2 : List (Nat × AV)} {St : List AV} {S : SS} : ev c 232 53 [l0, l1, l2] L2 St S = ev c 232 2 [l0, l1, l2] L2 St S := ev_go i232_53 rfl
theorem i232_56 : insAt 232 56 = some (.iconst 1, 1, (0, 0, 0, 0), 0) := rfl
theorem s232_56 {c : Nat → List AV → SS → Option Out} {l0 l1 l2 : Option AV} {L2 : List (Nat × AV)} {St : List AV} {S : SS} : ev c 232 56 [l0, l1, l2] L2 St S = ev c 232 57 [l0, l1, l2] L2 (aI 1 :: St) S := ev_go i232_56 rfl
theorem i232_57 : insAt 232 57 = some (.ireturn, 1, (0, 0, 0, 0), 0) := rfl
theorem s232_57 {c : Nat → List AV → SS → Option Out} {l0 l1 l2 : Option AV} {x : Int32} {L2 : List (Nat × AV)} {St : List AV} {S : SS} : ev c 232 57 [l0, l1, l2] L2 [aI x] S = if x = 0 ∨ x = 1 then some (.inl (some (aI x)), S) else none := ev_rt i232_57 rfl
theorem m232 {d : Nat} {o : OId} {a0 : Int32} {S : SS} : evm (d + 1) 232 [aR o, aI a0] S = ev (evm d) 232 0 [some (aR o), some (aI a0), none] [] [] S := evm_s (n := 3) rfl (Nat.le_of_ble_eq_true rfl) rfl rfl
/-! FrequencyOfficeModel.isLicensed(I)Z -/
theorem i233_0 : insAt 233 0 = some (.aload_n 0, 1, (0, 0, 0, 0), 0) := rfl
theorem s233_0 {c : Nat → List AV → SS → Option Out} {l1 : Option AV} {o : OId} {L2 : List (Nat × AV)} {St : List AV} {S : SS} : ev c 233 0 [some (aR o), l1] L2 St S = ev c 233 1 [some (aR o), l1] L2 (aR o :: St) S := ev_go i233_0 rfl
theorem i233_1 : insAt 233 1 = some (.iload_n 1, 1, (0, 0, 0, 0), 0) := rfl
theorem s233_1 {c : Nat → List AV → SS → Option Out} {l0 : Option AV} {x : Int32} {L2 : List (Nat × AV)} {St : List AV} {S : SS} : ev c 233 1 [l0, some (aI x)] L2 St S = ev c 233 2 [l0, some (aI x)] L2 (aI x :: St) S := ev_go i233_1 rfl
theorem i233_2 : insAt 233 2 = some (.iconst 5, 1, (0, 0, 0, 0), 0) := rfl
theorem s233_2 {c : Nat → List AV → SS → Option Out} {l0 l1 : Option AV} {L2 : List (Nat × AV)} {St : List AV} {S : SS} : ev c 233 2 [l0, l1] L2 St S = ev c 233 3 [l0, l1] L2 (aI 5 :: St) S := ev_go i233_2 rfl
theorem i233_3 : insAt 233 3 = some (.invokevirtual 75, 3, (234, 2, 2, 12), 0) := rfl
theorem s233_3 {c : Nat → List AV → SS → Option Out} {l0 l1 : Option AV} {a0 : Int32} {a1 : Int32} {j t : Nat} {L2 : List (Nat × AV)} {S : SS} : ev c 233 3 [l0, l1] L2 [aI a1, aI a0, aR (12, j, t)] S = ck (c 234 [aR (12, j, t), aI a0, aI a1] S) (fun v S' => ev c 233 6 [l0, l1] L2 (v.toList ++ []) S') := ev_call i233_3 rfl
theorem i233_6 : insAt 233 6 = some (.iconst 1, 1, (0, 0, 0, 0), 0) := rfl
theorem s233_6 {c : Nat → List AV → SS → Option Out} {l0 l1 : Option AV} {L2 : List (Nat × AV)} {St : List AV} {S : SS} : ev c 233 6 [l0, l1] L2 St S = ev c 233 7 [l0, l1] L2 (aI 1 :: St) S := ev_go i233_6 rfl
theorem i233_7 : insAt 233 7 = some (.if_icmp .ne 7, 3, (0, 0, 0, 0), 0) := rfl
theorem s233_7 {c : Nat → List AV → SS → Option Out} {l0 l1 : Option AV} {x y : Int32} {L2 : List (Nat × AV)} {St : List AV} {S : SS} : ev c 233 7 [l0, l1] L2 (aI y :: aI x :: St) S = if x = y then ev c 233 10 [l0, l1] L2 St S else ev c 233 14 [l0, l1] L2 St S := (ev_br i233_7 rfl).trans (ite_not _ _ _)
theorem i233_10 : insAt 233 10 = some (.iconst 1, 1, (0, 0, 0, 0), 0) := rfl
theorem s233_10 {c : Nat → List AV → SS → Option Out} {l0 l1 : Option AV} {L2 : List (Nat × AV)} {St : List AV} {S : SS} : ev c 233 10 [l0, l1] L2 St S = ev c 233 11 [l0, l1] L2 (aI 1 :: St) S := ev_go i233_10 rfl
theorem i233_11 : insAt 233 11 = some (.goto 4, 3, (0, 0, 0, 0), 0) := rfl
theorem s233_11 {c : Nat → List AV → SS → Option Out} {l0 l1 : Option AV} {L2 : List (Nat × AV)} {St : List AV} {S : SS} : ev c 233 11 [l0, l1] L2 St S = ev c 233 15 [l0, l1] L2 St S := ev_go i233_11 rfl
theorem i233_14 : insAt 233 14 = some (.iconst 0, 1, (0, 0, 0, 0), 0) := rfl
theorem s233_14 {c : Nat → List AV → SS → Option Out} {l0 l1 : Option AV} {L2 : List (Nat × AV)} {St : List AV} {S : SS} : ev c 233 14 [l0, l1] L2 St S = ev c 233 15 [l0, l1] L2 (aI 0 :: St) S := ev_go i233_14 rfl
theorem i233_15 : insAt 233 15 = some (.ireturn, 1, (0, 0, 0, 0), 0) := rfl
theorem s233_15 {c : Nat → List AV → SS → Option Out} {l0 l1 : Option AV} {x : Int32} {L2 : List (Nat × AV)} {St : List AV} {S : SS} : ev c 233 15 [l0, l1] L2 [aI x] S = if x = 0 ∨ x = 1 then some (.inl (some (aI x)), S) else none := ev_rt i233_15 rfl
theorem m233 {d : Nat} {o : OId} {a0 : Int32} {S : SS} : evm (d + 1) 233 [aR o, aI a0] S = ev (evm d) 233 0 [some (aR o), some (aI a0)] [] [] S := evm_s (n := 2) rfl (Nat.le_of_ble_eq_true rfl) rfl rfl
/-! FrequencyOfficeModel.field(II)I -/
theorem i234_0 : insAt 234 0 = some (.aload_n 0, 1, (0, 0, 0, 0), 0) := rfl
theorem s234_0 {c : Nat → List AV → SS → Option Out} {l1 l2 : Option AV} {o : OId} {L2 : List (Nat × AV)} {St : List AV} {S : SS} : ev c 234 0 [some (aR o), l1, l2] L2 St S = ev c 234 1 [some (aR o), l1, l2] L2 (aR o :: St) S := ev_go i234_0 rfl
theorem i234_1 : insAt 234 1 = some (.getfield 7, 3, (12, 0, 0, 0), 0) := rfl
theorem s234_1 {c : Nat → List AV → SS → Option Out} {l0 l1 l2 : Option AV} {j t : Nat} {L2 : List (Nat × AV)} {St : List AV} {S : SS} : ev c 234 1 [l0, l1, l2] L2 (aR (12, j, t) :: St) S = ev c 234 4 [l0, l1, l2] L2 (S.2.2.1 (12, j, t) 0 :: St) S := ev_go i234_1 rfl
theorem i234_4 : insAt 234 4 = some (.bipush 15, 2, (0, 0, 0, 0), 0) := rfl
theorem s234_4 {c : Nat → List AV → SS → Option Out} {l0 l1 l2 : Option AV} {L2 : List (Nat × AV)} {St : List AV} {S : SS} : ev c 234 4 [l0, l1, l2] L2 St S = ev c 234 6 [l0, l1, l2] L2 (aI 15 :: St) S := ev_go i234_4 rfl
theorem i234_6 : insAt 234 6 = some (.bipush 6, 2, (0, 0, 0, 0), 0) := rfl
theorem s234_6 {c : Nat → List AV → SS → Option Out} {l0 l1 l2 : Option AV} {L2 : List (Nat × AV)} {St : List AV} {S : SS} : ev c 234 6 [l0, l1, l2] L2 St S = ev c 234 8 [l0, l1, l2] L2 (aI 6 :: St) S := ev_go i234_6 rfl
theorem i234_8 : insAt 234 8 = some (.iload_n 1, 1, (0, 0, 0, 0), 0) := rfl
theorem s234_8 {c : Nat → List AV → SS → Option Out} {l0 l2 : Option AV} {x : Int32} {L2 : List (Nat × AV)} {St : List AV} {S : SS} : ev c 234 8 [l0, some (aI x), l2] L2 St S = ev c 234 9 [l0, some (aI x), l2] L2 (aI x :: St) S := ev_go i234_8 rfl
theorem i234_9 : insAt 234 9 = some (.imul, 1, (0, 0, 0, 0), 0) := rfl
theorem s234_9 {c : Nat → List AV → SS → Option Out} {l0 l1 l2 : Option AV} {x y : Int32} {L2 : List (Nat × AV)} {St : List AV} {S : SS} : ev c 234 9 [l0, l1, l2] L2 (aI y :: aI x :: St) S = ev c 234 10 [l0, l1, l2] L2 (aI (x * y) :: St) S := ev_go i234_9 rfl
theorem i234_10 : insAt 234 10 = some (.iadd, 1, (0, 0, 0, 0), 0) := rfl
theorem s234_10 {c : Nat → List AV → SS → Option Out} {l0 l1 l2 : Option AV} {x y : Int32} {L2 : List (Nat × AV)} {St : List AV} {S : SS} : ev c 234 10 [l0, l1, l2] L2 (aI y :: aI x :: St) S = ev c 234 11 [l0, l1, l2] L2 (aI (x + y) :: St) S := ev_go i234_10 rfl
theorem i234_11 : insAt 234 11 = some (.iload_n 2, 1, (0, 0, 0, 0), 0) := rfl
theorem s234_11 {c : Nat → List AV → SS → Option Out} {l0 l1 : Option AV} {x : Int32} {L2 : List (Nat × AV)} {St : List AV} {S : SS} : ev c 234 11 [l0, l1, some (aI x)] L2 St S = ev c 234 12 [l0, l1, some (aI x)] L2 (aI x :: St) S := ev_go i234_11 rfl
theorem i234_12 : insAt 234 12 = some (.iadd, 1, (0, 0, 0, 0), 0) := rfl
theorem s234_12 {c : Nat → List AV → SS → Option Out} {l0 l1 l2 : Option AV} {x y : Int32} {L2 : List (Nat × AV)} {St : List AV} {S : SS} : ev c 234 12 [l0, l1, l2] L2 (aI y :: aI x :: St) S = ev c 234 13 [l0, l1, l2] L2 (aI (x + y) :: St) S := ev_go i234_12 rfl
theorem i234_13 : insAt 234 13 = some (.iaload, 1, (0, 0, 0, 0), 0) := rfl
theorem s234_13 {c : Nat → List AV → SS → Option Out} {l0 l1 l2 : Option AV} {i : Int32} {o : OId} {L2 : List (Nat × AV)} {St : List AV} {S : SS} : ev c 234 13 [l0, l1, l2] L2 (aI i :: aR o :: St) S = kI o i (ev c 234 14 [l0, l1, l2] L2 (aI (agI S o i.toNatClampNeg) :: St) S) := ev_iaload i234_13
theorem i234_14 : insAt 234 14 = some (.ireturn, 1, (0, 0, 0, 0), 0) := rfl
theorem s234_14 {c : Nat → List AV → SS → Option Out} {l0 l1 l2 : Option AV} {x : Int32} {L2 : List (Nat × AV)} {St : List AV} {S : SS} : ev c 234 14 [l0, l1, l2] L2 [aI x] S = some (.inl (some (aI x)), S) := ev_end i234_14 rfl
theorem m234 {d : Nat} {o : OId} {a0 : Int32} {a1 : Int32} {S : SS} : evm (d + 1) 234 [aR o, aI a0, aI a1] S = ev (evm d) 234 0 [some (aR o), some (aI a0), some (aI a1)] [] [] S := evm_s (n := 3) rfl (Nat.le_of_ble_eq_true rfl) rfl rfl
/-! FrequencyOfficeModel.size(I)I -/
theorem i235_0 : insAt 235 0 = some (.iload_n 0, 1, (0, 0, 0, 0), 0) := rfl
theorem s235_0 {c : Nat → List AV → SS → Option Out} {x : Int32} {L2 : List (Nat × AV)} {St : List AV} {S : SS} : ev c 235 0 [some (aI x)] L2 St S = ev c 235 1 [some (aI x)] L2 (aI x :: St) S := ev_go i235_0 rfl
theorem i235_1 : insAt 235 1 = some (.ifCond .ge 8, 3, (0, 0, 0, 0), 0) := rfl
theorem s235_1 {c : Nat → List AV → SS → Option Out} {l0 : Option AV} {x : Int32} {L2 : List (Nat × AV)} {St : List AV} {S : SS} : ev c 235 1 [l0] L2 (aI x :: St) S = if 0 ≤ x then ev c 235 9 [l0] L2 St S else ev c 235 4 [l0] L2 St S := ev_br i235_1 rfl
theorem i235_4 : insAt 235 4 = some (.iload_n 0, 1, (0, 0, 0, 0), 0) := rfl
theorem s235_4 {c : Nat → List AV → SS → Option Out} {x : Int32} {L2 : List (Nat × AV)} {St : List AV} {S : SS} : ev c 235 4 [some (aI x)] L2 St S = ev c 235 5 [some (aI x)] L2 (aI x :: St) S := ev_go i235_4 rfl
theorem i235_5 : insAt 235 5 = some (.ineg, 1, (0, 0, 0, 0), 0) := rfl
theorem s235_5 {c : Nat → List AV → SS → Option Out} {l0 : Option AV} {x : Int32} {L2 : List (Nat × AV)} {St : List AV} {S : SS} : ev c 235 5 [l0] L2 (aI x :: St) S = ev c 235 6 [l0] L2 (aI (-x) :: St) S := ev_go i235_5 rfl
theorem i235_6 : insAt 235 6 = some (.goto 4, 3, (0, 0, 0, 0), 0) := rfl
theorem s235_6 {c : Nat → List AV → SS → Option Out} {l0 : Option AV} {L2 : List (Nat × AV)} {St : List AV} {S : SS} : ev c 235 6 [l0] L2 St S = ev c 235 10 [l0] L2 St S := ev_go i235_6 rfl
theorem i235_9 : insAt 235 9 = some (.iload_n 0, 1, (0, 0, 0, 0), 0) := rfl
theorem s235_9 {c : Nat → List AV → SS → Option Out} {x : Int32} {L2 : List (Nat × AV)} {St : List AV} {S : SS} : ev c 235 9 [some (aI x)] L2 St S = ev c 235 10 [some (aI x)] L2 (aI x :: St) S := ev_go i235_9 rfl
theorem i235_10 : insAt 235 10 = some (.ireturn, 1, (0, 0, 0, 0), 0) := rfl
theorem s235_10 {c : Nat → List AV → SS → Option Out} {l0 : Option AV} {x : Int32} {L2 : List (Nat × AV)} {St : List AV} {S : SS} : ev c 235 10 [l0] L2 [aI x] S = some (.inl (some (aI x)), S) := ev_end i235_10 rfl
theorem m235 {d : Nat} {a0 : Int32} {S : SS} : evm (d + 1) 235 [aI a0] S = ev (evm d) 235 0 [some (aI a0)] [] [] S := evm_s (n := 1) rfl (Nat.le_of_ble_eq_true rfl) rfl rfl
/-! FrequencyOfficeModel.separationToServed(I)I -/
theorem i236_0 : insAt 236 0 = some (.aload_n 0, 1, (0, 0, 0, 0), 0) := rfl
theorem s236_0 {c : Nat → List AV → SS → Option Out} {l1 : Option AV} {o : OId} {L2 : List (Nat × AV)} {St : List AV} {S : SS} : ev c 236 0 [some (aR o), l1] L2 St S = ev c 236 1 [some (aR o), l1] L2 (aR o :: St) S := ev_go i236_0 rfl
theorem i236_1 : insAt 236 1 = some (.aload_n 0, 1, (0, 0, 0, 0), 0) := rfl
theorem s236_1 {c : Nat → List AV → SS → Option Out} {l1 : Option AV} {o : OId} {L2 : List (Nat × AV)} {St : List AV} {S : SS} : ev c 236 1 [some (aR o), l1] L2 St S = ev c 236 2 [some (aR o), l1] L2 (aR o :: St) S := ev_go i236_1 rfl
theorem i236_2 : insAt 236 2 = some (.getfield 41, 3, (12, 10, 0, 0), 0) := rfl
theorem s236_2 {c : Nat → List AV → SS → Option Out} {l0 l1 : Option AV} {j t : Nat} {L2 : List (Nat × AV)} {St : List AV} {S : SS} : ev c 236 2 [l0, l1] L2 (aR (12, j, t) :: St) S = ev c 236 5 [l0, l1] L2 (aI (S.1 (12, j, t) 10) :: St) S := ev_go i236_2 rfl
theorem i236_5 : insAt 236 5 = some (.aload_n 0, 1, (0, 0, 0, 0), 0) := rfl
theorem s236_5 {c : Nat → List AV → SS → Option Out} {l1 : Option AV} {o : OId} {L2 : List (Nat × AV)} {St : List AV} {S : SS} : ev c 236 5 [some (aR o), l1] L2 St S = ev c 236 6 [some (aR o), l1] L2 (aR o :: St) S := ev_go i236_5 rfl
theorem i236_6 : insAt 236 6 = some (.getfield 44, 3, (12, 11, 0, 0), 0) := rfl
theorem s236_6 {c : Nat → List AV → SS → Option Out} {l0 l1 : Option AV} {j t : Nat} {L2 : List (Nat × AV)} {St : List AV} {S : SS} : ev c 236 6 [l0, l1] L2 (aR (12, j, t) :: St) S = ev c 236 9 [l0, l1] L2 (aI (S.1 (12, j, t) 11) :: St) S := ev_go i236_6 rfl
theorem i236_9 : insAt 236 9 = some (.iload_n 1, 1, (0, 0, 0, 0), 0) := rfl
theorem s236_9 {c : Nat → List AV → SS → Option Out} {l0 : Option AV} {x : Int32} {L2 : List (Nat × AV)} {St : List AV} {S : SS} : ev c 236 9 [l0, some (aI x)] L2 St S = ev c 236 10 [l0, some (aI x)] L2 (aI x :: St) S := ev_go i236_9 rfl
theorem i236_10 : insAt 236 10 = some (.invokevirtual 100, 3, (237, 3, 2, 12), 0) := rfl
theorem s236_10 {c : Nat → List AV → SS → Option Out} {l0 l1 : Option AV} {a0 : Int32} {a1 : Int32} {a2 : Int32} {j t : Nat} {L2 : List (Nat × AV)} {S : SS} : ev c 236 10 [l0, l1] L2 [aI a2, aI a1, aI a0, aR (12, j, t)] S = ck (c 237 [aR (12, j, t), aI a0, aI a1, aI a2] S) (fun v S' => ev c 236 13 [l0, l1] L2 (v.toList ++ []) S') := ev_call i236_10 rfl
theorem i236_13 : insAt 236 13 = some (.aload_n 0, 1, (0, 0, 0, 0), 0) := rfl
theorem s236_13 {c : Nat → List AV → SS → Option Out} {l1 : Option AV} {o : OId} {L2 : List (Nat × AV)} {St : List AV} {S : SS} : ev c 236 13 [some (aR o), l1] L2 St S = ev c 236 14 [some (aR o), l1] L2 (aR o :: St) S := ev_go i236_13 rfl
theorem i236_14 : insAt 236 14 = some (.getfield 38, 3, (12, 9, 0, 0), 0) := rfl
theorem s236_14 {c : Nat → List AV → SS → Option Out} {l0 l1 : Option AV} {j t : Nat} {L2 : List (Nat × AV)} {St : List AV} {S : SS} : ev c 236 14 [l0, l1] L2 (aR (12, j, t) :: St) S = ev c 236 17 [l0, l1] L2 (aI (S.1 (12, j, t) 9) :: St) S := ev_go i236_14 rfl
theorem i236_17 : insAt 236 17 = some (.ifCond .ge 7, 3, (0, 0, 0, 0), 0) := rfl
theorem s236_17 {c : Nat → List AV → SS → Option Out} {l0 l1 : Option AV} {x : Int32} {L2 : List (Nat × AV)} {St : List AV} {S : SS} : ev c 236 17 [l0, l1] L2 (aI x :: St) S = if 0 ≤ x then ev c 236 24 [l0, l1] L2 St S else ev c 236 20 [l0, l1] L2 St S := ev_br i236_17 rfl
theorem i236_20 : insAt 236 20 = some (.iconst 0, 1, (0, 0, 0, 0), 0) := rfl
theorem s236_20 {c : Nat → List AV → SS → Option Out} {l0 l1 : Option AV} {L2 : List (Nat × AV)} {St : List AV} {S : SS} : ev c 236 20 [l0, l1] L2 St S = ev c 236 21 [l0, l1] L2 (aI 0 :: St) S := ev_go i236_20 rfl
theorem i236_21 : insAt 236 21 = some (.goto 12, 3, (0, 0, 0, 0), 0) := rfl
theorem s236_21 {c : Nat → List AV → SS → Option Out} {l0 l1 : Option AV} {L2 : List (Nat × AV)} {St : List AV} {S : SS} : ev c 236 21 [l0, l1] L2 St S = ev c 236 33 [l0, l1] L2 St S := ev_go i236_21 rfl
theorem i236_24 : insAt 236 24 = some (.aload_n 0, 1, (0, 0, 0, 0), 0) := rfl
theorem s236_24 {c : Nat → List AV → SS → Option Out} {l1 : Option AV} {o : OId} {L2 : List (Nat × AV)} {St : List AV} {S : SS} : ev c 236 24 [some (aR o), l1] L2 St S = ev c 236 25 [some (aR o), l1] L2 (aR o :: St) S := ev_go i236_24 rfl
theorem i236_25 : insAt 236 25 = some (.aload_n 0, 1, (0, 0, 0, 0), 0) := rfl
theorem s236_25 {c : Nat → List AV → SS → Option Out} {l1 : Option AV} {o : OId} {L2 : List (Nat × AV)} {St : List AV} {S : SS} : ev c 236 25 [some (aR o), l1] L2 St S = ev c 236 26 [some (aR o), l1] L2 (aR o :: St) S := ev_go i236_25 rfl
theorem i236_26 : insAt 236 26 = some (.getfield 38, 3, (12, 9, 0, 0), 0) := rfl
theorem s236_26 {c : Nat → List AV → SS → Option Out} {l0 l1 : Option AV} {j t : Nat} {L2 : List (Nat × AV)} {St : List AV} {S : SS} : ev c 236 26 [l0, l1] L2 (aR (12, j, t) :: St) S = ev c 236 29 [l0, l1] L2 (aI (S.1 (12, j, t) 9) :: St) S := ev_go i236_26 rfl
theorem i236_29 : insAt 236 29 = some (.iload_n 1, 1, (0, 0, 0, 0), 0) := rfl
theorem s236_29 {c : Nat → List AV → SS → Option Out} {l0 : Option AV} {x : Int32} {L2 : List (Nat × AV)} {St : List AV} {S : SS} : ev c 236 29 [l0, some (aI x)] L2 St S = ev c 236 30 [l0, some (aI x)] L2 (aI x :: St) S := ev_go i236_29 rfl
theorem i236_30 : insAt 236 30 = some (.invokevirtual 106, 3, (240, 2, 2, 12), 0) := rfl
theorem s236_30 {c : Nat → List AV → SS → Option Out} {l0 l1 : Option AV} {t0 : AV} {a0 : Int32} {a1 : Int32} {j t : Nat} {L2 : List (Nat × AV)} {S : SS} : ev c 236 30 [l0, l1] L2 [aI a1, aI a0, aR (12, j, t), t0] S = ck (c 240 [aR (12, j, t), aI a0, aI a1] S) (fun v S' => ev c 236 33 [l0, l1] L2 (v.toList ++ [t0]) S') := ev_call i236_30 rfl
theorem i236_33 : insAt 236 33 = some (.iadd, 1, (0, 0, 0, 0), 0) := rfl
theorem s236_33 {c : Nat → List AV → SS → Option Out} {l0 l1 : Option AV} {x y : Int32} {L2 : List (Nat × AV)} {St : List AV} {S : SS} : ev c 236 33 [l0, l1] L2 (aI y :: aI x :: St) S = ev c 236 34 [l0, l1] L2 (aI (x + y) :: St) S := ev_go i236_33 rfl
theorem i236_34 : insAt 236 34 = some (.ireturn, 1, (0, 0, 0, 0), 0) := rfl
theorem s236_34 {c : Nat → List AV → SS → Option Out} {l0 l1 : Option AV} {x : Int32} {L2 : List (Nat × AV)} {St : List AV} {S : SS} : ev c 236 34 [l0, l1] L2 [aI x] S = some (.inl (some (aI x)), S) := ev_end i236_34 rfl
theorem m236 {d : Nat} {o : OId} {a0 : Int32} {S : SS} : evm (d + 1) 236 [aR o, aI a0] S = ev (evm d) 236 0 [some (aR o), some (aI a0)] [] [] S := evm_s (n := 2) rfl (Nat.le_of_ble_eq_true rfl) rfl rfl
/-! FrequencyOfficeModel.baseTo(III)I -/
theorem i237_0 : insAt 237 0 = some (.aload_n 0, 1, (0, 0, 0, 0), 0) := rfl
theorem s237_0 {c : Nat → List AV → SS → Option Out} {l1 l2 l3 l4 : Option AV} {o : OId} {L2 : List (Nat × AV)} {St : List AV} {S : SS} : ev c 237 0 [some (aR o), l1, l2, l3, l4] L2 St S = ev c 237 1 [some (aR o), l1, l2, l3, l4] L2 (aR o :: St) S := ev_go i237_0 rfl
theorem i237_1 : insAt 237 1 = some (.iload_n 1, 1, (0, 0, 0, 0), 0) := rfl
theorem s237_1 {c : Nat → List AV → SS → Option Out} {l0 l2 l3 l4 : Option AV} {x : Int32} {L2 : List (Nat × AV)} {St : List AV} {S : SS} : ev c 237 1 [l0, some (aI x), l2, l3, l4] L2 St S = ev c 237 2 [l0, some (aI x), l2, l3, l4] L2 (aI x :: St) S := ev_go i237_1 rfl
theorem i237_2 : insAt 237 2 = some (.iload_n 2, 1, (0, 0, 0, 0), 0) := rfl
theorem s237_2 {c : Nat → List AV → SS → Option Out} {l0 l1 l3 l4 : Option AV} {x : Int32} {L2 : List (Nat × AV)} {St : List AV} {S : SS} : ev c 237 2 [l0, l1, some (aI x), l3, l4] L2 St S = ev c 237 3 [l0, l1, some (aI x), l3, l4] L2 (aI x :: St) S := ev_go i237_2 rfl
theorem i237_3 : insAt 237 3 = some (.iload_n 3, 1, (0, 0, 0, 0), 0) := rfl
theorem s237_3 {c : Nat → List AV → SS → Option Out} {l0 l1 l2 l4 : Option AV} {x : Int32} {L2 : List (Nat × AV)} {St : List AV} {S : SS} : ev c 237 3 [l0, l1, l2, some (aI x), l4] L2 St S = ev c 237 4 [l0, l1, l2, some (aI x), l4] L2 (aI x :: St) S := ev_go i237_3 rfl
theorem i237_4 : insAt 237 4 = some (.invokevirtual 96, 3, (238, 3, 2, 12), 0) := rfl
theorem s237_4 {c : Nat → List AV → SS → Option Out} {l0 l1 l2 l3 l4 : Option AV} {a0 : Int32} {a1 : Int32} {a2 : Int32} {j t : Nat} {L2 : List (Nat × AV)} {S : SS} : ev c 237 4 [l0, l1, l2, l3, l4] L2 [aI a2, aI a1, aI a0, aR (12, j, t)] S = ck (c 238 [aR (12, j, t), aI a0, aI a1, aI a2] S) (fun v S' => ev c 237 7 [l0, l1, l2, l3, l4] L2 (v.toList ++ []) S') := ev_call i237_4 rfl
theorem i237_7 : insAt 237 7 = some (.istore 4, 2, (0, 0, 0, 0), 0) := rfl
theorem s237_7 {c : Nat → List AV → SS → Option Out} {l0 l1 l2 l3 l4 : Option AV} {x : Int32} {L2 : List (Nat × AV)} {St : List AV} {S : SS} : ev c 237 7 [l0, l1, l2, l3, l4] L2 (aI x :: St) S = ev c 237 9 [l0, l1, l2, l3, some (aI x)] (kil L2 4) St S := ev_go i237_7 rfl
theorem i237_9 : insAt 237 9 = some (.iload 4, 2, (0, 0, 0, 0), 0) := rfl
theorem s237_9 {c : Nat → List AV → SS → Option Out} {l0 l1 l2 l3 : Option AV} {x : Int32} {L2 : List (Nat × AV)} {St : List AV} {S : SS} : ev c 237 9 [l0, l1, l2, l3, some (aI x)] L2 St S = ev c 237 11 [l0, l1, l2, l3, some (aI x)] L2 (aI x :: St) S := ev_go i237_9 rfl
theorem i237_11 : insAt 237 11 = some (.aload_n 0, 1, (0, 0, 0, 0), 0) := rfl
theorem s237_11 {c : Nat → List AV → SS → Option Out} {l1 l2 l3 l4 : Option AV} {o : OId} {L2 : List (Nat × AV)} {St : List AV} {S : SS} : ev c 237 11 [some (aR o), l1, l2, l3, l4] L2 St S = ev c 237 12 [some (aR o), l1, l2, l3, l4] L2 (aR o :: St) S := ev_go i237_11 rfl
theorem i237_12 : insAt 237 12 = some (.getfield 7, 3, (12, 0, 0, 0), 0) := rfl
theorem s237_12 {c : Nat → List AV → SS → Option Out} {l0 l1 l2 l3 l4 : Option AV} {j t : Nat} {L2 : List (Nat × AV)} {St : List AV} {S : SS} : ev c 237 12 [l0, l1, l2, l3, l4] L2 (aR (12, j, t) :: St) S = ev c 237 15 [l0, l1, l2, l3, l4] L2 (S.2.2.1 (12, j, t) 0 :: St) S := ev_go i237_12 rfl
theorem i237_15 : insAt 237 15 = some (.iconst 0, 1, (0, 0, 0, 0), 0) := rfl
theorem s237_15 {c : Nat → List AV → SS → Option Out} {l0 l1 l2 l3 l4 : Option AV} {L2 : List (Nat × AV)} {St : List AV} {S : SS} : ev c 237 15 [l0, l1, l2, l3, l4] L2 St S = ev c 237 16 [l0, l1, l2, l3, l4] L2 (aI 0 :: St) S := ev_go i237_15 rfl
theorem i237_16 : insAt 237 16 = some (.iaload, 1, (0, 0, 0, 0), 0) := rfl
theorem s237_16 {c : Nat → List AV → SS → Option Out} {l0 l1 l2 l3 l4 : Option AV} {i : Int32} {o : OId} {L2 : List (Nat × AV)} {St : List AV} {S : SS} : ev c 237 16 [l0, l1, l2, l3, l4] L2 (aI i :: aR o :: St) S = kI o i (ev c 237 17 [l0, l1, l2, l3, l4] L2 (aI (agI S o i.toNatClampNeg) :: St) S) := ev_iaload i237_16
theorem i237_17 : insAt 237 17 = some (.invokestatic 93, 3, (239, 1, 0, 0), 0) := rfl
theorem s237_17 {c : Nat → List AV → SS → Option Out} {l0 l1 l2 l3 l4 : Option AV} {t0 : AV} {a0 : Int32} {L2 : List (Nat × AV)} {S : SS} : ev c 237 17 [l0, l1, l2, l3, l4] L2 [aI a0, t0] S = ck (c 239 [aI a0] S) (fun v S' => ev c 237 20 [l0, l1, l2, l3, l4] L2 (v.toList ++ [t0]) S') := ev_call i237_17 rfl
theorem i237_20 : insAt 237 20 = some (.if_icmp .ge 7, 3, (0, 0, 0, 0), 0) := rfl
theorem s237_20 {c : Nat → List AV → SS → Option Out} {l0 l1 l2 l3 l4 : Option AV} {x y : Int32} {L2 : List (Nat × AV)} {St : List AV} {S : SS} : ev c 237 20 [l0, l1, l2, l3, l4] L2 (aI y :: aI x :: St) S = if y ≤ x then ev c 237 27 [l0, l1, l2, l3, l4] L2 St S else ev c 237 23 [l0, l1, l2, l3, l4] L2 St S := ev_br i237_20 rfl
theorem i237_23 : insAt 237 23 = some (.iconst 3, 1, (0, 0, 0, 0), 0) := rfl
theorem s237_23 {c : Nat → List AV → SS → Option Out} {l0 l1 l2 l3 l4 : Option AV} {L2 : List (Nat × AV)} {St : List AV} {S : SS} : ev c 237 23 [l0, l1, l2, l3, l4] L2 St S = ev c 237 24 [l0, l1, l2, l3, l4] L2 (aI 3 :: St) S := ev_go i237_23 rfl
theorem i237_24 : insAt 237 24 = some (.goto 40, 3, (0, 0, 0, 0), 0) := rfl
theorem s237_24 {c : Nat → List AV → SS → Option Out} {l0 l1 l2 l3 l4 : Option AV} {L2 : List (Nat × AV)} {St : List AV} {S : SS} : ev c 237 24 [l0, l1, l2, l3, l4] L2 St S = ev c 237 64 [l0, l1, l2, l3, l4] L2 St S := ev_go i237_24 rfl
theorem i237_27 : insAt 237 27 = some (.iload 4, 2, (0, 0, 0, 0), 0) := rfl
theorem s237_27 {c : Nat → List AV → SS → Option Out} {l0 l1 l2 l3 : Option AV} {x : Int32} {L2 : List (Nat × AV)} {St : List AV} {S : SS} : ev c 237 27 [l0, l1, l2, l3, some (aI x)] L2 St S = ev c 237 29 [l0, l1, l2, l3, some (aI x)] L2 (aI x :: St) S := ev_go i237_27 rfl
theorem i237_29 : insAt 237 29 = some (.aload_n 0, 1, (0, 0, 0, 0), 0) := rfl
theorem s237_29 {c : Nat → List AV → SS → Option Out} {l1 l2 l3 l4 : Option AV} {o : OId} {L2 : List (Nat × AV)} {St : List AV} {S : SS} : ev c 237 29 [some (aR o), l1, l2, l3, l4] L2 St S = ev c 237 30 [some (aR o), l1, l2, l3, l4] L2 (aR o :: St) S := ev_go i237_29 rfl
theorem i237_30 : insAt 237 30 = some (.getfield 7, 3, (12, 0, 0, 0), 0) := rfl
theorem s237_30 {c : Nat → List AV → SS → Option Out} {l0 l1 l2 l3 l4 : Option AV} {j t : Nat} {L2 : List (Nat × AV)} {St : List AV} {S : SS} : ev c 237 30 [l0, l1, l2, l3, l4] L2 (aR (12, j, t) :: St) S = ev c 237 33 [l0, l1, l2, l3, l4] L2 (S.2.2.1 (12, j, t) 0 :: St) S := ev_go i237_30 rfl
theorem i237_33 : insAt 237 33 = some (.iconst 1, 1, (0, 0, 0, 0), 0) := rfl
theorem s237_33 {c : Nat → List AV → SS → Option Out} {l0 l1 l2 l3 l4 : Option AV} {L2 : List (Nat × AV)} {St : List AV} {S : SS} : ev c 237 33 [l0, l1, l2, l3, l4] L2 St S = ev c 237 34 [l0, l1, l2, l3, l4] L2 (aI 1 :: St) S := ev_go i237_33 rfl
theorem i237_34 : insAt 237 34 = some (.iaload, 1, (0, 0, 0, 0), 0) := rfl
theorem s237_34 {c : Nat → List AV → SS → Option Out} {l0 l1 l2 l3 l4 : Option AV} {i : Int32} {o : OId} {L2 : List (Nat × AV)} {St : List AV} {S : SS} : ev c 237 34 [l0, l1, l2, l3, l4] L2 (aI i :: aR o :: St) S = kI o i (ev c 237 35 [l0, l1, l2, l3, l4] L2 (aI (agI S o i.toNatClampNeg) :: St) S) := ev_iaload i237_34
theorem i237_35 : insAt 237 35 = some (.invokestatic 93, 3, (239, 1, 0, 0), 0) := rfl
theorem s237_35 {c : Nat → List AV → SS → Option Out} {l0 l1 l2 l3 l4 : Option AV} {t0 : AV} {a0 : Int32} {L2 : List (Nat × AV)} {S : SS} : ev c 237 35 [l0, l1, l2, l3, l4] L2 [aI a0, t0] S = ck (c 239 [aI a0] S) (fun v S' => ev c 237 38 [l0, l1, l2, l3, l4] L2 (v.toList ++ [t0]) S') := ev_call i237_35 rfl
theorem i237_38 : insAt 237 38 = some (.if_icmp .ge 7, 3, (0, 0, 0, 0), 0) := rfl
theorem s237_38 {c : Nat → List AV → SS → Option Out} {l0 l1 l2 l3 l4 : Option AV} {x y : Int32} {L2 : List (Nat × AV)} {St : List AV} {S : SS} : ev c 237 38 [l0, l1, l2, l3, l4] L2 (aI y :: aI x :: St) S = if y ≤ x then ev c 237 45 [l0, l1, l2, l3, l4] L2 St S else ev c 237 41 [l0, l1, l2, l3, l4] L2 St S := ev_br i237_38 rfl
theorem i237_41 : insAt 237 41 = some (.iconst 2, 1, (0, 0, 0, 0), 0) := rfl
theorem s237_41 {c : Nat → List AV → SS → Option Out} {l0 l1 l2 l3 l4 : Option AV} {L2 : List (Nat × AV)} {St : List AV} {S : SS} : ev c 237 41 [l0, l1, l2, l3, l4] L2 St S = ev c 237 42 [l0, l1, l2, l3, l4] L2 (aI 2 :: St) S := ev_go i237_41 rfl
theorem i237_42 : insAt 237 42 = some (.goto 22, 3, (0, 0, 0, 0), 0) := rfl
theorem s237_42 {c : Nat → List AV → SS → Option Out} {l0 l1 l2 l3 l4 : Option AV} {L2 : List (Nat × AV)} {St : List AV} {S : SS} : ev c 237 42 [l0, l1, l2, l3, l4] L2 St S = ev c 237 64 [l0, l1, l2, l3, l4] L2 St S := ev_go i237_42 rfl
theorem i237_45 : insAt 237 45 = some (.iload 4, 2, (0, 0, 0, 0), 0) := rfl
theorem s237_45 {c : Nat → List AV → SS → Option Out} {l0 l1 l2 l3 : Option AV} {x : Int32} {L2 : List (Nat × AV)} {St : List AV} {S : SS} : ev c 237 45 [l0, l1, l2, l3, some (aI x)] L2 St S = ev c 237 47 [l0, l1, l2, l3, some (aI x)] L2 (aI x :: St) S := ev_go i237_45 rfl
theorem i237_47 : insAt 237 47 = some (.aload_n 0, 1, (0, 0, 0, 0), 0) := rfl
theorem s237_47 {c : Nat → List AV → SS → Option Out} {l1 l2 l3 l4 : Option AV} {o : OId} {L2 : List (Nat × AV)} {St : List AV} {S : SS} : ev c 237 47 [some (aR o), l1, l2, l3, l4] L2 St S = ev c 237 48 [some (aR o), l1, l2, l3, l4] L2 (aR o :: St) S := ev_go i237_47 rfl
theorem i237_48 : insAt 237 48 = some (.getfield 7, 3, (12, 0, 0, 0), 0) := rfl
theorem s237_48 {c : Nat → List AV → SS → Option Out} {l0 l1 l2 l3 l4 : Option AV} {j t : Nat} {L2 : List (Nat × AV)} {St : List AV} {S : SS} : ev c 237 48 [l0, l1, l2, l3, l4] L2 (aR (12, j, t) :: St) S = ev c 237 51 [l0, l1, l2, l3, l4] L2 (S.2.2.1 (12, j, t) 0 :: St) S := ev_go i237_48 rfl
theorem i237_51 : insAt 237 51 = some (.iconst 2, 1, (0, 0, 0, 0), 0) := rfl
theorem s237_51 {c : Nat → List AV → SS → Option Out} {l0 l1 l2 l3 l4 : Option AV} {L2 : List (Nat × AV)} {St : List AV} {S : SS} : ev c 237 51 [l0, l1, l2, l3, l4] L2 St S = ev c 237 52 [l0, l1, l2, l3, l4] L2 (aI 2 :: St) S := ev_go i237_51 rfl
theorem i237_52 : insAt 237 52 = some (.iaload, 1, (0, 0, 0, 0), 0) := rfl
theorem s237_52 {c : Nat → List AV → SS → Option Out} {l0 l1 l2 l3 l4 : Option AV} {i : Int32} {o : OId} {L2 : List (Nat × AV)} {St : List AV} {S : SS} : ev c 237 52 [l0, l1, l2, l3, l4] L2 (aI i :: aR o :: St) S = kI o i (ev c 237 53 [l0, l1, l2, l3, l4] L2 (aI (agI S o i.toNatClampNeg) :: St) S) := ev_iaload i237_52
theorem i237_53 : insAt 237 53 = some (.invokestatic 93, 3, (239, 1, 0, 0), 0) := rfl
theorem s237_53 {c : Nat → List AV → SS → Option Out} {l0 l1 l2 l3 l4 : Option AV} {t0 : AV} {a0 : Int32} {L2 : List (Nat × AV)} {S : SS} : ev c 237 53 [l0, l1, l2, l3, l4] L2 [aI a0, t0] S = ck (c 239 [aI a0] S) (fun v S' => ev c 237 56 [l0, l1, l2, l3, l4] L2 (v.toList ++ [t0]) S') := ev_call i237_53 rfl
theorem i237_56 : insAt 237 56 = some (.if_icmp .ge 7, 3, (0, 0, 0, 0), 0) := rfl
theorem s237_56 {c : Nat → List AV → SS → Option Out} {l0 l1 l2 l3 l4 : Option AV} {x y : Int32} {L2 : List (Nat × AV)} {St : List AV} {S : SS} : ev c 237 56 [l0, l1, l2, l3, l4] L2 (aI y :: aI x :: St) S = if y ≤ x then ev c 237 63 [l0, l1, l2, l3, l4] L2 St S else ev c 237 59 [l0, l1, l2, l3, l4] L2 St S := ev_br i237_56 rfl
theorem i237_59 : insAt 237 59 = some (.iconst 1, 1, (0, 0, 0, 0), 0) := rfl
theorem s237_59 {c : Nat → List AV → SS → Option Out} {l0 l1 l2 l3 l4 : Option AV} {L2 : List (Nat × AV)} {St : List AV} {S : SS} : ev c 237 59 [l0, l1, l2, l3, l4] L2 St S = ev c 237 60 [l0, l1, l2, l3, l4] L2 (aI 1 :: St) S := ev_go i237_59 rfl
theorem i237_60 : insAt 237 60 = some (.goto 4, 3, (0, 0, 0, 0), 0) := rfl
theorem s237_60 {c : Nat → List AV → SS → Option Out} {l0 l1 l2 l3 l4 : Option AV} {L2 : List (Nat × AV)} {St : List AV} {S : SS} : ev c 237 60 [l0, l1, l2, l3, l4] L2 St S = ev c 237 64 [l0, l1, l2, l3, l4] L2 St S := ev_go i237_60 rfl
theorem i237_63 : insAt 237 63 = some (.iconst 0, 1, (0, 0, 0, 0), 0) := rfl
theorem s237_63 {c : Nat → List AV → SS → Option Out} {l0 l1 l2 l3 l4 : Option AV} {L2 : List (Nat × AV)} {St : List AV} {S : SS} : ev c 237 63 [l0, l1, l2, l3, l4] L2 St S = ev c 237 64 [l0, l1, l2, l3, l4] L2 (aI 0 :: St) S := ev_go i237_63 rfl
theorem i237_64 : insAt 237 64 = some (.ireturn, 1, (0, 0, 0, 0), 0) := rfl
theorem s237_64 {c : Nat → List AV → SS → Option Out} {l0 l1 l2 l3 l4 : Option AV} {x : Int32} {L2 : List (Nat × AV)} {St : List AV} {S : SS} : ev c 237 64 [l0, l1, l2, l3, l4] L2 [aI x] S = some (.inl (some (aI x)), S) := ev_end i237_64 rfl
theorem m237 {d : Nat} {o : OId} {a0 : Int32} {a1 : Int32} {a2 : Int32} {S : SS} : evm (d + 1) 237 [aR o, aI a0, aI a1, aI a2] S = ev (evm d) 237 0 [some (aR o), some (aI a0), some (aI a1), some (aI a2), none] [] [] S := evm_s (n := 5) rfl (Nat.le_of_ble_eq_true rfl) rfl rfl
/-! FrequencyOfficeModel.distanceTo(III)I -/
theorem i238_0 : insAt 238 0 = some (.iload_n 1, 1, (0, 0, 0, 0), 0) := rfl
theorem s238_0 {c : Nat → List AV → SS → Option Out} {l0 l2 l3 : Option AV} {x : Int32} {L2 : List (Nat × AV)} {St : List AV} {S : SS} : ev c 238 0 [l0, some (aI x), l2, l3] L2 St S = ev c 238 1 [l0, some (aI x), l2, l3] L2 (aI x :: St) S := ev_go i238_0 rfl
theorem i238_1 : insAt 238 1 = some (.aload_n 0, 1, (0, 0, 0, 0), 0) := rfl
theorem s238_1 {c : Nat → List AV → SS → Option Out} {l1 l2 l3 : Option AV} {o : OId} {L2 : List (Nat × AV)} {St : List AV} {S : SS} : ev c 238 1 [some (aR o), l1, l2, l3] L2 St S = ev c 238 2 [some (aR o), l1, l2, l3] L2 (aR o :: St) S := ev_go i238_1 rfl
theorem i238_2 : insAt 238 2 = some (.iload_n 3, 1, (0, 0, 0, 0), 0) := rfl
theorem s238_2 {c : Nat → List AV → SS → Option Out} {l0 l1 l2 : Option AV} {x : Int32} {L2 : List (Nat × AV)} {St : List AV} {S : SS} : ev c 238 2 [l0, l1, l2, some (aI x)] L2 St S = ev c 238 3 [l0, l1, l2, some (aI x)] L2 (aI x :: St) S := ev_go i238_2 rfl
theorem i238_3 : insAt 238 3 = some (.iconst 1, 1, (0, 0, 0, 0), 0) := rfl
theorem s238_3 {c : Nat → List AV → SS → Option Out} {l0 l1 l2 l3 : Option AV} {L2 : List (Nat × AV)} {St : List AV} {S : SS} : ev c 238 3 [l0, l1, l2, l3] L2 St S = ev c 238 4 [l0, l1, l2, l3] L2 (aI 1 :: St) S := ev_go i238_3 rfl
theorem i238_4 : insAt 238 4 = some (.invokevirtual 75, 3, (234, 2, 2, 12), 0) := rfl
theorem s238_4 {c : Nat → List AV → SS → Option Out} {l0 l1 l2 l3 : Option AV} {t0 : AV} {a0 : Int32} {a1 : Int32} {j t : Nat} {L2 : List (Nat × AV)} {S : SS} : ev c 238 4 [l0, l1, l2, l3] L2 [aI a1, aI a0, aR (12, j, t), t0] S = ck (c 234 [aR (12, j, t), aI a0, aI a1] S) (fun v S' => ev c 238 7 [l0, l1, l2, l3] L2 (v.toList ++ [t0]) S') := ev_call i238_4 rfl
theorem i238_7 : insAt 238 7 = some (.isub, 1, (0, 0, 0, 0), 0) := rfl
theorem s238_7 {c : Nat → List AV → SS → Option Out} {l0 l1 l2 l3 : Option AV} {x y : Int32} {L2 : List (Nat × AV)} {St : List AV} {S : SS} : ev c 238 7 [l0, l1, l2, l3] L2 (aI y :: aI x :: St) S = ev c 238 8 [l0, l1, l2, l3] L2 (aI (x - y) :: St) S := ev_go i238_7 rfl
theorem i238_8 : insAt 238 8 = some (.invokestatic 93, 3, (239, 1, 0, 0), 0) := rfl
theorem s238_8 {c : Nat → List AV → SS → Option Out} {l0 l1 l2 l3 : Option AV} {a0 : Int32} {L2 : List (Nat × AV)} {S : SS} : ev c 238 8 [l0, l1, l2, l3] L2 [aI a0] S = ck (c 239 [aI a0] S) (fun v S' => ev c 238 11 [l0, l1, l2, l3] L2 (v.toList ++ []) S') := ev_call i238_8 rfl
theorem i238_11 : insAt 238 11 = some (.iload_n 2, 1, (0, 0, 0, 0), 0) := rfl
theorem s238_11 {c : Nat → List AV → SS → Option Out} {l0 l1 l3 : Option AV} {x : Int32} {L2 : List (Nat × AV)} {St : List AV} {S : SS} : ev c 238 11 [l0, l1, some (aI x), l3] L2 St S = ev c 238 12 [l0, l1, some (aI x), l3] L2 (aI x :: St) S := ev_go i238_11 rfl
theorem i238_12 : insAt 238 12 = some (.aload_n 0, 1, (0, 0, 0, 0), 0) := rfl
theorem s238_12 {c : Nat → List AV → SS → Option Out} {l1 l2 l3 : Option AV} {o : OId} {L2 : List (Nat × AV)} {St : List AV} {S : SS} : ev c 238 12 [some (aR o), l1, l2, l3] L2 St S = ev c 238 13 [some (aR o), l1, l2, l3] L2 (aR o :: St) S := ev_go i238_12 rfl
theorem i238_13 : insAt 238 13 = some (.iload_n 3, 1, (0, 0, 0, 0), 0) := rfl
theorem s238_13 {c : Nat → List AV → SS → Option Out} {l0 l1 l2 : Option AV} {x : Int32} {L2 : List (Nat × AV)} {St : List AV} {S : SS} : ev c 238 13 [l0, l1, l2, some (aI x)] L2 St S = ev c 238 14 [l0, l1, l2, some (aI x)] L2 (aI x :: St) S := ev_go i238_13 rfl
theorem i238_14 : insAt 238 14 = some (.iconst 2, 1, (0, 0, 0, 0), 0) := rfl
theorem s238_14 {c : Nat → List AV → SS → Option Out} {l0 l1 l2 l3 : Option AV} {L2 : List (Nat × AV)} {St : List AV} {S : SS} : ev c 238 14 [l0, l1, l2, l3] L2 St S = ev c 238 15 [l0, l1, l2, l3] L2 (aI 2 :: St) S := ev_go i238_14 rfl
theorem i238_15 : insAt 238 15 = some (.invokevirtual 75, 3, (234, 2, 2, 12), 0) := rfl
theorem s238_15 {c : Nat → List AV → SS → Option Out} {l0 l1 l2 l3 : Option AV} {t0 t1 : AV} {a0 : Int32} {a1 : Int32} {j t : Nat} {L2 : List (Nat × AV)} {S : SS} : ev c 238 15 [l0, l1, l2, l3] L2 [aI a1, aI a0, aR (12, j, t), t0, t1] S = ck (c 234 [aR (12, j, t), aI a0, aI a1] S) (fun v S' => ev c 238 18 [l0, l1, l2, l3] L2 (v.toList ++ [t0, t1]) S') := ev_call i238_15 rfl
theorem i238_18 : insAt 238 18 = some (.isub, 1, (0, 0, 0, 0), 0) := rfl
theorem s238_18 {c : Nat → List AV → SS → Option Out} {l0 l1 l2 l3 : Option AV} {x y : Int32} {L2 : List (Nat × AV)} {St : List AV} {S : SS} : ev c 238 18 [l0, l1, l2, l3] L2 (aI y :: aI x :: St) S = ev c 238 19 [l0, l1, l2, l3] L2 (aI (x - y) :: St) S := ev_go i238_18 rfl
theorem i238_19 : insAt 238 19 = some (.invokestatic 93, 3, (239, 1, 0, 0), 0) := rfl
theorem s238_19 {c : Nat → List AV → SS → Option Out} {l0 l1 l2 l3 : Option AV} {t0 : AV} {a0 : Int32} {L2 : List (Nat × AV)} {S : SS} : ev c 238 19 [l0, l1, l2, l3] L2 [aI a0, t0] S = ck (c 239 [aI a0] S) (fun v S' => ev c 238 22 [l0, l1, l2, l3] L2 (v.toList ++ [t0]) S') := ev_call i238_19 rfl
theorem i238_22 : insAt 238 22 = some (.iadd, 1, (0, 0, 0, 0), 0) := rfl
theorem s238_22 {c : Nat → List AV → SS → Option Out} {l0 l1 l2 l3 : Option AV} {x y : Int32} {L2 : List (Nat × AV)} {St : List AV} {S : SS} : ev c 238 22 [l0, l1, l2, l3] L2 (aI y :: aI x :: St) S = ev c 238 23 [l0, l1, l2, l3] L2 (aI (x + y) :: St) S := ev_go i238_22 rfl
theorem i238_23 : insAt 238 23 = some (.ireturn, 1, (0, 0, 0, 0), 0) := rfl
theorem s238_23 {c : Nat → List AV → SS → Option Out} {l0 l1 l2 l3 : Option AV} {x : Int32} {L2 : List (Nat × AV)} {St : List AV} {S : SS} : ev c 238 23 [l0, l1, l2, l3] L2 [aI x] S = some (.inl (some (aI x)), S) := ev_end i238_23 rfl
theorem m238 {d : Nat} {o : OId} {a0 : Int32} {a1 : Int32} {a2 : Int32} {S : SS} : evm (d + 1) 238 [aR o, aI a0, aI a1, aI a2] S = ev (evm d) 238 0 [some (aR o), some (aI a0), some (aI a1), some (aI a2)] [] [] S := evm_s (n := 4) rfl (Nat.le_of_ble_eq_true rfl) rfl rfl
/-! FrequencyOfficeModel.square(I)I -/
theorem i239_0 : insAt 239 0 = some (.iload_n 0, 1, (0, 0, 0, 0), 0) := rfl
theorem s239_0 {c : Nat → List AV → SS → Option Out} {x : Int32} {L2 : List (Nat × AV)} {St : List AV} {S : SS} : ev c 239 0 [some (aI x)] L2 St S = ev c 239 1 [some (aI x)] L2 (aI x :: St) S := ev_go i239_0 rfl
theorem i239_1 : insAt 239 1 = some (.iload_n 0, 1, (0, 0, 0, 0), 0) := rfl
theorem s239_1 {c : Nat → List AV → SS → Option Out} {x : Int32} {L2 : List (Nat × AV)} {St : List AV} {S : SS} : ev c 239 1 [some (aI x)] L2 St S = ev c 239 2 [some (aI x)] L2 (aI x :: St) S := ev_go i239_1 rfl
theorem i239_2 : insAt 239 2 = some (.imul, 1, (0, 0, 0, 0), 0) := rfl
theorem s239_2 {c : Nat → List AV → SS → Option Out} {l0 : Option AV} {x y : Int32} {L2 : List (Nat × AV)} {St : List AV} {S : SS} : ev c 239 2 [l0] L2 (aI y :: aI x :: St) S = ev c 239 3 [l0] L2 (aI (x * y) :: St) S := ev_go i239_2 rfl
theorem i239_3 : insAt 239 3 = some (.ireturn, 1, (0, 0, 0, 0), 0) := rfl
theorem s239_3 {c : Nat → List AV → SS → Option Out} {l0 : Option AV} {x : Int32} {L2 : List (Nat × AV)} {St : List AV} {S : SS} : ev c 239 3 [l0] L2 [aI x] S = some (.inl (some (aI x)), S) := ev_end i239_3 rfl
theorem m239 {d : Nat} {a0 : Int32} {S : SS} : evm (d + 1) 239 [aI a0] S = ev (evm d) 239 0 [some (aI a0)] [] [] S := evm_s (n := 1) rfl (Nat.le_of_ble_eq_true rfl) rfl rfl
/-! FrequencyOfficeModel.complaints(II)I -/
theorem i240_0 : insAt 240 0 = some (.aload_n 0, 1, (0, 0, 0, 0), 0) := rfl
theorem s240_0 {c : Nat → List AV → SS → Option Out} {l1 l2 : Option AV} {o : OId} {L2 : List (Nat × AV)} {St : List AV} {S : SS} : ev c 240 0 [some (aR o), l1, l2] L2 St S = ev c 240 1 [some (aR o), l1, l2] L2 (aR o :: St) S := ev_go i240_0 rfl
theorem i240_1 : insAt 240 1 = some (.getfield 7, 3, (12, 0, 0, 0), 0) := rfl
theorem s240_1 {c : Nat → List AV → SS → Option Out} {l0 l1 l2 : Option AV} {j t : Nat} {L2 : List (Nat × AV)} {St : List AV} {S : SS} : ev c 240 1 [l0, l1, l2] L2 (aR (12, j, t) :: St) S = ev c 240 4 [l0, l1, l2] L2 (S.2.2.1 (12, j, t) 0 :: St) S := ev_go i240_1 rfl
theorem i240_4 : insAt 240 4 = some (.bipush 57, 2, (0, 0, 0, 0), 0) := rfl
theorem s240_4 {c : Nat → List AV → SS → Option Out} {l0 l1 l2 : Option AV} {L2 : List (Nat × AV)} {St : List AV} {S : SS} : ev c 240 4 [l0, l1, l2] L2 St S = ev c 240 6 [l0, l1, l2] L2 (aI 57 :: St) S := ev_go i240_4 rfl
theorem i240_6 : insAt 240 6 = some (.bipush 7, 2, (0, 0, 0, 0), 0) := rfl
theorem s240_6 {c : Nat → List AV → SS → Option Out} {l0 l1 l2 : Option AV} {L2 : List (Nat × AV)} {St : List AV} {S : SS} : ev c 240 6 [l0, l1, l2] L2 St S = ev c 240 8 [l0, l1, l2] L2 (aI 7 :: St) S := ev_go i240_6 rfl
theorem i240_8 : insAt 240 8 = some (.iload_n 1, 1, (0, 0, 0, 0), 0) := rfl
theorem s240_8 {c : Nat → List AV → SS → Option Out} {l0 l2 : Option AV} {x : Int32} {L2 : List (Nat × AV)} {St : List AV} {S : SS} : ev c 240 8 [l0, some (aI x), l2] L2 St S = ev c 240 9 [l0, some (aI x), l2] L2 (aI x :: St) S := ev_go i240_8 rfl
theorem i240_9 : insAt 240 9 = some (.imul, 1, (0, 0, 0, 0), 0) := rfl
theorem s240_9 {c : Nat → List AV → SS → Option Out} {l0 l1 l2 : Option AV} {x y : Int32} {L2 : List (Nat × AV)} {St : List AV} {S : SS} : ev c 240 9 [l0, l1, l2] L2 (aI y :: aI x :: St) S = ev c 240 10 [l0, l1, l2] L2 (aI (x * y) :: St) S := ev_go i240_9 rfl
theorem i240_10 : insAt 240 10 = some (.iadd, 1, (0, 0, 0, 0), 0) := rfl
theorem s240_10 {c : Nat → List AV → SS → Option Out} {l0 l1 l2 : Option AV} {x y : Int32} {L2 : List (Nat × AV)} {St : List AV} {S : SS} : ev c 240 10 [l0, l1, l2] L2 (aI y :: aI x :: St) S = ev c 240 11 [l0, l1, l2] L2 (aI (x + y) :: St) S := ev_go i240_10 rfl
theorem i240_11 : insAt 240 11 = some (.iload_n 2, 1, (0, 0, 0, 0), 0) := rfl
theorem s240_11 {c : Nat → List AV → SS → Option Out} {l0 l1 : Option AV} {x : Int32} {L2 : List (Nat × AV)} {St : List AV} {S : SS} : ev c 240 11 [l0, l1, some (aI x)] L2 St S = ev c 240 12 [l0, l1, some (aI x)] L2 (aI x :: St) S := ev_go i240_11 rfl
theorem i240_12 : insAt 240 12 = some (.iadd, 1, (0, 0, 0, 0), 0) := rfl
theorem s240_12 {c : Nat → List AV → SS → Option Out} {l0 l1 l2 : Option AV} {x y : Int32} {L2 : List (Nat × AV)} {St : List AV} {S : SS} : ev c 240 12 [l0, l1, l2] L2 (aI y :: aI x :: St) S = ev c 240 13 [l0, l1, l2] L2 (aI (x + y) :: St) S := ev_go i240_12 rfl
theorem i240_13 : insAt 240 13 = some (.iaload, 1, (0, 0, 0, 0), 0) := rfl
theorem s240_13 {c : Nat → List AV → SS → Option Out} {l0 l1 l2 : Option AV} {i : Int32} {o : OId} {L2 : List (Nat × AV)} {St : List AV} {S : SS} : ev c 240 13 [l0, l1, l2] L2 (aI i :: aR o :: St) S = kI o i (ev c 240 14 [l0, l1, l2] L2 (aI (agI S o i.toNatClampNeg) :: St) S) := ev_iaload i240_13
theorem i240_14 : insAt 240 14 = some (.ireturn, 1, (0, 0, 0, 0), 0) := rfl
theorem s240_14 {c : Nat → List AV → SS → Option Out} {l0 l1 l2 : Option AV} {x : Int32} {L2 : List (Nat × AV)} {St : List AV} {S : SS} : ev c 240 14 [l0, l1, l2] L2 [aI x] S = some (.inl (some (aI x)), S) := ev_end i240_14 rfl
theorem m240 {d : Nat} {o : OId} {a0 : Int32} {a1 : Int32} {S : SS} : evm (d + 1) 240 [aR o, aI a0, aI a1] S = ev (evm d) 240 0 [some (aR o), some (aI a0), some (aI a1)] [] [] S := evm_s (n := 3) rfl (Nat.le_of_ble_eq_true rfl) rfl rfl
/-! FrequencyOfficeModel.disturbance(IIII)I -/
theorem i241_0 : insAt 241 0 = some (.iconst 0, 1, (0, 0, 0, 0), 0) := rfl
theorem s241_0 {c : Nat → List AV → SS → Option Out} {l0 l1 l2 l3 l4 l5 l6 l7 : Option AV} {L2 : List (Nat × AV)} {St : List AV} {S : SS} : ev c 241 0 [l0, l1, l2, l3, l4, l5, l6, l7] L2 St S = ev c 241 1 [l0, l1, l2, l3, l4, l5, l6, l7] L2 (aI 0 :: St) S := ev_go i241_0 rfl
theorem i241_1 : insAt 241 1 = some (.istore 5, 2, (0, 0, 0, 0), 0) := rfl
theorem s241_1 {c : Nat → List AV → SS → Option Out} {l0 l1 l2 l3 l4 l5 l6 l7 : Option AV} {x : Int32} {L2 : List (Nat × AV)} {St : List AV} {S : SS} : ev c 241 1 [l0, l1, l2, l3, l4, l5, l6, l7] L2 (aI x :: St) S = ev c 241 3 [l0, l1, l2, l3, l4, some (aI x), l6, l7] (kil L2 5) St S := ev_go i241_1 rfl
theorem i241_3 : insAt 241 3 = some (.iconst 0, 1, (0, 0, 0, 0), 0) := rfl
theorem s241_3 {c : Nat → List AV → SS → Option Out} {l0 l1 l2 l3 l4 l5 l6 l7 : Option AV} {L2 : List (Nat × AV)} {St : List AV} {S : SS} : ev c 241 3 [l0, l1, l2, l3, l4, l5, l6, l7] L2 St S = ev c 241 4 [l0, l1, l2, l3, l4, l5, l6, l7] L2 (aI 0 :: St) S := ev_go i241_3 rfl
theorem i241_4 : insAt 241 4 = some (.istore 6, 2, (0, 0, 0, 0), 0) := rfl
theorem s241_4 {c : Nat → List AV → SS → Option Out} {l0 l1 l2 l3 l4 l5 l6 l7 : Option AV} {x : Int32} {L2 : List (Nat × AV)} {St : List AV} {S : SS} : ev c 241 4 [l0, l1, l2, l3, l4, l5, l6, l7] L2 (aI x :: St) S = ev c 241 6 [l0, l1, l2, l3, l4, l5, some (aI x), l7] (kil L2 6) St S := ev_go i241_4 rfl
theorem i241_6 : insAt 241 6 = some (.iload 6, 2, (0, 0, 0, 0), 0) := rfl
theorem s241_6 {c : Nat → List AV → SS → Option Out} {l0 l1 l2 l3 l4 l5 l7 : Option AV} {x : Int32} {L2 : List (Nat × AV)} {St : List AV} {S : SS} : ev c 241 6 [l0, l1, l2, l3, l4, l5, some (aI x), l7] L2 St S = ev c 241 8 [l0, l1, l2, l3, l4, l5, some (aI x), l7] L2 (aI x :: St) S := ev_go i241_6 rfl
theorem i241_8 : insAt 241 8 = some (.aload_n 0, 1, (0, 0, 0, 0), 0) := rfl
theorem s241_8 {c : Nat → List AV → SS → Option Out} {l1 l2 l3 l4 l5 l6 l7 : Option AV} {o : OId} {L2 : List (Nat × AV)} {St : List AV} {S : SS} : ev c 241 8 [some (aR o), l1, l2, l3, l4, l5, l6, l7] L2 St S = ev c 241 9 [some (aR o), l1, l2, l3, l4, l5, l6, l7] L2 (aR o :: St) S := ev_go i241_8 rfl
theorem i241_9 : insAt 241 9 = some (.getfield 7, 3, (12, 0, 0, 0), 0) := rfl
theorem s241_9 {c : Nat → List AV → SS → Option Out} {l0 l1 l2 l3 l4 l5 l6 l7 : Option AV} {j t : Nat} {L2 : List (Nat × AV)} {St : List AV} {S : SS} : ev c 241 9 [l0, l1, l2, l3, l4, l5, l6, l7] L2 (aR (12, j, t) :: St) S = ev c 241 12 [l0, l1, l2, l3, l4, l5, l6, l7] L2 (S.2.2.1 (12, j, t) 0 :: St) S := ev_go i241_9 rfl
theorem i241_12 : insAt 241 12 = some (.bipush 7, 2, (0, 0, 0, 0), 0) := rfl
theorem s241_12 {c : Nat → List AV → SS → Option Out} {l0 l1 l2 l3 l4 l5 l6 l7 : Option AV} {L2 : List (Nat × AV)} {St : List AV} {S : SS} : ev c 241 12 [l0, l1, l2, l3, l4, l5, l6, l7] L2 St S = ev c 241 14 [l0, l1, l2, l3, l4, l5, l6, l7] L2 (aI 7 :: St) S := ev_go i241_12 rfl
theorem i241_14 : insAt 241 14 = some (.iaload, 1, (0, 0, 0, 0), 0) := rfl
theorem s241_14 {c : Nat → List AV → SS → Option Out} {l0 l1 l2 l3 l4 l5 l6 l7 : Option AV} {i : Int32} {o : OId} {L2 : List (Nat × AV)} {St : List AV} {S : SS} : ev c 241 14 [l0, l1, l2, l3, l4, l5, l6, l7] L2 (aI i :: aR o :: St) S = kI o i (ev c 241 15 [l0, l1, l2, l3, l4, l5, l6, l7] L2 (aI (agI S o i.toNatClampNeg) :: St) S) := ev_iaload i241_14
theorem i241_15 : insAt 241 15 = some (.if_icmp .ge 77, 3, (0, 0, 0, 0), 0) := rfl
theorem s241_15 {c : Nat → List AV → SS → Option Out} {l0 l1 l2 l3 l4 l5 l6 l7 : Option AV} {x y : Int32} {L2 : List (Nat × AV)} {St : List AV} {S : SS} : ev c 241 15 [l0, l1, l2, l3, l4, l5, l6, l7] L2 (aI y :: aI x :: St) S = if y ≤ x then ev c 241 92 [l0, l1, l2, l3, l4, l5, l6, l7] L2 St S else ev c 241 18 [l0, l1, l2, l3, l4, l5, l6, l7] L2 St S := ev_br i241_15 rfl
theorem i241_18 : insAt 241 18 = some (.iconst 4, 1, (0, 0, 0, 0), 0) := rfl
theorem s241_18 {c : Nat → List AV → SS → Option Out} {l0 l1 l2 l3 l4 l5 l6 l7 : Option AV} {L2 : List (Nat × AV)} {St : List AV} {S : SS} : ev c 241 18 [l0, l1, l2, l3, l4, l5, l6, l7] L2 St S = ev c 241 19 [l0, l1, l2, l3, l4, l5, l6, l7] L2 (aI 4 :: St) S := ev_go i241_18 rfl
theorem i241_19 : insAt 241 19 = some (.aload_n 0, 1, (0, 0, 0, 0), 0) := rfl
theorem s241_19 {c : Nat → List AV → SS → Option Out} {l1 l2 l3 l4 l5 l6 l7 : Option AV} {o : OId} {L2 : List (Nat × AV)} {St : List AV} {S : SS} : ev c 241 19 [some (aR o), l1, l2, l3, l4, l5, l6, l7] L2 St S = ev c 241 20 [some (aR o), l1, l2, l3, l4, l5, l6, l7] L2 (aR o :: St) S := ev_go i241_19 rfl
theorem i241_20 : insAt 241 20 = some (.iload 6, 2, (0, 0, 0, 0), 0) := rfl
theorem s241_20 {c : Nat → List AV → SS → Option Out} {l0 l1 l2 l3 l4 l5 l7 : Option AV} {x : Int32} {L2 : List (Nat × AV)} {St : List AV} {S : SS} : ev c 241 20 [l0, l1, l2, l3, l4, l5, some (aI x), l7] L2 St S = ev c 241 22 [l0, l1, l2, l3, l4, l5, some (aI x), l7] L2 (aI x :: St) S := ev_go i241_20 rfl
theorem i241_22 : insAt 241 22 = some (.iconst 3, 1, (0, 0, 0, 0), 0) := rfl
theorem s241_22 {c : Nat → List AV → SS → Option Out} {l0 l1 l2 l3 l4 l5 l6 l7 : Option AV} {L2 : List (Nat × AV)} {St : List AV} {S : SS} : ev c 241 22 [l0, l1, l2, l3, l4, l5, l6, l7] L2 St S = ev c 241 23 [l0, l1, l2, l3, l4, l5, l6, l7] L2 (aI 3 :: St) S := ev_go i241_22 rfl
theorem i241_23 : insAt 241 23 = some (.invokevirtual 75, 3, (234, 2, 2, 12), 0) := rfl
theorem s241_23 {c : Nat → List AV → SS → Option Out} {l0 l1 l2 l3 l4 l5 l6 l7 : Option AV} {t0 : AV} {a0 : Int32} {a1 : Int32} {j t : Nat} {L2 : List (Nat × AV)} {S : SS} : ev c 241 23 [l0, l1, l2, l3, l4, l5, l6, l7] L2 [aI a1, aI a0, aR (12, j, t), t0] S = ck (c 234 [aR (12, j, t), aI a0, aI a1] S) (fun v S' => ev c 241 26 [l0, l1, l2, l3, l4, l5, l6, l7] L2 (v.toList ++ [t0]) S') := ev_call i241_23 rfl
theorem i241_26 : insAt 241 26 = some (.iload_n 3, 1, (0, 0, 0, 0), 0) := rfl
theorem s241_26 {c : Nat → List AV → SS → Option Out} {l0 l1 l2 l4 l5 l6 l7 : Option AV} {x : Int32} {L2 : List (Nat × AV)} {St : List AV} {S : SS} : ev c 241 26 [l0, l1, l2, some (aI x), l4, l5, l6, l7] L2 St S = ev c 241 27 [l0, l1, l2, some (aI x), l4, l5, l6, l7] L2 (aI x :: St) S := ev_go i241_26 rfl
theorem i241_27 : insAt 241 27 = some (.isub, 1, (0, 0, 0, 0), 0) := rfl
theorem s241_27 {c : Nat → List AV → SS → Option Out} {l0 l1 l2 l3 l4 l5 l6 l7 : Option AV} {x y : Int32} {L2 : List (Nat × AV)} {St : List AV} {S : SS} : ev c 241 27 [l0, l1, l2, l3, l4, l5, l6, l7] L2 (aI y :: aI x :: St) S = ev c 241 28 [l0, l1, l2, l3, l4, l5, l6, l7] L2 (aI (x - y) :: St) S := ev_go i241_27 rfl
theorem i241_28 : insAt 241 28 = some (.invokestatic 109, 3, (235, 1, 0, 0), 0) := rfl
theorem s241_28 {c : Nat → List AV → SS → Option Out} {l0 l1 l2 l3 l4 l5 l6 l7 : Option AV} {t0 : AV} {a0 : Int32} {L2 : List (Nat × AV)} {S : SS} : ev c 241 28 [l0, l1, l2, l3, l4, l5, l6, l7] L2 [aI a0, t0] S = ck (c 235 [aI a0] S) (fun v S' => ev c 241 31 [l0, l1, l2, l3, l4, l5, l6, l7] L2 (v.toList ++ [t0]) S') := ev_call i241_28 rfl
theorem i241_31 : insAt 241 31 = some (.isub, 1, (0, 0, 0, 0), 0) := rfl
theorem s241_31 {c : Nat → List AV → SS → Option Out} {l0 l1 l2 l3 l4 l5 l6 l7 : Option AV} {x y : Int32} {L2 : List (Nat × AV)} {St : List AV} {S : SS} : ev c 241 31 [l0, l1, l2, l3, l4, l5, l6, l7] L2 (aI y :: aI x :: St) S = ev c 241 32 [l0, l1, l2, l3, l4, l5, l6, l7] L2 (aI (x - y) :: St) S := ev_go i241_31 rfl
theorem i241_32 : insAt 241 32 = some (.istore 7, 2, (0, 0, 0, 0), 0) := rfl
theorem s241_32 {c : Nat → List AV → SS → Option Out} {l0 l1 l2 l3 l4 l5 l6 l7 : Option AV} {x : Int32} {L2 : List (Nat × AV)} {St : List AV} {S : SS} : ev c 241 32 [l0, l1, l2, l3, l4, l5, l6, l7] L2 (aI x :: St) S = ev c 241 34 [l0, l1, l2, l3, l4, l5, l6, some (aI x)] (kil L2 7) St S := ev_go i241_32 rfl
theorem i241_34 : insAt 241 34 = some (.iload 5, 2, (0, 0, 0, 0), 0) := rfl
theorem s241_34 {c : Nat → List AV → SS → Option Out} {l0 l1 l2 l3 l4 l6 l7 : Option AV} {x : Int32} {L2 : List (Nat × AV)} {St : List AV} {S : SS} : ev c 241 34 [l0, l1, l2, l3, l4, some (aI x), l6, l7] L2 St S = ev c 241 36 [l0, l1, l2, l3, l4, some (aI x), l6, l7] L2 (aI x :: St) S := ev_go i241_34 rfl
theorem i241_36 : insAt 241 36 = some (.iload 6, 2, (0, 0, 0, 0), 0) := rfl
theorem s241_36 {c : Nat → List AV → SS → Option Out} {l0 l1 l2 l3 l4 l5 l7 : Option AV} {x : Int32} {L2 : List (Nat × AV)} {St : List AV} {S : SS} : ev c 241 36 [l0, l1, l2, l3, l4, l5, some (aI x), l7] L2 St S = ev c 241 38 [l0, l1, l2, l3, l4, l5, some (aI x), l7] L2 (aI x :: St) S := ev_go i241_36 rfl
theorem i241_38 : insAt 241 38 = some (.iload 4, 2, (0, 0, 0, 0), 0) := rfl
theorem s241_38 {c : Nat → List AV → SS → Option Out} {l0 l1 l2 l3 l5 l6 l7 : Option AV} {x : Int32} {L2 : List (Nat × AV)} {St : List AV} {S : SS} : ev c 241 38 [l0, l1, l2, l3, some (aI x), l5, l6, l7] L2 St S = ev c 241 40 [l0, l1, l2, l3, some (aI x), l5, l6, l7] L2 (aI x :: St) S := ev_go i241_38 rfl
theorem i241_40 : insAt 241 40 = some (.if_icmp .eq 42, 3, (0, 0, 0, 0), 0) := rfl
theorem s241_40 {c : Nat → List AV → SS → Option Out} {l0 l1 l2 l3 l4 l5 l6 l7 : Option AV} {x y : Int32} {L2 : List (Nat × AV)} {St : List AV} {S : SS} : ev c 241 40 [l0, l1, l2, l3, l4, l5, l6, l7] L2 (aI y :: aI x :: St) S = if x = y then ev c 241 82 [l0, l1, l2, l3, l4, l5, l6, l7] L2 St S else ev c 241 43 [l0, l1, l2, l3, l4, l5, l6, l7] L2 St S := ev_br i241_40 rfl
theorem i241_43 : insAt 241 43 = some (.aload_n 0, 1, (0, 0, 0, 0), 0) := rfl
theorem s241_43 {c : Nat → List AV → SS → Option Out} {l1 l2 l3 l4 l5 l6 l7 : Option AV} {o : OId} {L2 : List (Nat × AV)} {St : List AV} {S : SS} : ev c 241 43 [some (aR o), l1, l2, l3, l4, l5, l6, l7] L2 St S = ev c 241 44 [some (aR o), l1, l2, l3, l4, l5, l6, l7] L2 (aR o :: St) S := ev_go i241_43 rfl
theorem i241_44 : insAt 241 44 = some (.iload 6, 2, (0, 0, 0, 0), 0) := rfl
theorem s241_44 {c : Nat → List AV → SS → Option Out} {l0 l1 l2 l3 l4 l5 l7 : Option AV} {x : Int32} {L2 : List (Nat × AV)} {St : List AV} {S : SS} : ev c 241 44 [l0, l1, l2, l3, l4, l5, some (aI x), l7] L2 St S = ev c 241 46 [l0, l1, l2, l3, l4, l5, some (aI x), l7] L2 (aI x :: St) S := ev_go i241_44 rfl
theorem i241_46 : insAt 241 46 = some (.invokevirtual 115, 3, (233, 1, 2, 12), 0) := rfl
theorem s241_46 {c : Nat → List AV → SS → Option Out} {l0 l1 l2 l3 l4 l5 l6 l7 : Option AV} {t0 : AV} {a0 : Int32} {j t : Nat} {L2 : List (Nat × AV)} {S : SS} : ev c 241 46 [l0, l1, l2, l3, l4, l5, l6, l7] L2 [aI a0, aR (12, j, t), t0] S = ck (c 233 [aR (12, j, t), aI a0] S) (fun v S' => ev c 241 49 [l0, l1, l2, l3, l4, l5, l6, l7] L2 (v.toList ++ [t0]) S') := ev_call i241_46 rfl
theorem i241_49 : insAt 241 49 = some (.ifCond .eq 33, 3, (0, 0, 0, 0), 0) := rfl
theorem s241_49 {c : Nat → List AV → SS → Option Out} {l0 l1 l2 l3 l4 l5 l6 l7 : Option AV} {x : Int32} {L2 : List (Nat × AV)} {St : List AV} {S : SS} : ev c 241 49 [l0, l1, l2, l3, l4, l5, l6, l7] L2 (aI x :: St) S = if x = 0 then ev c 241 82 [l0, l1, l2, l3, l4, l5, l6, l7] L2 St S else ev c 241 52 [l0, l1, l2, l3, l4, l5, l6, l7] L2 St S := ev_br i241_49 rfl
theorem i241_52 : insAt 241 52 = some (.aload_n 0, 1, (0, 0, 0, 0), 0) := rfl
theorem s241_52 {c : Nat → List AV → SS → Option Out} {l1 l2 l3 l4 l5 l6 l7 : Option AV} {o : OId} {L2 : List (Nat × AV)} {St : List AV} {S : SS} : ev c 241 52 [some (aR o), l1, l2, l3, l4, l5, l6, l7] L2 St S = ev c 241 53 [some (aR o), l1, l2, l3, l4, l5, l6, l7] L2 (aR o :: St) S := ev_go i241_52 rfl
theorem i241_53 : insAt 241 53 = some (.iload_n 1, 1, (0, 0, 0, 0), 0) := rfl
theorem s241_53 {c : Nat → List AV → SS → Option Out} {l0 l2 l3 l4 l5 l6 l7 : Option AV} {x : Int32} {L2 : List (Nat × AV)} {St : List AV} {S : SS} : ev c 241 53 [l0, some (aI x), l2, l3, l4, l5, l6, l7] L2 St S = ev c 241 54 [l0, some (aI x), l2, l3, l4, l5, l6, l7] L2 (aI x :: St) S := ev_go i241_53 rfl
theorem i241_54 : insAt 241 54 = some (.iload_n 2, 1, (0, 0, 0, 0), 0) := rfl
theorem s241_54 {c : Nat → List AV → SS → Option Out} {l0 l1 l3 l4 l5 l6 l7 : Option AV} {x : Int32} {L2 : List (Nat × AV)} {St : List AV} {S : SS} : ev c 241 54 [l0, l1, some (aI x), l3, l4, l5, l6, l7] L2 St S = ev c 241 55 [l0, l1, some (aI x), l3, l4, l5, l6, l7] L2 (aI x :: St) S := ev_go i241_54 rfl
theorem i241_55 : insAt 241 55 = some (.iload 6, 2, (0, 0, 0, 0), 0) := rfl
theorem s241_55 {c : Nat → List AV → SS → Option Out} {l0 l1 l2 l3 l4 l5 l7 : Option AV} {x : Int32} {L2 : List (Nat × AV)} {St : List AV} {S : SS} : ev c 241 55 [l0, l1, l2, l3, l4, l5, some (aI x), l7] L2 St S = ev c 241 57 [l0, l1, l2, l3, l4, l5, some (aI x), l7] L2 (aI x :: St) S := ev_go i241_55 rfl
theorem i241_57 : insAt 241 57 = some (.invokevirtual 96, 3, (238, 3, 2, 12), 0) := rfl
theorem s241_57 {c : Nat → List AV → SS → Option Out} {l0 l1 l2 l3 l4 l5 l6 l7 : Option AV} {t0 : AV} {a0 : Int32} {a1 : Int32} {a2 : Int32} {j t : Nat} {L2 : List (Nat × AV)} {S : SS} : ev c 241 57 [l0, l1, l2, l3, l4, l5, l6, l7] L2 [aI a2, aI a1, aI a0, aR (12, j, t), t0] S = ck (c 238 [aR (12, j, t), aI a0, aI a1, aI a2] S) (fun v S' => ev c 241 60 [l0, l1, l2, l3, l4, l5, l6, l7] L2 (v.toList ++ [t0]) S') := ev_call i241_57 rfl
theorem i241_60 : insAt 241 60 = some (.aload_n 0, 1, (0, 0, 0, 0), 0) := rfl
theorem s241_60 {c : Nat → List AV → SS → Option Out} {l1 l2 l3 l4 l5 l6 l7 : Option AV} {o : OId} {L2 : List (Nat × AV)} {St : List AV} {S : SS} : ev c 241 60 [some (aR o), l1, l2, l3, l4, l5, l6, l7] L2 St S = ev c 241 61 [some (aR o), l1, l2, l3, l4, l5, l6, l7] L2 (aR o :: St) S := ev_go i241_60 rfl
theorem i241_61 : insAt 241 61 = some (.getfield 7, 3, (12, 0, 0, 0), 0) := rfl
theorem s241_61 {c : Nat → List AV → SS → Option Out} {l0 l1 l2 l3 l4 l5 l6 l7 : Option AV} {j t : Nat} {L2 : List (Nat × AV)} {St : List AV} {S : SS} : ev c 241 61 [l0, l1, l2, l3, l4, l5, l6, l7] L2 (aR (12, j, t) :: St) S = ev c 241 64 [l0, l1, l2, l3, l4, l5, l6, l7] L2 (S.2.2.1 (12, j, t) 0 :: St) S := ev_go i241_61 rfl
theorem i241_64 : insAt 241 64 = some (.iconst 2, 1, (0, 0, 0, 0), 0) := rfl
theorem s241_64 {c : Nat → List AV → SS → Option Out} {l0 l1 l2 l3 l4 l5 l6 l7 : Option AV} {L2 : List (Nat × AV)} {St : List AV} {S : SS} : ev c 241 64 [l0, l1, l2, l3, l4, l5, l6, l7] L2 St S = ev c 241 65 [l0, l1, l2, l3, l4, l5, l6, l7] L2 (aI 2 :: St) S := ev_go i241_64 rfl
theorem i241_65 : insAt 241 65 = some (.iaload, 1, (0, 0, 0, 0), 0) := rfl
theorem s241_65 {c : Nat → List AV → SS → Option Out} {l0 l1 l2 l3 l4 l5 l6 l7 : Option AV} {i : Int32} {o : OId} {L2 : List (Nat × AV)} {St : List AV} {S : SS} : ev c 241 65 [l0, l1, l2, l3, l4, l5, l6, l7] L2 (aI i :: aR o :: St) S = kI o i (ev c 241 66 [l0, l1, l2, l3, l4, l5, l6, l7] L2 (aI (agI S o i.toNatClampNeg) :: St) S) := ev_iaload i241_65
theorem i241_66 : insAt 241 66 = some (.invokestatic 93, 3, (239, 1, 0, 0), 0) := rfl
theorem s241_66 {c : Nat → List AV → SS → Option Out} {l0 l1 l2 l3 l4 l5 l6 l7 : Option AV} {t0 t1 : AV} {a0 : Int32} {L2 : List (Nat × AV)} {S : SS} : ev c 241 66 [l0, l1, l2, l3, l4, l5, l6, l7] L2 [aI a0, t0, t1] S = ck (c 239 [aI a0] S) (fun v S' => ev c 241 69 [l0, l1, l2, l3, l4, l5, l6, l7] L2 (v.toList ++ [t0, t1]) S') := ev_call i241_66 rfl
theorem i241_69 : insAt 241 69 = some (.if_icmp .ge 13, 3, (0, 0, 0, 0), 0) := rfl
theorem s241_69 {c : Nat → List AV → SS → Option Out} {l0 l1 l2 l3 l4 l5 l6 l7 : Option AV} {x y : Int32} {L2 : List (Nat × AV)} {St : List AV} {S : SS} : ev c 241 69 [l0, l1, l2, l3, l4, l5, l6, l7] L2 (aI y :: aI x :: St) S = if y ≤ x then ev c 241 82 [l0, l1, l2, l3, l4, l5, l6, l7] L2 St S else ev c 241 72 [l0, l1, l2, l3, l4, l5, l6, l7] L2 St S := ev_br i241_69 rfl
theorem i241_72 : insAt 241 72 = some (.iload 7, 2, (0, 0, 0, 0), 0) := rfl
theorem s241_72 {c : Nat → List AV → SS → Option Out} {l0 l1 l2 l3 l4 l5 l6 : Option AV} {x : Int32} {L2 : List (Nat × AV)} {St : List AV} {S : SS} : ev c 241 72 [l0, l1, l2, l3, l4, l5, l6, some (aI x)] L2 St S = ev c 241 74 [l0, l1, l2, l3, l4, l5, l6, some (aI x)] L2 (aI x :: St) S := ev_go i241_72 rfl
theorem i241_74 : insAt 241 74 = some (.ifCond .le 8, 3, (0, 0, 0, 0), 0) := rfl
theorem s241_74 {c : Nat → List AV → SS → Option Out} {l0 l1 l2 l3 l4 l5 l6 l7 : Option AV} {x : Int32} {L2 : List (Nat × AV)} {St : List AV} {S : SS} : ev c 241 74 [l0, l1, l2, l3, l4, l5, l6, l7] L2 (aI x :: St) S = if x ≤ 0 then ev c 241 82 [l0, l1, l2, l3, l4, l5, l6, l7] L2 St S else ev c 241 77 [l0, l1, l2, l3, l4, l5, l6, l7] L2 St S := ev_br i241_74 rfl
theorem i241_77 : insAt 241 77 = some (.iload 7, 2, (0, 0, 0, 0), 0) := rfl
theorem s241_77 {c : Nat → List AV → SS → Option Out} {l0 l1 l2 l3 l4 l5 l6 : Option AV} {x : Int32} {L2 : List (Nat × AV)} {St : List AV} {S : SS} : ev c 241 77 [l0, l1, l2, l3, l4, l5, l6, some (aI x)] L2 St S = ev c 241 79 [l0, l1, l2, l3, l4, l5, l6, some (aI x)] L2 (aI x :: St) S := ev_go i241_77 rfl
theorem i241_79 : insAt 241 79 = some (.goto 4, 3, (0, 0, 0, 0), 0) := rfl
theorem s241_79 {c : Nat → List AV → SS → Option Out} {l0 l1 l2 l3 l4 l5 l6 l7 : Option AV} {L2 : List (Nat × AV)} {St : List AV} {S : SS} : ev c 241 79 [l0, l1, l2, l3, l4, l5, l6, l7] L2 St S = ev c 241 83 [l0, l1, l2, l3, l4, l5, l6, l7] L2 St S := ev_go i241_79 rfl
theorem i241_82 : insAt 241 82 = some (.iconst 0, 1, (0, 0, 0, 0), 0) := rfl
theorem s241_82 {c : Nat → List AV → SS → Option Out} {l0 l1 l2 l3 l4 l5 l6 l7 : Option AV} {L2 : List (Nat × AV)} {St : List AV} {S : SS} : ev c 241 82 [l0, l1, l2, l3, l4, l5, l6, l7] L2 St S = ev c 241 83 [l0, l1, l2, l3, l4, l5, l6, l7] L2 (aI 0 :: St) S := ev_go i241_82 rfl
theorem i241_83 : insAt 241 83 = some (.iadd, 1, (0, 0, 0, 0), 0) := rfl
theorem s241_83 {c : Nat → List AV → SS → Option Out} {l0 l1 l2 l3 l4 l5 l6 l7 : Option AV} {x y : Int32} {L2 : List (Nat × AV)} {St : List AV} {S : SS} : ev c 241 83 [l0, l1, l2, l3, l4, l5, l6, l7] L2 (aI y :: aI x :: St) S = ev c 241 84 [l0, l1, l2, l3, l4, l5, l6, l7] L2 (aI (x + y) :: St) S := ev_go i241_83 rfl
theorem i241_84 : insAt 241 84 = some (.istore 5, 2, (0, 0, 0, 0), 0) := rfl
theorem s241_84 {c : Nat → List AV → SS → Option Out} {l0 l1 l2 l3 l4 l5 l6 l7 : Option AV} {x : Int32} {L2 : List (Nat × AV)} {St : List AV} {S : SS} : ev c 241 84 [l0, l1, l2, l3, l4, l5, l6, l7] L2 (aI x :: St) S = ev c 241 86 [l0, l1, l2, l3, l4, some (aI x), l6, l7] (kil L2 5) St S := ev_go i241_84 rfl
theorem i241_86 : insAt 241 86 = some (.iinc 6 1, 3, (0, 0, 0, 0), 0) := rfl
theorem s241_86 {c : Nat → List AV → SS → Option Out} {l0 l1 l2 l3 l4 l5 l7 : Option AV} {x : Int32} {L2 : List (Nat × AV)} {St : List AV} {S : SS} : ev c 241 86 [l0, l1, l2, l3, l4, l5, some (aI x), l7] L2 St S = ev c 241 89 [l0, l1, l2, l3, l4, l5, some (aI (x + 1)), l7] (kil L2 6) St S := ev_go i241_86 rfl
theorem i241_89 : insAt 241 89 = some (.goto (-83), 3, (0, 0, 0, 0), 0) := rfl
theorem s241_89 {c : Nat → List AV → SS → Option Out} {l0 l1 l2 l3 l4 l5 l6 l7 : Option AV} {L2 : List (Nat × AV)} {St : List AV} {S : SS} : ev c 241 89 [l0, l1, l2, l3, l4, l5, l6, l7] L2 St S = ev c 241 6 [l0, l1, l2, l3, l4, l5, l6, l7] L2 St S := ev_go i241_89 rfl
theorem i241_92 : insAt 241 92 = some (.iload 5, 2, (0, 0, 0, 0), 0) := rfl
theorem s241_92 {c : Nat → List AV → SS → Option Out} {l0 l1 l2 l3 l4 l6 l7 : Option AV} {x : Int32} {L2 : List (Nat × AV)} {St : List AV} {S : SS} : ev c 241 92 [l0, l1, l2, l3, l4, some (aI x), l6, l7] L2 St S = ev c 241 94 [l0, l1, l2, l3, l4, some (aI x), l6, l7] L2 (aI x :: St) S := ev_go i241_92 rfl
theorem i241_94 : insAt 241 94 = some (.ireturn, 1, (0, 0, 0, 0), 0) := rfl
theorem s241_94 {c : Nat → List AV → SS → Option Out} {l0 l1 l2 l3 l4 l5 l6 l7 : Option AV} {x : Int32} {L2 : List (Nat × AV)} {St : List AV} {S : SS} : ev c 241 94 [l0, l1, l2, l3, l4, l5, l6, l7] L2 [aI x] S = some (.inl (some (aI x)), S) := ev_end i241_94 rfl
theorem m241 {d : Nat} {o : OId} {a0 : Int32} {a1 : Int32} {a2 : Int32} {a3 : Int32} {S : SS} : evm (d + 1) 241 [aR o, aI a0, aI a1, aI a2, aI a3] S = ev (evm d) 241 0 [some (aR o), some (aI a0), some (aI a1), some (aI a2), some (aI a3), none, none, none] [] [] S := evm_s (n := 8) rfl (Nat.le_of_ble_eq_true rfl) rfl rfl
/-! FrequencyOfficeModel.canMove(II)Z -/
theorem i242_0 : insAt 242 0 = some (.iload_n 1, 1, (0, 0, 0, 0), 0) := rfl
theorem s242_0 {c : Nat → List AV → SS → Option Out} {l0 l2 l3 : Option AV} {x : Int32} {L2 : List (Nat × AV)} {St : List AV} {S : SS} : ev c 242 0 [l0, some (aI x), l2, l3] L2 St S = ev c 242 1 [l0, some (aI x), l2, l3] L2 (aI x :: St) S := ev_go i242_0 rfl
theorem i242_1 : insAt 242 1 = some (.aload_n 0, 1, (0, 0, 0, 0), 0) := rfl
theorem s242_1 {c : Nat → List AV → SS → Option Out} {l1 l2 l3 : Option AV} {o : OId} {L2 : List (Nat × AV)} {St : List AV} {S : SS} : ev c 242 1 [some (aR o), l1, l2, l3] L2 St S = ev c 242 2 [some (aR o), l1, l2, l3] L2 (aR o :: St) S := ev_go i242_1 rfl
theorem i242_2 : insAt 242 2 = some (.getfield 38, 3, (12, 9, 0, 0), 0) := rfl
theorem s242_2 {c : Nat → List AV → SS → Option Out} {l0 l1 l2 l3 : Option AV} {j t : Nat} {L2 : List (Nat × AV)} {St : List AV} {S : SS} : ev c 242 2 [l0, l1, l2, l3] L2 (aR (12, j, t) :: St) S = ev c 242 5 [l0, l1, l2, l3] L2 (aI (S.1 (12, j, t) 9) :: St) S := ev_go i242_2 rfl
theorem i242_5 : insAt 242 5 = some (.if_icmp .eq 29, 3, (0, 0, 0, 0), 0) := rfl
theorem s242_5 {c : Nat → List AV → SS → Option Out} {l0 l1 l2 l3 : Option AV} {x y : Int32} {L2 : List (Nat × AV)} {St : List AV} {S : SS} : ev c 242 5 [l0, l1, l2, l3] L2 (aI y :: aI x :: St) S = if x = y then ev c 242 34 [l0, l1, l2, l3] L2 St S else ev c 242 8 [l0, l1, l2, l3] L2 St S := ev_br i242_5 rfl
theorem i242_8 : insAt 242 8 = some (.iload_n 1, 1, (0, 0, 0, 0), 0) := rfl
theorem s242_8 {c : Nat → List AV → SS → Option Out} {l0 l2 l3 : Option AV} {x : Int32} {L2 : List (Nat × AV)} {St : List AV} {S : SS} : ev c 242 8 [l0, some (aI x), l2, l3] L2 St S = ev c 242 9 [l0, some (aI x), l2, l3] L2 (aI x :: St) S := ev_go i242_8 rfl
theorem i242_9 : insAt 242 9 = some (.aload_n 0, 1, (0, 0, 0, 0), 0) := rfl
theorem s242_9 {c : Nat → List AV → SS → Option Out} {l1 l2 l3 : Option AV} {o : OId} {L2 : List (Nat × AV)} {St : List AV} {S : SS} : ev c 242 9 [some (aR o), l1, l2, l3] L2 St S = ev c 242 10 [some (aR o), l1, l2, l3] L2 (aR o :: St) S := ev_go i242_9 rfl
theorem i242_10 : insAt 242 10 = some (.getfield 50, 3, (12, 13, 0, 0), 0) := rfl
theorem s242_10 {c : Nat → List AV → SS → Option Out} {l0 l1 l2 l3 : Option AV} {j t : Nat} {L2 : List (Nat × AV)} {St : List AV} {S : SS} : ev c 242 10 [l0, l1, l2, l3] L2 (aR (12, j, t) :: St) S = ev c 242 13 [l0, l1, l2, l3] L2 (aI (S.1 (12, j, t) 13) :: St) S := ev_go i242_10 rfl
theorem i242_13 : insAt 242 13 = some (.if_icmp .eq 21, 3, (0, 0, 0, 0), 0) := rfl
theorem s242_13 {c : Nat → List AV → SS → Option Out} {l0 l1 l2 l3 : Option AV} {x y : Int32} {L2 : List (Nat × AV)} {St : List AV} {S : SS} : ev c 242 13 [l0, l1, l2, l3] L2 (aI y :: aI x :: St) S = if x = y then ev c 242 34 [l0, l1, l2, l3] L2 St S else ev c 242 16 [l0, l1, l2, l3] L2 St S := ev_br i242_13 rfl
theorem i242_16 : insAt 242 16 = some (.aload_n 0, 1, (0, 0, 0, 0), 0) := rfl
theorem s242_16 {c : Nat → List AV → SS → Option Out} {l1 l2 l3 : Option AV} {o : OId} {L2 : List (Nat × AV)} {St : List AV} {S : SS} : ev c 242 16 [some (aR o), l1, l2, l3] L2 St S = ev c 242 17 [some (aR o), l1, l2, l3] L2 (aR o :: St) S := ev_go i242_16 rfl
theorem i242_17 : insAt 242 17 = some (.iload_n 1, 1, (0, 0, 0, 0), 0) := rfl
theorem s242_17 {c : Nat → List AV → SS → Option Out} {l0 l2 l3 : Option AV} {x : Int32} {L2 : List (Nat × AV)} {St : List AV} {S : SS} : ev c 242 17 [l0, some (aI x), l2, l3] L2 St S = ev c 242 18 [l0, some (aI x), l2, l3] L2 (aI x :: St) S := ev_go i242_17 rfl
theorem i242_18 : insAt 242 18 = some (.invokevirtual 115, 3, (233, 1, 2, 12), 0) := rfl
theorem s242_18 {c : Nat → List AV → SS → Option Out} {l0 l1 l2 l3 : Option AV} {a0 : Int32} {j t : Nat} {L2 : List (Nat × AV)} {S : SS} : ev c 242 18 [l0, l1, l2, l3] L2 [aI a0, aR (12, j, t)] S = ck (c 233 [aR (12, j, t), aI a0] S) (fun v S' => ev c 242 21 [l0, l1, l2, l3] L2 (v.toList ++ []) S') := ev_call i242_18 rfl
theorem i242_21 : insAt 242 21 = some (.ifCond .eq 13, 3, (0, 0, 0, 0), 0) := rfl
theorem s242_21 {c : Nat → List AV → SS → Option Out} {l0 l1 l2 l3 : Option AV} {x : Int32} {L2 : List (Nat × AV)} {St : List AV} {S : SS} : ev c 242 21 [l0, l1, l2, l3] L2 (aI x :: St) S = if x = 0 then ev c 242 34 [l0, l1, l2, l3] L2 St S else ev c 242 24 [l0, l1, l2, l3] L2 St S := ev_br i242_21 rfl
theorem i242_24 : insAt 242 24 = some (.aload_n 0, 1, (0, 0, 0, 0), 0) := rfl
theorem s242_24 {c : Nat → List AV → SS → Option Out} {l1 l2 l3 : Option AV} {o : OId} {L2 : List (Nat × AV)} {St : List AV} {S : SS} : ev c 242 24 [some (aR o), l1, l2, l3] L2 St S = ev c 242 25 [some (aR o), l1, l2, l3] L2 (aR o :: St) S := ev_go i242_24 rfl
theorem i242_25 : insAt 242 25 = some (.iload_n 1, 1, (0, 0, 0, 0), 0) := rfl
theorem s242_25 {c : Nat → List AV → SS → Option Out} {l0 l2 l3 : Option AV} {x : Int32} {L2 : List (Nat × AV)} {St : List AV} {S : SS} : ev c 242 25 [l0, some (aI x), l2, l3] L2 St S = ev c 242 26 [l0, some (aI x), l2, l3] L2 (aI x :: St) S := ev_go i242_25 rfl
theorem i242_26 : insAt 242 26 = some (.iconst 3, 1, (0, 0, 0, 0), 0) := rfl
theorem s242_26 {c : Nat → List AV → SS → Option Out} {l0 l1 l2 l3 : Option AV} {L2 : List (Nat × AV)} {St : List AV} {S : SS} : ev c 242 26 [l0, l1, l2, l3] L2 St S = ev c 242 27 [l0, l1, l2, l3] L2 (aI 3 :: St) S := ev_go i242_26 rfl
theorem i242_27 : insAt 242 27 = some (.invokevirtual 75, 3, (234, 2, 2, 12), 0) := rfl
theorem s242_27 {c : Nat → List AV → SS → Option Out} {l0 l1 l2 l3 : Option AV} {a0 : Int32} {a1 : Int32} {j t : Nat} {L2 : List (Nat × AV)} {S : SS} : ev c 242 27 [l0, l1, l2, l3] L2 [aI a1, aI a0, aR (12, j, t)] S = ck (c 234 [aR (12, j, t), aI a0, aI a1] S) (fun v S' => ev c 242 30 [l0, l1, l2, l3] L2 (v.toList ++ []) S') := ev_call i242_27 rfl
theorem i242_30 : insAt 242 30 = some (.iload_n 2, 1, (0, 0, 0, 0), 0) := rfl
theorem s242_30 {c : Nat → List AV → SS → Option Out} {l0 l1 l3 : Option AV} {x : Int32} {L2 : List (Nat × AV)} {St : List AV} {S : SS} : ev c 242 30 [l0, l1, some (aI x), l3] L2 St S = ev c 242 31 [l0, l1, some (aI x), l3] L2 (aI x :: St) S := ev_go i242_30 rfl
theorem i242_31 : insAt 242 31 = some (.if_icmp .ne 5, 3, (0, 0, 0, 0), 0) := rfl
theorem s242_31 {c : Nat → List AV → SS → Option Out} {l0 l1 l2 l3 : Option AV} {x y : Int32} {L2 : List (Nat × AV)} {St : List AV} {S : SS} : ev c 242 31 [l0, l1, l2, l3] L2 (aI y :: aI x :: St) S = if x = y then ev c 242 34 [l0, l1, l2, l3] L2 St S else ev c 242 36 [l0, l1, l2, l3] L2 St S := (ev_br i242_31 rfl).trans (ite_not _ _ _)
theorem i242_34 : insAt 242 34 = some (.iconst 0, 1, (0, 0, 0, 0), 0) := rfl
theorem s242_34 {c : Nat → List AV → SS → Option Out} {l0 l1 l2 l3 : Option AV} {L2 : List (Nat × AV)} {St : List AV} {S : SS} : ev c 242 34 [l0, l1, l2, l3] L2 St S = ev c 242 35 [l0, l1, l2, l3] L2 (aI 0 :: St) S := ev_go i242_34 rfl
theorem i242_35 : insAt 242 35 = some (.ireturn, 1, (0, 0, 0, 0), 0) := rfl
theorem s242_35 {c : Nat → List AV → SS → Option Out} {l0 l1 l2 l3 : Option AV} {x : Int32} {L2 : List (Nat × AV)} {St : List AV} {S : SS} : ev c 242 35 [l0, l1, l2, l3] L2 [aI x] S = if x = 0 ∨ x = 1 then some (.inl (some (aI x)), S) else none := ev_rt i242_35 rfl
theorem i242_36 : insAt 242 36 = some (.iconst 0, 1, (0, 0, 0, 0), 0) := rfl
theorem s242_36 {c : Nat → List AV → SS → Option Out} {l0 l1 l2 l3 : Option AV} {L2 : List (Nat × AV)} {St : List AV} {S : SS} : ev c 242 36 [l0, l1, l2, l3] L2 St S = ev c 242 37 [l0, l1, l2, l3] L2 (aI 0 :: St) S := ev_go i242_36 rfl
theorem i242_37 : insAt 242 37 = some (.istore_n 3, 1, (0, 0, 0, 0), 0) := rfl
theorem s242_37 {c : Nat → List AV → SS → Option Out} {l0 l1 l2 l3 : Option AV} {x : Int32} {L2 : List (Nat × AV)} {St : List AV} {S : SS} : ev c 242 37 [l0, l1, l2, l3] L2 (aI x :: St) S = ev c 242 38 [l0, l1, l2, some (aI x)] (kil L2 3) St S := ev_go i242_37 rfl
theorem i242_38 : insAt 242 38 = some (.iload_n 3, 1, (0, 0, 0, 0), 0) := rfl
theorem s242_38 {c : Nat → List AV → SS → Option Out} {l0 l1 l2 : Option AV} {x : Int32} {L2 : List (Nat × AV)} {St : List AV} {S : SS} : ev c 242 38 [l0, l1, l2, some (aI x)] L2 St S = ev c 242 39 [l0, l1, l2, some (aI x)] L2 (aI x :: St) S := ev_go i242_38 rfl
theorem i242_39 : insAt 242 39 = some (.aload_n 0, 1, (0, 0, 0, 0), 0) := rfl
theorem s242_39 {c : Nat → List AV → SS → Option Out} {l1 l2 l3 : Option AV} {o : OId} {L2 : List (Nat × AV)} {St : List AV} {S : SS} : ev c 242 39 [some (aR o), l1, l2, l3] L2 St S = ev c 242 40 [some (aR o), l1, l2, l3] L2 (aR o :: St) S := ev_go i242_39 rfl
theorem i242_40 : insAt 242 40 = some (.getfield 7, 3, (12, 0, 0, 0), 0) := rfl
theorem s242_40 {c : Nat → List AV → SS → Option Out} {l0 l1 l2 l3 : Option AV} {j t : Nat} {L2 : List (Nat × AV)} {St : List AV} {S : SS} : ev c 242 40 [l0, l1, l2, l3] L2 (aR (12, j, t) :: St) S = ev c 242 43 [l0, l1, l2, l3] L2 (S.2.2.1 (12, j, t) 0 :: St) S := ev_go i242_40 rfl
theorem i242_43 : insAt 242 43 = some (.bipush 7, 2, (0, 0, 0, 0), 0) := rfl
theorem s242_43 {c : Nat → List AV → SS → Option Out} {l0 l1 l2 l3 : Option AV} {L2 : List (Nat × AV)} {St : List AV} {S : SS} : ev c 242 43 [l0, l1, l2, l3] L2 St S = ev c 242 45 [l0, l1, l2, l3] L2 (aI 7 :: St) S := ev_go i242_43 rfl
theorem i242_45 : insAt 242 45 = some (.iaload, 1, (0, 0, 0, 0), 0) := rfl
theorem s242_45 {c : Nat → List AV → SS → Option Out} {l0 l1 l2 l3 : Option AV} {i : Int32} {o : OId} {L2 : List (Nat × AV)} {St : List AV} {S : SS} : ev c 242 45 [l0, l1, l2, l3] L2 (aI i :: aR o :: St) S = kI o i (ev c 242 46 [l0, l1, l2, l3] L2 (aI (agI S o i.toNatClampNeg) :: St) S) := ev_iaload i242_45
theorem i242_46 : insAt 242 46 = some (.if_icmp .ge 52, 3, (0, 0, 0, 0), 0) := rfl
theorem s242_46 {c : Nat → List AV → SS → Option Out} {l0 l1 l2 l3 : Option AV} {x y : Int32} {L2 : List (Nat × AV)} {St : List AV} {S : SS} : ev c 242 46 [l0, l1, l2, l3] L2 (aI y :: aI x :: St) S = if y ≤ x then ev c 242 98 [l0, l1, l2, l3] L2 St S else ev c 242 49 [l0, l1, l2, l3] L2 St S := ev_br i242_46 rfl
theorem i242_49 : insAt 242 49 = some (.iload_n 3, 1, (0, 0, 0, 0), 0) := rfl
theorem s242_49 {c : Nat → List AV → SS → Option Out} {l0 l1 l2 : Option AV} {x : Int32} {L2 : List (Nat × AV)} {St : List AV} {S : SS} : ev c 242 49 [l0, l1, l2, some (aI x)] L2 St S = ev c 242 50 [l0, l1, l2, some (aI x)] L2 (aI x :: St) S := ev_go i242_49 rfl
theorem i242_50 : insAt 242 50 = some (.iload_n 1, 1, (0, 0, 0, 0), 0) := rfl
theorem s242_50 {c : Nat → List AV → SS → Option Out} {l0 l2 l3 : Option AV} {x : Int32} {L2 : List (Nat × AV)} {St : List AV} {S : SS} : ev c 242 50 [l0, some (aI x), l2, l3] L2 St S = ev c 242 51 [l0, some (aI x), l2, l3] L2 (aI x :: St) S := ev_go i242_50 rfl
theorem i242_51 : insAt 242 51 = some (.if_icmp .eq 41, 3, (0, 0, 0, 0), 0) := rfl
theorem s242_51 {c : Nat → List AV → SS → Option Out} {l0 l1 l2 l3 : Option AV} {x y : Int32} {L2 : List (Nat × AV)} {St : List AV} {S : SS} : ev c 242 51 [l0, l1, l2, l3] L2 (aI y :: aI x :: St) S = if x = y then ev c 242 92 [l0, l1, l2, l3] L2 St S else ev c 242 54 [l0, l1, l2, l3] L2 St S := ev_br i242_51 rfl
theorem i242_54 : insAt 242 54 = some (.iload_n 3, 1, (0, 0, 0, 0), 0) := rfl
theorem s242_54 {c : Nat → List AV → SS → Option Out} {l0 l1 l2 : Option AV} {x : Int32} {L2 : List (Nat × AV)} {St : List AV} {S : SS} : ev c 242 54 [l0, l1, l2, some (aI x)] L2 St S = ev c 242 55 [l0, l1, l2, some (aI x)] L2 (aI x :: St) S := ev_go i242_54 rfl
theorem i242_55 : insAt 242 55 = some (.aload_n 0, 1, (0, 0, 0, 0), 0) := rfl
theorem s242_55 {c : Nat → List AV → SS → Option Out} {l1 l2 l3 : Option AV} {o : OId} {L2 : List (Nat × AV)} {St : List AV} {S : SS} : ev c 242 55 [some (aR o), l1, l2, l3] L2 St S = ev c 242 56 [some (aR o), l1, l2, l3] L2 (aR o :: St) S := ev_go i242_55 rfl
theorem i242_56 : insAt 242 56 = some (.getfield 38, 3, (12, 9, 0, 0), 0) := rfl
theorem s242_56 {c : Nat → List AV → SS → Option Out} {l0 l1 l2 l3 : Option AV} {j t : Nat} {L2 : List (Nat × AV)} {St : List AV} {S : SS} : ev c 242 56 [l0, l1, l2, l3] L2 (aR (12, j, t) :: St) S = ev c 242 59 [l0, l1, l2, l3] L2 (aI (S.1 (12, j, t) 9) :: St) S := ev_go i242_56 rfl
theorem i242_59 : insAt 242 59 = some (.if_icmp .eq 33, 3, (0, 0, 0, 0), 0) := rfl
theorem s242_59 {c : Nat → List AV → SS → Option Out} {l0 l1 l2 l3 : Option AV} {x y : Int32} {L2 : List (Nat × AV)} {St : List AV} {S : SS} : ev c 242 59 [l0, l1, l2, l3] L2 (aI y :: aI x :: St) S = if x = y then ev c 242 92 [l0, l1, l2, l3] L2 St S else ev c 242 62 [l0, l1, l2, l3] L2 St S := ev_br i242_59 rfl
theorem i242_62 : insAt 242 62 = some (.aload_n 0, 1, (0, 0, 0, 0), 0) := rfl
theorem s242_62 {c : Nat → List AV → SS → Option Out} {l1 l2 l3 : Option AV} {o : OId} {L2 : List (Nat × AV)} {St : List AV} {S : SS} : ev c 242 62 [some (aR o), l1, l2, l3] L2 St S = ev c 242 63 [some (aR o), l1, l2, l3] L2 (aR o :: St) S := ev_go i242_62 rfl
theorem i242_63 : insAt 242 63 = some (.iload_n 3, 1, (0, 0, 0, 0), 0) := rfl
theorem s242_63 {c : Nat → List AV → SS → Option Out} {l0 l1 l2 : Option AV} {x : Int32} {L2 : List (Nat × AV)} {St : List AV} {S : SS} : ev c 242 63 [l0, l1, l2, some (aI x)] L2 St S = ev c 242 64 [l0, l1, l2, some (aI x)] L2 (aI x :: St) S := ev_go i242_63 rfl
theorem i242_64 : insAt 242 64 = some (.invokevirtual 115, 3, (233, 1, 2, 12), 0) := rfl
theorem s242_64 {c : Nat → List AV → SS → Option Out} {l0 l1 l2 l3 : Option AV} {a0 : Int32} {j t : Nat} {L2 : List (Nat × AV)} {S : SS} : ev c 242 64 [l0, l1, l2, l3] L2 [aI a0, aR (12, j, t)] S = ck (c 233 [aR (12, j, t), aI a0] S) (fun v S' => ev c 242 67 [l0, l1, l2, l3] L2 (v.toList ++ []) S') := ev_call i242_64 rfl
theorem i242_67 : insAt 242 67 = some (.ifCond .eq 25, 3, (0, 0, 0, 0), 0) := rfl
theorem s242_67 {c : Nat → List AV → SS → Option Out} {l0 l1 l2 l3 : Option AV} {x : Int32} {L2 : List (Nat × AV)} {St : List AV} {S : SS} : ev c 242 67 [l0, l1, l2, l3] L2 (aI x :: St) S = if x = 0 then ev c 242 92 [l0, l1, l2, l3] L2 St S else ev c 242 70 [l0, l1, l2, l3] L2 St S := ev_br i242_67 rfl
theorem i242_70 : insAt 242 70 = some (.aload_n 0, 1, (0, 0, 0, 0), 0) := rfl
theorem s242_70 {c : Nat → List AV → SS → Option Out} {l1 l2 l3 : Option AV} {o : OId} {L2 : List (Nat × AV)} {St : List AV} {S : SS} : ev c 242 70 [some (aR o), l1, l2, l3] L2 St S = ev c 242 71 [some (aR o), l1, l2, l3] L2 (aR o :: St) S := ev_go i242_70 rfl
theorem i242_71 : insAt 242 71 = some (.iload_n 3, 1, (0, 0, 0, 0), 0) := rfl
theorem s242_71 {c : Nat → List AV → SS → Option Out} {l0 l1 l2 : Option AV} {x : Int32} {L2 : List (Nat × AV)} {St : List AV} {S : SS} : ev c 242 71 [l0, l1, l2, some (aI x)] L2 St S = ev c 242 72 [l0, l1, l2, some (aI x)] L2 (aI x :: St) S := ev_go i242_71 rfl
theorem i242_72 : insAt 242 72 = some (.iconst 3, 1, (0, 0, 0, 0), 0) := rfl
theorem s242_72 {c : Nat → List AV → SS → Option Out} {l0 l1 l2 l3 : Option AV} {L2 : List (Nat × AV)} {St : List AV} {S : SS} : ev c 242 72 [l0, l1, l2, l3] L2 St S = ev c 242 73 [l0, l1, l2, l3] L2 (aI 3 :: St) S := ev_go i242_72 rfl
theorem i242_73 : insAt 242 73 = some (.invokevirtual 75, 3, (234, 2, 2, 12), 0) := rfl
theorem s242_73 {c : Nat → List AV → SS → Option Out} {l0 l1 l2 l3 : Option AV} {a0 : Int32} {a1 : Int32} {j t : Nat} {L2 : List (Nat × AV)} {S : SS} : ev c 242 73 [l0, l1, l2, l3] L2 [aI a1, aI a0, aR (12, j, t)] S = ck (c 234 [aR (12, j, t), aI a0, aI a1] S) (fun v S' => ev c 242 76 [l0, l1, l2, l3] L2 (v.toList ++ []) S') := ev_call i242_73 rfl
theorem i242_76 : insAt 242 76 = some (.iload_n 2, 1, (0, 0, 0, 0), 0) := rfl
theorem s242_76 {c : Nat → List AV → SS → Option Out} {l0 l1 l3 : Option AV} {x : Int32} {L2 : List (Nat × AV)} {St : List AV} {S : SS} : ev c 242 76 [l0, l1, some (aI x), l3] L2 St S = ev c 242 77 [l0, l1, some (aI x), l3] L2 (aI x :: St) S := ev_go i242_76 rfl
theorem i242_77 : insAt 242 77 = some (.isub, 1, (0, 0, 0, 0), 0) := rfl
theorem s242_77 {c : Nat → List AV → SS → Option Out} {l0 l1 l2 l3 : Option AV} {x y : Int32} {L2 : List (Nat × AV)} {St : List AV} {S : SS} : ev c 242 77 [l0, l1, l2, l3] L2 (aI y :: aI x :: St) S = ev c 242 78 [l0, l1, l2, l3] L2 (aI (x - y) :: St) S := ev_go i242_77 rfl
theorem i242_78 : insAt 242 78 = some (.invokestatic 109, 3, (235, 1, 0, 0), 0) := rfl
theorem s242_78 {c : Nat → List AV → SS → Option Out} {l0 l1 l2 l3 : Option AV} {a0 : Int32} {L2 : List (Nat × AV)} {S : SS} : ev c 242 78 [l0, l1, l2, l3] L2 [aI a0] S = ck (c 235 [aI a0] S) (fun v S' => ev c 242 81 [l0, l1, l2, l3] L2 (v.toList ++ []) S') := ev_call i242_78 rfl
theorem i242_81 : insAt 242 81 = some (.aload_n 0, 1, (0, 0, 0, 0), 0) := rfl
theorem s242_81 {c : Nat → List AV → SS → Option Out} {l1 l2 l3 : Option AV} {o : OId} {L2 : List (Nat × AV)} {St : List AV} {S : SS} : ev c 242 81 [some (aR o), l1, l2, l3] L2 St S = ev c 242 82 [some (aR o), l1, l2, l3] L2 (aR o :: St) S := ev_go i242_81 rfl
theorem i242_82 : insAt 242 82 = some (.iload_n 1, 1, (0, 0, 0, 0), 0) := rfl
theorem s242_82 {c : Nat → List AV → SS → Option Out} {l0 l2 l3 : Option AV} {x : Int32} {L2 : List (Nat × AV)} {St : List AV} {S : SS} : ev c 242 82 [l0, some (aI x), l2, l3] L2 St S = ev c 242 83 [l0, some (aI x), l2, l3] L2 (aI x :: St) S := ev_go i242_82 rfl
theorem i242_83 : insAt 242 83 = some (.iload_n 3, 1, (0, 0, 0, 0), 0) := rfl
theorem s242_83 {c : Nat → List AV → SS → Option Out} {l0 l1 l2 : Option AV} {x : Int32} {L2 : List (Nat × AV)} {St : List AV} {S : SS} : ev c 242 83 [l0, l1, l2, some (aI x)] L2 St S = ev c 242 84 [l0, l1, l2, some (aI x)] L2 (aI x :: St) S := ev_go i242_83 rfl
theorem i242_84 : insAt 242 84 = some (.invokevirtual 112, 3, (243, 2, 2, 12), 0) := rfl
theorem s242_84 {c : Nat → List AV → SS → Option Out} {l0 l1 l2 l3 : Option AV} {t0 : AV} {a0 : Int32} {a1 : Int32} {j t : Nat} {L2 : List (Nat × AV)} {S : SS} : ev c 242 84 [l0, l1, l2, l3] L2 [aI a1, aI a0, aR (12, j, t), t0] S = ck (c 243 [aR (12, j, t), aI a0, aI a1] S) (fun v S' => ev c 242 87 [l0, l1, l2, l3] L2 (v.toList ++ [t0]) S') := ev_call i242_84 rfl
theorem i242_87 : insAt 242 87 = some (.if_icmp .ge 5, 3, (0, 0, 0, 0), 0) := rfl
theorem s242_87 {c : Nat → List AV → SS → Option Out} {l0 l1 l2 l3 : Option AV} {x y : Int32} {L2 : List (Nat × AV)} {St : List AV} {S : SS} : ev c 242 87 [l0, l1, l2, l3] L2 (aI y :: aI x :: St) S = if y ≤ x then ev c 242 92 [l0, l1, l2, l3] L2 St S else ev c 242 90 [l0, l1, l2, l3] L2 St S := ev_br i242_87 rfl
theorem i242_90 : insAt 242 90 = some (.iconst 0, 1, (0, 0, 0, 0), 0) := rfl
theorem s242_90 {c : Nat → List AV → SS → Option Out} {l0 l1 l2 l3 : Option AV} {L2 : List (Nat × AV)} {St : List AV} {S : SS} : ev c 242 90 [l0, l1, l2, l3] L2 St S = ev c 242 91 [l0, l1, l2, l3] L2 (aI 0 :: St) S := ev_go i242_90 rfl
theorem i242_91 : insAt 242 91 = some (.ireturn, 1, (0, 0, 0, 0), 0) := rfl
theorem s242_91 {c : Nat → List AV → SS → Option Out} {l0 l1 l2 l3 : Option AV} {x : Int32} {L2 : List (Nat × AV)} {St : List AV} {S : SS} : ev c 242 91 [l0, l1, l2, l3] L2 [aI x] S = if x = 0 ∨ x = 1 then some (.inl (some (aI x)), S) else none := ev_rt i242_91 rfl
theorem i242_92 : insAt 242 92 = some (.iinc 3 1, 3, (0, 0, 0, 0), 0) := rfl
theorem s242_92 {c : Nat → List AV → SS → Option Out} {l0 l1 l2 : Option AV} {x : Int32} {L2 : List (Nat × AV)} {St : List AV} {S : SS} : ev c 242 92 [l0, l1, l2, some (aI x)] L2 St S = ev c 242 95 [l0, l1, l2, some (aI (x + 1))] (kil L2 3) St S := ev_go i242_92 rfl
theorem i242_95 : insAt 242 95 = some (.goto (-57), 3, (0, 0, 0, 0), 0) := rfl
theorem s242_95 {c : Nat → List AV → SS → Option Out} {l0 l1 l2 l3 : Option AV} {L2 : List (Nat × AV)} {St : List AV} {S : SS} : ev c 242 95 [l0, l1, l2, l3] L2 St S = ev c 242 38 [l0, l1, l2, l3] L2 St S := ev_go i242_95 rfl
theorem i242_98 : insAt 242 98 = some (.iconst 1, 1, (0, 0, 0, 0), 0) := rfl
theorem s242_98 {c : Nat → List AV → SS → Option Out} {l0 l1 l2 l3 : Option AV} {L2 : List (Nat × AV)} {St : List AV} {S : SS} : ev c 242 98 [l0, l1, l2, l3] L2 St S = ev c 242 99 [l0, l1, l2, l3] L2 (aI 1 :: St) S := ev_go i242_98 rfl
theorem i242_99 : insAt 242 99 = some (.ireturn, 1, (0, 0, 0, 0), 0) := rfl
theorem s242_99 {c : Nat → List AV → SS → Option Out} {l0 l1 l2 l3 : Option AV} {x : Int32} {L2 : List (Nat × AV)} {St : List AV} {S : SS} : ev c 242 99 [l0, l1, l2, l3] L2 [aI x] S = if x = 0 ∨ x = 1 then some (.inl (some (aI x)), S) else none := ev_rt i242_99 rfl
theorem m242 {d : Nat} {o : OId} {a0 : Int32} {a1 : Int32} {S : SS} : evm (d + 1) 242 [aR o, aI a0, aI a1] S = ev (evm d) 242 0 [some (aR o), some (aI a0), some (aI a1), none] [] [] S := evm_s (n := 4) rfl (Nat.le_of_ble_eq_true rfl) rfl rfl
/-! FrequencyOfficeModel.separationOf(II)I -/
theorem i243_0 : insAt 243 0 = some (.aload_n 0, 1, (0, 0, 0, 0), 0) := rfl
theorem s243_0 {c : Nat → List AV → SS → Option Out} {l1 l2 : Option AV} {o : OId} {L2 : List (Nat × AV)} {St : List AV} {S : SS} : ev c 243 0 [some (aR o), l1, l2] L2 St S = ev c 243 1 [some (aR o), l1, l2] L2 (aR o :: St) S := ev_go i243_0 rfl
theorem i243_1 : insAt 243 1 = some (.iload_n 1, 1, (0, 0, 0, 0), 0) := rfl
theorem s243_1 {c : Nat → List AV → SS → Option Out} {l0 l2 : Option AV} {x : Int32} {L2 : List (Nat × AV)} {St : List AV} {S : SS} : ev c 243 1 [l0, some (aI x), l2] L2 St S = ev c 243 2 [l0, some (aI x), l2] L2 (aI x :: St) S := ev_go i243_1 rfl
theorem i243_2 : insAt 243 2 = some (.iload_n 2, 1, (0, 0, 0, 0), 0) := rfl
theorem s243_2 {c : Nat → List AV → SS → Option Out} {l0 l1 : Option AV} {x : Int32} {L2 : List (Nat × AV)} {St : List AV} {S : SS} : ev c 243 2 [l0, l1, some (aI x)] L2 St S = ev c 243 3 [l0, l1, some (aI x)] L2 (aI x :: St) S := ev_go i243_2 rfl
theorem i243_3 : insAt 243 3 = some (.invokevirtual 103, 3, (244, 2, 2, 12), 0) := rfl
theorem s243_3 {c : Nat → List AV → SS → Option Out} {l0 l1 l2 : Option AV} {a0 : Int32} {a1 : Int32} {j t : Nat} {L2 : List (Nat × AV)} {S : SS} : ev c 243 3 [l0, l1, l2] L2 [aI a1, aI a0, aR (12, j, t)] S = ck (c 244 [aR (12, j, t), aI a0, aI a1] S) (fun v S' => ev c 243 6 [l0, l1, l2] L2 (v.toList ++ []) S') := ev_call i243_3 rfl
theorem i243_6 : insAt 243 6 = some (.aload_n 0, 1, (0, 0, 0, 0), 0) := rfl
theorem s243_6 {c : Nat → List AV → SS → Option Out} {l1 l2 : Option AV} {o : OId} {L2 : List (Nat × AV)} {St : List AV} {S : SS} : ev c 243 6 [some (aR o), l1, l2] L2 St S = ev c 243 7 [some (aR o), l1, l2] L2 (aR o :: St) S := ev_go i243_6 rfl
theorem i243_7 : insAt 243 7 = some (.iload_n 1, 1, (0, 0, 0, 0), 0) := rfl
theorem s243_7 {c : Nat → List AV → SS → Option Out} {l0 l2 : Option AV} {x : Int32} {L2 : List (Nat × AV)} {St : List AV} {S : SS} : ev c 243 7 [l0, some (aI x), l2] L2 St S = ev c 243 8 [l0, some (aI x), l2] L2 (aI x :: St) S := ev_go i243_7 rfl
theorem i243_8 : insAt 243 8 = some (.iload_n 2, 1, (0, 0, 0, 0), 0) := rfl
theorem s243_8 {c : Nat → List AV → SS → Option Out} {l0 l1 : Option AV} {x : Int32} {L2 : List (Nat × AV)} {St : List AV} {S : SS} : ev c 243 8 [l0, l1, some (aI x)] L2 St S = ev c 243 9 [l0, l1, some (aI x)] L2 (aI x :: St) S := ev_go i243_8 rfl
theorem i243_9 : insAt 243 9 = some (.invokevirtual 106, 3, (240, 2, 2, 12), 0) := rfl
theorem s243_9 {c : Nat → List AV → SS → Option Out} {l0 l1 l2 : Option AV} {t0 : AV} {a0 : Int32} {a1 : Int32} {j t : Nat} {L2 : List (Nat × AV)} {S : SS} : ev c 243 9 [l0, l1, l2] L2 [aI a1, aI a0, aR (12, j, t), t0] S = ck (c 240 [aR (12, j, t), aI a0, aI a1] S) (fun v S' => ev c 243 12 [l0, l1, l2] L2 (v.toList ++ [t0]) S') := ev_call i243_9 rfl
theorem i243_12 : insAt 243 12 = some (.iadd, 1, (0, 0, 0, 0), 0) := rfl
theorem s243_12 {c : Nat → List AV → SS → Option Out} {l0 l1 l2 : Option AV} {x y : Int32} {L2 : List (Nat × AV)} {St : List AV} {S : SS} : ev c 243 12 [l0, l1, l2] L2 (aI y :: aI x :: St) S = ev c 243 13 [l0, l1, l2] L2 (aI (x + y) :: St) S := ev_go i243_12 rfl
theorem i243_13 : insAt 243 13 = some (.ireturn, 1, (0, 0, 0, 0), 0) := rfl
theorem s243_13 {c : Nat → List AV → SS → Option Out} {l0 l1 l2 : Option AV} {x : Int32} {L2 : List (Nat × AV)} {St : List AV} {S : SS} : ev c 243 13 [l0, l1, l2] L2 [aI x] S = some (.inl (some (aI x)), S) := ev_end i243_13 rfl
theorem m243 {d : Nat} {o : OId} {a0 : Int32} {a1 : Int32} {S : SS} : evm (d + 1) 243 [aR o, aI a0, aI a1] S = ev (evm d) 243 0 [some (aR o), some (aI a0), some (aI a1)] [] [] S := evm_s (n := 3) rfl (Nat.le_of_ble_eq_true rfl) rfl rfl
/-! FrequencyOfficeModel.baseOf(II)I -/
theorem i244_0 : insAt 244 0 = some (.aload_n 0, 1, (0, 0, 0, 0), 0) := rfl
theorem s244_0 {c : Nat → List AV → SS → Option Out} {l1 l2 : Option AV} {o : OId} {L2 : List (Nat × AV)} {St : List AV} {S : SS} : ev c 244 0 [some (aR o), l1, l2] L2 St S = ev c 244 1 [some (aR o), l1, l2] L2 (aR o :: St) S := ev_go i244_0 rfl
theorem i244_1 : insAt 244 1 = some (.aload_n 0, 1, (0, 0, 0, 0), 0) := rfl
theorem s244_1 {c : Nat → List AV → SS → Option Out} {l1 l2 : Option AV} {o : OId} {L2 : List (Nat × AV)} {St : List AV} {S : SS} : ev c 244 1 [some (aR o), l1, l2] L2 St S = ev c 244 2 [some (aR o), l1, l2] L2 (aR o :: St) S := ev_go i244_1 rfl
theorem i244_2 : insAt 244 2 = some (.iload_n 1, 1, (0, 0, 0, 0), 0) := rfl
theorem s244_2 {c : Nat → List AV → SS → Option Out} {l0 l2 : Option AV} {x : Int32} {L2 : List (Nat × AV)} {St : List AV} {S : SS} : ev c 244 2 [l0, some (aI x), l2] L2 St S = ev c 244 3 [l0, some (aI x), l2] L2 (aI x :: St) S := ev_go i244_2 rfl
theorem i244_3 : insAt 244 3 = some (.iconst 1, 1, (0, 0, 0, 0), 0) := rfl
theorem s244_3 {c : Nat → List AV → SS → Option Out} {l0 l1 l2 : Option AV} {L2 : List (Nat × AV)} {St : List AV} {S : SS} : ev c 244 3 [l0, l1, l2] L2 St S = ev c 244 4 [l0, l1, l2] L2 (aI 1 :: St) S := ev_go i244_3 rfl
theorem i244_4 : insAt 244 4 = some (.invokevirtual 75, 3, (234, 2, 2, 12), 0) := rfl
theorem s244_4 {c : Nat → List AV → SS → Option Out} {l0 l1 l2 : Option AV} {t0 : AV} {a0 : Int32} {a1 : Int32} {j t : Nat} {L2 : List (Nat × AV)} {S : SS} : ev c 244 4 [l0, l1, l2] L2 [aI a1, aI a0, aR (12, j, t), t0] S = ck (c 234 [aR (12, j, t), aI a0, aI a1] S) (fun v S' => ev c 244 7 [l0, l1, l2] L2 (v.toList ++ [t0]) S') := ev_call i244_4 rfl
theorem i244_7 : insAt 244 7 = some (.aload_n 0, 1, (0, 0, 0, 0), 0) := rfl
theorem s244_7 {c : Nat → List AV → SS → Option Out} {l1 l2 : Option AV} {o : OId} {L2 : List (Nat × AV)} {St : List AV} {S : SS} : ev c 244 7 [some (aR o), l1, l2] L2 St S = ev c 244 8 [some (aR o), l1, l2] L2 (aR o :: St) S := ev_go i244_7 rfl
theorem i244_8 : insAt 244 8 = some (.iload_n 1, 1, (0, 0, 0, 0), 0) := rfl
theorem s244_8 {c : Nat → List AV → SS → Option Out} {l0 l2 : Option AV} {x : Int32} {L2 : List (Nat × AV)} {St : List AV} {S : SS} : ev c 244 8 [l0, some (aI x), l2] L2 St S = ev c 244 9 [l0, some (aI x), l2] L2 (aI x :: St) S := ev_go i244_8 rfl
theorem i244_9 : insAt 244 9 = some (.iconst 2, 1, (0, 0, 0, 0), 0) := rfl
theorem s244_9 {c : Nat → List AV → SS → Option Out} {l0 l1 l2 : Option AV} {L2 : List (Nat × AV)} {St : List AV} {S : SS} : ev c 244 9 [l0, l1, l2] L2 St S = ev c 244 10 [l0, l1, l2] L2 (aI 2 :: St) S := ev_go i244_9 rfl
theorem i244_10 : insAt 244 10 = some (.invokevirtual 75, 3, (234, 2, 2, 12), 0) := rfl
theorem s244_10 {c : Nat → List AV → SS → Option Out} {l0 l1 l2 : Option AV} {t0 t1 : AV} {a0 : Int32} {a1 : Int32} {j t : Nat} {L2 : List (Nat × AV)} {S : SS} : ev c 244 10 [l0, l1, l2] L2 [aI a1, aI a0, aR (12, j, t), t0, t1] S = ck (c 234 [aR (12, j, t), aI a0, aI a1] S) (fun v S' => ev c 244 13 [l0, l1, l2] L2 (v.toList ++ [t0, t1]) S') := ev_call i244_10 rfl
theorem i244_13 : insAt 244 13 = some (.iload_n 2, 1, (0, 0, 0, 0), 0) := rfl
theorem s244_13 {c : Nat → List AV → SS → Option Out} {l0 l1 : Option AV} {x : Int32} {L2 : List (Nat × AV)} {St : List AV} {S : SS} : ev c 244 13 [l0, l1, some (aI x)] L2 St S = ev c 244 14 [l0, l1, some (aI x)] L2 (aI x :: St) S := ev_go i244_13 rfl
theorem i244_14 : insAt 244 14 = some (.invokevirtual 100, 3, (237, 3, 2, 12), 0) := rfl
theorem s244_14 {c : Nat → List AV → SS → Option Out} {l0 l1 l2 : Option AV} {a0 : Int32} {a1 : Int32} {a2 : Int32} {j t : Nat} {L2 : List (Nat × AV)} {S : SS} : ev c 244 14 [l0, l1, l2] L2 [aI a2, aI a1, aI a0, aR (12, j, t)] S = ck (c 237 [aR (12, j, t), aI a0, aI a1, aI a2] S) (fun v S' => ev c 244 17 [l0, l1, l2] L2 (v.toList ++ []) S') := ev_call i244_14 rfl
theorem i244_17 : insAt 244 17 = some (.ireturn, 1, (0, 0, 0, 0), 0) := rfl
theorem s244_17 {c : Nat → List AV → SS → Option Out} {l0 l1 l2 : Option AV} {x : Int32} {L2 : List (Nat × AV)} {St : List AV} {S : SS} : ev c 244 17 [l0, l1, l2] L2 [aI x] S = some (.inl (some (aI x)), S) := ev_end i244_17 rfl
theorem m244 {d : Nat} {o : OId} {a0 : Int32} {a1 : Int32} {S : SS} : evm (d + 1) 244 [aR o, aI a0, aI a1] S = ev (evm d) 244 0 [some (aR o), some (aI a0), some (aI a1)] [] [] S := evm_s (n := 3) rfl (Nat.le_of_ble_eq_true rfl) rfl rfl
/-! FrequencyOfficeModel.lays(III)V -/
theorem i245_0 : insAt 245 0 = some (.aload_n 0, 1, (0, 0, 0, 0), 0) := rfl
theorem s245_0 {c : Nat → List AV → SS → Option Out} {l1 l2 l3 : Option AV} {o : OId} {L2 : List (Nat × AV)} {St : List AV} {S : SS} : ev c 245 0 [some (aR o), l1, l2, l3] L2 St S = ev c 245 1 [some (aR o), l1, l2, l3] L2 (aR o :: St) S := ev_go i245_0 rfl
theorem i245_1 : insAt 245 1 = some (.getfield 7, 3, (12, 0, 0, 0), 0) := rfl
theorem s245_1 {c : Nat → List AV → SS → Option Out} {l0 l1 l2 l3 : Option AV} {j t : Nat} {L2 : List (Nat × AV)} {St : List AV} {S : SS} : ev c 245 1 [l0, l1, l2, l3] L2 (aR (12, j, t) :: St) S = ev c 245 4 [l0, l1, l2, l3] L2 (S.2.2.1 (12, j, t) 0 :: St) S := ev_go i245_1 rfl
theorem i245_4 : insAt 245 4 = some (.bipush 15, 2, (0, 0, 0, 0), 0) := rfl
theorem s245_4 {c : Nat → List AV → SS → Option Out} {l0 l1 l2 l3 : Option AV} {L2 : List (Nat × AV)} {St : List AV} {S : SS} : ev c 245 4 [l0, l1, l2, l3] L2 St S = ev c 245 6 [l0, l1, l2, l3] L2 (aI 15 :: St) S := ev_go i245_4 rfl
theorem i245_6 : insAt 245 6 = some (.bipush 6, 2, (0, 0, 0, 0), 0) := rfl
theorem s245_6 {c : Nat → List AV → SS → Option Out} {l0 l1 l2 l3 : Option AV} {L2 : List (Nat × AV)} {St : List AV} {S : SS} : ev c 245 6 [l0, l1, l2, l3] L2 St S = ev c 245 8 [l0, l1, l2, l3] L2 (aI 6 :: St) S := ev_go i245_6 rfl
theorem i245_8 : insAt 245 8 = some (.iload_n 1, 1, (0, 0, 0, 0), 0) := rfl
theorem s245_8 {c : Nat → List AV → SS → Option Out} {l0 l2 l3 : Option AV} {x : Int32} {L2 : List (Nat × AV)} {St : List AV} {S : SS} : ev c 245 8 [l0, some (aI x), l2, l3] L2 St S = ev c 245 9 [l0, some (aI x), l2, l3] L2 (aI x :: St) S := ev_go i245_8 rfl
theorem i245_9 : insAt 245 9 = some (.imul, 1, (0, 0, 0, 0), 0) := rfl
theorem s245_9 {c : Nat → List AV → SS → Option Out} {l0 l1 l2 l3 : Option AV} {x y : Int32} {L2 : List (Nat × AV)} {St : List AV} {S : SS} : ev c 245 9 [l0, l1, l2, l3] L2 (aI y :: aI x :: St) S = ev c 245 10 [l0, l1, l2, l3] L2 (aI (x * y) :: St) S := ev_go i245_9 rfl
theorem i245_10 : insAt 245 10 = some (.iadd, 1, (0, 0, 0, 0), 0) := rfl
theorem s245_10 {c : Nat → List AV → SS → Option Out} {l0 l1 l2 l3 : Option AV} {x y : Int32} {L2 : List (Nat × AV)} {St : List AV} {S : SS} : ev c 245 10 [l0, l1, l2, l3] L2 (aI y :: aI x :: St) S = ev c 245 11 [l0, l1, l2, l3] L2 (aI (x + y) :: St) S := ev_go i245_10 rfl
theorem i245_11 : insAt 245 11 = some (.iload_n 2, 1, (0, 0, 0, 0), 0) := rfl
theorem s245_11 {c : Nat → List AV → SS → Option Out} {l0 l1 l3 : Option AV} {x : Int32} {L2 : List (Nat × AV)} {St : List AV} {S : SS} : ev c 245 11 [l0, l1, some (aI x), l3] L2 St S = ev c 245 12 [l0, l1, some (aI x), l3] L2 (aI x :: St) S := ev_go i245_11 rfl
theorem i245_12 : insAt 245 12 = some (.iadd, 1, (0, 0, 0, 0), 0) := rfl
theorem s245_12 {c : Nat → List AV → SS → Option Out} {l0 l1 l2 l3 : Option AV} {x y : Int32} {L2 : List (Nat × AV)} {St : List AV} {S : SS} : ev c 245 12 [l0, l1, l2, l3] L2 (aI y :: aI x :: St) S = ev c 245 13 [l0, l1, l2, l3] L2 (aI (x + y) :: St) S := ev_go i245_12 rfl
theorem i245_13 : insAt 245 13 = some (.iload_n 3, 1, (0, 0, 0, 0), 0) := rfl
theorem s245_13 {c : Nat → List AV → SS → Option Out} {l0 l1 l2 : Option AV} {x : Int32} {L2 : List (Nat × AV)} {St : List AV} {S : SS} : ev c 245 13 [l0, l1, l2, some (aI x)] L2 St S = ev c 245 14 [l0, l1, l2, some (aI x)] L2 (aI x :: St) S := ev_go i245_13 rfl
theorem i245_14 : insAt 245 14 = some (.iastore, 1, (0, 0, 0, 0), 0) := rfl
theorem s245_14 {c : Nat → List AV → SS → Option Out} {l0 l1 l2 l3 : Option AV} {x i : Int32} {o : OId} {L2 : List (Nat × AV)} {St : List AV} {S : SS} : ev c 245 14 [l0, l1, l2, l3] L2 (aI x :: aI i :: aR o :: St) S = kIw o i (ev c 245 15 [l0, l1, l2, l3] L2 St (setI S.1 o i.toNatClampNeg x, S.2)) := ev_iastore i245_14
theorem i245_15 : insAt 245 15 = some (.return_, 1, (0, 0, 0, 0), 0) := rfl
theorem s245_15 {c : Nat → List AV → SS → Option Out} {l0 l1 l2 l3 : Option AV} {L2 : List (Nat × AV)} {St : List AV} {S : SS} : ev c 245 15 [l0, l1, l2, l3] L2 [] S = some (.inl none, S) := ev_end i245_15 rfl
theorem m245 {d : Nat} {o : OId} {a0 : Int32} {a1 : Int32} {a2 : Int32} {S : SS} : evm (d + 1) 245 [aR o, aI a0, aI a1, aI a2] S = ev (evm d) 245 0 [some (aR o), some (aI a0), some (aI a1), some (aI a2)] [] [] S := evm_s (n := 4) rfl (Nat.le_of_ble_eq_true rfl) rfl rfl
/-! FrequencyOfficeModel.moves(I)V -/
theorem i246_0 : insAt 246 0 = some (.aload_n 0, 1, (0, 0, 0, 0), 0) := rfl
theorem s246_0 {c : Nat → List AV → SS → Option Out} {l1 l2 : Option AV} {o : OId} {L2 : List (Nat × AV)} {St : List AV} {S : SS} : ev c 246 0 [some (aR o), l1, l2] L2 St S = ev c 246 1 [some (aR o), l1, l2] L2 (aR o :: St) S := ev_go i246_0 rfl
theorem i246_1 : insAt 246 1 = some (.getfield 7, 3, (12, 0, 0, 0), 0) := rfl
theorem s246_1 {c : Nat → List AV → SS → Option Out} {l0 l1 l2 : Option AV} {j t : Nat} {L2 : List (Nat × AV)} {St : List AV} {S : SS} : ev c 246 1 [l0, l1, l2] L2 (aR (12, j, t) :: St) S = ev c 246 4 [l0, l1, l2] L2 (S.2.2.1 (12, j, t) 0 :: St) S := ev_go i246_1 rfl
theorem i246_4 : insAt 246 4 = some (.bipush 8, 2, (0, 0, 0, 0), 0) := rfl
theorem s246_4 {c : Nat → List AV → SS → Option Out} {l0 l1 l2 : Option AV} {L2 : List (Nat × AV)} {St : List AV} {S : SS} : ev c 246 4 [l0, l1, l2] L2 St S = ev c 246 6 [l0, l1, l2] L2 (aI 8 :: St) S := ev_go i246_4 rfl
theorem i246_6 : insAt 246 6 = some (.iload_n 1, 1, (0, 0, 0, 0), 0) := rfl
theorem s246_6 {c : Nat → List AV → SS → Option Out} {l0 l2 : Option AV} {x : Int32} {L2 : List (Nat × AV)} {St : List AV} {S : SS} : ev c 246 6 [l0, some (aI x), l2] L2 St S = ev c 246 7 [l0, some (aI x), l2] L2 (aI x :: St) S := ev_go i246_6 rfl
theorem i246_7 : insAt 246 7 = some (.iastore, 1, (0, 0, 0, 0), 0) := rfl
theorem s246_7 {c : Nat → List AV → SS → Option Out} {l0 l1 l2 : Option AV} {x i : Int32} {o : OId} {L2 : List (Nat × AV)} {St : List AV} {S : SS} : ev c 246 7 [l0, l1, l2] L2 (aI x :: aI i :: aR o :: St) S = kIw o i (ev c 246 8 [l0, l1, l2] L2 St (setI S.1 o i.toNatClampNeg x, S.2)) := ev_iastore i246_7
theorem i246_8 : insAt 246 8 = some (.iconst 0, 1, (0, 0, 0, 0), 0) := rfl
theorem s246_8 {c : Nat → List AV → SS → Option Out} {l0 l1 l2 : Option AV} {L2 : List (Nat × AV)} {St : List AV} {S : SS} : ev c 246 8 [l0, l1, l2] L2 St S = ev c 246 9 [l0, l1, l2] L2 (aI 0 :: St) S := ev_go i246_8 rfl
theorem i246_9 : insAt 246 9 = some (.istore_n 2, 1, (0, 0, 0, 0), 0) := rfl
theorem s246_9 {c : Nat → List AV → SS → Option Out} {l0 l1 l2 : Option AV} {x : Int32} {L2 : List (Nat × AV)} {St : List AV} {S : SS} : ev c 246 9 [l0, l1, l2] L2 (aI x :: St) S = ev c 246 10 [l0, l1, some (aI x)] (kil L2 2) St S := ev_go i246_9 rfl
theorem i246_10 : insAt 246 10 = some (.iload_n 2, 1, (0, 0, 0, 0), 0) := rfl
theorem s246_10 {c : Nat → List AV → SS → Option Out} {l0 l1 : Option AV} {x : Int32} {L2 : List (Nat × AV)} {St : List AV} {S : SS} : ev c 246 10 [l0, l1, some (aI x)] L2 St S = ev c 246 11 [l0, l1, some (aI x)] L2 (aI x :: St) S := ev_go i246_10 rfl
theorem i246_11 : insAt 246 11 = some (.iload_n 1, 1, (0, 0, 0, 0), 0) := rfl
theorem s246_11 {c : Nat → List AV → SS → Option Out} {l0 l2 : Option AV} {x : Int32} {L2 : List (Nat × AV)} {St : List AV} {S : SS} : ev c 246 11 [l0, some (aI x), l2] L2 St S = ev c 246 12 [l0, some (aI x), l2] L2 (aI x :: St) S := ev_go i246_11 rfl
theorem i246_12 : insAt 246 12 = some (.if_icmp .ge 91, 3, (0, 0, 0, 0), 0) := rfl
theorem s246_12 {c : Nat → List AV → SS → Option Out} {l0 l1 l2 : Option AV} {x y : Int32} {L2 : List (Nat × AV)} {St : List AV} {S : SS} : ev c 246 12 [l0, l1, l2] L2 (aI y :: aI x :: St) S = if y ≤ x then ev c 246 103 [l0, l1, l2] L2 St S else ev c 246 15 [l0, l1, l2] L2 St S := ev_br i246_12 rfl
theorem i246_15 : insAt 246 15 = some (.aload_n 0, 1, (0, 0, 0, 0), 0) := rfl
theorem s246_15 {c : Nat → List AV → SS → Option Out} {l1 l2 : Option AV} {o : OId} {L2 : List (Nat × AV)} {St : List AV} {S : SS} : ev c 246 15 [some (aR o), l1, l2] L2 St S = ev c 246 16 [some (aR o), l1, l2] L2 (aR o :: St) S := ev_go i246_15 rfl
theorem i246_16 : insAt 246 16 = some (.getfield 7, 3, (12, 0, 0, 0), 0) := rfl
theorem s246_16 {c : Nat → List AV → SS → Option Out} {l0 l1 l2 : Option AV} {j t : Nat} {L2 : List (Nat × AV)} {St : List AV} {S : SS} : ev c 246 16 [l0, l1, l2] L2 (aR (12, j, t) :: St) S = ev c 246 19 [l0, l1, l2] L2 (S.2.2.1 (12, j, t) 0 :: St) S := ev_go i246_16 rfl
theorem i246_19 : insAt 246 19 = some (.bipush 9, 2, (0, 0, 0, 0), 0) := rfl
theorem s246_19 {c : Nat → List AV → SS → Option Out} {l0 l1 l2 : Option AV} {L2 : List (Nat × AV)} {St : List AV} {S : SS} : ev c 246 19 [l0, l1, l2] L2 St S = ev c 246 21 [l0, l1, l2] L2 (aI 9 :: St) S := ev_go i246_19 rfl
theorem i246_21 : insAt 246 21 = some (.iconst 3, 1, (0, 0, 0, 0), 0) := rfl
theorem s246_21 {c : Nat → List AV → SS → Option Out} {l0 l1 l2 : Option AV} {L2 : List (Nat × AV)} {St : List AV} {S : SS} : ev c 246 21 [l0, l1, l2] L2 St S = ev c 246 22 [l0, l1, l2] L2 (aI 3 :: St) S := ev_go i246_21 rfl
theorem i246_22 : insAt 246 22 = some (.iload_n 2, 1, (0, 0, 0, 0), 0) := rfl
theorem s246_22 {c : Nat → List AV → SS → Option Out} {l0 l1 : Option AV} {x : Int32} {L2 : List (Nat × AV)} {St : List AV} {S : SS} : ev c 246 22 [l0, l1, some (aI x)] L2 St S = ev c 246 23 [l0, l1, some (aI x)] L2 (aI x :: St) S := ev_go i246_22 rfl
theorem i246_23 : insAt 246 23 = some (.imul, 1, (0, 0, 0, 0), 0) := rfl
theorem s246_23 {c : Nat → List AV → SS → Option Out} {l0 l1 l2 : Option AV} {x y : Int32} {L2 : List (Nat × AV)} {St : List AV} {S : SS} : ev c 246 23 [l0, l1, l2] L2 (aI y :: aI x :: St) S = ev c 246 24 [l0, l1, l2] L2 (aI (x * y) :: St) S := ev_go i246_23 rfl
theorem i246_24 : insAt 246 24 = some (.iadd, 1, (0, 0, 0, 0), 0) := rfl
theorem s246_24 {c : Nat → List AV → SS → Option Out} {l0 l1 l2 : Option AV} {x y : Int32} {L2 : List (Nat × AV)} {St : List AV} {S : SS} : ev c 246 24 [l0, l1, l2] L2 (aI y :: aI x :: St) S = ev c 246 25 [l0, l1, l2] L2 (aI (x + y) :: St) S := ev_go i246_24 rfl
theorem i246_25 : insAt 246 25 = some (.aload_n 0, 1, (0, 0, 0, 0), 0) := rfl
theorem s246_25 {c : Nat → List AV → SS → Option Out} {l1 l2 : Option AV} {o : OId} {L2 : List (Nat × AV)} {St : List AV} {S : SS} : ev c 246 25 [some (aR o), l1, l2] L2 St S = ev c 246 26 [some (aR o), l1, l2] L2 (aR o :: St) S := ev_go i246_25 rfl
theorem i246_26 : insAt 246 26 = some (.aload_n 0, 1, (0, 0, 0, 0), 0) := rfl
theorem s246_26 {c : Nat → List AV → SS → Option Out} {l1 l2 : Option AV} {o : OId} {L2 : List (Nat × AV)} {St : List AV} {S : SS} : ev c 246 26 [some (aR o), l1, l2] L2 St S = ev c 246 27 [some (aR o), l1, l2] L2 (aR o :: St) S := ev_go i246_26 rfl
theorem i246_27 : insAt 246 27 = some (.getfield 22, 3, (12, 4, 0, 0), 0) := rfl
theorem s246_27 {c : Nat → List AV → SS → Option Out} {l0 l1 l2 : Option AV} {j t : Nat} {L2 : List (Nat × AV)} {St : List AV} {S : SS} : ev c 246 27 [l0, l1, l2] L2 (aR (12, j, t) :: St) S = ev c 246 30 [l0, l1, l2] L2 (S.2.2.1 (12, j, t) 4 :: St) S := ev_go i246_27 rfl
theorem i246_30 : insAt 246 30 = some (.iload_n 2, 1, (0, 0, 0, 0), 0) := rfl
theorem s246_30 {c : Nat → List AV → SS → Option Out} {l0 l1 : Option AV} {x : Int32} {L2 : List (Nat × AV)} {St : List AV} {S : SS} : ev c 246 30 [l0, l1, some (aI x)] L2 St S = ev c 246 31 [l0, l1, some (aI x)] L2 (aI x :: St) S := ev_go i246_30 rfl
theorem i246_31 : insAt 246 31 = some (.iaload, 1, (0, 0, 0, 0), 0) := rfl
theorem s246_31 {c : Nat → List AV → SS → Option Out} {l0 l1 l2 : Option AV} {i : Int32} {o : OId} {L2 : List (Nat × AV)} {St : List AV} {S : SS} : ev c 246 31 [l0, l1, l2] L2 (aI i :: aR o :: St) S = kI o i (ev c 246 32 [l0, l1, l2] L2 (aI (agI S o i.toNatClampNeg) :: St) S) := ev_iaload i246_31
theorem i246_32 : insAt 246 32 = some (.iconst 0, 1, (0, 0, 0, 0), 0) := rfl
theorem s246_32 {c : Nat → List AV → SS → Option Out} {l0 l1 l2 : Option AV} {L2 : List (Nat × AV)} {St : List AV} {S : SS} : ev c 246 32 [l0, l1, l2] L2 St S = ev c 246 33 [l0, l1, l2] L2 (aI 0 :: St) S := ev_go i246_32 rfl
theorem i246_33 : insAt 246 33 = some (.invokevirtual 75, 3, (234, 2, 2, 12), 0) := rfl
theorem s246_33 {c : Nat → List AV → SS → Option Out} {l0 l1 l2 : Option AV} {t0 t1 : AV} {a0 : Int32} {a1 : Int32} {j t : Nat} {L2 : List (Nat × AV)} {S : SS} : ev c 246 33 [l0, l1, l2] L2 [aI a1, aI a0, aR (12, j, t), t0, t1] S = ck (c 234 [aR (12, j, t), aI a0, aI a1] S) (fun v S' => ev c 246 36 [l0, l1, l2] L2 (v.toList ++ [t0, t1]) S') := ev_call i246_33 rfl
theorem i246_36 : insAt 246 36 = some (.iastore, 1, (0, 0, 0, 0), 0) := rfl
theorem s246_36 {c : Nat → List AV → SS → Option Out} {l0 l1 l2 : Option AV} {x i : Int32} {o : OId} {L2 : List (Nat × AV)} {St : List AV} {S : SS} : ev c 246 36 [l0, l1, l2] L2 (aI x :: aI i :: aR o :: St) S = kIw o i (ev c 246 37 [l0, l1, l2] L2 St (setI S.1 o i.toNatClampNeg x, S.2)) := ev_iastore i246_36
theorem i246_37 : insAt 246 37 = some (.aload_n 0, 1, (0, 0, 0, 0), 0) := rfl
theorem s246_37 {c : Nat → List AV → SS → Option Out} {l1 l2 : Option AV} {o : OId} {L2 : List (Nat × AV)} {St : List AV} {S : SS} : ev c 246 37 [some (aR o), l1, l2] L2 St S = ev c 246 38 [some (aR o), l1, l2] L2 (aR o :: St) S := ev_go i246_37 rfl
theorem i246_38 : insAt 246 38 = some (.getfield 7, 3, (12, 0, 0, 0), 0) := rfl
theorem s246_38 {c : Nat → List AV → SS → Option Out} {l0 l1 l2 : Option AV} {j t : Nat} {L2 : List (Nat × AV)} {St : List AV} {S : SS} : ev c 246 38 [l0, l1, l2] L2 (aR (12, j, t) :: St) S = ev c 246 41 [l0, l1, l2] L2 (S.2.2.1 (12, j, t) 0 :: St) S := ev_go i246_38 rfl
theorem i246_41 : insAt 246 41 = some (.bipush 9, 2, (0, 0, 0, 0), 0) := rfl
theorem s246_41 {c : Nat → List AV → SS → Option Out} {l0 l1 l2 : Option AV} {L2 : List (Nat × AV)} {St : List AV} {S : SS} : ev c 246 41 [l0, l1, l2] L2 St S = ev c 246 43 [l0, l1, l2] L2 (aI 9 :: St) S := ev_go i246_41 rfl
theorem i246_43 : insAt 246 43 = some (.iconst 3, 1, (0, 0, 0, 0), 0) := rfl
theorem s246_43 {c : Nat → List AV → SS → Option Out} {l0 l1 l2 : Option AV} {L2 : List (Nat × AV)} {St : List AV} {S : SS} : ev c 246 43 [l0, l1, l2] L2 St S = ev c 246 44 [l0, l1, l2] L2 (aI 3 :: St) S := ev_go i246_43 rfl
theorem i246_44 : insAt 246 44 = some (.iload_n 2, 1, (0, 0, 0, 0), 0) := rfl
theorem s246_44 {c : Nat → List AV → SS → Option Out} {l0 l1 : Option AV} {x : Int32} {L2 : List (Nat × AV)} {St : List AV} {S : SS} : ev c 246 44 [l0, l1, some (aI x)] L2 St S = ev c 246 45 [l0, l1, some (aI x)] L2 (aI x :: St) S := ev_go i246_44 rfl
theorem i246_45 : insAt 246 45 = some (.imul, 1, (0, 0, 0, 0), 0) := rfl
theorem s246_45 {c : Nat → List AV → SS → Option Out} {l0 l1 l2 : Option AV} {x y : Int32} {L2 : List (Nat × AV)} {St : List AV} {S : SS} : ev c 246 45 [l0, l1, l2] L2 (aI y :: aI x :: St) S = ev c 246 46 [l0, l1, l2] L2 (aI (x * y) :: St) S := ev_go i246_45 rfl
theorem i246_46 : insAt 246 46 = some (.iadd, 1, (0, 0, 0, 0), 0) := rfl
theorem s246_46 {c : Nat → List AV → SS → Option Out} {l0 l1 l2 : Option AV} {x y : Int32} {L2 : List (Nat × AV)} {St : List AV} {S : SS} : ev c 246 46 [l0, l1, l2] L2 (aI y :: aI x :: St) S = ev c 246 47 [l0, l1, l2] L2 (aI (x + y) :: St) S := ev_go i246_46 rfl
theorem i246_47 : insAt 246 47 = some (.iconst 1, 1, (0, 0, 0, 0), 0) := rfl
theorem s246_47 {c : Nat → List AV → SS → Option Out} {l0 l1 l2 : Option AV} {L2 : List (Nat × AV)} {St : List AV} {S : SS} : ev c 246 47 [l0, l1, l2] L2 St S = ev c 246 48 [l0, l1, l2] L2 (aI 1 :: St) S := ev_go i246_47 rfl
theorem i246_48 : insAt 246 48 = some (.iadd, 1, (0, 0, 0, 0), 0) := rfl
theorem s246_48 {c : Nat → List AV → SS → Option Out} {l0 l1 l2 : Option AV} {x y : Int32} {L2 : List (Nat × AV)} {St : List AV} {S : SS} : ev c 246 48 [l0, l1, l2] L2 (aI y :: aI x :: St) S = ev c 246 49 [l0, l1, l2] L2 (aI (x + y) :: St) S := ev_go i246_48 rfl
theorem i246_49 : insAt 246 49 = some (.aload_n 0, 1, (0, 0, 0, 0), 0) := rfl
theorem s246_49 {c : Nat → List AV → SS → Option Out} {l1 l2 : Option AV} {o : OId} {L2 : List (Nat × AV)} {St : List AV} {S : SS} : ev c 246 49 [some (aR o), l1, l2] L2 St S = ev c 246 50 [some (aR o), l1, l2] L2 (aR o :: St) S := ev_go i246_49 rfl
theorem i246_50 : insAt 246 50 = some (.aload_n 0, 1, (0, 0, 0, 0), 0) := rfl
theorem s246_50 {c : Nat → List AV → SS → Option Out} {l1 l2 : Option AV} {o : OId} {L2 : List (Nat × AV)} {St : List AV} {S : SS} : ev c 246 50 [some (aR o), l1, l2] L2 St S = ev c 246 51 [some (aR o), l1, l2] L2 (aR o :: St) S := ev_go i246_50 rfl
theorem i246_51 : insAt 246 51 = some (.getfield 22, 3, (12, 4, 0, 0), 0) := rfl
theorem s246_51 {c : Nat → List AV → SS → Option Out} {l0 l1 l2 : Option AV} {j t : Nat} {L2 : List (Nat × AV)} {St : List AV} {S : SS} : ev c 246 51 [l0, l1, l2] L2 (aR (12, j, t) :: St) S = ev c 246 54 [l0, l1, l2] L2 (S.2.2.1 (12, j, t) 4 :: St) S := ev_go i246_51 rfl
theorem i246_54 : insAt 246 54 = some (.iload_n 2, 1, (0, 0, 0, 0), 0) := rfl
theorem s246_54 {c : Nat → List AV → SS → Option Out} {l0 l1 : Option AV} {x : Int32} {L2 : List (Nat × AV)} {St : List AV} {S : SS} : ev c 246 54 [l0, l1, some (aI x)] L2 St S = ev c 246 55 [l0, l1, some (aI x)] L2 (aI x :: St) S := ev_go i246_54 rfl
theorem i246_55 : insAt 246 55 = some (.iaload, 1, (0, 0, 0, 0), 0) := rfl
theorem s246_55 {c : Nat → List AV → SS → Option Out} {l0 l1 l2 : Option AV} {i : Int32} {o : OId} {L2 : List (Nat × AV)} {St : List AV} {S : SS} : ev c 246 55 [l0, l1, l2] L2 (aI i :: aR o :: St) S = kI o i (ev c 246 56 [l0, l1, l2] L2 (aI (agI S o i.toNatClampNeg) :: St) S) := ev_iaload i246_55
theorem i246_56 : insAt 246 56 = some (.iconst 3, 1, (0, 0, 0, 0), 0) := rfl
theorem s246_56 {c : Nat → List AV → SS → Option Out} {l0 l1 l2 : Option AV} {L2 : List (Nat × AV)} {St : List AV} {S : SS} : ev c 246 56 [l0, l1, l2] L2 St S = ev c 246 57 [l0, l1, l2] L2 (aI 3 :: St) S := ev_go i246_56 rfl
theorem i246_57 : insAt 246 57 = some (.invokevirtual 75, 3, (234, 2, 2, 12), 0) := rfl
theorem s246_57 {c : Nat → List AV → SS → Option Out} {l0 l1 l2 : Option AV} {t0 t1 : AV} {a0 : Int32} {a1 : Int32} {j t : Nat} {L2 : List (Nat × AV)} {S : SS} : ev c 246 57 [l0, l1, l2] L2 [aI a1, aI a0, aR (12, j, t), t0, t1] S = ck (c 234 [aR (12, j, t), aI a0, aI a1] S) (fun v S' => ev c 246 60 [l0, l1, l2] L2 (v.toList ++ [t0, t1]) S') := ev_call i246_57 rfl
theorem i246_60 : insAt 246 60 = some (.iastore, 1, (0, 0, 0, 0), 0) := rfl
theorem s246_60 {c : Nat → List AV → SS → Option Out} {l0 l1 l2 : Option AV} {x i : Int32} {o : OId} {L2 : List (Nat × AV)} {St : List AV} {S : SS} : ev c 246 60 [l0, l1, l2] L2 (aI x :: aI i :: aR o :: St) S = kIw o i (ev c 246 61 [l0, l1, l2] L2 St (setI S.1 o i.toNatClampNeg x, S.2)) := ev_iastore i246_60
theorem i246_61 : insAt 246 61 = some (.aload_n 0, 1, (0, 0, 0, 0), 0) := rfl
theorem s246_61 {c : Nat → List AV → SS → Option Out} {l1 l2 : Option AV} {o : OId} {L2 : List (Nat × AV)} {St : List AV} {S : SS} : ev c 246 61 [some (aR o), l1, l2] L2 St S = ev c 246 62 [some (aR o), l1, l2] L2 (aR o :: St) S := ev_go i246_61 rfl
theorem i246_62 : insAt 246 62 = some (.getfield 7, 3, (12, 0, 0, 0), 0) := rfl
theorem s246_62 {c : Nat → List AV → SS → Option Out} {l0 l1 l2 : Option AV} {j t : Nat} {L2 : List (Nat × AV)} {St : List AV} {S : SS} : ev c 246 62 [l0, l1, l2] L2 (aR (12, j, t) :: St) S = ev c 246 65 [l0, l1, l2] L2 (S.2.2.1 (12, j, t) 0 :: St) S := ev_go i246_62 rfl
theorem i246_65 : insAt 246 65 = some (.bipush 9, 2, (0, 0, 0, 0), 0) := rfl
theorem s246_65 {c : Nat → List AV → SS → Option Out} {l0 l1 l2 : Option AV} {L2 : List (Nat × AV)} {St : List AV} {S : SS} : ev c 246 65 [l0, l1, l2] L2 St S = ev c 246 67 [l0, l1, l2] L2 (aI 9 :: St) S := ev_go i246_65 rfl
theorem i246_67 : insAt 246 67 = some (.iconst 3, 1, (0, 0, 0, 0), 0) := rfl
theorem s246_67 {c : Nat → List AV → SS → Option Out} {l0 l1 l2 : Option AV} {L2 : List (Nat × AV)} {St : List AV} {S : SS} : ev c 246 67 [l0, l1, l2] L2 St S = ev c 246 68 [l0, l1, l2] L2 (aI 3 :: St) S := ev_go i246_67 rfl
theorem i246_68 : insAt 246 68 = some (.iload_n 2, 1, (0, 0, 0, 0), 0) := rfl
theorem s246_68 {c : Nat → List AV → SS → Option Out} {l0 l1 : Option AV} {x : Int32} {L2 : List (Nat × AV)} {St : List AV} {S : SS} : ev c 246 68 [l0, l1, some (aI x)] L2 St S = ev c 246 69 [l0, l1, some (aI x)] L2 (aI x :: St) S := ev_go i246_68 rfl
theorem i246_69 : insAt 246 69 = some (.imul, 1, (0, 0, 0, 0), 0) := rfl
theorem s246_69 {c : Nat → List AV → SS → Option Out} {l0 l1 l2 : Option AV} {x y : Int32} {L2 : List (Nat × AV)} {St : List AV} {S : SS} : ev c 246 69 [l0, l1, l2] L2 (aI y :: aI x :: St) S = ev c 246 70 [l0, l1, l2] L2 (aI (x * y) :: St) S := ev_go i246_69 rfl
theorem i246_70 : insAt 246 70 = some (.iadd, 1, (0, 0, 0, 0), 0) := rfl
theorem s246_70 {c : Nat → List AV → SS → Option Out} {l0 l1 l2 : Option AV} {x y : Int32} {L2 : List (Nat × AV)} {St : List AV} {S : SS} : ev c 246 70 [l0, l1, l2] L2 (aI y :: aI x :: St) S = ev c 246 71 [l0, l1, l2] L2 (aI (x + y) :: St) S := ev_go i246_70 rfl
theorem i246_71 : insAt 246 71 = some (.iconst 2, 1, (0, 0, 0, 0), 0) := rfl
theorem s246_71 {c : Nat → List AV → SS → Option Out} {l0 l1 l2 : Option AV} {L2 : List (Nat × AV)} {St : List AV} {S : SS} : ev c 246 71 [l0, l1, l2] L2 St S = ev c 246 72 [l0, l1, l2] L2 (aI 2 :: St) S := ev_go i246_71 rfl
theorem i246_72 : insAt 246 72 = some (.iadd, 1, (0, 0, 0, 0), 0) := rfl
theorem s246_72 {c : Nat → List AV → SS → Option Out} {l0 l1 l2 : Option AV} {x y : Int32} {L2 : List (Nat × AV)} {St : List AV} {S : SS} : ev c 246 72 [l0, l1, l2] L2 (aI y :: aI x :: St) S = ev c 246 73 [l0, l1, l2] L2 (aI (x + y) :: St) S := ev_go i246_72 rfl
theorem i246_73 : insAt 246 73 = some (.aload_n 0, 1, (0, 0, 0, 0), 0) := rfl
theorem s246_73 {c : Nat → List AV → SS → Option Out} {l1 l2 : Option AV} {o : OId} {L2 : List (Nat × AV)} {St : List AV} {S : SS} : ev c 246 73 [some (aR o), l1, l2] L2 St S = ev c 246 74 [some (aR o), l1, l2] L2 (aR o :: St) S := ev_go i246_73 rfl
theorem i246_74 : insAt 246 74 = some (.getfield 25, 3, (12, 5, 0, 0), 0) := rfl
theorem s246_74 {c : Nat → List AV → SS → Option Out} {l0 l1 l2 : Option AV} {j t : Nat} {L2 : List (Nat × AV)} {St : List AV} {S : SS} : ev c 246 74 [l0, l1, l2] L2 (aR (12, j, t) :: St) S = ev c 246 77 [l0, l1, l2] L2 (S.2.2.1 (12, j, t) 5 :: St) S := ev_go i246_74 rfl
theorem i246_77 : insAt 246 77 = some (.iload_n 2, 1, (0, 0, 0, 0), 0) := rfl
theorem s246_77 {c : Nat → List AV → SS → Option Out} {l0 l1 : Option AV} {x : Int32} {L2 : List (Nat × AV)} {St : List AV} {S : SS} : ev c 246 77 [l0, l1, some (aI x)] L2 St S = ev c 246 78 [l0, l1, some (aI x)] L2 (aI x :: St) S := ev_go i246_77 rfl
theorem i246_78 : insAt 246 78 = some (.iaload, 1, (0, 0, 0, 0), 0) := rfl
theorem s246_78 {c : Nat → List AV → SS → Option Out} {l0 l1 l2 : Option AV} {i : Int32} {o : OId} {L2 : List (Nat × AV)} {St : List AV} {S : SS} : ev c 246 78 [l0, l1, l2] L2 (aI i :: aR o :: St) S = kI o i (ev c 246 79 [l0, l1, l2] L2 (aI (agI S o i.toNatClampNeg) :: St) S) := ev_iaload i246_78
theorem i246_79 : insAt 246 79 = some (.iastore, 1, (0, 0, 0, 0), 0) := rfl
theorem s246_79 {c : Nat → List AV → SS → Option Out} {l0 l1 l2 : Option AV} {x i : Int32} {o : OId} {L2 : List (Nat × AV)} {St : List AV} {S : SS} : ev c 246 79 [l0, l1, l2] L2 (aI x :: aI i :: aR o :: St) S = kIw o i (ev c 246 80 [l0, l1, l2] L2 St (setI S.1 o i.toNatClampNeg x, S.2)) := ev_iastore i246_79
theorem i246_80 : insAt 246 80 = some (.aload_n 0, 1, (0, 0, 0, 0), 0) := rfl
theorem s246_80 {c : Nat → List AV → SS → Option Out} {l1 l2 : Option AV} {o : OId} {L2 : List (Nat × AV)} {St : List AV} {S : SS} : ev c 246 80 [some (aR o), l1, l2] L2 St S = ev c 246 81 [some (aR o), l1, l2] L2 (aR o :: St) S := ev_go i246_80 rfl
theorem i246_81 : insAt 246 81 = some (.aload_n 0, 1, (0, 0, 0, 0), 0) := rfl
theorem s246_81 {c : Nat → List AV → SS → Option Out} {l1 l2 : Option AV} {o : OId} {L2 : List (Nat × AV)} {St : List AV} {S : SS} : ev c 246 81 [some (aR o), l1, l2] L2 St S = ev c 246 82 [some (aR o), l1, l2] L2 (aR o :: St) S := ev_go i246_81 rfl
theorem i246_82 : insAt 246 82 = some (.getfield 22, 3, (12, 4, 0, 0), 0) := rfl
theorem s246_82 {c : Nat → List AV → SS → Option Out} {l0 l1 l2 : Option AV} {j t : Nat} {L2 : List (Nat × AV)} {St : List AV} {S : SS} : ev c 246 82 [l0, l1, l2] L2 (aR (12, j, t) :: St) S = ev c 246 85 [l0, l1, l2] L2 (S.2.2.1 (12, j, t) 4 :: St) S := ev_go i246_82 rfl
theorem i246_85 : insAt 246 85 = some (.iload_n 2, 1, (0, 0, 0, 0), 0) := rfl
theorem s246_85 {c : Nat → List AV → SS → Option Out} {l0 l1 : Option AV} {x : Int32} {L2 : List (Nat × AV)} {St : List AV} {S : SS} : ev c 246 85 [l0, l1, some (aI x)] L2 St S = ev c 246 86 [l0, l1, some (aI x)] L2 (aI x :: St) S := ev_go i246_85 rfl
theorem i246_86 : insAt 246 86 = some (.iaload, 1, (0, 0, 0, 0), 0) := rfl
theorem s246_86 {c : Nat → List AV → SS → Option Out} {l0 l1 l2 : Option AV} {i : Int32} {o : OId} {L2 : List (Nat × AV)} {St : List AV} {S : SS} : ev c 246 86 [l0, l1, l2] L2 (aI i :: aR o :: St) S = kI o i (ev c 246 87 [l0, l1, l2] L2 (aI (agI S o i.toNatClampNeg) :: St) S) := ev_iaload i246_86
theorem i246_87 : insAt 246 87 = some (.iconst 3, 1, (0, 0, 0, 0), 0) := rfl
theorem s246_87 {c : Nat → List AV → SS → Option Out} {l0 l1 l2 : Option AV} {L2 : List (Nat × AV)} {St : List AV} {S : SS} : ev c 246 87 [l0, l1, l2] L2 St S = ev c 246 88 [l0, l1, l2] L2 (aI 3 :: St) S := ev_go i246_87 rfl
theorem i246_88 : insAt 246 88 = some (.aload_n 0, 1, (0, 0, 0, 0), 0) := rfl
theorem s246_88 {c : Nat → List AV → SS → Option Out} {l1 l2 : Option AV} {o : OId} {L2 : List (Nat × AV)} {St : List AV} {S : SS} : ev c 246 88 [some (aR o), l1, l2] L2 St S = ev c 246 89 [some (aR o), l1, l2] L2 (aR o :: St) S := ev_go i246_88 rfl
theorem i246_89 : insAt 246 89 = some (.getfield 25, 3, (12, 5, 0, 0), 0) := rfl
theorem s246_89 {c : Nat → List AV → SS → Option Out} {l0 l1 l2 : Option AV} {j t : Nat} {L2 : List (Nat × AV)} {St : List AV} {S : SS} : ev c 246 89 [l0, l1, l2] L2 (aR (12, j, t) :: St) S = ev c 246 92 [l0, l1, l2] L2 (S.2.2.1 (12, j, t) 5 :: St) S := ev_go i246_89 rfl
theorem i246_92 : insAt 246 92 = some (.iload_n 2, 1, (0, 0, 0, 0), 0) := rfl
theorem s246_92 {c : Nat → List AV → SS → Option Out} {l0 l1 : Option AV} {x : Int32} {L2 : List (Nat × AV)} {St : List AV} {S : SS} : ev c 246 92 [l0, l1, some (aI x)] L2 St S = ev c 246 93 [l0, l1, some (aI x)] L2 (aI x :: St) S := ev_go i246_92 rfl
theorem i246_93 : insAt 246 93 = some (.iaload, 1, (0, 0, 0, 0), 0) := rfl
theorem s246_93 {c : Nat → List AV → SS → Option Out} {l0 l1 l2 : Option AV} {i : Int32} {o : OId} {L2 : List (Nat × AV)} {St : List AV} {S : SS} : ev c 246 93 [l0, l1, l2] L2 (aI i :: aR o :: St) S = kI o i (ev c 246 94 [l0, l1, l2] L2 (aI (agI S o i.toNatClampNeg) :: St) S) := ev_iaload i246_93
theorem i246_94 : insAt 246 94 = some (.invokevirtual 79, 3, (245, 3, 2, 12), 0) := rfl
theorem s246_94 {c : Nat → List AV → SS → Option Out} {l0 l1 l2 : Option AV} {a0 : Int32} {a1 : Int32} {a2 : Int32} {j t : Nat} {L2 : List (Nat × AV)} {S : SS} : ev c 246 94 [l0, l1, l2] L2 [aI a2, aI a1, aI a0, aR (12, j, t)] S = ck (c 245 [aR (12, j, t), aI a0, aI a1, aI a2] S) (fun v S' => ev c 246 97 [l0, l1, l2] L2 (v.toList ++ []) S') := ev_call i246_94 rfl
theorem i246_97 : insAt 246 97 = some (.iinc 2 1, 3, (0, 0, 0, 0), 0) := rfl
theorem s246_97 {c : Nat → List AV → SS → Option Out} {l0 l1 : Option AV} {x : Int32} {L2 : List (Nat × AV)} {St : List AV} {S : SS} : ev c 246 97 [l0, l1, some (aI x)] L2 St S = ev c 246 100 [l0, l1, some (aI (x + 1))] (kil L2 2) St S := ev_go i246_97 rfl
theorem i246_100 : insAt 246 100 = some (.goto (-90), 3, (0, 0, 0, 0), 0) := rfl
theorem s246_100 {c : Nat → List AV → SS → Option Out} {l0 l1 l2 : Option AV} {L2 : List (Nat × AV)} {St : List AV} {S : SS} : ev c 246 100 [l0, l1, l2] L2 St S = ev c 246 10 [l0, l1, l2] L2 St S := ev_go i246_100 rfl
theorem i246_103 : insAt 246 103 = some (.return_, 1, (0, 0, 0, 0), 0) := rfl
theorem s246_103 {c : Nat → List AV → SS → Option Out} {l0 l1 l2 : Option AV} {L2 : List (Nat × AV)} {St : List AV} {S : SS} : ev c 246 103 [l0, l1, l2] L2 [] S = some (.inl none, S) := ev_end i246_103 rfl
theorem m246 {d : Nat} {o : OId} {a0 : Int32} {S : SS} : evm (d + 1) 246 [aR o, aI a0] S = ev (evm d) 246 0 [some (aR o), some (aI a0), none] [] [] S := evm_s (n := 3) rfl (Nat.le_of_ble_eq_true rfl) rfl rfl
/-! FrequencyOfficeModel.adds(IIIII)I -/
theorem i247_0 : insAt 247 0 = some (.aload_n 0, 1, (0, 0, 0, 0), 0) := rfl
theorem s247_0 {c : Nat → List AV → SS → Option Out} {l1 l2 l3 l4 l5 l6 l7 : Option AV} {o : OId} {L2 : List (Nat × AV)} {St : List AV} {S : SS} : ev c 247 0 [some (aR o), l1, l2, l3, l4, l5, l6, l7] L2 St S = ev c 247 1 [some (aR o), l1, l2, l3, l4, l5, l6, l7] L2 (aR o :: St) S := ev_go i247_0 rfl
theorem i247_1 : insAt 247 1 = some (.getfield 7, 3, (12, 0, 0, 0), 0) := rfl
theorem s247_1 {c : Nat → List AV → SS → Option Out} {l0 l1 l2 l3 l4 l5 l6 l7 : Option AV} {j t : Nat} {L2 : List (Nat × AV)} {St : List AV} {S : SS} : ev c 247 1 [l0, l1, l2, l3, l4, l5, l6, l7] L2 (aR (12, j, t) :: St) S = ev c 247 4 [l0, l1, l2, l3, l4, l5, l6, l7] L2 (S.2.2.1 (12, j, t) 0 :: St) S := ev_go i247_1 rfl
theorem i247_4 : insAt 247 4 = some (.bipush 7, 2, (0, 0, 0, 0), 0) := rfl
theorem s247_4 {c : Nat → List AV → SS → Option Out} {l0 l1 l2 l3 l4 l5 l6 l7 : Option AV} {L2 : List (Nat × AV)} {St : List AV} {S : SS} : ev c 247 4 [l0, l1, l2, l3, l4, l5, l6, l7] L2 St S = ev c 247 6 [l0, l1, l2, l3, l4, l5, l6, l7] L2 (aI 7 :: St) S := ev_go i247_4 rfl
theorem i247_6 : insAt 247 6 = some (.iaload, 1, (0, 0, 0, 0), 0) := rfl
theorem s247_6 {c : Nat → List AV → SS → Option Out} {l0 l1 l2 l3 l4 l5 l6 l7 : Option AV} {i : Int32} {o : OId} {L2 : List (Nat × AV)} {St : List AV} {S : SS} : ev c 247 6 [l0, l1, l2, l3, l4, l5, l6, l7] L2 (aI i :: aR o :: St) S = kI o i (ev c 247 7 [l0, l1, l2, l3, l4, l5, l6, l7] L2 (aI (agI S o i.toNatClampNeg) :: St) S) := ev_iaload i247_6
theorem i247_7 : insAt 247 7 = some (.istore 6, 2, (0, 0, 0, 0), 0) := rfl
theorem s247_7 {c : Nat → List AV → SS → Option Out} {l0 l1 l2 l3 l4 l5 l6 l7 : Option AV} {x : Int32} {L2 : List (Nat × AV)} {St : List AV} {S : SS} : ev c 247 7 [l0, l1, l2, l3, l4, l5, l6, l7] L2 (aI x :: St) S = ev c 247 9 [l0, l1, l2, l3, l4, l5, some (aI x), l7] (kil L2 6) St S := ev_go i247_7 rfl
theorem i247_9 : insAt 247 9 = some (.aload_n 0, 1, (0, 0, 0, 0), 0) := rfl
theorem s247_9 {c : Nat → List AV → SS → Option Out} {l1 l2 l3 l4 l5 l6 l7 : Option AV} {o : OId} {L2 : List (Nat × AV)} {St : List AV} {S : SS} : ev c 247 9 [some (aR o), l1, l2, l3, l4, l5, l6, l7] L2 St S = ev c 247 10 [some (aR o), l1, l2, l3, l4, l5, l6, l7] L2 (aR o :: St) S := ev_go i247_9 rfl
theorem i247_10 : insAt 247 10 = some (.iload 6, 2, (0, 0, 0, 0), 0) := rfl
theorem s247_10 {c : Nat → List AV → SS → Option Out} {l0 l1 l2 l3 l4 l5 l7 : Option AV} {x : Int32} {L2 : List (Nat × AV)} {St : List AV} {S : SS} : ev c 247 10 [l0, l1, l2, l3, l4, l5, some (aI x), l7] L2 St S = ev c 247 12 [l0, l1, l2, l3, l4, l5, some (aI x), l7] L2 (aI x :: St) S := ev_go i247_10 rfl
theorem i247_12 : insAt 247 12 = some (.iconst 0, 1, (0, 0, 0, 0), 0) := rfl
theorem s247_12 {c : Nat → List AV → SS → Option Out} {l0 l1 l2 l3 l4 l5 l6 l7 : Option AV} {L2 : List (Nat × AV)} {St : List AV} {S : SS} : ev c 247 12 [l0, l1, l2, l3, l4, l5, l6, l7] L2 St S = ev c 247 13 [l0, l1, l2, l3, l4, l5, l6, l7] L2 (aI 0 :: St) S := ev_go i247_12 rfl
theorem i247_13 : insAt 247 13 = some (.aload_n 0, 1, (0, 0, 0, 0), 0) := rfl
theorem s247_13 {c : Nat → List AV → SS → Option Out} {l1 l2 l3 l4 l5 l6 l7 : Option AV} {o : OId} {L2 : List (Nat × AV)} {St : List AV} {S : SS} : ev c 247 13 [some (aR o), l1, l2, l3, l4, l5, l6, l7] L2 St S = ev c 247 14 [some (aR o), l1, l2, l3, l4, l5, l6, l7] L2 (aR o :: St) S := ev_go i247_13 rfl
theorem i247_14 : insAt 247 14 = some (.getfield 7, 3, (12, 0, 0, 0), 0) := rfl
theorem s247_14 {c : Nat → List AV → SS → Option Out} {l0 l1 l2 l3 l4 l5 l6 l7 : Option AV} {j t : Nat} {L2 : List (Nat × AV)} {St : List AV} {S : SS} : ev c 247 14 [l0, l1, l2, l3, l4, l5, l6, l7] L2 (aR (12, j, t) :: St) S = ev c 247 17 [l0, l1, l2, l3, l4, l5, l6, l7] L2 (S.2.2.1 (12, j, t) 0 :: St) S := ev_go i247_14 rfl
theorem i247_17 : insAt 247 17 = some (.iconst 4, 1, (0, 0, 0, 0), 0) := rfl
theorem s247_17 {c : Nat → List AV → SS → Option Out} {l0 l1 l2 l3 l4 l5 l6 l7 : Option AV} {L2 : List (Nat × AV)} {St : List AV} {S : SS} : ev c 247 17 [l0, l1, l2, l3, l4, l5, l6, l7] L2 St S = ev c 247 18 [l0, l1, l2, l3, l4, l5, l6, l7] L2 (aI 4 :: St) S := ev_go i247_17 rfl
theorem i247_18 : insAt 247 18 = some (.iaload, 1, (0, 0, 0, 0), 0) := rfl
theorem s247_18 {c : Nat → List AV → SS → Option Out} {l0 l1 l2 l3 l4 l5 l6 l7 : Option AV} {i : Int32} {o : OId} {L2 : List (Nat × AV)} {St : List AV} {S : SS} : ev c 247 18 [l0, l1, l2, l3, l4, l5, l6, l7] L2 (aI i :: aR o :: St) S = kI o i (ev c 247 19 [l0, l1, l2, l3, l4, l5, l6, l7] L2 (aI (agI S o i.toNatClampNeg) :: St) S) := ev_iaload i247_18
theorem i247_19 : insAt 247 19 = some (.invokevirtual 79, 3, (245, 3, 2, 12), 0) := rfl
theorem s247_19 {c : Nat → List AV → SS → Option Out} {l0 l1 l2 l3 l4 l5 l6 l7 : Option AV} {a0 : Int32} {a1 : Int32} {a2 : Int32} {j t : Nat} {L2 : List (Nat × AV)} {S : SS} : ev c 247 19 [l0, l1, l2, l3, l4, l5, l6, l7] L2 [aI a2, aI a1, aI a0, aR (12, j, t)] S = ck (c 245 [aR (12, j, t), aI a0, aI a1, aI a2] S) (fun v S' => ev c 247 22 [l0, l1, l2, l3, l4, l5, l6, l7] L2 (v.toList ++ []) S') := ev_call i247_19 rfl
theorem i247_22 : insAt 247 22 = some (.aload_n 0, 1, (0, 0, 0, 0), 0) := rfl
theorem s247_22 {c : Nat → List AV → SS → Option Out} {l1 l2 l3 l4 l5 l6 l7 : Option AV} {o : OId} {L2 : List (Nat × AV)} {St : List AV} {S : SS} : ev c 247 22 [some (aR o), l1, l2, l3, l4, l5, l6, l7] L2 St S = ev c 247 23 [some (aR o), l1, l2, l3, l4, l5, l6, l7] L2 (aR o :: St) S := ev_go i247_22 rfl
theorem i247_23 : insAt 247 23 = some (.iload 6, 2, (0, 0, 0, 0), 0) := rfl
theorem s247_23 {c : Nat → List AV → SS → Option Out} {l0 l1 l2 l3 l4 l5 l7 : Option AV} {x : Int32} {L2 : List (Nat × AV)} {St : List AV} {S : SS} : ev c 247 23 [l0, l1, l2, l3, l4, l5, some (aI x), l7] L2 St S = ev c 247 25 [l0, l1, l2, l3, l4, l5, some (aI x), l7] L2 (aI x :: St) S := ev_go i247_23 rfl
theorem i247_25 : insAt 247 25 = some (.iconst 1, 1, (0, 0, 0, 0), 0) := rfl
theorem s247_25 {c : Nat → List AV → SS → Option Out} {l0 l1 l2 l3 l4 l5 l6 l7 : Option AV} {L2 : List (Nat × AV)} {St : List AV} {S : SS} : ev c 247 25 [l0, l1, l2, l3, l4, l5, l6, l7] L2 St S = ev c 247 26 [l0, l1, l2, l3, l4, l5, l6, l7] L2 (aI 1 :: St) S := ev_go i247_25 rfl
theorem i247_26 : insAt 247 26 = some (.iload_n 1, 1, (0, 0, 0, 0), 0) := rfl
theorem s247_26 {c : Nat → List AV → SS → Option Out} {l0 l2 l3 l4 l5 l6 l7 : Option AV} {x : Int32} {L2 : List (Nat × AV)} {St : List AV} {S : SS} : ev c 247 26 [l0, some (aI x), l2, l3, l4, l5, l6, l7] L2 St S = ev c 247 27 [l0, some (aI x), l2, l3, l4, l5, l6, l7] L2 (aI x :: St) S := ev_go i247_26 rfl
theorem i247_27 : insAt 247 27 = some (.invokevirtual 79, 3, (245, 3, 2, 12), 0) := rfl
theorem s247_27 {c : Nat → List AV → SS → Option Out} {l0 l1 l2 l3 l4 l5 l6 l7 : Option AV} {a0 : Int32} {a1 : Int32} {a2 : Int32} {j t : Nat} {L2 : List (Nat × AV)} {S : SS} : ev c 247 27 [l0, l1, l2, l3, l4, l5, l6, l7] L2 [aI a2, aI a1, aI a0, aR (12, j, t)] S = ck (c 245 [aR (12, j, t), aI a0, aI a1, aI a2] S) (fun v S' => ev c 247 30 [l0, l1, l2, l3, l4, l5, l6, l7] L2 (v.toList ++ []) S') := ev_call i247_27 rfl
theorem i247_30 : insAt 247 30 = some (.aload_n 0, 1, (0, 0, 0, 0), 0) := rfl
theorem s247_30 {c : Nat → List AV → SS → Option Out} {l1 l2 l3 l4 l5 l6 l7 : Option AV} {o : OId} {L2 : List (Nat × AV)} {St : List AV} {S : SS} : ev c 247 30 [some (aR o), l1, l2, l3, l4, l5, l6, l7] L2 St S = ev c 247 31 [some (aR o), l1, l2, l3, l4, l5, l6, l7] L2 (aR o :: St) S := ev_go i247_30 rfl
theorem i247_31 : insAt 247 31 = some (.iload 6, 2, (0, 0, 0, 0), 0) := rfl
theorem s247_31 {c : Nat → List AV → SS → Option Out} {l0 l1 l2 l3 l4 l5 l7 : Option AV} {x : Int32} {L2 : List (Nat × AV)} {St : List AV} {S : SS} : ev c 247 31 [l0, l1, l2, l3, l4, l5, some (aI x), l7] L2 St S = ev c 247 33 [l0, l1, l2, l3, l4, l5, some (aI x), l7] L2 (aI x :: St) S := ev_go i247_31 rfl
theorem i247_33 : insAt 247 33 = some (.iconst 2, 1, (0, 0, 0, 0), 0) := rfl
theorem s247_33 {c : Nat → List AV → SS → Option Out} {l0 l1 l2 l3 l4 l5 l6 l7 : Option AV} {L2 : List (Nat × AV)} {St : List AV} {S : SS} : ev c 247 33 [l0, l1, l2, l3, l4, l5, l6, l7] L2 St S = ev c 247 34 [l0, l1, l2, l3, l4, l5, l6, l7] L2 (aI 2 :: St) S := ev_go i247_33 rfl
theorem i247_34 : insAt 247 34 = some (.iload_n 2, 1, (0, 0, 0, 0), 0) := rfl
theorem s247_34 {c : Nat → List AV → SS → Option Out} {l0 l1 l3 l4 l5 l6 l7 : Option AV} {x : Int32} {L2 : List (Nat × AV)} {St : List AV} {S : SS} : ev c 247 34 [l0, l1, some (aI x), l3, l4, l5, l6, l7] L2 St S = ev c 247 35 [l0, l1, some (aI x), l3, l4, l5, l6, l7] L2 (aI x :: St) S := ev_go i247_34 rfl
theorem i247_35 : insAt 247 35 = some (.invokevirtual 79, 3, (245, 3, 2, 12), 0) := rfl
theorem s247_35 {c : Nat → List AV → SS → Option Out} {l0 l1 l2 l3 l4 l5 l6 l7 : Option AV} {a0 : Int32} {a1 : Int32} {a2 : Int32} {j t : Nat} {L2 : List (Nat × AV)} {S : SS} : ev c 247 35 [l0, l1, l2, l3, l4, l5, l6, l7] L2 [aI a2, aI a1, aI a0, aR (12, j, t)] S = ck (c 245 [aR (12, j, t), aI a0, aI a1, aI a2] S) (fun v S' => ev c 247 38 [l0, l1, l2, l3, l4, l5, l6, l7] L2 (v.toList ++ []) S') := ev_call i247_35 rfl
theorem i247_38 : insAt 247 38 = some (.aload_n 0, 1, (0, 0, 0, 0), 0) := rfl
theorem s247_38 {c : Nat → List AV → SS → Option Out} {l1 l2 l3 l4 l5 l6 l7 : Option AV} {o : OId} {L2 : List (Nat × AV)} {St : List AV} {S : SS} : ev c 247 38 [some (aR o), l1, l2, l3, l4, l5, l6, l7] L2 St S = ev c 247 39 [some (aR o), l1, l2, l3, l4, l5, l6, l7] L2 (aR o :: St) S := ev_go i247_38 rfl
theorem i247_39 : insAt 247 39 = some (.iload 6, 2, (0, 0, 0, 0), 0) := rfl
theorem s247_39 {c : Nat → List AV → SS → Option Out} {l0 l1 l2 l3 l4 l5 l7 : Option AV} {x : Int32} {L2 : List (Nat × AV)} {St : List AV} {S : SS} : ev c 247 39 [l0, l1, l2, l3, l4, l5, some (aI x), l7] L2 St S = ev c 247 41 [l0, l1, l2, l3, l4, l5, some (aI x), l7] L2 (aI x :: St) S := ev_go i247_39 rfl
theorem i247_41 : insAt 247 41 = some (.iconst 3, 1, (0, 0, 0, 0), 0) := rfl
theorem s247_41 {c : Nat → List AV → SS → Option Out} {l0 l1 l2 l3 l4 l5 l6 l7 : Option AV} {L2 : List (Nat × AV)} {St : List AV} {S : SS} : ev c 247 41 [l0, l1, l2, l3, l4, l5, l6, l7] L2 St S = ev c 247 42 [l0, l1, l2, l3, l4, l5, l6, l7] L2 (aI 3 :: St) S := ev_go i247_41 rfl
theorem i247_42 : insAt 247 42 = some (.iload_n 3, 1, (0, 0, 0, 0), 0) := rfl
theorem s247_42 {c : Nat → List AV → SS → Option Out} {l0 l1 l2 l4 l5 l6 l7 : Option AV} {x : Int32} {L2 : List (Nat × AV)} {St : List AV} {S : SS} : ev c 247 42 [l0, l1, l2, some (aI x), l4, l5, l6, l7] L2 St S = ev c 247 43 [l0, l1, l2, some (aI x), l4, l5, l6, l7] L2 (aI x :: St) S := ev_go i247_42 rfl
theorem i247_43 : insAt 247 43 = some (.invokevirtual 79, 3, (245, 3, 2, 12), 0) := rfl
theorem s247_43 {c : Nat → List AV → SS → Option Out} {l0 l1 l2 l3 l4 l5 l6 l7 : Option AV} {a0 : Int32} {a1 : Int32} {a2 : Int32} {j t : Nat} {L2 : List (Nat × AV)} {S : SS} : ev c 247 43 [l0, l1, l2, l3, l4, l5, l6, l7] L2 [aI a2, aI a1, aI a0, aR (12, j, t)] S = ck (c 245 [aR (12, j, t), aI a0, aI a1, aI a2] S) (fun v S' => ev c 247 46 [l0, l1, l2, l3, l4, l5, l6, l7] L2 (v.toList ++ []) S') := ev_call i247_43 rfl
theorem i247_46 : insAt 247 46 = some (.aload_n 0, 1, (0, 0, 0, 0), 0) := rfl
theorem s247_46 {c : Nat → List AV → SS → Option Out} {l1 l2 l3 l4 l5 l6 l7 : Option AV} {o : OId} {L2 : List (Nat × AV)} {St : List AV} {S : SS} : ev c 247 46 [some (aR o), l1, l2, l3, l4, l5, l6, l7] L2 St S = ev c 247 47 [some (aR o), l1, l2, l3, l4, l5, l6, l7] L2 (aR o :: St) S := ev_go i247_46 rfl
theorem i247_47 : insAt 247 47 = some (.iload 6, 2, (0, 0, 0, 0), 0) := rfl
theorem s247_47 {c : Nat → List AV → SS → Option Out} {l0 l1 l2 l3 l4 l5 l7 : Option AV} {x : Int32} {L2 : List (Nat × AV)} {St : List AV} {S : SS} : ev c 247 47 [l0, l1, l2, l3, l4, l5, some (aI x), l7] L2 St S = ev c 247 49 [l0, l1, l2, l3, l4, l5, some (aI x), l7] L2 (aI x :: St) S := ev_go i247_47 rfl
theorem i247_49 : insAt 247 49 = some (.iconst 4, 1, (0, 0, 0, 0), 0) := rfl
theorem s247_49 {c : Nat → List AV → SS → Option Out} {l0 l1 l2 l3 l4 l5 l6 l7 : Option AV} {L2 : List (Nat × AV)} {St : List AV} {S : SS} : ev c 247 49 [l0, l1, l2, l3, l4, l5, l6, l7] L2 St S = ev c 247 50 [l0, l1, l2, l3, l4, l5, l6, l7] L2 (aI 4 :: St) S := ev_go i247_49 rfl
theorem i247_50 : insAt 247 50 = some (.aload_n 0, 1, (0, 0, 0, 0), 0) := rfl
theorem s247_50 {c : Nat → List AV → SS → Option Out} {l1 l2 l3 l4 l5 l6 l7 : Option AV} {o : OId} {L2 : List (Nat × AV)} {St : List AV} {S : SS} : ev c 247 50 [some (aR o), l1, l2, l3, l4, l5, l6, l7] L2 St S = ev c 247 51 [some (aR o), l1, l2, l3, l4, l5, l6, l7] L2 (aR o :: St) S := ev_go i247_50 rfl
theorem i247_51 : insAt 247 51 = some (.getfield 7, 3, (12, 0, 0, 0), 0) := rfl
theorem s247_51 {c : Nat → List AV → SS → Option Out} {l0 l1 l2 l3 l4 l5 l6 l7 : Option AV} {j t : Nat} {L2 : List (Nat × AV)} {St : List AV} {S : SS} : ev c 247 51 [l0, l1, l2, l3, l4, l5, l6, l7] L2 (aR (12, j, t) :: St) S = ev c 247 54 [l0, l1, l2, l3, l4, l5, l6, l7] L2 (S.2.2.1 (12, j, t) 0 :: St) S := ev_go i247_51 rfl
theorem i247_54 : insAt 247 54 = some (.iconst 3, 1, (0, 0, 0, 0), 0) := rfl
theorem s247_54 {c : Nat → List AV → SS → Option Out} {l0 l1 l2 l3 l4 l5 l6 l7 : Option AV} {L2 : List (Nat × AV)} {St : List AV} {S : SS} : ev c 247 54 [l0, l1, l2, l3, l4, l5, l6, l7] L2 St S = ev c 247 55 [l0, l1, l2, l3, l4, l5, l6, l7] L2 (aI 3 :: St) S := ev_go i247_54 rfl
theorem i247_55 : insAt 247 55 = some (.iaload, 1, (0, 0, 0, 0), 0) := rfl
theorem s247_55 {c : Nat → List AV → SS → Option Out} {l0 l1 l2 l3 l4 l5 l6 l7 : Option AV} {i : Int32} {o : OId} {L2 : List (Nat × AV)} {St : List AV} {S : SS} : ev c 247 55 [l0, l1, l2, l3, l4, l5, l6, l7] L2 (aI i :: aR o :: St) S = kI o i (ev c 247 56 [l0, l1, l2, l3, l4, l5, l6, l7] L2 (aI (agI S o i.toNatClampNeg) :: St) S) := ev_iaload i247_55
theorem i247_56 : insAt 247 56 = some (.iload 4, 2, (0, 0, 0, 0), 0) := rfl
theorem s247_56 {c : Nat → List AV → SS → Option Out} {l0 l1 l2 l3 l5 l6 l7 : Option AV} {x : Int32} {L2 : List (Nat × AV)} {St : List AV} {S : SS} : ev c 247 56 [l0, l1, l2, l3, some (aI x), l5, l6, l7] L2 St S = ev c 247 58 [l0, l1, l2, l3, some (aI x), l5, l6, l7] L2 (aI x :: St) S := ev_go i247_56 rfl
theorem i247_58 : insAt 247 58 = some (.iadd, 1, (0, 0, 0, 0), 0) := rfl
theorem s247_58 {c : Nat → List AV → SS → Option Out} {l0 l1 l2 l3 l4 l5 l6 l7 : Option AV} {x y : Int32} {L2 : List (Nat × AV)} {St : List AV} {S : SS} : ev c 247 58 [l0, l1, l2, l3, l4, l5, l6, l7] L2 (aI y :: aI x :: St) S = ev c 247 59 [l0, l1, l2, l3, l4, l5, l6, l7] L2 (aI (x + y) :: St) S := ev_go i247_58 rfl
theorem i247_59 : insAt 247 59 = some (.invokevirtual 79, 3, (245, 3, 2, 12), 0) := rfl
theorem s247_59 {c : Nat → List AV → SS → Option Out} {l0 l1 l2 l3 l4 l5 l6 l7 : Option AV} {a0 : Int32} {a1 : Int32} {a2 : Int32} {j t : Nat} {L2 : List (Nat × AV)} {S : SS} : ev c 247 59 [l0, l1, l2, l3, l4, l5, l6, l7] L2 [aI a2, aI a1, aI a0, aR (12, j, t)] S = ck (c 245 [aR (12, j, t), aI a0, aI a1, aI a2] S) (fun v S' => ev c 247 62 [l0, l1, l2, l3, l4, l5, l6, l7] L2 (v.toList ++ []) S') := ev_call i247_59 rfl
theorem i247_62 : insAt 247 62 = some (.aload_n 0, 1, (0, 0, 0, 0), 0) := rfl
theorem s247_62 {c : Nat → List AV → SS → Option Out} {l1 l2 l3 l4 l5 l6 l7 : Option AV} {o : OId} {L2 : List (Nat × AV)} {St : List AV} {S : SS} : ev c 247 62 [some (aR o), l1, l2, l3, l4, l5, l6, l7] L2 St S = ev c 247 63 [some (aR o), l1, l2, l3, l4, l5, l6, l7] L2 (aR o :: St) S := ev_go i247_62 rfl
theorem i247_63 : insAt 247 63 = some (.iload 6, 2, (0, 0, 0, 0), 0) := rfl
theorem s247_63 {c : Nat → List AV → SS → Option Out} {l0 l1 l2 l3 l4 l5 l7 : Option AV} {x : Int32} {L2 : List (Nat × AV)} {St : List AV} {S : SS} : ev c 247 63 [l0, l1, l2, l3, l4, l5, some (aI x), l7] L2 St S = ev c 247 65 [l0, l1, l2, l3, l4, l5, some (aI x), l7] L2 (aI x :: St) S := ev_go i247_63 rfl
theorem i247_65 : insAt 247 65 = some (.iconst 5, 1, (0, 0, 0, 0), 0) := rfl
theorem s247_65 {c : Nat → List AV → SS → Option Out} {l0 l1 l2 l3 l4 l5 l6 l7 : Option AV} {L2 : List (Nat × AV)} {St : List AV} {S : SS} : ev c 247 65 [l0, l1, l2, l3, l4, l5, l6, l7] L2 St S = ev c 247 66 [l0, l1, l2, l3, l4, l5, l6, l7] L2 (aI 5 :: St) S := ev_go i247_65 rfl
theorem i247_66 : insAt 247 66 = some (.iload 5, 2, (0, 0, 0, 0), 0) := rfl
theorem s247_66 {c : Nat → List AV → SS → Option Out} {l0 l1 l2 l3 l4 l6 l7 : Option AV} {x : Int32} {L2 : List (Nat × AV)} {St : List AV} {S : SS} : ev c 247 66 [l0, l1, l2, l3, l4, some (aI x), l6, l7] L2 St S = ev c 247 68 [l0, l1, l2, l3, l4, some (aI x), l6, l7] L2 (aI x :: St) S := ev_go i247_66 rfl
theorem i247_68 : insAt 247 68 = some (.invokevirtual 79, 3, (245, 3, 2, 12), 0) := rfl
theorem s247_68 {c : Nat → List AV → SS → Option Out} {l0 l1 l2 l3 l4 l5 l6 l7 : Option AV} {a0 : Int32} {a1 : Int32} {a2 : Int32} {j t : Nat} {L2 : List (Nat × AV)} {S : SS} : ev c 247 68 [l0, l1, l2, l3, l4, l5, l6, l7] L2 [aI a2, aI a1, aI a0, aR (12, j, t)] S = ck (c 245 [aR (12, j, t), aI a0, aI a1, aI a2] S) (fun v S' => ev c 247 71 [l0, l1, l2, l3, l4, l5, l6, l7] L2 (v.toList ++ []) S') := ev_call i247_68 rfl
theorem i247_71 : insAt 247 71 = some (.iconst 0, 1, (0, 0, 0, 0), 0) := rfl
theorem s247_71 {c : Nat → List AV → SS → Option Out} {l0 l1 l2 l3 l4 l5 l6 l7 : Option AV} {L2 : List (Nat × AV)} {St : List AV} {S : SS} : ev c 247 71 [l0, l1, l2, l3, l4, l5, l6, l7] L2 St S = ev c 247 72 [l0, l1, l2, l3, l4, l5, l6, l7] L2 (aI 0 :: St) S := ev_go i247_71 rfl
theorem i247_72 : insAt 247 72 = some (.istore 7, 2, (0, 0, 0, 0), 0) := rfl
theorem s247_72 {c : Nat → List AV → SS → Option Out} {l0 l1 l2 l3 l4 l5 l6 l7 : Option AV} {x : Int32} {L2 : List (Nat × AV)} {St : List AV} {S : SS} : ev c 247 72 [l0, l1, l2, l3, l4, l5, l6, l7] L2 (aI x :: St) S = ev c 247 74 [l0, l1, l2, l3, l4, l5, l6, some (aI x)] (kil L2 7) St S := ev_go i247_72 rfl
theorem i247_74 : insAt 247 74 = some (.iload 7, 2, (0, 0, 0, 0), 0) := rfl
theorem s247_74 {c : Nat → List AV → SS → Option Out} {l0 l1 l2 l3 l4 l5 l6 : Option AV} {x : Int32} {L2 : List (Nat × AV)} {St : List AV} {S : SS} : ev c 247 74 [l0, l1, l2, l3, l4, l5, l6, some (aI x)] L2 St S = ev c 247 76 [l0, l1, l2, l3, l4, l5, l6, some (aI x)] L2 (aI x :: St) S := ev_go i247_74 rfl
theorem i247_76 : insAt 247 76 = some (.bipush 7, 2, (0, 0, 0, 0), 0) := rfl
theorem s247_76 {c : Nat → List AV → SS → Option Out} {l0 l1 l2 l3 l4 l5 l6 l7 : Option AV} {L2 : List (Nat × AV)} {St : List AV} {S : SS} : ev c 247 76 [l0, l1, l2, l3, l4, l5, l6, l7] L2 St S = ev c 247 78 [l0, l1, l2, l3, l4, l5, l6, l7] L2 (aI 7 :: St) S := ev_go i247_76 rfl
theorem i247_78 : insAt 247 78 = some (.if_icmp .ge 18, 3, (0, 0, 0, 0), 0) := rfl
theorem s247_78 {c : Nat → List AV → SS → Option Out} {l0 l1 l2 l3 l4 l5 l6 l7 : Option AV} {x y : Int32} {L2 : List (Nat × AV)} {St : List AV} {S : SS} : ev c 247 78 [l0, l1, l2, l3, l4, l5, l6, l7] L2 (aI y :: aI x :: St) S = if y ≤ x then ev c 247 96 [l0, l1, l2, l3, l4, l5, l6, l7] L2 St S else ev c 247 81 [l0, l1, l2, l3, l4, l5, l6, l7] L2 St S := ev_br i247_78 rfl
theorem i247_81 : insAt 247 81 = some (.aload_n 0, 1, (0, 0, 0, 0), 0) := rfl
theorem s247_81 {c : Nat → List AV → SS → Option Out} {l1 l2 l3 l4 l5 l6 l7 : Option AV} {o : OId} {L2 : List (Nat × AV)} {St : List AV} {S : SS} : ev c 247 81 [some (aR o), l1, l2, l3, l4, l5, l6, l7] L2 St S = ev c 247 82 [some (aR o), l1, l2, l3, l4, l5, l6, l7] L2 (aR o :: St) S := ev_go i247_81 rfl
theorem i247_82 : insAt 247 82 = some (.iload 6, 2, (0, 0, 0, 0), 0) := rfl
theorem s247_82 {c : Nat → List AV → SS → Option Out} {l0 l1 l2 l3 l4 l5 l7 : Option AV} {x : Int32} {L2 : List (Nat × AV)} {St : List AV} {S : SS} : ev c 247 82 [l0, l1, l2, l3, l4, l5, some (aI x), l7] L2 St S = ev c 247 84 [l0, l1, l2, l3, l4, l5, some (aI x), l7] L2 (aI x :: St) S := ev_go i247_82 rfl
theorem i247_84 : insAt 247 84 = some (.iload 7, 2, (0, 0, 0, 0), 0) := rfl
theorem s247_84 {c : Nat → List AV → SS → Option Out} {l0 l1 l2 l3 l4 l5 l6 : Option AV} {x : Int32} {L2 : List (Nat × AV)} {St : List AV} {S : SS} : ev c 247 84 [l0, l1, l2, l3, l4, l5, l6, some (aI x)] L2 St S = ev c 247 86 [l0, l1, l2, l3, l4, l5, l6, some (aI x)] L2 (aI x :: St) S := ev_go i247_84 rfl
theorem i247_86 : insAt 247 86 = some (.iconst 0, 1, (0, 0, 0, 0), 0) := rfl
theorem s247_86 {c : Nat → List AV → SS → Option Out} {l0 l1 l2 l3 l4 l5 l6 l7 : Option AV} {L2 : List (Nat × AV)} {St : List AV} {S : SS} : ev c 247 86 [l0, l1, l2, l3, l4, l5, l6, l7] L2 St S = ev c 247 87 [l0, l1, l2, l3, l4, l5, l6, l7] L2 (aI 0 :: St) S := ev_go i247_86 rfl
theorem i247_87 : insAt 247 87 = some (.invokevirtual 83, 3, (248, 3, 2, 12), 0) := rfl
theorem s247_87 {c : Nat → List AV → SS → Option Out} {l0 l1 l2 l3 l4 l5 l6 l7 : Option AV} {a0 : Int32} {a1 : Int32} {a2 : Int32} {j t : Nat} {L2 : List (Nat × AV)} {S : SS} : ev c 247 87 [l0, l1, l2, l3, l4, l5, l6, l7] L2 [aI a2, aI a1, aI a0, aR (12, j, t)] S = ck (c 248 [aR (12, j, t), aI a0, aI a1, aI a2] S) (fun v S' => ev c 247 90 [l0, l1, l2, l3, l4, l5, l6, l7] L2 (v.toList ++ []) S') := ev_call i247_87 rfl
theorem i247_90 : insAt 247 90 = some (.iinc 7 1, 3, (0, 0, 0, 0), 0) := rfl
theorem s247_90 {c : Nat → List AV → SS → Option Out} {l0 l1 l2 l3 l4 l5 l6 : Option AV} {x : Int32} {L2 : List (Nat × AV)} {St : List AV} {S : SS} : ev c 247 90 [l0, l1, l2, l3, l4, l5, l6, some (aI x)] L2 St S = ev c 247 93 [l0, l1, l2, l3, l4, l5, l6, some (aI (x + 1))] (kil L2 7) St S := ev_go i247_90 rfl
theorem i247_93 : insAt 247 93 = some (.goto (-19), 3, (0, 0, 0, 0), 0) := rfl
theorem s247_93 {c : Nat → List AV → SS → Option Out} {l0 l1 l2 l3 l4 l5 l6 l7 : Option AV} {L2 : List (Nat × AV)} {St : List AV} {S : SS} : ev c 247 93 [l0, l1, l2, l3, l4, l5, l6, l7] L2 St S = ev c 247 74 [l0, l1, l2, l3, l4, l5, l6, l7] L2 St S := ev_go i247_93 rfl
theorem i247_96 : insAt 247 96 = some (.aload_n 0, 1, (0, 0, 0, 0), 0) := rfl
theorem s247_96 {c : Nat → List AV → SS → Option Out} {l1 l2 l3 l4 l5 l6 l7 : Option AV} {o : OId} {L2 : List (Nat × AV)} {St : List AV} {S : SS} : ev c 247 96 [some (aR o), l1, l2, l3, l4, l5, l6, l7] L2 St S = ev c 247 97 [some (aR o), l1, l2, l3, l4, l5, l6, l7] L2 (aR o :: St) S := ev_go i247_96 rfl
theorem i247_97 : insAt 247 97 = some (.getfield 7, 3, (12, 0, 0, 0), 0) := rfl
theorem s247_97 {c : Nat → List AV → SS → Option Out} {l0 l1 l2 l3 l4 l5 l6 l7 : Option AV} {j t : Nat} {L2 : List (Nat × AV)} {St : List AV} {S : SS} : ev c 247 97 [l0, l1, l2, l3, l4, l5, l6, l7] L2 (aR (12, j, t) :: St) S = ev c 247 100 [l0, l1, l2, l3, l4, l5, l6, l7] L2 (S.2.2.1 (12, j, t) 0 :: St) S := ev_go i247_97 rfl
theorem i247_100 : insAt 247 100 = some (.bipush 7, 2, (0, 0, 0, 0), 0) := rfl
theorem s247_100 {c : Nat → List AV → SS → Option Out} {l0 l1 l2 l3 l4 l5 l6 l7 : Option AV} {L2 : List (Nat × AV)} {St : List AV} {S : SS} : ev c 247 100 [l0, l1, l2, l3, l4, l5, l6, l7] L2 St S = ev c 247 102 [l0, l1, l2, l3, l4, l5, l6, l7] L2 (aI 7 :: St) S := ev_go i247_100 rfl
theorem i247_102 : insAt 247 102 = some (.dup2, 1, (0, 0, 0, 0), 0) := rfl
theorem s247_102 {c : Nat → List AV → SS → Option Out} {l0 l1 l2 l3 l4 l5 l6 l7 : Option AV} {x : Int32} {y : OId} {L2 : List (Nat × AV)} {St : List AV} {S : SS} : ev c 247 102 [l0, l1, l2, l3, l4, l5, l6, l7] L2 (aI x :: aR y :: St) S = ev c 247 103 [l0, l1, l2, l3, l4, l5, l6, l7] L2 (aI x :: aR y :: aI x :: aR y :: St) S := ev_go i247_102 rfl
theorem i247_103 : insAt 247 103 = some (.iaload, 1, (0, 0, 0, 0), 0) := rfl
theorem s247_103 {c : Nat → List AV → SS → Option Out} {l0 l1 l2 l3 l4 l5 l6 l7 : Option AV} {i : Int32} {o : OId} {L2 : List (Nat × AV)} {St : List AV} {S : SS} : ev c 247 103 [l0, l1, l2, l3, l4, l5, l6, l7] L2 (aI i :: aR o :: St) S = kI o i (ev c 247 104 [l0, l1, l2, l3, l4, l5, l6, l7] L2 (aI (agI S o i.toNatClampNeg) :: St) S) := ev_iaload i247_103
theorem i247_104 : insAt 247 104 = some (.iconst 1, 1, (0, 0, 0, 0), 0) := rfl
theorem s247_104 {c : Nat → List AV → SS → Option Out} {l0 l1 l2 l3 l4 l5 l6 l7 : Option AV} {L2 : List (Nat × AV)} {St : List AV} {S : SS} : ev c 247 104 [l0, l1, l2, l3, l4, l5, l6, l7] L2 St S = ev c 247 105 [l0, l1, l2, l3, l4, l5, l6, l7] L2 (aI 1 :: St) S := ev_go i247_104 rfl
theorem i247_105 : insAt 247 105 = some (.iadd, 1, (0, 0, 0, 0), 0) := rfl
theorem s247_105 {c : Nat → List AV → SS → Option Out} {l0 l1 l2 l3 l4 l5 l6 l7 : Option AV} {x y : Int32} {L2 : List (Nat × AV)} {St : List AV} {S : SS} : ev c 247 105 [l0, l1, l2, l3, l4, l5, l6, l7] L2 (aI y :: aI x :: St) S = ev c 247 106 [l0, l1, l2, l3, l4, l5, l6, l7] L2 (aI (x + y) :: St) S := ev_go i247_105 rfl
theorem i247_106 : insAt 247 106 = some (.iastore, 1, (0, 0, 0, 0), 0) := rfl
theorem s247_106 {c : Nat → List AV → SS → Option Out} {l0 l1 l2 l3 l4 l5 l6 l7 : Option AV} {x i : Int32} {o : OId} {L2 : List (Nat × AV)} {St : List AV} {S : SS} : ev c 247 106 [l0, l1, l2, l3, l4, l5, l6, l7] L2 (aI x :: aI i :: aR o :: St) S = kIw o i (ev c 247 107 [l0, l1, l2, l3, l4, l5, l6, l7] L2 St (setI S.1 o i.toNatClampNeg x, S.2)) := ev_iastore i247_106
theorem i247_107 : insAt 247 107 = some (.aload_n 0, 1, (0, 0, 0, 0), 0) := rfl
theorem s247_107 {c : Nat → List AV → SS → Option Out} {l1 l2 l3 l4 l5 l6 l7 : Option AV} {o : OId} {L2 : List (Nat × AV)} {St : List AV} {S : SS} : ev c 247 107 [some (aR o), l1, l2, l3, l4, l5, l6, l7] L2 St S = ev c 247 108 [some (aR o), l1, l2, l3, l4, l5, l6, l7] L2 (aR o :: St) S := ev_go i247_107 rfl
theorem i247_108 : insAt 247 108 = some (.getfield 7, 3, (12, 0, 0, 0), 0) := rfl
theorem s247_108 {c : Nat → List AV → SS → Option Out} {l0 l1 l2 l3 l4 l5 l6 l7 : Option AV} {j t : Nat} {L2 : List (Nat × AV)} {St : List AV} {S : SS} : ev c 247 108 [l0, l1, l2, l3, l4, l5, l6, l7] L2 (aR (12, j, t) :: St) S = ev c 247 111 [l0, l1, l2, l3, l4, l5, l6, l7] L2 (S.2.2.1 (12, j, t) 0 :: St) S := ev_go i247_108 rfl
theorem i247_111 : insAt 247 111 = some (.iconst 4, 1, (0, 0, 0, 0), 0) := rfl
theorem s247_111 {c : Nat → List AV → SS → Option Out} {l0 l1 l2 l3 l4 l5 l6 l7 : Option AV} {L2 : List (Nat × AV)} {St : List AV} {S : SS} : ev c 247 111 [l0, l1, l2, l3, l4, l5, l6, l7] L2 St S = ev c 247 112 [l0, l1, l2, l3, l4, l5, l6, l7] L2 (aI 4 :: St) S := ev_go i247_111 rfl
theorem i247_112 : insAt 247 112 = some (.dup2, 1, (0, 0, 0, 0), 0) := rfl
theorem s247_112 {c : Nat → List AV → SS → Option Out} {l0 l1 l2 l3 l4 l5 l6 l7 : Option AV} {x : Int32} {y : OId} {L2 : List (Nat × AV)} {St : List AV} {S : SS} : ev c 247 112 [l0, l1, l2, l3, l4, l5, l6, l7] L2 (aI x :: aR y :: St) S = ev c 247 113 [l0, l1, l2, l3, l4, l5, l6, l7] L2 (aI x :: aR y :: aI x :: aR y :: St) S := ev_go i247_112 rfl
theorem i247_113 : insAt 247 113 = some (.iaload, 1, (0, 0, 0, 0), 0) := rfl
theorem s247_113 {c : Nat → List AV → SS → Option Out} {l0 l1 l2 l3 l4 l5 l6 l7 : Option AV} {i : Int32} {o : OId} {L2 : List (Nat × AV)} {St : List AV} {S : SS} : ev c 247 113 [l0, l1, l2, l3, l4, l5, l6, l7] L2 (aI i :: aR o :: St) S = kI o i (ev c 247 114 [l0, l1, l2, l3, l4, l5, l6, l7] L2 (aI (agI S o i.toNatClampNeg) :: St) S) := ev_iaload i247_113
theorem i247_114 : insAt 247 114 = some (.iconst 1, 1, (0, 0, 0, 0), 0) := rfl
theorem s247_114 {c : Nat → List AV → SS → Option Out} {l0 l1 l2 l3 l4 l5 l6 l7 : Option AV} {L2 : List (Nat × AV)} {St : List AV} {S : SS} : ev c 247 114 [l0, l1, l2, l3, l4, l5, l6, l7] L2 St S = ev c 247 115 [l0, l1, l2, l3, l4, l5, l6, l7] L2 (aI 1 :: St) S := ev_go i247_114 rfl
theorem i247_115 : insAt 247 115 = some (.iadd, 1, (0, 0, 0, 0), 0) := rfl
theorem s247_115 {c : Nat → List AV → SS → Option Out} {l0 l1 l2 l3 l4 l5 l6 l7 : Option AV} {x y : Int32} {L2 : List (Nat × AV)} {St : List AV} {S : SS} : ev c 247 115 [l0, l1, l2, l3, l4, l5, l6, l7] L2 (aI y :: aI x :: St) S = ev c 247 116 [l0, l1, l2, l3, l4, l5, l6, l7] L2 (aI (x + y) :: St) S := ev_go i247_115 rfl
theorem i247_116 : insAt 247 116 = some (.iastore, 1, (0, 0, 0, 0), 0) := rfl
theorem s247_116 {c : Nat → List AV → SS → Option Out} {l0 l1 l2 l3 l4 l5 l6 l7 : Option AV} {x i : Int32} {o : OId} {L2 : List (Nat × AV)} {St : List AV} {S : SS} : ev c 247 116 [l0, l1, l2, l3, l4, l5, l6, l7] L2 (aI x :: aI i :: aR o :: St) S = kIw o i (ev c 247 117 [l0, l1, l2, l3, l4, l5, l6, l7] L2 St (setI S.1 o i.toNatClampNeg x, S.2)) := ev_iastore i247_116
theorem i247_117 : insAt 247 117 = some (.aload_n 0, 1, (0, 0, 0, 0), 0) := rfl
theorem s247_117 {c : Nat → List AV → SS → Option Out} {l1 l2 l3 l4 l5 l6 l7 : Option AV} {o : OId} {L2 : List (Nat × AV)} {St : List AV} {S : SS} : ev c 247 117 [some (aR o), l1, l2, l3, l4, l5, l6, l7] L2 St S = ev c 247 118 [some (aR o), l1, l2, l3, l4, l5, l6, l7] L2 (aR o :: St) S := ev_go i247_117 rfl
theorem i247_118 : insAt 247 118 = some (.getfield 7, 3, (12, 0, 0, 0), 0) := rfl
theorem s247_118 {c : Nat → List AV → SS → Option Out} {l0 l1 l2 l3 l4 l5 l6 l7 : Option AV} {j t : Nat} {L2 : List (Nat × AV)} {St : List AV} {S : SS} : ev c 247 118 [l0, l1, l2, l3, l4, l5, l6, l7] L2 (aR (12, j, t) :: St) S = ev c 247 121 [l0, l1, l2, l3, l4, l5, l6, l7] L2 (S.2.2.1 (12, j, t) 0 :: St) S := ev_go i247_118 rfl
theorem i247_121 : insAt 247 121 = some (.iconst 4, 1, (0, 0, 0, 0), 0) := rfl
theorem s247_121 {c : Nat → List AV → SS → Option Out} {l0 l1 l2 l3 l4 l5 l6 l7 : Option AV} {L2 : List (Nat × AV)} {St : List AV} {S : SS} : ev c 247 121 [l0, l1, l2, l3, l4, l5, l6, l7] L2 St S = ev c 247 122 [l0, l1, l2, l3, l4, l5, l6, l7] L2 (aI 4 :: St) S := ev_go i247_121 rfl
theorem i247_122 : insAt 247 122 = some (.iaload, 1, (0, 0, 0, 0), 0) := rfl
theorem s247_122 {c : Nat → List AV → SS → Option Out} {l0 l1 l2 l3 l4 l5 l6 l7 : Option AV} {i : Int32} {o : OId} {L2 : List (Nat × AV)} {St : List AV} {S : SS} : ev c 247 122 [l0, l1, l2, l3, l4, l5, l6, l7] L2 (aI i :: aR o :: St) S = kI o i (ev c 247 123 [l0, l1, l2, l3, l4, l5, l6, l7] L2 (aI (agI S o i.toNatClampNeg) :: St) S) := ev_iaload i247_122
theorem i247_123 : insAt 247 123 = some (.iconst 1, 1, (0, 0, 0, 0), 0) := rfl
theorem s247_123 {c : Nat → List AV → SS → Option Out} {l0 l1 l2 l3 l4 l5 l6 l7 : Option AV} {L2 : List (Nat × AV)} {St : List AV} {S : SS} : ev c 247 123 [l0, l1, l2, l3, l4, l5, l6, l7] L2 St S = ev c 247 124 [l0, l1, l2, l3, l4, l5, l6, l7] L2 (aI 1 :: St) S := ev_go i247_123 rfl
theorem i247_124 : insAt 247 124 = some (.isub, 1, (0, 0, 0, 0), 0) := rfl
theorem s247_124 {c : Nat → List AV → SS → Option Out} {l0 l1 l2 l3 l4 l5 l6 l7 : Option AV} {x y : Int32} {L2 : List (Nat × AV)} {St : List AV} {S : SS} : ev c 247 124 [l0, l1, l2, l3, l4, l5, l6, l7] L2 (aI y :: aI x :: St) S = ev c 247 125 [l0, l1, l2, l3, l4, l5, l6, l7] L2 (aI (x - y) :: St) S := ev_go i247_124 rfl
theorem i247_125 : insAt 247 125 = some (.ireturn, 1, (0, 0, 0, 0), 0) := rfl
theorem s247_125 {c : Nat → List AV → SS → Option Out} {l0 l1 l2 l3 l4 l5 l6 l7 : Option AV} {x : Int32} {L2 : List (Nat × AV)} {St : List AV} {S : SS} : ev c 247 125 [l0, l1, l2, l3, l4, l5, l6, l7] L2 [aI x] S = some (.inl (some (aI x)), S) := ev_end i247_125 rfl
theorem m247 {d : Nat} {o : OId} {a0 : Int32} {a1 : Int32} {a2 : Int32} {a3 : Int32} {a4 : Int32} {S : SS} : evm (d + 1) 247 [aR o, aI a0, aI a1, aI a2, aI a3, aI a4] S = ev (evm d) 247 0 [some (aR o), some (aI a0), some (aI a1), some (aI a2), some (aI a3), some (aI a4), none, none] [] [] S := evm_s (n := 8) rfl (Nat.le_of_ble_eq_true rfl) rfl rfl
/-! FrequencyOfficeModel.laysComplaints(III)V -/
theorem i248_0 : insAt 248 0 = some (.aload_n 0, 1, (0, 0, 0, 0), 0) := rfl
theorem s248_0 {c : Nat → List AV → SS → Option Out} {l1 l2 l3 : Option AV} {o : OId} {L2 : List (Nat × AV)} {St : List AV} {S : SS} : ev c 248 0 [some (aR o), l1, l2, l3] L2 St S = ev c 248 1 [some (aR o), l1, l2, l3] L2 (aR o :: St) S := ev_go i248_0 rfl
theorem i248_1 : insAt 248 1 = some (.getfield 7, 3, (12, 0, 0, 0), 0) := rfl
theorem s248_1 {c : Nat → List AV → SS → Option Out} {l0 l1 l2 l3 : Option AV} {j t : Nat} {L2 : List (Nat × AV)} {St : List AV} {S : SS} : ev c 248 1 [l0, l1, l2, l3] L2 (aR (12, j, t) :: St) S = ev c 248 4 [l0, l1, l2, l3] L2 (S.2.2.1 (12, j, t) 0 :: St) S := ev_go i248_1 rfl
theorem i248_4 : insAt 248 4 = some (.bipush 57, 2, (0, 0, 0, 0), 0) := rfl
theorem s248_4 {c : Nat → List AV → SS → Option Out} {l0 l1 l2 l3 : Option AV} {L2 : List (Nat × AV)} {St : List AV} {S : SS} : ev c 248 4 [l0, l1, l2, l3] L2 St S = ev c 248 6 [l0, l1, l2, l3] L2 (aI 57 :: St) S := ev_go i248_4 rfl
theorem i248_6 : insAt 248 6 = some (.bipush 7, 2, (0, 0, 0, 0), 0) := rfl
theorem s248_6 {c : Nat → List AV → SS → Option Out} {l0 l1 l2 l3 : Option AV} {L2 : List (Nat × AV)} {St : List AV} {S : SS} : ev c 248 6 [l0, l1, l2, l3] L2 St S = ev c 248 8 [l0, l1, l2, l3] L2 (aI 7 :: St) S := ev_go i248_6 rfl
theorem i248_8 : insAt 248 8 = some (.iload_n 1, 1, (0, 0, 0, 0), 0) := rfl
theorem s248_8 {c : Nat → List AV → SS → Option Out} {l0 l2 l3 : Option AV} {x : Int32} {L2 : List (Nat × AV)} {St : List AV} {S : SS} : ev c 248 8 [l0, some (aI x), l2, l3] L2 St S = ev c 248 9 [l0, some (aI x), l2, l3] L2 (aI x :: St) S := ev_go i248_8 rfl
theorem i248_9 : insAt 248 9 = some (.imul, 1, (0, 0, 0, 0), 0) := rfl
theorem s248_9 {c : Nat → List AV → SS → Option Out} {l0 l1 l2 l3 : Option AV} {x y : Int32} {L2 : List (Nat × AV)} {St : List AV} {S : SS} : ev c 248 9 [l0, l1, l2, l3] L2 (aI y :: aI x :: St) S = ev c 248 10 [l0, l1, l2, l3] L2 (aI (x * y) :: St) S := ev_go i248_9 rfl
theorem i248_10 : insAt 248 10 = some (.iadd, 1, (0, 0, 0, 0), 0) := rfl
theorem s248_10 {c : Nat → List AV → SS → Option Out} {l0 l1 l2 l3 : Option AV} {x y : Int32} {L2 : List (Nat × AV)} {St : List AV} {S : SS} : ev c 248 10 [l0, l1, l2, l3] L2 (aI y :: aI x :: St) S = ev c 248 11 [l0, l1, l2, l3] L2 (aI (x + y) :: St) S := ev_go i248_10 rfl
theorem i248_11 : insAt 248 11 = some (.iload_n 2, 1, (0, 0, 0, 0), 0) := rfl
theorem s248_11 {c : Nat → List AV → SS → Option Out} {l0 l1 l3 : Option AV} {x : Int32} {L2 : List (Nat × AV)} {St : List AV} {S : SS} : ev c 248 11 [l0, l1, some (aI x), l3] L2 St S = ev c 248 12 [l0, l1, some (aI x), l3] L2 (aI x :: St) S := ev_go i248_11 rfl
theorem i248_12 : insAt 248 12 = some (.iadd, 1, (0, 0, 0, 0), 0) := rfl
theorem s248_12 {c : Nat → List AV → SS → Option Out} {l0 l1 l2 l3 : Option AV} {x y : Int32} {L2 : List (Nat × AV)} {St : List AV} {S : SS} : ev c 248 12 [l0, l1, l2, l3] L2 (aI y :: aI x :: St) S = ev c 248 13 [l0, l1, l2, l3] L2 (aI (x + y) :: St) S := ev_go i248_12 rfl
theorem i248_13 : insAt 248 13 = some (.iload_n 3, 1, (0, 0, 0, 0), 0) := rfl
theorem s248_13 {c : Nat → List AV → SS → Option Out} {l0 l1 l2 : Option AV} {x : Int32} {L2 : List (Nat × AV)} {St : List AV} {S : SS} : ev c 248 13 [l0, l1, l2, some (aI x)] L2 St S = ev c 248 14 [l0, l1, l2, some (aI x)] L2 (aI x :: St) S := ev_go i248_13 rfl
theorem i248_14 : insAt 248 14 = some (.iastore, 1, (0, 0, 0, 0), 0) := rfl
theorem s248_14 {c : Nat → List AV → SS → Option Out} {l0 l1 l2 l3 : Option AV} {x i : Int32} {o : OId} {L2 : List (Nat × AV)} {St : List AV} {S : SS} : ev c 248 14 [l0, l1, l2, l3] L2 (aI x :: aI i :: aR o :: St) S = kIw o i (ev c 248 15 [l0, l1, l2, l3] L2 St (setI S.1 o i.toNatClampNeg x, S.2)) := ev_iastore i248_14
theorem i248_15 : insAt 248 15 = some (.aload_n 0, 1, (0, 0, 0, 0), 0) := rfl
theorem s248_15 {c : Nat → List AV → SS → Option Out} {l1 l2 l3 : Option AV} {o : OId} {L2 : List (Nat × AV)} {St : List AV} {S : SS} : ev c 248 15 [some (aR o), l1, l2, l3] L2 St S = ev c 248 16 [some (aR o), l1, l2, l3] L2 (aR o :: St) S := ev_go i248_15 rfl
theorem i248_16 : insAt 248 16 = some (.getfield 7, 3, (12, 0, 0, 0), 0) := rfl
theorem s248_16 {c : Nat → List AV → SS → Option Out} {l0 l1 l2 l3 : Option AV} {j t : Nat} {L2 : List (Nat × AV)} {St : List AV} {S : SS} : ev c 248 16 [l0, l1, l2, l3] L2 (aR (12, j, t) :: St) S = ev c 248 19 [l0, l1, l2, l3] L2 (S.2.2.1 (12, j, t) 0 :: St) S := ev_go i248_16 rfl
theorem i248_19 : insAt 248 19 = some (.bipush 57, 2, (0, 0, 0, 0), 0) := rfl
theorem s248_19 {c : Nat → List AV → SS → Option Out} {l0 l1 l2 l3 : Option AV} {L2 : List (Nat × AV)} {St : List AV} {S : SS} : ev c 248 19 [l0, l1, l2, l3] L2 St S = ev c 248 21 [l0, l1, l2, l3] L2 (aI 57 :: St) S := ev_go i248_19 rfl
theorem i248_21 : insAt 248 21 = some (.bipush 7, 2, (0, 0, 0, 0), 0) := rfl
theorem s248_21 {c : Nat → List AV → SS → Option Out} {l0 l1 l2 l3 : Option AV} {L2 : List (Nat × AV)} {St : List AV} {S : SS} : ev c 248 21 [l0, l1, l2, l3] L2 St S = ev c 248 23 [l0, l1, l2, l3] L2 (aI 7 :: St) S := ev_go i248_21 rfl
theorem i248_23 : insAt 248 23 = some (.iload_n 2, 1, (0, 0, 0, 0), 0) := rfl
theorem s248_23 {c : Nat → List AV → SS → Option Out} {l0 l1 l3 : Option AV} {x : Int32} {L2 : List (Nat × AV)} {St : List AV} {S : SS} : ev c 248 23 [l0, l1, some (aI x), l3] L2 St S = ev c 248 24 [l0, l1, some (aI x), l3] L2 (aI x :: St) S := ev_go i248_23 rfl
theorem i248_24 : insAt 248 24 = some (.imul, 1, (0, 0, 0, 0), 0) := rfl
theorem s248_24 {c : Nat → List AV → SS → Option Out} {l0 l1 l2 l3 : Option AV} {x y : Int32} {L2 : List (Nat × AV)} {St : List AV} {S : SS} : ev c 248 24 [l0, l1, l2, l3] L2 (aI y :: aI x :: St) S = ev c 248 25 [l0, l1, l2, l3] L2 (aI (x * y) :: St) S := ev_go i248_24 rfl
theorem i248_25 : insAt 248 25 = some (.iadd, 1, (0, 0, 0, 0), 0) := rfl
theorem s248_25 {c : Nat → List AV → SS → Option Out} {l0 l1 l2 l3 : Option AV} {x y : Int32} {L2 : List (Nat × AV)} {St : List AV} {S : SS} : ev c 248 25 [l0, l1, l2, l3] L2 (aI y :: aI x :: St) S = ev c 248 26 [l0, l1, l2, l3] L2 (aI (x + y) :: St) S := ev_go i248_25 rfl
theorem i248_26 : insAt 248 26 = some (.iload_n 1, 1, (0, 0, 0, 0), 0) := rfl
theorem s248_26 {c : Nat → List AV → SS → Option Out} {l0 l2 l3 : Option AV} {x : Int32} {L2 : List (Nat × AV)} {St : List AV} {S : SS} : ev c 248 26 [l0, some (aI x), l2, l3] L2 St S = ev c 248 27 [l0, some (aI x), l2, l3] L2 (aI x :: St) S := ev_go i248_26 rfl
theorem i248_27 : insAt 248 27 = some (.iadd, 1, (0, 0, 0, 0), 0) := rfl
theorem s248_27 {c : Nat → List AV → SS → Option Out} {l0 l1 l2 l3 : Option AV} {x y : Int32} {L2 : List (Nat × AV)} {St : List AV} {S : SS} : ev c 248 27 [l0, l1, l2, l3] L2 (aI y :: aI x :: St) S = ev c 248 28 [l0, l1, l2, l3] L2 (aI (x + y) :: St) S := ev_go i248_27 rfl
theorem i248_28 : insAt 248 28 = some (.iload_n 3, 1, (0, 0, 0, 0), 0) := rfl
theorem s248_28 {c : Nat → List AV → SS → Option Out} {l0 l1 l2 : Option AV} {x : Int32} {L2 : List (Nat × AV)} {St : List AV} {S : SS} : ev c 248 28 [l0, l1, l2, some (aI x)] L2 St S = ev c 248 29 [l0, l1, l2, some (aI x)] L2 (aI x :: St) S := ev_go i248_28 rfl
theorem i248_29 : insAt 248 29 = some (.iastore, 1, (0, 0, 0, 0), 0) := rfl
theorem s248_29 {c : Nat → List AV → SS → Option Out} {l0 l1 l2 l3 : Option AV} {x i : Int32} {o : OId} {L2 : List (Nat × AV)} {St : List AV} {S : SS} : ev c 248 29 [l0, l1, l2, l3] L2 (aI x :: aI i :: aR o :: St) S = kIw o i (ev c 248 30 [l0, l1, l2, l3] L2 St (setI S.1 o i.toNatClampNeg x, S.2)) := ev_iastore i248_29
theorem i248_30 : insAt 248 30 = some (.return_, 1, (0, 0, 0, 0), 0) := rfl
theorem s248_30 {c : Nat → List AV → SS → Option Out} {l0 l1 l2 l3 : Option AV} {L2 : List (Nat × AV)} {St : List AV} {S : SS} : ev c 248 30 [l0, l1, l2, l3] L2 [] S = some (.inl none, S) := ev_end i248_30 rfl
theorem m248 {d : Nat} {o : OId} {a0 : Int32} {a1 : Int32} {a2 : Int32} {S : SS} : evm (d + 1) 248 [aR o, aI a0, aI a1, aI a2] S = ev (evm d) 248 0 [some (aR o), some (aI a0), some (aI a1), some (aI a2)] [] [] S := evm_s (n := 4) rfl (Nat.le_of_ble_eq_true rfl) rfl rfl
/-! FrequencyOfficeModel.endsTrials()V -/
theorem i249_0 : insAt 249 0 = some (.aload_n 0, 1, (0, 0, 0, 0), 0) := rfl
theorem s249_0 {c : Nat → List AV → SS → Option Out} {l1 : Option AV} {o : OId} {L2 : List (Nat × AV)} {St : List AV} {S : SS} : ev c 249 0 [some (aR o), l1] L2 St S = ev c 249 1 [some (aR o), l1] L2 (aR o :: St) S := ev_go i249_0 rfl
theorem i249_1 : insAt 249 1 = some (.getfield 7, 3, (12, 0, 0, 0), 0) := rfl
theorem s249_1 {c : Nat → List AV → SS → Option Out} {l0 l1 : Option AV} {j t : Nat} {L2 : List (Nat × AV)} {St : List AV} {S : SS} : ev c 249 1 [l0, l1] L2 (aR (12, j, t) :: St) S = ev c 249 4 [l0, l1] L2 (S.2.2.1 (12, j, t) 0 :: St) S := ev_go i249_1 rfl
theorem i249_4 : insAt 249 4 = some (.bipush 7, 2, (0, 0, 0, 0), 0) := rfl
theorem s249_4 {c : Nat → List AV → SS → Option Out} {l0 l1 : Option AV} {L2 : List (Nat × AV)} {St : List AV} {S : SS} : ev c 249 4 [l0, l1] L2 St S = ev c 249 6 [l0, l1] L2 (aI 7 :: St) S := ev_go i249_4 rfl
theorem i249_6 : insAt 249 6 = some (.iaload, 1, (0, 0, 0, 0), 0) := rfl
theorem s249_6 {c : Nat → List AV → SS → Option Out} {l0 l1 : Option AV} {i : Int32} {o : OId} {L2 : List (Nat × AV)} {St : List AV} {S : SS} : ev c 249 6 [l0, l1] L2 (aI i :: aR o :: St) S = kI o i (ev c 249 7 [l0, l1] L2 (aI (agI S o i.toNatClampNeg) :: St) S) := ev_iaload i249_6
theorem i249_7 : insAt 249 7 = some (.iconst 1, 1, (0, 0, 0, 0), 0) := rfl
theorem s249_7 {c : Nat → List AV → SS → Option Out} {l0 l1 : Option AV} {L2 : List (Nat × AV)} {St : List AV} {S : SS} : ev c 249 7 [l0, l1] L2 St S = ev c 249 8 [l0, l1] L2 (aI 1 :: St) S := ev_go i249_7 rfl
theorem i249_8 : insAt 249 8 = some (.isub, 1, (0, 0, 0, 0), 0) := rfl
theorem s249_8 {c : Nat → List AV → SS → Option Out} {l0 l1 : Option AV} {x y : Int32} {L2 : List (Nat × AV)} {St : List AV} {S : SS} : ev c 249 8 [l0, l1] L2 (aI y :: aI x :: St) S = ev c 249 9 [l0, l1] L2 (aI (x - y) :: St) S := ev_go i249_8 rfl
theorem i249_9 : insAt 249 9 = some (.istore_n 1, 1, (0, 0, 0, 0), 0) := rfl
theorem s249_9 {c : Nat → List AV → SS → Option Out} {l0 l1 : Option AV} {x : Int32} {L2 : List (Nat × AV)} {St : List AV} {S : SS} : ev c 249 9 [l0, l1] L2 (aI x :: St) S = ev c 249 10 [l0, some (aI x)] (kil L2 1) St S := ev_go i249_9 rfl
theorem i249_10 : insAt 249 10 = some (.iload_n 1, 1, (0, 0, 0, 0), 0) := rfl
theorem s249_10 {c : Nat → List AV → SS → Option Out} {l0 : Option AV} {x : Int32} {L2 : List (Nat × AV)} {St : List AV} {S : SS} : ev c 249 10 [l0, some (aI x)] L2 St S = ev c 249 11 [l0, some (aI x)] L2 (aI x :: St) S := ev_go i249_10 rfl
theorem i249_11 : insAt 249 11 = some (.ifCond .lt 44, 3, (0, 0, 0, 0), 0) := rfl
theorem s249_11 {c : Nat → List AV → SS → Option Out} {l0 l1 : Option AV} {x : Int32} {L2 : List (Nat × AV)} {St : List AV} {S : SS} : ev c 249 11 [l0, l1] L2 (aI x :: St) S = if x < 0 then ev c 249 55 [l0, l1] L2 St S else ev c 249 14 [l0, l1] L2 St S := ev_br i249_11 rfl
theorem i249_14 : insAt 249 14 = some (.aload_n 0, 1, (0, 0, 0, 0), 0) := rfl
theorem s249_14 {c : Nat → List AV → SS → Option Out} {l1 : Option AV} {o : OId} {L2 : List (Nat × AV)} {St : List AV} {S : SS} : ev c 249 14 [some (aR o), l1] L2 St S = ev c 249 15 [some (aR o), l1] L2 (aR o :: St) S := ev_go i249_14 rfl
theorem i249_15 : insAt 249 15 = some (.iload_n 1, 1, (0, 0, 0, 0), 0) := rfl
theorem s249_15 {c : Nat → List AV → SS → Option Out} {l0 : Option AV} {x : Int32} {L2 : List (Nat × AV)} {St : List AV} {S : SS} : ev c 249 15 [l0, some (aI x)] L2 St S = ev c 249 16 [l0, some (aI x)] L2 (aI x :: St) S := ev_go i249_15 rfl
theorem i249_16 : insAt 249 16 = some (.invokevirtual 115, 3, (233, 1, 2, 12), 0) := rfl
theorem s249_16 {c : Nat → List AV → SS → Option Out} {l0 l1 : Option AV} {a0 : Int32} {j t : Nat} {L2 : List (Nat × AV)} {S : SS} : ev c 249 16 [l0, l1] L2 [aI a0, aR (12, j, t)] S = ck (c 233 [aR (12, j, t), aI a0] S) (fun v S' => ev c 249 19 [l0, l1] L2 (v.toList ++ []) S') := ev_call i249_16 rfl
theorem i249_19 : insAt 249 19 = some (.ifCond .ne 30, 3, (0, 0, 0, 0), 0) := rfl
theorem s249_19 {c : Nat → List AV → SS → Option Out} {l0 l1 : Option AV} {x : Int32} {L2 : List (Nat × AV)} {St : List AV} {S : SS} : ev c 249 19 [l0, l1] L2 (aI x :: St) S = if x = 0 then ev c 249 22 [l0, l1] L2 St S else ev c 249 49 [l0, l1] L2 St S := (ev_br i249_19 rfl).trans (ite_not _ _ _)
theorem i249_22 : insAt 249 22 = some (.aload_n 0, 1, (0, 0, 0, 0), 0) := rfl
theorem s249_22 {c : Nat → List AV → SS → Option Out} {l1 : Option AV} {o : OId} {L2 : List (Nat × AV)} {St : List AV} {S : SS} : ev c 249 22 [some (aR o), l1] L2 St S = ev c 249 23 [some (aR o), l1] L2 (aR o :: St) S := ev_go i249_22 rfl
theorem i249_23 : insAt 249 23 = some (.iload_n 1, 1, (0, 0, 0, 0), 0) := rfl
theorem s249_23 {c : Nat → List AV → SS → Option Out} {l0 : Option AV} {x : Int32} {L2 : List (Nat × AV)} {St : List AV} {S : SS} : ev c 249 23 [l0, some (aI x)] L2 St S = ev c 249 24 [l0, some (aI x)] L2 (aI x :: St) S := ev_go i249_23 rfl
theorem i249_24 : insAt 249 24 = some (.invokevirtual 147, 3, (250, 1, 2, 12), 0) := rfl
theorem s249_24 {c : Nat → List AV → SS → Option Out} {l0 l1 : Option AV} {a0 : Int32} {j t : Nat} {L2 : List (Nat × AV)} {S : SS} : ev c 249 24 [l0, l1] L2 [aI a0, aR (12, j, t)] S = ck (c 250 [aR (12, j, t), aI a0] S) (fun v S' => ev c 249 27 [l0, l1] L2 (v.toList ++ []) S') := ev_call i249_24 rfl
theorem i249_27 : insAt 249 27 = some (.ifCond .ne 6, 3, (0, 0, 0, 0), 0) := rfl
theorem s249_27 {c : Nat → List AV → SS → Option Out} {l0 l1 : Option AV} {x : Int32} {L2 : List (Nat × AV)} {St : List AV} {S : SS} : ev c 249 27 [l0, l1] L2 (aI x :: St) S = if x = 0 then ev c 249 30 [l0, l1] L2 St S else ev c 249 33 [l0, l1] L2 St S := (ev_br i249_27 rfl).trans (ite_not _ _ _)
theorem i249_30 : insAt 249 30 = some (.goto 19, 3, (0, 0, 0, 0), 0) := rfl
theorem s249_30 {c : Nat → List AV → SS → Option Out} {l0 l1 : Option AV} {L2 : List (Nat × AV)} {St : List AV} {S : SS} : ev c 249 30 [l0, l1] L2 St S = ev c 249 49 [l0, l1] L2 St S := ev_go i249_30 rfl
theorem i249_33 : insAt 249 33 = some (.aload_n 0, 1, (0, 0, 0, 0), 0) := rfl
theorem s249_33 {c : Nat → List AV → SS → Option Out} {l1 : Option AV} {o : OId} {L2 : List (Nat × AV)} {St : List AV} {S : SS} : ev c 249 33 [some (aR o), l1] L2 St S = ev c 249 34 [some (aR o), l1] L2 (aR o :: St) S := ev_go i249_33 rfl
theorem i249_34 : insAt 249 34 = some (.iload_n 1, 1, (0, 0, 0, 0), 0) := rfl
theorem s249_34 {c : Nat → List AV → SS → Option Out} {l0 : Option AV} {x : Int32} {L2 : List (Nat × AV)} {St : List AV} {S : SS} : ev c 249 34 [l0, some (aI x)] L2 St S = ev c 249 35 [l0, some (aI x)] L2 (aI x :: St) S := ev_go i249_34 rfl
theorem i249_35 : insAt 249 35 = some (.invokevirtual 150, 3, (252, 1, 2, 12), 0) := rfl
theorem s249_35 {c : Nat → List AV → SS → Option Out} {l0 l1 : Option AV} {a0 : Int32} {j t : Nat} {L2 : List (Nat × AV)} {S : SS} : ev c 249 35 [l0, l1] L2 [aI a0, aR (12, j, t)] S = ck (c 252 [aR (12, j, t), aI a0] S) (fun v S' => ev c 249 38 [l0, l1] L2 (v.toList ++ []) S') := ev_call i249_35 rfl
theorem i249_38 : insAt 249 38 = some (.aload_n 0, 1, (0, 0, 0, 0), 0) := rfl
theorem s249_38 {c : Nat → List AV → SS → Option Out} {l1 : Option AV} {o : OId} {L2 : List (Nat × AV)} {St : List AV} {S : SS} : ev c 249 38 [some (aR o), l1] L2 St S = ev c 249 39 [some (aR o), l1] L2 (aR o :: St) S := ev_go i249_38 rfl
theorem i249_39 : insAt 249 39 = some (.getfield 7, 3, (12, 0, 0, 0), 0) := rfl
theorem s249_39 {c : Nat → List AV → SS → Option Out} {l0 l1 : Option AV} {j t : Nat} {L2 : List (Nat × AV)} {St : List AV} {S : SS} : ev c 249 39 [l0, l1] L2 (aR (12, j, t) :: St) S = ev c 249 42 [l0, l1] L2 (S.2.2.1 (12, j, t) 0 :: St) S := ev_go i249_39 rfl
theorem i249_42 : insAt 249 42 = some (.bipush 6, 2, (0, 0, 0, 0), 0) := rfl
theorem s249_42 {c : Nat → List AV → SS → Option Out} {l0 l1 : Option AV} {L2 : List (Nat × AV)} {St : List AV} {S : SS} : ev c 249 42 [l0, l1] L2 St S = ev c 249 44 [l0, l1] L2 (aI 6 :: St) S := ev_go i249_42 rfl
theorem i249_44 : insAt 249 44 = some (.dup2, 1, (0, 0, 0, 0), 0) := rfl
theorem s249_44 {c : Nat → List AV → SS → Option Out} {l0 l1 : Option AV} {x : Int32} {y : OId} {L2 : List (Nat × AV)} {St : List AV} {S : SS} : ev c 249 44 [l0, l1] L2 (aI x :: aR y :: St) S = ev c 249 45 [l0, l1] L2 (aI x :: aR y :: aI x :: aR y :: St) S := ev_go i249_44 rfl
theorem i249_45 : insAt 249 45 = some (.iaload, 1, (0, 0, 0, 0), 0) := rfl
theorem s249_45 {c : Nat → List AV → SS → Option Out} {l0 l1 : Option AV} {i : Int32} {o : OId} {L2 : List (Nat × AV)} {St : List AV} {S : SS} : ev c 249 45 [l0, l1] L2 (aI i :: aR o :: St) S = kI o i (ev c 249 46 [l0, l1] L2 (aI (agI S o i.toNatClampNeg) :: St) S) := ev_iaload i249_45
theorem i249_46 : insAt 249 46 = some (.iconst 1, 1, (0, 0, 0, 0), 0) := rfl
theorem s249_46 {c : Nat → List AV → SS → Option Out} {l0 l1 : Option AV} {L2 : List (Nat × AV)} {St : List AV} {S : SS} : ev c 249 46 [l0, l1] L2 St S = ev c 249 47 [l0, l1] L2 (aI 1 :: St) S := ev_go i249_46 rfl
theorem i249_47 : insAt 249 47 = some (.iadd, 1, (0, 0, 0, 0), 0) := rfl
theorem s249_47 {c : Nat → List AV → SS → Option Out} {l0 l1 : Option AV} {x y : Int32} {L2 : List (Nat × AV)} {St : List AV} {S : SS} : ev c 249 47 [l0, l1] L2 (aI y :: aI x :: St) S = ev c 249 48 [l0, l1] L2 (aI (x + y) :: St) S := ev_go i249_47 rfl
theorem i249_48 : insAt 249 48 = some (.iastore, 1, (0, 0, 0, 0), 0) := rfl
theorem s249_48 {c : Nat → List AV → SS → Option Out} {l0 l1 : Option AV} {x i : Int32} {o : OId} {L2 : List (Nat × AV)} {St : List AV} {S : SS} : ev c 249 48 [l0, l1] L2 (aI x :: aI i :: aR o :: St) S = kIw o i (ev c 249 49 [l0, l1] L2 St (setI S.1 o i.toNatClampNeg x, S.2)) := ev_iastore i249_48
theorem i249_49 : insAt 249 49 = some (.iinc 1 (-1), 3, (0, 0, 0, 0), 0) := rfl
theorem s249_49 {c : Nat → List AV → SS → Option Out} {l0 : Option AV} {x : Int32} {L2 : List (Nat × AV)} {St : List AV} {S : SS} : ev c 249 49 [l0, some (aI x)] L2 St S = ev c 249 52 [l0, some (aI (x + (-1)))] (kil L2 1) St S := ev_go i249_49 rfl
theorem i249_52 : insAt 249 52 = some (.goto (-42), 3, (0, 0, 0, 0), 0) := rfl
theorem s249_52 {c : Nat → List AV → SS → Option Out} {l0 l1 : Option AV} {L2 : List (Nat × AV)} {St : List AV} {S : SS} : ev c 249 52 [l0, l1] L2 St S = ev c 249 10 [l0, l1] L2 St S := ev_go i249_52 rfl
theorem i249_55 : insAt 249 55 = some (.return_, 1, (0, 0, 0, 0), 0) := rfl
theorem s249_55 {c : Nat → List AV → SS → Option Out} {l0 l1 : Option AV} {L2 : List (Nat × AV)} {St : List AV} {S : SS} : ev c 249 55 [l0, l1] L2 [] S = some (.inl none, S) := ev_end i249_55 rfl
theorem m249 {d : Nat} {o : OId} {S : SS} : evm (d + 1) 249 [aR o] S = ev (evm d) 249 0 [some (aR o), none] [] [] S := evm_s (n := 2) rfl (Nat.le_of_ble_eq_true rfl) rfl rfl
/-! FrequencyOfficeModel.isInTheWay(I)Z -/
theorem i250_0 : insAt 250 0 = some (.iconst 0, 1, (0, 0, 0, 0), 0) := rfl
theorem s250_0 {c : Nat → List AV → SS → Option Out} {l0 l1 l2 : Option AV} {L2 : List (Nat × AV)} {St : List AV} {S : SS} : ev c 250 0 [l0, l1, l2] L2 St S = ev c 250 1 [l0, l1, l2] L2 (aI 0 :: St) S := ev_go i250_0 rfl
theorem i250_1 : insAt 250 1 = some (.istore_n 2, 1, (0, 0, 0, 0), 0) := rfl
theorem s250_1 {c : Nat → List AV → SS → Option Out} {l0 l1 l2 : Option AV} {x : Int32} {L2 : List (Nat × AV)} {St : List AV} {S : SS} : ev c 250 1 [l0, l1, l2] L2 (aI x :: St) S = ev c 250 2 [l0, l1, some (aI x)] (kil L2 2) St S := ev_go i250_1 rfl
theorem i250_2 : insAt 250 2 = some (.iload_n 2, 1, (0, 0, 0, 0), 0) := rfl
theorem s250_2 {c : Nat → List AV → SS → Option Out} {l0 l1 : Option AV} {x : Int32} {L2 : List (Nat × AV)} {St : List AV} {S : SS} : ev c 250 2 [l0, l1, some (aI x)] L2 St S = ev c 250 3 [l0, l1, some (aI x)] L2 (aI x :: St) S := ev_go i250_2 rfl
theorem i250_3 : insAt 250 3 = some (.aload_n 0, 1, (0, 0, 0, 0), 0) := rfl
theorem s250_3 {c : Nat → List AV → SS → Option Out} {l1 l2 : Option AV} {o : OId} {L2 : List (Nat × AV)} {St : List AV} {S : SS} : ev c 250 3 [some (aR o), l1, l2] L2 St S = ev c 250 4 [some (aR o), l1, l2] L2 (aR o :: St) S := ev_go i250_3 rfl
theorem i250_4 : insAt 250 4 = some (.getfield 7, 3, (12, 0, 0, 0), 0) := rfl
theorem s250_4 {c : Nat → List AV → SS → Option Out} {l0 l1 l2 : Option AV} {j t : Nat} {L2 : List (Nat × AV)} {St : List AV} {S : SS} : ev c 250 4 [l0, l1, l2] L2 (aR (12, j, t) :: St) S = ev c 250 7 [l0, l1, l2] L2 (S.2.2.1 (12, j, t) 0 :: St) S := ev_go i250_4 rfl
theorem i250_7 : insAt 250 7 = some (.bipush 7, 2, (0, 0, 0, 0), 0) := rfl
theorem s250_7 {c : Nat → List AV → SS → Option Out} {l0 l1 l2 : Option AV} {L2 : List (Nat × AV)} {St : List AV} {S : SS} : ev c 250 7 [l0, l1, l2] L2 St S = ev c 250 9 [l0, l1, l2] L2 (aI 7 :: St) S := ev_go i250_7 rfl
theorem i250_9 : insAt 250 9 = some (.iaload, 1, (0, 0, 0, 0), 0) := rfl
theorem s250_9 {c : Nat → List AV → SS → Option Out} {l0 l1 l2 : Option AV} {i : Int32} {o : OId} {L2 : List (Nat × AV)} {St : List AV} {S : SS} : ev c 250 9 [l0, l1, l2] L2 (aI i :: aR o :: St) S = kI o i (ev c 250 10 [l0, l1, l2] L2 (aI (agI S o i.toNatClampNeg) :: St) S) := ev_iaload i250_9
theorem i250_10 : insAt 250 10 = some (.if_icmp .ge 33, 3, (0, 0, 0, 0), 0) := rfl
theorem s250_10 {c : Nat → List AV → SS → Option Out} {l0 l1 l2 : Option AV} {x y : Int32} {L2 : List (Nat × AV)} {St : List AV} {S : SS} : ev c 250 10 [l0, l1, l2] L2 (aI y :: aI x :: St) S = if y ≤ x then ev c 250 43 [l0, l1, l2] L2 St S else ev c 250 13 [l0, l1, l2] L2 St S := ev_br i250_10 rfl
theorem i250_13 : insAt 250 13 = some (.iload_n 2, 1, (0, 0, 0, 0), 0) := rfl
theorem s250_13 {c : Nat → List AV → SS → Option Out} {l0 l1 : Option AV} {x : Int32} {L2 : List (Nat × AV)} {St : List AV} {S : SS} : ev c 250 13 [l0, l1, some (aI x)] L2 St S = ev c 250 14 [l0, l1, some (aI x)] L2 (aI x :: St) S := ev_go i250_13 rfl
theorem i250_14 : insAt 250 14 = some (.iload_n 1, 1, (0, 0, 0, 0), 0) := rfl
theorem s250_14 {c : Nat → List AV → SS → Option Out} {l0 l2 : Option AV} {x : Int32} {L2 : List (Nat × AV)} {St : List AV} {S : SS} : ev c 250 14 [l0, some (aI x), l2] L2 St S = ev c 250 15 [l0, some (aI x), l2] L2 (aI x :: St) S := ev_go i250_14 rfl
theorem i250_15 : insAt 250 15 = some (.if_icmp .eq 22, 3, (0, 0, 0, 0), 0) := rfl
theorem s250_15 {c : Nat → List AV → SS → Option Out} {l0 l1 l2 : Option AV} {x y : Int32} {L2 : List (Nat × AV)} {St : List AV} {S : SS} : ev c 250 15 [l0, l1, l2] L2 (aI y :: aI x :: St) S = if x = y then ev c 250 37 [l0, l1, l2] L2 St S else ev c 250 18 [l0, l1, l2] L2 St S := ev_br i250_15 rfl
theorem i250_18 : insAt 250 18 = some (.aload_n 0, 1, (0, 0, 0, 0), 0) := rfl
theorem s250_18 {c : Nat → List AV → SS → Option Out} {l1 l2 : Option AV} {o : OId} {L2 : List (Nat × AV)} {St : List AV} {S : SS} : ev c 250 18 [some (aR o), l1, l2] L2 St S = ev c 250 19 [some (aR o), l1, l2] L2 (aR o :: St) S := ev_go i250_18 rfl
theorem i250_19 : insAt 250 19 = some (.iload_n 2, 1, (0, 0, 0, 0), 0) := rfl
theorem s250_19 {c : Nat → List AV → SS → Option Out} {l0 l1 : Option AV} {x : Int32} {L2 : List (Nat × AV)} {St : List AV} {S : SS} : ev c 250 19 [l0, l1, some (aI x)] L2 St S = ev c 250 20 [l0, l1, some (aI x)] L2 (aI x :: St) S := ev_go i250_19 rfl
theorem i250_20 : insAt 250 20 = some (.invokevirtual 115, 3, (233, 1, 2, 12), 0) := rfl
theorem s250_20 {c : Nat → List AV → SS → Option Out} {l0 l1 l2 : Option AV} {a0 : Int32} {j t : Nat} {L2 : List (Nat × AV)} {S : SS} : ev c 250 20 [l0, l1, l2] L2 [aI a0, aR (12, j, t)] S = ck (c 233 [aR (12, j, t), aI a0] S) (fun v S' => ev c 250 23 [l0, l1, l2] L2 (v.toList ++ []) S') := ev_call i250_20 rfl
theorem i250_23 : insAt 250 23 = some (.ifCond .eq 14, 3, (0, 0, 0, 0), 0) := rfl
theorem s250_23 {c : Nat → List AV → SS → Option Out} {l0 l1 l2 : Option AV} {x : Int32} {L2 : List (Nat × AV)} {St : List AV} {S : SS} : ev c 250 23 [l0, l1, l2] L2 (aI x :: St) S = if x = 0 then ev c 250 37 [l0, l1, l2] L2 St S else ev c 250 26 [l0, l1, l2] L2 St S := ev_br i250_23 rfl
theorem i250_26 : insAt 250 26 = some (.aload_n 0, 1, (0, 0, 0, 0), 0) := rfl
theorem s250_26 {c : Nat → List AV → SS → Option Out} {l1 l2 : Option AV} {o : OId} {L2 : List (Nat × AV)} {St : List AV} {S : SS} : ev c 250 26 [some (aR o), l1, l2] L2 St S = ev c 250 27 [some (aR o), l1, l2] L2 (aR o :: St) S := ev_go i250_26 rfl
theorem i250_27 : insAt 250 27 = some (.iload_n 1, 1, (0, 0, 0, 0), 0) := rfl
theorem s250_27 {c : Nat → List AV → SS → Option Out} {l0 l2 : Option AV} {x : Int32} {L2 : List (Nat × AV)} {St : List AV} {S : SS} : ev c 250 27 [l0, some (aI x), l2] L2 St S = ev c 250 28 [l0, some (aI x), l2] L2 (aI x :: St) S := ev_go i250_27 rfl
theorem i250_28 : insAt 250 28 = some (.iload_n 2, 1, (0, 0, 0, 0), 0) := rfl
theorem s250_28 {c : Nat → List AV → SS → Option Out} {l0 l1 : Option AV} {x : Int32} {L2 : List (Nat × AV)} {St : List AV} {S : SS} : ev c 250 28 [l0, l1, some (aI x)] L2 St S = ev c 250 29 [l0, l1, some (aI x)] L2 (aI x :: St) S := ev_go i250_28 rfl
theorem i250_29 : insAt 250 29 = some (.invokevirtual 144, 3, (251, 2, 2, 12), 0) := rfl
theorem s250_29 {c : Nat → List AV → SS → Option Out} {l0 l1 l2 : Option AV} {a0 : Int32} {a1 : Int32} {j t : Nat} {L2 : List (Nat × AV)} {S : SS} : ev c 250 29 [l0, l1, l2] L2 [aI a1, aI a0, aR (12, j, t)] S = ck (c 251 [aR (12, j, t), aI a0, aI a1] S) (fun v S' => ev c 250 32 [l0, l1, l2] L2 (v.toList ++ []) S') := ev_call i250_29 rfl
theorem i250_32 : insAt 250 32 = some (.ifCond .eq 5, 3, (0, 0, 0, 0), 0) := rfl
theorem s250_32 {c : Nat → List AV → SS → Option Out} {l0 l1 l2 : Option AV} {x : Int32} {L2 : List (Nat × AV)} {St : List AV} {S : SS} : ev c 250 32 [l0, l1, l2] L2 (aI x :: St) S = if x = 0 then ev c 250 37 [l0, l1, l2] L2 St S else ev c 250 35 [l0, l1, l2] L2 St S := ev_br i250_32 rfl
theorem i250_35 : insAt 250 35 = some (.iconst 1, 1, (0, 0, 0, 0), 0) := rfl
theorem s250_35 {c : Nat → List AV → SS → Option Out} {l0 l1 l2 : Option AV} {L2 : List (Nat × AV)} {St : List AV} {S : SS} : ev c 250 35 [l0, l1, l2] L2 St S = ev c 250 36 [l0, l1, l2] L2 (aI 1 :: St) S := ev_go i250_35 rfl
theorem i250_36 : insAt 250 36 = some (.ireturn, 1, (0, 0, 0, 0), 0) := rfl
theorem s250_36 {c : Nat → List AV → SS → Option Out} {l0 l1 l2 : Option AV} {x : Int32} {L2 : List (Nat × AV)} {St : List AV} {S : SS} : ev c 250 36 [l0, l1, l2] L2 [aI x] S = if x = 0 ∨ x = 1 then some (.inl (some (aI x)), S) else none := ev_rt i250_36 rfl
theorem i250_37 : insAt 250 37 = some (.iinc 2 1, 3, (0, 0, 0, 0), 0) := rfl
theorem s250_37 {c : Nat → List AV → SS → Option Out} {l0 l1 : Option AV} {x : Int32} {L2 : List (Nat × AV)} {St : List AV} {S : SS} : ev c 250 37 [l0, l1, some (aI x)] L2 St S = ev c 250 40 [l0, l1, some (aI (x + 1))] (kil L2 2) St S := ev_go i250_37 rfl
theorem i250_40 : insAt 250 40 = some (.goto (-38), 3, (0, 0, 0, 0), 0) := rfl
theorem s250_40 {c : Nat → List AV → SS → Option Out} {l0 l1 l2 : Option AV} {L2 : List (Nat × AV)} {St : List AV} {S : SS} : ev c 250 40 [l0, l1, l2] L2 St S = ev c 250 2 [l0, l1, l2] L2 St S := ev_go i250_40 rfl
theorem i250_43 : insAt 250 43 = some (.iconst 0, 1, (0, 0, 0, 0), 0) := rfl
theorem s250_43 {c : Nat → List AV → SS → Option Out} {l0 l1 l2 : Option AV} {L2 : List (Nat × AV)} {St : List AV} {S : SS} : ev c 250 43 [l0, l1, l2] L2 St S = ev c 250 44 [l0, l1, l2] L2 (aI 0 :: St) S := ev_go i250_43 rfl
theorem i250_44 : insAt 250 44 = some (.ireturn, 1, (0, 0, 0, 0), 0) := rfl
theorem s250_44 {c : Nat → List AV → SS → Option Out} {l0 l1 l2 : Option AV} {x : Int32} {L2 : List (Nat × AV)} {St : List AV} {S : SS} : ev c 250 44 [l0, l1, l2] L2 [aI x] S = if x = 0 ∨ x = 1 then some (.inl (some (aI x)), S) else none := ev_rt i250_44 rfl
theorem m250 {d : Nat} {o : OId} {a0 : Int32} {S : SS} : evm (d + 1) 250 [aR o, aI a0] S = ev (evm d) 250 0 [some (aR o), some (aI a0), none] [] [] S := evm_s (n := 3) rfl (Nat.le_of_ble_eq_true rfl) rfl rfl
/-! FrequencyOfficeModel.conflict(II)Z -/
theorem i251_0 : insAt 251 0 = some (.aload_n 0, 1, (0, 0, 0, 0), 0) := rfl
theorem s251_0 {c : Nat → List AV → SS → Option Out} {l1 l2 : Option AV} {o : OId} {L2 : List (Nat × AV)} {St : List AV} {S : SS} : ev c 251 0 [some (aR o), l1, l2] L2 St S = ev c 251 1 [some (aR o), l1, l2] L2 (aR o :: St) S := ev_go i251_0 rfl
theorem i251_1 : insAt 251 1 = some (.iload_n 1, 1, (0, 0, 0, 0), 0) := rfl
theorem s251_1 {c : Nat → List AV → SS → Option Out} {l0 l2 : Option AV} {x : Int32} {L2 : List (Nat × AV)} {St : List AV} {S : SS} : ev c 251 1 [l0, some (aI x), l2] L2 St S = ev c 251 2 [l0, some (aI x), l2] L2 (aI x :: St) S := ev_go i251_1 rfl
theorem i251_2 : insAt 251 2 = some (.iconst 3, 1, (0, 0, 0, 0), 0) := rfl
theorem s251_2 {c : Nat → List AV → SS → Option Out} {l0 l1 l2 : Option AV} {L2 : List (Nat × AV)} {St : List AV} {S : SS} : ev c 251 2 [l0, l1, l2] L2 St S = ev c 251 3 [l0, l1, l2] L2 (aI 3 :: St) S := ev_go i251_2 rfl
theorem i251_3 : insAt 251 3 = some (.invokevirtual 75, 3, (234, 2, 2, 12), 0) := rfl
theorem s251_3 {c : Nat → List AV → SS → Option Out} {l0 l1 l2 : Option AV} {a0 : Int32} {a1 : Int32} {j t : Nat} {L2 : List (Nat × AV)} {S : SS} : ev c 251 3 [l0, l1, l2] L2 [aI a1, aI a0, aR (12, j, t)] S = ck (c 234 [aR (12, j, t), aI a0, aI a1] S) (fun v S' => ev c 251 6 [l0, l1, l2] L2 (v.toList ++ []) S') := ev_call i251_3 rfl
theorem i251_6 : insAt 251 6 = some (.aload_n 0, 1, (0, 0, 0, 0), 0) := rfl
theorem s251_6 {c : Nat → List AV → SS → Option Out} {l1 l2 : Option AV} {o : OId} {L2 : List (Nat × AV)} {St : List AV} {S : SS} : ev c 251 6 [some (aR o), l1, l2] L2 St S = ev c 251 7 [some (aR o), l1, l2] L2 (aR o :: St) S := ev_go i251_6 rfl
theorem i251_7 : insAt 251 7 = some (.iload_n 2, 1, (0, 0, 0, 0), 0) := rfl
theorem s251_7 {c : Nat → List AV → SS → Option Out} {l0 l1 : Option AV} {x : Int32} {L2 : List (Nat × AV)} {St : List AV} {S : SS} : ev c 251 7 [l0, l1, some (aI x)] L2 St S = ev c 251 8 [l0, l1, some (aI x)] L2 (aI x :: St) S := ev_go i251_7 rfl
theorem i251_8 : insAt 251 8 = some (.iconst 3, 1, (0, 0, 0, 0), 0) := rfl
theorem s251_8 {c : Nat → List AV → SS → Option Out} {l0 l1 l2 : Option AV} {L2 : List (Nat × AV)} {St : List AV} {S : SS} : ev c 251 8 [l0, l1, l2] L2 St S = ev c 251 9 [l0, l1, l2] L2 (aI 3 :: St) S := ev_go i251_8 rfl
theorem i251_9 : insAt 251 9 = some (.invokevirtual 75, 3, (234, 2, 2, 12), 0) := rfl
theorem s251_9 {c : Nat → List AV → SS → Option Out} {l0 l1 l2 : Option AV} {t0 : AV} {a0 : Int32} {a1 : Int32} {j t : Nat} {L2 : List (Nat × AV)} {S : SS} : ev c 251 9 [l0, l1, l2] L2 [aI a1, aI a0, aR (12, j, t), t0] S = ck (c 234 [aR (12, j, t), aI a0, aI a1] S) (fun v S' => ev c 251 12 [l0, l1, l2] L2 (v.toList ++ [t0]) S') := ev_call i251_9 rfl
theorem i251_12 : insAt 251 12 = some (.isub, 1, (0, 0, 0, 0), 0) := rfl
theorem s251_12 {c : Nat → List AV → SS → Option Out} {l0 l1 l2 : Option AV} {x y : Int32} {L2 : List (Nat × AV)} {St : List AV} {S : SS} : ev c 251 12 [l0, l1, l2] L2 (aI y :: aI x :: St) S = ev c 251 13 [l0, l1, l2] L2 (aI (x - y) :: St) S := ev_go i251_12 rfl
theorem i251_13 : insAt 251 13 = some (.invokestatic 109, 3, (235, 1, 0, 0), 0) := rfl
theorem s251_13 {c : Nat → List AV → SS → Option Out} {l0 l1 l2 : Option AV} {a0 : Int32} {L2 : List (Nat × AV)} {S : SS} : ev c 251 13 [l0, l1, l2] L2 [aI a0] S = ck (c 235 [aI a0] S) (fun v S' => ev c 251 16 [l0, l1, l2] L2 (v.toList ++ []) S') := ev_call i251_13 rfl
theorem i251_16 : insAt 251 16 = some (.aload_n 0, 1, (0, 0, 0, 0), 0) := rfl
theorem s251_16 {c : Nat → List AV → SS → Option Out} {l1 l2 : Option AV} {o : OId} {L2 : List (Nat × AV)} {St : List AV} {S : SS} : ev c 251 16 [some (aR o), l1, l2] L2 St S = ev c 251 17 [some (aR o), l1, l2] L2 (aR o :: St) S := ev_go i251_16 rfl
theorem i251_17 : insAt 251 17 = some (.iload_n 1, 1, (0, 0, 0, 0), 0) := rfl
theorem s251_17 {c : Nat → List AV → SS → Option Out} {l0 l2 : Option AV} {x : Int32} {L2 : List (Nat × AV)} {St : List AV} {S : SS} : ev c 251 17 [l0, some (aI x), l2] L2 St S = ev c 251 18 [l0, some (aI x), l2] L2 (aI x :: St) S := ev_go i251_17 rfl
theorem i251_18 : insAt 251 18 = some (.iload_n 2, 1, (0, 0, 0, 0), 0) := rfl
theorem s251_18 {c : Nat → List AV → SS → Option Out} {l0 l1 : Option AV} {x : Int32} {L2 : List (Nat × AV)} {St : List AV} {S : SS} : ev c 251 18 [l0, l1, some (aI x)] L2 St S = ev c 251 19 [l0, l1, some (aI x)] L2 (aI x :: St) S := ev_go i251_18 rfl
theorem i251_19 : insAt 251 19 = some (.invokevirtual 112, 3, (243, 2, 2, 12), 0) := rfl
theorem s251_19 {c : Nat → List AV → SS → Option Out} {l0 l1 l2 : Option AV} {t0 : AV} {a0 : Int32} {a1 : Int32} {j t : Nat} {L2 : List (Nat × AV)} {S : SS} : ev c 251 19 [l0, l1, l2] L2 [aI a1, aI a0, aR (12, j, t), t0] S = ck (c 243 [aR (12, j, t), aI a0, aI a1] S) (fun v S' => ev c 251 22 [l0, l1, l2] L2 (v.toList ++ [t0]) S') := ev_call i251_19 rfl
theorem i251_22 : insAt 251 22 = some (.if_icmp .ge 7, 3, (0, 0, 0, 0), 0) := rfl
theorem s251_22 {c : Nat → List AV → SS → Option Out} {l0 l1 l2 : Option AV} {x y : Int32} {L2 : List (Nat × AV)} {St : List AV} {S : SS} : ev c 251 22 [l0, l1, l2] L2 (aI y :: aI x :: St) S = if y ≤ x then ev c 251 29 [l0, l1, l2] L2 St S else ev c 251 25 [l0, l1, l2] L2 St S := ev_br i251_22 rfl
theorem i251_25 : insAt 251 25 = some (.iconst 1, 1, (0, 0, 0, 0), 0) := rfl
theorem s251_25 {c : Nat → List AV → SS → Option Out} {l0 l1 l2 : Option AV} {L2 : List (Nat × AV)} {St : List AV} {S : SS} : ev c 251 25 [l0, l1, l2] L2 St S = ev c 251 26 [l0, l1, l2] L2 (aI 1 :: St) S := ev_go i251_25 rfl
theorem i251_26 : insAt 251 26 = some (.goto 4, 3, (0, 0, 0, 0), 0) := rfl
theorem s251_26 {c : Nat → List AV → SS → Option Out} {l0 l1 l2 : Option AV} {L2 : List (Nat × AV)} {St : List AV} {S : SS} : ev c 251 26 [l0, l1, l2] L2 St S = ev c 251 30 [l0, l1, l2] L2 St S := ev_go i251_26 rfl
theorem i251_29 : insAt 251 29 = some (.iconst 0, 1, (0, 0, 0, 0), 0) := rfl
theorem s251_29 {c : Nat → List AV → SS → Option Out} {l0 l1 l2 : Option AV} {L2 : List (Nat × AV)} {St : List AV} {S : SS} : ev c 251 29 [l0, l1, l2] L2 St S = ev c 251 30 [l0, l1, l2] L2 (aI 0 :: St) S := ev_go i251_29 rfl
theorem i251_30 : insAt 251 30 = some (.ireturn, 1, (0, 0, 0, 0), 0) := rfl
theorem s251_30 {c : Nat → List AV → SS → Option Out} {l0 l1 l2 : Option AV} {x : Int32} {L2 : List (Nat × AV)} {St : List AV} {S : SS} : ev c 251 30 [l0, l1, l2] L2 [aI x] S = if x = 0 ∨ x = 1 then some (.inl (some (aI x)), S) else none := ev_rt i251_30 rfl
theorem m251 {d : Nat} {o : OId} {a0 : Int32} {a1 : Int32} {S : SS} : evm (d + 1) 251 [aR o, aI a0, aI a1] S = ev (evm d) 251 0 [some (aR o), some (aI a0), some (aI a1)] [] [] S := evm_s (n := 3) rfl (Nat.le_of_ble_eq_true rfl) rfl rfl
/-! FrequencyOfficeModel.takesOut(I)V -/
theorem i252_0 : insAt 252 0 = some (.aload_n 0, 1, (0, 0, 0, 0), 0) := rfl
theorem s252_0 {c : Nat → List AV → SS → Option Out} {l1 l2 l3 : Option AV} {o : OId} {L2 : List (Nat × AV)} {St : List AV} {S : SS} : ev c 252 0 [some (aR o), l1, l2, l3] L2 St S = ev c 252 1 [some (aR o), l1, l2, l3] L2 (aR o :: St) S := ev_go i252_0 rfl
theorem i252_1 : insAt 252 1 = some (.getfield 7, 3, (12, 0, 0, 0), 0) := rfl
theorem s252_1 {c : Nat → List AV → SS → Option Out} {l0 l1 l2 l3 : Option AV} {j t : Nat} {L2 : List (Nat × AV)} {St : List AV} {S : SS} : ev c 252 1 [l0, l1, l2, l3] L2 (aR (12, j, t) :: St) S = ev c 252 4 [l0, l1, l2, l3] L2 (S.2.2.1 (12, j, t) 0 :: St) S := ev_go i252_1 rfl
theorem i252_4 : insAt 252 4 = some (.bipush 7, 2, (0, 0, 0, 0), 0) := rfl
theorem s252_4 {c : Nat → List AV → SS → Option Out} {l0 l1 l2 l3 : Option AV} {L2 : List (Nat × AV)} {St : List AV} {S : SS} : ev c 252 4 [l0, l1, l2, l3] L2 St S = ev c 252 6 [l0, l1, l2, l3] L2 (aI 7 :: St) S := ev_go i252_4 rfl
theorem i252_6 : insAt 252 6 = some (.dup2, 1, (0, 0, 0, 0), 0) := rfl
theorem s252_6 {c : Nat → List AV → SS → Option Out} {l0 l1 l2 l3 : Option AV} {x : Int32} {y : OId} {L2 : List (Nat × AV)} {St : List AV} {S : SS} : ev c 252 6 [l0, l1, l2, l3] L2 (aI x :: aR y :: St) S = ev c 252 7 [l0, l1, l2, l3] L2 (aI x :: aR y :: aI x :: aR y :: St) S := ev_go i252_6 rfl
theorem i252_7 : insAt 252 7 = some (.iaload, 1, (0, 0, 0, 0), 0) := rfl
theorem s252_7 {c : Nat → List AV → SS → Option Out} {l0 l1 l2 l3 : Option AV} {i : Int32} {o : OId} {L2 : List (Nat × AV)} {St : List AV} {S : SS} : ev c 252 7 [l0, l1, l2, l3] L2 (aI i :: aR o :: St) S = kI o i (ev c 252 8 [l0, l1, l2, l3] L2 (aI (agI S o i.toNatClampNeg) :: St) S) := ev_iaload i252_7
theorem i252_8 : insAt 252 8 = some (.iconst 1, 1, (0, 0, 0, 0), 0) := rfl
theorem s252_8 {c : Nat → List AV → SS → Option Out} {l0 l1 l2 l3 : Option AV} {L2 : List (Nat × AV)} {St : List AV} {S : SS} : ev c 252 8 [l0, l1, l2, l3] L2 St S = ev c 252 9 [l0, l1, l2, l3] L2 (aI 1 :: St) S := ev_go i252_8 rfl
theorem i252_9 : insAt 252 9 = some (.isub, 1, (0, 0, 0, 0), 0) := rfl
theorem s252_9 {c : Nat → List AV → SS → Option Out} {l0 l1 l2 l3 : Option AV} {x y : Int32} {L2 : List (Nat × AV)} {St : List AV} {S : SS} : ev c 252 9 [l0, l1, l2, l3] L2 (aI y :: aI x :: St) S = ev c 252 10 [l0, l1, l2, l3] L2 (aI (x - y) :: St) S := ev_go i252_9 rfl
theorem i252_10 : insAt 252 10 = some (.iastore, 1, (0, 0, 0, 0), 0) := rfl
theorem s252_10 {c : Nat → List AV → SS → Option Out} {l0 l1 l2 l3 : Option AV} {x i : Int32} {o : OId} {L2 : List (Nat × AV)} {St : List AV} {S : SS} : ev c 252 10 [l0, l1, l2, l3] L2 (aI x :: aI i :: aR o :: St) S = kIw o i (ev c 252 11 [l0, l1, l2, l3] L2 St (setI S.1 o i.toNatClampNeg x, S.2)) := ev_iastore i252_10
theorem i252_11 : insAt 252 11 = some (.iload_n 1, 1, (0, 0, 0, 0), 0) := rfl
theorem s252_11 {c : Nat → List AV → SS → Option Out} {l0 l2 l3 : Option AV} {x : Int32} {L2 : List (Nat × AV)} {St : List AV} {S : SS} : ev c 252 11 [l0, some (aI x), l2, l3] L2 St S = ev c 252 12 [l0, some (aI x), l2, l3] L2 (aI x :: St) S := ev_go i252_11 rfl
theorem i252_12 : insAt 252 12 = some (.istore_n 2, 1, (0, 0, 0, 0), 0) := rfl
theorem s252_12 {c : Nat → List AV → SS → Option Out} {l0 l1 l2 l3 : Option AV} {x : Int32} {L2 : List (Nat × AV)} {St : List AV} {S : SS} : ev c 252 12 [l0, l1, l2, l3] L2 (aI x :: St) S = ev c 252 13 [l0, l1, some (aI x), l3] (kil L2 2) St S := ev_go i252_12 rfl
theorem i252_13 : insAt 252 13 = some (.iload_n 2, 1, (0, 0, 0, 0), 0) := rfl
theorem s252_13 {c : Nat → List AV → SS → Option Out} {l0 l1 l3 : Option AV} {x : Int32} {L2 : List (Nat × AV)} {St : List AV} {S : SS} : ev c 252 13 [l0, l1, some (aI x), l3] L2 St S = ev c 252 14 [l0, l1, some (aI x), l3] L2 (aI x :: St) S := ev_go i252_13 rfl
theorem i252_14 : insAt 252 14 = some (.aload_n 0, 1, (0, 0, 0, 0), 0) := rfl
theorem s252_14 {c : Nat → List AV → SS → Option Out} {l1 l2 l3 : Option AV} {o : OId} {L2 : List (Nat × AV)} {St : List AV} {S : SS} : ev c 252 14 [some (aR o), l1, l2, l3] L2 St S = ev c 252 15 [some (aR o), l1, l2, l3] L2 (aR o :: St) S := ev_go i252_14 rfl
theorem i252_15 : insAt 252 15 = some (.getfield 7, 3, (12, 0, 0, 0), 0) := rfl
theorem s252_15 {c : Nat → List AV → SS → Option Out} {l0 l1 l2 l3 : Option AV} {j t : Nat} {L2 : List (Nat × AV)} {St : List AV} {S : SS} : ev c 252 15 [l0, l1, l2, l3] L2 (aR (12, j, t) :: St) S = ev c 252 18 [l0, l1, l2, l3] L2 (S.2.2.1 (12, j, t) 0 :: St) S := ev_go i252_15 rfl
theorem i252_18 : insAt 252 18 = some (.bipush 7, 2, (0, 0, 0, 0), 0) := rfl
theorem s252_18 {c : Nat → List AV → SS → Option Out} {l0 l1 l2 l3 : Option AV} {L2 : List (Nat × AV)} {St : List AV} {S : SS} : ev c 252 18 [l0, l1, l2, l3] L2 St S = ev c 252 20 [l0, l1, l2, l3] L2 (aI 7 :: St) S := ev_go i252_18 rfl
theorem i252_20 : insAt 252 20 = some (.iaload, 1, (0, 0, 0, 0), 0) := rfl
theorem s252_20 {c : Nat → List AV → SS → Option Out} {l0 l1 l2 l3 : Option AV} {i : Int32} {o : OId} {L2 : List (Nat × AV)} {St : List AV} {S : SS} : ev c 252 20 [l0, l1, l2, l3] L2 (aI i :: aR o :: St) S = kI o i (ev c 252 21 [l0, l1, l2, l3] L2 (aI (agI S o i.toNatClampNeg) :: St) S) := ev_iaload i252_20
theorem i252_21 : insAt 252 21 = some (.if_icmp .ge 82, 3, (0, 0, 0, 0), 0) := rfl
theorem s252_21 {c : Nat → List AV → SS → Option Out} {l0 l1 l2 l3 : Option AV} {x y : Int32} {L2 : List (Nat × AV)} {St : List AV} {S : SS} : ev c 252 21 [l0, l1, l2, l3] L2 (aI y :: aI x :: St) S = if y ≤ x then ev c 252 103 [l0, l1, l2, l3] L2 St S else ev c 252 24 [l0, l1, l2, l3] L2 St S := ev_br i252_21 rfl
theorem i252_24 : insAt 252 24 = some (.iconst 0, 1, (0, 0, 0, 0), 0) := rfl
theorem s252_24 {c : Nat → List AV → SS → Option Out} {l0 l1 l2 l3 : Option AV} {L2 : List (Nat × AV)} {St : List AV} {S : SS} : ev c 252 24 [l0, l1, l2, l3] L2 St S = ev c 252 25 [l0, l1, l2, l3] L2 (aI 0 :: St) S := ev_go i252_24 rfl
theorem i252_25 : insAt 252 25 = some (.istore_n 3, 1, (0, 0, 0, 0), 0) := rfl
theorem s252_25 {c : Nat → List AV → SS → Option Out} {l0 l1 l2 l3 : Option AV} {x : Int32} {L2 : List (Nat × AV)} {St : List AV} {S : SS} : ev c 252 25 [l0, l1, l2, l3] L2 (aI x :: St) S = ev c 252 26 [l0, l1, l2, some (aI x)] (kil L2 3) St S := ev_go i252_25 rfl
theorem i252_26 : insAt 252 26 = some (.iload_n 3, 1, (0, 0, 0, 0), 0) := rfl
theorem s252_26 {c : Nat → List AV → SS → Option Out} {l0 l1 l2 : Option AV} {x : Int32} {L2 : List (Nat × AV)} {St : List AV} {S : SS} : ev c 252 26 [l0, l1, l2, some (aI x)] L2 St S = ev c 252 27 [l0, l1, l2, some (aI x)] L2 (aI x :: St) S := ev_go i252_26 rfl
theorem i252_27 : insAt 252 27 = some (.bipush 6, 2, (0, 0, 0, 0), 0) := rfl
theorem s252_27 {c : Nat → List AV → SS → Option Out} {l0 l1 l2 l3 : Option AV} {L2 : List (Nat × AV)} {St : List AV} {S : SS} : ev c 252 27 [l0, l1, l2, l3] L2 St S = ev c 252 29 [l0, l1, l2, l3] L2 (aI 6 :: St) S := ev_go i252_27 rfl
theorem i252_29 : insAt 252 29 = some (.if_icmp .ge 23, 3, (0, 0, 0, 0), 0) := rfl
theorem s252_29 {c : Nat → List AV → SS → Option Out} {l0 l1 l2 l3 : Option AV} {x y : Int32} {L2 : List (Nat × AV)} {St : List AV} {S : SS} : ev c 252 29 [l0, l1, l2, l3] L2 (aI y :: aI x :: St) S = if y ≤ x then ev c 252 52 [l0, l1, l2, l3] L2 St S else ev c 252 32 [l0, l1, l2, l3] L2 St S := ev_br i252_29 rfl
theorem i252_32 : insAt 252 32 = some (.aload_n 0, 1, (0, 0, 0, 0), 0) := rfl
theorem s252_32 {c : Nat → List AV → SS → Option Out} {l1 l2 l3 : Option AV} {o : OId} {L2 : List (Nat × AV)} {St : List AV} {S : SS} : ev c 252 32 [some (aR o), l1, l2, l3] L2 St S = ev c 252 33 [some (aR o), l1, l2, l3] L2 (aR o :: St) S := ev_go i252_32 rfl
theorem i252_33 : insAt 252 33 = some (.iload_n 2, 1, (0, 0, 0, 0), 0) := rfl
theorem s252_33 {c : Nat → List AV → SS → Option Out} {l0 l1 l3 : Option AV} {x : Int32} {L2 : List (Nat × AV)} {St : List AV} {S : SS} : ev c 252 33 [l0, l1, some (aI x), l3] L2 St S = ev c 252 34 [l0, l1, some (aI x), l3] L2 (aI x :: St) S := ev_go i252_33 rfl
theorem i252_34 : insAt 252 34 = some (.iload_n 3, 1, (0, 0, 0, 0), 0) := rfl
theorem s252_34 {c : Nat → List AV → SS → Option Out} {l0 l1 l2 : Option AV} {x : Int32} {L2 : List (Nat × AV)} {St : List AV} {S : SS} : ev c 252 34 [l0, l1, l2, some (aI x)] L2 St S = ev c 252 35 [l0, l1, l2, some (aI x)] L2 (aI x :: St) S := ev_go i252_34 rfl
theorem i252_35 : insAt 252 35 = some (.aload_n 0, 1, (0, 0, 0, 0), 0) := rfl
theorem s252_35 {c : Nat → List AV → SS → Option Out} {l1 l2 l3 : Option AV} {o : OId} {L2 : List (Nat × AV)} {St : List AV} {S : SS} : ev c 252 35 [some (aR o), l1, l2, l3] L2 St S = ev c 252 36 [some (aR o), l1, l2, l3] L2 (aR o :: St) S := ev_go i252_35 rfl
theorem i252_36 : insAt 252 36 = some (.iload_n 2, 1, (0, 0, 0, 0), 0) := rfl
theorem s252_36 {c : Nat → List AV → SS → Option Out} {l0 l1 l3 : Option AV} {x : Int32} {L2 : List (Nat × AV)} {St : List AV} {S : SS} : ev c 252 36 [l0, l1, some (aI x), l3] L2 St S = ev c 252 37 [l0, l1, some (aI x), l3] L2 (aI x :: St) S := ev_go i252_36 rfl
theorem i252_37 : insAt 252 37 = some (.iconst 1, 1, (0, 0, 0, 0), 0) := rfl
theorem s252_37 {c : Nat → List AV → SS → Option Out} {l0 l1 l2 l3 : Option AV} {L2 : List (Nat × AV)} {St : List AV} {S : SS} : ev c 252 37 [l0, l1, l2, l3] L2 St S = ev c 252 38 [l0, l1, l2, l3] L2 (aI 1 :: St) S := ev_go i252_37 rfl
theorem i252_38 : insAt 252 38 = some (.iadd, 1, (0, 0, 0, 0), 0) := rfl
theorem s252_38 {c : Nat → List AV → SS → Option Out} {l0 l1 l2 l3 : Option AV} {x y : Int32} {L2 : List (Nat × AV)} {St : List AV} {S : SS} : ev c 252 38 [l0, l1, l2, l3] L2 (aI y :: aI x :: St) S = ev c 252 39 [l0, l1, l2, l3] L2 (aI (x + y) :: St) S := ev_go i252_38 rfl
theorem i252_39 : insAt 252 39 = some (.iload_n 3, 1, (0, 0, 0, 0), 0) := rfl
theorem s252_39 {c : Nat → List AV → SS → Option Out} {l0 l1 l2 : Option AV} {x : Int32} {L2 : List (Nat × AV)} {St : List AV} {S : SS} : ev c 252 39 [l0, l1, l2, some (aI x)] L2 St S = ev c 252 40 [l0, l1, l2, some (aI x)] L2 (aI x :: St) S := ev_go i252_39 rfl
theorem i252_40 : insAt 252 40 = some (.invokevirtual 75, 3, (234, 2, 2, 12), 0) := rfl
theorem s252_40 {c : Nat → List AV → SS → Option Out} {l0 l1 l2 l3 : Option AV} {t0 t1 t2 : AV} {a0 : Int32} {a1 : Int32} {j t : Nat} {L2 : List (Nat × AV)} {S : SS} : ev c 252 40 [l0, l1, l2, l3] L2 [aI a1, aI a0, aR (12, j, t), t0, t1, t2] S = ck (c 234 [aR (12, j, t), aI a0, aI a1] S) (fun v S' => ev c 252 43 [l0, l1, l2, l3] L2 (v.toList ++ [t0, t1, t2]) S') := ev_call i252_40 rfl
theorem i252_43 : insAt 252 43 = some (.invokevirtual 79, 3, (245, 3, 2, 12), 0) := rfl
theorem s252_43 {c : Nat → List AV → SS → Option Out} {l0 l1 l2 l3 : Option AV} {a0 : Int32} {a1 : Int32} {a2 : Int32} {j t : Nat} {L2 : List (Nat × AV)} {S : SS} : ev c 252 43 [l0, l1, l2, l3] L2 [aI a2, aI a1, aI a0, aR (12, j, t)] S = ck (c 245 [aR (12, j, t), aI a0, aI a1, aI a2] S) (fun v S' => ev c 252 46 [l0, l1, l2, l3] L2 (v.toList ++ []) S') := ev_call i252_43 rfl
theorem i252_46 : insAt 252 46 = some (.iinc 3 1, 3, (0, 0, 0, 0), 0) := rfl
theorem s252_46 {c : Nat → List AV → SS → Option Out} {l0 l1 l2 : Option AV} {x : Int32} {L2 : List (Nat × AV)} {St : List AV} {S : SS} : ev c 252 46 [l0, l1, l2, some (aI x)] L2 St S = ev c 252 49 [l0, l1, l2, some (aI (x + 1))] (kil L2 3) St S := ev_go i252_46 rfl
theorem i252_49 : insAt 252 49 = some (.goto (-23), 3, (0, 0, 0, 0), 0) := rfl
theorem s252_49 {c : Nat → List AV → SS → Option Out} {l0 l1 l2 l3 : Option AV} {L2 : List (Nat × AV)} {St : List AV} {S : SS} : ev c 252 49 [l0, l1, l2, l3] L2 St S = ev c 252 26 [l0, l1, l2, l3] L2 St S := ev_go i252_49 rfl
theorem i252_52 : insAt 252 52 = some (.iconst 0, 1, (0, 0, 0, 0), 0) := rfl
theorem s252_52 {c : Nat → List AV → SS → Option Out} {l0 l1 l2 l3 : Option AV} {L2 : List (Nat × AV)} {St : List AV} {S : SS} : ev c 252 52 [l0, l1, l2, l3] L2 St S = ev c 252 53 [l0, l1, l2, l3] L2 (aI 0 :: St) S := ev_go i252_52 rfl
theorem i252_53 : insAt 252 53 = some (.istore_n 3, 1, (0, 0, 0, 0), 0) := rfl
theorem s252_53 {c : Nat → List AV → SS → Option Out} {l0 l1 l2 l3 : Option AV} {x : Int32} {L2 : List (Nat × AV)} {St : List AV} {S : SS} : ev c 252 53 [l0, l1, l2, l3] L2 (aI x :: St) S = ev c 252 54 [l0, l1, l2, some (aI x)] (kil L2 3) St S := ev_go i252_53 rfl
theorem i252_54 : insAt 252 54 = some (.iload_n 3, 1, (0, 0, 0, 0), 0) := rfl
theorem s252_54 {c : Nat → List AV → SS → Option Out} {l0 l1 l2 : Option AV} {x : Int32} {L2 : List (Nat × AV)} {St : List AV} {S : SS} : ev c 252 54 [l0, l1, l2, some (aI x)] L2 St S = ev c 252 55 [l0, l1, l2, some (aI x)] L2 (aI x :: St) S := ev_go i252_54 rfl
theorem i252_55 : insAt 252 55 = some (.bipush 7, 2, (0, 0, 0, 0), 0) := rfl
theorem s252_55 {c : Nat → List AV → SS → Option Out} {l0 l1 l2 l3 : Option AV} {L2 : List (Nat × AV)} {St : List AV} {S : SS} : ev c 252 55 [l0, l1, l2, l3] L2 St S = ev c 252 57 [l0, l1, l2, l3] L2 (aI 7 :: St) S := ev_go i252_55 rfl
theorem i252_57 : insAt 252 57 = some (.if_icmp .ge 40, 3, (0, 0, 0, 0), 0) := rfl
theorem s252_57 {c : Nat → List AV → SS → Option Out} {l0 l1 l2 l3 : Option AV} {x y : Int32} {L2 : List (Nat × AV)} {St : List AV} {S : SS} : ev c 252 57 [l0, l1, l2, l3] L2 (aI y :: aI x :: St) S = if y ≤ x then ev c 252 97 [l0, l1, l2, l3] L2 St S else ev c 252 60 [l0, l1, l2, l3] L2 St S := ev_br i252_57 rfl
theorem i252_60 : insAt 252 60 = some (.aload_n 0, 1, (0, 0, 0, 0), 0) := rfl
theorem s252_60 {c : Nat → List AV → SS → Option Out} {l1 l2 l3 : Option AV} {o : OId} {L2 : List (Nat × AV)} {St : List AV} {S : SS} : ev c 252 60 [some (aR o), l1, l2, l3] L2 St S = ev c 252 61 [some (aR o), l1, l2, l3] L2 (aR o :: St) S := ev_go i252_60 rfl
theorem i252_61 : insAt 252 61 = some (.getfield 7, 3, (12, 0, 0, 0), 0) := rfl
theorem s252_61 {c : Nat → List AV → SS → Option Out} {l0 l1 l2 l3 : Option AV} {j t : Nat} {L2 : List (Nat × AV)} {St : List AV} {S : SS} : ev c 252 61 [l0, l1, l2, l3] L2 (aR (12, j, t) :: St) S = ev c 252 64 [l0, l1, l2, l3] L2 (S.2.2.1 (12, j, t) 0 :: St) S := ev_go i252_61 rfl
theorem i252_64 : insAt 252 64 = some (.bipush 57, 2, (0, 0, 0, 0), 0) := rfl
theorem s252_64 {c : Nat → List AV → SS → Option Out} {l0 l1 l2 l3 : Option AV} {L2 : List (Nat × AV)} {St : List AV} {S : SS} : ev c 252 64 [l0, l1, l2, l3] L2 St S = ev c 252 66 [l0, l1, l2, l3] L2 (aI 57 :: St) S := ev_go i252_64 rfl
theorem i252_66 : insAt 252 66 = some (.bipush 7, 2, (0, 0, 0, 0), 0) := rfl
theorem s252_66 {c : Nat → List AV → SS → Option Out} {l0 l1 l2 l3 : Option AV} {L2 : List (Nat × AV)} {St : List AV} {S : SS} : ev c 252 66 [l0, l1, l2, l3] L2 St S = ev c 252 68 [l0, l1, l2, l3] L2 (aI 7 :: St) S := ev_go i252_66 rfl
theorem i252_68 : insAt 252 68 = some (.iload_n 2, 1, (0, 0, 0, 0), 0) := rfl
theorem s252_68 {c : Nat → List AV → SS → Option Out} {l0 l1 l3 : Option AV} {x : Int32} {L2 : List (Nat × AV)} {St : List AV} {S : SS} : ev c 252 68 [l0, l1, some (aI x), l3] L2 St S = ev c 252 69 [l0, l1, some (aI x), l3] L2 (aI x :: St) S := ev_go i252_68 rfl
theorem i252_69 : insAt 252 69 = some (.imul, 1, (0, 0, 0, 0), 0) := rfl
theorem s252_69 {c : Nat → List AV → SS → Option Out} {l0 l1 l2 l3 : Option AV} {x y : Int32} {L2 : List (Nat × AV)} {St : List AV} {S : SS} : ev c 252 69 [l0, l1, l2, l3] L2 (aI y :: aI x :: St) S = ev c 252 70 [l0, l1, l2, l3] L2 (aI (x * y) :: St) S := ev_go i252_69 rfl
theorem i252_70 : insAt 252 70 = some (.iadd, 1, (0, 0, 0, 0), 0) := rfl
theorem s252_70 {c : Nat → List AV → SS → Option Out} {l0 l1 l2 l3 : Option AV} {x y : Int32} {L2 : List (Nat × AV)} {St : List AV} {S : SS} : ev c 252 70 [l0, l1, l2, l3] L2 (aI y :: aI x :: St) S = ev c 252 71 [l0, l1, l2, l3] L2 (aI (x + y) :: St) S := ev_go i252_70 rfl
theorem i252_71 : insAt 252 71 = some (.iload_n 3, 1, (0, 0, 0, 0), 0) := rfl
theorem s252_71 {c : Nat → List AV → SS → Option Out} {l0 l1 l2 : Option AV} {x : Int32} {L2 : List (Nat × AV)} {St : List AV} {S : SS} : ev c 252 71 [l0, l1, l2, some (aI x)] L2 St S = ev c 252 72 [l0, l1, l2, some (aI x)] L2 (aI x :: St) S := ev_go i252_71 rfl
theorem i252_72 : insAt 252 72 = some (.iadd, 1, (0, 0, 0, 0), 0) := rfl
theorem s252_72 {c : Nat → List AV → SS → Option Out} {l0 l1 l2 l3 : Option AV} {x y : Int32} {L2 : List (Nat × AV)} {St : List AV} {S : SS} : ev c 252 72 [l0, l1, l2, l3] L2 (aI y :: aI x :: St) S = ev c 252 73 [l0, l1, l2, l3] L2 (aI (x + y) :: St) S := ev_go i252_72 rfl
theorem i252_73 : insAt 252 73 = some (.aload_n 0, 1, (0, 0, 0, 0), 0) := rfl
theorem s252_73 {c : Nat → List AV → SS → Option Out} {l1 l2 l3 : Option AV} {o : OId} {L2 : List (Nat × AV)} {St : List AV} {S : SS} : ev c 252 73 [some (aR o), l1, l2, l3] L2 St S = ev c 252 74 [some (aR o), l1, l2, l3] L2 (aR o :: St) S := ev_go i252_73 rfl
theorem i252_74 : insAt 252 74 = some (.getfield 7, 3, (12, 0, 0, 0), 0) := rfl
theorem s252_74 {c : Nat → List AV → SS → Option Out} {l0 l1 l2 l3 : Option AV} {j t : Nat} {L2 : List (Nat × AV)} {St : List AV} {S : SS} : ev c 252 74 [l0, l1, l2, l3] L2 (aR (12, j, t) :: St) S = ev c 252 77 [l0, l1, l2, l3] L2 (S.2.2.1 (12, j, t) 0 :: St) S := ev_go i252_74 rfl
theorem i252_77 : insAt 252 77 = some (.bipush 57, 2, (0, 0, 0, 0), 0) := rfl
theorem s252_77 {c : Nat → List AV → SS → Option Out} {l0 l1 l2 l3 : Option AV} {L2 : List (Nat × AV)} {St : List AV} {S : SS} : ev c 252 77 [l0, l1, l2, l3] L2 St S = ev c 252 79 [l0, l1, l2, l3] L2 (aI 57 :: St) S := ev_go i252_77 rfl
theorem i252_79 : insAt 252 79 = some (.bipush 7, 2, (0, 0, 0, 0), 0) := rfl
theorem s252_79 {c : Nat → List AV → SS → Option Out} {l0 l1 l2 l3 : Option AV} {L2 : List (Nat × AV)} {St : List AV} {S : SS} : ev c 252 79 [l0, l1, l2, l3] L2 St S = ev c 252 81 [l0, l1, l2, l3] L2 (aI 7 :: St) S := ev_go i252_79 rfl
theorem i252_81 : insAt 252 81 = some (.iload_n 2, 1, (0, 0, 0, 0), 0) := rfl
theorem s252_81 {c : Nat → List AV → SS → Option Out} {l0 l1 l3 : Option AV} {x : Int32} {L2 : List (Nat × AV)} {St : List AV} {S : SS} : ev c 252 81 [l0, l1, some (aI x), l3] L2 St S = ev c 252 82 [l0, l1, some (aI x), l3] L2 (aI x :: St) S := ev_go i252_81 rfl
theorem i252_82 : insAt 252 82 = some (.imul, 1, (0, 0, 0, 0), 0) := rfl
theorem s252_82 {c : Nat → List AV → SS → Option Out} {l0 l1 l2 l3 : Option AV} {x y : Int32} {L2 : List (Nat × AV)} {St : List AV} {S : SS} : ev c 252 82 [l0, l1, l2, l3] L2 (aI y :: aI x :: St) S = ev c 252 83 [l0, l1, l2, l3] L2 (aI (x * y) :: St) S := ev_go i252_82 rfl
theorem i252_83 : insAt 252 83 = some (.iadd, 1, (0, 0, 0, 0), 0) := rfl
theorem s252_83 {c : Nat → List AV → SS → Option Out} {l0 l1 l2 l3 : Option AV} {x y : Int32} {L2 : List (Nat × AV)} {St : List AV} {S : SS} : ev c 252 83 [l0, l1, l2, l3] L2 (aI y :: aI x :: St) S = ev c 252 84 [l0, l1, l2, l3] L2 (aI (x + y) :: St) S := ev_go i252_83 rfl
theorem i252_84 : insAt 252 84 = some (.bipush 7, 2, (0, 0, 0, 0), 0) := rfl
theorem s252_84 {c : Nat → List AV → SS → Option Out} {l0 l1 l2 l3 : Option AV} {L2 : List (Nat × AV)} {St : List AV} {S : SS} : ev c 252 84 [l0, l1, l2, l3] L2 St S = ev c 252 86 [l0, l1, l2, l3] L2 (aI 7 :: St) S := ev_go i252_84 rfl
theorem i252_86 : insAt 252 86 = some (.iadd, 1, (0, 0, 0, 0), 0) := rfl
theorem s252_86 {c : Nat → List AV → SS → Option Out} {l0 l1 l2 l3 : Option AV} {x y : Int32} {L2 : List (Nat × AV)} {St : List AV} {S : SS} : ev c 252 86 [l0, l1, l2, l3] L2 (aI y :: aI x :: St) S = ev c 252 87 [l0, l1, l2, l3] L2 (aI (x + y) :: St) S := ev_go i252_86 rfl
theorem i252_87 : insAt 252 87 = some (.iload_n 3, 1, (0, 0, 0, 0), 0) := rfl
theorem s252_87 {c : Nat → List AV → SS → Option Out} {l0 l1 l2 : Option AV} {x : Int32} {L2 : List (Nat × AV)} {St : List AV} {S : SS} : ev c 252 87 [l0, l1, l2, some (aI x)] L2 St S = ev c 252 88 [l0, l1, l2, some (aI x)] L2 (aI x :: St) S := ev_go i252_87 rfl
theorem i252_88 : insAt 252 88 = some (.iadd, 1, (0, 0, 0, 0), 0) := rfl
theorem s252_88 {c : Nat → List AV → SS → Option Out} {l0 l1 l2 l3 : Option AV} {x y : Int32} {L2 : List (Nat × AV)} {St : List AV} {S : SS} : ev c 252 88 [l0, l1, l2, l3] L2 (aI y :: aI x :: St) S = ev c 252 89 [l0, l1, l2, l3] L2 (aI (x + y) :: St) S := ev_go i252_88 rfl
theorem i252_89 : insAt 252 89 = some (.iaload, 1, (0, 0, 0, 0), 0) := rfl
theorem s252_89 {c : Nat → List AV → SS → Option Out} {l0 l1 l2 l3 : Option AV} {i : Int32} {o : OId} {L2 : List (Nat × AV)} {St : List AV} {S : SS} : ev c 252 89 [l0, l1, l2, l3] L2 (aI i :: aR o :: St) S = kI o i (ev c 252 90 [l0, l1, l2, l3] L2 (aI (agI S o i.toNatClampNeg) :: St) S) := ev_iaload i252_89
theorem i252_90 : insAt 252 90 = some (.iastore, 1, (0, 0, 0, 0), 0) := rfl
theorem s252_90 {c : Nat → List AV → SS → Option Out} {l0 l1 l2 l3 : Option AV} {x i : Int32} {o : OId} {L2 : List (Nat × AV)} {St : List AV} {S : SS} : ev c 252 90 [l0, l1, l2, l3] L2 (aI x :: aI i :: aR o :: St) S = kIw o i (ev c 252 91 [l0, l1, l2, l3] L2 St (setI S.1 o i.toNatClampNeg x, S.2)) := ev_iastore i252_90
theorem i252_91 : insAt 252 91 = some (.iinc 3 1, 3, (0, 0, 0, 0), 0) := rfl
theorem s252_91 {c : Nat → List AV → SS → Option Out} {l0 l1 l2 : Option AV} {x : Int32} {L2 : List (Nat × AV)} {St : List AV} {S : SS} : ev c 252 91 [l0, l1, l2, some (aI x)] L2 St S = ev c 252 94 [l0, l1, l2, some (aI (x + 1))] (kil L2 3) St S := ev_go i252_91 rfl
theorem i252_94 : insAt 252 94 = some (.goto (-40), 3, (0, 0, 0, 0), 0) := rfl
theorem s252_94 {c : Nat → List AV → SS → Option Out} {l0 l1 l2 l3 : Option AV} {L2 : List (Nat × AV)} {St : List AV} {S : SS} : ev c 252 94 [l0, l1, l2, l3] L2 St S = ev c 252 54 [l0, l1, l2, l3] L2 St S := ev_go i252_94 rfl
theorem i252_97 : insAt 252 97 = some (.iinc 2 1, 3, (0, 0, 0, 0), 0) := rfl
theorem s252_97 {c : Nat → List AV → SS → Option Out} {l0 l1 l3 : Option AV} {x : Int32} {L2 : List (Nat × AV)} {St : List AV} {S : SS} : ev c 252 97 [l0, l1, some (aI x), l3] L2 St S = ev c 252 100 [l0, l1, some (aI (x + 1)), l3] (kil L2 2) St S := ev_go i252_97 rfl
theorem i252_100 : insAt 252 100 = some (.goto (-87), 3, (0, 0, 0, 0), 0) := rfl
theorem s252_100 {c : Nat → List AV → SS → Option Out} {l0 l1 l2 l3 : Option AV} {L2 : List (Nat × AV)} {St : List AV} {S : SS} : ev c 252 100 [l0, l1, l2, l3] L2 St S = ev c 252 13 [l0, l1, l2, l3] L2 St S := ev_go i252_100 rfl
theorem i252_103 : insAt 252 103 = some (.iconst 0, 1, (0, 0, 0, 0), 0) := rfl
theorem s252_103 {c : Nat → List AV → SS → Option Out} {l0 l1 l2 l3 : Option AV} {L2 : List (Nat × AV)} {St : List AV} {S : SS} : ev c 252 103 [l0, l1, l2, l3] L2 St S = ev c 252 104 [l0, l1, l2, l3] L2 (aI 0 :: St) S := ev_go i252_103 rfl
theorem i252_104 : insAt 252 104 = some (.istore_n 2, 1, (0, 0, 0, 0), 0) := rfl
theorem s252_104 {c : Nat → List AV → SS → Option Out} {l0 l1 l2 l3 : Option AV} {x : Int32} {L2 : List (Nat × AV)} {St : List AV} {S : SS} : ev c 252 104 [l0, l1, l2, l3] L2 (aI x :: St) S = ev c 252 105 [l0, l1, some (aI x), l3] (kil L2 2) St S := ev_go i252_104 rfl
theorem i252_105 : insAt 252 105 = some (.iload_n 2, 1, (0, 0, 0, 0), 0) := rfl
theorem s252_105 {c : Nat → List AV → SS → Option Out} {l0 l1 l3 : Option AV} {x : Int32} {L2 : List (Nat × AV)} {St : List AV} {S : SS} : ev c 252 105 [l0, l1, some (aI x), l3] L2 St S = ev c 252 106 [l0, l1, some (aI x), l3] L2 (aI x :: St) S := ev_go i252_105 rfl
theorem i252_106 : insAt 252 106 = some (.aload_n 0, 1, (0, 0, 0, 0), 0) := rfl
theorem s252_106 {c : Nat → List AV → SS → Option Out} {l1 l2 l3 : Option AV} {o : OId} {L2 : List (Nat × AV)} {St : List AV} {S : SS} : ev c 252 106 [some (aR o), l1, l2, l3] L2 St S = ev c 252 107 [some (aR o), l1, l2, l3] L2 (aR o :: St) S := ev_go i252_106 rfl
theorem i252_107 : insAt 252 107 = some (.getfield 7, 3, (12, 0, 0, 0), 0) := rfl
theorem s252_107 {c : Nat → List AV → SS → Option Out} {l0 l1 l2 l3 : Option AV} {j t : Nat} {L2 : List (Nat × AV)} {St : List AV} {S : SS} : ev c 252 107 [l0, l1, l2, l3] L2 (aR (12, j, t) :: St) S = ev c 252 110 [l0, l1, l2, l3] L2 (S.2.2.1 (12, j, t) 0 :: St) S := ev_go i252_107 rfl
theorem i252_110 : insAt 252 110 = some (.bipush 7, 2, (0, 0, 0, 0), 0) := rfl
theorem s252_110 {c : Nat → List AV → SS → Option Out} {l0 l1 l2 l3 : Option AV} {L2 : List (Nat × AV)} {St : List AV} {S : SS} : ev c 252 110 [l0, l1, l2, l3] L2 St S = ev c 252 112 [l0, l1, l2, l3] L2 (aI 7 :: St) S := ev_go i252_110 rfl
theorem i252_112 : insAt 252 112 = some (.iaload, 1, (0, 0, 0, 0), 0) := rfl
theorem s252_112 {c : Nat → List AV → SS → Option Out} {l0 l1 l2 l3 : Option AV} {i : Int32} {o : OId} {L2 : List (Nat × AV)} {St : List AV} {S : SS} : ev c 252 112 [l0, l1, l2, l3] L2 (aI i :: aR o :: St) S = kI o i (ev c 252 113 [l0, l1, l2, l3] L2 (aI (agI S o i.toNatClampNeg) :: St) S) := ev_iaload i252_112
theorem i252_113 : insAt 252 113 = some (.if_icmp .ge 58, 3, (0, 0, 0, 0), 0) := rfl
theorem s252_113 {c : Nat → List AV → SS → Option Out} {l0 l1 l2 l3 : Option AV} {x y : Int32} {L2 : List (Nat × AV)} {St : List AV} {S : SS} : ev c 252 113 [l0, l1, l2, l3] L2 (aI y :: aI x :: St) S = if y ≤ x then ev c 252 171 [l0, l1, l2, l3] L2 St S else ev c 252 116 [l0, l1, l2, l3] L2 St S := ev_br i252_113 rfl
theorem i252_116 : insAt 252 116 = some (.iload_n 1, 1, (0, 0, 0, 0), 0) := rfl
theorem s252_116 {c : Nat → List AV → SS → Option Out} {l0 l2 l3 : Option AV} {x : Int32} {L2 : List (Nat × AV)} {St : List AV} {S : SS} : ev c 252 116 [l0, some (aI x), l2, l3] L2 St S = ev c 252 117 [l0, some (aI x), l2, l3] L2 (aI x :: St) S := ev_go i252_116 rfl
theorem i252_117 : insAt 252 117 = some (.istore_n 3, 1, (0, 0, 0, 0), 0) := rfl
theorem s252_117 {c : Nat → List AV → SS → Option Out} {l0 l1 l2 l3 : Option AV} {x : Int32} {L2 : List (Nat × AV)} {St : List AV} {S : SS} : ev c 252 117 [l0, l1, l2, l3] L2 (aI x :: St) S = ev c 252 118 [l0, l1, l2, some (aI x)] (kil L2 3) St S := ev_go i252_117 rfl
theorem i252_118 : insAt 252 118 = some (.iload_n 3, 1, (0, 0, 0, 0), 0) := rfl
theorem s252_118 {c : Nat → List AV → SS → Option Out} {l0 l1 l2 : Option AV} {x : Int32} {L2 : List (Nat × AV)} {St : List AV} {S : SS} : ev c 252 118 [l0, l1, l2, some (aI x)] L2 St S = ev c 252 119 [l0, l1, l2, some (aI x)] L2 (aI x :: St) S := ev_go i252_118 rfl
theorem i252_119 : insAt 252 119 = some (.aload_n 0, 1, (0, 0, 0, 0), 0) := rfl
theorem s252_119 {c : Nat → List AV → SS → Option Out} {l1 l2 l3 : Option AV} {o : OId} {L2 : List (Nat × AV)} {St : List AV} {S : SS} : ev c 252 119 [some (aR o), l1, l2, l3] L2 St S = ev c 252 120 [some (aR o), l1, l2, l3] L2 (aR o :: St) S := ev_go i252_119 rfl
theorem i252_120 : insAt 252 120 = some (.getfield 7, 3, (12, 0, 0, 0), 0) := rfl
theorem s252_120 {c : Nat → List AV → SS → Option Out} {l0 l1 l2 l3 : Option AV} {j t : Nat} {L2 : List (Nat × AV)} {St : List AV} {S : SS} : ev c 252 120 [l0, l1, l2, l3] L2 (aR (12, j, t) :: St) S = ev c 252 123 [l0, l1, l2, l3] L2 (S.2.2.1 (12, j, t) 0 :: St) S := ev_go i252_120 rfl
theorem i252_123 : insAt 252 123 = some (.bipush 7, 2, (0, 0, 0, 0), 0) := rfl
theorem s252_123 {c : Nat → List AV → SS → Option Out} {l0 l1 l2 l3 : Option AV} {L2 : List (Nat × AV)} {St : List AV} {S : SS} : ev c 252 123 [l0, l1, l2, l3] L2 St S = ev c 252 125 [l0, l1, l2, l3] L2 (aI 7 :: St) S := ev_go i252_123 rfl
theorem i252_125 : insAt 252 125 = some (.iaload, 1, (0, 0, 0, 0), 0) := rfl
theorem s252_125 {c : Nat → List AV → SS → Option Out} {l0 l1 l2 l3 : Option AV} {i : Int32} {o : OId} {L2 : List (Nat × AV)} {St : List AV} {S : SS} : ev c 252 125 [l0, l1, l2, l3] L2 (aI i :: aR o :: St) S = kI o i (ev c 252 126 [l0, l1, l2, l3] L2 (aI (agI S o i.toNatClampNeg) :: St) S) := ev_iaload i252_125
theorem i252_126 : insAt 252 126 = some (.if_icmp .ge 39, 3, (0, 0, 0, 0), 0) := rfl
theorem s252_126 {c : Nat → List AV → SS → Option Out} {l0 l1 l2 l3 : Option AV} {x y : Int32} {L2 : List (Nat × AV)} {St : List AV} {S : SS} : ev c 252 126 [l0, l1, l2, l3] L2 (aI y :: aI x :: St) S = if y ≤ x then ev c 252 165 [l0, l1, l2, l3] L2 St S else ev c 252 129 [l0, l1, l2, l3] L2 St S := ev_br i252_126 rfl
theorem i252_129 : insAt 252 129 = some (.aload_n 0, 1, (0, 0, 0, 0), 0) := rfl
theorem s252_129 {c : Nat → List AV → SS → Option Out} {l1 l2 l3 : Option AV} {o : OId} {L2 : List (Nat × AV)} {St : List AV} {S : SS} : ev c 252 129 [some (aR o), l1, l2, l3] L2 St S = ev c 252 130 [some (aR o), l1, l2, l3] L2 (aR o :: St) S := ev_go i252_129 rfl
theorem i252_130 : insAt 252 130 = some (.getfield 7, 3, (12, 0, 0, 0), 0) := rfl
theorem s252_130 {c : Nat → List AV → SS → Option Out} {l0 l1 l2 l3 : Option AV} {j t : Nat} {L2 : List (Nat × AV)} {St : List AV} {S : SS} : ev c 252 130 [l0, l1, l2, l3] L2 (aR (12, j, t) :: St) S = ev c 252 133 [l0, l1, l2, l3] L2 (S.2.2.1 (12, j, t) 0 :: St) S := ev_go i252_130 rfl
theorem i252_133 : insAt 252 133 = some (.bipush 57, 2, (0, 0, 0, 0), 0) := rfl
theorem s252_133 {c : Nat → List AV → SS → Option Out} {l0 l1 l2 l3 : Option AV} {L2 : List (Nat × AV)} {St : List AV} {S : SS} : ev c 252 133 [l0, l1, l2, l3] L2 St S = ev c 252 135 [l0, l1, l2, l3] L2 (aI 57 :: St) S := ev_go i252_133 rfl
theorem i252_135 : insAt 252 135 = some (.bipush 7, 2, (0, 0, 0, 0), 0) := rfl
theorem s252_135 {c : Nat → List AV → SS → Option Out} {l0 l1 l2 l3 : Option AV} {L2 : List (Nat × AV)} {St : List AV} {S : SS} : ev c 252 135 [l0, l1, l2, l3] L2 St S = ev c 252 137 [l0, l1, l2, l3] L2 (aI 7 :: St) S := ev_go i252_135 rfl
theorem i252_137 : insAt 252 137 = some (.iload_n 2, 1, (0, 0, 0, 0), 0) := rfl
theorem s252_137 {c : Nat → List AV → SS → Option Out} {l0 l1 l3 : Option AV} {x : Int32} {L2 : List (Nat × AV)} {St : List AV} {S : SS} : ev c 252 137 [l0, l1, some (aI x), l3] L2 St S = ev c 252 138 [l0, l1, some (aI x), l3] L2 (aI x :: St) S := ev_go i252_137 rfl
theorem i252_138 : insAt 252 138 = some (.imul, 1, (0, 0, 0, 0), 0) := rfl
theorem s252_138 {c : Nat → List AV → SS → Option Out} {l0 l1 l2 l3 : Option AV} {x y : Int32} {L2 : List (Nat × AV)} {St : List AV} {S : SS} : ev c 252 138 [l0, l1, l2, l3] L2 (aI y :: aI x :: St) S = ev c 252 139 [l0, l1, l2, l3] L2 (aI (x * y) :: St) S := ev_go i252_138 rfl
theorem i252_139 : insAt 252 139 = some (.iadd, 1, (0, 0, 0, 0), 0) := rfl
theorem s252_139 {c : Nat → List AV → SS → Option Out} {l0 l1 l2 l3 : Option AV} {x y : Int32} {L2 : List (Nat × AV)} {St : List AV} {S : SS} : ev c 252 139 [l0, l1, l2, l3] L2 (aI y :: aI x :: St) S = ev c 252 140 [l0, l1, l2, l3] L2 (aI (x + y) :: St) S := ev_go i252_139 rfl
theorem i252_140 : insAt 252 140 = some (.iload_n 3, 1, (0, 0, 0, 0), 0) := rfl
theorem s252_140 {c : Nat → List AV → SS → Option Out} {l0 l1 l2 : Option AV} {x : Int32} {L2 : List (Nat × AV)} {St : List AV} {S : SS} : ev c 252 140 [l0, l1, l2, some (aI x)] L2 St S = ev c 252 141 [l0, l1, l2, some (aI x)] L2 (aI x :: St) S := ev_go i252_140 rfl
theorem i252_141 : insAt 252 141 = some (.iadd, 1, (0, 0, 0, 0), 0) := rfl
theorem s252_141 {c : Nat → List AV → SS → Option Out} {l0 l1 l2 l3 : Option AV} {x y : Int32} {L2 : List (Nat × AV)} {St : List AV} {S : SS} : ev c 252 141 [l0, l1, l2, l3] L2 (aI y :: aI x :: St) S = ev c 252 142 [l0, l1, l2, l3] L2 (aI (x + y) :: St) S := ev_go i252_141 rfl
theorem i252_142 : insAt 252 142 = some (.aload_n 0, 1, (0, 0, 0, 0), 0) := rfl
theorem s252_142 {c : Nat → List AV → SS → Option Out} {l1 l2 l3 : Option AV} {o : OId} {L2 : List (Nat × AV)} {St : List AV} {S : SS} : ev c 252 142 [some (aR o), l1, l2, l3] L2 St S = ev c 252 143 [some (aR o), l1, l2, l3] L2 (aR o :: St) S := ev_go i252_142 rfl
theorem i252_143 : insAt 252 143 = some (.getfield 7, 3, (12, 0, 0, 0), 0) := rfl
theorem s252_143 {c : Nat → List AV → SS → Option Out} {l0 l1 l2 l3 : Option AV} {j t : Nat} {L2 : List (Nat × AV)} {St : List AV} {S : SS} : ev c 252 143 [l0, l1, l2, l3] L2 (aR (12, j, t) :: St) S = ev c 252 146 [l0, l1, l2, l3] L2 (S.2.2.1 (12, j, t) 0 :: St) S := ev_go i252_143 rfl
theorem i252_146 : insAt 252 146 = some (.bipush 57, 2, (0, 0, 0, 0), 0) := rfl
theorem s252_146 {c : Nat → List AV → SS → Option Out} {l0 l1 l2 l3 : Option AV} {L2 : List (Nat × AV)} {St : List AV} {S : SS} : ev c 252 146 [l0, l1, l2, l3] L2 St S = ev c 252 148 [l0, l1, l2, l3] L2 (aI 57 :: St) S := ev_go i252_146 rfl
theorem i252_148 : insAt 252 148 = some (.bipush 7, 2, (0, 0, 0, 0), 0) := rfl
theorem s252_148 {c : Nat → List AV → SS → Option Out} {l0 l1 l2 l3 : Option AV} {L2 : List (Nat × AV)} {St : List AV} {S : SS} : ev c 252 148 [l0, l1, l2, l3] L2 St S = ev c 252 150 [l0, l1, l2, l3] L2 (aI 7 :: St) S := ev_go i252_148 rfl
theorem i252_150 : insAt 252 150 = some (.iload_n 2, 1, (0, 0, 0, 0), 0) := rfl
theorem s252_150 {c : Nat → List AV → SS → Option Out} {l0 l1 l3 : Option AV} {x : Int32} {L2 : List (Nat × AV)} {St : List AV} {S : SS} : ev c 252 150 [l0, l1, some (aI x), l3] L2 St S = ev c 252 151 [l0, l1, some (aI x), l3] L2 (aI x :: St) S := ev_go i252_150 rfl
theorem i252_151 : insAt 252 151 = some (.imul, 1, (0, 0, 0, 0), 0) := rfl
theorem s252_151 {c : Nat → List AV → SS → Option Out} {l0 l1 l2 l3 : Option AV} {x y : Int32} {L2 : List (Nat × AV)} {St : List AV} {S : SS} : ev c 252 151 [l0, l1, l2, l3] L2 (aI y :: aI x :: St) S = ev c 252 152 [l0, l1, l2, l3] L2 (aI (x * y) :: St) S := ev_go i252_151 rfl
theorem i252_152 : insAt 252 152 = some (.iadd, 1, (0, 0, 0, 0), 0) := rfl
theorem s252_152 {c : Nat → List AV → SS → Option Out} {l0 l1 l2 l3 : Option AV} {x y : Int32} {L2 : List (Nat × AV)} {St : List AV} {S : SS} : ev c 252 152 [l0, l1, l2, l3] L2 (aI y :: aI x :: St) S = ev c 252 153 [l0, l1, l2, l3] L2 (aI (x + y) :: St) S := ev_go i252_152 rfl
theorem i252_153 : insAt 252 153 = some (.iload_n 3, 1, (0, 0, 0, 0), 0) := rfl
theorem s252_153 {c : Nat → List AV → SS → Option Out} {l0 l1 l2 : Option AV} {x : Int32} {L2 : List (Nat × AV)} {St : List AV} {S : SS} : ev c 252 153 [l0, l1, l2, some (aI x)] L2 St S = ev c 252 154 [l0, l1, l2, some (aI x)] L2 (aI x :: St) S := ev_go i252_153 rfl
theorem i252_154 : insAt 252 154 = some (.iadd, 1, (0, 0, 0, 0), 0) := rfl
theorem s252_154 {c : Nat → List AV → SS → Option Out} {l0 l1 l2 l3 : Option AV} {x y : Int32} {L2 : List (Nat × AV)} {St : List AV} {S : SS} : ev c 252 154 [l0, l1, l2, l3] L2 (aI y :: aI x :: St) S = ev c 252 155 [l0, l1, l2, l3] L2 (aI (x + y) :: St) S := ev_go i252_154 rfl
theorem i252_155 : insAt 252 155 = some (.iconst 1, 1, (0, 0, 0, 0), 0) := rfl
theorem s252_155 {c : Nat → List AV → SS → Option Out} {l0 l1 l2 l3 : Option AV} {L2 : List (Nat × AV)} {St : List AV} {S : SS} : ev c 252 155 [l0, l1, l2, l3] L2 St S = ev c 252 156 [l0, l1, l2, l3] L2 (aI 1 :: St) S := ev_go i252_155 rfl
theorem i252_156 : insAt 252 156 = some (.iadd, 1, (0, 0, 0, 0), 0) := rfl
theorem s252_156 {c : Nat → List AV → SS → Option Out} {l0 l1 l2 l3 : Option AV} {x y : Int32} {L2 : List (Nat × AV)} {St : List AV} {S : SS} : ev c 252 156 [l0, l1, l2, l3] L2 (aI y :: aI x :: St) S = ev c 252 157 [l0, l1, l2, l3] L2 (aI (x + y) :: St) S := ev_go i252_156 rfl
theorem i252_157 : insAt 252 157 = some (.iaload, 1, (0, 0, 0, 0), 0) := rfl
theorem s252_157 {c : Nat → List AV → SS → Option Out} {l0 l1 l2 l3 : Option AV} {i : Int32} {o : OId} {L2 : List (Nat × AV)} {St : List AV} {S : SS} : ev c 252 157 [l0, l1, l2, l3] L2 (aI i :: aR o :: St) S = kI o i (ev c 252 158 [l0, l1, l2, l3] L2 (aI (agI S o i.toNatClampNeg) :: St) S) := ev_iaload i252_157
theorem i252_158 : insAt 252 158 = some (.iastore, 1, (0, 0, 0, 0), 0) := rfl
theorem s252_158 {c : Nat → List AV → SS → Option Out} {l0 l1 l2 l3 : Option AV} {x i : Int32} {o : OId} {L2 : List (Nat × AV)} {St : List AV} {S : SS} : ev c 252 158 [l0, l1, l2, l3] L2 (aI x :: aI i :: aR o :: St) S = kIw o i (ev c 252 159 [l0, l1, l2, l3] L2 St (setI S.1 o i.toNatClampNeg x, S.2)) := ev_iastore i252_158
theorem i252_159 : insAt 252 159 = some (.iinc 3 1, 3, (0, 0, 0, 0), 0) := rfl
theorem s252_159 {c : Nat → List AV → SS → Option Out} {l0 l1 l2 : Option AV} {x : Int32} {L2 : List (Nat × AV)} {St : List AV} {S : SS} : ev c 252 159 [l0, l1, l2, some (aI x)] L2 St S = ev c 252 162 [l0, l1, l2, some (aI (x + 1))] (kil L2 3) St S := ev_go i252_159 rfl
theorem i252_162 : insAt 252 162 = some (.goto (-44), 3, (0, 0, 0, 0), 0) := rfl
theorem s252_162 {c : Nat → List AV → SS → Option Out} {l0 l1 l2 l3 : Option AV} {L2 : List (Nat × AV)} {St : List AV} {S : SS} : ev c 252 162 [l0, l1, l2, l3] L2 St S = ev c 252 118 [l0, l1, l2, l3] L2 St S := ev_go i252_162 rfl
theorem i252_165 : insAt 252 165 = some (.iinc 2 1, 3, (0, 0, 0, 0), 0) := rfl
theorem s252_165 {c : Nat → List AV → SS → Option Out} {l0 l1 l3 : Option AV} {x : Int32} {L2 : List (Nat × AV)} {St : List AV} {S : SS} : ev c 252 165 [l0, l1, some (aI x), l3] L2 St S = ev c 252 168 [l0, l1, some (aI (x + 1)), l3] (kil L2 2) St S := ev_go i252_165 rfl
theorem i252_168 : insAt 252 168 = some (.goto (-63), 3, (0, 0, 0, 0), 0) := rfl
theorem s252_168 {c : Nat → List AV → SS → Option Out} {l0 l1 l2 l3 : Option AV} {L2 : List (Nat × AV)} {St : List AV} {S : SS} : ev c 252 168 [l0, l1, l2, l3] L2 St S = ev c 252 105 [l0, l1, l2, l3] L2 St S := ev_go i252_168 rfl
theorem i252_171 : insAt 252 171 = some (.return_, 1, (0, 0, 0, 0), 0) := rfl
theorem s252_171 {c : Nat → List AV → SS → Option Out} {l0 l1 l2 l3 : Option AV} {L2 : List (Nat × AV)} {St : List AV} {S : SS} : ev c 252 171 [l0, l1, l2, l3] L2 [] S = some (.inl none, S) := ev_end i252_171 rfl
theorem m252 {d : Nat} {o : OId} {a0 : Int32} {S : SS} : evm (d + 1) 252 [aR o, aI a0] S = ev (evm d) 252 0 [some (aR o), some (aI a0), none, none] [] [] S := evm_s (n := 4) rfl (Nat.le_of_ble_eq_true rfl) rfl rfl
/-! FrequencyOfficeModel.startTrial(III)I -/
theorem i253_0 : insAt 253 0 = some (.aload_n 0, 1, (0, 0, 0, 0), 0) := rfl
theorem s253_0 {c : Nat → List AV → SS → Option Out} {l1 l2 l3 l4 l5 : Option AV} {o : OId} {L2 : List (Nat × AV)} {St : List AV} {S : SS} : ev c 253 0 [some (aR o), l1, l2, l3, l4, l5] L2 St S = ev c 253 1 [some (aR o), l1, l2, l3, l4, l5] L2 (aR o :: St) S := ev_go i253_0 rfl
theorem i253_1 : insAt 253 1 = some (.iload_n 1, 1, (0, 0, 0, 0), 0) := rfl
theorem s253_1 {c : Nat → List AV → SS → Option Out} {l0 l2 l3 l4 l5 : Option AV} {x : Int32} {L2 : List (Nat × AV)} {St : List AV} {S : SS} : ev c 253 1 [l0, some (aI x), l2, l3, l4, l5] L2 St S = ev c 253 2 [l0, some (aI x), l2, l3, l4, l5] L2 (aI x :: St) S := ev_go i253_1 rfl
theorem i253_2 : insAt 253 2 = some (.iload_n 2, 1, (0, 0, 0, 0), 0) := rfl
theorem s253_2 {c : Nat → List AV → SS → Option Out} {l0 l1 l3 l4 l5 : Option AV} {x : Int32} {L2 : List (Nat × AV)} {St : List AV} {S : SS} : ev c 253 2 [l0, l1, some (aI x), l3, l4, l5] L2 St S = ev c 253 3 [l0, l1, some (aI x), l3, l4, l5] L2 (aI x :: St) S := ev_go i253_2 rfl
theorem i253_3 : insAt 253 3 = some (.invokestatic 158, 3, (227, 2, 0, 0), 0) := rfl
theorem s253_3 {c : Nat → List AV → SS → Option Out} {l0 l1 l2 l3 l4 l5 : Option AV} {t0 : AV} {a0 : Int32} {a1 : Int32} {L2 : List (Nat × AV)} {S : SS} : ev c 253 3 [l0, l1, l2, l3, l4, l5] L2 [aI a1, aI a0, t0] S = ck (c 227 [aI a0, aI a1] S) (fun v S' => ev c 253 6 [l0, l1, l2, l3, l4, l5] L2 (v.toList ++ [t0]) S') := ev_call i253_3 rfl
theorem i253_6 : insAt 253 6 = some (.ifCond .eq 13, 3, (0, 0, 0, 0), 0) := rfl
theorem s253_6 {c : Nat → List AV → SS → Option Out} {l0 l1 l2 l3 l4 l5 : Option AV} {x : Int32} {L2 : List (Nat × AV)} {St : List AV} {S : SS} : ev c 253 6 [l0, l1, l2, l3, l4, l5] L2 (aI x :: St) S = if x = 0 then ev c 253 19 [l0, l1, l2, l3, l4, l5] L2 St S else ev c 253 9 [l0, l1, l2, l3, l4, l5] L2 St S := ev_br i253_6 rfl
theorem i253_9 : insAt 253 9 = some (.iload_n 3, 1, (0, 0, 0, 0), 0) := rfl
theorem s253_9 {c : Nat → List AV → SS → Option Out} {l0 l1 l2 l4 l5 : Option AV} {x : Int32} {L2 : List (Nat × AV)} {St : List AV} {S : SS} : ev c 253 9 [l0, l1, l2, some (aI x), l4, l5] L2 St S = ev c 253 10 [l0, l1, l2, some (aI x), l4, l5] L2 (aI x :: St) S := ev_go i253_9 rfl
theorem i253_10 : insAt 253 10 = some (.iconst 1, 1, (0, 0, 0, 0), 0) := rfl
theorem s253_10 {c : Nat → List AV → SS → Option Out} {l0 l1 l2 l3 l4 l5 : Option AV} {L2 : List (Nat × AV)} {St : List AV} {S : SS} : ev c 253 10 [l0, l1, l2, l3, l4, l5] L2 St S = ev c 253 11 [l0, l1, l2, l3, l4, l5] L2 (aI 1 :: St) S := ev_go i253_10 rfl
theorem i253_11 : insAt 253 11 = some (.bipush 30, 2, (0, 0, 0, 0), 0) := rfl
theorem s253_11 {c : Nat → List AV → SS → Option Out} {l0 l1 l2 l3 l4 l5 : Option AV} {L2 : List (Nat × AV)} {St : List AV} {S : SS} : ev c 253 11 [l0, l1, l2, l3, l4, l5] L2 St S = ev c 253 13 [l0, l1, l2, l3, l4, l5] L2 (aI 30 :: St) S := ev_go i253_11 rfl
theorem i253_13 : insAt 253 13 = some (.invokestatic 154, 3, (228, 3, 0, 0), 0) := rfl
theorem s253_13 {c : Nat → List AV → SS → Option Out} {l0 l1 l2 l3 l4 l5 : Option AV} {t0 : AV} {a0 : Int32} {a1 : Int32} {a2 : Int32} {L2 : List (Nat × AV)} {S : SS} : ev c 253 13 [l0, l1, l2, l3, l4, l5] L2 [aI a2, aI a1, aI a0, t0] S = ck (c 228 [aI a0, aI a1, aI a2] S) (fun v S' => ev c 253 16 [l0, l1, l2, l3, l4, l5] L2 (v.toList ++ [t0]) S') := ev_call i253_13 rfl
theorem i253_16 : insAt 253 16 = some (.ifCond .ne 7, 3, (0, 0, 0, 0), 0) := rfl
theorem s253_16 {c : Nat → List AV → SS → Option Out} {l0 l1 l2 l3 l4 l5 : Option AV} {x : Int32} {L2 : List (Nat × AV)} {St : List AV} {S : SS} : ev c 253 16 [l0, l1, l2, l3, l4, l5] L2 (aI x :: St) S = if x = 0 then ev c 253 19 [l0, l1, l2, l3, l4, l5] L2 St S else ev c 253 23 [l0, l1, l2, l3, l4, l5] L2 St S := (ev_br i253_16 rfl).trans (ite_not _ _ _)
theorem i253_19 : insAt 253 19 = some (.iconst 1, 1, (0, 0, 0, 0), 0) := rfl
theorem s253_19 {c : Nat → List AV → SS → Option Out} {l0 l1 l2 l3 l4 l5 : Option AV} {L2 : List (Nat × AV)} {St : List AV} {S : SS} : ev c 253 19 [l0, l1, l2, l3, l4, l5] L2 St S = ev c 253 20 [l0, l1, l2, l3, l4, l5] L2 (aI 1 :: St) S := ev_go i253_19 rfl
theorem i253_20 : insAt 253 20 = some (.goto 20, 3, (0, 0, 0, 0), 0) := rfl
theorem s253_20 {c : Nat → List AV → SS → Option Out} {l0 l1 l2 l3 l4 l5 : Option AV} {L2 : List (Nat × AV)} {St : List AV} {S : SS} : ev c 253 20 [l0, l1, l2, l3, l4, l5] L2 St S = ev c 253 40 [l0, l1, l2, l3, l4, l5] L2 St S := ev_go i253_20 rfl
theorem i253_23 : insAt 253 23 = some (.aload_n 0, 1, (0, 0, 0, 0), 0) := rfl
theorem s253_23 {c : Nat → List AV → SS → Option Out} {l1 l2 l3 l4 l5 : Option AV} {o : OId} {L2 : List (Nat × AV)} {St : List AV} {S : SS} : ev c 253 23 [some (aR o), l1, l2, l3, l4, l5] L2 St S = ev c 253 24 [some (aR o), l1, l2, l3, l4, l5] L2 (aR o :: St) S := ev_go i253_23 rfl
theorem i253_24 : insAt 253 24 = some (.getfield 7, 3, (12, 0, 0, 0), 0) := rfl
theorem s253_24 {c : Nat → List AV → SS → Option Out} {l0 l1 l2 l3 l4 l5 : Option AV} {j t : Nat} {L2 : List (Nat × AV)} {St : List AV} {S : SS} : ev c 253 24 [l0, l1, l2, l3, l4, l5] L2 (aR (12, j, t) :: St) S = ev c 253 27 [l0, l1, l2, l3, l4, l5] L2 (S.2.2.1 (12, j, t) 0 :: St) S := ev_go i253_24 rfl
theorem i253_27 : insAt 253 27 = some (.bipush 7, 2, (0, 0, 0, 0), 0) := rfl
theorem s253_27 {c : Nat → List AV → SS → Option Out} {l0 l1 l2 l3 l4 l5 : Option AV} {L2 : List (Nat × AV)} {St : List AV} {S : SS} : ev c 253 27 [l0, l1, l2, l3, l4, l5] L2 St S = ev c 253 29 [l0, l1, l2, l3, l4, l5] L2 (aI 7 :: St) S := ev_go i253_27 rfl
theorem i253_29 : insAt 253 29 = some (.iaload, 1, (0, 0, 0, 0), 0) := rfl
theorem s253_29 {c : Nat → List AV → SS → Option Out} {l0 l1 l2 l3 l4 l5 : Option AV} {i : Int32} {o : OId} {L2 : List (Nat × AV)} {St : List AV} {S : SS} : ev c 253 29 [l0, l1, l2, l3, l4, l5] L2 (aI i :: aR o :: St) S = kI o i (ev c 253 30 [l0, l1, l2, l3, l4, l5] L2 (aI (agI S o i.toNatClampNeg) :: St) S) := ev_iaload i253_29
theorem i253_30 : insAt 253 30 = some (.bipush 7, 2, (0, 0, 0, 0), 0) := rfl
theorem s253_30 {c : Nat → List AV → SS → Option Out} {l0 l1 l2 l3 l4 l5 : Option AV} {L2 : List (Nat × AV)} {St : List AV} {S : SS} : ev c 253 30 [l0, l1, l2, l3, l4, l5] L2 St S = ev c 253 32 [l0, l1, l2, l3, l4, l5] L2 (aI 7 :: St) S := ev_go i253_30 rfl
theorem i253_32 : insAt 253 32 = some (.if_icmp .ne 7, 3, (0, 0, 0, 0), 0) := rfl
theorem s253_32 {c : Nat → List AV → SS → Option Out} {l0 l1 l2 l3 l4 l5 : Option AV} {x y : Int32} {L2 : List (Nat × AV)} {St : List AV} {S : SS} : ev c 253 32 [l0, l1, l2, l3, l4, l5] L2 (aI y :: aI x :: St) S = if x = y then ev c 253 35 [l0, l1, l2, l3, l4, l5] L2 St S else ev c 253 39 [l0, l1, l2, l3, l4, l5] L2 St S := (ev_br i253_32 rfl).trans (ite_not _ _ _)
theorem i253_35 : insAt 253 35 = some (.iconst 2, 1, (0, 0, 0, 0), 0) := rfl
theorem s253_35 {c : Nat → List AV → SS → Option Out} {l0 l1 l2 l3 l4 l5 : Option AV} {L2 : List (Nat × AV)} {St : List AV} {S : SS} : ev c 253 35 [l0, l1, l2, l3, l4, l5] L2 St S = ev c 253 36 [l0, l1, l2, l3, l4, l5] L2 (aI 2 :: St) S := ev_go i253_35 rfl
theorem i253_36 : insAt 253 36 = some (.goto 4, 3, (0, 0, 0, 0), 0) := rfl
theorem s253_36 {c : Nat → List AV → SS → Option Out} {l0 l1 l2 l3 l4 l5 : Option AV} {L2 : List (Nat × AV)} {St : List AV} {S : SS} : ev c 253 36 [l0, l1, l2, l3, l4, l5] L2 St S = ev c 253 40 [l0, l1, l2, l3, l4, l5] L2 St S := ev_go i253_36 rfl
theorem i253_39 : insAt 253 39 = some (.iconst 0, 1, (0, 0, 0, 0), 0) := rfl
theorem s253_39 {c : Nat → List AV → SS → Option Out} {l0 l1 l2 l3 l4 l5 : Option AV} {L2 : List (Nat × AV)} {St : List AV} {S : SS} : ev c 253 39 [l0, l1, l2, l3, l4, l5] L2 St S = ev c 253 40 [l0, l1, l2, l3, l4, l5] L2 (aI 0 :: St) S := ev_go i253_39 rfl
theorem i253_40 : insAt 253 40 = some (.putfield 31, 3, (12, 7, 0, 0), 0) := rfl
theorem s253_40 {c : Nat → List AV → SS → Option Out} {l0 l1 l2 l3 l4 l5 : Option AV} {j t : Nat} {x : Int32} {L2 : List (Nat × AV)} {St : List AV} {S : SS} : ev c 253 40 [l0, l1, l2, l3, l4, l5] L2 (aI x :: aR (12, j, t) :: St) S = ev c 253 43 [l0, l1, l2, l3, l4, l5] L2 St (setI S.1 (12, j, t) 7 x, S.2) := ev_go i253_40 rfl
theorem i253_43 : insAt 253 43 = some (.aload_n 0, 1, (0, 0, 0, 0), 0) := rfl
theorem s253_43 {c : Nat → List AV → SS → Option Out} {l1 l2 l3 l4 l5 : Option AV} {o : OId} {L2 : List (Nat × AV)} {St : List AV} {S : SS} : ev c 253 43 [some (aR o), l1, l2, l3, l4, l5] L2 St S = ev c 253 44 [some (aR o), l1, l2, l3, l4, l5] L2 (aR o :: St) S := ev_go i253_43 rfl
theorem i253_44 : insAt 253 44 = some (.getfield 31, 3, (12, 7, 0, 0), 0) := rfl
theorem s253_44 {c : Nat → List AV → SS → Option Out} {l0 l1 l2 l3 l4 l5 : Option AV} {j t : Nat} {L2 : List (Nat × AV)} {St : List AV} {S : SS} : ev c 253 44 [l0, l1, l2, l3, l4, l5] L2 (aR (12, j, t) :: St) S = ev c 253 47 [l0, l1, l2, l3, l4, l5] L2 (aI (S.1 (12, j, t) 7) :: St) S := ev_go i253_44 rfl
theorem i253_47 : insAt 253 47 = some (.ifCond .le 5, 3, (0, 0, 0, 0), 0) := rfl
theorem s253_47 {c : Nat → List AV → SS → Option Out} {l0 l1 l2 l3 l4 l5 : Option AV} {x : Int32} {L2 : List (Nat × AV)} {St : List AV} {S : SS} : ev c 253 47 [l0, l1, l2, l3, l4, l5] L2 (aI x :: St) S = if x ≤ 0 then ev c 253 52 [l0, l1, l2, l3, l4, l5] L2 St S else ev c 253 50 [l0, l1, l2, l3, l4, l5] L2 St S := ev_br i253_47 rfl
theorem i253_50 : insAt 253 50 = some (.iconst 0, 1, (0, 0, 0, 0), 0) := rfl
theorem s253_50 {c : Nat → List AV → SS → Option Out} {l0 l1 l2 l3 l4 l5 : Option AV} {L2 : List (Nat × AV)} {St : List AV} {S : SS} : ev c 253 50 [l0, l1, l2, l3, l4, l5] L2 St S = ev c 253 51 [l0, l1, l2, l3, l4, l5] L2 (aI 0 :: St) S := ev_go i253_50 rfl
theorem i253_51 : insAt 253 51 = some (.ireturn, 1, (0, 0, 0, 0), 0) := rfl
theorem s253_51 {c : Nat → List AV → SS → Option Out} {l0 l1 l2 l3 l4 l5 : Option AV} {x : Int32} {L2 : List (Nat × AV)} {St : List AV} {S : SS} : ev c 253 51 [l0, l1, l2, l3, l4, l5] L2 [aI x] S = some (.inl (some (aI x)), S) := ev_end i253_51 rfl
theorem i253_52 : insAt 253 52 = some (.iconst (-1), 1, (0, 0, 0, 0), 0) := rfl
theorem s253_52 {c : Nat → List AV → SS → Option Out} {l0 l1 l2 l3 l4 l5 : Option AV} {L2 : List (Nat × AV)} {St : List AV} {S : SS} : ev c 253 52 [l0, l1, l2, l3, l4, l5] L2 St S = ev c 253 53 [l0, l1, l2, l3, l4, l5] L2 (aI (-1) :: St) S := ev_go i253_52 rfl
theorem i253_53 : insAt 253 53 = some (.istore 4, 2, (0, 0, 0, 0), 0) := rfl
theorem s253_53 {c : Nat → List AV → SS → Option Out} {l0 l1 l2 l3 l4 l5 : Option AV} {x : Int32} {L2 : List (Nat × AV)} {St : List AV} {S : SS} : ev c 253 53 [l0, l1, l2, l3, l4, l5] L2 (aI x :: St) S = ev c 253 55 [l0, l1, l2, l3, some (aI x), l5] (kil L2 4) St S := ev_go i253_53 rfl
theorem i253_55 : insAt 253 55 = some (.iconst 0, 1, (0, 0, 0, 0), 0) := rfl
theorem s253_55 {c : Nat → List AV → SS → Option Out} {l0 l1 l2 l3 l4 l5 : Option AV} {L2 : List (Nat × AV)} {St : List AV} {S : SS} : ev c 253 55 [l0, l1, l2, l3, l4, l5] L2 St S = ev c 253 56 [l0, l1, l2, l3, l4, l5] L2 (aI 0 :: St) S := ev_go i253_55 rfl
theorem i253_56 : insAt 253 56 = some (.istore 5, 2, (0, 0, 0, 0), 0) := rfl
theorem s253_56 {c : Nat → List AV → SS → Option Out} {l0 l1 l2 l3 l4 l5 : Option AV} {x : Int32} {L2 : List (Nat × AV)} {St : List AV} {S : SS} : ev c 253 56 [l0, l1, l2, l3, l4, l5] L2 (aI x :: St) S = ev c 253 58 [l0, l1, l2, l3, l4, some (aI x)] (kil L2 5) St S := ev_go i253_56 rfl
theorem i253_58 : insAt 253 58 = some (.iload 5, 2, (0, 0, 0, 0), 0) := rfl
theorem s253_58 {c : Nat → List AV → SS → Option Out} {l0 l1 l2 l3 l4 : Option AV} {x : Int32} {L2 : List (Nat × AV)} {St : List AV} {S : SS} : ev c 253 58 [l0, l1, l2, l3, l4, some (aI x)] L2 St S = ev c 253 60 [l0, l1, l2, l3, l4, some (aI x)] L2 (aI x :: St) S := ev_go i253_58 rfl
theorem i253_60 : insAt 253 60 = some (.bipush 8, 2, (0, 0, 0, 0), 0) := rfl
theorem s253_60 {c : Nat → List AV → SS → Option Out} {l0 l1 l2 l3 l4 l5 : Option AV} {L2 : List (Nat × AV)} {St : List AV} {S : SS} : ev c 253 60 [l0, l1, l2, l3, l4, l5] L2 St S = ev c 253 62 [l0, l1, l2, l3, l4, l5] L2 (aI 8 :: St) S := ev_go i253_60 rfl
theorem i253_62 : insAt 253 62 = some (.if_icmp .ge 53, 3, (0, 0, 0, 0), 0) := rfl
theorem s253_62 {c : Nat → List AV → SS → Option Out} {l0 l1 l2 l3 l4 l5 : Option AV} {x y : Int32} {L2 : List (Nat × AV)} {St : List AV} {S : SS} : ev c 253 62 [l0, l1, l2, l3, l4, l5] L2 (aI y :: aI x :: St) S = if y ≤ x then ev c 253 115 [l0, l1, l2, l3, l4, l5] L2 St S else ev c 253 65 [l0, l1, l2, l3, l4, l5] L2 St S := ev_br i253_62 rfl
theorem i253_65 : insAt 253 65 = some (.aload_n 0, 1, (0, 0, 0, 0), 0) := rfl
theorem s253_65 {c : Nat → List AV → SS → Option Out} {l1 l2 l3 l4 l5 : Option AV} {o : OId} {L2 : List (Nat × AV)} {St : List AV} {S : SS} : ev c 253 65 [some (aR o), l1, l2, l3, l4, l5] L2 St S = ev c 253 66 [some (aR o), l1, l2, l3, l4, l5] L2 (aR o :: St) S := ev_go i253_65 rfl
theorem i253_66 : insAt 253 66 = some (.iload_n 1, 1, (0, 0, 0, 0), 0) := rfl
theorem s253_66 {c : Nat → List AV → SS → Option Out} {l0 l2 l3 l4 l5 : Option AV} {x : Int32} {L2 : List (Nat × AV)} {St : List AV} {S : SS} : ev c 253 66 [l0, some (aI x), l2, l3, l4, l5] L2 St S = ev c 253 67 [l0, some (aI x), l2, l3, l4, l5] L2 (aI x :: St) S := ev_go i253_66 rfl
theorem i253_67 : insAt 253 67 = some (.iload_n 2, 1, (0, 0, 0, 0), 0) := rfl
theorem s253_67 {c : Nat → List AV → SS → Option Out} {l0 l1 l3 l4 l5 : Option AV} {x : Int32} {L2 : List (Nat × AV)} {St : List AV} {S : SS} : ev c 253 67 [l0, l1, some (aI x), l3, l4, l5] L2 St S = ev c 253 68 [l0, l1, some (aI x), l3, l4, l5] L2 (aI x :: St) S := ev_go i253_67 rfl
theorem i253_68 : insAt 253 68 = some (.iload 5, 2, (0, 0, 0, 0), 0) := rfl
theorem s253_68 {c : Nat → List AV → SS → Option Out} {l0 l1 l2 l3 l4 : Option AV} {x : Int32} {L2 : List (Nat × AV)} {St : List AV} {S : SS} : ev c 253 68 [l0, l1, l2, l3, l4, some (aI x)] L2 St S = ev c 253 70 [l0, l1, l2, l3, l4, some (aI x)] L2 (aI x :: St) S := ev_go i253_68 rfl
theorem i253_70 : insAt 253 70 = some (.invokevirtual 170, 3, (254, 3, 2, 12), 0) := rfl
theorem s253_70 {c : Nat → List AV → SS → Option Out} {l0 l1 l2 l3 l4 l5 : Option AV} {a0 : Int32} {a1 : Int32} {a2 : Int32} {j t : Nat} {L2 : List (Nat × AV)} {S : SS} : ev c 253 70 [l0, l1, l2, l3, l4, l5] L2 [aI a2, aI a1, aI a0, aR (12, j, t)] S = ck (c 254 [aR (12, j, t), aI a0, aI a1, aI a2] S) (fun v S' => ev c 253 73 [l0, l1, l2, l3, l4, l5] L2 (v.toList ++ []) S') := ev_call i253_70 rfl
theorem i253_73 : insAt 253 73 = some (.ifCond .le 6, 3, (0, 0, 0, 0), 0) := rfl
theorem s253_73 {c : Nat → List AV → SS → Option Out} {l0 l1 l2 l3 l4 l5 : Option AV} {x : Int32} {L2 : List (Nat × AV)} {St : List AV} {S : SS} : ev c 253 73 [l0, l1, l2, l3, l4, l5] L2 (aI x :: St) S = if x ≤ 0 then ev c 253 79 [l0, l1, l2, l3, l4, l5] L2 St S else ev c 253 76 [l0, l1, l2, l3, l4, l5] L2 St S := ev_br i253_73 rfl
theorem i253_76 : insAt 253 76 = some (.goto 33, 3, (0, 0, 0, 0), 0) := rfl
theorem s253_76 {c : Nat → List AV → SS → Option Out} {l0 l1 l2 l3 l4 l5 : Option AV} {L2 : List (Nat × AV)} {St : List AV} {S : SS} : ev c 253 76 [l0, l1, l2, l3, l4, l5] L2 St S = ev c 253 109 [l0, l1, l2, l3, l4, l5] L2 St S := ev_go i253_76 rfl
theorem i253_79 : insAt 253 79 = some (.iload 4, 2, (0, 0, 0, 0), 0) := rfl
theorem s253_79 {c : Nat → List AV → SS → Option Out} {l0 l1 l2 l3 l5 : Option AV} {x : Int32} {L2 : List (Nat × AV)} {St : List AV} {S : SS} : ev c 253 79 [l0, l1, l2, l3, some (aI x), l5] L2 St S = ev c 253 81 [l0, l1, l2, l3, some (aI x), l5] L2 (aI x :: St) S := ev_go i253_79 rfl
theorem i253_81 : insAt 253 81 = some (.ifCond .lt 24, 3, (0, 0, 0, 0), 0) := rfl
theorem s253_81 {c : Nat → List AV → SS → Option Out} {l0 l1 l2 l3 l4 l5 : Option AV} {x : Int32} {L2 : List (Nat × AV)} {St : List AV} {S : SS} : ev c 253 81 [l0, l1, l2, l3, l4, l5] L2 (aI x :: St) S = if x < 0 then ev c 253 105 [l0, l1, l2, l3, l4, l5] L2 St S else ev c 253 84 [l0, l1, l2, l3, l4, l5] L2 St S := ev_br i253_81 rfl
theorem i253_84 : insAt 253 84 = some (.aload_n 0, 1, (0, 0, 0, 0), 0) := rfl
theorem s253_84 {c : Nat → List AV → SS → Option Out} {l1 l2 l3 l4 l5 : Option AV} {o : OId} {L2 : List (Nat × AV)} {St : List AV} {S : SS} : ev c 253 84 [some (aR o), l1, l2, l3, l4, l5] L2 St S = ev c 253 85 [some (aR o), l1, l2, l3, l4, l5] L2 (aR o :: St) S := ev_go i253_84 rfl
theorem i253_85 : insAt 253 85 = some (.iload_n 1, 1, (0, 0, 0, 0), 0) := rfl
theorem s253_85 {c : Nat → List AV → SS → Option Out} {l0 l2 l3 l4 l5 : Option AV} {x : Int32} {L2 : List (Nat × AV)} {St : List AV} {S : SS} : ev c 253 85 [l0, some (aI x), l2, l3, l4, l5] L2 St S = ev c 253 86 [l0, some (aI x), l2, l3, l4, l5] L2 (aI x :: St) S := ev_go i253_85 rfl
theorem i253_86 : insAt 253 86 = some (.iload_n 2, 1, (0, 0, 0, 0), 0) := rfl
theorem s253_86 {c : Nat → List AV → SS → Option Out} {l0 l1 l3 l4 l5 : Option AV} {x : Int32} {L2 : List (Nat × AV)} {St : List AV} {S : SS} : ev c 253 86 [l0, l1, some (aI x), l3, l4, l5] L2 St S = ev c 253 87 [l0, l1, some (aI x), l3, l4, l5] L2 (aI x :: St) S := ev_go i253_86 rfl
theorem i253_87 : insAt 253 87 = some (.iload 5, 2, (0, 0, 0, 0), 0) := rfl
theorem s253_87 {c : Nat → List AV → SS → Option Out} {l0 l1 l2 l3 l4 : Option AV} {x : Int32} {L2 : List (Nat × AV)} {St : List AV} {S : SS} : ev c 253 87 [l0, l1, l2, l3, l4, some (aI x)] L2 St S = ev c 253 89 [l0, l1, l2, l3, l4, some (aI x)] L2 (aI x :: St) S := ev_go i253_87 rfl
theorem i253_89 : insAt 253 89 = some (.iconst (-1), 1, (0, 0, 0, 0), 0) := rfl
theorem s253_89 {c : Nat → List AV → SS → Option Out} {l0 l1 l2 l3 l4 l5 : Option AV} {L2 : List (Nat × AV)} {St : List AV} {S : SS} : ev c 253 89 [l0, l1, l2, l3, l4, l5] L2 St S = ev c 253 90 [l0, l1, l2, l3, l4, l5] L2 (aI (-1) :: St) S := ev_go i253_89 rfl
theorem i253_90 : insAt 253 90 = some (.invokevirtual 125, 3, (241, 4, 2, 12), 0) := rfl
theorem s253_90 {c : Nat → List AV → SS → Option Out} {l0 l1 l2 l3 l4 l5 : Option AV} {a0 : Int32} {a1 : Int32} {a2 : Int32} {a3 : Int32} {j t : Nat} {L2 : List (Nat × AV)} {S : SS} : ev c 253 90 [l0, l1, l2, l3, l4, l5] L2 [aI a3, aI a2, aI a1, aI a0, aR (12, j, t)] S = ck (c 241 [aR (12, j, t), aI a0, aI a1, aI a2, aI a3] S) (fun v S' => ev c 253 93 [l0, l1, l2, l3, l4, l5] L2 (v.toList ++ []) S') := ev_call i253_90 rfl
theorem i253_93 : insAt 253 93 = some (.aload_n 0, 1, (0, 0, 0, 0), 0) := rfl
theorem s253_93 {c : Nat → List AV → SS → Option Out} {l1 l2 l3 l4 l5 : Option AV} {o : OId} {L2 : List (Nat × AV)} {St : List AV} {S : SS} : ev c 253 93 [some (aR o), l1, l2, l3, l4, l5] L2 St S = ev c 253 94 [some (aR o), l1, l2, l3, l4, l5] L2 (aR o :: St) S := ev_go i253_93 rfl
theorem i253_94 : insAt 253 94 = some (.iload_n 1, 1, (0, 0, 0, 0), 0) := rfl
theorem s253_94 {c : Nat → List AV → SS → Option Out} {l0 l2 l3 l4 l5 : Option AV} {x : Int32} {L2 : List (Nat × AV)} {St : List AV} {S : SS} : ev c 253 94 [l0, some (aI x), l2, l3, l4, l5] L2 St S = ev c 253 95 [l0, some (aI x), l2, l3, l4, l5] L2 (aI x :: St) S := ev_go i253_94 rfl
theorem i253_95 : insAt 253 95 = some (.iload_n 2, 1, (0, 0, 0, 0), 0) := rfl
theorem s253_95 {c : Nat → List AV → SS → Option Out} {l0 l1 l3 l4 l5 : Option AV} {x : Int32} {L2 : List (Nat × AV)} {St : List AV} {S : SS} : ev c 253 95 [l0, l1, some (aI x), l3, l4, l5] L2 St S = ev c 253 96 [l0, l1, some (aI x), l3, l4, l5] L2 (aI x :: St) S := ev_go i253_95 rfl
theorem i253_96 : insAt 253 96 = some (.iload 4, 2, (0, 0, 0, 0), 0) := rfl
theorem s253_96 {c : Nat → List AV → SS → Option Out} {l0 l1 l2 l3 l5 : Option AV} {x : Int32} {L2 : List (Nat × AV)} {St : List AV} {S : SS} : ev c 253 96 [l0, l1, l2, l3, some (aI x), l5] L2 St S = ev c 253 98 [l0, l1, l2, l3, some (aI x), l5] L2 (aI x :: St) S := ev_go i253_96 rfl
theorem i253_98 : insAt 253 98 = some (.iconst (-1), 1, (0, 0, 0, 0), 0) := rfl
theorem s253_98 {c : Nat → List AV → SS → Option Out} {l0 l1 l2 l3 l4 l5 : Option AV} {L2 : List (Nat × AV)} {St : List AV} {S : SS} : ev c 253 98 [l0, l1, l2, l3, l4, l5] L2 St S = ev c 253 99 [l0, l1, l2, l3, l4, l5] L2 (aI (-1) :: St) S := ev_go i253_98 rfl
theorem i253_99 : insAt 253 99 = some (.invokevirtual 125, 3, (241, 4, 2, 12), 0) := rfl
theorem s253_99 {c : Nat → List AV → SS → Option Out} {l0 l1 l2 l3 l4 l5 : Option AV} {t0 : AV} {a0 : Int32} {a1 : Int32} {a2 : Int32} {a3 : Int32} {j t : Nat} {L2 : List (Nat × AV)} {S : SS} : ev c 253 99 [l0, l1, l2, l3, l4, l5] L2 [aI a3, aI a2, aI a1, aI a0, aR (12, j, t), t0] S = ck (c 241 [aR (12, j, t), aI a0, aI a1, aI a2, aI a3] S) (fun v S' => ev c 253 102 [l0, l1, l2, l3, l4, l5] L2 (v.toList ++ [t0]) S') := ev_call i253_99 rfl
theorem i253_102 : insAt 253 102 = some (.if_icmp .ge 7, 3, (0, 0, 0, 0), 0) := rfl
theorem s253_102 {c : Nat → List AV → SS → Option Out} {l0 l1 l2 l3 l4 l5 : Option AV} {x y : Int32} {L2 : List (Nat × AV)} {St : List AV} {S : SS} : ev c 253 102 [l0, l1, l2, l3, l4, l5] L2 (aI y :: aI x :: St) S = if y ≤ x then ev c 253 109 [l0, l1, l2, l3, l4, l5] L2 St S else ev c 253 105 [l0, l1, l2, l3, l4, l5] L2 St S := ev_br i253_102 rfl
theorem i253_105 : insAt 253 105 = some (.iload 5, 2, (0, 0, 0, 0), 0) := rfl
theorem s253_105 {c : Nat → List AV → SS → Option Out} {l0 l1 l2 l3 l4 : Option AV} {x : Int32} {L2 : List (Nat × AV)} {St : List AV} {S : SS} : ev c 253 105 [l0, l1, l2, l3, l4, some (aI x)] L2 St S = ev c 253 107 [l0, l1, l2, l3, l4, some (aI x)] L2 (aI x :: St) S := ev_go i253_105 rfl
theorem i253_107 : insAt 253 107 = some (.istore 4, 2, (0, 0, 0, 0), 0) := rfl
theorem s253_107 {c : Nat → List AV → SS → Option Out} {l0 l1 l2 l3 l4 l5 : Option AV} {x : Int32} {L2 : List (Nat × AV)} {St : List AV} {S : SS} : ev c 253 107 [l0, l1, l2, l3, l4, l5] L2 (aI x :: St) S = ev c 253 109 [l0, l1, l2, l3, some (aI x), l5] (kil L2 4) St S := ev_go i253_107 rfl
theorem i253_109 : insAt 253 109 = some (.iinc 5 1, 3, (0, 0, 0, 0), 0) := rfl
theorem s253_109 {c : Nat → List AV → SS → Option Out} {l0 l1 l2 l3 l4 : Option AV} {x : Int32} {L2 : List (Nat × AV)} {St : List AV} {S : SS} : ev c 253 109 [l0, l1, l2, l3, l4, some (aI x)] L2 St S = ev c 253 112 [l0, l1, l2, l3, l4, some (aI (x + 1))] (kil L2 5) St S := ev_go i253_109 rfl
theorem i253_112 : insAt 253 112 = some (.goto (-54), 3, (0, 0, 0, 0), 0) := rfl
theorem s253_112 {c : Nat → List AV → SS → Option Out} {l0 l1 l2 l3 l4 l5 : Option AV} {L2 : List (Nat × AV)} {St : List AV} {S : SS} : ev c 253 112 [l0, l1, l2, l3, l4, l5] L2 St S = ev c 253 58 [l0, l1, l2, l3, l4, l5] L2 St S := ev_go i253_112 rfl
theorem i253_115 : insAt 253 115 = some (.aload_n 0, 1, (0, 0, 0, 0), 0) := rfl
theorem s253_115 {c : Nat → List AV → SS → Option Out} {l1 l2 l3 l4 l5 : Option AV} {o : OId} {L2 : List (Nat × AV)} {St : List AV} {S : SS} : ev c 253 115 [some (aR o), l1, l2, l3, l4, l5] L2 St S = ev c 253 116 [some (aR o), l1, l2, l3, l4, l5] L2 (aR o :: St) S := ev_go i253_115 rfl
theorem i253_116 : insAt 253 116 = some (.iload 4, 2, (0, 0, 0, 0), 0) := rfl
theorem s253_116 {c : Nat → List AV → SS → Option Out} {l0 l1 l2 l3 l5 : Option AV} {x : Int32} {L2 : List (Nat × AV)} {St : List AV} {S : SS} : ev c 253 116 [l0, l1, l2, l3, some (aI x), l5] L2 St S = ev c 253 118 [l0, l1, l2, l3, some (aI x), l5] L2 (aI x :: St) S := ev_go i253_116 rfl
theorem i253_118 : insAt 253 118 = some (.ifCond .ge 7, 3, (0, 0, 0, 0), 0) := rfl
theorem s253_118 {c : Nat → List AV → SS → Option Out} {l0 l1 l2 l3 l4 l5 : Option AV} {x : Int32} {L2 : List (Nat × AV)} {St : List AV} {S : SS} : ev c 253 118 [l0, l1, l2, l3, l4, l5] L2 (aI x :: St) S = if 0 ≤ x then ev c 253 125 [l0, l1, l2, l3, l4, l5] L2 St S else ev c 253 121 [l0, l1, l2, l3, l4, l5] L2 St S := ev_br i253_118 rfl
theorem i253_121 : insAt 253 121 = some (.iconst 3, 1, (0, 0, 0, 0), 0) := rfl
theorem s253_121 {c : Nat → List AV → SS → Option Out} {l0 l1 l2 l3 l4 l5 : Option AV} {L2 : List (Nat × AV)} {St : List AV} {S : SS} : ev c 253 121 [l0, l1, l2, l3, l4, l5] L2 St S = ev c 253 122 [l0, l1, l2, l3, l4, l5] L2 (aI 3 :: St) S := ev_go i253_121 rfl
theorem i253_122 : insAt 253 122 = some (.goto 4, 3, (0, 0, 0, 0), 0) := rfl
theorem s253_122 {c : Nat → List AV → SS → Option Out} {l0 l1 l2 l3 l4 l5 : Option AV} {L2 : List (Nat × AV)} {St : List AV} {S : SS} : ev c 253 122 [l0, l1, l2, l3, l4, l5] L2 St S = ev c 253 126 [l0, l1, l2, l3, l4, l5] L2 St S := ev_go i253_122 rfl
theorem i253_125 : insAt 253 125 = some (.iconst 0, 1, (0, 0, 0, 0), 0) := rfl
theorem s253_125 {c : Nat → List AV → SS → Option Out} {l0 l1 l2 l3 l4 l5 : Option AV} {L2 : List (Nat × AV)} {St : List AV} {S : SS} : ev c 253 125 [l0, l1, l2, l3, l4, l5] L2 St S = ev c 253 126 [l0, l1, l2, l3, l4, l5] L2 (aI 0 :: St) S := ev_go i253_125 rfl
theorem i253_126 : insAt 253 126 = some (.putfield 31, 3, (12, 7, 0, 0), 0) := rfl
theorem s253_126 {c : Nat → List AV → SS → Option Out} {l0 l1 l2 l3 l4 l5 : Option AV} {j t : Nat} {x : Int32} {L2 : List (Nat × AV)} {St : List AV} {S : SS} : ev c 253 126 [l0, l1, l2, l3, l4, l5] L2 (aI x :: aR (12, j, t) :: St) S = ev c 253 129 [l0, l1, l2, l3, l4, l5] L2 St (setI S.1 (12, j, t) 7 x, S.2) := ev_go i253_126 rfl
theorem i253_129 : insAt 253 129 = some (.aload_n 0, 1, (0, 0, 0, 0), 0) := rfl
theorem s253_129 {c : Nat → List AV → SS → Option Out} {l1 l2 l3 l4 l5 : Option AV} {o : OId} {L2 : List (Nat × AV)} {St : List AV} {S : SS} : ev c 253 129 [some (aR o), l1, l2, l3, l4, l5] L2 St S = ev c 253 130 [some (aR o), l1, l2, l3, l4, l5] L2 (aR o :: St) S := ev_go i253_129 rfl
theorem i253_130 : insAt 253 130 = some (.getfield 31, 3, (12, 7, 0, 0), 0) := rfl
theorem s253_130 {c : Nat → List AV → SS → Option Out} {l0 l1 l2 l3 l4 l5 : Option AV} {j t : Nat} {L2 : List (Nat × AV)} {St : List AV} {S : SS} : ev c 253 130 [l0, l1, l2, l3, l4, l5] L2 (aR (12, j, t) :: St) S = ev c 253 133 [l0, l1, l2, l3, l4, l5] L2 (aI (S.1 (12, j, t) 7) :: St) S := ev_go i253_130 rfl
theorem i253_133 : insAt 253 133 = some (.ifCond .le 5, 3, (0, 0, 0, 0), 0) := rfl
theorem s253_133 {c : Nat → List AV → SS → Option Out} {l0 l1 l2 l3 l4 l5 : Option AV} {x : Int32} {L2 : List (Nat × AV)} {St : List AV} {S : SS} : ev c 253 133 [l0, l1, l2, l3, l4, l5] L2 (aI x :: St) S = if x ≤ 0 then ev c 253 138 [l0, l1, l2, l3, l4, l5] L2 St S else ev c 253 136 [l0, l1, l2, l3, l4, l5] L2 St S := ev_br i253_133 rfl
theorem i253_136 : insAt 253 136 = some (.iconst 0, 1, (0, 0, 0, 0), 0) := rfl
theorem s253_136 {c : Nat → List AV → SS → Option Out} {l0 l1 l2 l3 l4 l5 : Option AV} {L2 : List (Nat × AV)} {St : List AV} {S : SS} : ev c 253 136 [l0, l1, l2, l3, l4, l5] L2 St S = ev c 253 137 [l0, l1, l2, l3, l4, l5] L2 (aI 0 :: St) S := ev_go i253_136 rfl
theorem i253_137 : insAt 253 137 = some (.ireturn, 1, (0, 0, 0, 0), 0) := rfl
theorem s253_137 {c : Nat → List AV → SS → Option Out} {l0 l1 l2 l3 l4 l5 : Option AV} {x : Int32} {L2 : List (Nat × AV)} {St : List AV} {S : SS} : ev c 253 137 [l0, l1, l2, l3, l4, l5] L2 [aI x] S = some (.inl (some (aI x)), S) := ev_end i253_137 rfl
theorem i253_138 : insAt 253 138 = some (.aload_n 0, 1, (0, 0, 0, 0), 0) := rfl
theorem s253_138 {c : Nat → List AV → SS → Option Out} {l1 l2 l3 l4 l5 : Option AV} {o : OId} {L2 : List (Nat × AV)} {St : List AV} {S : SS} : ev c 253 138 [some (aR o), l1, l2, l3, l4, l5] L2 St S = ev c 253 139 [some (aR o), l1, l2, l3, l4, l5] L2 (aR o :: St) S := ev_go i253_138 rfl
theorem i253_139 : insAt 253 139 = some (.invokevirtual 86, 3, (220, 0, 2, 12), 0) := rfl
theorem s253_139 {c : Nat → List AV → SS → Option Out} {l0 l1 l2 l3 l4 l5 : Option AV} {j t : Nat} {L2 : List (Nat × AV)} {S : SS} : ev c 253 139 [l0, l1, l2, l3, l4, l5] L2 [aR (12, j, t)] S = ck (c 220 [aR (12, j, t)] S) (fun v S' => ev c 253 142 [l0, l1, l2, l3, l4, l5] L2 (v.toList ++ []) S') := ev_call i253_139 rfl
theorem i253_142 : insAt 253 142 = some (.aload_n 0, 1, (0, 0, 0, 0), 0) := rfl
theorem s253_142 {c : Nat → List AV → SS → Option Out} {l1 l2 l3 l4 l5 : Option AV} {o : OId} {L2 : List (Nat × AV)} {St : List AV} {S : SS} : ev c 253 142 [some (aR o), l1, l2, l3, l4, l5] L2 St S = ev c 253 143 [some (aR o), l1, l2, l3, l4, l5] L2 (aR o :: St) S := ev_go i253_142 rfl
theorem i253_143 : insAt 253 143 = some (.iload_n 1, 1, (0, 0, 0, 0), 0) := rfl
theorem s253_143 {c : Nat → List AV → SS → Option Out} {l0 l2 l3 l4 l5 : Option AV} {x : Int32} {L2 : List (Nat × AV)} {St : List AV} {S : SS} : ev c 253 143 [l0, some (aI x), l2, l3, l4, l5] L2 St S = ev c 253 144 [l0, some (aI x), l2, l3, l4, l5] L2 (aI x :: St) S := ev_go i253_143 rfl
theorem i253_144 : insAt 253 144 = some (.iload_n 2, 1, (0, 0, 0, 0), 0) := rfl
theorem s253_144 {c : Nat → List AV → SS → Option Out} {l0 l1 l3 l4 l5 : Option AV} {x : Int32} {L2 : List (Nat × AV)} {St : List AV} {S : SS} : ev c 253 144 [l0, l1, some (aI x), l3, l4, l5] L2 St S = ev c 253 145 [l0, l1, some (aI x), l3, l4, l5] L2 (aI x :: St) S := ev_go i253_144 rfl
theorem i253_145 : insAt 253 145 = some (.iload 4, 2, (0, 0, 0, 0), 0) := rfl
theorem s253_145 {c : Nat → List AV → SS → Option Out} {l0 l1 l2 l3 l5 : Option AV} {x : Int32} {L2 : List (Nat × AV)} {St : List AV} {S : SS} : ev c 253 145 [l0, l1, l2, l3, some (aI x), l5] L2 St S = ev c 253 147 [l0, l1, l2, l3, some (aI x), l5] L2 (aI x :: St) S := ev_go i253_145 rfl
theorem i253_147 : insAt 253 147 = some (.iload_n 3, 1, (0, 0, 0, 0), 0) := rfl
theorem s253_147 {c : Nat → List AV → SS → Option Out} {l0 l1 l2 l4 l5 : Option AV} {x : Int32} {L2 : List (Nat × AV)} {St : List AV} {S : SS} : ev c 253 147 [l0, l1, l2, some (aI x), l4, l5] L2 St S = ev c 253 148 [l0, l1, l2, some (aI x), l4, l5] L2 (aI x :: St) S := ev_go i253_147 rfl
theorem i253_148 : insAt 253 148 = some (.iconst 0, 1, (0, 0, 0, 0), 0) := rfl
theorem s253_148 {c : Nat → List AV → SS → Option Out} {l0 l1 l2 l3 l4 l5 : Option AV} {L2 : List (Nat × AV)} {St : List AV} {S : SS} : ev c 253 148 [l0, l1, l2, l3, l4, l5] L2 St S = ev c 253 149 [l0, l1, l2, l3, l4, l5] L2 (aI 0 :: St) S := ev_go i253_148 rfl
theorem i253_149 : insAt 253 149 = some (.invokevirtual 164, 3, (247, 5, 2, 12), 0) := rfl
theorem s253_149 {c : Nat → List AV → SS → Option Out} {l0 l1 l2 l3 l4 l5 : Option AV} {a0 : Int32} {a1 : Int32} {a2 : Int32} {a3 : Int32} {a4 : Int32} {j t : Nat} {L2 : List (Nat × AV)} {S : SS} : ev c 253 149 [l0, l1, l2, l3, l4, l5] L2 [aI a4, aI a3, aI a2, aI a1, aI a0, aR (12, j, t)] S = ck (c 247 [aR (12, j, t), aI a0, aI a1, aI a2, aI a3, aI a4] S) (fun v S' => ev c 253 152 [l0, l1, l2, l3, l4, l5] L2 (v.toList ++ []) S') := ev_call i253_149 rfl
theorem i253_152 : insAt 253 152 = some (.ireturn, 1, (0, 0, 0, 0), 0) := rfl
theorem s253_152 {c : Nat → List AV → SS → Option Out} {l0 l1 l2 l3 l4 l5 : Option AV} {x : Int32} {L2 : List (Nat × AV)} {St : List AV} {S : SS} : ev c 253 152 [l0, l1, l2, l3, l4, l5] L2 [aI x] S = some (.inl (some (aI x)), S) := ev_end i253_152 rfl
theorem m253 {d : Nat} {o : OId} {a0 : Int32} {a1 : Int32} {a2 : Int32} {S : SS} : evm (d + 1) 253 [aR o, aI a0, aI a1, aI a2] S = ev (evm d) 253 0 [some (aR o), some (aI a0), some (aI a1), some (aI a2), none, none] [] [] S := evm_s (n := 6) rfl (Nat.le_of_ble_eq_true rfl) rfl rfl
/-! FrequencyOfficeModel.conflictsFor(III)I -/
theorem i254_0 : insAt 254 0 = some (.iconst 0, 1, (0, 0, 0, 0), 0) := rfl
theorem s254_0 {c : Nat → List AV → SS → Option Out} {l0 l1 l2 l3 l4 l5 : Option AV} {L2 : List (Nat × AV)} {St : List AV} {S : SS} : ev c 254 0 [l0, l1, l2, l3, l4, l5] L2 St S = ev c 254 1 [l0, l1, l2, l3, l4, l5] L2 (aI 0 :: St) S := ev_go i254_0 rfl
theorem i254_1 : insAt 254 1 = some (.istore 4, 2, (0, 0, 0, 0), 0) := rfl
theorem s254_1 {c : Nat → List AV → SS → Option Out} {l0 l1 l2 l3 l4 l5 : Option AV} {x : Int32} {L2 : List (Nat × AV)} {St : List AV} {S : SS} : ev c 254 1 [l0, l1, l2, l3, l4, l5] L2 (aI x :: St) S = ev c 254 3 [l0, l1, l2, l3, some (aI x), l5] (kil L2 4) St S := ev_go i254_1 rfl
theorem i254_3 : insAt 254 3 = some (.iconst 0, 1, (0, 0, 0, 0), 0) := rfl
theorem s254_3 {c : Nat → List AV → SS → Option Out} {l0 l1 l2 l3 l4 l5 : Option AV} {L2 : List (Nat × AV)} {St : List AV} {S : SS} : ev c 254 3 [l0, l1, l2, l3, l4, l5] L2 St S = ev c 254 4 [l0, l1, l2, l3, l4, l5] L2 (aI 0 :: St) S := ev_go i254_3 rfl
theorem i254_4 : insAt 254 4 = some (.istore 5, 2, (0, 0, 0, 0), 0) := rfl
theorem s254_4 {c : Nat → List AV → SS → Option Out} {l0 l1 l2 l3 l4 l5 : Option AV} {x : Int32} {L2 : List (Nat × AV)} {St : List AV} {S : SS} : ev c 254 4 [l0, l1, l2, l3, l4, l5] L2 (aI x :: St) S = ev c 254 6 [l0, l1, l2, l3, l4, some (aI x)] (kil L2 5) St S := ev_go i254_4 rfl
theorem i254_6 : insAt 254 6 = some (.iload 5, 2, (0, 0, 0, 0), 0) := rfl
theorem s254_6 {c : Nat → List AV → SS → Option Out} {l0 l1 l2 l3 l4 : Option AV} {x : Int32} {L2 : List (Nat × AV)} {St : List AV} {S : SS} : ev c 254 6 [l0, l1, l2, l3, l4, some (aI x)] L2 St S = ev c 254 8 [l0, l1, l2, l3, l4, some (aI x)] L2 (aI x :: St) S := ev_go i254_6 rfl
theorem i254_8 : insAt 254 8 = some (.aload_n 0, 1, (0, 0, 0, 0), 0) := rfl
theorem s254_8 {c : Nat → List AV → SS → Option Out} {l1 l2 l3 l4 l5 : Option AV} {o : OId} {L2 : List (Nat × AV)} {St : List AV} {S : SS} : ev c 254 8 [some (aR o), l1, l2, l3, l4, l5] L2 St S = ev c 254 9 [some (aR o), l1, l2, l3, l4, l5] L2 (aR o :: St) S := ev_go i254_8 rfl
theorem i254_9 : insAt 254 9 = some (.getfield 7, 3, (12, 0, 0, 0), 0) := rfl
theorem s254_9 {c : Nat → List AV → SS → Option Out} {l0 l1 l2 l3 l4 l5 : Option AV} {j t : Nat} {L2 : List (Nat × AV)} {St : List AV} {S : SS} : ev c 254 9 [l0, l1, l2, l3, l4, l5] L2 (aR (12, j, t) :: St) S = ev c 254 12 [l0, l1, l2, l3, l4, l5] L2 (S.2.2.1 (12, j, t) 0 :: St) S := ev_go i254_9 rfl
theorem i254_12 : insAt 254 12 = some (.bipush 7, 2, (0, 0, 0, 0), 0) := rfl
theorem s254_12 {c : Nat → List AV → SS → Option Out} {l0 l1 l2 l3 l4 l5 : Option AV} {L2 : List (Nat × AV)} {St : List AV} {S : SS} : ev c 254 12 [l0, l1, l2, l3, l4, l5] L2 St S = ev c 254 14 [l0, l1, l2, l3, l4, l5] L2 (aI 7 :: St) S := ev_go i254_12 rfl
theorem i254_14 : insAt 254 14 = some (.iaload, 1, (0, 0, 0, 0), 0) := rfl
theorem s254_14 {c : Nat → List AV → SS → Option Out} {l0 l1 l2 l3 l4 l5 : Option AV} {i : Int32} {o : OId} {L2 : List (Nat × AV)} {St : List AV} {S : SS} : ev c 254 14 [l0, l1, l2, l3, l4, l5] L2 (aI i :: aR o :: St) S = kI o i (ev c 254 15 [l0, l1, l2, l3, l4, l5] L2 (aI (agI S o i.toNatClampNeg) :: St) S) := ev_iaload i254_14
theorem i254_15 : insAt 254 15 = some (.if_icmp .ge 42, 3, (0, 0, 0, 0), 0) := rfl
theorem s254_15 {c : Nat → List AV → SS → Option Out} {l0 l1 l2 l3 l4 l5 : Option AV} {x y : Int32} {L2 : List (Nat × AV)} {St : List AV} {S : SS} : ev c 254 15 [l0, l1, l2, l3, l4, l5] L2 (aI y :: aI x :: St) S = if y ≤ x then ev c 254 57 [l0, l1, l2, l3, l4, l5] L2 St S else ev c 254 18 [l0, l1, l2, l3, l4, l5] L2 St S := ev_br i254_15 rfl
theorem i254_18 : insAt 254 18 = some (.iload 4, 2, (0, 0, 0, 0), 0) := rfl
theorem s254_18 {c : Nat → List AV → SS → Option Out} {l0 l1 l2 l3 l5 : Option AV} {x : Int32} {L2 : List (Nat × AV)} {St : List AV} {S : SS} : ev c 254 18 [l0, l1, l2, l3, some (aI x), l5] L2 St S = ev c 254 20 [l0, l1, l2, l3, some (aI x), l5] L2 (aI x :: St) S := ev_go i254_18 rfl
theorem i254_20 : insAt 254 20 = some (.aload_n 0, 1, (0, 0, 0, 0), 0) := rfl
theorem s254_20 {c : Nat → List AV → SS → Option Out} {l1 l2 l3 l4 l5 : Option AV} {o : OId} {L2 : List (Nat × AV)} {St : List AV} {S : SS} : ev c 254 20 [some (aR o), l1, l2, l3, l4, l5] L2 St S = ev c 254 21 [some (aR o), l1, l2, l3, l4, l5] L2 (aR o :: St) S := ev_go i254_20 rfl
theorem i254_21 : insAt 254 21 = some (.iload 5, 2, (0, 0, 0, 0), 0) := rfl
theorem s254_21 {c : Nat → List AV → SS → Option Out} {l0 l1 l2 l3 l4 : Option AV} {x : Int32} {L2 : List (Nat × AV)} {St : List AV} {S : SS} : ev c 254 21 [l0, l1, l2, l3, l4, some (aI x)] L2 St S = ev c 254 23 [l0, l1, l2, l3, l4, some (aI x)] L2 (aI x :: St) S := ev_go i254_21 rfl
theorem i254_23 : insAt 254 23 = some (.iconst 3, 1, (0, 0, 0, 0), 0) := rfl
theorem s254_23 {c : Nat → List AV → SS → Option Out} {l0 l1 l2 l3 l4 l5 : Option AV} {L2 : List (Nat × AV)} {St : List AV} {S : SS} : ev c 254 23 [l0, l1, l2, l3, l4, l5] L2 St S = ev c 254 24 [l0, l1, l2, l3, l4, l5] L2 (aI 3 :: St) S := ev_go i254_23 rfl
theorem i254_24 : insAt 254 24 = some (.invokevirtual 75, 3, (234, 2, 2, 12), 0) := rfl
theorem s254_24 {c : Nat → List AV → SS → Option Out} {l0 l1 l2 l3 l4 l5 : Option AV} {t0 : AV} {a0 : Int32} {a1 : Int32} {j t : Nat} {L2 : List (Nat × AV)} {S : SS} : ev c 254 24 [l0, l1, l2, l3, l4, l5] L2 [aI a1, aI a0, aR (12, j, t), t0] S = ck (c 234 [aR (12, j, t), aI a0, aI a1] S) (fun v S' => ev c 254 27 [l0, l1, l2, l3, l4, l5] L2 (v.toList ++ [t0]) S') := ev_call i254_24 rfl
theorem i254_27 : insAt 254 27 = some (.iload_n 3, 1, (0, 0, 0, 0), 0) := rfl
theorem s254_27 {c : Nat → List AV → SS → Option Out} {l0 l1 l2 l4 l5 : Option AV} {x : Int32} {L2 : List (Nat × AV)} {St : List AV} {S : SS} : ev c 254 27 [l0, l1, l2, some (aI x), l4, l5] L2 St S = ev c 254 28 [l0, l1, l2, some (aI x), l4, l5] L2 (aI x :: St) S := ev_go i254_27 rfl
theorem i254_28 : insAt 254 28 = some (.isub, 1, (0, 0, 0, 0), 0) := rfl
theorem s254_28 {c : Nat → List AV → SS → Option Out} {l0 l1 l2 l3 l4 l5 : Option AV} {x y : Int32} {L2 : List (Nat × AV)} {St : List AV} {S : SS} : ev c 254 28 [l0, l1, l2, l3, l4, l5] L2 (aI y :: aI x :: St) S = ev c 254 29 [l0, l1, l2, l3, l4, l5] L2 (aI (x - y) :: St) S := ev_go i254_28 rfl
theorem i254_29 : insAt 254 29 = some (.invokestatic 109, 3, (235, 1, 0, 0), 0) := rfl
theorem s254_29 {c : Nat → List AV → SS → Option Out} {l0 l1 l2 l3 l4 l5 : Option AV} {t0 : AV} {a0 : Int32} {L2 : List (Nat × AV)} {S : SS} : ev c 254 29 [l0, l1, l2, l3, l4, l5] L2 [aI a0, t0] S = ck (c 235 [aI a0] S) (fun v S' => ev c 254 32 [l0, l1, l2, l3, l4, l5] L2 (v.toList ++ [t0]) S') := ev_call i254_29 rfl
theorem i254_32 : insAt 254 32 = some (.aload_n 0, 1, (0, 0, 0, 0), 0) := rfl
theorem s254_32 {c : Nat → List AV → SS → Option Out} {l1 l2 l3 l4 l5 : Option AV} {o : OId} {L2 : List (Nat × AV)} {St : List AV} {S : SS} : ev c 254 32 [some (aR o), l1, l2, l3, l4, l5] L2 St S = ev c 254 33 [some (aR o), l1, l2, l3, l4, l5] L2 (aR o :: St) S := ev_go i254_32 rfl
theorem i254_33 : insAt 254 33 = some (.iload_n 1, 1, (0, 0, 0, 0), 0) := rfl
theorem s254_33 {c : Nat → List AV → SS → Option Out} {l0 l2 l3 l4 l5 : Option AV} {x : Int32} {L2 : List (Nat × AV)} {St : List AV} {S : SS} : ev c 254 33 [l0, some (aI x), l2, l3, l4, l5] L2 St S = ev c 254 34 [l0, some (aI x), l2, l3, l4, l5] L2 (aI x :: St) S := ev_go i254_33 rfl
theorem i254_34 : insAt 254 34 = some (.iload_n 2, 1, (0, 0, 0, 0), 0) := rfl
theorem s254_34 {c : Nat → List AV → SS → Option Out} {l0 l1 l3 l4 l5 : Option AV} {x : Int32} {L2 : List (Nat × AV)} {St : List AV} {S : SS} : ev c 254 34 [l0, l1, some (aI x), l3, l4, l5] L2 St S = ev c 254 35 [l0, l1, some (aI x), l3, l4, l5] L2 (aI x :: St) S := ev_go i254_34 rfl
theorem i254_35 : insAt 254 35 = some (.iload 5, 2, (0, 0, 0, 0), 0) := rfl
theorem s254_35 {c : Nat → List AV → SS → Option Out} {l0 l1 l2 l3 l4 : Option AV} {x : Int32} {L2 : List (Nat × AV)} {St : List AV} {S : SS} : ev c 254 35 [l0, l1, l2, l3, l4, some (aI x)] L2 St S = ev c 254 37 [l0, l1, l2, l3, l4, some (aI x)] L2 (aI x :: St) S := ev_go i254_35 rfl
theorem i254_37 : insAt 254 37 = some (.invokevirtual 100, 3, (237, 3, 2, 12), 0) := rfl
theorem s254_37 {c : Nat → List AV → SS → Option Out} {l0 l1 l2 l3 l4 l5 : Option AV} {t0 t1 : AV} {a0 : Int32} {a1 : Int32} {a2 : Int32} {j t : Nat} {L2 : List (Nat × AV)} {S : SS} : ev c 254 37 [l0, l1, l2, l3, l4, l5] L2 [aI a2, aI a1, aI a0, aR (12, j, t), t0, t1] S = ck (c 237 [aR (12, j, t), aI a0, aI a1, aI a2] S) (fun v S' => ev c 254 40 [l0, l1, l2, l3, l4, l5] L2 (v.toList ++ [t0, t1]) S') := ev_call i254_37 rfl
theorem i254_40 : insAt 254 40 = some (.if_icmp .ge 7, 3, (0, 0, 0, 0), 0) := rfl
theorem s254_40 {c : Nat → List AV → SS → Option Out} {l0 l1 l2 l3 l4 l5 : Option AV} {x y : Int32} {L2 : List (Nat × AV)} {St : List AV} {S : SS} : ev c 254 40 [l0, l1, l2, l3, l4, l5] L2 (aI y :: aI x :: St) S = if y ≤ x then ev c 254 47 [l0, l1, l2, l3, l4, l5] L2 St S else ev c 254 43 [l0, l1, l2, l3, l4, l5] L2 St S := ev_br i254_40 rfl
theorem i254_43 : insAt 254 43 = some (.iconst 1, 1, (0, 0, 0, 0), 0) := rfl
theorem s254_43 {c : Nat → List AV → SS → Option Out} {l0 l1 l2 l3 l4 l5 : Option AV} {L2 : List (Nat × AV)} {St : List AV} {S : SS} : ev c 254 43 [l0, l1, l2, l3, l4, l5] L2 St S = ev c 254 44 [l0, l1, l2, l3, l4, l5] L2 (aI 1 :: St) S := ev_go i254_43 rfl
theorem i254_44 : insAt 254 44 = some (.goto 4, 3, (0, 0, 0, 0), 0) := rfl
theorem s254_44 {c : Nat → List AV → SS → Option Out} {l0 l1 l2 l3 l4 l5 : Option AV} {L2 : List (Nat × AV)} {St : List AV} {S : SS} : ev c 254 44 [l0, l1, l2, l3, l4, l5] L2 St S = ev c 254 48 [l0, l1, l2, l3, l4, l5] L2 St S := ev_go i254_44 rfl
theorem i254_47 : insAt 254 47 = some (.iconst 0, 1, (0, 0, 0, 0), 0) := rfl
theorem s254_47 {c : Nat → List AV → SS → Option Out} {l0 l1 l2 l3 l4 l5 : Option AV} {L2 : List (Nat × AV)} {St : List AV} {S : SS} : ev c 254 47 [l0, l1, l2, l3, l4, l5] L2 St S = ev c 254 48 [l0, l1, l2, l3, l4, l5] L2 (aI 0 :: St) S := ev_go i254_47 rfl
theorem i254_48 : insAt 254 48 = some (.iadd, 1, (0, 0, 0, 0), 0) := rfl
theorem s254_48 {c : Nat → List AV → SS → Option Out} {l0 l1 l2 l3 l4 l5 : Option AV} {x y : Int32} {L2 : List (Nat × AV)} {St : List AV} {S : SS} : ev c 254 48 [l0, l1, l2, l3, l4, l5] L2 (aI y :: aI x :: St) S = ev c 254 49 [l0, l1, l2, l3, l4, l5] L2 (aI (x + y) :: St) S := ev_go i254_48 rfl
theorem i254_49 : insAt 254 49 = some (.istore 4, 2, (0, 0, 0, 0), 0) := rfl
theorem s254_49 {c : Nat → List AV → SS → Option Out} {l0 l1 l2 l3 l4 l5 : Option AV} {x : Int32} {L2 : List (Nat × AV)} {St : List AV} {S : SS} : ev c 254 49 [l0, l1, l2, l3, l4, l5] L2 (aI x :: St) S = ev c 254 51 [l0, l1, l2, l3, some (aI x), l5] (kil L2 4) St S := ev_go i254_49 rfl
theorem i254_51 : insAt 254 51 = some (.iinc 5 1, 3, (0, 0, 0, 0), 0) := rfl
theorem s254_51 {c : Nat → List AV → SS → Option Out} {l0 l1 l2 l3 l4 : Option AV} {x : Int32} {L2 : List (Nat × AV)} {St : List AV} {S : SS} : ev c 254 51 [l0, l1, l2, l3, l4, some (aI x)] L2 St S = ev c 254 54 [l0, l1, l2, l3, l4, some (aI (x + 1))] (kil L2 5) St S := ev_go i254_51 rfl
theorem i254_54 : insAt 254 54 = some (.goto (-48), 3, (0, 0, 0, 0), 0) := rfl
theorem s254_54 {c : Nat → List AV → SS → Option Out} {l0 l1 l2 l3 l4 l5 : Option AV} {L2 : List (Nat × AV)} {St : List AV} {S : SS} : ev c 254 54 [l0, l1, l2, l3, l4, l5] L2 St S = ev c 254 6 [l0, l1, l2, l3, l4, l5] L2 St S := ev_go i254_54 rfl
theorem i254_57 : insAt 254 57 = some (.iload 4, 2, (0, 0, 0, 0), 0) := rfl
theorem s254_57 {c : Nat → List AV → SS → Option Out} {l0 l1 l2 l3 l5 : Option AV} {x : Int32} {L2 : List (Nat × AV)} {St : List AV} {S : SS} : ev c 254 57 [l0, l1, l2, l3, some (aI x), l5] L2 St S = ev c 254 59 [l0, l1, l2, l3, some (aI x), l5] L2 (aI x :: St) S := ev_go i254_57 rfl
theorem i254_59 : insAt 254 59 = some (.ireturn, 1, (0, 0, 0, 0), 0) := rfl
theorem s254_59 {c : Nat → List AV → SS → Option Out} {l0 l1 l2 l3 l4 l5 : Option AV} {x : Int32} {L2 : List (Nat × AV)} {St : List AV} {S : SS} : ev c 254 59 [l0, l1, l2, l3, l4, l5] L2 [aI x] S = some (.inl (some (aI x)), S) := ev_end i254_59 rfl
theorem m254 {d : Nat} {o : OId} {a0 : Int32} {a1 : Int32} {a2 : Int32} {S : SS} : evm (d + 1) 254 [aR o, aI a0, aI a1, aI a2] S = ev (evm d) 254 0 [some (aR o), some (aI a0), some (aI a1), some (aI a2), none, none] [] [] S := evm_s (n := 6) rfl (Nat.le_of_ble_eq_true rfl) rfl rfl
/-! FrequencyOfficeModel.confirm(II)I -/
theorem i255_0 : insAt 255 0 = some (.aload_n 0, 1, (0, 0, 0, 0), 0) := rfl
theorem s255_0 {c : Nat → List AV → SS → Option Out} {l1 l2 l3 : Option AV} {o : OId} {L2 : List (Nat × AV)} {St : List AV} {S : SS} : ev c 255 0 [some (aR o), l1, l2, l3] L2 St S = ev c 255 1 [some (aR o), l1, l2, l3] L2 (aR o :: St) S := ev_go i255_0 rfl
theorem i255_1 : insAt 255 1 = some (.iload_n 1, 1, (0, 0, 0, 0), 0) := rfl
theorem s255_1 {c : Nat → List AV → SS → Option Out} {l0 l2 l3 : Option AV} {x : Int32} {L2 : List (Nat × AV)} {St : List AV} {S : SS} : ev c 255 1 [l0, some (aI x), l2, l3] L2 St S = ev c 255 2 [l0, some (aI x), l2, l3] L2 (aI x :: St) S := ev_go i255_1 rfl
theorem i255_2 : insAt 255 2 = some (.invokevirtual 173, 3, (256, 1, 2, 12), 0) := rfl
theorem s255_2 {c : Nat → List AV → SS → Option Out} {l0 l1 l2 l3 : Option AV} {a0 : Int32} {j t : Nat} {L2 : List (Nat × AV)} {S : SS} : ev c 255 2 [l0, l1, l2, l3] L2 [aI a0, aR (12, j, t)] S = ck (c 256 [aR (12, j, t), aI a0] S) (fun v S' => ev c 255 5 [l0, l1, l2, l3] L2 (v.toList ++ []) S') := ev_call i255_2 rfl
theorem i255_5 : insAt 255 5 = some (.istore_n 3, 1, (0, 0, 0, 0), 0) := rfl
theorem s255_5 {c : Nat → List AV → SS → Option Out} {l0 l1 l2 l3 : Option AV} {x : Int32} {L2 : List (Nat × AV)} {St : List AV} {S : SS} : ev c 255 5 [l0, l1, l2, l3] L2 (aI x :: St) S = ev c 255 6 [l0, l1, l2, some (aI x)] (kil L2 3) St S := ev_go i255_5 rfl
theorem i255_6 : insAt 255 6 = some (.aload_n 0, 1, (0, 0, 0, 0), 0) := rfl
theorem s255_6 {c : Nat → List AV → SS → Option Out} {l1 l2 l3 : Option AV} {o : OId} {L2 : List (Nat × AV)} {St : List AV} {S : SS} : ev c 255 6 [some (aR o), l1, l2, l3] L2 St S = ev c 255 7 [some (aR o), l1, l2, l3] L2 (aR o :: St) S := ev_go i255_6 rfl
theorem i255_7 : insAt 255 7 = some (.iload_n 3, 1, (0, 0, 0, 0), 0) := rfl
theorem s255_7 {c : Nat → List AV → SS → Option Out} {l0 l1 l2 : Option AV} {x : Int32} {L2 : List (Nat × AV)} {St : List AV} {S : SS} : ev c 255 7 [l0, l1, l2, some (aI x)] L2 St S = ev c 255 8 [l0, l1, l2, some (aI x)] L2 (aI x :: St) S := ev_go i255_7 rfl
theorem i255_8 : insAt 255 8 = some (.ifCond .ge 7, 3, (0, 0, 0, 0), 0) := rfl
theorem s255_8 {c : Nat → List AV → SS → Option Out} {l0 l1 l2 l3 : Option AV} {x : Int32} {L2 : List (Nat × AV)} {St : List AV} {S : SS} : ev c 255 8 [l0, l1, l2, l3] L2 (aI x :: St) S = if 0 ≤ x then ev c 255 15 [l0, l1, l2, l3] L2 St S else ev c 255 11 [l0, l1, l2, l3] L2 St S := ev_br i255_8 rfl
theorem i255_11 : insAt 255 11 = some (.iconst 1, 1, (0, 0, 0, 0), 0) := rfl
theorem s255_11 {c : Nat → List AV → SS → Option Out} {l0 l1 l2 l3 : Option AV} {L2 : List (Nat × AV)} {St : List AV} {S : SS} : ev c 255 11 [l0, l1, l2, l3] L2 St S = ev c 255 12 [l0, l1, l2, l3] L2 (aI 1 :: St) S := ev_go i255_11 rfl
theorem i255_12 : insAt 255 12 = some (.goto 31, 3, (0, 0, 0, 0), 0) := rfl
theorem s255_12 {c : Nat → List AV → SS → Option Out} {l0 l1 l2 l3 : Option AV} {L2 : List (Nat × AV)} {St : List AV} {S : SS} : ev c 255 12 [l0, l1, l2, l3] L2 St S = ev c 255 43 [l0, l1, l2, l3] L2 St S := ev_go i255_12 rfl
theorem i255_15 : insAt 255 15 = some (.iload_n 2, 1, (0, 0, 0, 0), 0) := rfl
theorem s255_15 {c : Nat → List AV → SS → Option Out} {l0 l1 l3 : Option AV} {x : Int32} {L2 : List (Nat × AV)} {St : List AV} {S : SS} : ev c 255 15 [l0, l1, some (aI x), l3] L2 St S = ev c 255 16 [l0, l1, some (aI x), l3] L2 (aI x :: St) S := ev_go i255_15 rfl
theorem i255_16 : insAt 255 16 = some (.iconst 1, 1, (0, 0, 0, 0), 0) := rfl
theorem s255_16 {c : Nat → List AV → SS → Option Out} {l0 l1 l2 l3 : Option AV} {L2 : List (Nat × AV)} {St : List AV} {S : SS} : ev c 255 16 [l0, l1, l2, l3] L2 St S = ev c 255 17 [l0, l1, l2, l3] L2 (aI 1 :: St) S := ev_go i255_16 rfl
theorem i255_17 : insAt 255 17 = some (.sipush 365, 3, (0, 0, 0, 0), 0) := rfl
theorem s255_17 {c : Nat → List AV → SS → Option Out} {l0 l1 l2 l3 : Option AV} {L2 : List (Nat × AV)} {St : List AV} {S : SS} : ev c 255 17 [l0, l1, l2, l3] L2 St S = ev c 255 20 [l0, l1, l2, l3] L2 (aI 365 :: St) S := ev_go i255_17 rfl
theorem i255_20 : insAt 255 20 = some (.invokestatic 154, 3, (228, 3, 0, 0), 0) := rfl
theorem s255_20 {c : Nat → List AV → SS → Option Out} {l0 l1 l2 l3 : Option AV} {t0 : AV} {a0 : Int32} {a1 : Int32} {a2 : Int32} {L2 : List (Nat × AV)} {S : SS} : ev c 255 20 [l0, l1, l2, l3] L2 [aI a2, aI a1, aI a0, t0] S = ck (c 228 [aI a0, aI a1, aI a2] S) (fun v S' => ev c 255 23 [l0, l1, l2, l3] L2 (v.toList ++ [t0]) S') := ev_call i255_20 rfl
theorem i255_23 : insAt 255 23 = some (.ifCond .ne 7, 3, (0, 0, 0, 0), 0) := rfl
theorem s255_23 {c : Nat → List AV → SS → Option Out} {l0 l1 l2 l3 : Option AV} {x : Int32} {L2 : List (Nat × AV)} {St : List AV} {S : SS} : ev c 255 23 [l0, l1, l2, l3] L2 (aI x :: St) S = if x = 0 then ev c 255 26 [l0, l1, l2, l3] L2 St S else ev c 255 30 [l0, l1, l2, l3] L2 St S := (ev_br i255_23 rfl).trans (ite_not _ _ _)
theorem i255_26 : insAt 255 26 = some (.iconst 2, 1, (0, 0, 0, 0), 0) := rfl
theorem s255_26 {c : Nat → List AV → SS → Option Out} {l0 l1 l2 l3 : Option AV} {L2 : List (Nat × AV)} {St : List AV} {S : SS} : ev c 255 26 [l0, l1, l2, l3] L2 St S = ev c 255 27 [l0, l1, l2, l3] L2 (aI 2 :: St) S := ev_go i255_26 rfl
theorem i255_27 : insAt 255 27 = some (.goto 16, 3, (0, 0, 0, 0), 0) := rfl
theorem s255_27 {c : Nat → List AV → SS → Option Out} {l0 l1 l2 l3 : Option AV} {L2 : List (Nat × AV)} {St : List AV} {S : SS} : ev c 255 27 [l0, l1, l2, l3] L2 St S = ev c 255 43 [l0, l1, l2, l3] L2 St S := ev_go i255_27 rfl
theorem i255_30 : insAt 255 30 = some (.aload_n 0, 1, (0, 0, 0, 0), 0) := rfl
theorem s255_30 {c : Nat → List AV → SS → Option Out} {l1 l2 l3 : Option AV} {o : OId} {L2 : List (Nat × AV)} {St : List AV} {S : SS} : ev c 255 30 [some (aR o), l1, l2, l3] L2 St S = ev c 255 31 [some (aR o), l1, l2, l3] L2 (aR o :: St) S := ev_go i255_30 rfl
theorem i255_31 : insAt 255 31 = some (.iload_n 3, 1, (0, 0, 0, 0), 0) := rfl
theorem s255_31 {c : Nat → List AV → SS → Option Out} {l0 l1 l2 : Option AV} {x : Int32} {L2 : List (Nat × AV)} {St : List AV} {S : SS} : ev c 255 31 [l0, l1, l2, some (aI x)] L2 St S = ev c 255 32 [l0, l1, l2, some (aI x)] L2 (aI x :: St) S := ev_go i255_31 rfl
theorem i255_32 : insAt 255 32 = some (.invokevirtual 115, 3, (233, 1, 2, 12), 0) := rfl
theorem s255_32 {c : Nat → List AV → SS → Option Out} {l0 l1 l2 l3 : Option AV} {t0 : AV} {a0 : Int32} {j t : Nat} {L2 : List (Nat × AV)} {S : SS} : ev c 255 32 [l0, l1, l2, l3] L2 [aI a0, aR (12, j, t), t0] S = ck (c 233 [aR (12, j, t), aI a0] S) (fun v S' => ev c 255 35 [l0, l1, l2, l3] L2 (v.toList ++ [t0]) S') := ev_call i255_32 rfl
theorem i255_35 : insAt 255 35 = some (.ifCond .eq 7, 3, (0, 0, 0, 0), 0) := rfl
theorem s255_35 {c : Nat → List AV → SS → Option Out} {l0 l1 l2 l3 : Option AV} {x : Int32} {L2 : List (Nat × AV)} {St : List AV} {S : SS} : ev c 255 35 [l0, l1, l2, l3] L2 (aI x :: St) S = if x = 0 then ev c 255 42 [l0, l1, l2, l3] L2 St S else ev c 255 38 [l0, l1, l2, l3] L2 St S := ev_br i255_35 rfl
theorem i255_38 : insAt 255 38 = some (.iconst 3, 1, (0, 0, 0, 0), 0) := rfl
theorem s255_38 {c : Nat → List AV → SS → Option Out} {l0 l1 l2 l3 : Option AV} {L2 : List (Nat × AV)} {St : List AV} {S : SS} : ev c 255 38 [l0, l1, l2, l3] L2 St S = ev c 255 39 [l0, l1, l2, l3] L2 (aI 3 :: St) S := ev_go i255_38 rfl
theorem i255_39 : insAt 255 39 = some (.goto 4, 3, (0, 0, 0, 0), 0) := rfl
theorem s255_39 {c : Nat → List AV → SS → Option Out} {l0 l1 l2 l3 : Option AV} {L2 : List (Nat × AV)} {St : List AV} {S : SS} : ev c 255 39 [l0, l1, l2, l3] L2 St S = ev c 255 43 [l0, l1, l2, l3] L2 St S := ev_go i255_39 rfl
theorem i255_42 : insAt 255 42 = some (.iconst 0, 1, (0, 0, 0, 0), 0) := rfl
theorem s255_42 {c : Nat → List AV → SS → Option Out} {l0 l1 l2 l3 : Option AV} {L2 : List (Nat × AV)} {St : List AV} {S : SS} : ev c 255 42 [l0, l1, l2, l3] L2 St S = ev c 255 43 [l0, l1, l2, l3] L2 (aI 0 :: St) S := ev_go i255_42 rfl
theorem i255_43 : insAt 255 43 = some (.putfield 31, 3, (12, 7, 0, 0), 0) := rfl
theorem s255_43 {c : Nat → List AV → SS → Option Out} {l0 l1 l2 l3 : Option AV} {j t : Nat} {x : Int32} {L2 : List (Nat × AV)} {St : List AV} {S : SS} : ev c 255 43 [l0, l1, l2, l3] L2 (aI x :: aR (12, j, t) :: St) S = ev c 255 46 [l0, l1, l2, l3] L2 St (setI S.1 (12, j, t) 7 x, S.2) := ev_go i255_43 rfl
theorem i255_46 : insAt 255 46 = some (.aload_n 0, 1, (0, 0, 0, 0), 0) := rfl
theorem s255_46 {c : Nat → List AV → SS → Option Out} {l1 l2 l3 : Option AV} {o : OId} {L2 : List (Nat × AV)} {St : List AV} {S : SS} : ev c 255 46 [some (aR o), l1, l2, l3] L2 St S = ev c 255 47 [some (aR o), l1, l2, l3] L2 (aR o :: St) S := ev_go i255_46 rfl
theorem i255_47 : insAt 255 47 = some (.getfield 31, 3, (12, 7, 0, 0), 0) := rfl
theorem s255_47 {c : Nat → List AV → SS → Option Out} {l0 l1 l2 l3 : Option AV} {j t : Nat} {L2 : List (Nat × AV)} {St : List AV} {S : SS} : ev c 255 47 [l0, l1, l2, l3] L2 (aR (12, j, t) :: St) S = ev c 255 50 [l0, l1, l2, l3] L2 (aI (S.1 (12, j, t) 7) :: St) S := ev_go i255_47 rfl
theorem i255_50 : insAt 255 50 = some (.ifCond .le 5, 3, (0, 0, 0, 0), 0) := rfl
theorem s255_50 {c : Nat → List AV → SS → Option Out} {l0 l1 l2 l3 : Option AV} {x : Int32} {L2 : List (Nat × AV)} {St : List AV} {S : SS} : ev c 255 50 [l0, l1, l2, l3] L2 (aI x :: St) S = if x ≤ 0 then ev c 255 55 [l0, l1, l2, l3] L2 St S else ev c 255 53 [l0, l1, l2, l3] L2 St S := ev_br i255_50 rfl
theorem i255_53 : insAt 255 53 = some (.iconst 0, 1, (0, 0, 0, 0), 0) := rfl
theorem s255_53 {c : Nat → List AV → SS → Option Out} {l0 l1 l2 l3 : Option AV} {L2 : List (Nat × AV)} {St : List AV} {S : SS} : ev c 255 53 [l0, l1, l2, l3] L2 St S = ev c 255 54 [l0, l1, l2, l3] L2 (aI 0 :: St) S := ev_go i255_53 rfl
theorem i255_54 : insAt 255 54 = some (.ireturn, 1, (0, 0, 0, 0), 0) := rfl
theorem s255_54 {c : Nat → List AV → SS → Option Out} {l0 l1 l2 l3 : Option AV} {x : Int32} {L2 : List (Nat × AV)} {St : List AV} {S : SS} : ev c 255 54 [l0, l1, l2, l3] L2 [aI x] S = some (.inl (some (aI x)), S) := ev_end i255_54 rfl
theorem i255_55 : insAt 255 55 = some (.aload_n 0, 1, (0, 0, 0, 0), 0) := rfl
theorem s255_55 {c : Nat → List AV → SS → Option Out} {l1 l2 l3 : Option AV} {o : OId} {L2 : List (Nat × AV)} {St : List AV} {S : SS} : ev c 255 55 [some (aR o), l1, l2, l3] L2 St S = ev c 255 56 [some (aR o), l1, l2, l3] L2 (aR o :: St) S := ev_go i255_55 rfl
theorem i255_56 : insAt 255 56 = some (.invokevirtual 86, 3, (220, 0, 2, 12), 0) := rfl
theorem s255_56 {c : Nat → List AV → SS → Option Out} {l0 l1 l2 l3 : Option AV} {j t : Nat} {L2 : List (Nat × AV)} {S : SS} : ev c 255 56 [l0, l1, l2, l3] L2 [aR (12, j, t)] S = ck (c 220 [aR (12, j, t)] S) (fun v S' => ev c 255 59 [l0, l1, l2, l3] L2 (v.toList ++ []) S') := ev_call i255_56 rfl
theorem i255_59 : insAt 255 59 = some (.aload_n 0, 1, (0, 0, 0, 0), 0) := rfl
theorem s255_59 {c : Nat → List AV → SS → Option Out} {l1 l2 l3 : Option AV} {o : OId} {L2 : List (Nat × AV)} {St : List AV} {S : SS} : ev c 255 59 [some (aR o), l1, l2, l3] L2 St S = ev c 255 60 [some (aR o), l1, l2, l3] L2 (aR o :: St) S := ev_go i255_59 rfl
theorem i255_60 : insAt 255 60 = some (.iload_n 3, 1, (0, 0, 0, 0), 0) := rfl
theorem s255_60 {c : Nat → List AV → SS → Option Out} {l0 l1 l2 : Option AV} {x : Int32} {L2 : List (Nat × AV)} {St : List AV} {S : SS} : ev c 255 60 [l0, l1, l2, some (aI x)] L2 St S = ev c 255 61 [l0, l1, l2, some (aI x)] L2 (aI x :: St) S := ev_go i255_60 rfl
theorem i255_61 : insAt 255 61 = some (.iconst 5, 1, (0, 0, 0, 0), 0) := rfl
theorem s255_61 {c : Nat → List AV → SS → Option Out} {l0 l1 l2 l3 : Option AV} {L2 : List (Nat × AV)} {St : List AV} {S : SS} : ev c 255 61 [l0, l1, l2, l3] L2 St S = ev c 255 62 [l0, l1, l2, l3] L2 (aI 5 :: St) S := ev_go i255_61 rfl
theorem i255_62 : insAt 255 62 = some (.iconst 1, 1, (0, 0, 0, 0), 0) := rfl
theorem s255_62 {c : Nat → List AV → SS → Option Out} {l0 l1 l2 l3 : Option AV} {L2 : List (Nat × AV)} {St : List AV} {S : SS} : ev c 255 62 [l0, l1, l2, l3] L2 St S = ev c 255 63 [l0, l1, l2, l3] L2 (aI 1 :: St) S := ev_go i255_62 rfl
theorem i255_63 : insAt 255 63 = some (.invokevirtual 79, 3, (245, 3, 2, 12), 0) := rfl
theorem s255_63 {c : Nat → List AV → SS → Option Out} {l0 l1 l2 l3 : Option AV} {a0 : Int32} {a1 : Int32} {a2 : Int32} {j t : Nat} {L2 : List (Nat × AV)} {S : SS} : ev c 255 63 [l0, l1, l2, l3] L2 [aI a2, aI a1, aI a0, aR (12, j, t)] S = ck (c 245 [aR (12, j, t), aI a0, aI a1, aI a2] S) (fun v S' => ev c 255 66 [l0, l1, l2, l3] L2 (v.toList ++ []) S') := ev_call i255_63 rfl
theorem i255_66 : insAt 255 66 = some (.aload_n 0, 1, (0, 0, 0, 0), 0) := rfl
theorem s255_66 {c : Nat → List AV → SS → Option Out} {l1 l2 l3 : Option AV} {o : OId} {L2 : List (Nat × AV)} {St : List AV} {S : SS} : ev c 255 66 [some (aR o), l1, l2, l3] L2 St S = ev c 255 67 [some (aR o), l1, l2, l3] L2 (aR o :: St) S := ev_go i255_66 rfl
theorem i255_67 : insAt 255 67 = some (.iload_n 3, 1, (0, 0, 0, 0), 0) := rfl
theorem s255_67 {c : Nat → List AV → SS → Option Out} {l0 l1 l2 : Option AV} {x : Int32} {L2 : List (Nat × AV)} {St : List AV} {S : SS} : ev c 255 67 [l0, l1, l2, some (aI x)] L2 St S = ev c 255 68 [l0, l1, l2, some (aI x)] L2 (aI x :: St) S := ev_go i255_67 rfl
theorem i255_68 : insAt 255 68 = some (.iconst 4, 1, (0, 0, 0, 0), 0) := rfl
theorem s255_68 {c : Nat → List AV → SS → Option Out} {l0 l1 l2 l3 : Option AV} {L2 : List (Nat × AV)} {St : List AV} {S : SS} : ev c 255 68 [l0, l1, l2, l3] L2 St S = ev c 255 69 [l0, l1, l2, l3] L2 (aI 4 :: St) S := ev_go i255_68 rfl
theorem i255_69 : insAt 255 69 = some (.aload_n 0, 1, (0, 0, 0, 0), 0) := rfl
theorem s255_69 {c : Nat → List AV → SS → Option Out} {l1 l2 l3 : Option AV} {o : OId} {L2 : List (Nat × AV)} {St : List AV} {S : SS} : ev c 255 69 [some (aR o), l1, l2, l3] L2 St S = ev c 255 70 [some (aR o), l1, l2, l3] L2 (aR o :: St) S := ev_go i255_69 rfl
theorem i255_70 : insAt 255 70 = some (.getfield 7, 3, (12, 0, 0, 0), 0) := rfl
theorem s255_70 {c : Nat → List AV → SS → Option Out} {l0 l1 l2 l3 : Option AV} {j t : Nat} {L2 : List (Nat × AV)} {St : List AV} {S : SS} : ev c 255 70 [l0, l1, l2, l3] L2 (aR (12, j, t) :: St) S = ev c 255 73 [l0, l1, l2, l3] L2 (S.2.2.1 (12, j, t) 0 :: St) S := ev_go i255_70 rfl
theorem i255_73 : insAt 255 73 = some (.iconst 3, 1, (0, 0, 0, 0), 0) := rfl
theorem s255_73 {c : Nat → List AV → SS → Option Out} {l0 l1 l2 l3 : Option AV} {L2 : List (Nat × AV)} {St : List AV} {S : SS} : ev c 255 73 [l0, l1, l2, l3] L2 St S = ev c 255 74 [l0, l1, l2, l3] L2 (aI 3 :: St) S := ev_go i255_73 rfl
theorem i255_74 : insAt 255 74 = some (.iaload, 1, (0, 0, 0, 0), 0) := rfl
theorem s255_74 {c : Nat → List AV → SS → Option Out} {l0 l1 l2 l3 : Option AV} {i : Int32} {o : OId} {L2 : List (Nat × AV)} {St : List AV} {S : SS} : ev c 255 74 [l0, l1, l2, l3] L2 (aI i :: aR o :: St) S = kI o i (ev c 255 75 [l0, l1, l2, l3] L2 (aI (agI S o i.toNatClampNeg) :: St) S) := ev_iaload i255_74
theorem i255_75 : insAt 255 75 = some (.iload_n 2, 1, (0, 0, 0, 0), 0) := rfl
theorem s255_75 {c : Nat → List AV → SS → Option Out} {l0 l1 l3 : Option AV} {x : Int32} {L2 : List (Nat × AV)} {St : List AV} {S : SS} : ev c 255 75 [l0, l1, some (aI x), l3] L2 St S = ev c 255 76 [l0, l1, some (aI x), l3] L2 (aI x :: St) S := ev_go i255_75 rfl
theorem i255_76 : insAt 255 76 = some (.iadd, 1, (0, 0, 0, 0), 0) := rfl
theorem s255_76 {c : Nat → List AV → SS → Option Out} {l0 l1 l2 l3 : Option AV} {x y : Int32} {L2 : List (Nat × AV)} {St : List AV} {S : SS} : ev c 255 76 [l0, l1, l2, l3] L2 (aI y :: aI x :: St) S = ev c 255 77 [l0, l1, l2, l3] L2 (aI (x + y) :: St) S := ev_go i255_76 rfl
theorem i255_77 : insAt 255 77 = some (.invokevirtual 79, 3, (245, 3, 2, 12), 0) := rfl
theorem s255_77 {c : Nat → List AV → SS → Option Out} {l0 l1 l2 l3 : Option AV} {a0 : Int32} {a1 : Int32} {a2 : Int32} {j t : Nat} {L2 : List (Nat × AV)} {S : SS} : ev c 255 77 [l0, l1, l2, l3] L2 [aI a2, aI a1, aI a0, aR (12, j, t)] S = ck (c 245 [aR (12, j, t), aI a0, aI a1, aI a2] S) (fun v S' => ev c 255 80 [l0, l1, l2, l3] L2 (v.toList ++ []) S') := ev_call i255_77 rfl
theorem i255_80 : insAt 255 80 = some (.aload_n 0, 1, (0, 0, 0, 0), 0) := rfl
theorem s255_80 {c : Nat → List AV → SS → Option Out} {l1 l2 l3 : Option AV} {o : OId} {L2 : List (Nat × AV)} {St : List AV} {S : SS} : ev c 255 80 [some (aR o), l1, l2, l3] L2 St S = ev c 255 81 [some (aR o), l1, l2, l3] L2 (aR o :: St) S := ev_go i255_80 rfl
theorem i255_81 : insAt 255 81 = some (.getfield 7, 3, (12, 0, 0, 0), 0) := rfl
theorem s255_81 {c : Nat → List AV → SS → Option Out} {l0 l1 l2 l3 : Option AV} {j t : Nat} {L2 : List (Nat × AV)} {St : List AV} {S : SS} : ev c 255 81 [l0, l1, l2, l3] L2 (aR (12, j, t) :: St) S = ev c 255 84 [l0, l1, l2, l3] L2 (S.2.2.1 (12, j, t) 0 :: St) S := ev_go i255_81 rfl
theorem i255_84 : insAt 255 84 = some (.iconst 3, 1, (0, 0, 0, 0), 0) := rfl
theorem s255_84 {c : Nat → List AV → SS → Option Out} {l0 l1 l2 l3 : Option AV} {L2 : List (Nat × AV)} {St : List AV} {S : SS} : ev c 255 84 [l0, l1, l2, l3] L2 St S = ev c 255 85 [l0, l1, l2, l3] L2 (aI 3 :: St) S := ev_go i255_84 rfl
theorem i255_85 : insAt 255 85 = some (.iaload, 1, (0, 0, 0, 0), 0) := rfl
theorem s255_85 {c : Nat → List AV → SS → Option Out} {l0 l1 l2 l3 : Option AV} {i : Int32} {o : OId} {L2 : List (Nat × AV)} {St : List AV} {S : SS} : ev c 255 85 [l0, l1, l2, l3] L2 (aI i :: aR o :: St) S = kI o i (ev c 255 86 [l0, l1, l2, l3] L2 (aI (agI S o i.toNatClampNeg) :: St) S) := ev_iaload i255_85
theorem i255_86 : insAt 255 86 = some (.iload_n 2, 1, (0, 0, 0, 0), 0) := rfl
theorem s255_86 {c : Nat → List AV → SS → Option Out} {l0 l1 l3 : Option AV} {x : Int32} {L2 : List (Nat × AV)} {St : List AV} {S : SS} : ev c 255 86 [l0, l1, some (aI x), l3] L2 St S = ev c 255 87 [l0, l1, some (aI x), l3] L2 (aI x :: St) S := ev_go i255_86 rfl
theorem i255_87 : insAt 255 87 = some (.iadd, 1, (0, 0, 0, 0), 0) := rfl
theorem s255_87 {c : Nat → List AV → SS → Option Out} {l0 l1 l2 l3 : Option AV} {x y : Int32} {L2 : List (Nat × AV)} {St : List AV} {S : SS} : ev c 255 87 [l0, l1, l2, l3] L2 (aI y :: aI x :: St) S = ev c 255 88 [l0, l1, l2, l3] L2 (aI (x + y) :: St) S := ev_go i255_87 rfl
theorem i255_88 : insAt 255 88 = some (.ireturn, 1, (0, 0, 0, 0), 0) := rfl
theorem s255_88 {c : Nat → List AV → SS → Option Out} {l0 l1 l2 l3 : Option AV} {x : Int32} {L2 : List (Nat × AV)} {St : List AV} {S : SS} : ev c 255 88 [l0, l1, l2, l3] L2 [aI x] S = some (.inl (some (aI x)), S) := ev_end i255_88 rfl
theorem m255 {d : Nat} {o : OId} {a0 : Int32} {a1 : Int32} {S : SS} : evm (d + 1) 255 [aR o, aI a0, aI a1] S = ev (evm d) 255 0 [some (aR o), some (aI a0), some (aI a1), none] [] [] S := evm_s (n := 4) rfl (Nat.le_of_ble_eq_true rfl) rfl rfl
/-! FrequencyOfficeModel.slotOf(I)I -/
theorem i256_0 : insAt 256 0 = some (.iconst 0, 1, (0, 0, 0, 0), 0) := rfl
theorem s256_0 {c : Nat → List AV → SS → Option Out} {l0 l1 l2 : Option AV} {L2 : List (Nat × AV)} {St : List AV} {S : SS} : ev c 256 0 [l0, l1, l2] L2 St S = ev c 256 1 [l0, l1, l2] L2 (aI 0 :: St) S := ev_go i256_0 rfl
theorem i256_1 : insAt 256 1 = some (.istore_n 2, 1, (0, 0, 0, 0), 0) := rfl
theorem s256_1 {c : Nat → List AV → SS → Option Out} {l0 l1 l2 : Option AV} {x : Int32} {L2 : List (Nat × AV)} {St : List AV} {S : SS} : ev c 256 1 [l0, l1, l2] L2 (aI x :: St) S = ev c 256 2 [l0, l1, some (aI x)] (kil L2 2) St S := ev_go i256_1 rfl
theorem i256_2 : insAt 256 2 = some (.iload_n 2, 1, (0, 0, 0, 0), 0) := rfl
theorem s256_2 {c : Nat → List AV → SS → Option Out} {l0 l1 : Option AV} {x : Int32} {L2 : List (Nat × AV)} {St : List AV} {S : SS} : ev c 256 2 [l0, l1, some (aI x)] L2 St S = ev c 256 3 [l0, l1, some (aI x)] L2 (aI x :: St) S := ev_go i256_2 rfl
theorem i256_3 : insAt 256 3 = some (.aload_n 0, 1, (0, 0, 0, 0), 0) := rfl
theorem s256_3 {c : Nat → List AV → SS → Option Out} {l1 l2 : Option AV} {o : OId} {L2 : List (Nat × AV)} {St : List AV} {S : SS} : ev c 256 3 [some (aR o), l1, l2] L2 St S = ev c 256 4 [some (aR o), l1, l2] L2 (aR o :: St) S := ev_go i256_3 rfl
theorem i256_4 : insAt 256 4 = some (.getfield 7, 3, (12, 0, 0, 0), 0) := rfl
theorem s256_4 {c : Nat → List AV → SS → Option Out} {l0 l1 l2 : Option AV} {j t : Nat} {L2 : List (Nat × AV)} {St : List AV} {S : SS} : ev c 256 4 [l0, l1, l2] L2 (aR (12, j, t) :: St) S = ev c 256 7 [l0, l1, l2] L2 (S.2.2.1 (12, j, t) 0 :: St) S := ev_go i256_4 rfl
theorem i256_7 : insAt 256 7 = some (.bipush 7, 2, (0, 0, 0, 0), 0) := rfl
theorem s256_7 {c : Nat → List AV → SS → Option Out} {l0 l1 l2 : Option AV} {L2 : List (Nat × AV)} {St : List AV} {S : SS} : ev c 256 7 [l0, l1, l2] L2 St S = ev c 256 9 [l0, l1, l2] L2 (aI 7 :: St) S := ev_go i256_7 rfl
theorem i256_9 : insAt 256 9 = some (.iaload, 1, (0, 0, 0, 0), 0) := rfl
theorem s256_9 {c : Nat → List AV → SS → Option Out} {l0 l1 l2 : Option AV} {i : Int32} {o : OId} {L2 : List (Nat × AV)} {St : List AV} {S : SS} : ev c 256 9 [l0, l1, l2] L2 (aI i :: aR o :: St) S = kI o i (ev c 256 10 [l0, l1, l2] L2 (aI (agI S o i.toNatClampNeg) :: St) S) := ev_iaload i256_9
theorem i256_10 : insAt 256 10 = some (.if_icmp .ge 21, 3, (0, 0, 0, 0), 0) := rfl
theorem s256_10 {c : Nat → List AV → SS → Option Out} {l0 l1 l2 : Option AV} {x y : Int32} {L2 : List (Nat × AV)} {St : List AV} {S : SS} : ev c 256 10 [l0, l1, l2] L2 (aI y :: aI x :: St) S = if y ≤ x then ev c 256 31 [l0, l1, l2] L2 St S else ev c 256 13 [l0, l1, l2] L2 St S := ev_br i256_10 rfl
theorem i256_13 : insAt 256 13 = some (.aload_n 0, 1, (0, 0, 0, 0), 0) := rfl
theorem s256_13 {c : Nat → List AV → SS → Option Out} {l1 l2 : Option AV} {o : OId} {L2 : List (Nat × AV)} {St : List AV} {S : SS} : ev c 256 13 [some (aR o), l1, l2] L2 St S = ev c 256 14 [some (aR o), l1, l2] L2 (aR o :: St) S := ev_go i256_13 rfl
theorem i256_14 : insAt 256 14 = some (.iload_n 2, 1, (0, 0, 0, 0), 0) := rfl
theorem s256_14 {c : Nat → List AV → SS → Option Out} {l0 l1 : Option AV} {x : Int32} {L2 : List (Nat × AV)} {St : List AV} {S : SS} : ev c 256 14 [l0, l1, some (aI x)] L2 St S = ev c 256 15 [l0, l1, some (aI x)] L2 (aI x :: St) S := ev_go i256_14 rfl
theorem i256_15 : insAt 256 15 = some (.iconst 0, 1, (0, 0, 0, 0), 0) := rfl
theorem s256_15 {c : Nat → List AV → SS → Option Out} {l0 l1 l2 : Option AV} {L2 : List (Nat × AV)} {St : List AV} {S : SS} : ev c 256 15 [l0, l1, l2] L2 St S = ev c 256 16 [l0, l1, l2] L2 (aI 0 :: St) S := ev_go i256_15 rfl
theorem i256_16 : insAt 256 16 = some (.invokevirtual 75, 3, (234, 2, 2, 12), 0) := rfl
theorem s256_16 {c : Nat → List AV → SS → Option Out} {l0 l1 l2 : Option AV} {a0 : Int32} {a1 : Int32} {j t : Nat} {L2 : List (Nat × AV)} {S : SS} : ev c 256 16 [l0, l1, l2] L2 [aI a1, aI a0, aR (12, j, t)] S = ck (c 234 [aR (12, j, t), aI a0, aI a1] S) (fun v S' => ev c 256 19 [l0, l1, l2] L2 (v.toList ++ []) S') := ev_call i256_16 rfl
theorem i256_19 : insAt 256 19 = some (.iload_n 1, 1, (0, 0, 0, 0), 0) := rfl
theorem s256_19 {c : Nat → List AV → SS → Option Out} {l0 l2 : Option AV} {x : Int32} {L2 : List (Nat × AV)} {St : List AV} {S : SS} : ev c 256 19 [l0, some (aI x), l2] L2 St S = ev c 256 20 [l0, some (aI x), l2] L2 (aI x :: St) S := ev_go i256_19 rfl
theorem i256_20 : insAt 256 20 = some (.if_icmp .ne 5, 3, (0, 0, 0, 0), 0) := rfl
theorem s256_20 {c : Nat → List AV → SS → Option Out} {l0 l1 l2 : Option AV} {x y : Int32} {L2 : List (Nat × AV)} {St : List AV} {S : SS} : ev c 256 20 [l0, l1, l2] L2 (aI y :: aI x :: St) S = if x = y then ev c 256 23 [l0, l1, l2] L2 St S else ev c 256 25 [l0, l1, l2] L2 St S := (ev_br i256_20 rfl).trans (ite_not _ _ _)
theorem i256_23 : insAt 256 23 = some (.iload_n 2, 1, (0, 0, 0, 0), 0) := rfl
theorem s256_23 {c : Nat → List AV → SS → Option Out} {l0 l1 : Option AV} {x : Int32} {L2 : List (Nat × AV)} {St : List AV} {S : SS} : ev c 256 23 [l0, l1, some (aI x)] L2 St S = ev c 256 24 [l0, l1, some (aI x)] L2 (aI x :: St) S := ev_go i256_23 rfl
theorem i256_24 : insAt 256 24 = some (.ireturn, 1, (0, 0, 0, 0), 0) := rfl
theorem s256_24 {c : Nat → List AV → SS → Option Out} {l0 l1 l2 : Option AV} {x : Int32} {L2 : List (Nat × AV)} {St : List AV} {S : SS} : ev c 256 24 [l0, l1, l2] L2 [aI x] S = some (.inl (some (aI x)), S) := ev_end i256_24 rfl
theorem i256_25 : insAt 256 25 = some (.iinc 2 1, 3, (0, 0, 0, 0), 0) := rfl
theorem s256_25 {c : Nat → List AV → SS → Option Out} {l0 l1 : Option AV} {x : Int32} {L2 : List (Nat × AV)} {St : List AV} {S : SS} : ev c 256 25 [l0, l1, some (aI x)] L2 St S = ev c 256 28 [l0, l1, some (aI (x + 1))] (kil L2 2) St S := ev_go i256_25 rfl
theorem i256_28 : insAt 256 28 = some (.goto (-26), 3, (0, 0, 0, 0), 0) := rfl
theorem s256_28 {c : Nat → List AV → SS → Option Out} {l0 l1 l2 : Option AV} {L2 : List (Nat × AV)} {St : List AV} {S : SS} : ev c 256 28 [l0, l1, l2] L2 St S = ev c 256 2 [l0, l1, l2] L2 St S := ev_go i256_28 rfl
theorem i256_31 : insAt 256 31 = some (.iconst (-1), 1, (0, 0, 0, 0), 0) := rfl
theorem s256_31 {c : Nat → List AV → SS → Option Out} {l0 l1 l2 : Option AV} {L2 : List (Nat × AV)} {St : List AV} {S : SS} : ev c 256 31 [l0, l1, l2] L2 St S = ev c 256 32 [l0, l1, l2] L2 (aI (-1) :: St) S := ev_go i256_31 rfl
theorem i256_32 : insAt 256 32 = some (.ireturn, 1, (0, 0, 0, 0), 0) := rfl
theorem s256_32 {c : Nat → List AV → SS → Option Out} {l0 l1 l2 : Option AV} {x : Int32} {L2 : List (Nat × AV)} {St : List AV} {S : SS} : ev c 256 32 [l0, l1, l2] L2 [aI x] S = some (.inl (some (aI x)), S) := ev_end i256_32 rfl
theorem m256 {d : Nat} {o : OId} {a0 : Int32} {S : SS} : evm (d + 1) 256 [aR o, aI a0] S = ev (evm d) 256 0 [some (aR o), some (aI a0), none] [] [] S := evm_s (n := 3) rfl (Nat.le_of_ble_eq_true rfl) rfl rfl
/-! FrequencyOfficeModel.renew(II)I -/
theorem i257_0 : insAt 257 0 = some (.aload_n 0, 1, (0, 0, 0, 0), 0) := rfl
theorem s257_0 {c : Nat → List AV → SS → Option Out} {l1 l2 l3 : Option AV} {o : OId} {L2 : List (Nat × AV)} {St : List AV} {S : SS} : ev c 257 0 [some (aR o), l1, l2, l3] L2 St S = ev c 257 1 [some (aR o), l1, l2, l3] L2 (aR o :: St) S := ev_go i257_0 rfl
theorem i257_1 : insAt 257 1 = some (.iload_n 1, 1, (0, 0, 0, 0), 0) := rfl
theorem s257_1 {c : Nat → List AV → SS → Option Out} {l0 l2 l3 : Option AV} {x : Int32} {L2 : List (Nat × AV)} {St : List AV} {S : SS} : ev c 257 1 [l0, some (aI x), l2, l3] L2 St S = ev c 257 2 [l0, some (aI x), l2, l3] L2 (aI x :: St) S := ev_go i257_1 rfl
theorem i257_2 : insAt 257 2 = some (.invokevirtual 173, 3, (256, 1, 2, 12), 0) := rfl
theorem s257_2 {c : Nat → List AV → SS → Option Out} {l0 l1 l2 l3 : Option AV} {a0 : Int32} {j t : Nat} {L2 : List (Nat × AV)} {S : SS} : ev c 257 2 [l0, l1, l2, l3] L2 [aI a0, aR (12, j, t)] S = ck (c 256 [aR (12, j, t), aI a0] S) (fun v S' => ev c 257 5 [l0, l1, l2, l3] L2 (v.toList ++ []) S') := ev_call i257_2 rfl
theorem i257_5 : insAt 257 5 = some (.istore_n 3, 1, (0, 0, 0, 0), 0) := rfl
theorem s257_5 {c : Nat → List AV → SS → Option Out} {l0 l1 l2 l3 : Option AV} {x : Int32} {L2 : List (Nat × AV)} {St : List AV} {S : SS} : ev c 257 5 [l0, l1, l2, l3] L2 (aI x :: St) S = ev c 257 6 [l0, l1, l2, some (aI x)] (kil L2 3) St S := ev_go i257_5 rfl
theorem i257_6 : insAt 257 6 = some (.aload_n 0, 1, (0, 0, 0, 0), 0) := rfl
theorem s257_6 {c : Nat → List AV → SS → Option Out} {l1 l2 l3 : Option AV} {o : OId} {L2 : List (Nat × AV)} {St : List AV} {S : SS} : ev c 257 6 [some (aR o), l1, l2, l3] L2 St S = ev c 257 7 [some (aR o), l1, l2, l3] L2 (aR o :: St) S := ev_go i257_6 rfl
theorem i257_7 : insAt 257 7 = some (.iload_n 3, 1, (0, 0, 0, 0), 0) := rfl
theorem s257_7 {c : Nat → List AV → SS → Option Out} {l0 l1 l2 : Option AV} {x : Int32} {L2 : List (Nat × AV)} {St : List AV} {S : SS} : ev c 257 7 [l0, l1, l2, some (aI x)] L2 St S = ev c 257 8 [l0, l1, l2, some (aI x)] L2 (aI x :: St) S := ev_go i257_7 rfl
theorem i257_8 : insAt 257 8 = some (.ifCond .ge 7, 3, (0, 0, 0, 0), 0) := rfl
theorem s257_8 {c : Nat → List AV → SS → Option Out} {l0 l1 l2 l3 : Option AV} {x : Int32} {L2 : List (Nat × AV)} {St : List AV} {S : SS} : ev c 257 8 [l0, l1, l2, l3] L2 (aI x :: St) S = if 0 ≤ x then ev c 257 15 [l0, l1, l2, l3] L2 St S else ev c 257 11 [l0, l1, l2, l3] L2 St S := ev_br i257_8 rfl
theorem i257_11 : insAt 257 11 = some (.iconst 1, 1, (0, 0, 0, 0), 0) := rfl
theorem s257_11 {c : Nat → List AV → SS → Option Out} {l0 l1 l2 l3 : Option AV} {L2 : List (Nat × AV)} {St : List AV} {S : SS} : ev c 257 11 [l0, l1, l2, l3] L2 St S = ev c 257 12 [l0, l1, l2, l3] L2 (aI 1 :: St) S := ev_go i257_11 rfl
theorem i257_12 : insAt 257 12 = some (.goto 52, 3, (0, 0, 0, 0), 0) := rfl
theorem s257_12 {c : Nat → List AV → SS → Option Out} {l0 l1 l2 l3 : Option AV} {L2 : List (Nat × AV)} {St : List AV} {S : SS} : ev c 257 12 [l0, l1, l2, l3] L2 St S = ev c 257 64 [l0, l1, l2, l3] L2 St S := ev_go i257_12 rfl
theorem i257_15 : insAt 257 15 = some (.iload_n 2, 1, (0, 0, 0, 0), 0) := rfl
theorem s257_15 {c : Nat → List AV → SS → Option Out} {l0 l1 l3 : Option AV} {x : Int32} {L2 : List (Nat × AV)} {St : List AV} {S : SS} : ev c 257 15 [l0, l1, some (aI x), l3] L2 St S = ev c 257 16 [l0, l1, some (aI x), l3] L2 (aI x :: St) S := ev_go i257_15 rfl
theorem i257_16 : insAt 257 16 = some (.iconst 1, 1, (0, 0, 0, 0), 0) := rfl
theorem s257_16 {c : Nat → List AV → SS → Option Out} {l0 l1 l2 l3 : Option AV} {L2 : List (Nat × AV)} {St : List AV} {S : SS} : ev c 257 16 [l0, l1, l2, l3] L2 St S = ev c 257 17 [l0, l1, l2, l3] L2 (aI 1 :: St) S := ev_go i257_16 rfl
theorem i257_17 : insAt 257 17 = some (.sipush 365, 3, (0, 0, 0, 0), 0) := rfl
theorem s257_17 {c : Nat → List AV → SS → Option Out} {l0 l1 l2 l3 : Option AV} {L2 : List (Nat × AV)} {St : List AV} {S : SS} : ev c 257 17 [l0, l1, l2, l3] L2 St S = ev c 257 20 [l0, l1, l2, l3] L2 (aI 365 :: St) S := ev_go i257_17 rfl
theorem i257_20 : insAt 257 20 = some (.invokestatic 154, 3, (228, 3, 0, 0), 0) := rfl
theorem s257_20 {c : Nat → List AV → SS → Option Out} {l0 l1 l2 l3 : Option AV} {t0 : AV} {a0 : Int32} {a1 : Int32} {a2 : Int32} {L2 : List (Nat × AV)} {S : SS} : ev c 257 20 [l0, l1, l2, l3] L2 [aI a2, aI a1, aI a0, t0] S = ck (c 228 [aI a0, aI a1, aI a2] S) (fun v S' => ev c 257 23 [l0, l1, l2, l3] L2 (v.toList ++ [t0]) S') := ev_call i257_20 rfl
theorem i257_23 : insAt 257 23 = some (.ifCond .ne 7, 3, (0, 0, 0, 0), 0) := rfl
theorem s257_23 {c : Nat → List AV → SS → Option Out} {l0 l1 l2 l3 : Option AV} {x : Int32} {L2 : List (Nat × AV)} {St : List AV} {S : SS} : ev c 257 23 [l0, l1, l2, l3] L2 (aI x :: St) S = if x = 0 then ev c 257 26 [l0, l1, l2, l3] L2 St S else ev c 257 30 [l0, l1, l2, l3] L2 St S := (ev_br i257_23 rfl).trans (ite_not _ _ _)
theorem i257_26 : insAt 257 26 = some (.iconst 2, 1, (0, 0, 0, 0), 0) := rfl
theorem s257_26 {c : Nat → List AV → SS → Option Out} {l0 l1 l2 l3 : Option AV} {L2 : List (Nat × AV)} {St : List AV} {S : SS} : ev c 257 26 [l0, l1, l2, l3] L2 St S = ev c 257 27 [l0, l1, l2, l3] L2 (aI 2 :: St) S := ev_go i257_26 rfl
theorem i257_27 : insAt 257 27 = some (.goto 37, 3, (0, 0, 0, 0), 0) := rfl
theorem s257_27 {c : Nat → List AV → SS → Option Out} {l0 l1 l2 l3 : Option AV} {L2 : List (Nat × AV)} {St : List AV} {S : SS} : ev c 257 27 [l0, l1, l2, l3] L2 St S = ev c 257 64 [l0, l1, l2, l3] L2 St S := ev_go i257_27 rfl
theorem i257_30 : insAt 257 30 = some (.aload_n 0, 1, (0, 0, 0, 0), 0) := rfl
theorem s257_30 {c : Nat → List AV → SS → Option Out} {l1 l2 l3 : Option AV} {o : OId} {L2 : List (Nat × AV)} {St : List AV} {S : SS} : ev c 257 30 [some (aR o), l1, l2, l3] L2 St S = ev c 257 31 [some (aR o), l1, l2, l3] L2 (aR o :: St) S := ev_go i257_30 rfl
theorem i257_31 : insAt 257 31 = some (.iload_n 3, 1, (0, 0, 0, 0), 0) := rfl
theorem s257_31 {c : Nat → List AV → SS → Option Out} {l0 l1 l2 : Option AV} {x : Int32} {L2 : List (Nat × AV)} {St : List AV} {S : SS} : ev c 257 31 [l0, l1, l2, some (aI x)] L2 St S = ev c 257 32 [l0, l1, l2, some (aI x)] L2 (aI x :: St) S := ev_go i257_31 rfl
theorem i257_32 : insAt 257 32 = some (.invokevirtual 115, 3, (233, 1, 2, 12), 0) := rfl
theorem s257_32 {c : Nat → List AV → SS → Option Out} {l0 l1 l2 l3 : Option AV} {t0 : AV} {a0 : Int32} {j t : Nat} {L2 : List (Nat × AV)} {S : SS} : ev c 257 32 [l0, l1, l2, l3] L2 [aI a0, aR (12, j, t), t0] S = ck (c 233 [aR (12, j, t), aI a0] S) (fun v S' => ev c 257 35 [l0, l1, l2, l3] L2 (v.toList ++ [t0]) S') := ev_call i257_32 rfl
theorem i257_35 : insAt 257 35 = some (.ifCond .eq 24, 3, (0, 0, 0, 0), 0) := rfl
theorem s257_35 {c : Nat → List AV → SS → Option Out} {l0 l1 l2 l3 : Option AV} {x : Int32} {L2 : List (Nat × AV)} {St : List AV} {S : SS} : ev c 257 35 [l0, l1, l2, l3] L2 (aI x :: St) S = if x = 0 then ev c 257 59 [l0, l1, l2, l3] L2 St S else ev c 257 38 [l0, l1, l2, l3] L2 St S := ev_br i257_35 rfl
theorem i257_38 : insAt 257 38 = some (.aload_n 0, 1, (0, 0, 0, 0), 0) := rfl
theorem s257_38 {c : Nat → List AV → SS → Option Out} {l1 l2 l3 : Option AV} {o : OId} {L2 : List (Nat × AV)} {St : List AV} {S : SS} : ev c 257 38 [some (aR o), l1, l2, l3] L2 St S = ev c 257 39 [some (aR o), l1, l2, l3] L2 (aR o :: St) S := ev_go i257_38 rfl
theorem i257_39 : insAt 257 39 = some (.iload_n 3, 1, (0, 0, 0, 0), 0) := rfl
theorem s257_39 {c : Nat → List AV → SS → Option Out} {l0 l1 l2 : Option AV} {x : Int32} {L2 : List (Nat × AV)} {St : List AV} {S : SS} : ev c 257 39 [l0, l1, l2, some (aI x)] L2 St S = ev c 257 40 [l0, l1, l2, some (aI x)] L2 (aI x :: St) S := ev_go i257_39 rfl
theorem i257_40 : insAt 257 40 = some (.iconst 4, 1, (0, 0, 0, 0), 0) := rfl
theorem s257_40 {c : Nat → List AV → SS → Option Out} {l0 l1 l2 l3 : Option AV} {L2 : List (Nat × AV)} {St : List AV} {S : SS} : ev c 257 40 [l0, l1, l2, l3] L2 St S = ev c 257 41 [l0, l1, l2, l3] L2 (aI 4 :: St) S := ev_go i257_40 rfl
theorem i257_41 : insAt 257 41 = some (.invokevirtual 75, 3, (234, 2, 2, 12), 0) := rfl
theorem s257_41 {c : Nat → List AV → SS → Option Out} {l0 l1 l2 l3 : Option AV} {t0 : AV} {a0 : Int32} {a1 : Int32} {j t : Nat} {L2 : List (Nat × AV)} {S : SS} : ev c 257 41 [l0, l1, l2, l3] L2 [aI a1, aI a0, aR (12, j, t), t0] S = ck (c 234 [aR (12, j, t), aI a0, aI a1] S) (fun v S' => ev c 257 44 [l0, l1, l2, l3] L2 (v.toList ++ [t0]) S') := ev_call i257_41 rfl
theorem i257_44 : insAt 257 44 = some (.iload_n 2, 1, (0, 0, 0, 0), 0) := rfl
theorem s257_44 {c : Nat → List AV → SS → Option Out} {l0 l1 l3 : Option AV} {x : Int32} {L2 : List (Nat × AV)} {St : List AV} {S : SS} : ev c 257 44 [l0, l1, some (aI x), l3] L2 St S = ev c 257 45 [l0, l1, some (aI x), l3] L2 (aI x :: St) S := ev_go i257_44 rfl
theorem i257_45 : insAt 257 45 = some (.iadd, 1, (0, 0, 0, 0), 0) := rfl
theorem s257_45 {c : Nat → List AV → SS → Option Out} {l0 l1 l2 l3 : Option AV} {x y : Int32} {L2 : List (Nat × AV)} {St : List AV} {S : SS} : ev c 257 45 [l0, l1, l2, l3] L2 (aI y :: aI x :: St) S = ev c 257 46 [l0, l1, l2, l3] L2 (aI (x + y) :: St) S := ev_go i257_45 rfl
theorem i257_46 : insAt 257 46 = some (.aload_n 0, 1, (0, 0, 0, 0), 0) := rfl
theorem s257_46 {c : Nat → List AV → SS → Option Out} {l1 l2 l3 : Option AV} {o : OId} {L2 : List (Nat × AV)} {St : List AV} {S : SS} : ev c 257 46 [some (aR o), l1, l2, l3] L2 St S = ev c 257 47 [some (aR o), l1, l2, l3] L2 (aR o :: St) S := ev_go i257_46 rfl
theorem i257_47 : insAt 257 47 = some (.getfield 7, 3, (12, 0, 0, 0), 0) := rfl
theorem s257_47 {c : Nat → List AV → SS → Option Out} {l0 l1 l2 l3 : Option AV} {j t : Nat} {L2 : List (Nat × AV)} {St : List AV} {S : SS} : ev c 257 47 [l0, l1, l2, l3] L2 (aR (12, j, t) :: St) S = ev c 257 50 [l0, l1, l2, l3] L2 (S.2.2.1 (12, j, t) 0 :: St) S := ev_go i257_47 rfl
theorem i257_50 : insAt 257 50 = some (.iconst 3, 1, (0, 0, 0, 0), 0) := rfl
theorem s257_50 {c : Nat → List AV → SS → Option Out} {l0 l1 l2 l3 : Option AV} {L2 : List (Nat × AV)} {St : List AV} {S : SS} : ev c 257 50 [l0, l1, l2, l3] L2 St S = ev c 257 51 [l0, l1, l2, l3] L2 (aI 3 :: St) S := ev_go i257_50 rfl
theorem i257_51 : insAt 257 51 = some (.iaload, 1, (0, 0, 0, 0), 0) := rfl
theorem s257_51 {c : Nat → List AV → SS → Option Out} {l0 l1 l2 l3 : Option AV} {i : Int32} {o : OId} {L2 : List (Nat × AV)} {St : List AV} {S : SS} : ev c 257 51 [l0, l1, l2, l3] L2 (aI i :: aR o :: St) S = kI o i (ev c 257 52 [l0, l1, l2, l3] L2 (aI (agI S o i.toNatClampNeg) :: St) S) := ev_iaload i257_51
theorem i257_52 : insAt 257 52 = some (.sipush 365, 3, (0, 0, 0, 0), 0) := rfl
theorem s257_52 {c : Nat → List AV → SS → Option Out} {l0 l1 l2 l3 : Option AV} {L2 : List (Nat × AV)} {St : List AV} {S : SS} : ev c 257 52 [l0, l1, l2, l3] L2 St S = ev c 257 55 [l0, l1, l2, l3] L2 (aI 365 :: St) S := ev_go i257_52 rfl
theorem i257_55 : insAt 257 55 = some (.iadd, 1, (0, 0, 0, 0), 0) := rfl
theorem s257_55 {c : Nat → List AV → SS → Option Out} {l0 l1 l2 l3 : Option AV} {x y : Int32} {L2 : List (Nat × AV)} {St : List AV} {S : SS} : ev c 257 55 [l0, l1, l2, l3] L2 (aI y :: aI x :: St) S = ev c 257 56 [l0, l1, l2, l3] L2 (aI (x + y) :: St) S := ev_go i257_55 rfl
theorem i257_56 : insAt 257 56 = some (.if_icmp .le 7, 3, (0, 0, 0, 0), 0) := rfl
theorem s257_56 {c : Nat → List AV → SS → Option Out} {l0 l1 l2 l3 : Option AV} {x y : Int32} {L2 : List (Nat × AV)} {St : List AV} {S : SS} : ev c 257 56 [l0, l1, l2, l3] L2 (aI y :: aI x :: St) S = if x ≤ y then ev c 257 63 [l0, l1, l2, l3] L2 St S else ev c 257 59 [l0, l1, l2, l3] L2 St S := ev_br i257_56 rfl
theorem i257_59 : insAt 257 59 = some (.iconst 3, 1, (0, 0, 0, 0), 0) := rfl
theorem s257_59 {c : Nat → List AV → SS → Option Out} {l0 l1 l2 l3 : Option AV} {L2 : List (Nat × AV)} {St : List AV} {S : SS} : ev c 257 59 [l0, l1, l2, l3] L2 St S = ev c 257 60 [l0, l1, l2, l3] L2 (aI 3 :: St) S := ev_go i257_59 rfl
theorem i257_60 : insAt 257 60 = some (.goto 4, 3, (0, 0, 0, 0), 0) := rfl
theorem s257_60 {c : Nat → List AV → SS → Option Out} {l0 l1 l2 l3 : Option AV} {L2 : List (Nat × AV)} {St : List AV} {S : SS} : ev c 257 60 [l0, l1, l2, l3] L2 St S = ev c 257 64 [l0, l1, l2, l3] L2 St S := ev_go i257_60 rfl
theorem i257_63 : insAt 257 63 = some (.iconst 0, 1, (0, 0, 0, 0), 0) := rfl
theorem s257_63 {c : Nat → List AV → SS → Option Out} {l0 l1 l2 l3 : Option AV} {L2 : List (Nat × AV)} {St : List AV} {S : SS} : ev c 257 63 [l0, l1, l2, l3] L2 St S = ev c 257 64 [l0, l1, l2, l3] L2 (aI 0 :: St) S := ev_go i257_63 rfl
theorem i257_64 : insAt 257 64 = some (.putfield 31, 3, (12, 7, 0, 0), 0) := rfl
theorem s257_64 {c : Nat → List AV → SS → Option Out} {l0 l1 l2 l3 : Option AV} {j t : Nat} {x : Int32} {L2 : List (Nat × AV)} {St : List AV} {S : SS} : ev c 257 64 [l0, l1, l2, l3] L2 (aI x :: aR (12, j, t) :: St) S = ev c 257 67 [l0, l1, l2, l3] L2 St (setI S.1 (12, j, t) 7 x, S.2) := ev_go i257_64 rfl
theorem i257_67 : insAt 257 67 = some (.aload_n 0, 1, (0, 0, 0, 0), 0) := rfl
theorem s257_67 {c : Nat → List AV → SS → Option Out} {l1 l2 l3 : Option AV} {o : OId} {L2 : List (Nat × AV)} {St : List AV} {S : SS} : ev c 257 67 [some (aR o), l1, l2, l3] L2 St S = ev c 257 68 [some (aR o), l1, l2, l3] L2 (aR o :: St) S := ev_go i257_67 rfl
theorem i257_68 : insAt 257 68 = some (.getfield 31, 3, (12, 7, 0, 0), 0) := rfl
theorem s257_68 {c : Nat → List AV → SS → Option Out} {l0 l1 l2 l3 : Option AV} {j t : Nat} {L2 : List (Nat × AV)} {St : List AV} {S : SS} : ev c 257 68 [l0, l1, l2, l3] L2 (aR (12, j, t) :: St) S = ev c 257 71 [l0, l1, l2, l3] L2 (aI (S.1 (12, j, t) 7) :: St) S := ev_go i257_68 rfl
theorem i257_71 : insAt 257 71 = some (.ifCond .le 5, 3, (0, 0, 0, 0), 0) := rfl
theorem s257_71 {c : Nat → List AV → SS → Option Out} {l0 l1 l2 l3 : Option AV} {x : Int32} {L2 : List (Nat × AV)} {St : List AV} {S : SS} : ev c 257 71 [l0, l1, l2, l3] L2 (aI x :: St) S = if x ≤ 0 then ev c 257 76 [l0, l1, l2, l3] L2 St S else ev c 257 74 [l0, l1, l2, l3] L2 St S := ev_br i257_71 rfl
theorem i257_74 : insAt 257 74 = some (.iconst 0, 1, (0, 0, 0, 0), 0) := rfl
theorem s257_74 {c : Nat → List AV → SS → Option Out} {l0 l1 l2 l3 : Option AV} {L2 : List (Nat × AV)} {St : List AV} {S : SS} : ev c 257 74 [l0, l1, l2, l3] L2 St S = ev c 257 75 [l0, l1, l2, l3] L2 (aI 0 :: St) S := ev_go i257_74 rfl
theorem i257_75 : insAt 257 75 = some (.ireturn, 1, (0, 0, 0, 0), 0) := rfl
theorem s257_75 {c : Nat → List AV → SS → Option Out} {l0 l1 l2 l3 : Option AV} {x : Int32} {L2 : List (Nat × AV)} {St : List AV} {S : SS} : ev c 257 75 [l0, l1, l2, l3] L2 [aI x] S = some (.inl (some (aI x)), S) := ev_end i257_75 rfl
theorem i257_76 : insAt 257 76 = some (.aload_n 0, 1, (0, 0, 0, 0), 0) := rfl
theorem s257_76 {c : Nat → List AV → SS → Option Out} {l1 l2 l3 : Option AV} {o : OId} {L2 : List (Nat × AV)} {St : List AV} {S : SS} : ev c 257 76 [some (aR o), l1, l2, l3] L2 St S = ev c 257 77 [some (aR o), l1, l2, l3] L2 (aR o :: St) S := ev_go i257_76 rfl
theorem i257_77 : insAt 257 77 = some (.invokevirtual 86, 3, (220, 0, 2, 12), 0) := rfl
theorem s257_77 {c : Nat → List AV → SS → Option Out} {l0 l1 l2 l3 : Option AV} {j t : Nat} {L2 : List (Nat × AV)} {S : SS} : ev c 257 77 [l0, l1, l2, l3] L2 [aR (12, j, t)] S = ck (c 220 [aR (12, j, t)] S) (fun v S' => ev c 257 80 [l0, l1, l2, l3] L2 (v.toList ++ []) S') := ev_call i257_77 rfl
theorem i257_80 : insAt 257 80 = some (.aload_n 0, 1, (0, 0, 0, 0), 0) := rfl
theorem s257_80 {c : Nat → List AV → SS → Option Out} {l1 l2 l3 : Option AV} {o : OId} {L2 : List (Nat × AV)} {St : List AV} {S : SS} : ev c 257 80 [some (aR o), l1, l2, l3] L2 St S = ev c 257 81 [some (aR o), l1, l2, l3] L2 (aR o :: St) S := ev_go i257_80 rfl
theorem i257_81 : insAt 257 81 = some (.iload_n 3, 1, (0, 0, 0, 0), 0) := rfl
theorem s257_81 {c : Nat → List AV → SS → Option Out} {l0 l1 l2 : Option AV} {x : Int32} {L2 : List (Nat × AV)} {St : List AV} {S : SS} : ev c 257 81 [l0, l1, l2, some (aI x)] L2 St S = ev c 257 82 [l0, l1, l2, some (aI x)] L2 (aI x :: St) S := ev_go i257_81 rfl
theorem i257_82 : insAt 257 82 = some (.iconst 4, 1, (0, 0, 0, 0), 0) := rfl
theorem s257_82 {c : Nat → List AV → SS → Option Out} {l0 l1 l2 l3 : Option AV} {L2 : List (Nat × AV)} {St : List AV} {S : SS} : ev c 257 82 [l0, l1, l2, l3] L2 St S = ev c 257 83 [l0, l1, l2, l3] L2 (aI 4 :: St) S := ev_go i257_82 rfl
theorem i257_83 : insAt 257 83 = some (.aload_n 0, 1, (0, 0, 0, 0), 0) := rfl
theorem s257_83 {c : Nat → List AV → SS → Option Out} {l1 l2 l3 : Option AV} {o : OId} {L2 : List (Nat × AV)} {St : List AV} {S : SS} : ev c 257 83 [some (aR o), l1, l2, l3] L2 St S = ev c 257 84 [some (aR o), l1, l2, l3] L2 (aR o :: St) S := ev_go i257_83 rfl
theorem i257_84 : insAt 257 84 = some (.iload_n 3, 1, (0, 0, 0, 0), 0) := rfl
theorem s257_84 {c : Nat → List AV → SS → Option Out} {l0 l1 l2 : Option AV} {x : Int32} {L2 : List (Nat × AV)} {St : List AV} {S : SS} : ev c 257 84 [l0, l1, l2, some (aI x)] L2 St S = ev c 257 85 [l0, l1, l2, some (aI x)] L2 (aI x :: St) S := ev_go i257_84 rfl
theorem i257_85 : insAt 257 85 = some (.iconst 4, 1, (0, 0, 0, 0), 0) := rfl
theorem s257_85 {c : Nat → List AV → SS → Option Out} {l0 l1 l2 l3 : Option AV} {L2 : List (Nat × AV)} {St : List AV} {S : SS} : ev c 257 85 [l0, l1, l2, l3] L2 St S = ev c 257 86 [l0, l1, l2, l3] L2 (aI 4 :: St) S := ev_go i257_85 rfl
theorem i257_86 : insAt 257 86 = some (.invokevirtual 75, 3, (234, 2, 2, 12), 0) := rfl
theorem s257_86 {c : Nat → List AV → SS → Option Out} {l0 l1 l2 l3 : Option AV} {t0 t1 t2 : AV} {a0 : Int32} {a1 : Int32} {j t : Nat} {L2 : List (Nat × AV)} {S : SS} : ev c 257 86 [l0, l1, l2, l3] L2 [aI a1, aI a0, aR (12, j, t), t0, t1, t2] S = ck (c 234 [aR (12, j, t), aI a0, aI a1] S) (fun v S' => ev c 257 89 [l0, l1, l2, l3] L2 (v.toList ++ [t0, t1, t2]) S') := ev_call i257_86 rfl
theorem i257_89 : insAt 257 89 = some (.iload_n 2, 1, (0, 0, 0, 0), 0) := rfl
theorem s257_89 {c : Nat → List AV → SS → Option Out} {l0 l1 l3 : Option AV} {x : Int32} {L2 : List (Nat × AV)} {St : List AV} {S : SS} : ev c 257 89 [l0, l1, some (aI x), l3] L2 St S = ev c 257 90 [l0, l1, some (aI x), l3] L2 (aI x :: St) S := ev_go i257_89 rfl
theorem i257_90 : insAt 257 90 = some (.iadd, 1, (0, 0, 0, 0), 0) := rfl
theorem s257_90 {c : Nat → List AV → SS → Option Out} {l0 l1 l2 l3 : Option AV} {x y : Int32} {L2 : List (Nat × AV)} {St : List AV} {S : SS} : ev c 257 90 [l0, l1, l2, l3] L2 (aI y :: aI x :: St) S = ev c 257 91 [l0, l1, l2, l3] L2 (aI (x + y) :: St) S := ev_go i257_90 rfl
theorem i257_91 : insAt 257 91 = some (.invokevirtual 79, 3, (245, 3, 2, 12), 0) := rfl
theorem s257_91 {c : Nat → List AV → SS → Option Out} {l0 l1 l2 l3 : Option AV} {a0 : Int32} {a1 : Int32} {a2 : Int32} {j t : Nat} {L2 : List (Nat × AV)} {S : SS} : ev c 257 91 [l0, l1, l2, l3] L2 [aI a2, aI a1, aI a0, aR (12, j, t)] S = ck (c 245 [aR (12, j, t), aI a0, aI a1, aI a2] S) (fun v S' => ev c 257 94 [l0, l1, l2, l3] L2 (v.toList ++ []) S') := ev_call i257_91 rfl
theorem i257_94 : insAt 257 94 = some (.aload_n 0, 1, (0, 0, 0, 0), 0) := rfl
theorem s257_94 {c : Nat → List AV → SS → Option Out} {l1 l2 l3 : Option AV} {o : OId} {L2 : List (Nat × AV)} {St : List AV} {S : SS} : ev c 257 94 [some (aR o), l1, l2, l3] L2 St S = ev c 257 95 [some (aR o), l1, l2, l3] L2 (aR o :: St) S := ev_go i257_94 rfl
theorem i257_95 : insAt 257 95 = some (.iload_n 3, 1, (0, 0, 0, 0), 0) := rfl
theorem s257_95 {c : Nat → List AV → SS → Option Out} {l0 l1 l2 : Option AV} {x : Int32} {L2 : List (Nat × AV)} {St : List AV} {S : SS} : ev c 257 95 [l0, l1, l2, some (aI x)] L2 St S = ev c 257 96 [l0, l1, l2, some (aI x)] L2 (aI x :: St) S := ev_go i257_95 rfl
theorem i257_96 : insAt 257 96 = some (.iconst 4, 1, (0, 0, 0, 0), 0) := rfl
theorem s257_96 {c : Nat → List AV → SS → Option Out} {l0 l1 l2 l3 : Option AV} {L2 : List (Nat × AV)} {St : List AV} {S : SS} : ev c 257 96 [l0, l1, l2, l3] L2 St S = ev c 257 97 [l0, l1, l2, l3] L2 (aI 4 :: St) S := ev_go i257_96 rfl
theorem i257_97 : insAt 257 97 = some (.invokevirtual 75, 3, (234, 2, 2, 12), 0) := rfl
theorem s257_97 {c : Nat → List AV → SS → Option Out} {l0 l1 l2 l3 : Option AV} {a0 : Int32} {a1 : Int32} {j t : Nat} {L2 : List (Nat × AV)} {S : SS} : ev c 257 97 [l0, l1, l2, l3] L2 [aI a1, aI a0, aR (12, j, t)] S = ck (c 234 [aR (12, j, t), aI a0, aI a1] S) (fun v S' => ev c 257 100 [l0, l1, l2, l3] L2 (v.toList ++ []) S') := ev_call i257_97 rfl
theorem i257_100 : insAt 257 100 = some (.ireturn, 1, (0, 0, 0, 0), 0) := rfl
theorem s257_100 {c : Nat → List AV → SS → Option Out} {l0 l1 l2 l3 : Option AV} {x : Int32} {L2 : List (Nat × AV)} {St : List AV} {S : SS} : ev c 257 100 [l0, l1, l2, l3] L2 [aI x] S = some (.inl (some (aI x)), S) := ev_end i257_100 rfl
theorem m257 {d : Nat} {o : OId} {a0 : Int32} {a1 : Int32} {S : SS} : evm (d + 1) 257 [aR o, aI a0, aI a1] S = ev (evm d) 257 0 [some (aR o), some (aI a0), some (aI a1), none] [] [] S := evm_s (n := 4) rfl (Nat.le_of_ble_eq_true rfl) rfl rfl
/-! FrequencyOfficeModel.close(I)I -/
theorem i258_0 : insAt 258 0 = some (.aload_n 0, 1, (0, 0, 0, 0), 0) := rfl
theorem s258_0 {c : Nat → List AV → SS → Option Out} {l1 : Option AV} {o : OId} {L2 : List (Nat × AV)} {St : List AV} {S : SS} : ev c 258 0 [some (aR o), l1] L2 St S = ev c 258 1 [some (aR o), l1] L2 (aR o :: St) S := ev_go i258_0 rfl
theorem i258_1 : insAt 258 1 = some (.aload_n 0, 1, (0, 0, 0, 0), 0) := rfl
theorem s258_1 {c : Nat → List AV → SS → Option Out} {l1 : Option AV} {o : OId} {L2 : List (Nat × AV)} {St : List AV} {S : SS} : ev c 258 1 [some (aR o), l1] L2 St S = ev c 258 2 [some (aR o), l1] L2 (aR o :: St) S := ev_go i258_1 rfl
theorem i258_2 : insAt 258 2 = some (.iload_n 1, 1, (0, 0, 0, 0), 0) := rfl
theorem s258_2 {c : Nat → List AV → SS → Option Out} {l0 : Option AV} {x : Int32} {L2 : List (Nat × AV)} {St : List AV} {S : SS} : ev c 258 2 [l0, some (aI x)] L2 St S = ev c 258 3 [l0, some (aI x)] L2 (aI x :: St) S := ev_go i258_2 rfl
theorem i258_3 : insAt 258 3 = some (.invokevirtual 173, 3, (256, 1, 2, 12), 0) := rfl
theorem s258_3 {c : Nat → List AV → SS → Option Out} {l0 l1 : Option AV} {t0 : AV} {a0 : Int32} {j t : Nat} {L2 : List (Nat × AV)} {S : SS} : ev c 258 3 [l0, l1] L2 [aI a0, aR (12, j, t), t0] S = ck (c 256 [aR (12, j, t), aI a0] S) (fun v S' => ev c 258 6 [l0, l1] L2 (v.toList ++ [t0]) S') := ev_call i258_3 rfl
theorem i258_6 : insAt 258 6 = some (.ifCond .lt 7, 3, (0, 0, 0, 0), 0) := rfl
theorem s258_6 {c : Nat → List AV → SS → Option Out} {l0 l1 : Option AV} {x : Int32} {L2 : List (Nat × AV)} {St : List AV} {S : SS} : ev c 258 6 [l0, l1] L2 (aI x :: St) S = if x < 0 then ev c 258 13 [l0, l1] L2 St S else ev c 258 9 [l0, l1] L2 St S := ev_br i258_6 rfl
theorem i258_9 : insAt 258 9 = some (.iconst 1, 1, (0, 0, 0, 0), 0) := rfl
theorem s258_9 {c : Nat → List AV → SS → Option Out} {l0 l1 : Option AV} {L2 : List (Nat × AV)} {St : List AV} {S : SS} : ev c 258 9 [l0, l1] L2 St S = ev c 258 10 [l0, l1] L2 (aI 1 :: St) S := ev_go i258_9 rfl
theorem i258_10 : insAt 258 10 = some (.goto 4, 3, (0, 0, 0, 0), 0) := rfl
theorem s258_10 {c : Nat → List AV → SS → Option Out} {l0 l1 : Option AV} {L2 : List (Nat × AV)} {St : List AV} {S : SS} : ev c 258 10 [l0, l1] L2 St S = ev c 258 14 [l0, l1] L2 St S := ev_go i258_10 rfl
theorem i258_13 : insAt 258 13 = some (.iconst 0, 1, (0, 0, 0, 0), 0) := rfl
theorem s258_13 {c : Nat → List AV → SS → Option Out} {l0 l1 : Option AV} {L2 : List (Nat × AV)} {St : List AV} {S : SS} : ev c 258 13 [l0, l1] L2 St S = ev c 258 14 [l0, l1] L2 (aI 0 :: St) S := ev_go i258_13 rfl
theorem i258_14 : insAt 258 14 = some (.invokevirtual 176, 3, (259, 1, 2, 12), 0) := rfl
theorem s258_14 {c : Nat → List AV → SS → Option Out} {l0 l1 : Option AV} {a0 : Int32} {j t : Nat} {L2 : List (Nat × AV)} {S : SS} : ev c 258 14 [l0, l1] L2 [aI a0, aR (12, j, t)] S = ck (c 259 [aR (12, j, t), aI a0] S) (fun v S' => ev c 258 17 [l0, l1] L2 (v.toList ++ []) S') := ev_call i258_14 rfl
theorem i258_17 : insAt 258 17 = some (.ifCond .le 5, 3, (0, 0, 0, 0), 0) := rfl
theorem s258_17 {c : Nat → List AV → SS → Option Out} {l0 l1 : Option AV} {x : Int32} {L2 : List (Nat × AV)} {St : List AV} {S : SS} : ev c 258 17 [l0, l1] L2 (aI x :: St) S = if x ≤ 0 then ev c 258 22 [l0, l1] L2 St S else ev c 258 20 [l0, l1] L2 St S := ev_br i258_17 rfl
theorem i258_20 : insAt 258 20 = some (.iconst 0, 1, (0, 0, 0, 0), 0) := rfl
theorem s258_20 {c : Nat → List AV → SS → Option Out} {l0 l1 : Option AV} {L2 : List (Nat × AV)} {St : List AV} {S : SS} : ev c 258 20 [l0, l1] L2 St S = ev c 258 21 [l0, l1] L2 (aI 0 :: St) S := ev_go i258_20 rfl
theorem i258_21 : insAt 258 21 = some (.ireturn, 1, (0, 0, 0, 0), 0) := rfl
theorem s258_21 {c : Nat → List AV → SS → Option Out} {l0 l1 : Option AV} {x : Int32} {L2 : List (Nat × AV)} {St : List AV} {S : SS} : ev c 258 21 [l0, l1] L2 [aI x] S = some (.inl (some (aI x)), S) := ev_end i258_21 rfl
theorem i258_22 : insAt 258 22 = some (.aload_n 0, 1, (0, 0, 0, 0), 0) := rfl
theorem s258_22 {c : Nat → List AV → SS → Option Out} {l1 : Option AV} {o : OId} {L2 : List (Nat × AV)} {St : List AV} {S : SS} : ev c 258 22 [some (aR o), l1] L2 St S = ev c 258 23 [some (aR o), l1] L2 (aR o :: St) S := ev_go i258_22 rfl
theorem i258_23 : insAt 258 23 = some (.invokevirtual 86, 3, (220, 0, 2, 12), 0) := rfl
theorem s258_23 {c : Nat → List AV → SS → Option Out} {l0 l1 : Option AV} {j t : Nat} {L2 : List (Nat × AV)} {S : SS} : ev c 258 23 [l0, l1] L2 [aR (12, j, t)] S = ck (c 220 [aR (12, j, t)] S) (fun v S' => ev c 258 26 [l0, l1] L2 (v.toList ++ []) S') := ev_call i258_23 rfl
theorem i258_26 : insAt 258 26 = some (.aload_n 0, 1, (0, 0, 0, 0), 0) := rfl
theorem s258_26 {c : Nat → List AV → SS → Option Out} {l1 : Option AV} {o : OId} {L2 : List (Nat × AV)} {St : List AV} {S : SS} : ev c 258 26 [some (aR o), l1] L2 St S = ev c 258 27 [some (aR o), l1] L2 (aR o :: St) S := ev_go i258_26 rfl
theorem i258_27 : insAt 258 27 = some (.aload_n 0, 1, (0, 0, 0, 0), 0) := rfl
theorem s258_27 {c : Nat → List AV → SS → Option Out} {l1 : Option AV} {o : OId} {L2 : List (Nat × AV)} {St : List AV} {S : SS} : ev c 258 27 [some (aR o), l1] L2 St S = ev c 258 28 [some (aR o), l1] L2 (aR o :: St) S := ev_go i258_27 rfl
theorem i258_28 : insAt 258 28 = some (.iload_n 1, 1, (0, 0, 0, 0), 0) := rfl
theorem s258_28 {c : Nat → List AV → SS → Option Out} {l0 : Option AV} {x : Int32} {L2 : List (Nat × AV)} {St : List AV} {S : SS} : ev c 258 28 [l0, some (aI x)] L2 St S = ev c 258 29 [l0, some (aI x)] L2 (aI x :: St) S := ev_go i258_28 rfl
theorem i258_29 : insAt 258 29 = some (.invokevirtual 173, 3, (256, 1, 2, 12), 0) := rfl
theorem s258_29 {c : Nat → List AV → SS → Option Out} {l0 l1 : Option AV} {t0 : AV} {a0 : Int32} {j t : Nat} {L2 : List (Nat × AV)} {S : SS} : ev c 258 29 [l0, l1] L2 [aI a0, aR (12, j, t), t0] S = ck (c 256 [aR (12, j, t), aI a0] S) (fun v S' => ev c 258 32 [l0, l1] L2 (v.toList ++ [t0]) S') := ev_call i258_29 rfl
theorem i258_32 : insAt 258 32 = some (.invokevirtual 150, 3, (252, 1, 2, 12), 0) := rfl
theorem s258_32 {c : Nat → List AV → SS → Option Out} {l0 l1 : Option AV} {a0 : Int32} {j t : Nat} {L2 : List (Nat × AV)} {S : SS} : ev c 258 32 [l0, l1] L2 [aI a0, aR (12, j, t)] S = ck (c 252 [aR (12, j, t), aI a0] S) (fun v S' => ev c 258 35 [l0, l1] L2 (v.toList ++ []) S') := ev_call i258_32 rfl
theorem i258_35 : insAt 258 35 = some (.aload_n 0, 1, (0, 0, 0, 0), 0) := rfl
theorem s258_35 {c : Nat → List AV → SS → Option Out} {l1 : Option AV} {o : OId} {L2 : List (Nat × AV)} {St : List AV} {S : SS} : ev c 258 35 [some (aR o), l1] L2 St S = ev c 258 36 [some (aR o), l1] L2 (aR o :: St) S := ev_go i258_35 rfl
theorem i258_36 : insAt 258 36 = some (.getfield 7, 3, (12, 0, 0, 0), 0) := rfl
theorem s258_36 {c : Nat → List AV → SS → Option Out} {l0 l1 : Option AV} {j t : Nat} {L2 : List (Nat × AV)} {St : List AV} {S : SS} : ev c 258 36 [l0, l1] L2 (aR (12, j, t) :: St) S = ev c 258 39 [l0, l1] L2 (S.2.2.1 (12, j, t) 0 :: St) S := ev_go i258_36 rfl
theorem i258_39 : insAt 258 39 = some (.bipush 7, 2, (0, 0, 0, 0), 0) := rfl
theorem s258_39 {c : Nat → List AV → SS → Option Out} {l0 l1 : Option AV} {L2 : List (Nat × AV)} {St : List AV} {S : SS} : ev c 258 39 [l0, l1] L2 St S = ev c 258 41 [l0, l1] L2 (aI 7 :: St) S := ev_go i258_39 rfl
theorem i258_41 : insAt 258 41 = some (.iaload, 1, (0, 0, 0, 0), 0) := rfl
theorem s258_41 {c : Nat → List AV → SS → Option Out} {l0 l1 : Option AV} {i : Int32} {o : OId} {L2 : List (Nat × AV)} {St : List AV} {S : SS} : ev c 258 41 [l0, l1] L2 (aI i :: aR o :: St) S = kI o i (ev c 258 42 [l0, l1] L2 (aI (agI S o i.toNatClampNeg) :: St) S) := ev_iaload i258_41
theorem i258_42 : insAt 258 42 = some (.ireturn, 1, (0, 0, 0, 0), 0) := rfl
theorem s258_42 {c : Nat → List AV → SS → Option Out} {l0 l1 : Option AV} {x : Int32} {L2 : List (Nat × AV)} {St : List AV} {S : SS} : ev c 258 42 [l0, l1] L2 [aI x] S = some (.inl (some (aI x)), S) := ev_end i258_42 rfl
theorem m258 {d : Nat} {o : OId} {a0 : Int32} {S : SS} : evm (d + 1) 258 [aR o, aI a0] S = ev (evm d) 258 0 [some (aR o), some (aI a0)] [] [] S := evm_s (n := 2) rfl (Nat.le_of_ble_eq_true rfl) rfl rfl
/-! FrequencyOfficeModel.checked(Z)I -/
theorem i259_0 : insAt 259 0 = some (.aload_n 0, 1, (0, 0, 0, 0), 0) := rfl
theorem s259_0 {c : Nat → List AV → SS → Option Out} {l1 : Option AV} {o : OId} {L2 : List (Nat × AV)} {St : List AV} {S : SS} : ev c 259 0 [some (aR o), l1] L2 St S = ev c 259 1 [some (aR o), l1] L2 (aR o :: St) S := ev_go i259_0 rfl
theorem i259_1 : insAt 259 1 = some (.iload_n 1, 1, (0, 0, 0, 0), 0) := rfl
theorem s259_1 {c : Nat → List AV → SS → Option Out} {l0 : Option AV} {x : Int32} {L2 : List (Nat × AV)} {St : List AV} {S : SS} : ev c 259 1 [l0, some (aI x)] L2 St S = ev c 259 2 [l0, some (aI x)] L2 (aI x :: St) S := ev_go i259_1 rfl
theorem i259_2 : insAt 259 2 = some (.ifCond .eq 7, 3, (0, 0, 0, 0), 0) := rfl
theorem s259_2 {c : Nat → List AV → SS → Option Out} {l0 l1 : Option AV} {x : Int32} {L2 : List (Nat × AV)} {St : List AV} {S : SS} : ev c 259 2 [l0, l1] L2 (aI x :: St) S = if x = 0 then ev c 259 9 [l0, l1] L2 St S else ev c 259 5 [l0, l1] L2 St S := ev_br i259_2 rfl
theorem i259_5 : insAt 259 5 = some (.iconst 0, 1, (0, 0, 0, 0), 0) := rfl
theorem s259_5 {c : Nat → List AV → SS → Option Out} {l0 l1 : Option AV} {L2 : List (Nat × AV)} {St : List AV} {S : SS} : ev c 259 5 [l0, l1] L2 St S = ev c 259 6 [l0, l1] L2 (aI 0 :: St) S := ev_go i259_5 rfl
theorem i259_6 : insAt 259 6 = some (.goto 4, 3, (0, 0, 0, 0), 0) := rfl
theorem s259_6 {c : Nat → List AV → SS → Option Out} {l0 l1 : Option AV} {L2 : List (Nat × AV)} {St : List AV} {S : SS} : ev c 259 6 [l0, l1] L2 St S = ev c 259 10 [l0, l1] L2 St S := ev_go i259_6 rfl
theorem i259_9 : insAt 259 9 = some (.iconst 1, 1, (0, 0, 0, 0), 0) := rfl
theorem s259_9 {c : Nat → List AV → SS → Option Out} {l0 l1 : Option AV} {L2 : List (Nat × AV)} {St : List AV} {S : SS} : ev c 259 9 [l0, l1] L2 St S = ev c 259 10 [l0, l1] L2 (aI 1 :: St) S := ev_go i259_9 rfl
theorem i259_10 : insAt 259 10 = some (.putfield 31, 3, (12, 7, 0, 0), 0) := rfl
theorem s259_10 {c : Nat → List AV → SS → Option Out} {l0 l1 : Option AV} {j t : Nat} {x : Int32} {L2 : List (Nat × AV)} {St : List AV} {S : SS} : ev c 259 10 [l0, l1] L2 (aI x :: aR (12, j, t) :: St) S = ev c 259 13 [l0, l1] L2 St (setI S.1 (12, j, t) 7 x, S.2) := ev_go i259_10 rfl
theorem i259_13 : insAt 259 13 = some (.aload_n 0, 1, (0, 0, 0, 0), 0) := rfl
theorem s259_13 {c : Nat → List AV → SS → Option Out} {l1 : Option AV} {o : OId} {L2 : List (Nat × AV)} {St : List AV} {S : SS} : ev c 259 13 [some (aR o), l1] L2 St S = ev c 259 14 [some (aR o), l1] L2 (aR o :: St) S := ev_go i259_13 rfl
theorem i259_14 : insAt 259 14 = some (.getfield 31, 3, (12, 7, 0, 0), 0) := rfl
theorem s259_14 {c : Nat → List AV → SS → Option Out} {l0 l1 : Option AV} {j t : Nat} {L2 : List (Nat × AV)} {St : List AV} {S : SS} : ev c 259 14 [l0, l1] L2 (aR (12, j, t) :: St) S = ev c 259 17 [l0, l1] L2 (aI (S.1 (12, j, t) 7) :: St) S := ev_go i259_14 rfl
theorem i259_17 : insAt 259 17 = some (.ireturn, 1, (0, 0, 0, 0), 0) := rfl
theorem s259_17 {c : Nat → List AV → SS → Option Out} {l0 l1 : Option AV} {x : Int32} {L2 : List (Nat × AV)} {St : List AV} {S : SS} : ev c 259 17 [l0, l1] L2 [aI x] S = some (.inl (some (aI x)), S) := ev_end i259_17 rfl
theorem m259 {d : Nat} {o : OId} {a0 : Int32} {S : SS} : evm (d + 1) 259 [aR o, aI a0] S = ev (evm d) 259 0 [some (aR o), some (aI a0)] [] [] S := evm_s (n := 2) rfl (Nat.le_of_ble_eq_true rfl) rfl rfl
/-! FrequencyOfficeModel.pass(I)I -/
theorem i260_0 : insAt 260 0 = some (.aload_n 0, 1, (0, 0, 0, 0), 0) := rfl
theorem s260_0 {c : Nat → List AV → SS → Option Out} {l1 l2 l3 l4 : Option AV} {o : OId} {L2 : List (Nat × AV)} {St : List AV} {S : SS} : ev c 260 0 [some (aR o), l1, l2, l3, l4] L2 St S = ev c 260 1 [some (aR o), l1, l2, l3, l4] L2 (aR o :: St) S := ev_go i260_0 rfl
theorem i260_1 : insAt 260 1 = some (.iload_n 1, 1, (0, 0, 0, 0), 0) := rfl
theorem s260_1 {c : Nat → List AV → SS → Option Out} {l0 l2 l3 l4 : Option AV} {x : Int32} {L2 : List (Nat × AV)} {St : List AV} {S : SS} : ev c 260 1 [l0, some (aI x), l2, l3, l4] L2 St S = ev c 260 2 [l0, some (aI x), l2, l3, l4] L2 (aI x :: St) S := ev_go i260_1 rfl
theorem i260_2 : insAt 260 2 = some (.iconst 1, 1, (0, 0, 0, 0), 0) := rfl
theorem s260_2 {c : Nat → List AV → SS → Option Out} {l0 l1 l2 l3 l4 : Option AV} {L2 : List (Nat × AV)} {St : List AV} {S : SS} : ev c 260 2 [l0, l1, l2, l3, l4] L2 St S = ev c 260 3 [l0, l1, l2, l3, l4] L2 (aI 1 :: St) S := ev_go i260_2 rfl
theorem i260_3 : insAt 260 3 = some (.bipush 99, 2, (0, 0, 0, 0), 0) := rfl
theorem s260_3 {c : Nat → List AV → SS → Option Out} {l0 l1 l2 l3 l4 : Option AV} {L2 : List (Nat × AV)} {St : List AV} {S : SS} : ev c 260 3 [l0, l1, l2, l3, l4] L2 St S = ev c 260 5 [l0, l1, l2, l3, l4] L2 (aI 99 :: St) S := ev_go i260_3 rfl
theorem i260_5 : insAt 260 5 = some (.invokestatic 154, 3, (228, 3, 0, 0), 0) := rfl
theorem s260_5 {c : Nat → List AV → SS → Option Out} {l0 l1 l2 l3 l4 : Option AV} {t0 : AV} {a0 : Int32} {a1 : Int32} {a2 : Int32} {L2 : List (Nat × AV)} {S : SS} : ev c 260 5 [l0, l1, l2, l3, l4] L2 [aI a2, aI a1, aI a0, t0] S = ck (c 228 [aI a0, aI a1, aI a2] S) (fun v S' => ev c 260 8 [l0, l1, l2, l3, l4] L2 (v.toList ++ [t0]) S') := ev_call i260_5 rfl
theorem i260_8 : insAt 260 8 = some (.ifCond .ne 7, 3, (0, 0, 0, 0), 0) := rfl
theorem s260_8 {c : Nat → List AV → SS → Option Out} {l0 l1 l2 l3 l4 : Option AV} {x : Int32} {L2 : List (Nat × AV)} {St : List AV} {S : SS} : ev c 260 8 [l0, l1, l2, l3, l4] L2 (aI x :: St) S = if x = 0 then ev c 260 11 [l0, l1, l2, l3, l4] L2 St S else ev c 260 15 [l0, l1, l2, l3, l4] L2 St S := (ev_br i260_8 rfl).trans (ite_not _ _ _)
theorem i260_11 : insAt 260 11 = some (.iconst 1, 1, (0, 0, 0, 0), 0) := rfl
theorem s260_11 {c : Nat → List AV → SS → Option Out} {l0 l1 l2 l3 l4 : Option AV} {L2 : List (Nat × AV)} {St : List AV} {S : SS} : ev c 260 11 [l0, l1, l2, l3, l4] L2 St S = ev c 260 12 [l0, l1, l2, l3, l4] L2 (aI 1 :: St) S := ev_go i260_11 rfl
theorem i260_12 : insAt 260 12 = some (.goto 22, 3, (0, 0, 0, 0), 0) := rfl
theorem s260_12 {c : Nat → List AV → SS → Option Out} {l0 l1 l2 l3 l4 : Option AV} {L2 : List (Nat × AV)} {St : List AV} {S : SS} : ev c 260 12 [l0, l1, l2, l3, l4] L2 St S = ev c 260 34 [l0, l1, l2, l3, l4] L2 St S := ev_go i260_12 rfl
theorem i260_15 : insAt 260 15 = some (.aload_n 0, 1, (0, 0, 0, 0), 0) := rfl
theorem s260_15 {c : Nat → List AV → SS → Option Out} {l1 l2 l3 l4 : Option AV} {o : OId} {L2 : List (Nat × AV)} {St : List AV} {S : SS} : ev c 260 15 [some (aR o), l1, l2, l3, l4] L2 St S = ev c 260 16 [some (aR o), l1, l2, l3, l4] L2 (aR o :: St) S := ev_go i260_15 rfl
theorem i260_16 : insAt 260 16 = some (.getfield 7, 3, (12, 0, 0, 0), 0) := rfl
theorem s260_16 {c : Nat → List AV → SS → Option Out} {l0 l1 l2 l3 l4 : Option AV} {j t : Nat} {L2 : List (Nat × AV)} {St : List AV} {S : SS} : ev c 260 16 [l0, l1, l2, l3, l4] L2 (aR (12, j, t) :: St) S = ev c 260 19 [l0, l1, l2, l3, l4] L2 (S.2.2.1 (12, j, t) 0 :: St) S := ev_go i260_16 rfl
theorem i260_19 : insAt 260 19 = some (.iconst 3, 1, (0, 0, 0, 0), 0) := rfl
theorem s260_19 {c : Nat → List AV → SS → Option Out} {l0 l1 l2 l3 l4 : Option AV} {L2 : List (Nat × AV)} {St : List AV} {S : SS} : ev c 260 19 [l0, l1, l2, l3, l4] L2 St S = ev c 260 20 [l0, l1, l2, l3, l4] L2 (aI 3 :: St) S := ev_go i260_19 rfl
theorem i260_20 : insAt 260 20 = some (.iaload, 1, (0, 0, 0, 0), 0) := rfl
theorem s260_20 {c : Nat → List AV → SS → Option Out} {l0 l1 l2 l3 l4 : Option AV} {i : Int32} {o : OId} {L2 : List (Nat × AV)} {St : List AV} {S : SS} : ev c 260 20 [l0, l1, l2, l3, l4] L2 (aI i :: aR o :: St) S = kI o i (ev c 260 21 [l0, l1, l2, l3, l4] L2 (aI (agI S o i.toNatClampNeg) :: St) S) := ev_iaload i260_20
theorem i260_21 : insAt 260 21 = some (.iload_n 1, 1, (0, 0, 0, 0), 0) := rfl
theorem s260_21 {c : Nat → List AV → SS → Option Out} {l0 l2 l3 l4 : Option AV} {x : Int32} {L2 : List (Nat × AV)} {St : List AV} {S : SS} : ev c 260 21 [l0, some (aI x), l2, l3, l4] L2 St S = ev c 260 22 [l0, some (aI x), l2, l3, l4] L2 (aI x :: St) S := ev_go i260_21 rfl
theorem i260_22 : insAt 260 22 = some (.iadd, 1, (0, 0, 0, 0), 0) := rfl
theorem s260_22 {c : Nat → List AV → SS → Option Out} {l0 l1 l2 l3 l4 : Option AV} {x y : Int32} {L2 : List (Nat × AV)} {St : List AV} {S : SS} : ev c 260 22 [l0, l1, l2, l3, l4] L2 (aI y :: aI x :: St) S = ev c 260 23 [l0, l1, l2, l3, l4] L2 (aI (x + y) :: St) S := ev_go i260_22 rfl
theorem i260_23 : insAt 260 23 = some (.sipush 999, 3, (0, 0, 0, 0), 0) := rfl
theorem s260_23 {c : Nat → List AV → SS → Option Out} {l0 l1 l2 l3 l4 : Option AV} {L2 : List (Nat × AV)} {St : List AV} {S : SS} : ev c 260 23 [l0, l1, l2, l3, l4] L2 St S = ev c 260 26 [l0, l1, l2, l3, l4] L2 (aI 999 :: St) S := ev_go i260_23 rfl
theorem i260_26 : insAt 260 26 = some (.if_icmp .le 7, 3, (0, 0, 0, 0), 0) := rfl
theorem s260_26 {c : Nat → List AV → SS → Option Out} {l0 l1 l2 l3 l4 : Option AV} {x y : Int32} {L2 : List (Nat × AV)} {St : List AV} {S : SS} : ev c 260 26 [l0, l1, l2, l3, l4] L2 (aI y :: aI x :: St) S = if x ≤ y then ev c 260 33 [l0, l1, l2, l3, l4] L2 St S else ev c 260 29 [l0, l1, l2, l3, l4] L2 St S := ev_br i260_26 rfl
theorem i260_29 : insAt 260 29 = some (.iconst 2, 1, (0, 0, 0, 0), 0) := rfl
theorem s260_29 {c : Nat → List AV → SS → Option Out} {l0 l1 l2 l3 l4 : Option AV} {L2 : List (Nat × AV)} {St : List AV} {S : SS} : ev c 260 29 [l0, l1, l2, l3, l4] L2 St S = ev c 260 30 [l0, l1, l2, l3, l4] L2 (aI 2 :: St) S := ev_go i260_29 rfl
theorem i260_30 : insAt 260 30 = some (.goto 4, 3, (0, 0, 0, 0), 0) := rfl
theorem s260_30 {c : Nat → List AV → SS → Option Out} {l0 l1 l2 l3 l4 : Option AV} {L2 : List (Nat × AV)} {St : List AV} {S : SS} : ev c 260 30 [l0, l1, l2, l3, l4] L2 St S = ev c 260 34 [l0, l1, l2, l3, l4] L2 St S := ev_go i260_30 rfl
theorem i260_33 : insAt 260 33 = some (.iconst 0, 1, (0, 0, 0, 0), 0) := rfl
theorem s260_33 {c : Nat → List AV → SS → Option Out} {l0 l1 l2 l3 l4 : Option AV} {L2 : List (Nat × AV)} {St : List AV} {S : SS} : ev c 260 33 [l0, l1, l2, l3, l4] L2 St S = ev c 260 34 [l0, l1, l2, l3, l4] L2 (aI 0 :: St) S := ev_go i260_33 rfl
theorem i260_34 : insAt 260 34 = some (.putfield 31, 3, (12, 7, 0, 0), 0) := rfl
theorem s260_34 {c : Nat → List AV → SS → Option Out} {l0 l1 l2 l3 l4 : Option AV} {j t : Nat} {x : Int32} {L2 : List (Nat × AV)} {St : List AV} {S : SS} : ev c 260 34 [l0, l1, l2, l3, l4] L2 (aI x :: aR (12, j, t) :: St) S = ev c 260 37 [l0, l1, l2, l3, l4] L2 St (setI S.1 (12, j, t) 7 x, S.2) := ev_go i260_34 rfl
theorem i260_37 : insAt 260 37 = some (.aload_n 0, 1, (0, 0, 0, 0), 0) := rfl
theorem s260_37 {c : Nat → List AV → SS → Option Out} {l1 l2 l3 l4 : Option AV} {o : OId} {L2 : List (Nat × AV)} {St : List AV} {S : SS} : ev c 260 37 [some (aR o), l1, l2, l3, l4] L2 St S = ev c 260 38 [some (aR o), l1, l2, l3, l4] L2 (aR o :: St) S := ev_go i260_37 rfl
theorem i260_38 : insAt 260 38 = some (.getfield 31, 3, (12, 7, 0, 0), 0) := rfl
theorem s260_38 {c : Nat → List AV → SS → Option Out} {l0 l1 l2 l3 l4 : Option AV} {j t : Nat} {L2 : List (Nat × AV)} {St : List AV} {S : SS} : ev c 260 38 [l0, l1, l2, l3, l4] L2 (aR (12, j, t) :: St) S = ev c 260 41 [l0, l1, l2, l3, l4] L2 (aI (S.1 (12, j, t) 7) :: St) S := ev_go i260_38 rfl
theorem i260_41 : insAt 260 41 = some (.ifCond .le 5, 3, (0, 0, 0, 0), 0) := rfl
theorem s260_41 {c : Nat → List AV → SS → Option Out} {l0 l1 l2 l3 l4 : Option AV} {x : Int32} {L2 : List (Nat × AV)} {St : List AV} {S : SS} : ev c 260 41 [l0, l1, l2, l3, l4] L2 (aI x :: St) S = if x ≤ 0 then ev c 260 46 [l0, l1, l2, l3, l4] L2 St S else ev c 260 44 [l0, l1, l2, l3, l4] L2 St S := ev_br i260_41 rfl
theorem i260_44 : insAt 260 44 = some (.iconst 0, 1, (0, 0, 0, 0), 0) := rfl
theorem s260_44 {c : Nat → List AV → SS → Option Out} {l0 l1 l2 l3 l4 : Option AV} {L2 : List (Nat × AV)} {St : List AV} {S : SS} : ev c 260 44 [l0, l1, l2, l3, l4] L2 St S = ev c 260 45 [l0, l1, l2, l3, l4] L2 (aI 0 :: St) S := ev_go i260_44 rfl
theorem i260_45 : insAt 260 45 = some (.ireturn, 1, (0, 0, 0, 0), 0) := rfl
theorem s260_45 {c : Nat → List AV → SS → Option Out} {l0 l1 l2 l3 l4 : Option AV} {x : Int32} {L2 : List (Nat × AV)} {St : List AV} {S : SS} : ev c 260 45 [l0, l1, l2, l3, l4] L2 [aI x] S = some (.inl (some (aI x)), S) := ev_end i260_45 rfl
theorem i260_46 : insAt 260 46 = some (.aload_n 0, 1, (0, 0, 0, 0), 0) := rfl
theorem s260_46 {c : Nat → List AV → SS → Option Out} {l1 l2 l3 l4 : Option AV} {o : OId} {L2 : List (Nat × AV)} {St : List AV} {S : SS} : ev c 260 46 [some (aR o), l1, l2, l3, l4] L2 St S = ev c 260 47 [some (aR o), l1, l2, l3, l4] L2 (aR o :: St) S := ev_go i260_46 rfl
theorem i260_47 : insAt 260 47 = some (.invokevirtual 86, 3, (220, 0, 2, 12), 0) := rfl
theorem s260_47 {c : Nat → List AV → SS → Option Out} {l0 l1 l2 l3 l4 : Option AV} {j t : Nat} {L2 : List (Nat × AV)} {S : SS} : ev c 260 47 [l0, l1, l2, l3, l4] L2 [aR (12, j, t)] S = ck (c 220 [aR (12, j, t)] S) (fun v S' => ev c 260 50 [l0, l1, l2, l3, l4] L2 (v.toList ++ []) S') := ev_call i260_47 rfl
theorem i260_50 : insAt 260 50 = some (.aload_n 0, 1, (0, 0, 0, 0), 0) := rfl
theorem s260_50 {c : Nat → List AV → SS → Option Out} {l1 l2 l3 l4 : Option AV} {o : OId} {L2 : List (Nat × AV)} {St : List AV} {S : SS} : ev c 260 50 [some (aR o), l1, l2, l3, l4] L2 St S = ev c 260 51 [some (aR o), l1, l2, l3, l4] L2 (aR o :: St) S := ev_go i260_50 rfl
theorem i260_51 : insAt 260 51 = some (.getfield 7, 3, (12, 0, 0, 0), 0) := rfl
theorem s260_51 {c : Nat → List AV → SS → Option Out} {l0 l1 l2 l3 l4 : Option AV} {j t : Nat} {L2 : List (Nat × AV)} {St : List AV} {S : SS} : ev c 260 51 [l0, l1, l2, l3, l4] L2 (aR (12, j, t) :: St) S = ev c 260 54 [l0, l1, l2, l3, l4] L2 (S.2.2.1 (12, j, t) 0 :: St) S := ev_go i260_51 rfl
theorem i260_54 : insAt 260 54 = some (.iconst 5, 1, (0, 0, 0, 0), 0) := rfl
theorem s260_54 {c : Nat → List AV → SS → Option Out} {l0 l1 l2 l3 l4 : Option AV} {L2 : List (Nat × AV)} {St : List AV} {S : SS} : ev c 260 54 [l0, l1, l2, l3, l4] L2 St S = ev c 260 55 [l0, l1, l2, l3, l4] L2 (aI 5 :: St) S := ev_go i260_54 rfl
theorem i260_55 : insAt 260 55 = some (.iaload, 1, (0, 0, 0, 0), 0) := rfl
theorem s260_55 {c : Nat → List AV → SS → Option Out} {l0 l1 l2 l3 l4 : Option AV} {i : Int32} {o : OId} {L2 : List (Nat × AV)} {St : List AV} {S : SS} : ev c 260 55 [l0, l1, l2, l3, l4] L2 (aI i :: aR o :: St) S = kI o i (ev c 260 56 [l0, l1, l2, l3, l4] L2 (aI (agI S o i.toNatClampNeg) :: St) S) := ev_iaload i260_55
theorem i260_56 : insAt 260 56 = some (.istore_n 2, 1, (0, 0, 0, 0), 0) := rfl
theorem s260_56 {c : Nat → List AV → SS → Option Out} {l0 l1 l2 l3 l4 : Option AV} {x : Int32} {L2 : List (Nat × AV)} {St : List AV} {S : SS} : ev c 260 56 [l0, l1, l2, l3, l4] L2 (aI x :: St) S = ev c 260 57 [l0, l1, some (aI x), l3, l4] (kil L2 2) St S := ev_go i260_56 rfl
theorem i260_57 : insAt 260 57 = some (.iconst 0, 1, (0, 0, 0, 0), 0) := rfl
theorem s260_57 {c : Nat → List AV → SS → Option Out} {l0 l1 l2 l3 l4 : Option AV} {L2 : List (Nat × AV)} {St : List AV} {S : SS} : ev c 260 57 [l0, l1, l2, l3, l4] L2 St S = ev c 260 58 [l0, l1, l2, l3, l4] L2 (aI 0 :: St) S := ev_go i260_57 rfl
theorem i260_58 : insAt 260 58 = some (.istore_n 3, 1, (0, 0, 0, 0), 0) := rfl
theorem s260_58 {c : Nat → List AV → SS → Option Out} {l0 l1 l2 l3 l4 : Option AV} {x : Int32} {L2 : List (Nat × AV)} {St : List AV} {S : SS} : ev c 260 58 [l0, l1, l2, l3, l4] L2 (aI x :: St) S = ev c 260 59 [l0, l1, l2, some (aI x), l4] (kil L2 3) St S := ev_go i260_58 rfl
theorem i260_59 : insAt 260 59 = some (.iload_n 3, 1, (0, 0, 0, 0), 0) := rfl
theorem s260_59 {c : Nat → List AV → SS → Option Out} {l0 l1 l2 l4 : Option AV} {x : Int32} {L2 : List (Nat × AV)} {St : List AV} {S : SS} : ev c 260 59 [l0, l1, l2, some (aI x), l4] L2 St S = ev c 260 60 [l0, l1, l2, some (aI x), l4] L2 (aI x :: St) S := ev_go i260_59 rfl
theorem i260_60 : insAt 260 60 = some (.iload_n 1, 1, (0, 0, 0, 0), 0) := rfl
theorem s260_60 {c : Nat → List AV → SS → Option Out} {l0 l2 l3 l4 : Option AV} {x : Int32} {L2 : List (Nat × AV)} {St : List AV} {S : SS} : ev c 260 60 [l0, some (aI x), l2, l3, l4] L2 St S = ev c 260 61 [l0, some (aI x), l2, l3, l4] L2 (aI x :: St) S := ev_go i260_60 rfl
theorem i260_61 : insAt 260 61 = some (.if_icmp .ge 76, 3, (0, 0, 0, 0), 0) := rfl
theorem s260_61 {c : Nat → List AV → SS → Option Out} {l0 l1 l2 l3 l4 : Option AV} {x y : Int32} {L2 : List (Nat × AV)} {St : List AV} {S : SS} : ev c 260 61 [l0, l1, l2, l3, l4] L2 (aI y :: aI x :: St) S = if y ≤ x then ev c 260 137 [l0, l1, l2, l3, l4] L2 St S else ev c 260 64 [l0, l1, l2, l3, l4] L2 St S := ev_br i260_61 rfl
theorem i260_64 : insAt 260 64 = some (.aload_n 0, 1, (0, 0, 0, 0), 0) := rfl
theorem s260_64 {c : Nat → List AV → SS → Option Out} {l1 l2 l3 l4 : Option AV} {o : OId} {L2 : List (Nat × AV)} {St : List AV} {S : SS} : ev c 260 64 [some (aR o), l1, l2, l3, l4] L2 St S = ev c 260 65 [some (aR o), l1, l2, l3, l4] L2 (aR o :: St) S := ev_go i260_64 rfl
theorem i260_65 : insAt 260 65 = some (.getfield 7, 3, (12, 0, 0, 0), 0) := rfl
theorem s260_65 {c : Nat → List AV → SS → Option Out} {l0 l1 l2 l3 l4 : Option AV} {j t : Nat} {L2 : List (Nat × AV)} {St : List AV} {S : SS} : ev c 260 65 [l0, l1, l2, l3, l4] L2 (aR (12, j, t) :: St) S = ev c 260 68 [l0, l1, l2, l3, l4] L2 (S.2.2.1 (12, j, t) 0 :: St) S := ev_go i260_65 rfl
theorem i260_68 : insAt 260 68 = some (.iconst 3, 1, (0, 0, 0, 0), 0) := rfl
theorem s260_68 {c : Nat → List AV → SS → Option Out} {l0 l1 l2 l3 l4 : Option AV} {L2 : List (Nat × AV)} {St : List AV} {S : SS} : ev c 260 68 [l0, l1, l2, l3, l4] L2 St S = ev c 260 69 [l0, l1, l2, l3, l4] L2 (aI 3 :: St) S := ev_go i260_68 rfl
theorem i260_69 : insAt 260 69 = some (.dup2, 1, (0, 0, 0, 0), 0) := rfl
theorem s260_69 {c : Nat → List AV → SS → Option Out} {l0 l1 l2 l3 l4 : Option AV} {x : Int32} {y : OId} {L2 : List (Nat × AV)} {St : List AV} {S : SS} : ev c 260 69 [l0, l1, l2, l3, l4] L2 (aI x :: aR y :: St) S = ev c 260 70 [l0, l1, l2, l3, l4] L2 (aI x :: aR y :: aI x :: aR y :: St) S := ev_go i260_69 rfl
theorem i260_70 : insAt 260 70 = some (.iaload, 1, (0, 0, 0, 0), 0) := rfl
theorem s260_70 {c : Nat → List AV → SS → Option Out} {l0 l1 l2 l3 l4 : Option AV} {i : Int32} {o : OId} {L2 : List (Nat × AV)} {St : List AV} {S : SS} : ev c 260 70 [l0, l1, l2, l3, l4] L2 (aI i :: aR o :: St) S = kI o i (ev c 260 71 [l0, l1, l2, l3, l4] L2 (aI (agI S o i.toNatClampNeg) :: St) S) := ev_iaload i260_70
theorem i260_71 : insAt 260 71 = some (.iconst 1, 1, (0, 0, 0, 0), 0) := rfl
theorem s260_71 {c : Nat → List AV → SS → Option Out} {l0 l1 l2 l3 l4 : Option AV} {L2 : List (Nat × AV)} {St : List AV} {S : SS} : ev c 260 71 [l0, l1, l2, l3, l4] L2 St S = ev c 260 72 [l0, l1, l2, l3, l4] L2 (aI 1 :: St) S := ev_go i260_71 rfl
theorem i260_72 : insAt 260 72 = some (.iadd, 1, (0, 0, 0, 0), 0) := rfl
theorem s260_72 {c : Nat → List AV → SS → Option Out} {l0 l1 l2 l3 l4 : Option AV} {x y : Int32} {L2 : List (Nat × AV)} {St : List AV} {S : SS} : ev c 260 72 [l0, l1, l2, l3, l4] L2 (aI y :: aI x :: St) S = ev c 260 73 [l0, l1, l2, l3, l4] L2 (aI (x + y) :: St) S := ev_go i260_72 rfl
theorem i260_73 : insAt 260 73 = some (.iastore, 1, (0, 0, 0, 0), 0) := rfl
theorem s260_73 {c : Nat → List AV → SS → Option Out} {l0 l1 l2 l3 l4 : Option AV} {x i : Int32} {o : OId} {L2 : List (Nat × AV)} {St : List AV} {S : SS} : ev c 260 73 [l0, l1, l2, l3, l4] L2 (aI x :: aI i :: aR o :: St) S = kIw o i (ev c 260 74 [l0, l1, l2, l3, l4] L2 St (setI S.1 o i.toNatClampNeg x, S.2)) := ev_iastore i260_73
theorem i260_74 : insAt 260 74 = some (.aload_n 0, 1, (0, 0, 0, 0), 0) := rfl
theorem s260_74 {c : Nat → List AV → SS → Option Out} {l1 l2 l3 l4 : Option AV} {o : OId} {L2 : List (Nat × AV)} {St : List AV} {S : SS} : ev c 260 74 [some (aR o), l1, l2, l3, l4] L2 St S = ev c 260 75 [some (aR o), l1, l2, l3, l4] L2 (aR o :: St) S := ev_go i260_74 rfl
theorem i260_75 : insAt 260 75 = some (.getfield 7, 3, (12, 0, 0, 0), 0) := rfl
theorem s260_75 {c : Nat → List AV → SS → Option Out} {l0 l1 l2 l3 l4 : Option AV} {j t : Nat} {L2 : List (Nat × AV)} {St : List AV} {S : SS} : ev c 260 75 [l0, l1, l2, l3, l4] L2 (aR (12, j, t) :: St) S = ev c 260 78 [l0, l1, l2, l3, l4] L2 (S.2.2.1 (12, j, t) 0 :: St) S := ev_go i260_75 rfl
theorem i260_78 : insAt 260 78 = some (.bipush 7, 2, (0, 0, 0, 0), 0) := rfl
theorem s260_78 {c : Nat → List AV → SS → Option Out} {l0 l1 l2 l3 l4 : Option AV} {L2 : List (Nat × AV)} {St : List AV} {S : SS} : ev c 260 78 [l0, l1, l2, l3, l4] L2 St S = ev c 260 80 [l0, l1, l2, l3, l4] L2 (aI 7 :: St) S := ev_go i260_78 rfl
theorem i260_80 : insAt 260 80 = some (.iaload, 1, (0, 0, 0, 0), 0) := rfl
theorem s260_80 {c : Nat → List AV → SS → Option Out} {l0 l1 l2 l3 l4 : Option AV} {i : Int32} {o : OId} {L2 : List (Nat × AV)} {St : List AV} {S : SS} : ev c 260 80 [l0, l1, l2, l3, l4] L2 (aI i :: aR o :: St) S = kI o i (ev c 260 81 [l0, l1, l2, l3, l4] L2 (aI (agI S o i.toNatClampNeg) :: St) S) := ev_iaload i260_80
theorem i260_81 : insAt 260 81 = some (.iconst 1, 1, (0, 0, 0, 0), 0) := rfl
theorem s260_81 {c : Nat → List AV → SS → Option Out} {l0 l1 l2 l3 l4 : Option AV} {L2 : List (Nat × AV)} {St : List AV} {S : SS} : ev c 260 81 [l0, l1, l2, l3, l4] L2 St S = ev c 260 82 [l0, l1, l2, l3, l4] L2 (aI 1 :: St) S := ev_go i260_81 rfl
theorem i260_82 : insAt 260 82 = some (.isub, 1, (0, 0, 0, 0), 0) := rfl
theorem s260_82 {c : Nat → List AV → SS → Option Out} {l0 l1 l2 l3 l4 : Option AV} {x y : Int32} {L2 : List (Nat × AV)} {St : List AV} {S : SS} : ev c 260 82 [l0, l1, l2, l3, l4] L2 (aI y :: aI x :: St) S = ev c 260 83 [l0, l1, l2, l3, l4] L2 (aI (x - y) :: St) S := ev_go i260_82 rfl
theorem i260_83 : insAt 260 83 = some (.istore 4, 2, (0, 0, 0, 0), 0) := rfl
theorem s260_83 {c : Nat → List AV → SS → Option Out} {l0 l1 l2 l3 l4 : Option AV} {x : Int32} {L2 : List (Nat × AV)} {St : List AV} {S : SS} : ev c 260 83 [l0, l1, l2, l3, l4] L2 (aI x :: St) S = ev c 260 85 [l0, l1, l2, l3, some (aI x)] (kil L2 4) St S := ev_go i260_83 rfl
theorem i260_85 : insAt 260 85 = some (.iload 4, 2, (0, 0, 0, 0), 0) := rfl
theorem s260_85 {c : Nat → List AV → SS → Option Out} {l0 l1 l2 l3 : Option AV} {x : Int32} {L2 : List (Nat × AV)} {St : List AV} {S : SS} : ev c 260 85 [l0, l1, l2, l3, some (aI x)] L2 St S = ev c 260 87 [l0, l1, l2, l3, some (aI x)] L2 (aI x :: St) S := ev_go i260_85 rfl
theorem i260_87 : insAt 260 87 = some (.ifCond .lt 44, 3, (0, 0, 0, 0), 0) := rfl
theorem s260_87 {c : Nat → List AV → SS → Option Out} {l0 l1 l2 l3 l4 : Option AV} {x : Int32} {L2 : List (Nat × AV)} {St : List AV} {S : SS} : ev c 260 87 [l0, l1, l2, l3, l4] L2 (aI x :: St) S = if x < 0 then ev c 260 131 [l0, l1, l2, l3, l4] L2 St S else ev c 260 90 [l0, l1, l2, l3, l4] L2 St S := ev_br i260_87 rfl
theorem i260_90 : insAt 260 90 = some (.aload_n 0, 1, (0, 0, 0, 0), 0) := rfl
theorem s260_90 {c : Nat → List AV → SS → Option Out} {l1 l2 l3 l4 : Option AV} {o : OId} {L2 : List (Nat × AV)} {St : List AV} {S : SS} : ev c 260 90 [some (aR o), l1, l2, l3, l4] L2 St S = ev c 260 91 [some (aR o), l1, l2, l3, l4] L2 (aR o :: St) S := ev_go i260_90 rfl
theorem i260_91 : insAt 260 91 = some (.iload 4, 2, (0, 0, 0, 0), 0) := rfl
theorem s260_91 {c : Nat → List AV → SS → Option Out} {l0 l1 l2 l3 : Option AV} {x : Int32} {L2 : List (Nat × AV)} {St : List AV} {S : SS} : ev c 260 91 [l0, l1, l2, l3, some (aI x)] L2 St S = ev c 260 93 [l0, l1, l2, l3, some (aI x)] L2 (aI x :: St) S := ev_go i260_91 rfl
theorem i260_93 : insAt 260 93 = some (.iconst 4, 1, (0, 0, 0, 0), 0) := rfl
theorem s260_93 {c : Nat → List AV → SS → Option Out} {l0 l1 l2 l3 l4 : Option AV} {L2 : List (Nat × AV)} {St : List AV} {S : SS} : ev c 260 93 [l0, l1, l2, l3, l4] L2 St S = ev c 260 94 [l0, l1, l2, l3, l4] L2 (aI 4 :: St) S := ev_go i260_93 rfl
theorem i260_94 : insAt 260 94 = some (.invokevirtual 75, 3, (234, 2, 2, 12), 0) := rfl
theorem s260_94 {c : Nat → List AV → SS → Option Out} {l0 l1 l2 l3 l4 : Option AV} {a0 : Int32} {a1 : Int32} {j t : Nat} {L2 : List (Nat × AV)} {S : SS} : ev c 260 94 [l0, l1, l2, l3, l4] L2 [aI a1, aI a0, aR (12, j, t)] S = ck (c 234 [aR (12, j, t), aI a0, aI a1] S) (fun v S' => ev c 260 97 [l0, l1, l2, l3, l4] L2 (v.toList ++ []) S') := ev_call i260_94 rfl
theorem i260_97 : insAt 260 97 = some (.aload_n 0, 1, (0, 0, 0, 0), 0) := rfl
theorem s260_97 {c : Nat → List AV → SS → Option Out} {l1 l2 l3 l4 : Option AV} {o : OId} {L2 : List (Nat × AV)} {St : List AV} {S : SS} : ev c 260 97 [some (aR o), l1, l2, l3, l4] L2 St S = ev c 260 98 [some (aR o), l1, l2, l3, l4] L2 (aR o :: St) S := ev_go i260_97 rfl
theorem i260_98 : insAt 260 98 = some (.getfield 7, 3, (12, 0, 0, 0), 0) := rfl
theorem s260_98 {c : Nat → List AV → SS → Option Out} {l0 l1 l2 l3 l4 : Option AV} {j t : Nat} {L2 : List (Nat × AV)} {St : List AV} {S : SS} : ev c 260 98 [l0, l1, l2, l3, l4] L2 (aR (12, j, t) :: St) S = ev c 260 101 [l0, l1, l2, l3, l4] L2 (S.2.2.1 (12, j, t) 0 :: St) S := ev_go i260_98 rfl
theorem i260_101 : insAt 260 101 = some (.iconst 3, 1, (0, 0, 0, 0), 0) := rfl
theorem s260_101 {c : Nat → List AV → SS → Option Out} {l0 l1 l2 l3 l4 : Option AV} {L2 : List (Nat × AV)} {St : List AV} {S : SS} : ev c 260 101 [l0, l1, l2, l3, l4] L2 St S = ev c 260 102 [l0, l1, l2, l3, l4] L2 (aI 3 :: St) S := ev_go i260_101 rfl
theorem i260_102 : insAt 260 102 = some (.iaload, 1, (0, 0, 0, 0), 0) := rfl
theorem s260_102 {c : Nat → List AV → SS → Option Out} {l0 l1 l2 l3 l4 : Option AV} {i : Int32} {o : OId} {L2 : List (Nat × AV)} {St : List AV} {S : SS} : ev c 260 102 [l0, l1, l2, l3, l4] L2 (aI i :: aR o :: St) S = kI o i (ev c 260 103 [l0, l1, l2, l3, l4] L2 (aI (agI S o i.toNatClampNeg) :: St) S) := ev_iaload i260_102
theorem i260_103 : insAt 260 103 = some (.if_icmp .eq 6, 3, (0, 0, 0, 0), 0) := rfl
theorem s260_103 {c : Nat → List AV → SS → Option Out} {l0 l1 l2 l3 l4 : Option AV} {x y : Int32} {L2 : List (Nat × AV)} {St : List AV} {S : SS} : ev c 260 103 [l0, l1, l2, l3, l4] L2 (aI y :: aI x :: St) S = if x = y then ev c 260 109 [l0, l1, l2, l3, l4] L2 St S else ev c 260 106 [l0, l1, l2, l3, l4] L2 St S := ev_br i260_103 rfl
theorem i260_106 : insAt 260 106 = some (.goto 19, 3, (0, 0, 0, 0), 0) := rfl
theorem s260_106 {c : Nat → List AV → SS → Option Out} {l0 l1 l2 l3 l4 : Option AV} {L2 : List (Nat × AV)} {St : List AV} {S : SS} : ev c 260 106 [l0, l1, l2, l3, l4] L2 St S = ev c 260 125 [l0, l1, l2, l3, l4] L2 St S := ev_go i260_106 rfl
theorem i260_109 : insAt 260 109 = some (.aload_n 0, 1, (0, 0, 0, 0), 0) := rfl
theorem s260_109 {c : Nat → List AV → SS → Option Out} {l1 l2 l3 l4 : Option AV} {o : OId} {L2 : List (Nat × AV)} {St : List AV} {S : SS} : ev c 260 109 [some (aR o), l1, l2, l3, l4] L2 St S = ev c 260 110 [some (aR o), l1, l2, l3, l4] L2 (aR o :: St) S := ev_go i260_109 rfl
theorem i260_110 : insAt 260 110 = some (.iload 4, 2, (0, 0, 0, 0), 0) := rfl
theorem s260_110 {c : Nat → List AV → SS → Option Out} {l0 l1 l2 l3 : Option AV} {x : Int32} {L2 : List (Nat × AV)} {St : List AV} {S : SS} : ev c 260 110 [l0, l1, l2, l3, some (aI x)] L2 St S = ev c 260 112 [l0, l1, l2, l3, some (aI x)] L2 (aI x :: St) S := ev_go i260_110 rfl
theorem i260_112 : insAt 260 112 = some (.invokevirtual 150, 3, (252, 1, 2, 12), 0) := rfl
theorem s260_112 {c : Nat → List AV → SS → Option Out} {l0 l1 l2 l3 l4 : Option AV} {a0 : Int32} {j t : Nat} {L2 : List (Nat × AV)} {S : SS} : ev c 260 112 [l0, l1, l2, l3, l4] L2 [aI a0, aR (12, j, t)] S = ck (c 252 [aR (12, j, t), aI a0] S) (fun v S' => ev c 260 115 [l0, l1, l2, l3, l4] L2 (v.toList ++ []) S') := ev_call i260_112 rfl
theorem i260_115 : insAt 260 115 = some (.aload_n 0, 1, (0, 0, 0, 0), 0) := rfl
theorem s260_115 {c : Nat → List AV → SS → Option Out} {l1 l2 l3 l4 : Option AV} {o : OId} {L2 : List (Nat × AV)} {St : List AV} {S : SS} : ev c 260 115 [some (aR o), l1, l2, l3, l4] L2 St S = ev c 260 116 [some (aR o), l1, l2, l3, l4] L2 (aR o :: St) S := ev_go i260_115 rfl
theorem i260_116 : insAt 260 116 = some (.getfield 7, 3, (12, 0, 0, 0), 0) := rfl
theorem s260_116 {c : Nat → List AV → SS → Option Out} {l0 l1 l2 l3 l4 : Option AV} {j t : Nat} {L2 : List (Nat × AV)} {St : List AV} {S : SS} : ev c 260 116 [l0, l1, l2, l3, l4] L2 (aR (12, j, t) :: St) S = ev c 260 119 [l0, l1, l2, l3, l4] L2 (S.2.2.1 (12, j, t) 0 :: St) S := ev_go i260_116 rfl
theorem i260_119 : insAt 260 119 = some (.iconst 5, 1, (0, 0, 0, 0), 0) := rfl
theorem s260_119 {c : Nat → List AV → SS → Option Out} {l0 l1 l2 l3 l4 : Option AV} {L2 : List (Nat × AV)} {St : List AV} {S : SS} : ev c 260 119 [l0, l1, l2, l3, l4] L2 St S = ev c 260 120 [l0, l1, l2, l3, l4] L2 (aI 5 :: St) S := ev_go i260_119 rfl
theorem i260_120 : insAt 260 120 = some (.dup2, 1, (0, 0, 0, 0), 0) := rfl
theorem s260_120 {c : Nat → List AV → SS → Option Out} {l0 l1 l2 l3 l4 : Option AV} {x : Int32} {y : OId} {L2 : List (Nat × AV)} {St : List AV} {S : SS} : ev c 260 120 [l0, l1, l2, l3, l4] L2 (aI x :: aR y :: St) S = ev c 260 121 [l0, l1, l2, l3, l4] L2 (aI x :: aR y :: aI x :: aR y :: St) S := ev_go i260_120 rfl
theorem i260_121 : insAt 260 121 = some (.iaload, 1, (0, 0, 0, 0), 0) := rfl
theorem s260_121 {c : Nat → List AV → SS → Option Out} {l0 l1 l2 l3 l4 : Option AV} {i : Int32} {o : OId} {L2 : List (Nat × AV)} {St : List AV} {S : SS} : ev c 260 121 [l0, l1, l2, l3, l4] L2 (aI i :: aR o :: St) S = kI o i (ev c 260 122 [l0, l1, l2, l3, l4] L2 (aI (agI S o i.toNatClampNeg) :: St) S) := ev_iaload i260_121
theorem i260_122 : insAt 260 122 = some (.iconst 1, 1, (0, 0, 0, 0), 0) := rfl
theorem s260_122 {c : Nat → List AV → SS → Option Out} {l0 l1 l2 l3 l4 : Option AV} {L2 : List (Nat × AV)} {St : List AV} {S : SS} : ev c 260 122 [l0, l1, l2, l3, l4] L2 St S = ev c 260 123 [l0, l1, l2, l3, l4] L2 (aI 1 :: St) S := ev_go i260_122 rfl
theorem i260_123 : insAt 260 123 = some (.iadd, 1, (0, 0, 0, 0), 0) := rfl
theorem s260_123 {c : Nat → List AV → SS → Option Out} {l0 l1 l2 l3 l4 : Option AV} {x y : Int32} {L2 : List (Nat × AV)} {St : List AV} {S : SS} : ev c 260 123 [l0, l1, l2, l3, l4] L2 (aI y :: aI x :: St) S = ev c 260 124 [l0, l1, l2, l3, l4] L2 (aI (x + y) :: St) S := ev_go i260_123 rfl
theorem i260_124 : insAt 260 124 = some (.iastore, 1, (0, 0, 0, 0), 0) := rfl
theorem s260_124 {c : Nat → List AV → SS → Option Out} {l0 l1 l2 l3 l4 : Option AV} {x i : Int32} {o : OId} {L2 : List (Nat × AV)} {St : List AV} {S : SS} : ev c 260 124 [l0, l1, l2, l3, l4] L2 (aI x :: aI i :: aR o :: St) S = kIw o i (ev c 260 125 [l0, l1, l2, l3, l4] L2 St (setI S.1 o i.toNatClampNeg x, S.2)) := ev_iastore i260_124
theorem i260_125 : insAt 260 125 = some (.iinc 4 (-1), 3, (0, 0, 0, 0), 0) := rfl
theorem s260_125 {c : Nat → List AV → SS → Option Out} {l0 l1 l2 l3 : Option AV} {x : Int32} {L2 : List (Nat × AV)} {St : List AV} {S : SS} : ev c 260 125 [l0, l1, l2, l3, some (aI x)] L2 St S = ev c 260 128 [l0, l1, l2, l3, some (aI (x + (-1)))] (kil L2 4) St S := ev_go i260_125 rfl
theorem i260_128 : insAt 260 128 = some (.goto (-43), 3, (0, 0, 0, 0), 0) := rfl
theorem s260_128 {c : Nat → List AV → SS → Option Out} {l0 l1 l2 l3 l4 : Option AV} {L2 : List (Nat × AV)} {St : List AV} {S : SS} : ev c 260 128 [l0, l1, l2, l3, l4] L2 St S = ev c 260 85 [l0, l1, l2, l3, l4] L2 St S := ev_go i260_128 rfl
theorem i260_131 : insAt 260 131 = some (.iinc 3 1, 3, (0, 0, 0, 0), 0) := rfl
theorem s260_131 {c : Nat → List AV → SS → Option Out} {l0 l1 l2 l4 : Option AV} {x : Int32} {L2 : List (Nat × AV)} {St : List AV} {S : SS} : ev c 260 131 [l0, l1, l2, some (aI x), l4] L2 St S = ev c 260 134 [l0, l1, l2, some (aI (x + 1)), l4] (kil L2 3) St S := ev_go i260_131 rfl
theorem i260_134 : insAt 260 134 = some (.goto (-75), 3, (0, 0, 0, 0), 0) := rfl
theorem s260_134 {c : Nat → List AV → SS → Option Out} {l0 l1 l2 l3 l4 : Option AV} {L2 : List (Nat × AV)} {St : List AV} {S : SS} : ev c 260 134 [l0, l1, l2, l3, l4] L2 St S = ev c 260 59 [l0, l1, l2, l3, l4] L2 St S := ev_go i260_134 rfl
theorem i260_137 : insAt 260 137 = some (.aload_n 0, 1, (0, 0, 0, 0), 0) := rfl
theorem s260_137 {c : Nat → List AV → SS → Option Out} {l1 l2 l3 l4 : Option AV} {o : OId} {L2 : List (Nat × AV)} {St : List AV} {S : SS} : ev c 260 137 [some (aR o), l1, l2, l3, l4] L2 St S = ev c 260 138 [some (aR o), l1, l2, l3, l4] L2 (aR o :: St) S := ev_go i260_137 rfl
theorem i260_138 : insAt 260 138 = some (.getfield 7, 3, (12, 0, 0, 0), 0) := rfl
theorem s260_138 {c : Nat → List AV → SS → Option Out} {l0 l1 l2 l3 l4 : Option AV} {j t : Nat} {L2 : List (Nat × AV)} {St : List AV} {S : SS} : ev c 260 138 [l0, l1, l2, l3, l4] L2 (aR (12, j, t) :: St) S = ev c 260 141 [l0, l1, l2, l3, l4] L2 (S.2.2.1 (12, j, t) 0 :: St) S := ev_go i260_138 rfl
theorem i260_141 : insAt 260 141 = some (.iconst 5, 1, (0, 0, 0, 0), 0) := rfl
theorem s260_141 {c : Nat → List AV → SS → Option Out} {l0 l1 l2 l3 l4 : Option AV} {L2 : List (Nat × AV)} {St : List AV} {S : SS} : ev c 260 141 [l0, l1, l2, l3, l4] L2 St S = ev c 260 142 [l0, l1, l2, l3, l4] L2 (aI 5 :: St) S := ev_go i260_141 rfl
theorem i260_142 : insAt 260 142 = some (.iaload, 1, (0, 0, 0, 0), 0) := rfl
theorem s260_142 {c : Nat → List AV → SS → Option Out} {l0 l1 l2 l3 l4 : Option AV} {i : Int32} {o : OId} {L2 : List (Nat × AV)} {St : List AV} {S : SS} : ev c 260 142 [l0, l1, l2, l3, l4] L2 (aI i :: aR o :: St) S = kI o i (ev c 260 143 [l0, l1, l2, l3, l4] L2 (aI (agI S o i.toNatClampNeg) :: St) S) := ev_iaload i260_142
theorem i260_143 : insAt 260 143 = some (.iload_n 2, 1, (0, 0, 0, 0), 0) := rfl
theorem s260_143 {c : Nat → List AV → SS → Option Out} {l0 l1 l3 l4 : Option AV} {x : Int32} {L2 : List (Nat × AV)} {St : List AV} {S : SS} : ev c 260 143 [l0, l1, some (aI x), l3, l4] L2 St S = ev c 260 144 [l0, l1, some (aI x), l3, l4] L2 (aI x :: St) S := ev_go i260_143 rfl
theorem i260_144 : insAt 260 144 = some (.isub, 1, (0, 0, 0, 0), 0) := rfl
theorem s260_144 {c : Nat → List AV → SS → Option Out} {l0 l1 l2 l3 l4 : Option AV} {x y : Int32} {L2 : List (Nat × AV)} {St : List AV} {S : SS} : ev c 260 144 [l0, l1, l2, l3, l4] L2 (aI y :: aI x :: St) S = ev c 260 145 [l0, l1, l2, l3, l4] L2 (aI (x - y) :: St) S := ev_go i260_144 rfl
theorem i260_145 : insAt 260 145 = some (.ireturn, 1, (0, 0, 0, 0), 0) := rfl
theorem s260_145 {c : Nat → List AV → SS → Option Out} {l0 l1 l2 l3 l4 : Option AV} {x : Int32} {L2 : List (Nat × AV)} {St : List AV} {S : SS} : ev c 260 145 [l0, l1, l2, l3, l4] L2 [aI x] S = some (.inl (some (aI x)), S) := ev_end i260_145 rfl
theorem m260 {d : Nat} {o : OId} {a0 : Int32} {S : SS} : evm (d + 1) 260 [aR o, aI a0] S = ev (evm d) 260 0 [some (aR o), some (aI a0), none, none, none] [] [] S := evm_s (n := 5) rfl (Nat.le_of_ble_eq_true rfl) rfl rfl
/-! FrequencyOfficeModel.today()I -/
theorem i261_0 : insAt 261 0 = some (.aload_n 0, 1, (0, 0, 0, 0), 0) := rfl
theorem s261_0 {c : Nat → List AV → SS → Option Out} {o : OId} {L2 : List (Nat × AV)} {St : List AV} {S : SS} : ev c 261 0 [some (aR o)] L2 St S = ev c 261 1 [some (aR o)] L2 (aR o :: St) S := ev_go i261_0 rfl
theorem i261_1 : insAt 261 1 = some (.aload_n 0, 1, (0, 0, 0, 0), 0) := rfl
theorem s261_1 {c : Nat → List AV → SS → Option Out} {o : OId} {L2 : List (Nat × AV)} {St : List AV} {S : SS} : ev c 261 1 [some (aR o)] L2 St S = ev c 261 2 [some (aR o)] L2 (aR o :: St) S := ev_go i261_1 rfl
theorem i261_2 : insAt 261 2 = some (.getfield 7, 3, (12, 0, 0, 0), 0) := rfl
theorem s261_2 {c : Nat → List AV → SS → Option Out} {l0 : Option AV} {j t : Nat} {L2 : List (Nat × AV)} {St : List AV} {S : SS} : ev c 261 2 [l0] L2 (aR (12, j, t) :: St) S = ev c 261 5 [l0] L2 (S.2.2.1 (12, j, t) 0 :: St) S := ev_go i261_2 rfl
theorem i261_5 : insAt 261 5 = some (.iconst 3, 1, (0, 0, 0, 0), 0) := rfl
theorem s261_5 {c : Nat → List AV → SS → Option Out} {l0 : Option AV} {L2 : List (Nat × AV)} {St : List AV} {S : SS} : ev c 261 5 [l0] L2 St S = ev c 261 6 [l0] L2 (aI 3 :: St) S := ev_go i261_5 rfl
theorem i261_6 : insAt 261 6 = some (.iaload, 1, (0, 0, 0, 0), 0) := rfl
theorem s261_6 {c : Nat → List AV → SS → Option Out} {l0 : Option AV} {i : Int32} {o : OId} {L2 : List (Nat × AV)} {St : List AV} {S : SS} : ev c 261 6 [l0] L2 (aI i :: aR o :: St) S = kI o i (ev c 261 7 [l0] L2 (aI (agI S o i.toNatClampNeg) :: St) S) := ev_iaload i261_6
theorem i261_7 : insAt 261 7 = some (.invokevirtual 89, 3, (223, 1, 2, 12), 0) := rfl
theorem s261_7 {c : Nat → List AV → SS → Option Out} {l0 : Option AV} {a0 : Int32} {j t : Nat} {L2 : List (Nat × AV)} {S : SS} : ev c 261 7 [l0] L2 [aI a0, aR (12, j, t)] S = ck (c 223 [aR (12, j, t), aI a0] S) (fun v S' => ev c 261 10 [l0] L2 (v.toList ++ []) S') := ev_call i261_7 rfl
theorem i261_10 : insAt 261 10 = some (.ireturn, 1, (0, 0, 0, 0), 0) := rfl
theorem s261_10 {c : Nat → List AV → SS → Option Out} {l0 : Option AV} {x : Int32} {L2 : List (Nat × AV)} {St : List AV} {S : SS} : ev c 261 10 [l0] L2 [aI x] S = some (.inl (some (aI x)), S) := ev_end i261_10 rfl
theorem m261 {d : Nat} {o : OId} {S : SS} : evm (d + 1) 261 [aR o] S = ev (evm d) 261 0 [some (aR o)] [] [] S := evm_s (n := 1) rfl (Nat.le_of_ble_eq_true rfl) rfl rfl
/-! FrequencyOfficeModel.stationCount()I -/
theorem i262_0 : insAt 262 0 = some (.aload_n 0, 1, (0, 0, 0, 0), 0) := rfl
theorem s262_0 {c : Nat → List AV → SS → Option Out} {o : OId} {L2 : List (Nat × AV)} {St : List AV} {S : SS} : ev c 262 0 [some (aR o)] L2 St S = ev c 262 1 [some (aR o)] L2 (aR o :: St) S := ev_go i262_0 rfl
theorem i262_1 : insAt 262 1 = some (.aload_n 0, 1, (0, 0, 0, 0), 0) := rfl
theorem s262_1 {c : Nat → List AV → SS → Option Out} {o : OId} {L2 : List (Nat × AV)} {St : List AV} {S : SS} : ev c 262 1 [some (aR o)] L2 St S = ev c 262 2 [some (aR o)] L2 (aR o :: St) S := ev_go i262_1 rfl
theorem i262_2 : insAt 262 2 = some (.getfield 7, 3, (12, 0, 0, 0), 0) := rfl
theorem s262_2 {c : Nat → List AV → SS → Option Out} {l0 : Option AV} {j t : Nat} {L2 : List (Nat × AV)} {St : List AV} {S : SS} : ev c 262 2 [l0] L2 (aR (12, j, t) :: St) S = ev c 262 5 [l0] L2 (S.2.2.1 (12, j, t) 0 :: St) S := ev_go i262_2 rfl
theorem i262_5 : insAt 262 5 = some (.bipush 7, 2, (0, 0, 0, 0), 0) := rfl
theorem s262_5 {c : Nat → List AV → SS → Option Out} {l0 : Option AV} {L2 : List (Nat × AV)} {St : List AV} {S : SS} : ev c 262 5 [l0] L2 St S = ev c 262 7 [l0] L2 (aI 7 :: St) S := ev_go i262_5 rfl
theorem i262_7 : insAt 262 7 = some (.iaload, 1, (0, 0, 0, 0), 0) := rfl
theorem s262_7 {c : Nat → List AV → SS → Option Out} {l0 : Option AV} {i : Int32} {o : OId} {L2 : List (Nat × AV)} {St : List AV} {S : SS} : ev c 262 7 [l0] L2 (aI i :: aR o :: St) S = kI o i (ev c 262 8 [l0] L2 (aI (agI S o i.toNatClampNeg) :: St) S) := ev_iaload i262_7
theorem i262_8 : insAt 262 8 = some (.invokevirtual 89, 3, (223, 1, 2, 12), 0) := rfl
theorem s262_8 {c : Nat → List AV → SS → Option Out} {l0 : Option AV} {a0 : Int32} {j t : Nat} {L2 : List (Nat × AV)} {S : SS} : ev c 262 8 [l0] L2 [aI a0, aR (12, j, t)] S = ck (c 223 [aR (12, j, t), aI a0] S) (fun v S' => ev c 262 11 [l0] L2 (v.toList ++ []) S') := ev_call i262_8 rfl
theorem i262_11 : insAt 262 11 = some (.ireturn, 1, (0, 0, 0, 0), 0) := rfl
theorem s262_11 {c : Nat → List AV → SS → Option Out} {l0 : Option AV} {x : Int32} {L2 : List (Nat × AV)} {St : List AV} {S : SS} : ev c 262 11 [l0] L2 [aI x] S = some (.inl (some (aI x)), S) := ev_end i262_11 rfl
theorem m262 {d : Nat} {o : OId} {S : SS} : evm (d + 1) 262 [aR o] S = ev (evm d) 262 0 [some (aR o)] [] [] S := evm_s (n := 1) rfl (Nat.le_of_ble_eq_true rfl) rfl rfl
/-! FrequencyOfficeModel.licensedCount()I -/
theorem i263_0 : insAt 263 0 = some (.aload_n 0, 1, (0, 0, 0, 0), 0) := rfl
theorem s263_0 {c : Nat → List AV → SS → Option Out} {o : OId} {L2 : List (Nat × AV)} {St : List AV} {S : SS} : ev c 263 0 [some (aR o)] L2 St S = ev c 263 1 [some (aR o)] L2 (aR o :: St) S := ev_go i263_0 rfl
theorem i263_1 : insAt 263 1 = some (.aload_n 0, 1, (0, 0, 0, 0), 0) := rfl
theorem s263_1 {c : Nat → List AV → SS → Option Out} {o : OId} {L2 : List (Nat × AV)} {St : List AV} {S : SS} : ev c 263 1 [some (aR o)] L2 St S = ev c 263 2 [some (aR o)] L2 (aR o :: St) S := ev_go i263_1 rfl
theorem i263_2 : insAt 263 2 = some (.invokevirtual 180, 3, (264, 0, 2, 12), 0) := rfl
theorem s263_2 {c : Nat → List AV → SS → Option Out} {l0 : Option AV} {t0 : AV} {j t : Nat} {L2 : List (Nat × AV)} {S : SS} : ev c 263 2 [l0] L2 [aR (12, j, t), t0] S = ck (c 264 [aR (12, j, t)] S) (fun v S' => ev c 263 5 [l0] L2 (v.toList ++ [t0]) S') := ev_call i263_2 rfl
theorem i263_5 : insAt 263 5 = some (.invokevirtual 89, 3, (223, 1, 2, 12), 0) := rfl
theorem s263_5 {c : Nat → List AV → SS → Option Out} {l0 : Option AV} {a0 : Int32} {j t : Nat} {L2 : List (Nat × AV)} {S : SS} : ev c 263 5 [l0] L2 [aI a0, aR (12, j, t)] S = ck (c 223 [aR (12, j, t), aI a0] S) (fun v S' => ev c 263 8 [l0] L2 (v.toList ++ []) S') := ev_call i263_5 rfl
theorem i263_8 : insAt 263 8 = some (.ireturn, 1, (0, 0, 0, 0), 0) := rfl
theorem s263_8 {c : Nat → List AV → SS → Option Out} {l0 : Option AV} {x : Int32} {L2 : List (Nat × AV)} {St : List AV} {S : SS} : ev c 263 8 [l0] L2 [aI x] S = some (.inl (some (aI x)), S) := ev_end i263_8 rfl
theorem m263 {d : Nat} {o : OId} {S : SS} : evm (d + 1) 263 [aR o] S = ev (evm d) 263 0 [some (aR o)] [] [] S := evm_s (n := 1) rfl (Nat.le_of_ble_eq_true rfl) rfl rfl
/-! FrequencyOfficeModel.licensed()I -/
theorem i264_0 : insAt 264 0 = some (.iconst 0, 1, (0, 0, 0, 0), 0) := rfl
theorem s264_0 {c : Nat → List AV → SS → Option Out} {l0 l1 l2 : Option AV} {L2 : List (Nat × AV)} {St : List AV} {S : SS} : ev c 264 0 [l0, l1, l2] L2 St S = ev c 264 1 [l0, l1, l2] L2 (aI 0 :: St) S := ev_go i264_0 rfl
theorem i264_1 : insAt 264 1 = some (.istore_n 1, 1, (0, 0, 0, 0), 0) := rfl
theorem s264_1 {c : Nat → List AV → SS → Option Out} {l0 l1 l2 : Option AV} {x : Int32} {L2 : List (Nat × AV)} {St : List AV} {S : SS} : ev c 264 1 [l0, l1, l2] L2 (aI x :: St) S = ev c 264 2 [l0, some (aI x), l2] (kil L2 1) St S := ev_go i264_1 rfl
theorem i264_2 : insAt 264 2 = some (.iconst 0, 1, (0, 0, 0, 0), 0) := rfl
theorem s264_2 {c : Nat → List AV → SS → Option Out} {l0 l1 l2 : Option AV} {L2 : List (Nat × AV)} {St : List AV} {S : SS} : ev c 264 2 [l0, l1, l2] L2 St S = ev c 264 3 [l0, l1, l2] L2 (aI 0 :: St) S := ev_go i264_2 rfl
theorem i264_3 : insAt 264 3 = some (.istore_n 2, 1, (0, 0, 0, 0), 0) := rfl
theorem s264_3 {c : Nat → List AV → SS → Option Out} {l0 l1 l2 : Option AV} {x : Int32} {L2 : List (Nat × AV)} {St : List AV} {S : SS} : ev c 264 3 [l0, l1, l2] L2 (aI x :: St) S = ev c 264 4 [l0, l1, some (aI x)] (kil L2 2) St S := ev_go i264_3 rfl
theorem i264_4 : insAt 264 4 = some (.iload_n 2, 1, (0, 0, 0, 0), 0) := rfl
theorem s264_4 {c : Nat → List AV → SS → Option Out} {l0 l1 : Option AV} {x : Int32} {L2 : List (Nat × AV)} {St : List AV} {S : SS} : ev c 264 4 [l0, l1, some (aI x)] L2 St S = ev c 264 5 [l0, l1, some (aI x)] L2 (aI x :: St) S := ev_go i264_4 rfl
theorem i264_5 : insAt 264 5 = some (.aload_n 0, 1, (0, 0, 0, 0), 0) := rfl
theorem s264_5 {c : Nat → List AV → SS → Option Out} {l1 l2 : Option AV} {o : OId} {L2 : List (Nat × AV)} {St : List AV} {S : SS} : ev c 264 5 [some (aR o), l1, l2] L2 St S = ev c 264 6 [some (aR o), l1, l2] L2 (aR o :: St) S := ev_go i264_5 rfl
theorem i264_6 : insAt 264 6 = some (.getfield 7, 3, (12, 0, 0, 0), 0) := rfl
theorem s264_6 {c : Nat → List AV → SS → Option Out} {l0 l1 l2 : Option AV} {j t : Nat} {L2 : List (Nat × AV)} {St : List AV} {S : SS} : ev c 264 6 [l0, l1, l2] L2 (aR (12, j, t) :: St) S = ev c 264 9 [l0, l1, l2] L2 (S.2.2.1 (12, j, t) 0 :: St) S := ev_go i264_6 rfl
theorem i264_9 : insAt 264 9 = some (.bipush 7, 2, (0, 0, 0, 0), 0) := rfl
theorem s264_9 {c : Nat → List AV → SS → Option Out} {l0 l1 l2 : Option AV} {L2 : List (Nat × AV)} {St : List AV} {S : SS} : ev c 264 9 [l0, l1, l2] L2 St S = ev c 264 11 [l0, l1, l2] L2 (aI 7 :: St) S := ev_go i264_9 rfl
theorem i264_11 : insAt 264 11 = some (.iaload, 1, (0, 0, 0, 0), 0) := rfl
theorem s264_11 {c : Nat → List AV → SS → Option Out} {l0 l1 l2 : Option AV} {i : Int32} {o : OId} {L2 : List (Nat × AV)} {St : List AV} {S : SS} : ev c 264 11 [l0, l1, l2] L2 (aI i :: aR o :: St) S = kI o i (ev c 264 12 [l0, l1, l2] L2 (aI (agI S o i.toNatClampNeg) :: St) S) := ev_iaload i264_11
theorem i264_12 : insAt 264 12 = some (.if_icmp .ge 18, 3, (0, 0, 0, 0), 0) := rfl
theorem s264_12 {c : Nat → List AV → SS → Option Out} {l0 l1 l2 : Option AV} {x y : Int32} {L2 : List (Nat × AV)} {St : List AV} {S : SS} : ev c 264 12 [l0, l1, l2] L2 (aI y :: aI x :: St) S = if y ≤ x then ev c 264 30 [l0, l1, l2] L2 St S else ev c 264 15 [l0, l1, l2] L2 St S := ev_br i264_12 rfl
theorem i264_15 : insAt 264 15 = some (.iload_n 1, 1, (0, 0, 0, 0), 0) := rfl
theorem s264_15 {c : Nat → List AV → SS → Option Out} {l0 l2 : Option AV} {x : Int32} {L2 : List (Nat × AV)} {St : List AV} {S : SS} : ev c 264 15 [l0, some (aI x), l2] L2 St S = ev c 264 16 [l0, some (aI x), l2] L2 (aI x :: St) S := ev_go i264_15 rfl
theorem i264_16 : insAt 264 16 = some (.aload_n 0, 1, (0, 0, 0, 0), 0) := rfl
theorem s264_16 {c : Nat → List AV → SS → Option Out} {l1 l2 : Option AV} {o : OId} {L2 : List (Nat × AV)} {St : List AV} {S : SS} : ev c 264 16 [some (aR o), l1, l2] L2 St S = ev c 264 17 [some (aR o), l1, l2] L2 (aR o :: St) S := ev_go i264_16 rfl
theorem i264_17 : insAt 264 17 = some (.iload_n 2, 1, (0, 0, 0, 0), 0) := rfl
theorem s264_17 {c : Nat → List AV → SS → Option Out} {l0 l1 : Option AV} {x : Int32} {L2 : List (Nat × AV)} {St : List AV} {S : SS} : ev c 264 17 [l0, l1, some (aI x)] L2 St S = ev c 264 18 [l0, l1, some (aI x)] L2 (aI x :: St) S := ev_go i264_17 rfl
theorem i264_18 : insAt 264 18 = some (.iconst 5, 1, (0, 0, 0, 0), 0) := rfl
theorem s264_18 {c : Nat → List AV → SS → Option Out} {l0 l1 l2 : Option AV} {L2 : List (Nat × AV)} {St : List AV} {S : SS} : ev c 264 18 [l0, l1, l2] L2 St S = ev c 264 19 [l0, l1, l2] L2 (aI 5 :: St) S := ev_go i264_18 rfl
theorem i264_19 : insAt 264 19 = some (.invokevirtual 75, 3, (234, 2, 2, 12), 0) := rfl
theorem s264_19 {c : Nat → List AV → SS → Option Out} {l0 l1 l2 : Option AV} {t0 : AV} {a0 : Int32} {a1 : Int32} {j t : Nat} {L2 : List (Nat × AV)} {S : SS} : ev c 264 19 [l0, l1, l2] L2 [aI a1, aI a0, aR (12, j, t), t0] S = ck (c 234 [aR (12, j, t), aI a0, aI a1] S) (fun v S' => ev c 264 22 [l0, l1, l2] L2 (v.toList ++ [t0]) S') := ev_call i264_19 rfl
theorem i264_22 : insAt 264 22 = some (.iadd, 1, (0, 0, 0, 0), 0) := rfl
theorem s264_22 {c : Nat → List AV → SS → Option Out} {l0 l1 l2 : Option AV} {x y : Int32} {L2 : List (Nat × AV)} {St : List AV} {S : SS} : ev c 264 22 [l0, l1, l2] L2 (aI y :: aI x :: St) S = ev c 264 23 [l0, l1, l2] L2 (aI (x + y) :: St) S := ev_go i264_22 rfl
theorem i264_23 : insAt 264 23 = some (.istore_n 1, 1, (0, 0, 0, 0), 0) := rfl
theorem s264_23 {c : Nat → List AV → SS → Option Out} {l0 l1 l2 : Option AV} {x : Int32} {L2 : List (Nat × AV)} {St : List AV} {S : SS} : ev c 264 23 [l0, l1, l2] L2 (aI x :: St) S = ev c 264 24 [l0, some (aI x), l2] (kil L2 1) St S := ev_go i264_23 rfl
theorem i264_24 : insAt 264 24 = some (.iinc 2 1, 3, (0, 0, 0, 0), 0) := rfl
theorem s264_24 {c : Nat → List AV → SS → Option Out} {l0 l1 : Option AV} {x : Int32} {L2 : List (Nat × AV)} {St : List AV} {S : SS} : ev c 264 24 [l0, l1, some (aI x)] L2 St S = ev c 264 27 [l0, l1, some (aI (x + 1))] (kil L2 2) St S := ev_go i264_24 rfl
theorem i264_27 : insAt 264 27 = some (.goto (-23), 3, (0, 0, 0, 0), 0) := rfl
theorem s264_27 {c : Nat → List AV → SS → Option Out} {l0 l1 l2 : Option AV} {L2 : List (Nat × AV)} {St : List AV} {S : SS} : ev c 264 27 [l0, l1, l2] L2 St S = ev c 264 4 [l0, l1, l2] L2 St S := ev_go i264_27 rfl
theorem i264_30 : insAt 264 30 = some (.iload_n 1, 1, (0, 0, 0, 0), 0) := rfl
theorem s264_30 {c : Nat → List AV → SS → Option Out} {l0 l2 : Option AV} {x : Int32} {L2 : List (Nat × AV)} {St : List AV} {S : SS} : ev c 264 30 [l0, some (aI x), l2] L2 St S = ev c 264 31 [l0, some (aI x), l2] L2 (aI x :: St) S := ev_go i264_30 rfl
theorem i264_31 : insAt 264 31 = some (.ireturn, 1, (0, 0, 0, 0), 0) := rfl
theorem s264_31 {c : Nat → List AV → SS → Option Out} {l0 l1 l2 : Option AV} {x : Int32} {L2 : List (Nat × AV)} {St : List AV} {S : SS} : ev c 264 31 [l0, l1, l2] L2 [aI x] S = some (.inl (some (aI x)), S) := ev_end i264_31 rfl
theorem m264 {d : Nat} {o : OId} {S : SS} : evm (d + 1) 264 [aR o] S = ev (evm d) 264 0 [some (aR o), none, none] [] [] S := evm_s (n := 3) rfl (Nat.le_of_ble_eq_true rfl) rfl rfl
/-! FrequencyOfficeModel.exists(I)Z -/
theorem i265_0 : insAt 265 0 = some (.aload_n 0, 1, (0, 0, 0, 0), 0) := rfl
theorem s265_0 {c : Nat → List AV → SS → Option Out} {l1 : Option AV} {o : OId} {L2 : List (Nat × AV)} {St : List AV} {S : SS} : ev c 265 0 [some (aR o), l1] L2 St S = ev c 265 1 [some (aR o), l1] L2 (aR o :: St) S := ev_go i265_0 rfl
theorem i265_1 : insAt 265 1 = some (.iconst 0, 1, (0, 0, 0, 0), 0) := rfl
theorem s265_1 {c : Nat → List AV → SS → Option Out} {l0 l1 : Option AV} {L2 : List (Nat × AV)} {St : List AV} {S : SS} : ev c 265 1 [l0, l1] L2 St S = ev c 265 2 [l0, l1] L2 (aI 0 :: St) S := ev_go i265_1 rfl
theorem i265_2 : insAt 265 2 = some (.putfield 31, 3, (12, 7, 0, 0), 0) := rfl
theorem s265_2 {c : Nat → List AV → SS → Option Out} {l0 l1 : Option AV} {j t : Nat} {x : Int32} {L2 : List (Nat × AV)} {St : List AV} {S : SS} : ev c 265 2 [l0, l1] L2 (aI x :: aR (12, j, t) :: St) S = ev c 265 5 [l0, l1] L2 St (setI S.1 (12, j, t) 7 x, S.2) := ev_go i265_2 rfl
theorem i265_5 : insAt 265 5 = some (.aload_n 0, 1, (0, 0, 0, 0), 0) := rfl
theorem s265_5 {c : Nat → List AV → SS → Option Out} {l1 : Option AV} {o : OId} {L2 : List (Nat × AV)} {St : List AV} {S : SS} : ev c 265 5 [some (aR o), l1] L2 St S = ev c 265 6 [some (aR o), l1] L2 (aR o :: St) S := ev_go i265_5 rfl
theorem i265_6 : insAt 265 6 = some (.iload_n 1, 1, (0, 0, 0, 0), 0) := rfl
theorem s265_6 {c : Nat → List AV → SS → Option Out} {l0 : Option AV} {x : Int32} {L2 : List (Nat × AV)} {St : List AV} {S : SS} : ev c 265 6 [l0, some (aI x)] L2 St S = ev c 265 7 [l0, some (aI x)] L2 (aI x :: St) S := ev_go i265_6 rfl
theorem i265_7 : insAt 265 7 = some (.invokevirtual 173, 3, (256, 1, 2, 12), 0) := rfl
theorem s265_7 {c : Nat → List AV → SS → Option Out} {l0 l1 : Option AV} {a0 : Int32} {j t : Nat} {L2 : List (Nat × AV)} {S : SS} : ev c 265 7 [l0, l1] L2 [aI a0, aR (12, j, t)] S = ck (c 256 [aR (12, j, t), aI a0] S) (fun v S' => ev c 265 10 [l0, l1] L2 (v.toList ++ []) S') := ev_call i265_7 rfl
theorem i265_10 : insAt 265 10 = some (.ifCond .lt 7, 3, (0, 0, 0, 0), 0) := rfl
theorem s265_10 {c : Nat → List AV → SS → Option Out} {l0 l1 : Option AV} {x : Int32} {L2 : List (Nat × AV)} {St : List AV} {S : SS} : ev c 265 10 [l0, l1] L2 (aI x :: St) S = if x < 0 then ev c 265 17 [l0, l1] L2 St S else ev c 265 13 [l0, l1] L2 St S := ev_br i265_10 rfl
theorem i265_13 : insAt 265 13 = some (.iconst 1, 1, (0, 0, 0, 0), 0) := rfl
theorem s265_13 {c : Nat → List AV → SS → Option Out} {l0 l1 : Option AV} {L2 : List (Nat × AV)} {St : List AV} {S : SS} : ev c 265 13 [l0, l1] L2 St S = ev c 265 14 [l0, l1] L2 (aI 1 :: St) S := ev_go i265_13 rfl
theorem i265_14 : insAt 265 14 = some (.goto 4, 3, (0, 0, 0, 0), 0) := rfl
theorem s265_14 {c : Nat → List AV → SS → Option Out} {l0 l1 : Option AV} {L2 : List (Nat × AV)} {St : List AV} {S : SS} : ev c 265 14 [l0, l1] L2 St S = ev c 265 18 [l0, l1] L2 St S := ev_go i265_14 rfl
theorem i265_17 : insAt 265 17 = some (.iconst 0, 1, (0, 0, 0, 0), 0) := rfl
theorem s265_17 {c : Nat → List AV → SS → Option Out} {l0 l1 : Option AV} {L2 : List (Nat × AV)} {St : List AV} {S : SS} : ev c 265 17 [l0, l1] L2 St S = ev c 265 18 [l0, l1] L2 (aI 0 :: St) S := ev_go i265_17 rfl
theorem i265_18 : insAt 265 18 = some (.ireturn, 1, (0, 0, 0, 0), 0) := rfl
theorem s265_18 {c : Nat → List AV → SS → Option Out} {l0 l1 : Option AV} {x : Int32} {L2 : List (Nat × AV)} {St : List AV} {S : SS} : ev c 265 18 [l0, l1] L2 [aI x] S = if x = 0 ∨ x = 1 then some (.inl (some (aI x)), S) else none := ev_rt i265_18 rfl
theorem m265 {d : Nat} {o : OId} {a0 : Int32} {S : SS} : evm (d + 1) 265 [aR o, aI a0] S = ev (evm d) 265 0 [some (aR o), some (aI a0)] [] [] S := evm_s (n := 2) rfl (Nat.le_of_ble_eq_true rfl) rfl rfl
/-! FrequencyOfficeModel.stationAt(I)I -/
theorem i266_0 : insAt 266 0 = some (.aload_n 0, 1, (0, 0, 0, 0), 0) := rfl
theorem s266_0 {c : Nat → List AV → SS → Option Out} {l1 : Option AV} {o : OId} {L2 : List (Nat × AV)} {St : List AV} {S : SS} : ev c 266 0 [some (aR o), l1] L2 St S = ev c 266 1 [some (aR o), l1] L2 (aR o :: St) S := ev_go i266_0 rfl
theorem i266_1 : insAt 266 1 = some (.iload_n 1, 1, (0, 0, 0, 0), 0) := rfl
theorem s266_1 {c : Nat → List AV → SS → Option Out} {l0 : Option AV} {x : Int32} {L2 : List (Nat × AV)} {St : List AV} {S : SS} : ev c 266 1 [l0, some (aI x)] L2 St S = ev c 266 2 [l0, some (aI x)] L2 (aI x :: St) S := ev_go i266_1 rfl
theorem i266_2 : insAt 266 2 = some (.iconst 0, 1, (0, 0, 0, 0), 0) := rfl
theorem s266_2 {c : Nat → List AV → SS → Option Out} {l0 l1 : Option AV} {L2 : List (Nat × AV)} {St : List AV} {S : SS} : ev c 266 2 [l0, l1] L2 St S = ev c 266 3 [l0, l1] L2 (aI 0 :: St) S := ev_go i266_2 rfl
theorem i266_3 : insAt 266 3 = some (.aload_n 0, 1, (0, 0, 0, 0), 0) := rfl
theorem s266_3 {c : Nat → List AV → SS → Option Out} {l1 : Option AV} {o : OId} {L2 : List (Nat × AV)} {St : List AV} {S : SS} : ev c 266 3 [some (aR o), l1] L2 St S = ev c 266 4 [some (aR o), l1] L2 (aR o :: St) S := ev_go i266_3 rfl
theorem i266_4 : insAt 266 4 = some (.getfield 7, 3, (12, 0, 0, 0), 0) := rfl
theorem s266_4 {c : Nat → List AV → SS → Option Out} {l0 l1 : Option AV} {j t : Nat} {L2 : List (Nat × AV)} {St : List AV} {S : SS} : ev c 266 4 [l0, l1] L2 (aR (12, j, t) :: St) S = ev c 266 7 [l0, l1] L2 (S.2.2.1 (12, j, t) 0 :: St) S := ev_go i266_4 rfl
theorem i266_7 : insAt 266 7 = some (.bipush 7, 2, (0, 0, 0, 0), 0) := rfl
theorem s266_7 {c : Nat → List AV → SS → Option Out} {l0 l1 : Option AV} {L2 : List (Nat × AV)} {St : List AV} {S : SS} : ev c 266 7 [l0, l1] L2 St S = ev c 266 9 [l0, l1] L2 (aI 7 :: St) S := ev_go i266_7 rfl
theorem i266_9 : insAt 266 9 = some (.iaload, 1, (0, 0, 0, 0), 0) := rfl
theorem s266_9 {c : Nat → List AV → SS → Option Out} {l0 l1 : Option AV} {i : Int32} {o : OId} {L2 : List (Nat × AV)} {St : List AV} {S : SS} : ev c 266 9 [l0, l1] L2 (aI i :: aR o :: St) S = kI o i (ev c 266 10 [l0, l1] L2 (aI (agI S o i.toNatClampNeg) :: St) S) := ev_iaload i266_9
theorem i266_10 : insAt 266 10 = some (.iconst 1, 1, (0, 0, 0, 0), 0) := rfl
theorem s266_10 {c : Nat → List AV → SS → Option Out} {l0 l1 : Option AV} {L2 : List (Nat × AV)} {St : List AV} {S : SS} : ev c 266 10 [l0, l1] L2 St S = ev c 266 11 [l0, l1] L2 (aI 1 :: St) S := ev_go i266_10 rfl
theorem i266_11 : insAt 266 11 = some (.isub, 1, (0, 0, 0, 0), 0) := rfl
theorem s266_11 {c : Nat → List AV → SS → Option Out} {l0 l1 : Option AV} {x y : Int32} {L2 : List (Nat × AV)} {St : List AV} {S : SS} : ev c 266 11 [l0, l1] L2 (aI y :: aI x :: St) S = ev c 266 12 [l0, l1] L2 (aI (x - y) :: St) S := ev_go i266_11 rfl
theorem i266_12 : insAt 266 12 = some (.invokestatic 154, 3, (228, 3, 0, 0), 0) := rfl
theorem s266_12 {c : Nat → List AV → SS → Option Out} {l0 l1 : Option AV} {t0 : AV} {a0 : Int32} {a1 : Int32} {a2 : Int32} {L2 : List (Nat × AV)} {S : SS} : ev c 266 12 [l0, l1] L2 [aI a2, aI a1, aI a0, t0] S = ck (c 228 [aI a0, aI a1, aI a2] S) (fun v S' => ev c 266 15 [l0, l1] L2 (v.toList ++ [t0]) S') := ev_call i266_12 rfl
theorem i266_15 : insAt 266 15 = some (.invokevirtual 176, 3, (259, 1, 2, 12), 0) := rfl
theorem s266_15 {c : Nat → List AV → SS → Option Out} {l0 l1 : Option AV} {a0 : Int32} {j t : Nat} {L2 : List (Nat × AV)} {S : SS} : ev c 266 15 [l0, l1] L2 [aI a0, aR (12, j, t)] S = ck (c 259 [aR (12, j, t), aI a0] S) (fun v S' => ev c 266 18 [l0, l1] L2 (v.toList ++ []) S') := ev_call i266_15 rfl
theorem i266_18 : insAt 266 18 = some (.ifCond .le 7, 3, (0, 0, 0, 0), 0) := rfl
theorem s266_18 {c : Nat → List AV → SS → Option Out} {l0 l1 : Option AV} {x : Int32} {L2 : List (Nat × AV)} {St : List AV} {S : SS} : ev c 266 18 [l0, l1] L2 (aI x :: St) S = if x ≤ 0 then ev c 266 25 [l0, l1] L2 St S else ev c 266 21 [l0, l1] L2 St S := ev_br i266_18 rfl
theorem i266_21 : insAt 266 21 = some (.iconst 0, 1, (0, 0, 0, 0), 0) := rfl
theorem s266_21 {c : Nat → List AV → SS → Option Out} {l0 l1 : Option AV} {L2 : List (Nat × AV)} {St : List AV} {S : SS} : ev c 266 21 [l0, l1] L2 St S = ev c 266 22 [l0, l1] L2 (aI 0 :: St) S := ev_go i266_21 rfl
theorem i266_22 : insAt 266 22 = some (.goto 9, 3, (0, 0, 0, 0), 0) := rfl
theorem s266_22 {c : Nat → List AV → SS → Option Out} {l0 l1 : Option AV} {L2 : List (Nat × AV)} {St : List AV} {S : SS} : ev c 266 22 [l0, l1] L2 St S = ev c 266 31 [l0, l1] L2 St S := ev_go i266_22 rfl
theorem i266_25 : insAt 266 25 = some (.aload_n 0, 1, (0, 0, 0, 0), 0) := rfl
theorem s266_25 {c : Nat → List AV → SS → Option Out} {l1 : Option AV} {o : OId} {L2 : List (Nat × AV)} {St : List AV} {S : SS} : ev c 266 25 [some (aR o), l1] L2 St S = ev c 266 26 [some (aR o), l1] L2 (aR o :: St) S := ev_go i266_25 rfl
theorem i266_26 : insAt 266 26 = some (.iload_n 1, 1, (0, 0, 0, 0), 0) := rfl
theorem s266_26 {c : Nat → List AV → SS → Option Out} {l0 : Option AV} {x : Int32} {L2 : List (Nat × AV)} {St : List AV} {S : SS} : ev c 266 26 [l0, some (aI x)] L2 St S = ev c 266 27 [l0, some (aI x)] L2 (aI x :: St) S := ev_go i266_26 rfl
theorem i266_27 : insAt 266 27 = some (.iconst 0, 1, (0, 0, 0, 0), 0) := rfl
theorem s266_27 {c : Nat → List AV → SS → Option Out} {l0 l1 : Option AV} {L2 : List (Nat × AV)} {St : List AV} {S : SS} : ev c 266 27 [l0, l1] L2 St S = ev c 266 28 [l0, l1] L2 (aI 0 :: St) S := ev_go i266_27 rfl
theorem i266_28 : insAt 266 28 = some (.invokevirtual 75, 3, (234, 2, 2, 12), 0) := rfl
theorem s266_28 {c : Nat → List AV → SS → Option Out} {l0 l1 : Option AV} {a0 : Int32} {a1 : Int32} {j t : Nat} {L2 : List (Nat × AV)} {S : SS} : ev c 266 28 [l0, l1] L2 [aI a1, aI a0, aR (12, j, t)] S = ck (c 234 [aR (12, j, t), aI a0, aI a1] S) (fun v S' => ev c 266 31 [l0, l1] L2 (v.toList ++ []) S') := ev_call i266_28 rfl
theorem i266_31 : insAt 266 31 = some (.ireturn, 1, (0, 0, 0, 0), 0) := rfl
theorem s266_31 {c : Nat → List AV → SS → Option Out} {l0 l1 : Option AV} {x : Int32} {L2 : List (Nat × AV)} {St : List AV} {S : SS} : ev c 266 31 [l0, l1] L2 [aI x] S = some (.inl (some (aI x)), S) := ev_end i266_31 rfl
theorem m266 {d : Nat} {o : OId} {a0 : Int32} {S : SS} : evm (d + 1) 266 [aR o, aI a0] S = ev (evm d) 266 0 [some (aR o), some (aI a0)] [] [] S := evm_s (n := 2) rfl (Nat.le_of_ble_eq_true rfl) rfl rfl
/-! FrequencyOfficeModel.stationByExpiry(I)I -/
theorem i267_0 : insAt 267 0 = some (.aload_n 0, 1, (0, 0, 0, 0), 0) := rfl
theorem s267_0 {c : Nat → List AV → SS → Option Out} {l1 l2 : Option AV} {o : OId} {L2 : List (Nat × AV)} {St : List AV} {S : SS} : ev c 267 0 [some (aR o), l1, l2] L2 St S = ev c 267 1 [some (aR o), l1, l2] L2 (aR o :: St) S := ev_go i267_0 rfl
theorem i267_1 : insAt 267 1 = some (.iload_n 1, 1, (0, 0, 0, 0), 0) := rfl
theorem s267_1 {c : Nat → List AV → SS → Option Out} {l0 l2 : Option AV} {x : Int32} {L2 : List (Nat × AV)} {St : List AV} {S : SS} : ev c 267 1 [l0, some (aI x), l2] L2 St S = ev c 267 2 [l0, some (aI x), l2] L2 (aI x :: St) S := ev_go i267_1 rfl
theorem i267_2 : insAt 267 2 = some (.iconst 0, 1, (0, 0, 0, 0), 0) := rfl
theorem s267_2 {c : Nat → List AV → SS → Option Out} {l0 l1 l2 : Option AV} {L2 : List (Nat × AV)} {St : List AV} {S : SS} : ev c 267 2 [l0, l1, l2] L2 St S = ev c 267 3 [l0, l1, l2] L2 (aI 0 :: St) S := ev_go i267_2 rfl
theorem i267_3 : insAt 267 3 = some (.aload_n 0, 1, (0, 0, 0, 0), 0) := rfl
theorem s267_3 {c : Nat → List AV → SS → Option Out} {l1 l2 : Option AV} {o : OId} {L2 : List (Nat × AV)} {St : List AV} {S : SS} : ev c 267 3 [some (aR o), l1, l2] L2 St S = ev c 267 4 [some (aR o), l1, l2] L2 (aR o :: St) S := ev_go i267_3 rfl
theorem i267_4 : insAt 267 4 = some (.getfield 7, 3, (12, 0, 0, 0), 0) := rfl
theorem s267_4 {c : Nat → List AV → SS → Option Out} {l0 l1 l2 : Option AV} {j t : Nat} {L2 : List (Nat × AV)} {St : List AV} {S : SS} : ev c 267 4 [l0, l1, l2] L2 (aR (12, j, t) :: St) S = ev c 267 7 [l0, l1, l2] L2 (S.2.2.1 (12, j, t) 0 :: St) S := ev_go i267_4 rfl
theorem i267_7 : insAt 267 7 = some (.bipush 7, 2, (0, 0, 0, 0), 0) := rfl
theorem s267_7 {c : Nat → List AV → SS → Option Out} {l0 l1 l2 : Option AV} {L2 : List (Nat × AV)} {St : List AV} {S : SS} : ev c 267 7 [l0, l1, l2] L2 St S = ev c 267 9 [l0, l1, l2] L2 (aI 7 :: St) S := ev_go i267_7 rfl
theorem i267_9 : insAt 267 9 = some (.iaload, 1, (0, 0, 0, 0), 0) := rfl
theorem s267_9 {c : Nat → List AV → SS → Option Out} {l0 l1 l2 : Option AV} {i : Int32} {o : OId} {L2 : List (Nat × AV)} {St : List AV} {S : SS} : ev c 267 9 [l0, l1, l2] L2 (aI i :: aR o :: St) S = kI o i (ev c 267 10 [l0, l1, l2] L2 (aI (agI S o i.toNatClampNeg) :: St) S) := ev_iaload i267_9
theorem i267_10 : insAt 267 10 = some (.iconst 1, 1, (0, 0, 0, 0), 0) := rfl
theorem s267_10 {c : Nat → List AV → SS → Option Out} {l0 l1 l2 : Option AV} {L2 : List (Nat × AV)} {St : List AV} {S : SS} : ev c 267 10 [l0, l1, l2] L2 St S = ev c 267 11 [l0, l1, l2] L2 (aI 1 :: St) S := ev_go i267_10 rfl
theorem i267_11 : insAt 267 11 = some (.isub, 1, (0, 0, 0, 0), 0) := rfl
theorem s267_11 {c : Nat → List AV → SS → Option Out} {l0 l1 l2 : Option AV} {x y : Int32} {L2 : List (Nat × AV)} {St : List AV} {S : SS} : ev c 267 11 [l0, l1, l2] L2 (aI y :: aI x :: St) S = ev c 267 12 [l0, l1, l2] L2 (aI (x - y) :: St) S := ev_go i267_11 rfl
theorem i267_12 : insAt 267 12 = some (.invokestatic 154, 3, (228, 3, 0, 0), 0) := rfl
theorem s267_12 {c : Nat → List AV → SS → Option Out} {l0 l1 l2 : Option AV} {t0 : AV} {a0 : Int32} {a1 : Int32} {a2 : Int32} {L2 : List (Nat × AV)} {S : SS} : ev c 267 12 [l0, l1, l2] L2 [aI a2, aI a1, aI a0, t0] S = ck (c 228 [aI a0, aI a1, aI a2] S) (fun v S' => ev c 267 15 [l0, l1, l2] L2 (v.toList ++ [t0]) S') := ev_call i267_12 rfl
theorem i267_15 : insAt 267 15 = some (.invokevirtual 176, 3, (259, 1, 2, 12), 0) := rfl
theorem s267_15 {c : Nat → List AV → SS → Option Out} {l0 l1 l2 : Option AV} {a0 : Int32} {j t : Nat} {L2 : List (Nat × AV)} {S : SS} : ev c 267 15 [l0, l1, l2] L2 [aI a0, aR (12, j, t)] S = ck (c 259 [aR (12, j, t), aI a0] S) (fun v S' => ev c 267 18 [l0, l1, l2] L2 (v.toList ++ []) S') := ev_call i267_15 rfl
theorem i267_18 : insAt 267 18 = some (.ifCond .le 5, 3, (0, 0, 0, 0), 0) := rfl
theorem s267_18 {c : Nat → List AV → SS → Option Out} {l0 l1 l2 : Option AV} {x : Int32} {L2 : List (Nat × AV)} {St : List AV} {S : SS} : ev c 267 18 [l0, l1, l2] L2 (aI x :: St) S = if x ≤ 0 then ev c 267 23 [l0, l1, l2] L2 St S else ev c 267 21 [l0, l1, l2] L2 St S := ev_br i267_18 rfl
theorem i267_21 : insAt 267 21 = some (.iconst 0, 1, (0, 0, 0, 0), 0) := rfl
theorem s267_21 {c : Nat → List AV → SS → Option Out} {l0 l1 l2 : Option AV} {L2 : List (Nat × AV)} {St : List AV} {S : SS} : ev c 267 21 [l0, l1, l2] L2 St S = ev c 267 22 [l0, l1, l2] L2 (aI 0 :: St) S := ev_go i267_21 rfl
theorem i267_22 : insAt 267 22 = some (.ireturn, 1, (0, 0, 0, 0), 0) := rfl
theorem s267_22 {c : Nat → List AV → SS → Option Out} {l0 l1 l2 : Option AV} {x : Int32} {L2 : List (Nat × AV)} {St : List AV} {S : SS} : ev c 267 22 [l0, l1, l2] L2 [aI x] S = some (.inl (some (aI x)), S) := ev_end i267_22 rfl
theorem i267_23 : insAt 267 23 = some (.iconst 0, 1, (0, 0, 0, 0), 0) := rfl
theorem s267_23 {c : Nat → List AV → SS → Option Out} {l0 l1 l2 : Option AV} {L2 : List (Nat × AV)} {St : List AV} {S : SS} : ev c 267 23 [l0, l1, l2] L2 St S = ev c 267 24 [l0, l1, l2] L2 (aI 0 :: St) S := ev_go i267_23 rfl
theorem i267_24 : insAt 267 24 = some (.istore_n 2, 1, (0, 0, 0, 0), 0) := rfl
theorem s267_24 {c : Nat → List AV → SS → Option Out} {l0 l1 l2 : Option AV} {x : Int32} {L2 : List (Nat × AV)} {St : List AV} {S : SS} : ev c 267 24 [l0, l1, l2] L2 (aI x :: St) S = ev c 267 25 [l0, l1, some (aI x)] (kil L2 2) St S := ev_go i267_24 rfl
theorem i267_25 : insAt 267 25 = some (.aload_n 0, 1, (0, 0, 0, 0), 0) := rfl
theorem s267_25 {c : Nat → List AV → SS → Option Out} {l1 l2 : Option AV} {o : OId} {L2 : List (Nat × AV)} {St : List AV} {S : SS} : ev c 267 25 [some (aR o), l1, l2] L2 St S = ev c 267 26 [some (aR o), l1, l2] L2 (aR o :: St) S := ev_go i267_25 rfl
theorem i267_26 : insAt 267 26 = some (.iload_n 2, 1, (0, 0, 0, 0), 0) := rfl
theorem s267_26 {c : Nat → List AV → SS → Option Out} {l0 l1 : Option AV} {x : Int32} {L2 : List (Nat × AV)} {St : List AV} {S : SS} : ev c 267 26 [l0, l1, some (aI x)] L2 St S = ev c 267 27 [l0, l1, some (aI x)] L2 (aI x :: St) S := ev_go i267_26 rfl
theorem i267_27 : insAt 267 27 = some (.invokevirtual 183, 3, (268, 1, 2, 12), 0) := rfl
theorem s267_27 {c : Nat → List AV → SS → Option Out} {l0 l1 l2 : Option AV} {a0 : Int32} {j t : Nat} {L2 : List (Nat × AV)} {S : SS} : ev c 267 27 [l0, l1, l2] L2 [aI a0, aR (12, j, t)] S = ck (c 268 [aR (12, j, t), aI a0] S) (fun v S' => ev c 267 30 [l0, l1, l2] L2 (v.toList ++ []) S') := ev_call i267_27 rfl
theorem i267_30 : insAt 267 30 = some (.iload_n 1, 1, (0, 0, 0, 0), 0) := rfl
theorem s267_30 {c : Nat → List AV → SS → Option Out} {l0 l2 : Option AV} {x : Int32} {L2 : List (Nat × AV)} {St : List AV} {S : SS} : ev c 267 30 [l0, some (aI x), l2] L2 St S = ev c 267 31 [l0, some (aI x), l2] L2 (aI x :: St) S := ev_go i267_30 rfl
theorem i267_31 : insAt 267 31 = some (.if_icmp .eq 9, 3, (0, 0, 0, 0), 0) := rfl
theorem s267_31 {c : Nat → List AV → SS → Option Out} {l0 l1 l2 : Option AV} {x y : Int32} {L2 : List (Nat × AV)} {St : List AV} {S : SS} : ev c 267 31 [l0, l1, l2] L2 (aI y :: aI x :: St) S = if x = y then ev c 267 40 [l0, l1, l2] L2 St S else ev c 267 34 [l0, l1, l2] L2 St S := ev_br i267_31 rfl
theorem i267_34 : insAt 267 34 = some (.iinc 2 1, 3, (0, 0, 0, 0), 0) := rfl
theorem s267_34 {c : Nat → List AV → SS → Option Out} {l0 l1 : Option AV} {x : Int32} {L2 : List (Nat × AV)} {St : List AV} {S : SS} : ev c 267 34 [l0, l1, some (aI x)] L2 St S = ev c 267 37 [l0, l1, some (aI (x + 1))] (kil L2 2) St S := ev_go i267_34 rfl
theorem i267_37 : insAt 267 37 = some (.goto (-12), 3, (0, 0, 0, 0), 0) := rfl
theorem s267_37 {c : Nat → List AV → SS → Option Out} {l0 l1 l2 : Option AV} {L2 : List (Nat × AV)} {St : List AV} {S : SS} : ev c 267 37 [l0, l1, l2] L2 St S = ev c 267 25 [l0, l1, l2] L2 St S := ev_go i267_37 rfl
theorem i267_40 : insAt 267 40 = some (.aload_n 0, 1, (0, 0, 0, 0), 0) := rfl
theorem s267_40 {c : Nat → List AV → SS → Option Out} {l1 l2 : Option AV} {o : OId} {L2 : List (Nat × AV)} {St : List AV} {S : SS} : ev c 267 40 [some (aR o), l1, l2] L2 St S = ev c 267 41 [some (aR o), l1, l2] L2 (aR o :: St) S := ev_go i267_40 rfl
theorem i267_41 : insAt 267 41 = some (.iload_n 2, 1, (0, 0, 0, 0), 0) := rfl
theorem s267_41 {c : Nat → List AV → SS → Option Out} {l0 l1 : Option AV} {x : Int32} {L2 : List (Nat × AV)} {St : List AV} {S : SS} : ev c 267 41 [l0, l1, some (aI x)] L2 St S = ev c 267 42 [l0, l1, some (aI x)] L2 (aI x :: St) S := ev_go i267_41 rfl
theorem i267_42 : insAt 267 42 = some (.iconst 0, 1, (0, 0, 0, 0), 0) := rfl
theorem s267_42 {c : Nat → List AV → SS → Option Out} {l0 l1 l2 : Option AV} {L2 : List (Nat × AV)} {St : List AV} {S : SS} : ev c 267 42 [l0, l1, l2] L2 St S = ev c 267 43 [l0, l1, l2] L2 (aI 0 :: St) S := ev_go i267_42 rfl
theorem i267_43 : insAt 267 43 = some (.invokevirtual 75, 3, (234, 2, 2, 12), 0) := rfl
theorem s267_43 {c : Nat → List AV → SS → Option Out} {l0 l1 l2 : Option AV} {a0 : Int32} {a1 : Int32} {j t : Nat} {L2 : List (Nat × AV)} {S : SS} : ev c 267 43 [l0, l1, l2] L2 [aI a1, aI a0, aR (12, j, t)] S = ck (c 234 [aR (12, j, t), aI a0, aI a1] S) (fun v S' => ev c 267 46 [l0, l1, l2] L2 (v.toList ++ []) S') := ev_call i267_43 rfl
theorem i267_46 : insAt 267 46 = some (.ireturn, 1, (0, 0, 0, 0), 0) := rfl
theorem s267_46 {c : Nat → List AV → SS → Option Out} {l0 l1 l2 : Option AV} {x : Int32} {L2 : List (Nat × AV)} {St : List AV} {S : SS} : ev c 267 46 [l0, l1, l2] L2 [aI x] S = some (.inl (some (aI x)), S) := ev_end i267_46 rfl
theorem m267 {d : Nat} {o : OId} {a0 : Int32} {S : SS} : evm (d + 1) 267 [aR o, aI a0] S = ev (evm d) 267 0 [some (aR o), some (aI a0), none] [] [] S := evm_s (n := 3) rfl (Nat.le_of_ble_eq_true rfl) rfl rfl
/-! FrequencyOfficeModel.aheadByExpiry(I)I -/
theorem i268_0 : insAt 268 0 = some (.iconst 0, 1, (0, 0, 0, 0), 0) := rfl
theorem s268_0 {c : Nat → List AV → SS → Option Out} {l0 l1 l2 l3 : Option AV} {L2 : List (Nat × AV)} {St : List AV} {S : SS} : ev c 268 0 [l0, l1, l2, l3] L2 St S = ev c 268 1 [l0, l1, l2, l3] L2 (aI 0 :: St) S := ev_go i268_0 rfl
theorem i268_1 : insAt 268 1 = some (.istore_n 2, 1, (0, 0, 0, 0), 0) := rfl
theorem s268_1 {c : Nat → List AV → SS → Option Out} {l0 l1 l2 l3 : Option AV} {x : Int32} {L2 : List (Nat × AV)} {St : List AV} {S : SS} : ev c 268 1 [l0, l1, l2, l3] L2 (aI x :: St) S = ev c 268 2 [l0, l1, some (aI x), l3] (kil L2 2) St S := ev_go i268_1 rfl
theorem i268_2 : insAt 268 2 = some (.iconst 0, 1, (0, 0, 0, 0), 0) := rfl
theorem s268_2 {c : Nat → List AV → SS → Option Out} {l0 l1 l2 l3 : Option AV} {L2 : List (Nat × AV)} {St : List AV} {S : SS} : ev c 268 2 [l0, l1, l2, l3] L2 St S = ev c 268 3 [l0, l1, l2, l3] L2 (aI 0 :: St) S := ev_go i268_2 rfl
theorem i268_3 : insAt 268 3 = some (.istore_n 3, 1, (0, 0, 0, 0), 0) := rfl
theorem s268_3 {c : Nat → List AV → SS → Option Out} {l0 l1 l2 l3 : Option AV} {x : Int32} {L2 : List (Nat × AV)} {St : List AV} {S : SS} : ev c 268 3 [l0, l1, l2, l3] L2 (aI x :: St) S = ev c 268 4 [l0, l1, l2, some (aI x)] (kil L2 3) St S := ev_go i268_3 rfl
theorem i268_4 : insAt 268 4 = some (.iload_n 3, 1, (0, 0, 0, 0), 0) := rfl
theorem s268_4 {c : Nat → List AV → SS → Option Out} {l0 l1 l2 : Option AV} {x : Int32} {L2 : List (Nat × AV)} {St : List AV} {S : SS} : ev c 268 4 [l0, l1, l2, some (aI x)] L2 St S = ev c 268 5 [l0, l1, l2, some (aI x)] L2 (aI x :: St) S := ev_go i268_4 rfl
theorem i268_5 : insAt 268 5 = some (.aload_n 0, 1, (0, 0, 0, 0), 0) := rfl
theorem s268_5 {c : Nat → List AV → SS → Option Out} {l1 l2 l3 : Option AV} {o : OId} {L2 : List (Nat × AV)} {St : List AV} {S : SS} : ev c 268 5 [some (aR o), l1, l2, l3] L2 St S = ev c 268 6 [some (aR o), l1, l2, l3] L2 (aR o :: St) S := ev_go i268_5 rfl
theorem i268_6 : insAt 268 6 = some (.getfield 7, 3, (12, 0, 0, 0), 0) := rfl
theorem s268_6 {c : Nat → List AV → SS → Option Out} {l0 l1 l2 l3 : Option AV} {j t : Nat} {L2 : List (Nat × AV)} {St : List AV} {S : SS} : ev c 268 6 [l0, l1, l2, l3] L2 (aR (12, j, t) :: St) S = ev c 268 9 [l0, l1, l2, l3] L2 (S.2.2.1 (12, j, t) 0 :: St) S := ev_go i268_6 rfl
theorem i268_9 : insAt 268 9 = some (.bipush 7, 2, (0, 0, 0, 0), 0) := rfl
theorem s268_9 {c : Nat → List AV → SS → Option Out} {l0 l1 l2 l3 : Option AV} {L2 : List (Nat × AV)} {St : List AV} {S : SS} : ev c 268 9 [l0, l1, l2, l3] L2 St S = ev c 268 11 [l0, l1, l2, l3] L2 (aI 7 :: St) S := ev_go i268_9 rfl
theorem i268_11 : insAt 268 11 = some (.iaload, 1, (0, 0, 0, 0), 0) := rfl
theorem s268_11 {c : Nat → List AV → SS → Option Out} {l0 l1 l2 l3 : Option AV} {i : Int32} {o : OId} {L2 : List (Nat × AV)} {St : List AV} {S : SS} : ev c 268 11 [l0, l1, l2, l3] L2 (aI i :: aR o :: St) S = kI o i (ev c 268 12 [l0, l1, l2, l3] L2 (aI (agI S o i.toNatClampNeg) :: St) S) := ev_iaload i268_11
theorem i268_12 : insAt 268 12 = some (.if_icmp .ge 52, 3, (0, 0, 0, 0), 0) := rfl
theorem s268_12 {c : Nat → List AV → SS → Option Out} {l0 l1 l2 l3 : Option AV} {x y : Int32} {L2 : List (Nat × AV)} {St : List AV} {S : SS} : ev c 268 12 [l0, l1, l2, l3] L2 (aI y :: aI x :: St) S = if y ≤ x then ev c 268 64 [l0, l1, l2, l3] L2 St S else ev c 268 15 [l0, l1, l2, l3] L2 St S := ev_br i268_12 rfl
theorem i268_15 : insAt 268 15 = some (.iload_n 2, 1, (0, 0, 0, 0), 0) := rfl
theorem s268_15 {c : Nat → List AV → SS → Option Out} {l0 l1 l3 : Option AV} {x : Int32} {L2 : List (Nat × AV)} {St : List AV} {S : SS} : ev c 268 15 [l0, l1, some (aI x), l3] L2 St S = ev c 268 16 [l0, l1, some (aI x), l3] L2 (aI x :: St) S := ev_go i268_15 rfl
theorem i268_16 : insAt 268 16 = some (.aload_n 0, 1, (0, 0, 0, 0), 0) := rfl
theorem s268_16 {c : Nat → List AV → SS → Option Out} {l1 l2 l3 : Option AV} {o : OId} {L2 : List (Nat × AV)} {St : List AV} {S : SS} : ev c 268 16 [some (aR o), l1, l2, l3] L2 St S = ev c 268 17 [some (aR o), l1, l2, l3] L2 (aR o :: St) S := ev_go i268_16 rfl
theorem i268_17 : insAt 268 17 = some (.iload_n 3, 1, (0, 0, 0, 0), 0) := rfl
theorem s268_17 {c : Nat → List AV → SS → Option Out} {l0 l1 l2 : Option AV} {x : Int32} {L2 : List (Nat × AV)} {St : List AV} {S : SS} : ev c 268 17 [l0, l1, l2, some (aI x)] L2 St S = ev c 268 18 [l0, l1, l2, some (aI x)] L2 (aI x :: St) S := ev_go i268_17 rfl
theorem i268_18 : insAt 268 18 = some (.iconst 4, 1, (0, 0, 0, 0), 0) := rfl
theorem s268_18 {c : Nat → List AV → SS → Option Out} {l0 l1 l2 l3 : Option AV} {L2 : List (Nat × AV)} {St : List AV} {S : SS} : ev c 268 18 [l0, l1, l2, l3] L2 St S = ev c 268 19 [l0, l1, l2, l3] L2 (aI 4 :: St) S := ev_go i268_18 rfl
theorem i268_19 : insAt 268 19 = some (.invokevirtual 75, 3, (234, 2, 2, 12), 0) := rfl
theorem s268_19 {c : Nat → List AV → SS → Option Out} {l0 l1 l2 l3 : Option AV} {t0 : AV} {a0 : Int32} {a1 : Int32} {j t : Nat} {L2 : List (Nat × AV)} {S : SS} : ev c 268 19 [l0, l1, l2, l3] L2 [aI a1, aI a0, aR (12, j, t), t0] S = ck (c 234 [aR (12, j, t), aI a0, aI a1] S) (fun v S' => ev c 268 22 [l0, l1, l2, l3] L2 (v.toList ++ [t0]) S') := ev_call i268_19 rfl
theorem i268_22 : insAt 268 22 = some (.aload_n 0, 1, (0, 0, 0, 0), 0) := rfl
theorem s268_22 {c : Nat → List AV → SS → Option Out} {l1 l2 l3 : Option AV} {o : OId} {L2 : List (Nat × AV)} {St : List AV} {S : SS} : ev c 268 22 [some (aR o), l1, l2, l3] L2 St S = ev c 268 23 [some (aR o), l1, l2, l3] L2 (aR o :: St) S := ev_go i268_22 rfl
theorem i268_23 : insAt 268 23 = some (.iload_n 1, 1, (0, 0, 0, 0), 0) := rfl
theorem s268_23 {c : Nat → List AV → SS → Option Out} {l0 l2 l3 : Option AV} {x : Int32} {L2 : List (Nat × AV)} {St : List AV} {S : SS} : ev c 268 23 [l0, some (aI x), l2, l3] L2 St S = ev c 268 24 [l0, some (aI x), l2, l3] L2 (aI x :: St) S := ev_go i268_23 rfl
theorem i268_24 : insAt 268 24 = some (.iconst 4, 1, (0, 0, 0, 0), 0) := rfl
theorem s268_24 {c : Nat → List AV → SS → Option Out} {l0 l1 l2 l3 : Option AV} {L2 : List (Nat × AV)} {St : List AV} {S : SS} : ev c 268 24 [l0, l1, l2, l3] L2 St S = ev c 268 25 [l0, l1, l2, l3] L2 (aI 4 :: St) S := ev_go i268_24 rfl
theorem i268_25 : insAt 268 25 = some (.invokevirtual 75, 3, (234, 2, 2, 12), 0) := rfl
theorem s268_25 {c : Nat → List AV → SS → Option Out} {l0 l1 l2 l3 : Option AV} {t0 t1 : AV} {a0 : Int32} {a1 : Int32} {j t : Nat} {L2 : List (Nat × AV)} {S : SS} : ev c 268 25 [l0, l1, l2, l3] L2 [aI a1, aI a0, aR (12, j, t), t0, t1] S = ck (c 234 [aR (12, j, t), aI a0, aI a1] S) (fun v S' => ev c 268 28 [l0, l1, l2, l3] L2 (v.toList ++ [t0, t1]) S') := ev_call i268_25 rfl
theorem i268_28 : insAt 268 28 = some (.if_icmp .lt 23, 3, (0, 0, 0, 0), 0) := rfl
theorem s268_28 {c : Nat → List AV → SS → Option Out} {l0 l1 l2 l3 : Option AV} {x y : Int32} {L2 : List (Nat × AV)} {St : List AV} {S : SS} : ev c 268 28 [l0, l1, l2, l3] L2 (aI y :: aI x :: St) S = if x < y then ev c 268 51 [l0, l1, l2, l3] L2 St S else ev c 268 31 [l0, l1, l2, l3] L2 St S := ev_br i268_28 rfl
theorem i268_31 : insAt 268 31 = some (.aload_n 0, 1, (0, 0, 0, 0), 0) := rfl
theorem s268_31 {c : Nat → List AV → SS → Option Out} {l1 l2 l3 : Option AV} {o : OId} {L2 : List (Nat × AV)} {St : List AV} {S : SS} : ev c 268 31 [some (aR o), l1, l2, l3] L2 St S = ev c 268 32 [some (aR o), l1, l2, l3] L2 (aR o :: St) S := ev_go i268_31 rfl
theorem i268_32 : insAt 268 32 = some (.iload_n 3, 1, (0, 0, 0, 0), 0) := rfl
theorem s268_32 {c : Nat → List AV → SS → Option Out} {l0 l1 l2 : Option AV} {x : Int32} {L2 : List (Nat × AV)} {St : List AV} {S : SS} : ev c 268 32 [l0, l1, l2, some (aI x)] L2 St S = ev c 268 33 [l0, l1, l2, some (aI x)] L2 (aI x :: St) S := ev_go i268_32 rfl
theorem i268_33 : insAt 268 33 = some (.iconst 4, 1, (0, 0, 0, 0), 0) := rfl
theorem s268_33 {c : Nat → List AV → SS → Option Out} {l0 l1 l2 l3 : Option AV} {L2 : List (Nat × AV)} {St : List AV} {S : SS} : ev c 268 33 [l0, l1, l2, l3] L2 St S = ev c 268 34 [l0, l1, l2, l3] L2 (aI 4 :: St) S := ev_go i268_33 rfl
theorem i268_34 : insAt 268 34 = some (.invokevirtual 75, 3, (234, 2, 2, 12), 0) := rfl
theorem s268_34 {c : Nat → List AV → SS → Option Out} {l0 l1 l2 l3 : Option AV} {t0 : AV} {a0 : Int32} {a1 : Int32} {j t : Nat} {L2 : List (Nat × AV)} {S : SS} : ev c 268 34 [l0, l1, l2, l3] L2 [aI a1, aI a0, aR (12, j, t), t0] S = ck (c 234 [aR (12, j, t), aI a0, aI a1] S) (fun v S' => ev c 268 37 [l0, l1, l2, l3] L2 (v.toList ++ [t0]) S') := ev_call i268_34 rfl
theorem i268_37 : insAt 268 37 = some (.aload_n 0, 1, (0, 0, 0, 0), 0) := rfl
theorem s268_37 {c : Nat → List AV → SS → Option Out} {l1 l2 l3 : Option AV} {o : OId} {L2 : List (Nat × AV)} {St : List AV} {S : SS} : ev c 268 37 [some (aR o), l1, l2, l3] L2 St S = ev c 268 38 [some (aR o), l1, l2, l3] L2 (aR o :: St) S := ev_go i268_37 rfl
theorem i268_38 : insAt 268 38 = some (.iload_n 1, 1, (0, 0, 0, 0), 0) := rfl
theorem s268_38 {c : Nat → List AV → SS → Option Out} {l0 l2 l3 : Option AV} {x : Int32} {L2 : List (Nat × AV)} {St : List AV} {S : SS} : ev c 268 38 [l0, some (aI x), l2, l3] L2 St S = ev c 268 39 [l0, some (aI x), l2, l3] L2 (aI x :: St) S := ev_go i268_38 rfl
theorem i268_39 : insAt 268 39 = some (.iconst 4, 1, (0, 0, 0, 0), 0) := rfl
theorem s268_39 {c : Nat → List AV → SS → Option Out} {l0 l1 l2 l3 : Option AV} {L2 : List (Nat × AV)} {St : List AV} {S : SS} : ev c 268 39 [l0, l1, l2, l3] L2 St S = ev c 268 40 [l0, l1, l2, l3] L2 (aI 4 :: St) S := ev_go i268_39 rfl
theorem i268_40 : insAt 268 40 = some (.invokevirtual 75, 3, (234, 2, 2, 12), 0) := rfl
theorem s268_40 {c : Nat → List AV → SS → Option Out} {l0 l1 l2 l3 : Option AV} {t0 t1 : AV} {a0 : Int32} {a1 : Int32} {j t : Nat} {L2 : List (Nat × AV)} {S : SS} : ev c 268 40 [l0, l1, l2, l3] L2 [aI a1, aI a0, aR (12, j, t), t0, t1] S = ck (c 234 [aR (12, j, t), aI a0, aI a1] S) (fun v S' => ev c 268 43 [l0, l1, l2, l3] L2 (v.toList ++ [t0, t1]) S') := ev_call i268_40 rfl
theorem i268_43 : insAt 268 43 = some (.if_icmp .ne 12, 3, (0, 0, 0, 0), 0) := rfl
theorem s268_43 {c : Nat → List AV → SS → Option Out} {l0 l1 l2 l3 : Option AV} {x y : Int32} {L2 : List (Nat × AV)} {St : List AV} {S : SS} : ev c 268 43 [l0, l1, l2, l3] L2 (aI y :: aI x :: St) S = if x = y then ev c 268 46 [l0, l1, l2, l3] L2 St S else ev c 268 55 [l0, l1, l2, l3] L2 St S := (ev_br i268_43 rfl).trans (ite_not _ _ _)
theorem i268_46 : insAt 268 46 = some (.iload_n 3, 1, (0, 0, 0, 0), 0) := rfl
theorem s268_46 {c : Nat → List AV → SS → Option Out} {l0 l1 l2 : Option AV} {x : Int32} {L2 : List (Nat × AV)} {St : List AV} {S : SS} : ev c 268 46 [l0, l1, l2, some (aI x)] L2 St S = ev c 268 47 [l0, l1, l2, some (aI x)] L2 (aI x :: St) S := ev_go i268_46 rfl
theorem i268_47 : insAt 268 47 = some (.iload_n 1, 1, (0, 0, 0, 0), 0) := rfl
theorem s268_47 {c : Nat → List AV → SS → Option Out} {l0 l2 l3 : Option AV} {x : Int32} {L2 : List (Nat × AV)} {St : List AV} {S : SS} : ev c 268 47 [l0, some (aI x), l2, l3] L2 St S = ev c 268 48 [l0, some (aI x), l2, l3] L2 (aI x :: St) S := ev_go i268_47 rfl
theorem i268_48 : insAt 268 48 = some (.if_icmp .ge 7, 3, (0, 0, 0, 0), 0) := rfl
theorem s268_48 {c : Nat → List AV → SS → Option Out} {l0 l1 l2 l3 : Option AV} {x y : Int32} {L2 : List (Nat × AV)} {St : List AV} {S : SS} : ev c 268 48 [l0, l1, l2, l3] L2 (aI y :: aI x :: St) S = if y ≤ x then ev c 268 55 [l0, l1, l2, l3] L2 St S else ev c 268 51 [l0, l1, l2, l3] L2 St S := ev_br i268_48 rfl
theorem i268_51 : insAt 268 51 = some (.iconst 1, 1, (0, 0, 0, 0), 0) := rfl
theorem s268_51 {c : Nat → List AV → SS → Option Out} {l0 l1 l2 l3 : Option AV} {L2 : List (Nat × AV)} {St : List AV} {S : SS} : ev c 268 51 [l0, l1, l2, l3] L2 St S = ev c 268 52 [l0, l1, l2, l3] L2 (aI 1 :: St) S := ev_go i268_51 rfl
theorem i268_52 : insAt 268 52 = some (.goto 4, 3, (0, 0, 0, 0), 0) := rfl
theorem s268_52 {c : Nat → List AV → SS → Option Out} {l0 l1 l2 l3 : Option AV} {L2 : List (Nat × AV)} {St : List AV} {S : SS} : ev c 268 52 [l0, l1, l2, l3] L2 St S = ev c 268 56 [l0, l1, l2, l3] L2 St S := ev_go i268_52 rfl
theorem i268_55 : insAt 268 55 = some (.iconst 0, 1, (0, 0, 0, 0), 0) := rfl
theorem s268_55 {c : Nat → List AV → SS → Option Out} {l0 l1 l2 l3 : Option AV} {L2 : List (Nat × AV)} {St : List AV} {S : SS} : ev c 268 55 [l0, l1, l2, l3] L2 St S = ev c 268 56 [l0, l1, l2, l3] L2 (aI 0 :: St) S := ev_go i268_55 rfl
theorem i268_56 : insAt 268 56 = some (.iadd, 1, (0, 0, 0, 0), 0) := rfl
theorem s268_56 {c : Nat → List AV → SS → Option Out} {l0 l1 l2 l3 : Option AV} {x y : Int32} {L2 : List (Nat × AV)} {St : List AV} {S : SS} : ev c 268 56 [l0, l1, l2, l3] L2 (aI y :: aI x :: St) S = ev c 268 57 [l0, l1, l2, l3] L2 (aI (x + y) :: St) S := ev_go i268_56 rfl
theorem i268_57 : insAt 268 57 = some (.istore_n 2, 1, (0, 0, 0, 0), 0) := rfl
theorem s268_57 {c : Nat → List AV → SS → Option Out} {l0 l1 l2 l3 : Option AV} {x : Int32} {L2 : List (Nat × AV)} {St : List AV} {S : SS} : ev c 268 57 [l0, l1, l2, l3] L2 (aI x :: St) S = ev c 268 58 [l0, l1, some (aI x), l3] (kil L2 2) St S := ev_go i268_57 rfl
theorem i268_58 : insAt 268 58 = some (.iinc 3 1, 3, (0, 0, 0, 0), 0) := rfl
theorem s268_58 {c : Nat → List AV → SS → Option Out} {l0 l1 l2 : Option AV} {x : Int32} {L2 : List (Nat × AV)} {St : List AV} {S : SS} : ev c 268 58 [l0, l1, l2, some (aI x)] L2 St S = ev c 268 61 [l0, l1, l2, some (aI (x + 1))] (kil L2 3) St S := ev_go i268_58 rfl
theorem i268_61 : insAt 268 61 = some (.goto (-57), 3, (0, 0, 0, 0), 0) := rfl
theorem s268_61 {c : Nat → List AV → SS → Option Out} {l0 l1 l2 l3 : Option AV} {L2 : List (Nat × AV)} {St : List AV} {S : SS} : ev c 268 61 [l0, l1, l2, l3] L2 St S = ev c 268 4 [l0, l1, l2, l3] L2 St S := ev_go i268_61 rfl
theorem i268_64 : insAt 268 64 = some (.iload_n 2, 1, (0, 0, 0, 0), 0) := rfl
theorem s268_64 {c : Nat → List AV → SS → Option Out} {l0 l1 l3 : Option AV} {x : Int32} {L2 : List (Nat × AV)} {St : List AV} {S : SS} : ev c 268 64 [l0, l1, some (aI x), l3] L2 St S = ev c 268 65 [l0, l1, some (aI x), l3] L2 (aI x :: St) S := ev_go i268_64 rfl
theorem i268_65 : insAt 268 65 = some (.ireturn, 1, (0, 0, 0, 0), 0) := rfl
theorem s268_65 {c : Nat → List AV → SS → Option Out} {l0 l1 l2 l3 : Option AV} {x : Int32} {L2 : List (Nat × AV)} {St : List AV} {S : SS} : ev c 268 65 [l0, l1, l2, l3] L2 [aI x] S = some (.inl (some (aI x)), S) := ev_end i268_65 rfl
theorem m268 {d : Nat} {o : OId} {a0 : Int32} {S : SS} : evm (d + 1) 268 [aR o, aI a0] S = ev (evm d) 268 0 [some (aR o), some (aI a0), none, none] [] [] S := evm_s (n := 4) rfl (Nat.le_of_ble_eq_true rfl) rfl rfl
/-! FrequencyOfficeModel.xOf(I)I -/
theorem i269_0 : insAt 269 0 = some (.aload_n 0, 1, (0, 0, 0, 0), 0) := rfl
theorem s269_0 {c : Nat → List AV → SS → Option Out} {l1 : Option AV} {o : OId} {L2 : List (Nat × AV)} {St : List AV} {S : SS} : ev c 269 0 [some (aR o), l1] L2 St S = ev c 269 1 [some (aR o), l1] L2 (aR o :: St) S := ev_go i269_0 rfl
theorem i269_1 : insAt 269 1 = some (.iload_n 1, 1, (0, 0, 0, 0), 0) := rfl
theorem s269_1 {c : Nat → List AV → SS → Option Out} {l0 : Option AV} {x : Int32} {L2 : List (Nat × AV)} {St : List AV} {S : SS} : ev c 269 1 [l0, some (aI x)] L2 St S = ev c 269 2 [l0, some (aI x)] L2 (aI x :: St) S := ev_go i269_1 rfl
theorem i269_2 : insAt 269 2 = some (.iconst 1, 1, (0, 0, 0, 0), 0) := rfl
theorem s269_2 {c : Nat → List AV → SS → Option Out} {l0 l1 : Option AV} {L2 : List (Nat × AV)} {St : List AV} {S : SS} : ev c 269 2 [l0, l1] L2 St S = ev c 269 3 [l0, l1] L2 (aI 1 :: St) S := ev_go i269_2 rfl
theorem i269_3 : insAt 269 3 = some (.invokevirtual 186, 3, (270, 2, 2, 12), 0) := rfl
theorem s269_3 {c : Nat → List AV → SS → Option Out} {l0 l1 : Option AV} {a0 : Int32} {a1 : Int32} {j t : Nat} {L2 : List (Nat × AV)} {S : SS} : ev c 269 3 [l0, l1] L2 [aI a1, aI a0, aR (12, j, t)] S = ck (c 270 [aR (12, j, t), aI a0, aI a1] S) (fun v S' => ev c 269 6 [l0, l1] L2 (v.toList ++ []) S') := ev_call i269_3 rfl
theorem i269_6 : insAt 269 6 = some (.ireturn, 1, (0, 0, 0, 0), 0) := rfl
theorem s269_6 {c : Nat → List AV → SS → Option Out} {l0 l1 : Option AV} {x : Int32} {L2 : List (Nat × AV)} {St : List AV} {S : SS} : ev c 269 6 [l0, l1] L2 [aI x] S = some (.inl (some (aI x)), S) := ev_end i269_6 rfl
theorem m269 {d : Nat} {o : OId} {a0 : Int32} {S : SS} : evm (d + 1) 269 [aR o, aI a0] S = ev (evm d) 269 0 [some (aR o), some (aI a0)] [] [] S := evm_s (n := 2) rfl (Nat.le_of_ble_eq_true rfl) rfl rfl
/-! FrequencyOfficeModel.asked(II)I -/
theorem i270_0 : insAt 270 0 = some (.aload_n 0, 1, (0, 0, 0, 0), 0) := rfl
theorem s270_0 {c : Nat → List AV → SS → Option Out} {l1 l2 : Option AV} {o : OId} {L2 : List (Nat × AV)} {St : List AV} {S : SS} : ev c 270 0 [some (aR o), l1, l2] L2 St S = ev c 270 1 [some (aR o), l1, l2] L2 (aR o :: St) S := ev_go i270_0 rfl
theorem i270_1 : insAt 270 1 = some (.aload_n 0, 1, (0, 0, 0, 0), 0) := rfl
theorem s270_1 {c : Nat → List AV → SS → Option Out} {l1 l2 : Option AV} {o : OId} {L2 : List (Nat × AV)} {St : List AV} {S : SS} : ev c 270 1 [some (aR o), l1, l2] L2 St S = ev c 270 2 [some (aR o), l1, l2] L2 (aR o :: St) S := ev_go i270_1 rfl
theorem i270_2 : insAt 270 2 = some (.iload_n 1, 1, (0, 0, 0, 0), 0) := rfl
theorem s270_2 {c : Nat → List AV → SS → Option Out} {l0 l2 : Option AV} {x : Int32} {L2 : List (Nat × AV)} {St : List AV} {S : SS} : ev c 270 2 [l0, some (aI x), l2] L2 St S = ev c 270 3 [l0, some (aI x), l2] L2 (aI x :: St) S := ev_go i270_2 rfl
theorem i270_3 : insAt 270 3 = some (.invokevirtual 173, 3, (256, 1, 2, 12), 0) := rfl
theorem s270_3 {c : Nat → List AV → SS → Option Out} {l0 l1 l2 : Option AV} {t0 : AV} {a0 : Int32} {j t : Nat} {L2 : List (Nat × AV)} {S : SS} : ev c 270 3 [l0, l1, l2] L2 [aI a0, aR (12, j, t), t0] S = ck (c 256 [aR (12, j, t), aI a0] S) (fun v S' => ev c 270 6 [l0, l1, l2] L2 (v.toList ++ [t0]) S') := ev_call i270_3 rfl
theorem i270_6 : insAt 270 6 = some (.ifCond .lt 7, 3, (0, 0, 0, 0), 0) := rfl
theorem s270_6 {c : Nat → List AV → SS → Option Out} {l0 l1 l2 : Option AV} {x : Int32} {L2 : List (Nat × AV)} {St : List AV} {S : SS} : ev c 270 6 [l0, l1, l2] L2 (aI x :: St) S = if x < 0 then ev c 270 13 [l0, l1, l2] L2 St S else ev c 270 9 [l0, l1, l2] L2 St S := ev_br i270_6 rfl
theorem i270_9 : insAt 270 9 = some (.iconst 1, 1, (0, 0, 0, 0), 0) := rfl
theorem s270_9 {c : Nat → List AV → SS → Option Out} {l0 l1 l2 : Option AV} {L2 : List (Nat × AV)} {St : List AV} {S : SS} : ev c 270 9 [l0, l1, l2] L2 St S = ev c 270 10 [l0, l1, l2] L2 (aI 1 :: St) S := ev_go i270_9 rfl
theorem i270_10 : insAt 270 10 = some (.goto 4, 3, (0, 0, 0, 0), 0) := rfl
theorem s270_10 {c : Nat → List AV → SS → Option Out} {l0 l1 l2 : Option AV} {L2 : List (Nat × AV)} {St : List AV} {S : SS} : ev c 270 10 [l0, l1, l2] L2 St S = ev c 270 14 [l0, l1, l2] L2 St S := ev_go i270_10 rfl
theorem i270_13 : insAt 270 13 = some (.iconst 0, 1, (0, 0, 0, 0), 0) := rfl
theorem s270_13 {c : Nat → List AV → SS → Option Out} {l0 l1 l2 : Option AV} {L2 : List (Nat × AV)} {St : List AV} {S : SS} : ev c 270 13 [l0, l1, l2] L2 St S = ev c 270 14 [l0, l1, l2] L2 (aI 0 :: St) S := ev_go i270_13 rfl
theorem i270_14 : insAt 270 14 = some (.invokevirtual 176, 3, (259, 1, 2, 12), 0) := rfl
theorem s270_14 {c : Nat → List AV → SS → Option Out} {l0 l1 l2 : Option AV} {a0 : Int32} {j t : Nat} {L2 : List (Nat × AV)} {S : SS} : ev c 270 14 [l0, l1, l2] L2 [aI a0, aR (12, j, t)] S = ck (c 259 [aR (12, j, t), aI a0] S) (fun v S' => ev c 270 17 [l0, l1, l2] L2 (v.toList ++ []) S') := ev_call i270_14 rfl
theorem i270_17 : insAt 270 17 = some (.ifCond .le 7, 3, (0, 0, 0, 0), 0) := rfl
theorem s270_17 {c : Nat → List AV → SS → Option Out} {l0 l1 l2 : Option AV} {x : Int32} {L2 : List (Nat × AV)} {St : List AV} {S : SS} : ev c 270 17 [l0, l1, l2] L2 (aI x :: St) S = if x ≤ 0 then ev c 270 24 [l0, l1, l2] L2 St S else ev c 270 20 [l0, l1, l2] L2 St S := ev_br i270_17 rfl
theorem i270_20 : insAt 270 20 = some (.iconst 0, 1, (0, 0, 0, 0), 0) := rfl
theorem s270_20 {c : Nat → List AV → SS → Option Out} {l0 l1 l2 : Option AV} {L2 : List (Nat × AV)} {St : List AV} {S : SS} : ev c 270 20 [l0, l1, l2] L2 St S = ev c 270 21 [l0, l1, l2] L2 (aI 0 :: St) S := ev_go i270_20 rfl
theorem i270_21 : insAt 270 21 = some (.goto 13, 3, (0, 0, 0, 0), 0) := rfl
theorem s270_21 {c : Nat → List AV → SS → Option Out} {l0 l1 l2 : Option AV} {L2 : List (Nat × AV)} {St : List AV} {S : SS} : ev c 270 21 [l0, l1, l2] L2 St S = ev c 270 34 [l0, l1, l2] L2 St S := ev_go i270_21 rfl
theorem i270_24 : insAt 270 24 = some (.aload_n 0, 1, (0, 0, 0, 0), 0) := rfl
theorem s270_24 {c : Nat → List AV → SS → Option Out} {l1 l2 : Option AV} {o : OId} {L2 : List (Nat × AV)} {St : List AV} {S : SS} : ev c 270 24 [some (aR o), l1, l2] L2 St S = ev c 270 25 [some (aR o), l1, l2] L2 (aR o :: St) S := ev_go i270_24 rfl
theorem i270_25 : insAt 270 25 = some (.aload_n 0, 1, (0, 0, 0, 0), 0) := rfl
theorem s270_25 {c : Nat → List AV → SS → Option Out} {l1 l2 : Option AV} {o : OId} {L2 : List (Nat × AV)} {St : List AV} {S : SS} : ev c 270 25 [some (aR o), l1, l2] L2 St S = ev c 270 26 [some (aR o), l1, l2] L2 (aR o :: St) S := ev_go i270_25 rfl
theorem i270_26 : insAt 270 26 = some (.iload_n 1, 1, (0, 0, 0, 0), 0) := rfl
theorem s270_26 {c : Nat → List AV → SS → Option Out} {l0 l2 : Option AV} {x : Int32} {L2 : List (Nat × AV)} {St : List AV} {S : SS} : ev c 270 26 [l0, some (aI x), l2] L2 St S = ev c 270 27 [l0, some (aI x), l2] L2 (aI x :: St) S := ev_go i270_26 rfl
theorem i270_27 : insAt 270 27 = some (.invokevirtual 173, 3, (256, 1, 2, 12), 0) := rfl
theorem s270_27 {c : Nat → List AV → SS → Option Out} {l0 l1 l2 : Option AV} {t0 : AV} {a0 : Int32} {j t : Nat} {L2 : List (Nat × AV)} {S : SS} : ev c 270 27 [l0, l1, l2] L2 [aI a0, aR (12, j, t), t0] S = ck (c 256 [aR (12, j, t), aI a0] S) (fun v S' => ev c 270 30 [l0, l1, l2] L2 (v.toList ++ [t0]) S') := ev_call i270_27 rfl
theorem i270_30 : insAt 270 30 = some (.iload_n 2, 1, (0, 0, 0, 0), 0) := rfl
theorem s270_30 {c : Nat → List AV → SS → Option Out} {l0 l1 : Option AV} {x : Int32} {L2 : List (Nat × AV)} {St : List AV} {S : SS} : ev c 270 30 [l0, l1, some (aI x)] L2 St S = ev c 270 31 [l0, l1, some (aI x)] L2 (aI x :: St) S := ev_go i270_30 rfl
theorem i270_31 : insAt 270 31 = some (.invokevirtual 75, 3, (234, 2, 2, 12), 0) := rfl
theorem s270_31 {c : Nat → List AV → SS → Option Out} {l0 l1 l2 : Option AV} {a0 : Int32} {a1 : Int32} {j t : Nat} {L2 : List (Nat × AV)} {S : SS} : ev c 270 31 [l0, l1, l2] L2 [aI a1, aI a0, aR (12, j, t)] S = ck (c 234 [aR (12, j, t), aI a0, aI a1] S) (fun v S' => ev c 270 34 [l0, l1, l2] L2 (v.toList ++ []) S') := ev_call i270_31 rfl
theorem i270_34 : insAt 270 34 = some (.ireturn, 1, (0, 0, 0, 0), 0) := rfl
theorem s270_34 {c : Nat → List AV → SS → Option Out} {l0 l1 l2 : Option AV} {x : Int32} {L2 : List (Nat × AV)} {St : List AV} {S : SS} : ev c 270 34 [l0, l1, l2] L2 [aI x] S = some (.inl (some (aI x)), S) := ev_end i270_34 rfl
theorem m270 {d : Nat} {o : OId} {a0 : Int32} {a1 : Int32} {S : SS} : evm (d + 1) 270 [aR o, aI a0, aI a1] S = ev (evm d) 270 0 [some (aR o), some (aI a0), some (aI a1)] [] [] S := evm_s (n := 3) rfl (Nat.le_of_ble_eq_true rfl) rfl rfl
/-! FrequencyOfficeModel.yOf(I)I -/
theorem i271_0 : insAt 271 0 = some (.aload_n 0, 1, (0, 0, 0, 0), 0) := rfl
theorem s271_0 {c : Nat → List AV → SS → Option Out} {l1 : Option AV} {o : OId} {L2 : List (Nat × AV)} {St : List AV} {S : SS} : ev c 271 0 [some (aR o), l1] L2 St S = ev c 271 1 [some (aR o), l1] L2 (aR o :: St) S := ev_go i271_0 rfl
theorem i271_1 : insAt 271 1 = some (.iload_n 1, 1, (0, 0, 0, 0), 0) := rfl
theorem s271_1 {c : Nat → List AV → SS → Option Out} {l0 : Option AV} {x : Int32} {L2 : List (Nat × AV)} {St : List AV} {S : SS} : ev c 271 1 [l0, some (aI x)] L2 St S = ev c 271 2 [l0, some (aI x)] L2 (aI x :: St) S := ev_go i271_1 rfl
theorem i271_2 : insAt 271 2 = some (.iconst 2, 1, (0, 0, 0, 0), 0) := rfl
theorem s271_2 {c : Nat → List AV → SS → Option Out} {l0 l1 : Option AV} {L2 : List (Nat × AV)} {St : List AV} {S : SS} : ev c 271 2 [l0, l1] L2 St S = ev c 271 3 [l0, l1] L2 (aI 2 :: St) S := ev_go i271_2 rfl
theorem i271_3 : insAt 271 3 = some (.invokevirtual 186, 3, (270, 2, 2, 12), 0) := rfl
theorem s271_3 {c : Nat → List AV → SS → Option Out} {l0 l1 : Option AV} {a0 : Int32} {a1 : Int32} {j t : Nat} {L2 : List (Nat × AV)} {S : SS} : ev c 271 3 [l0, l1] L2 [aI a1, aI a0, aR (12, j, t)] S = ck (c 270 [aR (12, j, t), aI a0, aI a1] S) (fun v S' => ev c 271 6 [l0, l1] L2 (v.toList ++ []) S') := ev_call i271_3 rfl
theorem i271_6 : insAt 271 6 = some (.ireturn, 1, (0, 0, 0, 0), 0) := rfl
theorem s271_6 {c : Nat → List AV → SS → Option Out} {l0 l1 : Option AV} {x : Int32} {L2 : List (Nat × AV)} {St : List AV} {S : SS} : ev c 271 6 [l0, l1] L2 [aI x] S = some (.inl (some (aI x)), S) := ev_end i271_6 rfl
theorem m271 {d : Nat} {o : OId} {a0 : Int32} {S : SS} : evm (d + 1) 271 [aR o, aI a0] S = ev (evm d) 271 0 [some (aR o), some (aI a0)] [] [] S := evm_s (n := 2) rfl (Nat.le_of_ble_eq_true rfl) rfl rfl
/-! FrequencyOfficeModel.channelOf(I)I -/
theorem i272_0 : insAt 272 0 = some (.aload_n 0, 1, (0, 0, 0, 0), 0) := rfl
theorem s272_0 {c : Nat → List AV → SS → Option Out} {l1 : Option AV} {o : OId} {L2 : List (Nat × AV)} {St : List AV} {S : SS} : ev c 272 0 [some (aR o), l1] L2 St S = ev c 272 1 [some (aR o), l1] L2 (aR o :: St) S := ev_go i272_0 rfl
theorem i272_1 : insAt 272 1 = some (.iload_n 1, 1, (0, 0, 0, 0), 0) := rfl
theorem s272_1 {c : Nat → List AV → SS → Option Out} {l0 : Option AV} {x : Int32} {L2 : List (Nat × AV)} {St : List AV} {S : SS} : ev c 272 1 [l0, some (aI x)] L2 St S = ev c 272 2 [l0, some (aI x)] L2 (aI x :: St) S := ev_go i272_1 rfl
theorem i272_2 : insAt 272 2 = some (.iconst 3, 1, (0, 0, 0, 0), 0) := rfl
theorem s272_2 {c : Nat → List AV → SS → Option Out} {l0 l1 : Option AV} {L2 : List (Nat × AV)} {St : List AV} {S : SS} : ev c 272 2 [l0, l1] L2 St S = ev c 272 3 [l0, l1] L2 (aI 3 :: St) S := ev_go i272_2 rfl
theorem i272_3 : insAt 272 3 = some (.invokevirtual 186, 3, (270, 2, 2, 12), 0) := rfl
theorem s272_3 {c : Nat → List AV → SS → Option Out} {l0 l1 : Option AV} {a0 : Int32} {a1 : Int32} {j t : Nat} {L2 : List (Nat × AV)} {S : SS} : ev c 272 3 [l0, l1] L2 [aI a1, aI a0, aR (12, j, t)] S = ck (c 270 [aR (12, j, t), aI a0, aI a1] S) (fun v S' => ev c 272 6 [l0, l1] L2 (v.toList ++ []) S') := ev_call i272_3 rfl
theorem i272_6 : insAt 272 6 = some (.ireturn, 1, (0, 0, 0, 0), 0) := rfl
theorem s272_6 {c : Nat → List AV → SS → Option Out} {l0 l1 : Option AV} {x : Int32} {L2 : List (Nat × AV)} {St : List AV} {S : SS} : ev c 272 6 [l0, l1] L2 [aI x] S = some (.inl (some (aI x)), S) := ev_end i272_6 rfl
theorem m272 {d : Nat} {o : OId} {a0 : Int32} {S : SS} : evm (d + 1) 272 [aR o, aI a0] S = ev (evm d) 272 0 [some (aR o), some (aI a0)] [] [] S := evm_s (n := 2) rfl (Nat.le_of_ble_eq_true rfl) rfl rfl
/-! FrequencyOfficeModel.expiryOf(I)I -/
theorem i273_0 : insAt 273 0 = some (.aload_n 0, 1, (0, 0, 0, 0), 0) := rfl
theorem s273_0 {c : Nat → List AV → SS → Option Out} {l1 : Option AV} {o : OId} {L2 : List (Nat × AV)} {St : List AV} {S : SS} : ev c 273 0 [some (aR o), l1] L2 St S = ev c 273 1 [some (aR o), l1] L2 (aR o :: St) S := ev_go i273_0 rfl
theorem i273_1 : insAt 273 1 = some (.iload_n 1, 1, (0, 0, 0, 0), 0) := rfl
theorem s273_1 {c : Nat → List AV → SS → Option Out} {l0 : Option AV} {x : Int32} {L2 : List (Nat × AV)} {St : List AV} {S : SS} : ev c 273 1 [l0, some (aI x)] L2 St S = ev c 273 2 [l0, some (aI x)] L2 (aI x :: St) S := ev_go i273_1 rfl
theorem i273_2 : insAt 273 2 = some (.iconst 4, 1, (0, 0, 0, 0), 0) := rfl
theorem s273_2 {c : Nat → List AV → SS → Option Out} {l0 l1 : Option AV} {L2 : List (Nat × AV)} {St : List AV} {S : SS} : ev c 273 2 [l0, l1] L2 St S = ev c 273 3 [l0, l1] L2 (aI 4 :: St) S := ev_go i273_2 rfl
theorem i273_3 : insAt 273 3 = some (.invokevirtual 186, 3, (270, 2, 2, 12), 0) := rfl
theorem s273_3 {c : Nat → List AV → SS → Option Out} {l0 l1 : Option AV} {a0 : Int32} {a1 : Int32} {j t : Nat} {L2 : List (Nat × AV)} {S : SS} : ev c 273 3 [l0, l1] L2 [aI a1, aI a0, aR (12, j, t)] S = ck (c 270 [aR (12, j, t), aI a0, aI a1] S) (fun v S' => ev c 273 6 [l0, l1] L2 (v.toList ++ []) S') := ev_call i273_3 rfl
theorem i273_6 : insAt 273 6 = some (.ireturn, 1, (0, 0, 0, 0), 0) := rfl
theorem s273_6 {c : Nat → List AV → SS → Option Out} {l0 l1 : Option AV} {x : Int32} {L2 : List (Nat × AV)} {St : List AV} {S : SS} : ev c 273 6 [l0, l1] L2 [aI x] S = some (.inl (some (aI x)), S) := ev_end i273_6 rfl
theorem m273 {d : Nat} {o : OId} {a0 : Int32} {S : SS} : evm (d + 1) 273 [aR o, aI a0] S = ev (evm d) 273 0 [some (aR o), some (aI a0)] [] [] S := evm_s (n := 2) rfl (Nat.le_of_ble_eq_true rfl) rfl rfl
/-! FrequencyOfficeModel.isOnTrial(I)Z -/
theorem i274_0 : insAt 274 0 = some (.aload_n 0, 1, (0, 0, 0, 0), 0) := rfl
theorem s274_0 {c : Nat → List AV → SS → Option Out} {l1 : Option AV} {o : OId} {L2 : List (Nat × AV)} {St : List AV} {S : SS} : ev c 274 0 [some (aR o), l1] L2 St S = ev c 274 1 [some (aR o), l1] L2 (aR o :: St) S := ev_go i274_0 rfl
theorem i274_1 : insAt 274 1 = some (.aload_n 0, 1, (0, 0, 0, 0), 0) := rfl
theorem s274_1 {c : Nat → List AV → SS → Option Out} {l1 : Option AV} {o : OId} {L2 : List (Nat × AV)} {St : List AV} {S : SS} : ev c 274 1 [some (aR o), l1] L2 St S = ev c 274 2 [some (aR o), l1] L2 (aR o :: St) S := ev_go i274_1 rfl
theorem i274_2 : insAt 274 2 = some (.iload_n 1, 1, (0, 0, 0, 0), 0) := rfl
theorem s274_2 {c : Nat → List AV → SS → Option Out} {l0 : Option AV} {x : Int32} {L2 : List (Nat × AV)} {St : List AV} {S : SS} : ev c 274 2 [l0, some (aI x)] L2 St S = ev c 274 3 [l0, some (aI x)] L2 (aI x :: St) S := ev_go i274_2 rfl
theorem i274_3 : insAt 274 3 = some (.invokevirtual 173, 3, (256, 1, 2, 12), 0) := rfl
theorem s274_3 {c : Nat → List AV → SS → Option Out} {l0 l1 : Option AV} {t0 : AV} {a0 : Int32} {j t : Nat} {L2 : List (Nat × AV)} {S : SS} : ev c 274 3 [l0, l1] L2 [aI a0, aR (12, j, t), t0] S = ck (c 256 [aR (12, j, t), aI a0] S) (fun v S' => ev c 274 6 [l0, l1] L2 (v.toList ++ [t0]) S') := ev_call i274_3 rfl
theorem i274_6 : insAt 274 6 = some (.ifCond .lt 7, 3, (0, 0, 0, 0), 0) := rfl
theorem s274_6 {c : Nat → List AV → SS → Option Out} {l0 l1 : Option AV} {x : Int32} {L2 : List (Nat × AV)} {St : List AV} {S : SS} : ev c 274 6 [l0, l1] L2 (aI x :: St) S = if x < 0 then ev c 274 13 [l0, l1] L2 St S else ev c 274 9 [l0, l1] L2 St S := ev_br i274_6 rfl
theorem i274_9 : insAt 274 9 = some (.iconst 1, 1, (0, 0, 0, 0), 0) := rfl
theorem s274_9 {c : Nat → List AV → SS → Option Out} {l0 l1 : Option AV} {L2 : List (Nat × AV)} {St : List AV} {S : SS} : ev c 274 9 [l0, l1] L2 St S = ev c 274 10 [l0, l1] L2 (aI 1 :: St) S := ev_go i274_9 rfl
theorem i274_10 : insAt 274 10 = some (.goto 4, 3, (0, 0, 0, 0), 0) := rfl
theorem s274_10 {c : Nat → List AV → SS → Option Out} {l0 l1 : Option AV} {L2 : List (Nat × AV)} {St : List AV} {S : SS} : ev c 274 10 [l0, l1] L2 St S = ev c 274 14 [l0, l1] L2 St S := ev_go i274_10 rfl
theorem i274_13 : insAt 274 13 = some (.iconst 0, 1, (0, 0, 0, 0), 0) := rfl
theorem s274_13 {c : Nat → List AV → SS → Option Out} {l0 l1 : Option AV} {L2 : List (Nat × AV)} {St : List AV} {S : SS} : ev c 274 13 [l0, l1] L2 St S = ev c 274 14 [l0, l1] L2 (aI 0 :: St) S := ev_go i274_13 rfl
theorem i274_14 : insAt 274 14 = some (.invokevirtual 176, 3, (259, 1, 2, 12), 0) := rfl
theorem s274_14 {c : Nat → List AV → SS → Option Out} {l0 l1 : Option AV} {a0 : Int32} {j t : Nat} {L2 : List (Nat × AV)} {S : SS} : ev c 274 14 [l0, l1] L2 [aI a0, aR (12, j, t)] S = ck (c 259 [aR (12, j, t), aI a0] S) (fun v S' => ev c 274 17 [l0, l1] L2 (v.toList ++ []) S') := ev_call i274_14 rfl
theorem i274_17 : insAt 274 17 = some (.ifCond .ne 19, 3, (0, 0, 0, 0), 0) := rfl
theorem s274_17 {c : Nat → List AV → SS → Option Out} {l0 l1 : Option AV} {x : Int32} {L2 : List (Nat × AV)} {St : List AV} {S : SS} : ev c 274 17 [l0, l1] L2 (aI x :: St) S = if x = 0 then ev c 274 20 [l0, l1] L2 St S else ev c 274 36 [l0, l1] L2 St S := (ev_br i274_17 rfl).trans (ite_not _ _ _)
theorem i274_20 : insAt 274 20 = some (.aload_n 0, 1, (0, 0, 0, 0), 0) := rfl
theorem s274_20 {c : Nat → List AV → SS → Option Out} {l1 : Option AV} {o : OId} {L2 : List (Nat × AV)} {St : List AV} {S : SS} : ev c 274 20 [some (aR o), l1] L2 St S = ev c 274 21 [some (aR o), l1] L2 (aR o :: St) S := ev_go i274_20 rfl
theorem i274_21 : insAt 274 21 = some (.aload_n 0, 1, (0, 0, 0, 0), 0) := rfl
theorem s274_21 {c : Nat → List AV → SS → Option Out} {l1 : Option AV} {o : OId} {L2 : List (Nat × AV)} {St : List AV} {S : SS} : ev c 274 21 [some (aR o), l1] L2 St S = ev c 274 22 [some (aR o), l1] L2 (aR o :: St) S := ev_go i274_21 rfl
theorem i274_22 : insAt 274 22 = some (.iload_n 1, 1, (0, 0, 0, 0), 0) := rfl
theorem s274_22 {c : Nat → List AV → SS → Option Out} {l0 : Option AV} {x : Int32} {L2 : List (Nat × AV)} {St : List AV} {S : SS} : ev c 274 22 [l0, some (aI x)] L2 St S = ev c 274 23 [l0, some (aI x)] L2 (aI x :: St) S := ev_go i274_22 rfl
theorem i274_23 : insAt 274 23 = some (.invokevirtual 173, 3, (256, 1, 2, 12), 0) := rfl
theorem s274_23 {c : Nat → List AV → SS → Option Out} {l0 l1 : Option AV} {t0 : AV} {a0 : Int32} {j t : Nat} {L2 : List (Nat × AV)} {S : SS} : ev c 274 23 [l0, l1] L2 [aI a0, aR (12, j, t), t0] S = ck (c 256 [aR (12, j, t), aI a0] S) (fun v S' => ev c 274 26 [l0, l1] L2 (v.toList ++ [t0]) S') := ev_call i274_23 rfl
theorem i274_26 : insAt 274 26 = some (.invokevirtual 115, 3, (233, 1, 2, 12), 0) := rfl
theorem s274_26 {c : Nat → List AV → SS → Option Out} {l0 l1 : Option AV} {a0 : Int32} {j t : Nat} {L2 : List (Nat × AV)} {S : SS} : ev c 274 26 [l0, l1] L2 [aI a0, aR (12, j, t)] S = ck (c 233 [aR (12, j, t), aI a0] S) (fun v S' => ev c 274 29 [l0, l1] L2 (v.toList ++ []) S') := ev_call i274_26 rfl
theorem i274_29 : insAt 274 29 = some (.ifCond .ne 7, 3, (0, 0, 0, 0), 0) := rfl
theorem s274_29 {c : Nat → List AV → SS → Option Out} {l0 l1 : Option AV} {x : Int32} {L2 : List (Nat × AV)} {St : List AV} {S : SS} : ev c 274 29 [l0, l1] L2 (aI x :: St) S = if x = 0 then ev c 274 32 [l0, l1] L2 St S else ev c 274 36 [l0, l1] L2 St S := (ev_br i274_29 rfl).trans (ite_not _ _ _)
theorem i274_32 : insAt 274 32 = some (.iconst 1, 1, (0, 0, 0, 0), 0) := rfl
theorem s274_32 {c : Nat → List AV → SS → Option Out} {l0 l1 : Option AV} {L2 : List (Nat × AV)} {St : List AV} {S : SS} : ev c 274 32 [l0, l1] L2 St S = ev c 274 33 [l0, l1] L2 (aI 1 :: St) S := ev_go i274_32 rfl
theorem i274_33 : insAt 274 33 = some (.goto 4, 3, (0, 0, 0, 0), 0) := rfl
theorem s274_33 {c : Nat → List AV → SS → Option Out} {l0 l1 : Option AV} {L2 : List (Nat × AV)} {St : List AV} {S : SS} : ev c 274 33 [l0, l1] L2 St S = ev c 274 37 [l0, l1] L2 St S := ev_go i274_33 rfl
theorem i274_36 : insAt 274 36 = some (.iconst 0, 1, (0, 0, 0, 0), 0) := rfl
theorem s274_36 {c : Nat → List AV → SS → Option Out} {l0 l1 : Option AV} {L2 : List (Nat × AV)} {St : List AV} {S : SS} : ev c 274 36 [l0, l1] L2 St S = ev c 274 37 [l0, l1] L2 (aI 0 :: St) S := ev_go i274_36 rfl
theorem i274_37 : insAt 274 37 = some (.ireturn, 1, (0, 0, 0, 0), 0) := rfl
theorem s274_37 {c : Nat → List AV → SS → Option Out} {l0 l1 : Option AV} {x : Int32} {L2 : List (Nat × AV)} {St : List AV} {S : SS} : ev c 274 37 [l0, l1] L2 [aI x] S = if x = 0 ∨ x = 1 then some (.inl (some (aI x)), S) else none := ev_rt i274_37 rfl
theorem m274 {d : Nat} {o : OId} {a0 : Int32} {S : SS} : evm (d + 1) 274 [aR o, aI a0] S = ev (evm d) 274 0 [some (aR o), some (aI a0)] [] [] S := evm_s (n := 2) rfl (Nat.le_of_ble_eq_true rfl) rfl rfl
/-! FrequencyOfficeModel.expiredTotal()I -/
theorem i275_0 : insAt 275 0 = some (.aload_n 0, 1, (0, 0, 0, 0), 0) := rfl
theorem s275_0 {c : Nat → List AV → SS → Option Out} {o : OId} {L2 : List (Nat × AV)} {St : List AV} {S : SS} : ev c 275 0 [some (aR o)] L2 St S = ev c 275 1 [some (aR o)] L2 (aR o :: St) S := ev_go i275_0 rfl
theorem i275_1 : insAt 275 1 = some (.aload_n 0, 1, (0, 0, 0, 0), 0) := rfl
theorem s275_1 {c : Nat → List AV → SS → Option Out} {o : OId} {L2 : List (Nat × AV)} {St : List AV} {S : SS} : ev c 275 1 [some (aR o)] L2 St S = ev c 275 2 [some (aR o)] L2 (aR o :: St) S := ev_go i275_1 rfl
theorem i275_2 : insAt 275 2 = some (.getfield 7, 3, (12, 0, 0, 0), 0) := rfl
theorem s275_2 {c : Nat → List AV → SS → Option Out} {l0 : Option AV} {j t : Nat} {L2 : List (Nat × AV)} {St : List AV} {S : SS} : ev c 275 2 [l0] L2 (aR (12, j, t) :: St) S = ev c 275 5 [l0] L2 (S.2.2.1 (12, j, t) 0 :: St) S := ev_go i275_2 rfl
theorem i275_5 : insAt 275 5 = some (.iconst 5, 1, (0, 0, 0, 0), 0) := rfl
theorem s275_5 {c : Nat → List AV → SS → Option Out} {l0 : Option AV} {L2 : List (Nat × AV)} {St : List AV} {S : SS} : ev c 275 5 [l0] L2 St S = ev c 275 6 [l0] L2 (aI 5 :: St) S := ev_go i275_5 rfl
theorem i275_6 : insAt 275 6 = some (.iaload, 1, (0, 0, 0, 0), 0) := rfl
theorem s275_6 {c : Nat → List AV → SS → Option Out} {l0 : Option AV} {i : Int32} {o : OId} {L2 : List (Nat × AV)} {St : List AV} {S : SS} : ev c 275 6 [l0] L2 (aI i :: aR o :: St) S = kI o i (ev c 275 7 [l0] L2 (aI (agI S o i.toNatClampNeg) :: St) S) := ev_iaload i275_6
theorem i275_7 : insAt 275 7 = some (.invokevirtual 89, 3, (223, 1, 2, 12), 0) := rfl
theorem s275_7 {c : Nat → List AV → SS → Option Out} {l0 : Option AV} {a0 : Int32} {j t : Nat} {L2 : List (Nat × AV)} {S : SS} : ev c 275 7 [l0] L2 [aI a0, aR (12, j, t)] S = ck (c 223 [aR (12, j, t), aI a0] S) (fun v S' => ev c 275 10 [l0] L2 (v.toList ++ []) S') := ev_call i275_7 rfl
theorem i275_10 : insAt 275 10 = some (.ireturn, 1, (0, 0, 0, 0), 0) := rfl
theorem s275_10 {c : Nat → List AV → SS → Option Out} {l0 : Option AV} {x : Int32} {L2 : List (Nat × AV)} {St : List AV} {S : SS} : ev c 275 10 [l0] L2 [aI x] S = some (.inl (some (aI x)), S) := ev_end i275_10 rfl
theorem m275 {d : Nat} {o : OId} {S : SS} : evm (d + 1) 275 [aR o] S = ev (evm d) 275 0 [some (aR o)] [] [] S := evm_s (n := 1) rfl (Nat.le_of_ble_eq_true rfl) rfl rfl
/-! FrequencyOfficeModel.endedTrials()I -/
theorem i276_0 : insAt 276 0 = some (.aload_n 0, 1, (0, 0, 0, 0), 0) := rfl
theorem s276_0 {c : Nat → List AV → SS → Option Out} {o : OId} {L2 : List (Nat × AV)} {St : List AV} {S : SS} : ev c 276 0 [some (aR o)] L2 St S = ev c 276 1 [some (aR o)] L2 (aR o :: St) S := ev_go i276_0 rfl
theorem i276_1 : insAt 276 1 = some (.aload_n 0, 1, (0, 0, 0, 0), 0) := rfl
theorem s276_1 {c : Nat → List AV → SS → Option Out} {o : OId} {L2 : List (Nat × AV)} {St : List AV} {S : SS} : ev c 276 1 [some (aR o)] L2 St S = ev c 276 2 [some (aR o)] L2 (aR o :: St) S := ev_go i276_1 rfl
theorem i276_2 : insAt 276 2 = some (.getfield 7, 3, (12, 0, 0, 0), 0) := rfl
theorem s276_2 {c : Nat → List AV → SS → Option Out} {l0 : Option AV} {j t : Nat} {L2 : List (Nat × AV)} {St : List AV} {S : SS} : ev c 276 2 [l0] L2 (aR (12, j, t) :: St) S = ev c 276 5 [l0] L2 (S.2.2.1 (12, j, t) 0 :: St) S := ev_go i276_2 rfl
theorem i276_5 : insAt 276 5 = some (.bipush 6, 2, (0, 0, 0, 0), 0) := rfl
theorem s276_5 {c : Nat → List AV → SS → Option Out} {l0 : Option AV} {L2 : List (Nat × AV)} {St : List AV} {S : SS} : ev c 276 5 [l0] L2 St S = ev c 276 7 [l0] L2 (aI 6 :: St) S := ev_go i276_5 rfl
theorem i276_7 : insAt 276 7 = some (.iaload, 1, (0, 0, 0, 0), 0) := rfl
theorem s276_7 {c : Nat → List AV → SS → Option Out} {l0 : Option AV} {i : Int32} {o : OId} {L2 : List (Nat × AV)} {St : List AV} {S : SS} : ev c 276 7 [l0] L2 (aI i :: aR o :: St) S = kI o i (ev c 276 8 [l0] L2 (aI (agI S o i.toNatClampNeg) :: St) S) := ev_iaload i276_7
theorem i276_8 : insAt 276 8 = some (.invokevirtual 89, 3, (223, 1, 2, 12), 0) := rfl
theorem s276_8 {c : Nat → List AV → SS → Option Out} {l0 : Option AV} {a0 : Int32} {j t : Nat} {L2 : List (Nat × AV)} {S : SS} : ev c 276 8 [l0] L2 [aI a0, aR (12, j, t)] S = ck (c 223 [aR (12, j, t), aI a0] S) (fun v S' => ev c 276 11 [l0] L2 (v.toList ++ []) S') := ev_call i276_8 rfl
theorem i276_11 : insAt 276 11 = some (.ireturn, 1, (0, 0, 0, 0), 0) := rfl
theorem s276_11 {c : Nat → List AV → SS → Option Out} {l0 : Option AV} {x : Int32} {L2 : List (Nat × AV)} {St : List AV} {S : SS} : ev c 276 11 [l0] L2 [aI x] S = some (.inl (some (aI x)), S) := ev_end i276_11 rfl
theorem m276 {d : Nat} {o : OId} {S : SS} : evm (d + 1) 276 [aR o] S = ev (evm d) 276 0 [some (aR o)] [] [] S := evm_s (n := 1) rfl (Nat.le_of_ble_eq_true rfl) rfl rfl
/-! FrequencyOfficeModel.squaredDistance(II)I -/
theorem i277_0 : insAt 277 0 = some (.aload_n 0, 1, (0, 0, 0, 0), 0) := rfl
theorem s277_0 {c : Nat → List AV → SS → Option Out} {l1 l2 : Option AV} {o : OId} {L2 : List (Nat × AV)} {St : List AV} {S : SS} : ev c 277 0 [some (aR o), l1, l2] L2 St S = ev c 277 1 [some (aR o), l1, l2] L2 (aR o :: St) S := ev_go i277_0 rfl
theorem i277_1 : insAt 277 1 = some (.iload_n 1, 1, (0, 0, 0, 0), 0) := rfl
theorem s277_1 {c : Nat → List AV → SS → Option Out} {l0 l2 : Option AV} {x : Int32} {L2 : List (Nat × AV)} {St : List AV} {S : SS} : ev c 277 1 [l0, some (aI x), l2] L2 St S = ev c 277 2 [l0, some (aI x), l2] L2 (aI x :: St) S := ev_go i277_1 rfl
theorem i277_2 : insAt 277 2 = some (.iload_n 2, 1, (0, 0, 0, 0), 0) := rfl
theorem s277_2 {c : Nat → List AV → SS → Option Out} {l0 l1 : Option AV} {x : Int32} {L2 : List (Nat × AV)} {St : List AV} {S : SS} : ev c 277 2 [l0, l1, some (aI x)] L2 St S = ev c 277 3 [l0, l1, some (aI x)] L2 (aI x :: St) S := ev_go i277_2 rfl
theorem i277_3 : insAt 277 3 = some (.invokevirtual 189, 3, (278, 2, 2, 12), 0) := rfl
theorem s277_3 {c : Nat → List AV → SS → Option Out} {l0 l1 l2 : Option AV} {a0 : Int32} {a1 : Int32} {j t : Nat} {L2 : List (Nat × AV)} {S : SS} : ev c 277 3 [l0, l1, l2] L2 [aI a1, aI a0, aR (12, j, t)] S = ck (c 278 [aR (12, j, t), aI a0, aI a1] S) (fun v S' => ev c 277 6 [l0, l1, l2] L2 (v.toList ++ []) S') := ev_call i277_3 rfl
theorem i277_6 : insAt 277 6 = some (.ifCond .eq 35, 3, (0, 0, 0, 0), 0) := rfl
theorem s277_6 {c : Nat → List AV → SS → Option Out} {l0 l1 l2 : Option AV} {x : Int32} {L2 : List (Nat × AV)} {St : List AV} {S : SS} : ev c 277 6 [l0, l1, l2] L2 (aI x :: St) S = if x = 0 then ev c 277 41 [l0, l1, l2] L2 St S else ev c 277 9 [l0, l1, l2] L2 St S := ev_br i277_6 rfl
theorem i277_9 : insAt 277 9 = some (.aload_n 0, 1, (0, 0, 0, 0), 0) := rfl
theorem s277_9 {c : Nat → List AV → SS → Option Out} {l1 l2 : Option AV} {o : OId} {L2 : List (Nat × AV)} {St : List AV} {S : SS} : ev c 277 9 [some (aR o), l1, l2] L2 St S = ev c 277 10 [some (aR o), l1, l2] L2 (aR o :: St) S := ev_go i277_9 rfl
theorem i277_10 : insAt 277 10 = some (.aload_n 0, 1, (0, 0, 0, 0), 0) := rfl
theorem s277_10 {c : Nat → List AV → SS → Option Out} {l1 l2 : Option AV} {o : OId} {L2 : List (Nat × AV)} {St : List AV} {S : SS} : ev c 277 10 [some (aR o), l1, l2] L2 St S = ev c 277 11 [some (aR o), l1, l2] L2 (aR o :: St) S := ev_go i277_10 rfl
theorem i277_11 : insAt 277 11 = some (.aload_n 0, 1, (0, 0, 0, 0), 0) := rfl
theorem s277_11 {c : Nat → List AV → SS → Option Out} {l1 l2 : Option AV} {o : OId} {L2 : List (Nat × AV)} {St : List AV} {S : SS} : ev c 277 11 [some (aR o), l1, l2] L2 St S = ev c 277 12 [some (aR o), l1, l2] L2 (aR o :: St) S := ev_go i277_11 rfl
theorem i277_12 : insAt 277 12 = some (.iload_n 1, 1, (0, 0, 0, 0), 0) := rfl
theorem s277_12 {c : Nat → List AV → SS → Option Out} {l0 l2 : Option AV} {x : Int32} {L2 : List (Nat × AV)} {St : List AV} {S : SS} : ev c 277 12 [l0, some (aI x), l2] L2 St S = ev c 277 13 [l0, some (aI x), l2] L2 (aI x :: St) S := ev_go i277_12 rfl
theorem i277_13 : insAt 277 13 = some (.invokevirtual 173, 3, (256, 1, 2, 12), 0) := rfl
theorem s277_13 {c : Nat → List AV → SS → Option Out} {l0 l1 l2 : Option AV} {t0 t1 : AV} {a0 : Int32} {j t : Nat} {L2 : List (Nat × AV)} {S : SS} : ev c 277 13 [l0, l1, l2] L2 [aI a0, aR (12, j, t), t0, t1] S = ck (c 256 [aR (12, j, t), aI a0] S) (fun v S' => ev c 277 16 [l0, l1, l2] L2 (v.toList ++ [t0, t1]) S') := ev_call i277_13 rfl
theorem i277_16 : insAt 277 16 = some (.iconst 1, 1, (0, 0, 0, 0), 0) := rfl
theorem s277_16 {c : Nat → List AV → SS → Option Out} {l0 l1 l2 : Option AV} {L2 : List (Nat × AV)} {St : List AV} {S : SS} : ev c 277 16 [l0, l1, l2] L2 St S = ev c 277 17 [l0, l1, l2] L2 (aI 1 :: St) S := ev_go i277_16 rfl
theorem i277_17 : insAt 277 17 = some (.invokevirtual 75, 3, (234, 2, 2, 12), 0) := rfl
theorem s277_17 {c : Nat → List AV → SS → Option Out} {l0 l1 l2 : Option AV} {t0 : AV} {a0 : Int32} {a1 : Int32} {j t : Nat} {L2 : List (Nat × AV)} {S : SS} : ev c 277 17 [l0, l1, l2] L2 [aI a1, aI a0, aR (12, j, t), t0] S = ck (c 234 [aR (12, j, t), aI a0, aI a1] S) (fun v S' => ev c 277 20 [l0, l1, l2] L2 (v.toList ++ [t0]) S') := ev_call i277_17 rfl
theorem i277_20 : insAt 277 20 = some (.aload_n 0, 1, (0, 0, 0, 0), 0) := rfl
theorem s277_20 {c : Nat → List AV → SS → Option Out} {l1 l2 : Option AV} {o : OId} {L2 : List (Nat × AV)} {St : List AV} {S : SS} : ev c 277 20 [some (aR o), l1, l2] L2 St S = ev c 277 21 [some (aR o), l1, l2] L2 (aR o :: St) S := ev_go i277_20 rfl
theorem i277_21 : insAt 277 21 = some (.aload_n 0, 1, (0, 0, 0, 0), 0) := rfl
theorem s277_21 {c : Nat → List AV → SS → Option Out} {l1 l2 : Option AV} {o : OId} {L2 : List (Nat × AV)} {St : List AV} {S : SS} : ev c 277 21 [some (aR o), l1, l2] L2 St S = ev c 277 22 [some (aR o), l1, l2] L2 (aR o :: St) S := ev_go i277_21 rfl
theorem i277_22 : insAt 277 22 = some (.iload_n 1, 1, (0, 0, 0, 0), 0) := rfl
theorem s277_22 {c : Nat → List AV → SS → Option Out} {l0 l2 : Option AV} {x : Int32} {L2 : List (Nat × AV)} {St : List AV} {S : SS} : ev c 277 22 [l0, some (aI x), l2] L2 St S = ev c 277 23 [l0, some (aI x), l2] L2 (aI x :: St) S := ev_go i277_22 rfl
theorem i277_23 : insAt 277 23 = some (.invokevirtual 173, 3, (256, 1, 2, 12), 0) := rfl
theorem s277_23 {c : Nat → List AV → SS → Option Out} {l0 l1 l2 : Option AV} {t0 t1 t2 : AV} {a0 : Int32} {j t : Nat} {L2 : List (Nat × AV)} {S : SS} : ev c 277 23 [l0, l1, l2] L2 [aI a0, aR (12, j, t), t0, t1, t2] S = ck (c 256 [aR (12, j, t), aI a0] S) (fun v S' => ev c 277 26 [l0, l1, l2] L2 (v.toList ++ [t0, t1, t2]) S') := ev_call i277_23 rfl
theorem i277_26 : insAt 277 26 = some (.iconst 2, 1, (0, 0, 0, 0), 0) := rfl
theorem s277_26 {c : Nat → List AV → SS → Option Out} {l0 l1 l2 : Option AV} {L2 : List (Nat × AV)} {St : List AV} {S : SS} : ev c 277 26 [l0, l1, l2] L2 St S = ev c 277 27 [l0, l1, l2] L2 (aI 2 :: St) S := ev_go i277_26 rfl
theorem i277_27 : insAt 277 27 = some (.invokevirtual 75, 3, (234, 2, 2, 12), 0) := rfl
theorem s277_27 {c : Nat → List AV → SS → Option Out} {l0 l1 l2 : Option AV} {t0 t1 : AV} {a0 : Int32} {a1 : Int32} {j t : Nat} {L2 : List (Nat × AV)} {S : SS} : ev c 277 27 [l0, l1, l2] L2 [aI a1, aI a0, aR (12, j, t), t0, t1] S = ck (c 234 [aR (12, j, t), aI a0, aI a1] S) (fun v S' => ev c 277 30 [l0, l1, l2] L2 (v.toList ++ [t0, t1]) S') := ev_call i277_27 rfl
theorem i277_30 : insAt 277 30 = some (.aload_n 0, 1, (0, 0, 0, 0), 0) := rfl
theorem s277_30 {c : Nat → List AV → SS → Option Out} {l1 l2 : Option AV} {o : OId} {L2 : List (Nat × AV)} {St : List AV} {S : SS} : ev c 277 30 [some (aR o), l1, l2] L2 St S = ev c 277 31 [some (aR o), l1, l2] L2 (aR o :: St) S := ev_go i277_30 rfl
theorem i277_31 : insAt 277 31 = some (.iload_n 2, 1, (0, 0, 0, 0), 0) := rfl
theorem s277_31 {c : Nat → List AV → SS → Option Out} {l0 l1 : Option AV} {x : Int32} {L2 : List (Nat × AV)} {St : List AV} {S : SS} : ev c 277 31 [l0, l1, some (aI x)] L2 St S = ev c 277 32 [l0, l1, some (aI x)] L2 (aI x :: St) S := ev_go i277_31 rfl
theorem i277_32 : insAt 277 32 = some (.invokevirtual 173, 3, (256, 1, 2, 12), 0) := rfl
theorem s277_32 {c : Nat → List AV → SS → Option Out} {l0 l1 l2 : Option AV} {t0 t1 t2 : AV} {a0 : Int32} {j t : Nat} {L2 : List (Nat × AV)} {S : SS} : ev c 277 32 [l0, l1, l2] L2 [aI a0, aR (12, j, t), t0, t1, t2] S = ck (c 256 [aR (12, j, t), aI a0] S) (fun v S' => ev c 277 35 [l0, l1, l2] L2 (v.toList ++ [t0, t1, t2]) S') := ev_call i277_32 rfl
theorem i277_35 : insAt 277 35 = some (.invokevirtual 96, 3, (238, 3, 2, 12), 0) := rfl
theorem s277_35 {c : Nat → List AV → SS → Option Out} {l0 l1 l2 : Option AV} {a0 : Int32} {a1 : Int32} {a2 : Int32} {j t : Nat} {L2 : List (Nat × AV)} {S : SS} : ev c 277 35 [l0, l1, l2] L2 [aI a2, aI a1, aI a0, aR (12, j, t)] S = ck (c 238 [aR (12, j, t), aI a0, aI a1, aI a2] S) (fun v S' => ev c 277 38 [l0, l1, l2] L2 (v.toList ++ []) S') := ev_call i277_35 rfl
theorem i277_38 : insAt 277 38 = some (.goto 4, 3, (0, 0, 0, 0), 0) := rfl
theorem s277_38 {c : Nat → List AV → SS → Option Out} {l0 l1 l2 : Option AV} {L2 : List (Nat × AV)} {St : List AV} {S : SS} : ev c 277 38 [l0, l1, l2] L2 St S = ev c 277 42 [l0, l1, l2] L2 St S := ev_go i277_38 rfl
theorem i277_41 : insAt 277 41 = some (.iconst 0, 1, (0, 0, 0, 0), 0) := rfl
theorem s277_41 {c : Nat → List AV → SS → Option Out} {l0 l1 l2 : Option AV} {L2 : List (Nat × AV)} {St : List AV} {S : SS} : ev c 277 41 [l0, l1, l2] L2 St S = ev c 277 42 [l0, l1, l2] L2 (aI 0 :: St) S := ev_go i277_41 rfl
theorem i277_42 : insAt 277 42 = some (.ireturn, 1, (0, 0, 0, 0), 0) := rfl
theorem s277_42 {c : Nat → List AV → SS → Option Out} {l0 l1 l2 : Option AV} {x : Int32} {L2 : List (Nat × AV)} {St : List AV} {S : SS} : ev c 277 42 [l0, l1, l2] L2 [aI x] S = some (.inl (some (aI x)), S) := ev_end i277_42 rfl
theorem m277 {d : Nat} {o : OId} {a0 : Int32} {a1 : Int32} {S : SS} : evm (d + 1) 277 [aR o, aI a0, aI a1] S = ev (evm d) 277 0 [some (aR o), some (aI a0), some (aI a1)] [] [] S := evm_s (n := 3) rfl (Nat.le_of_ble_eq_true rfl) rfl rfl
/-! FrequencyOfficeModel.isPair(II)Z -/
theorem i278_0 : insAt 278 0 = some (.aload_n 0, 1, (0, 0, 0, 0), 0) := rfl
theorem s278_0 {c : Nat → List AV → SS → Option Out} {l1 l2 : Option AV} {o : OId} {L2 : List (Nat × AV)} {St : List AV} {S : SS} : ev c 278 0 [some (aR o), l1, l2] L2 St S = ev c 278 1 [some (aR o), l1, l2] L2 (aR o :: St) S := ev_go i278_0 rfl
theorem i278_1 : insAt 278 1 = some (.aload_n 0, 1, (0, 0, 0, 0), 0) := rfl
theorem s278_1 {c : Nat → List AV → SS → Option Out} {l1 l2 : Option AV} {o : OId} {L2 : List (Nat × AV)} {St : List AV} {S : SS} : ev c 278 1 [some (aR o), l1, l2] L2 St S = ev c 278 2 [some (aR o), l1, l2] L2 (aR o :: St) S := ev_go i278_1 rfl
theorem i278_2 : insAt 278 2 = some (.iload_n 1, 1, (0, 0, 0, 0), 0) := rfl
theorem s278_2 {c : Nat → List AV → SS → Option Out} {l0 l2 : Option AV} {x : Int32} {L2 : List (Nat × AV)} {St : List AV} {S : SS} : ev c 278 2 [l0, some (aI x), l2] L2 St S = ev c 278 3 [l0, some (aI x), l2] L2 (aI x :: St) S := ev_go i278_2 rfl
theorem i278_3 : insAt 278 3 = some (.invokevirtual 173, 3, (256, 1, 2, 12), 0) := rfl
theorem s278_3 {c : Nat → List AV → SS → Option Out} {l0 l1 l2 : Option AV} {t0 : AV} {a0 : Int32} {j t : Nat} {L2 : List (Nat × AV)} {S : SS} : ev c 278 3 [l0, l1, l2] L2 [aI a0, aR (12, j, t), t0] S = ck (c 256 [aR (12, j, t), aI a0] S) (fun v S' => ev c 278 6 [l0, l1, l2] L2 (v.toList ++ [t0]) S') := ev_call i278_3 rfl
theorem i278_6 : insAt 278 6 = some (.ifCond .lt 11, 3, (0, 0, 0, 0), 0) := rfl
theorem s278_6 {c : Nat → List AV → SS → Option Out} {l0 l1 l2 : Option AV} {x : Int32} {L2 : List (Nat × AV)} {St : List AV} {S : SS} : ev c 278 6 [l0, l1, l2] L2 (aI x :: St) S = if x < 0 then ev c 278 17 [l0, l1, l2] L2 St S else ev c 278 9 [l0, l1, l2] L2 St S := ev_br i278_6 rfl
theorem i278_9 : insAt 278 9 = some (.aload_n 0, 1, (0, 0, 0, 0), 0) := rfl
theorem s278_9 {c : Nat → List AV → SS → Option Out} {l1 l2 : Option AV} {o : OId} {L2 : List (Nat × AV)} {St : List AV} {S : SS} : ev c 278 9 [some (aR o), l1, l2] L2 St S = ev c 278 10 [some (aR o), l1, l2] L2 (aR o :: St) S := ev_go i278_9 rfl
theorem i278_10 : insAt 278 10 = some (.iload_n 2, 1, (0, 0, 0, 0), 0) := rfl
theorem s278_10 {c : Nat → List AV → SS → Option Out} {l0 l1 : Option AV} {x : Int32} {L2 : List (Nat × AV)} {St : List AV} {S : SS} : ev c 278 10 [l0, l1, some (aI x)] L2 St S = ev c 278 11 [l0, l1, some (aI x)] L2 (aI x :: St) S := ev_go i278_10 rfl
theorem i278_11 : insAt 278 11 = some (.invokevirtual 173, 3, (256, 1, 2, 12), 0) := rfl
theorem s278_11 {c : Nat → List AV → SS → Option Out} {l0 l1 l2 : Option AV} {t0 : AV} {a0 : Int32} {j t : Nat} {L2 : List (Nat × AV)} {S : SS} : ev c 278 11 [l0, l1, l2] L2 [aI a0, aR (12, j, t), t0] S = ck (c 256 [aR (12, j, t), aI a0] S) (fun v S' => ev c 278 14 [l0, l1, l2] L2 (v.toList ++ [t0]) S') := ev_call i278_11 rfl
theorem i278_14 : insAt 278 14 = some (.ifCond .ge 7, 3, (0, 0, 0, 0), 0) := rfl
theorem s278_14 {c : Nat → List AV → SS → Option Out} {l0 l1 l2 : Option AV} {x : Int32} {L2 : List (Nat × AV)} {St : List AV} {S : SS} : ev c 278 14 [l0, l1, l2] L2 (aI x :: St) S = if 0 ≤ x then ev c 278 21 [l0, l1, l2] L2 St S else ev c 278 17 [l0, l1, l2] L2 St S := ev_br i278_14 rfl
theorem i278_17 : insAt 278 17 = some (.iconst 1, 1, (0, 0, 0, 0), 0) := rfl
theorem s278_17 {c : Nat → List AV → SS → Option Out} {l0 l1 l2 : Option AV} {L2 : List (Nat × AV)} {St : List AV} {S : SS} : ev c 278 17 [l0, l1, l2] L2 St S = ev c 278 18 [l0, l1, l2] L2 (aI 1 :: St) S := ev_go i278_17 rfl
theorem i278_18 : insAt 278 18 = some (.goto 13, 3, (0, 0, 0, 0), 0) := rfl
theorem s278_18 {c : Nat → List AV → SS → Option Out} {l0 l1 l2 : Option AV} {L2 : List (Nat × AV)} {St : List AV} {S : SS} : ev c 278 18 [l0, l1, l2] L2 St S = ev c 278 31 [l0, l1, l2] L2 St S := ev_go i278_18 rfl
theorem i278_21 : insAt 278 21 = some (.iload_n 1, 1, (0, 0, 0, 0), 0) := rfl
theorem s278_21 {c : Nat → List AV → SS → Option Out} {l0 l2 : Option AV} {x : Int32} {L2 : List (Nat × AV)} {St : List AV} {S : SS} : ev c 278 21 [l0, some (aI x), l2] L2 St S = ev c 278 22 [l0, some (aI x), l2] L2 (aI x :: St) S := ev_go i278_21 rfl
theorem i278_22 : insAt 278 22 = some (.iload_n 2, 1, (0, 0, 0, 0), 0) := rfl
theorem s278_22 {c : Nat → List AV → SS → Option Out} {l0 l1 : Option AV} {x : Int32} {L2 : List (Nat × AV)} {St : List AV} {S : SS} : ev c 278 22 [l0, l1, some (aI x)] L2 St S = ev c 278 23 [l0, l1, some (aI x)] L2 (aI x :: St) S := ev_go i278_22 rfl
theorem i278_23 : insAt 278 23 = some (.if_icmp .ne 7, 3, (0, 0, 0, 0), 0) := rfl
theorem s278_23 {c : Nat → List AV → SS → Option Out} {l0 l1 l2 : Option AV} {x y : Int32} {L2 : List (Nat × AV)} {St : List AV} {S : SS} : ev c 278 23 [l0, l1, l2] L2 (aI y :: aI x :: St) S = if x = y then ev c 278 26 [l0, l1, l2] L2 St S else ev c 278 30 [l0, l1, l2] L2 St S := (ev_br i278_23 rfl).trans (ite_not _ _ _)
theorem i278_26 : insAt 278 26 = some (.iconst 2, 1, (0, 0, 0, 0), 0) := rfl
theorem s278_26 {c : Nat → List AV → SS → Option Out} {l0 l1 l2 : Option AV} {L2 : List (Nat × AV)} {St : List AV} {S : SS} : ev c 278 26 [l0, l1, l2] L2 St S = ev c 278 27 [l0, l1, l2] L2 (aI 2 :: St) S := ev_go i278_26 rfl
theorem i278_27 : insAt 278 27 = some (.goto 4, 3, (0, 0, 0, 0), 0) := rfl
theorem s278_27 {c : Nat → List AV → SS → Option Out} {l0 l1 l2 : Option AV} {L2 : List (Nat × AV)} {St : List AV} {S : SS} : ev c 278 27 [l0, l1, l2] L2 St S = ev c 278 31 [l0, l1, l2] L2 St S := ev_go i278_27 rfl
theorem i278_30 : insAt 278 30 = some (.iconst 0, 1, (0, 0, 0, 0), 0) := rfl
theorem s278_30 {c : Nat → List AV → SS → Option Out} {l0 l1 l2 : Option AV} {L2 : List (Nat × AV)} {St : List AV} {S : SS} : ev c 278 30 [l0, l1, l2] L2 St S = ev c 278 31 [l0, l1, l2] L2 (aI 0 :: St) S := ev_go i278_30 rfl
theorem i278_31 : insAt 278 31 = some (.putfield 31, 3, (12, 7, 0, 0), 0) := rfl
theorem s278_31 {c : Nat → List AV → SS → Option Out} {l0 l1 l2 : Option AV} {j t : Nat} {x : Int32} {L2 : List (Nat × AV)} {St : List AV} {S : SS} : ev c 278 31 [l0, l1, l2] L2 (aI x :: aR (12, j, t) :: St) S = ev c 278 34 [l0, l1, l2] L2 St (setI S.1 (12, j, t) 7 x, S.2) := ev_go i278_31 rfl
theorem i278_34 : insAt 278 34 = some (.aload_n 0, 1, (0, 0, 0, 0), 0) := rfl
theorem s278_34 {c : Nat → List AV → SS → Option Out} {l1 l2 : Option AV} {o : OId} {L2 : List (Nat × AV)} {St : List AV} {S : SS} : ev c 278 34 [some (aR o), l1, l2] L2 St S = ev c 278 35 [some (aR o), l1, l2] L2 (aR o :: St) S := ev_go i278_34 rfl
theorem i278_35 : insAt 278 35 = some (.getfield 31, 3, (12, 7, 0, 0), 0) := rfl
theorem s278_35 {c : Nat → List AV → SS → Option Out} {l0 l1 l2 : Option AV} {j t : Nat} {L2 : List (Nat × AV)} {St : List AV} {S : SS} : ev c 278 35 [l0, l1, l2] L2 (aR (12, j, t) :: St) S = ev c 278 38 [l0, l1, l2] L2 (aI (S.1 (12, j, t) 7) :: St) S := ev_go i278_35 rfl
theorem i278_38 : insAt 278 38 = some (.ifCond .ne 7, 3, (0, 0, 0, 0), 0) := rfl
theorem s278_38 {c : Nat → List AV → SS → Option Out} {l0 l1 l2 : Option AV} {x : Int32} {L2 : List (Nat × AV)} {St : List AV} {S : SS} : ev c 278 38 [l0, l1, l2] L2 (aI x :: St) S = if x = 0 then ev c 278 41 [l0, l1, l2] L2 St S else ev c 278 45 [l0, l1, l2] L2 St S := (ev_br i278_38 rfl).trans (ite_not _ _ _)
theorem i278_41 : insAt 278 41 = some (.iconst 1, 1, (0, 0, 0, 0), 0) := rfl
theorem s278_41 {c : Nat → List AV → SS → Option Out} {l0 l1 l2 : Option AV} {L2 : List (Nat × AV)} {St : List AV} {S : SS} : ev c 278 41 [l0, l1, l2] L2 St S = ev c 278 42 [l0, l1, l2] L2 (aI 1 :: St) S := ev_go i278_41 rfl
theorem i278_42 : insAt 278 42 = some (.goto 4, 3, (0, 0, 0, 0), 0) := rfl
theorem s278_42 {c : Nat → List AV → SS → Option Out} {l0 l1 l2 : Option AV} {L2 : List (Nat × AV)} {St : List AV} {S : SS} : ev c 278 42 [l0, l1, l2] L2 St S = ev c 278 46 [l0, l1, l2] L2 St S := ev_go i278_42 rfl
theorem i278_45 : insAt 278 45 = some (.iconst 0, 1, (0, 0, 0, 0), 0) := rfl
theorem s278_45 {c : Nat → List AV → SS → Option Out} {l0 l1 l2 : Option AV} {L2 : List (Nat × AV)} {St : List AV} {S : SS} : ev c 278 45 [l0, l1, l2] L2 St S = ev c 278 46 [l0, l1, l2] L2 (aI 0 :: St) S := ev_go i278_45 rfl
theorem i278_46 : insAt 278 46 = some (.ireturn, 1, (0, 0, 0, 0), 0) := rfl
theorem s278_46 {c : Nat → List AV → SS → Option Out} {l0 l1 l2 : Option AV} {x : Int32} {L2 : List (Nat × AV)} {St : List AV} {S : SS} : ev c 278 46 [l0, l1, l2] L2 [aI x] S = if x = 0 ∨ x = 1 then some (.inl (some (aI x)), S) else none := ev_rt i278_46 rfl
theorem m278 {d : Nat} {o : OId} {a0 : Int32} {a1 : Int32} {S : SS} : evm (d + 1) 278 [aR o, aI a0, aI a1] S = ev (evm d) 278 0 [some (aR o), some (aI a0), some (aI a1)] [] [] S := evm_s (n := 3) rfl (Nat.le_of_ble_eq_true rfl) rfl rfl
/-! FrequencyOfficeModel.baseSeparation(II)I -/
theorem i279_0 : insAt 279 0 = some (.aload_n 0, 1, (0, 0, 0, 0), 0) := rfl
theorem s279_0 {c : Nat → List AV → SS → Option Out} {l1 l2 : Option AV} {o : OId} {L2 : List (Nat × AV)} {St : List AV} {S : SS} : ev c 279 0 [some (aR o), l1, l2] L2 St S = ev c 279 1 [some (aR o), l1, l2] L2 (aR o :: St) S := ev_go i279_0 rfl
theorem i279_1 : insAt 279 1 = some (.iload_n 1, 1, (0, 0, 0, 0), 0) := rfl
theorem s279_1 {c : Nat → List AV → SS → Option Out} {l0 l2 : Option AV} {x : Int32} {L2 : List (Nat × AV)} {St : List AV} {S : SS} : ev c 279 1 [l0, some (aI x), l2] L2 St S = ev c 279 2 [l0, some (aI x), l2] L2 (aI x :: St) S := ev_go i279_1 rfl
theorem i279_2 : insAt 279 2 = some (.iload_n 2, 1, (0, 0, 0, 0), 0) := rfl
theorem s279_2 {c : Nat → List AV → SS → Option Out} {l0 l1 : Option AV} {x : Int32} {L2 : List (Nat × AV)} {St : List AV} {S : SS} : ev c 279 2 [l0, l1, some (aI x)] L2 St S = ev c 279 3 [l0, l1, some (aI x)] L2 (aI x :: St) S := ev_go i279_2 rfl
theorem i279_3 : insAt 279 3 = some (.invokevirtual 189, 3, (278, 2, 2, 12), 0) := rfl
theorem s279_3 {c : Nat → List AV → SS → Option Out} {l0 l1 l2 : Option AV} {a0 : Int32} {a1 : Int32} {j t : Nat} {L2 : List (Nat × AV)} {S : SS} : ev c 279 3 [l0, l1, l2] L2 [aI a1, aI a0, aR (12, j, t)] S = ck (c 278 [aR (12, j, t), aI a0, aI a1] S) (fun v S' => ev c 279 6 [l0, l1, l2] L2 (v.toList ++ []) S') := ev_call i279_3 rfl
theorem i279_6 : insAt 279 6 = some (.ifCond .eq 20, 3, (0, 0, 0, 0), 0) := rfl
theorem s279_6 {c : Nat → List AV → SS → Option Out} {l0 l1 l2 : Option AV} {x : Int32} {L2 : List (Nat × AV)} {St : List AV} {S : SS} : ev c 279 6 [l0, l1, l2] L2 (aI x :: St) S = if x = 0 then ev c 279 26 [l0, l1, l2] L2 St S else ev c 279 9 [l0, l1, l2] L2 St S := ev_br i279_6 rfl
theorem i279_9 : insAt 279 9 = some (.aload_n 0, 1, (0, 0, 0, 0), 0) := rfl
theorem s279_9 {c : Nat → List AV → SS → Option Out} {l1 l2 : Option AV} {o : OId} {L2 : List (Nat × AV)} {St : List AV} {S : SS} : ev c 279 9 [some (aR o), l1, l2] L2 St S = ev c 279 10 [some (aR o), l1, l2] L2 (aR o :: St) S := ev_go i279_9 rfl
theorem i279_10 : insAt 279 10 = some (.aload_n 0, 1, (0, 0, 0, 0), 0) := rfl
theorem s279_10 {c : Nat → List AV → SS → Option Out} {l1 l2 : Option AV} {o : OId} {L2 : List (Nat × AV)} {St : List AV} {S : SS} : ev c 279 10 [some (aR o), l1, l2] L2 St S = ev c 279 11 [some (aR o), l1, l2] L2 (aR o :: St) S := ev_go i279_10 rfl
theorem i279_11 : insAt 279 11 = some (.iload_n 1, 1, (0, 0, 0, 0), 0) := rfl
theorem s279_11 {c : Nat → List AV → SS → Option Out} {l0 l2 : Option AV} {x : Int32} {L2 : List (Nat × AV)} {St : List AV} {S : SS} : ev c 279 11 [l0, some (aI x), l2] L2 St S = ev c 279 12 [l0, some (aI x), l2] L2 (aI x :: St) S := ev_go i279_11 rfl
theorem i279_12 : insAt 279 12 = some (.invokevirtual 173, 3, (256, 1, 2, 12), 0) := rfl
theorem s279_12 {c : Nat → List AV → SS → Option Out} {l0 l1 l2 : Option AV} {t0 : AV} {a0 : Int32} {j t : Nat} {L2 : List (Nat × AV)} {S : SS} : ev c 279 12 [l0, l1, l2] L2 [aI a0, aR (12, j, t), t0] S = ck (c 256 [aR (12, j, t), aI a0] S) (fun v S' => ev c 279 15 [l0, l1, l2] L2 (v.toList ++ [t0]) S') := ev_call i279_12 rfl
theorem i279_15 : insAt 279 15 = some (.aload_n 0, 1, (0, 0, 0, 0), 0) := rfl
theorem s279_15 {c : Nat → List AV → SS → Option Out} {l1 l2 : Option AV} {o : OId} {L2 : List (Nat × AV)} {St : List AV} {S : SS} : ev c 279 15 [some (aR o), l1, l2] L2 St S = ev c 279 16 [some (aR o), l1, l2] L2 (aR o :: St) S := ev_go i279_15 rfl
theorem i279_16 : insAt 279 16 = some (.iload_n 2, 1, (0, 0, 0, 0), 0) := rfl
theorem s279_16 {c : Nat → List AV → SS → Option Out} {l0 l1 : Option AV} {x : Int32} {L2 : List (Nat × AV)} {St : List AV} {S : SS} : ev c 279 16 [l0, l1, some (aI x)] L2 St S = ev c 279 17 [l0, l1, some (aI x)] L2 (aI x :: St) S := ev_go i279_16 rfl
theorem i279_17 : insAt 279 17 = some (.invokevirtual 173, 3, (256, 1, 2, 12), 0) := rfl
theorem s279_17 {c : Nat → List AV → SS → Option Out} {l0 l1 l2 : Option AV} {t0 t1 : AV} {a0 : Int32} {j t : Nat} {L2 : List (Nat × AV)} {S : SS} : ev c 279 17 [l0, l1, l2] L2 [aI a0, aR (12, j, t), t0, t1] S = ck (c 256 [aR (12, j, t), aI a0] S) (fun v S' => ev c 279 20 [l0, l1, l2] L2 (v.toList ++ [t0, t1]) S') := ev_call i279_17 rfl
theorem i279_20 : insAt 279 20 = some (.invokevirtual 103, 3, (244, 2, 2, 12), 0) := rfl
theorem s279_20 {c : Nat → List AV → SS → Option Out} {l0 l1 l2 : Option AV} {a0 : Int32} {a1 : Int32} {j t : Nat} {L2 : List (Nat × AV)} {S : SS} : ev c 279 20 [l0, l1, l2] L2 [aI a1, aI a0, aR (12, j, t)] S = ck (c 244 [aR (12, j, t), aI a0, aI a1] S) (fun v S' => ev c 279 23 [l0, l1, l2] L2 (v.toList ++ []) S') := ev_call i279_20 rfl
theorem i279_23 : insAt 279 23 = some (.goto 4, 3, (0, 0, 0, 0), 0) := rfl
theorem s279_23 {c : Nat → List AV → SS → Option Out} {l0 l1 l2 : Option AV} {L2 : List (Nat × AV)} {St : List AV} {S : SS} : ev c 279 23 [l0, l1, l2] L2 St S = ev c 279 27 [l0, l1, l2] L2 St S := ev_go i279_23 rfl
theorem i279_26 : insAt 279 26 = some (.iconst 0, 1, (0, 0, 0, 0), 0) := rfl
theorem s279_26 {c : Nat → List AV → SS → Option Out} {l0 l1 l2 : Option AV} {L2 : List (Nat × AV)} {St : List AV} {S : SS} : ev c 279 26 [l0, l1, l2] L2 St S = ev c 279 27 [l0, l1, l2] L2 (aI 0 :: St) S := ev_go i279_26 rfl
theorem i279_27 : insAt 279 27 = some (.ireturn, 1, (0, 0, 0, 0), 0) := rfl
theorem s279_27 {c : Nat → List AV → SS → Option Out} {l0 l1 l2 : Option AV} {x : Int32} {L2 : List (Nat × AV)} {St : List AV} {S : SS} : ev c 279 27 [l0, l1, l2] L2 [aI x] S = some (.inl (some (aI x)), S) := ev_end i279_27 rfl
theorem m279 {d : Nat} {o : OId} {a0 : Int32} {a1 : Int32} {S : SS} : evm (d + 1) 279 [aR o, aI a0, aI a1] S = ev (evm d) 279 0 [some (aR o), some (aI a0), some (aI a1)] [] [] S := evm_s (n := 3) rfl (Nat.le_of_ble_eq_true rfl) rfl rfl
/-! FrequencyOfficeModel.complaintCount(II)I -/
theorem i280_0 : insAt 280 0 = some (.aload_n 0, 1, (0, 0, 0, 0), 0) := rfl
theorem s280_0 {c : Nat → List AV → SS → Option Out} {l1 l2 : Option AV} {o : OId} {L2 : List (Nat × AV)} {St : List AV} {S : SS} : ev c 280 0 [some (aR o), l1, l2] L2 St S = ev c 280 1 [some (aR o), l1, l2] L2 (aR o :: St) S := ev_go i280_0 rfl
theorem i280_1 : insAt 280 1 = some (.iload_n 1, 1, (0, 0, 0, 0), 0) := rfl
theorem s280_1 {c : Nat → List AV → SS → Option Out} {l0 l2 : Option AV} {x : Int32} {L2 : List (Nat × AV)} {St : List AV} {S : SS} : ev c 280 1 [l0, some (aI x), l2] L2 St S = ev c 280 2 [l0, some (aI x), l2] L2 (aI x :: St) S := ev_go i280_1 rfl
theorem i280_2 : insAt 280 2 = some (.iload_n 2, 1, (0, 0, 0, 0), 0) := rfl
theorem s280_2 {c : Nat → List AV → SS → Option Out} {l0 l1 : Option AV} {x : Int32} {L2 : List (Nat × AV)} {St : List AV} {S : SS} : ev c 280 2 [l0, l1, some (aI x)] L2 St S = ev c 280 3 [l0, l1, some (aI x)] L2 (aI x :: St) S := ev_go i280_2 rfl
theorem i280_3 : insAt 280 3 = some (.invokevirtual 189, 3, (278, 2, 2, 12), 0) := rfl
theorem s280_3 {c : Nat → List AV → SS → Option Out} {l0 l1 l2 : Option AV} {a0 : Int32} {a1 : Int32} {j t : Nat} {L2 : List (Nat × AV)} {S : SS} : ev c 280 3 [l0, l1, l2] L2 [aI a1, aI a0, aR (12, j, t)] S = ck (c 278 [aR (12, j, t), aI a0, aI a1] S) (fun v S' => ev c 280 6 [l0, l1, l2] L2 (v.toList ++ []) S') := ev_call i280_3 rfl
theorem i280_6 : insAt 280 6 = some (.ifCond .eq 20, 3, (0, 0, 0, 0), 0) := rfl
theorem s280_6 {c : Nat → List AV → SS → Option Out} {l0 l1 l2 : Option AV} {x : Int32} {L2 : List (Nat × AV)} {St : List AV} {S : SS} : ev c 280 6 [l0, l1, l2] L2 (aI x :: St) S = if x = 0 then ev c 280 26 [l0, l1, l2] L2 St S else ev c 280 9 [l0, l1, l2] L2 St S := ev_br i280_6 rfl
theorem i280_9 : insAt 280 9 = some (.aload_n 0, 1, (0, 0, 0, 0), 0) := rfl
theorem s280_9 {c : Nat → List AV → SS → Option Out} {l1 l2 : Option AV} {o : OId} {L2 : List (Nat × AV)} {St : List AV} {S : SS} : ev c 280 9 [some (aR o), l1, l2] L2 St S = ev c 280 10 [some (aR o), l1, l2] L2 (aR o :: St) S := ev_go i280_9 rfl
theorem i280_10 : insAt 280 10 = some (.aload_n 0, 1, (0, 0, 0, 0), 0) := rfl
theorem s280_10 {c : Nat → List AV → SS → Option Out} {l1 l2 : Option AV} {o : OId} {L2 : List (Nat × AV)} {St : List AV} {S : SS} : ev c 280 10 [some (aR o), l1, l2] L2 St S = ev c 280 11 [some (aR o), l1, l2] L2 (aR o :: St) S := ev_go i280_10 rfl
theorem i280_11 : insAt 280 11 = some (.iload_n 1, 1, (0, 0, 0, 0), 0) := rfl
theorem s280_11 {c : Nat → List AV → SS → Option Out} {l0 l2 : Option AV} {x : Int32} {L2 : List (Nat × AV)} {St : List AV} {S : SS} : ev c 280 11 [l0, some (aI x), l2] L2 St S = ev c 280 12 [l0, some (aI x), l2] L2 (aI x :: St) S := ev_go i280_11 rfl
theorem i280_12 : insAt 280 12 = some (.invokevirtual 173, 3, (256, 1, 2, 12), 0) := rfl
theorem s280_12 {c : Nat → List AV → SS → Option Out} {l0 l1 l2 : Option AV} {t0 : AV} {a0 : Int32} {j t : Nat} {L2 : List (Nat × AV)} {S : SS} : ev c 280 12 [l0, l1, l2] L2 [aI a0, aR (12, j, t), t0] S = ck (c 256 [aR (12, j, t), aI a0] S) (fun v S' => ev c 280 15 [l0, l1, l2] L2 (v.toList ++ [t0]) S') := ev_call i280_12 rfl
theorem i280_15 : insAt 280 15 = some (.aload_n 0, 1, (0, 0, 0, 0), 0) := rfl
theorem s280_15 {c : Nat → List AV → SS → Option Out} {l1 l2 : Option AV} {o : OId} {L2 : List (Nat × AV)} {St : List AV} {S : SS} : ev c 280 15 [some (aR o), l1, l2] L2 St S = ev c 280 16 [some (aR o), l1, l2] L2 (aR o :: St) S := ev_go i280_15 rfl
theorem i280_16 : insAt 280 16 = some (.iload_n 2, 1, (0, 0, 0, 0), 0) := rfl
theorem s280_16 {c : Nat → List AV → SS → Option Out} {l0 l1 : Option AV} {x : Int32} {L2 : List (Nat × AV)} {St : List AV} {S : SS} : ev c 280 16 [l0, l1, some (aI x)] L2 St S = ev c 280 17 [l0, l1, some (aI x)] L2 (aI x :: St) S := ev_go i280_16 rfl
theorem i280_17 : insAt 280 17 = some (.invokevirtual 173, 3, (256, 1, 2, 12), 0) := rfl
theorem s280_17 {c : Nat → List AV → SS → Option Out} {l0 l1 l2 : Option AV} {t0 t1 : AV} {a0 : Int32} {j t : Nat} {L2 : List (Nat × AV)} {S : SS} : ev c 280 17 [l0, l1, l2] L2 [aI a0, aR (12, j, t), t0, t1] S = ck (c 256 [aR (12, j, t), aI a0] S) (fun v S' => ev c 280 20 [l0, l1, l2] L2 (v.toList ++ [t0, t1]) S') := ev_call i280_17 rfl
theorem i280_20 : insAt 280 20 = some (.invokevirtual 106, 3, (240, 2, 2, 12), 0) := rfl
theorem s280_20 {c : Nat → List AV → SS → Option Out} {l0 l1 l2 : Option AV} {a0 : Int32} {a1 : Int32} {j t : Nat} {L2 : List (Nat × AV)} {S : SS} : ev c 280 20 [l0, l1, l2] L2 [aI a1, aI a0, aR (12, j, t)] S = ck (c 240 [aR (12, j, t), aI a0, aI a1] S) (fun v S' => ev c 280 23 [l0, l1, l2] L2 (v.toList ++ []) S') := ev_call i280_20 rfl
theorem i280_23 : insAt 280 23 = some (.goto 4, 3, (0, 0, 0, 0), 0) := rfl
theorem s280_23 {c : Nat → List AV → SS → Option Out} {l0 l1 l2 : Option AV} {L2 : List (Nat × AV)} {St : List AV} {S : SS} : ev c 280 23 [l0, l1, l2] L2 St S = ev c 280 27 [l0, l1, l2] L2 St S := ev_go i280_23 rfl
theorem i280_26 : insAt 280 26 = some (.iconst 0, 1, (0, 0, 0, 0), 0) := rfl
theorem s280_26 {c : Nat → List AV → SS → Option Out} {l0 l1 l2 : Option AV} {L2 : List (Nat × AV)} {St : List AV} {S : SS} : ev c 280 26 [l0, l1, l2] L2 St S = ev c 280 27 [l0, l1, l2] L2 (aI 0 :: St) S := ev_go i280_26 rfl
theorem i280_27 : insAt 280 27 = some (.ireturn, 1, (0, 0, 0, 0), 0) := rfl
theorem s280_27 {c : Nat → List AV → SS → Option Out} {l0 l1 l2 : Option AV} {x : Int32} {L2 : List (Nat × AV)} {St : List AV} {S : SS} : ev c 280 27 [l0, l1, l2] L2 [aI x] S = some (.inl (some (aI x)), S) := ev_end i280_27 rfl
theorem m280 {d : Nat} {o : OId} {a0 : Int32} {a1 : Int32} {S : SS} : evm (d + 1) 280 [aR o, aI a0, aI a1] S = ev (evm d) 280 0 [some (aR o), some (aI a0), some (aI a1)] [] [] S := evm_s (n := 3) rfl (Nat.le_of_ble_eq_true rfl) rfl rfl
/-! FrequencyOfficeModel.separation(II)I -/
theorem i281_0 : insAt 281 0 = some (.aload_n 0, 1, (0, 0, 0, 0), 0) := rfl
theorem s281_0 {c : Nat → List AV → SS → Option Out} {l1 l2 : Option AV} {o : OId} {L2 : List (Nat × AV)} {St : List AV} {S : SS} : ev c 281 0 [some (aR o), l1, l2] L2 St S = ev c 281 1 [some (aR o), l1, l2] L2 (aR o :: St) S := ev_go i281_0 rfl
theorem i281_1 : insAt 281 1 = some (.iload_n 1, 1, (0, 0, 0, 0), 0) := rfl
theorem s281_1 {c : Nat → List AV → SS → Option Out} {l0 l2 : Option AV} {x : Int32} {L2 : List (Nat × AV)} {St : List AV} {S : SS} : ev c 281 1 [l0, some (aI x), l2] L2 St S = ev c 281 2 [l0, some (aI x), l2] L2 (aI x :: St) S := ev_go i281_1 rfl
theorem i281_2 : insAt 281 2 = some (.iload_n 2, 1, (0, 0, 0, 0), 0) := rfl
theorem s281_2 {c : Nat → List AV → SS → Option Out} {l0 l1 : Option AV} {x : Int32} {L2 : List (Nat × AV)} {St : List AV} {S : SS} : ev c 281 2 [l0, l1, some (aI x)] L2 St S = ev c 281 3 [l0, l1, some (aI x)] L2 (aI x :: St) S := ev_go i281_2 rfl
theorem i281_3 : insAt 281 3 = some (.invokevirtual 189, 3, (278, 2, 2, 12), 0) := rfl
theorem s281_3 {c : Nat → List AV → SS → Option Out} {l0 l1 l2 : Option AV} {a0 : Int32} {a1 : Int32} {j t : Nat} {L2 : List (Nat × AV)} {S : SS} : ev c 281 3 [l0, l1, l2] L2 [aI a1, aI a0, aR (12, j, t)] S = ck (c 278 [aR (12, j, t), aI a0, aI a1] S) (fun v S' => ev c 281 6 [l0, l1, l2] L2 (v.toList ++ []) S') := ev_call i281_3 rfl
theorem i281_6 : insAt 281 6 = some (.ifCond .eq 20, 3, (0, 0, 0, 0), 0) := rfl
theorem s281_6 {c : Nat → List AV → SS → Option Out} {l0 l1 l2 : Option AV} {x : Int32} {L2 : List (Nat × AV)} {St : List AV} {S : SS} : ev c 281 6 [l0, l1, l2] L2 (aI x :: St) S = if x = 0 then ev c 281 26 [l0, l1, l2] L2 St S else ev c 281 9 [l0, l1, l2] L2 St S := ev_br i281_6 rfl
theorem i281_9 : insAt 281 9 = some (.aload_n 0, 1, (0, 0, 0, 0), 0) := rfl
theorem s281_9 {c : Nat → List AV → SS → Option Out} {l1 l2 : Option AV} {o : OId} {L2 : List (Nat × AV)} {St : List AV} {S : SS} : ev c 281 9 [some (aR o), l1, l2] L2 St S = ev c 281 10 [some (aR o), l1, l2] L2 (aR o :: St) S := ev_go i281_9 rfl
theorem i281_10 : insAt 281 10 = some (.aload_n 0, 1, (0, 0, 0, 0), 0) := rfl
theorem s281_10 {c : Nat → List AV → SS → Option Out} {l1 l2 : Option AV} {o : OId} {L2 : List (Nat × AV)} {St : List AV} {S : SS} : ev c 281 10 [some (aR o), l1, l2] L2 St S = ev c 281 11 [some (aR o), l1, l2] L2 (aR o :: St) S := ev_go i281_10 rfl
theorem i281_11 : insAt 281 11 = some (.iload_n 1, 1, (0, 0, 0, 0), 0) := rfl
theorem s281_11 {c : Nat → List AV → SS → Option Out} {l0 l2 : Option AV} {x : Int32} {L2 : List (Nat × AV)} {St : List AV} {S : SS} : ev c 281 11 [l0, some (aI x), l2] L2 St S = ev c 281 12 [l0, some (aI x), l2] L2 (aI x :: St) S := ev_go i281_11 rfl
theorem i281_12 : insAt 281 12 = some (.invokevirtual 173, 3, (256, 1, 2, 12), 0) := rfl
theorem s281_12 {c : Nat → List AV → SS → Option Out} {l0 l1 l2 : Option AV} {t0 : AV} {a0 : Int32} {j t : Nat} {L2 : List (Nat × AV)} {S : SS} : ev c 281 12 [l0, l1, l2] L2 [aI a0, aR (12, j, t), t0] S = ck (c 256 [aR (12, j, t), aI a0] S) (fun v S' => ev c 281 15 [l0, l1, l2] L2 (v.toList ++ [t0]) S') := ev_call i281_12 rfl
theorem i281_15 : insAt 281 15 = some (.aload_n 0, 1, (0, 0, 0, 0), 0) := rfl
theorem s281_15 {c : Nat → List AV → SS → Option Out} {l1 l2 : Option AV} {o : OId} {L2 : List (Nat × AV)} {St : List AV} {S : SS} : ev c 281 15 [some (aR o), l1, l2] L2 St S = ev c 281 16 [some (aR o), l1, l2] L2 (aR o :: St) S := ev_go i281_15 rfl
theorem i281_16 : insAt 281 16 = some (.iload_n 2, 1, (0, 0, 0, 0), 0) := rfl
theorem s281_16 {c : Nat → List AV → SS → Option Out} {l0 l1 : Option AV} {x : Int32} {L2 : List (Nat × AV)} {St : List AV} {S : SS} : ev c 281 16 [l0, l1, some (aI x)] L2 St S = ev c 281 17 [l0, l1, some (aI x)] L2 (aI x :: St) S := ev_go i281_16 rfl
theorem i281_17 : insAt 281 17 = some (.invokevirtual 173, 3, (256, 1, 2, 12), 0) := rfl
theorem s281_17 {c : Nat → List AV → SS → Option Out} {l0 l1 l2 : Option AV} {t0 t1 : AV} {a0 : Int32} {j t : Nat} {L2 : List (Nat × AV)} {S : SS} : ev c 281 17 [l0, l1, l2] L2 [aI a0, aR (12, j, t), t0, t1] S = ck (c 256 [aR (12, j, t), aI a0] S) (fun v S' => ev c 281 20 [l0, l1, l2] L2 (v.toList ++ [t0, t1]) S') := ev_call i281_17 rfl
theorem i281_20 : insAt 281 20 = some (.invokevirtual 112, 3, (243, 2, 2, 12), 0) := rfl
theorem s281_20 {c : Nat → List AV → SS → Option Out} {l0 l1 l2 : Option AV} {a0 : Int32} {a1 : Int32} {j t : Nat} {L2 : List (Nat × AV)} {S : SS} : ev c 281 20 [l0, l1, l2] L2 [aI a1, aI a0, aR (12, j, t)] S = ck (c 243 [aR (12, j, t), aI a0, aI a1] S) (fun v S' => ev c 281 23 [l0, l1, l2] L2 (v.toList ++ []) S') := ev_call i281_20 rfl
theorem i281_23 : insAt 281 23 = some (.goto 4, 3, (0, 0, 0, 0), 0) := rfl
theorem s281_23 {c : Nat → List AV → SS → Option Out} {l0 l1 l2 : Option AV} {L2 : List (Nat × AV)} {St : List AV} {S : SS} : ev c 281 23 [l0, l1, l2] L2 St S = ev c 281 27 [l0, l1, l2] L2 St S := ev_go i281_23 rfl
theorem i281_26 : insAt 281 26 = some (.iconst 0, 1, (0, 0, 0, 0), 0) := rfl
theorem s281_26 {c : Nat → List AV → SS → Option Out} {l0 l1 l2 : Option AV} {L2 : List (Nat × AV)} {St : List AV} {S : SS} : ev c 281 26 [l0, l1, l2] L2 St S = ev c 281 27 [l0, l1, l2] L2 (aI 0 :: St) S := ev_go i281_26 rfl
theorem i281_27 : insAt 281 27 = some (.ireturn, 1, (0, 0, 0, 0), 0) := rfl
theorem s281_27 {c : Nat → List AV → SS → Option Out} {l0 l1 l2 : Option AV} {x : Int32} {L2 : List (Nat × AV)} {St : List AV} {S : SS} : ev c 281 27 [l0, l1, l2] L2 [aI x] S = some (.inl (some (aI x)), S) := ev_end i281_27 rfl
theorem m281 {d : Nat} {o : OId} {a0 : Int32} {a1 : Int32} {S : SS} : evm (d + 1) 281 [aR o, aI a0, aI a1] S = ev (evm d) 281 0 [some (aR o), some (aI a0), some (aI a1)] [] [] S := evm_s (n := 3) rfl (Nat.le_of_ble_eq_true rfl) rfl rfl
/-! FrequencyOfficeModel.margin(II)I -/
theorem i282_0 : insAt 282 0 = some (.aload_n 0, 1, (0, 0, 0, 0), 0) := rfl
theorem s282_0 {c : Nat → List AV → SS → Option Out} {l1 l2 : Option AV} {o : OId} {L2 : List (Nat × AV)} {St : List AV} {S : SS} : ev c 282 0 [some (aR o), l1, l2] L2 St S = ev c 282 1 [some (aR o), l1, l2] L2 (aR o :: St) S := ev_go i282_0 rfl
theorem i282_1 : insAt 282 1 = some (.iload_n 1, 1, (0, 0, 0, 0), 0) := rfl
theorem s282_1 {c : Nat → List AV → SS → Option Out} {l0 l2 : Option AV} {x : Int32} {L2 : List (Nat × AV)} {St : List AV} {S : SS} : ev c 282 1 [l0, some (aI x), l2] L2 St S = ev c 282 2 [l0, some (aI x), l2] L2 (aI x :: St) S := ev_go i282_1 rfl
theorem i282_2 : insAt 282 2 = some (.iload_n 2, 1, (0, 0, 0, 0), 0) := rfl
theorem s282_2 {c : Nat → List AV → SS → Option Out} {l0 l1 : Option AV} {x : Int32} {L2 : List (Nat × AV)} {St : List AV} {S : SS} : ev c 282 2 [l0, l1, some (aI x)] L2 St S = ev c 282 3 [l0, l1, some (aI x)] L2 (aI x :: St) S := ev_go i282_2 rfl
theorem i282_3 : insAt 282 3 = some (.invokevirtual 189, 3, (278, 2, 2, 12), 0) := rfl
theorem s282_3 {c : Nat → List AV → SS → Option Out} {l0 l1 l2 : Option AV} {a0 : Int32} {a1 : Int32} {j t : Nat} {L2 : List (Nat × AV)} {S : SS} : ev c 282 3 [l0, l1, l2] L2 [aI a1, aI a0, aR (12, j, t)] S = ck (c 278 [aR (12, j, t), aI a0, aI a1] S) (fun v S' => ev c 282 6 [l0, l1, l2] L2 (v.toList ++ []) S') := ev_call i282_3 rfl
theorem i282_6 : insAt 282 6 = some (.ifCond .eq 45, 3, (0, 0, 0, 0), 0) := rfl
theorem s282_6 {c : Nat → List AV → SS → Option Out} {l0 l1 l2 : Option AV} {x : Int32} {L2 : List (Nat × AV)} {St : List AV} {S : SS} : ev c 282 6 [l0, l1, l2] L2 (aI x :: St) S = if x = 0 then ev c 282 51 [l0, l1, l2] L2 St S else ev c 282 9 [l0, l1, l2] L2 St S := ev_br i282_6 rfl
theorem i282_9 : insAt 282 9 = some (.aload_n 0, 1, (0, 0, 0, 0), 0) := rfl
theorem s282_9 {c : Nat → List AV → SS → Option Out} {l1 l2 : Option AV} {o : OId} {L2 : List (Nat × AV)} {St : List AV} {S : SS} : ev c 282 9 [some (aR o), l1, l2] L2 St S = ev c 282 10 [some (aR o), l1, l2] L2 (aR o :: St) S := ev_go i282_9 rfl
theorem i282_10 : insAt 282 10 = some (.aload_n 0, 1, (0, 0, 0, 0), 0) := rfl
theorem s282_10 {c : Nat → List AV → SS → Option Out} {l1 l2 : Option AV} {o : OId} {L2 : List (Nat × AV)} {St : List AV} {S : SS} : ev c 282 10 [some (aR o), l1, l2] L2 St S = ev c 282 11 [some (aR o), l1, l2] L2 (aR o :: St) S := ev_go i282_10 rfl
theorem i282_11 : insAt 282 11 = some (.iload_n 1, 1, (0, 0, 0, 0), 0) := rfl
theorem s282_11 {c : Nat → List AV → SS → Option Out} {l0 l2 : Option AV} {x : Int32} {L2 : List (Nat × AV)} {St : List AV} {S : SS} : ev c 282 11 [l0, some (aI x), l2] L2 St S = ev c 282 12 [l0, some (aI x), l2] L2 (aI x :: St) S := ev_go i282_11 rfl
theorem i282_12 : insAt 282 12 = some (.invokevirtual 173, 3, (256, 1, 2, 12), 0) := rfl
theorem s282_12 {c : Nat → List AV → SS → Option Out} {l0 l1 l2 : Option AV} {t0 : AV} {a0 : Int32} {j t : Nat} {L2 : List (Nat × AV)} {S : SS} : ev c 282 12 [l0, l1, l2] L2 [aI a0, aR (12, j, t), t0] S = ck (c 256 [aR (12, j, t), aI a0] S) (fun v S' => ev c 282 15 [l0, l1, l2] L2 (v.toList ++ [t0]) S') := ev_call i282_12 rfl
theorem i282_15 : insAt 282 15 = some (.iconst 3, 1, (0, 0, 0, 0), 0) := rfl
theorem s282_15 {c : Nat → List AV → SS → Option Out} {l0 l1 l2 : Option AV} {L2 : List (Nat × AV)} {St : List AV} {S : SS} : ev c 282 15 [l0, l1, l2] L2 St S = ev c 282 16 [l0, l1, l2] L2 (aI 3 :: St) S := ev_go i282_15 rfl
theorem i282_16 : insAt 282 16 = some (.invokevirtual 75, 3, (234, 2, 2, 12), 0) := rfl
theorem s282_16 {c : Nat → List AV → SS → Option Out} {l0 l1 l2 : Option AV} {a0 : Int32} {a1 : Int32} {j t : Nat} {L2 : List (Nat × AV)} {S : SS} : ev c 282 16 [l0, l1, l2] L2 [aI a1, aI a0, aR (12, j, t)] S = ck (c 234 [aR (12, j, t), aI a0, aI a1] S) (fun v S' => ev c 282 19 [l0, l1, l2] L2 (v.toList ++ []) S') := ev_call i282_16 rfl
theorem i282_19 : insAt 282 19 = some (.aload_n 0, 1, (0, 0, 0, 0), 0) := rfl
theorem s282_19 {c : Nat → List AV → SS → Option Out} {l1 l2 : Option AV} {o : OId} {L2 : List (Nat × AV)} {St : List AV} {S : SS} : ev c 282 19 [some (aR o), l1, l2] L2 St S = ev c 282 20 [some (aR o), l1, l2] L2 (aR o :: St) S := ev_go i282_19 rfl
theorem i282_20 : insAt 282 20 = some (.aload_n 0, 1, (0, 0, 0, 0), 0) := rfl
theorem s282_20 {c : Nat → List AV → SS → Option Out} {l1 l2 : Option AV} {o : OId} {L2 : List (Nat × AV)} {St : List AV} {S : SS} : ev c 282 20 [some (aR o), l1, l2] L2 St S = ev c 282 21 [some (aR o), l1, l2] L2 (aR o :: St) S := ev_go i282_20 rfl
theorem i282_21 : insAt 282 21 = some (.iload_n 2, 1, (0, 0, 0, 0), 0) := rfl
theorem s282_21 {c : Nat → List AV → SS → Option Out} {l0 l1 : Option AV} {x : Int32} {L2 : List (Nat × AV)} {St : List AV} {S : SS} : ev c 282 21 [l0, l1, some (aI x)] L2 St S = ev c 282 22 [l0, l1, some (aI x)] L2 (aI x :: St) S := ev_go i282_21 rfl
theorem i282_22 : insAt 282 22 = some (.invokevirtual 173, 3, (256, 1, 2, 12), 0) := rfl
theorem s282_22 {c : Nat → List AV → SS → Option Out} {l0 l1 l2 : Option AV} {t0 t1 : AV} {a0 : Int32} {j t : Nat} {L2 : List (Nat × AV)} {S : SS} : ev c 282 22 [l0, l1, l2] L2 [aI a0, aR (12, j, t), t0, t1] S = ck (c 256 [aR (12, j, t), aI a0] S) (fun v S' => ev c 282 25 [l0, l1, l2] L2 (v.toList ++ [t0, t1]) S') := ev_call i282_22 rfl
theorem i282_25 : insAt 282 25 = some (.iconst 3, 1, (0, 0, 0, 0), 0) := rfl
theorem s282_25 {c : Nat → List AV → SS → Option Out} {l0 l1 l2 : Option AV} {L2 : List (Nat × AV)} {St : List AV} {S : SS} : ev c 282 25 [l0, l1, l2] L2 St S = ev c 282 26 [l0, l1, l2] L2 (aI 3 :: St) S := ev_go i282_25 rfl
theorem i282_26 : insAt 282 26 = some (.invokevirtual 75, 3, (234, 2, 2, 12), 0) := rfl
theorem s282_26 {c : Nat → List AV → SS → Option Out} {l0 l1 l2 : Option AV} {t0 : AV} {a0 : Int32} {a1 : Int32} {j t : Nat} {L2 : List (Nat × AV)} {S : SS} : ev c 282 26 [l0, l1, l2] L2 [aI a1, aI a0, aR (12, j, t), t0] S = ck (c 234 [aR (12, j, t), aI a0, aI a1] S) (fun v S' => ev c 282 29 [l0, l1, l2] L2 (v.toList ++ [t0]) S') := ev_call i282_26 rfl
theorem i282_29 : insAt 282 29 = some (.isub, 1, (0, 0, 0, 0), 0) := rfl
theorem s282_29 {c : Nat → List AV → SS → Option Out} {l0 l1 l2 : Option AV} {x y : Int32} {L2 : List (Nat × AV)} {St : List AV} {S : SS} : ev c 282 29 [l0, l1, l2] L2 (aI y :: aI x :: St) S = ev c 282 30 [l0, l1, l2] L2 (aI (x - y) :: St) S := ev_go i282_29 rfl
theorem i282_30 : insAt 282 30 = some (.invokestatic 109, 3, (235, 1, 0, 0), 0) := rfl
theorem s282_30 {c : Nat → List AV → SS → Option Out} {l0 l1 l2 : Option AV} {a0 : Int32} {L2 : List (Nat × AV)} {S : SS} : ev c 282 30 [l0, l1, l2] L2 [aI a0] S = ck (c 235 [aI a0] S) (fun v S' => ev c 282 33 [l0, l1, l2] L2 (v.toList ++ []) S') := ev_call i282_30 rfl
theorem i282_33 : insAt 282 33 = some (.aload_n 0, 1, (0, 0, 0, 0), 0) := rfl
theorem s282_33 {c : Nat → List AV → SS → Option Out} {l1 l2 : Option AV} {o : OId} {L2 : List (Nat × AV)} {St : List AV} {S : SS} : ev c 282 33 [some (aR o), l1, l2] L2 St S = ev c 282 34 [some (aR o), l1, l2] L2 (aR o :: St) S := ev_go i282_33 rfl
theorem i282_34 : insAt 282 34 = some (.aload_n 0, 1, (0, 0, 0, 0), 0) := rfl
theorem s282_34 {c : Nat → List AV → SS → Option Out} {l1 l2 : Option AV} {o : OId} {L2 : List (Nat × AV)} {St : List AV} {S : SS} : ev c 282 34 [some (aR o), l1, l2] L2 St S = ev c 282 35 [some (aR o), l1, l2] L2 (aR o :: St) S := ev_go i282_34 rfl
theorem i282_35 : insAt 282 35 = some (.iload_n 1, 1, (0, 0, 0, 0), 0) := rfl
theorem s282_35 {c : Nat → List AV → SS → Option Out} {l0 l2 : Option AV} {x : Int32} {L2 : List (Nat × AV)} {St : List AV} {S : SS} : ev c 282 35 [l0, some (aI x), l2] L2 St S = ev c 282 36 [l0, some (aI x), l2] L2 (aI x :: St) S := ev_go i282_35 rfl
theorem i282_36 : insAt 282 36 = some (.invokevirtual 173, 3, (256, 1, 2, 12), 0) := rfl
theorem s282_36 {c : Nat → List AV → SS → Option Out} {l0 l1 l2 : Option AV} {t0 t1 : AV} {a0 : Int32} {j t : Nat} {L2 : List (Nat × AV)} {S : SS} : ev c 282 36 [l0, l1, l2] L2 [aI a0, aR (12, j, t), t0, t1] S = ck (c 256 [aR (12, j, t), aI a0] S) (fun v S' => ev c 282 39 [l0, l1, l2] L2 (v.toList ++ [t0, t1]) S') := ev_call i282_36 rfl
theorem i282_39 : insAt 282 39 = some (.aload_n 0, 1, (0, 0, 0, 0), 0) := rfl
theorem s282_39 {c : Nat → List AV → SS → Option Out} {l1 l2 : Option AV} {o : OId} {L2 : List (Nat × AV)} {St : List AV} {S : SS} : ev c 282 39 [some (aR o), l1, l2] L2 St S = ev c 282 40 [some (aR o), l1, l2] L2 (aR o :: St) S := ev_go i282_39 rfl
theorem i282_40 : insAt 282 40 = some (.iload_n 2, 1, (0, 0, 0, 0), 0) := rfl
theorem s282_40 {c : Nat → List AV → SS → Option Out} {l0 l1 : Option AV} {x : Int32} {L2 : List (Nat × AV)} {St : List AV} {S : SS} : ev c 282 40 [l0, l1, some (aI x)] L2 St S = ev c 282 41 [l0, l1, some (aI x)] L2 (aI x :: St) S := ev_go i282_40 rfl
theorem i282_41 : insAt 282 41 = some (.invokevirtual 173, 3, (256, 1, 2, 12), 0) := rfl
theorem s282_41 {c : Nat → List AV → SS → Option Out} {l0 l1 l2 : Option AV} {t0 t1 t2 : AV} {a0 : Int32} {j t : Nat} {L2 : List (Nat × AV)} {S : SS} : ev c 282 41 [l0, l1, l2] L2 [aI a0, aR (12, j, t), t0, t1, t2] S = ck (c 256 [aR (12, j, t), aI a0] S) (fun v S' => ev c 282 44 [l0, l1, l2] L2 (v.toList ++ [t0, t1, t2]) S') := ev_call i282_41 rfl
theorem i282_44 : insAt 282 44 = some (.invokevirtual 112, 3, (243, 2, 2, 12), 0) := rfl
theorem s282_44 {c : Nat → List AV → SS → Option Out} {l0 l1 l2 : Option AV} {t0 : AV} {a0 : Int32} {a1 : Int32} {j t : Nat} {L2 : List (Nat × AV)} {S : SS} : ev c 282 44 [l0, l1, l2] L2 [aI a1, aI a0, aR (12, j, t), t0] S = ck (c 243 [aR (12, j, t), aI a0, aI a1] S) (fun v S' => ev c 282 47 [l0, l1, l2] L2 (v.toList ++ [t0]) S') := ev_call i282_44 rfl
theorem i282_47 : insAt 282 47 = some (.isub, 1, (0, 0, 0, 0), 0) := rfl
theorem s282_47 {c : Nat → List AV → SS → Option Out} {l0 l1 l2 : Option AV} {x y : Int32} {L2 : List (Nat × AV)} {St : List AV} {S : SS} : ev c 282 47 [l0, l1, l2] L2 (aI y :: aI x :: St) S = ev c 282 48 [l0, l1, l2] L2 (aI (x - y) :: St) S := ev_go i282_47 rfl
theorem i282_48 : insAt 282 48 = some (.goto 4, 3, (0, 0, 0, 0), 0) := rfl
theorem s282_48 {c : Nat → List AV → SS → Option Out} {l0 l1 l2 : Option AV} {L2 : List (Nat × AV)} {St : List AV} {S : SS} : ev c 282 48 [l0, l1, l2] L2 St S = ev c 282 52 [l0, l1, l2] L2 St S := ev_go i282_48 rfl
theorem i282_51 : insAt 282 51 = some (.iconst 0, 1, (0, 0, 0, 0), 0) := rfl
theorem s282_51 {c : Nat → List AV → SS → Option Out} {l0 l1 l2 : Option AV} {L2 : List (Nat × AV)} {St : List AV} {S : SS} : ev c 282 51 [l0, l1, l2] L2 St S = ev c 282 52 [l0, l1, l2] L2 (aI 0 :: St) S := ev_go i282_51 rfl
theorem i282_52 : insAt 282 52 = some (.ireturn, 1, (0, 0, 0, 0), 0) := rfl
theorem s282_52 {c : Nat → List AV → SS → Option Out} {l0 l1 l2 : Option AV} {x : Int32} {L2 : List (Nat × AV)} {St : List AV} {S : SS} : ev c 282 52 [l0, l1, l2] L2 [aI x] S = some (.inl (some (aI x)), S) := ev_end i282_52 rfl
theorem m282 {d : Nat} {o : OId} {a0 : Int32} {a1 : Int32} {S : SS} : evm (d + 1) 282 [aR o, aI a0, aI a1] S = ev (evm d) 282 0 [some (aR o), some (aI a0), some (aI a1)] [] [] S := evm_s (n := 3) rfl (Nat.le_of_ble_eq_true rfl) rfl rfl
/-! FrequencyOfficeModel.conflictsAt(III)I -/
theorem i283_0 : insAt 283 0 = some (.aload_n 0, 1, (0, 0, 0, 0), 0) := rfl
theorem s283_0 {c : Nat → List AV → SS → Option Out} {l1 l2 l3 : Option AV} {o : OId} {L2 : List (Nat × AV)} {St : List AV} {S : SS} : ev c 283 0 [some (aR o), l1, l2, l3] L2 St S = ev c 283 1 [some (aR o), l1, l2, l3] L2 (aR o :: St) S := ev_go i283_0 rfl
theorem i283_1 : insAt 283 1 = some (.iload_n 1, 1, (0, 0, 0, 0), 0) := rfl
theorem s283_1 {c : Nat → List AV → SS → Option Out} {l0 l2 l3 : Option AV} {x : Int32} {L2 : List (Nat × AV)} {St : List AV} {S : SS} : ev c 283 1 [l0, some (aI x), l2, l3] L2 St S = ev c 283 2 [l0, some (aI x), l2, l3] L2 (aI x :: St) S := ev_go i283_1 rfl
theorem i283_2 : insAt 283 2 = some (.iload_n 2, 1, (0, 0, 0, 0), 0) := rfl
theorem s283_2 {c : Nat → List AV → SS → Option Out} {l0 l1 l3 : Option AV} {x : Int32} {L2 : List (Nat × AV)} {St : List AV} {S : SS} : ev c 283 2 [l0, l1, some (aI x), l3] L2 St S = ev c 283 3 [l0, l1, some (aI x), l3] L2 (aI x :: St) S := ev_go i283_2 rfl
theorem i283_3 : insAt 283 3 = some (.invokestatic 158, 3, (227, 2, 0, 0), 0) := rfl
theorem s283_3 {c : Nat → List AV → SS → Option Out} {l0 l1 l2 l3 : Option AV} {t0 : AV} {a0 : Int32} {a1 : Int32} {L2 : List (Nat × AV)} {S : SS} : ev c 283 3 [l0, l1, l2, l3] L2 [aI a1, aI a0, t0] S = ck (c 227 [aI a0, aI a1] S) (fun v S' => ev c 283 6 [l0, l1, l2, l3] L2 (v.toList ++ [t0]) S') := ev_call i283_3 rfl
theorem i283_6 : insAt 283 6 = some (.ifCond .eq 17, 3, (0, 0, 0, 0), 0) := rfl
theorem s283_6 {c : Nat → List AV → SS → Option Out} {l0 l1 l2 l3 : Option AV} {x : Int32} {L2 : List (Nat × AV)} {St : List AV} {S : SS} : ev c 283 6 [l0, l1, l2, l3] L2 (aI x :: St) S = if x = 0 then ev c 283 23 [l0, l1, l2, l3] L2 St S else ev c 283 9 [l0, l1, l2, l3] L2 St S := ev_br i283_6 rfl
theorem i283_9 : insAt 283 9 = some (.iload_n 3, 1, (0, 0, 0, 0), 0) := rfl
theorem s283_9 {c : Nat → List AV → SS → Option Out} {l0 l1 l2 : Option AV} {x : Int32} {L2 : List (Nat × AV)} {St : List AV} {S : SS} : ev c 283 9 [l0, l1, l2, some (aI x)] L2 St S = ev c 283 10 [l0, l1, l2, some (aI x)] L2 (aI x :: St) S := ev_go i283_9 rfl
theorem i283_10 : insAt 283 10 = some (.iconst 0, 1, (0, 0, 0, 0), 0) := rfl
theorem s283_10 {c : Nat → List AV → SS → Option Out} {l0 l1 l2 l3 : Option AV} {L2 : List (Nat × AV)} {St : List AV} {S : SS} : ev c 283 10 [l0, l1, l2, l3] L2 St S = ev c 283 11 [l0, l1, l2, l3] L2 (aI 0 :: St) S := ev_go i283_10 rfl
theorem i283_11 : insAt 283 11 = some (.bipush 7, 2, (0, 0, 0, 0), 0) := rfl
theorem s283_11 {c : Nat → List AV → SS → Option Out} {l0 l1 l2 l3 : Option AV} {L2 : List (Nat × AV)} {St : List AV} {S : SS} : ev c 283 11 [l0, l1, l2, l3] L2 St S = ev c 283 13 [l0, l1, l2, l3] L2 (aI 7 :: St) S := ev_go i283_11 rfl
theorem i283_13 : insAt 283 13 = some (.invokestatic 154, 3, (228, 3, 0, 0), 0) := rfl
theorem s283_13 {c : Nat → List AV → SS → Option Out} {l0 l1 l2 l3 : Option AV} {t0 : AV} {a0 : Int32} {a1 : Int32} {a2 : Int32} {L2 : List (Nat × AV)} {S : SS} : ev c 283 13 [l0, l1, l2, l3] L2 [aI a2, aI a1, aI a0, t0] S = ck (c 228 [aI a0, aI a1, aI a2] S) (fun v S' => ev c 283 16 [l0, l1, l2, l3] L2 (v.toList ++ [t0]) S') := ev_call i283_13 rfl
theorem i283_16 : insAt 283 16 = some (.ifCond .eq 7, 3, (0, 0, 0, 0), 0) := rfl
theorem s283_16 {c : Nat → List AV → SS → Option Out} {l0 l1 l2 l3 : Option AV} {x : Int32} {L2 : List (Nat × AV)} {St : List AV} {S : SS} : ev c 283 16 [l0, l1, l2, l3] L2 (aI x :: St) S = if x = 0 then ev c 283 23 [l0, l1, l2, l3] L2 St S else ev c 283 19 [l0, l1, l2, l3] L2 St S := ev_br i283_16 rfl
theorem i283_19 : insAt 283 19 = some (.iconst 1, 1, (0, 0, 0, 0), 0) := rfl
theorem s283_19 {c : Nat → List AV → SS → Option Out} {l0 l1 l2 l3 : Option AV} {L2 : List (Nat × AV)} {St : List AV} {S : SS} : ev c 283 19 [l0, l1, l2, l3] L2 St S = ev c 283 20 [l0, l1, l2, l3] L2 (aI 1 :: St) S := ev_go i283_19 rfl
theorem i283_20 : insAt 283 20 = some (.goto 4, 3, (0, 0, 0, 0), 0) := rfl
theorem s283_20 {c : Nat → List AV → SS → Option Out} {l0 l1 l2 l3 : Option AV} {L2 : List (Nat × AV)} {St : List AV} {S : SS} : ev c 283 20 [l0, l1, l2, l3] L2 St S = ev c 283 24 [l0, l1, l2, l3] L2 St S := ev_go i283_20 rfl
theorem i283_23 : insAt 283 23 = some (.iconst 0, 1, (0, 0, 0, 0), 0) := rfl
theorem s283_23 {c : Nat → List AV → SS → Option Out} {l0 l1 l2 l3 : Option AV} {L2 : List (Nat × AV)} {St : List AV} {S : SS} : ev c 283 23 [l0, l1, l2, l3] L2 St S = ev c 283 24 [l0, l1, l2, l3] L2 (aI 0 :: St) S := ev_go i283_23 rfl
theorem i283_24 : insAt 283 24 = some (.invokevirtual 176, 3, (259, 1, 2, 12), 0) := rfl
theorem s283_24 {c : Nat → List AV → SS → Option Out} {l0 l1 l2 l3 : Option AV} {a0 : Int32} {j t : Nat} {L2 : List (Nat × AV)} {S : SS} : ev c 283 24 [l0, l1, l2, l3] L2 [aI a0, aR (12, j, t)] S = ck (c 259 [aR (12, j, t), aI a0] S) (fun v S' => ev c 283 27 [l0, l1, l2, l3] L2 (v.toList ++ []) S') := ev_call i283_24 rfl
theorem i283_27 : insAt 283 27 = some (.ifCond .le 7, 3, (0, 0, 0, 0), 0) := rfl
theorem s283_27 {c : Nat → List AV → SS → Option Out} {l0 l1 l2 l3 : Option AV} {x : Int32} {L2 : List (Nat × AV)} {St : List AV} {S : SS} : ev c 283 27 [l0, l1, l2, l3] L2 (aI x :: St) S = if x ≤ 0 then ev c 283 34 [l0, l1, l2, l3] L2 St S else ev c 283 30 [l0, l1, l2, l3] L2 St S := ev_br i283_27 rfl
theorem i283_30 : insAt 283 30 = some (.iconst 0, 1, (0, 0, 0, 0), 0) := rfl
theorem s283_30 {c : Nat → List AV → SS → Option Out} {l0 l1 l2 l3 : Option AV} {L2 : List (Nat × AV)} {St : List AV} {S : SS} : ev c 283 30 [l0, l1, l2, l3] L2 St S = ev c 283 31 [l0, l1, l2, l3] L2 (aI 0 :: St) S := ev_go i283_30 rfl
theorem i283_31 : insAt 283 31 = some (.goto 10, 3, (0, 0, 0, 0), 0) := rfl
theorem s283_31 {c : Nat → List AV → SS → Option Out} {l0 l1 l2 l3 : Option AV} {L2 : List (Nat × AV)} {St : List AV} {S : SS} : ev c 283 31 [l0, l1, l2, l3] L2 St S = ev c 283 41 [l0, l1, l2, l3] L2 St S := ev_go i283_31 rfl
theorem i283_34 : insAt 283 34 = some (.aload_n 0, 1, (0, 0, 0, 0), 0) := rfl
theorem s283_34 {c : Nat → List AV → SS → Option Out} {l1 l2 l3 : Option AV} {o : OId} {L2 : List (Nat × AV)} {St : List AV} {S : SS} : ev c 283 34 [some (aR o), l1, l2, l3] L2 St S = ev c 283 35 [some (aR o), l1, l2, l3] L2 (aR o :: St) S := ev_go i283_34 rfl
theorem i283_35 : insAt 283 35 = some (.iload_n 1, 1, (0, 0, 0, 0), 0) := rfl
theorem s283_35 {c : Nat → List AV → SS → Option Out} {l0 l2 l3 : Option AV} {x : Int32} {L2 : List (Nat × AV)} {St : List AV} {S : SS} : ev c 283 35 [l0, some (aI x), l2, l3] L2 St S = ev c 283 36 [l0, some (aI x), l2, l3] L2 (aI x :: St) S := ev_go i283_35 rfl
theorem i283_36 : insAt 283 36 = some (.iload_n 2, 1, (0, 0, 0, 0), 0) := rfl
theorem s283_36 {c : Nat → List AV → SS → Option Out} {l0 l1 l3 : Option AV} {x : Int32} {L2 : List (Nat × AV)} {St : List AV} {S : SS} : ev c 283 36 [l0, l1, some (aI x), l3] L2 St S = ev c 283 37 [l0, l1, some (aI x), l3] L2 (aI x :: St) S := ev_go i283_36 rfl
theorem i283_37 : insAt 283 37 = some (.iload_n 3, 1, (0, 0, 0, 0), 0) := rfl
theorem s283_37 {c : Nat → List AV → SS → Option Out} {l0 l1 l2 : Option AV} {x : Int32} {L2 : List (Nat × AV)} {St : List AV} {S : SS} : ev c 283 37 [l0, l1, l2, some (aI x)] L2 St S = ev c 283 38 [l0, l1, l2, some (aI x)] L2 (aI x :: St) S := ev_go i283_37 rfl
theorem i283_38 : insAt 283 38 = some (.invokevirtual 170, 3, (254, 3, 2, 12), 0) := rfl
theorem s283_38 {c : Nat → List AV → SS → Option Out} {l0 l1 l2 l3 : Option AV} {a0 : Int32} {a1 : Int32} {a2 : Int32} {j t : Nat} {L2 : List (Nat × AV)} {S : SS} : ev c 283 38 [l0, l1, l2, l3] L2 [aI a2, aI a1, aI a0, aR (12, j, t)] S = ck (c 254 [aR (12, j, t), aI a0, aI a1, aI a2] S) (fun v S' => ev c 283 41 [l0, l1, l2, l3] L2 (v.toList ++ []) S') := ev_call i283_38 rfl
theorem i283_41 : insAt 283 41 = some (.ireturn, 1, (0, 0, 0, 0), 0) := rfl
theorem s283_41 {c : Nat → List AV → SS → Option Out} {l0 l1 l2 l3 : Option AV} {x : Int32} {L2 : List (Nat × AV)} {St : List AV} {S : SS} : ev c 283 41 [l0, l1, l2, l3] L2 [aI x] S = some (.inl (some (aI x)), S) := ev_end i283_41 rfl
theorem m283 {d : Nat} {o : OId} {a0 : Int32} {a1 : Int32} {a2 : Int32} {S : SS} : evm (d + 1) 283 [aR o, aI a0, aI a1, aI a2] S = ev (evm d) 283 0 [some (aR o), some (aI a0), some (aI a1), some (aI a2)] [] [] S := evm_s (n := 4) rfl (Nat.le_of_ble_eq_true rfl) rfl rfl
/-! FrequencyOfficeModel.disturbanceAt(III)I -/
theorem i284_0 : insAt 284 0 = some (.aload_n 0, 1, (0, 0, 0, 0), 0) := rfl
theorem s284_0 {c : Nat → List AV → SS → Option Out} {l1 l2 l3 : Option AV} {o : OId} {L2 : List (Nat × AV)} {St : List AV} {S : SS} : ev c 284 0 [some (aR o), l1, l2, l3] L2 St S = ev c 284 1 [some (aR o), l1, l2, l3] L2 (aR o :: St) S := ev_go i284_0 rfl
theorem i284_1 : insAt 284 1 = some (.iload_n 1, 1, (0, 0, 0, 0), 0) := rfl
theorem s284_1 {c : Nat → List AV → SS → Option Out} {l0 l2 l3 : Option AV} {x : Int32} {L2 : List (Nat × AV)} {St : List AV} {S : SS} : ev c 284 1 [l0, some (aI x), l2, l3] L2 St S = ev c 284 2 [l0, some (aI x), l2, l3] L2 (aI x :: St) S := ev_go i284_1 rfl
theorem i284_2 : insAt 284 2 = some (.iload_n 2, 1, (0, 0, 0, 0), 0) := rfl
theorem s284_2 {c : Nat → List AV → SS → Option Out} {l0 l1 l3 : Option AV} {x : Int32} {L2 : List (Nat × AV)} {St : List AV} {S : SS} : ev c 284 2 [l0, l1, some (aI x), l3] L2 St S = ev c 284 3 [l0, l1, some (aI x), l3] L2 (aI x :: St) S := ev_go i284_2 rfl
theorem i284_3 : insAt 284 3 = some (.invokestatic 158, 3, (227, 2, 0, 0), 0) := rfl
theorem s284_3 {c : Nat → List AV → SS → Option Out} {l0 l1 l2 l3 : Option AV} {t0 : AV} {a0 : Int32} {a1 : Int32} {L2 : List (Nat × AV)} {S : SS} : ev c 284 3 [l0, l1, l2, l3] L2 [aI a1, aI a0, t0] S = ck (c 227 [aI a0, aI a1] S) (fun v S' => ev c 284 6 [l0, l1, l2, l3] L2 (v.toList ++ [t0]) S') := ev_call i284_3 rfl
theorem i284_6 : insAt 284 6 = some (.ifCond .eq 17, 3, (0, 0, 0, 0), 0) := rfl
theorem s284_6 {c : Nat → List AV → SS → Option Out} {l0 l1 l2 l3 : Option AV} {x : Int32} {L2 : List (Nat × AV)} {St : List AV} {S : SS} : ev c 284 6 [l0, l1, l2, l3] L2 (aI x :: St) S = if x = 0 then ev c 284 23 [l0, l1, l2, l3] L2 St S else ev c 284 9 [l0, l1, l2, l3] L2 St S := ev_br i284_6 rfl
theorem i284_9 : insAt 284 9 = some (.iload_n 3, 1, (0, 0, 0, 0), 0) := rfl
theorem s284_9 {c : Nat → List AV → SS → Option Out} {l0 l1 l2 : Option AV} {x : Int32} {L2 : List (Nat × AV)} {St : List AV} {S : SS} : ev c 284 9 [l0, l1, l2, some (aI x)] L2 St S = ev c 284 10 [l0, l1, l2, some (aI x)] L2 (aI x :: St) S := ev_go i284_9 rfl
theorem i284_10 : insAt 284 10 = some (.iconst 0, 1, (0, 0, 0, 0), 0) := rfl
theorem s284_10 {c : Nat → List AV → SS → Option Out} {l0 l1 l2 l3 : Option AV} {L2 : List (Nat × AV)} {St : List AV} {S : SS} : ev c 284 10 [l0, l1, l2, l3] L2 St S = ev c 284 11 [l0, l1, l2, l3] L2 (aI 0 :: St) S := ev_go i284_10 rfl
theorem i284_11 : insAt 284 11 = some (.bipush 7, 2, (0, 0, 0, 0), 0) := rfl
theorem s284_11 {c : Nat → List AV → SS → Option Out} {l0 l1 l2 l3 : Option AV} {L2 : List (Nat × AV)} {St : List AV} {S : SS} : ev c 284 11 [l0, l1, l2, l3] L2 St S = ev c 284 13 [l0, l1, l2, l3] L2 (aI 7 :: St) S := ev_go i284_11 rfl
theorem i284_13 : insAt 284 13 = some (.invokestatic 154, 3, (228, 3, 0, 0), 0) := rfl
theorem s284_13 {c : Nat → List AV → SS → Option Out} {l0 l1 l2 l3 : Option AV} {t0 : AV} {a0 : Int32} {a1 : Int32} {a2 : Int32} {L2 : List (Nat × AV)} {S : SS} : ev c 284 13 [l0, l1, l2, l3] L2 [aI a2, aI a1, aI a0, t0] S = ck (c 228 [aI a0, aI a1, aI a2] S) (fun v S' => ev c 284 16 [l0, l1, l2, l3] L2 (v.toList ++ [t0]) S') := ev_call i284_13 rfl
theorem i284_16 : insAt 284 16 = some (.ifCond .eq 7, 3, (0, 0, 0, 0), 0) := rfl
theorem s284_16 {c : Nat → List AV → SS → Option Out} {l0 l1 l2 l3 : Option AV} {x : Int32} {L2 : List (Nat × AV)} {St : List AV} {S : SS} : ev c 284 16 [l0, l1, l2, l3] L2 (aI x :: St) S = if x = 0 then ev c 284 23 [l0, l1, l2, l3] L2 St S else ev c 284 19 [l0, l1, l2, l3] L2 St S := ev_br i284_16 rfl
theorem i284_19 : insAt 284 19 = some (.iconst 1, 1, (0, 0, 0, 0), 0) := rfl
theorem s284_19 {c : Nat → List AV → SS → Option Out} {l0 l1 l2 l3 : Option AV} {L2 : List (Nat × AV)} {St : List AV} {S : SS} : ev c 284 19 [l0, l1, l2, l3] L2 St S = ev c 284 20 [l0, l1, l2, l3] L2 (aI 1 :: St) S := ev_go i284_19 rfl
theorem i284_20 : insAt 284 20 = some (.goto 4, 3, (0, 0, 0, 0), 0) := rfl
theorem s284_20 {c : Nat → List AV → SS → Option Out} {l0 l1 l2 l3 : Option AV} {L2 : List (Nat × AV)} {St : List AV} {S : SS} : ev c 284 20 [l0, l1, l2, l3] L2 St S = ev c 284 24 [l0, l1, l2, l3] L2 St S := ev_go i284_20 rfl
theorem i284_23 : insAt 284 23 = some (.iconst 0, 1, (0, 0, 0, 0), 0) := rfl
theorem s284_23 {c : Nat → List AV → SS → Option Out} {l0 l1 l2 l3 : Option AV} {L2 : List (Nat × AV)} {St : List AV} {S : SS} : ev c 284 23 [l0, l1, l2, l3] L2 St S = ev c 284 24 [l0, l1, l2, l3] L2 (aI 0 :: St) S := ev_go i284_23 rfl
theorem i284_24 : insAt 284 24 = some (.invokevirtual 176, 3, (259, 1, 2, 12), 0) := rfl
theorem s284_24 {c : Nat → List AV → SS → Option Out} {l0 l1 l2 l3 : Option AV} {a0 : Int32} {j t : Nat} {L2 : List (Nat × AV)} {S : SS} : ev c 284 24 [l0, l1, l2, l3] L2 [aI a0, aR (12, j, t)] S = ck (c 259 [aR (12, j, t), aI a0] S) (fun v S' => ev c 284 27 [l0, l1, l2, l3] L2 (v.toList ++ []) S') := ev_call i284_24 rfl
theorem i284_27 : insAt 284 27 = some (.ifCond .le 7, 3, (0, 0, 0, 0), 0) := rfl
theorem s284_27 {c : Nat → List AV → SS → Option Out} {l0 l1 l2 l3 : Option AV} {x : Int32} {L2 : List (Nat × AV)} {St : List AV} {S : SS} : ev c 284 27 [l0, l1, l2, l3] L2 (aI x :: St) S = if x ≤ 0 then ev c 284 34 [l0, l1, l2, l3] L2 St S else ev c 284 30 [l0, l1, l2, l3] L2 St S := ev_br i284_27 rfl
theorem i284_30 : insAt 284 30 = some (.iconst 0, 1, (0, 0, 0, 0), 0) := rfl
theorem s284_30 {c : Nat → List AV → SS → Option Out} {l0 l1 l2 l3 : Option AV} {L2 : List (Nat × AV)} {St : List AV} {S : SS} : ev c 284 30 [l0, l1, l2, l3] L2 St S = ev c 284 31 [l0, l1, l2, l3] L2 (aI 0 :: St) S := ev_go i284_30 rfl
theorem i284_31 : insAt 284 31 = some (.goto 11, 3, (0, 0, 0, 0), 0) := rfl
theorem s284_31 {c : Nat → List AV → SS → Option Out} {l0 l1 l2 l3 : Option AV} {L2 : List (Nat × AV)} {St : List AV} {S : SS} : ev c 284 31 [l0, l1, l2, l3] L2 St S = ev c 284 42 [l0, l1, l2, l3] L2 St S := ev_go i284_31 rfl
theorem i284_34 : insAt 284 34 = some (.aload_n 0, 1, (0, 0, 0, 0), 0) := rfl
theorem s284_34 {c : Nat → List AV → SS → Option Out} {l1 l2 l3 : Option AV} {o : OId} {L2 : List (Nat × AV)} {St : List AV} {S : SS} : ev c 284 34 [some (aR o), l1, l2, l3] L2 St S = ev c 284 35 [some (aR o), l1, l2, l3] L2 (aR o :: St) S := ev_go i284_34 rfl
theorem i284_35 : insAt 284 35 = some (.iload_n 1, 1, (0, 0, 0, 0), 0) := rfl
theorem s284_35 {c : Nat → List AV → SS → Option Out} {l0 l2 l3 : Option AV} {x : Int32} {L2 : List (Nat × AV)} {St : List AV} {S : SS} : ev c 284 35 [l0, some (aI x), l2, l3] L2 St S = ev c 284 36 [l0, some (aI x), l2, l3] L2 (aI x :: St) S := ev_go i284_35 rfl
theorem i284_36 : insAt 284 36 = some (.iload_n 2, 1, (0, 0, 0, 0), 0) := rfl
theorem s284_36 {c : Nat → List AV → SS → Option Out} {l0 l1 l3 : Option AV} {x : Int32} {L2 : List (Nat × AV)} {St : List AV} {S : SS} : ev c 284 36 [l0, l1, some (aI x), l3] L2 St S = ev c 284 37 [l0, l1, some (aI x), l3] L2 (aI x :: St) S := ev_go i284_36 rfl
theorem i284_37 : insAt 284 37 = some (.iload_n 3, 1, (0, 0, 0, 0), 0) := rfl
theorem s284_37 {c : Nat → List AV → SS → Option Out} {l0 l1 l2 : Option AV} {x : Int32} {L2 : List (Nat × AV)} {St : List AV} {S : SS} : ev c 284 37 [l0, l1, l2, some (aI x)] L2 St S = ev c 284 38 [l0, l1, l2, some (aI x)] L2 (aI x :: St) S := ev_go i284_37 rfl
theorem i284_38 : insAt 284 38 = some (.iconst (-1), 1, (0, 0, 0, 0), 0) := rfl
theorem s284_38 {c : Nat → List AV → SS → Option Out} {l0 l1 l2 l3 : Option AV} {L2 : List (Nat × AV)} {St : List AV} {S : SS} : ev c 284 38 [l0, l1, l2, l3] L2 St S = ev c 284 39 [l0, l1, l2, l3] L2 (aI (-1) :: St) S := ev_go i284_38 rfl
theorem i284_39 : insAt 284 39 = some (.invokevirtual 125, 3, (241, 4, 2, 12), 0) := rfl
theorem s284_39 {c : Nat → List AV → SS → Option Out} {l0 l1 l2 l3 : Option AV} {a0 : Int32} {a1 : Int32} {a2 : Int32} {a3 : Int32} {j t : Nat} {L2 : List (Nat × AV)} {S : SS} : ev c 284 39 [l0, l1, l2, l3] L2 [aI a3, aI a2, aI a1, aI a0, aR (12, j, t)] S = ck (c 241 [aR (12, j, t), aI a0, aI a1, aI a2, aI a3] S) (fun v S' => ev c 284 42 [l0, l1, l2, l3] L2 (v.toList ++ []) S') := ev_call i284_39 rfl
theorem i284_42 : insAt 284 42 = some (.ireturn, 1, (0, 0, 0, 0), 0) := rfl
theorem s284_42 {c : Nat → List AV → SS → Option Out} {l0 l1 l2 l3 : Option AV} {x : Int32} {L2 : List (Nat × AV)} {St : List AV} {S : SS} : ev c 284 42 [l0, l1, l2, l3] L2 [aI x] S = some (.inl (some (aI x)), S) := ev_end i284_42 rfl
theorem m284 {d : Nat} {o : OId} {a0 : Int32} {a1 : Int32} {a2 : Int32} {S : SS} : evm (d + 1) 284 [aR o, aI a0, aI a1, aI a2] S = ev (evm d) 284 0 [some (aR o), some (aI a0), some (aI a1), some (aI a2)] [] [] S := evm_s (n := 4) rfl (Nat.le_of_ble_eq_true rfl) rfl rfl
/-! FrequencyOfficeModel.meanDisturbance()F -/
theorem i285_0 : insAt 285 0 = some (.aload_n 0, 1, (0, 0, 0, 0), 0) := rfl
theorem s285_0 {c : Nat → List AV → SS → Option Out} {l1 l2 : Option AV} {o : OId} {L2 : List (Nat × AV)} {St : List AV} {S : SS} : ev c 285 0 [some (aR o), l1, l2] L2 St S = ev c 285 1 [some (aR o), l1, l2] L2 (aR o :: St) S := ev_go i285_0 rfl
theorem i285_1 : insAt 285 1 = some (.aload_n 0, 1, (0, 0, 0, 0), 0) := rfl
theorem s285_1 {c : Nat → List AV → SS → Option Out} {l1 l2 : Option AV} {o : OId} {L2 : List (Nat × AV)} {St : List AV} {S : SS} : ev c 285 1 [some (aR o), l1, l2] L2 St S = ev c 285 2 [some (aR o), l1, l2] L2 (aR o :: St) S := ev_go i285_1 rfl
theorem i285_2 : insAt 285 2 = some (.invokevirtual 180, 3, (264, 0, 2, 12), 0) := rfl
theorem s285_2 {c : Nat → List AV → SS → Option Out} {l0 l1 l2 : Option AV} {t0 : AV} {j t : Nat} {L2 : List (Nat × AV)} {S : SS} : ev c 285 2 [l0, l1, l2] L2 [aR (12, j, t), t0] S = ck (c 264 [aR (12, j, t)] S) (fun v S' => ev c 285 5 [l0, l1, l2] L2 (v.toList ++ [t0]) S') := ev_call i285_2 rfl
theorem i285_5 : insAt 285 5 = some (.ifCond .le 7, 3, (0, 0, 0, 0), 0) := rfl
theorem s285_5 {c : Nat → List AV → SS → Option Out} {l0 l1 l2 : Option AV} {x : Int32} {L2 : List (Nat × AV)} {St : List AV} {S : SS} : ev c 285 5 [l0, l1, l2] L2 (aI x :: St) S = if x ≤ 0 then ev c 285 12 [l0, l1, l2] L2 St S else ev c 285 8 [l0, l1, l2] L2 St S := ev_br i285_5 rfl
theorem i285_8 : insAt 285 8 = some (.iconst 1, 1, (0, 0, 0, 0), 0) := rfl
theorem s285_8 {c : Nat → List AV → SS → Option Out} {l0 l1 l2 : Option AV} {L2 : List (Nat × AV)} {St : List AV} {S : SS} : ev c 285 8 [l0, l1, l2] L2 St S = ev c 285 9 [l0, l1, l2] L2 (aI 1 :: St) S := ev_go i285_8 rfl
theorem i285_9 : insAt 285 9 = some (.goto 4, 3, (0, 0, 0, 0), 0) := rfl
theorem s285_9 {c : Nat → List AV → SS → Option Out} {l0 l1 l2 : Option AV} {L2 : List (Nat × AV)} {St : List AV} {S : SS} : ev c 285 9 [l0, l1, l2] L2 St S = ev c 285 13 [l0, l1, l2] L2 St S := ev_go i285_9 rfl
theorem i285_12 : insAt 285 12 = some (.iconst 0, 1, (0, 0, 0, 0), 0) := rfl
theorem s285_12 {c : Nat → List AV → SS → Option Out} {l0 l1 l2 : Option AV} {L2 : List (Nat × AV)} {St : List AV} {S : SS} : ev c 285 12 [l0, l1, l2] L2 St S = ev c 285 13 [l0, l1, l2] L2 (aI 0 :: St) S := ev_go i285_12 rfl
theorem i285_13 : insAt 285 13 = some (.invokevirtual 176, 3, (259, 1, 2, 12), 0) := rfl
theorem s285_13 {c : Nat → List AV → SS → Option Out} {l0 l1 l2 : Option AV} {a0 : Int32} {j t : Nat} {L2 : List (Nat × AV)} {S : SS} : ev c 285 13 [l0, l1, l2] L2 [aI a0, aR (12, j, t)] S = ck (c 259 [aR (12, j, t), aI a0] S) (fun v S' => ev c 285 16 [l0, l1, l2] L2 (v.toList ++ []) S') := ev_call i285_13 rfl
theorem i285_16 : insAt 285 16 = some (.ifCond .le 5, 3, (0, 0, 0, 0), 0) := rfl
theorem s285_16 {c : Nat → List AV → SS → Option Out} {l0 l1 l2 : Option AV} {x : Int32} {L2 : List (Nat × AV)} {St : List AV} {S : SS} : ev c 285 16 [l0, l1, l2] L2 (aI x :: St) S = if x ≤ 0 then ev c 285 21 [l0, l1, l2] L2 St S else ev c 285 19 [l0, l1, l2] L2 St S := ev_br i285_16 rfl
theorem i285_19 : insAt 285 19 = some (.fconst 0, 1, (0, 0, 0, 0), 0) := rfl
theorem s285_19 {c : Nat → List AV → SS → Option Out} {l0 l1 l2 : Option AV} {L2 : List (Nat × AV)} {St : List AV} {S : SS} : ev c 285 19 [l0, l1, l2] L2 St S = ev c 285 20 [l0, l1, l2] L2 (aF 0 :: St) S := ev_go i285_19 rfl
theorem i285_20 : insAt 285 20 = some (.freturn, 1, (0, 0, 0, 0), 0) := rfl
theorem s285_20 {c : Nat → List AV → SS → Option Out} {l0 l1 l2 : Option AV} {x : UInt32} {L2 : List (Nat × AV)} {St : List AV} {S : SS} : ev c 285 20 [l0, l1, l2] L2 [aF x] S = some (.inl (some (aF x)), S) := ev_end i285_20 rfl
theorem i285_21 : insAt 285 21 = some (.iconst 0, 1, (0, 0, 0, 0), 0) := rfl
theorem s285_21 {c : Nat → List AV → SS → Option Out} {l0 l1 l2 : Option AV} {L2 : List (Nat × AV)} {St : List AV} {S : SS} : ev c 285 21 [l0, l1, l2] L2 St S = ev c 285 22 [l0, l1, l2] L2 (aI 0 :: St) S := ev_go i285_21 rfl
theorem i285_22 : insAt 285 22 = some (.istore_n 1, 1, (0, 0, 0, 0), 0) := rfl
theorem s285_22 {c : Nat → List AV → SS → Option Out} {l0 l1 l2 : Option AV} {x : Int32} {L2 : List (Nat × AV)} {St : List AV} {S : SS} : ev c 285 22 [l0, l1, l2] L2 (aI x :: St) S = ev c 285 23 [l0, some (aI x), l2] (kil L2 1) St S := ev_go i285_22 rfl
theorem i285_23 : insAt 285 23 = some (.iconst 0, 1, (0, 0, 0, 0), 0) := rfl
theorem s285_23 {c : Nat → List AV → SS → Option Out} {l0 l1 l2 : Option AV} {L2 : List (Nat × AV)} {St : List AV} {S : SS} : ev c 285 23 [l0, l1, l2] L2 St S = ev c 285 24 [l0, l1, l2] L2 (aI 0 :: St) S := ev_go i285_23 rfl
theorem i285_24 : insAt 285 24 = some (.istore_n 2, 1, (0, 0, 0, 0), 0) := rfl
theorem s285_24 {c : Nat → List AV → SS → Option Out} {l0 l1 l2 : Option AV} {x : Int32} {L2 : List (Nat × AV)} {St : List AV} {S : SS} : ev c 285 24 [l0, l1, l2] L2 (aI x :: St) S = ev c 285 25 [l0, l1, some (aI x)] (kil L2 2) St S := ev_go i285_24 rfl
theorem i285_25 : insAt 285 25 = some (.iload_n 2, 1, (0, 0, 0, 0), 0) := rfl
theorem s285_25 {c : Nat → List AV → SS → Option Out} {l0 l1 : Option AV} {x : Int32} {L2 : List (Nat × AV)} {St : List AV} {S : SS} : ev c 285 25 [l0, l1, some (aI x)] L2 St S = ev c 285 26 [l0, l1, some (aI x)] L2 (aI x :: St) S := ev_go i285_25 rfl
theorem i285_26 : insAt 285 26 = some (.aload_n 0, 1, (0, 0, 0, 0), 0) := rfl
theorem s285_26 {c : Nat → List AV → SS → Option Out} {l1 l2 : Option AV} {o : OId} {L2 : List (Nat × AV)} {St : List AV} {S : SS} : ev c 285 26 [some (aR o), l1, l2] L2 St S = ev c 285 27 [some (aR o), l1, l2] L2 (aR o :: St) S := ev_go i285_26 rfl
theorem i285_27 : insAt 285 27 = some (.getfield 7, 3, (12, 0, 0, 0), 0) := rfl
theorem s285_27 {c : Nat → List AV → SS → Option Out} {l0 l1 l2 : Option AV} {j t : Nat} {L2 : List (Nat × AV)} {St : List AV} {S : SS} : ev c 285 27 [l0, l1, l2] L2 (aR (12, j, t) :: St) S = ev c 285 30 [l0, l1, l2] L2 (S.2.2.1 (12, j, t) 0 :: St) S := ev_go i285_27 rfl
theorem i285_30 : insAt 285 30 = some (.bipush 7, 2, (0, 0, 0, 0), 0) := rfl
theorem s285_30 {c : Nat → List AV → SS → Option Out} {l0 l1 l2 : Option AV} {L2 : List (Nat × AV)} {St : List AV} {S : SS} : ev c 285 30 [l0, l1, l2] L2 St S = ev c 285 32 [l0, l1, l2] L2 (aI 7 :: St) S := ev_go i285_30 rfl
theorem i285_32 : insAt 285 32 = some (.iaload, 1, (0, 0, 0, 0), 0) := rfl
theorem s285_32 {c : Nat → List AV → SS → Option Out} {l0 l1 l2 : Option AV} {i : Int32} {o : OId} {L2 : List (Nat × AV)} {St : List AV} {S : SS} : ev c 285 32 [l0, l1, l2] L2 (aI i :: aR o :: St) S = kI o i (ev c 285 33 [l0, l1, l2] L2 (aI (agI S o i.toNatClampNeg) :: St) S) := ev_iaload i285_32
theorem i285_33 : insAt 285 33 = some (.if_icmp .ge 47, 3, (0, 0, 0, 0), 0) := rfl
theorem s285_33 {c : Nat → List AV → SS → Option Out} {l0 l1 l2 : Option AV} {x y : Int32} {L2 : List (Nat × AV)} {St : List AV} {S : SS} : ev c 285 33 [l0, l1, l2] L2 (aI y :: aI x :: St) S = if y ≤ x then ev c 285 80 [l0, l1, l2] L2 St S else ev c 285 36 [l0, l1, l2] L2 St S := ev_br i285_33 rfl
theorem i285_36 : insAt 285 36 = some (.iload_n 1, 1, (0, 0, 0, 0), 0) := rfl
theorem s285_36 {c : Nat → List AV → SS → Option Out} {l0 l2 : Option AV} {x : Int32} {L2 : List (Nat × AV)} {St : List AV} {S : SS} : ev c 285 36 [l0, some (aI x), l2] L2 St S = ev c 285 37 [l0, some (aI x), l2] L2 (aI x :: St) S := ev_go i285_36 rfl
theorem i285_37 : insAt 285 37 = some (.aload_n 0, 1, (0, 0, 0, 0), 0) := rfl
theorem s285_37 {c : Nat → List AV → SS → Option Out} {l1 l2 : Option AV} {o : OId} {L2 : List (Nat × AV)} {St : List AV} {S : SS} : ev c 285 37 [some (aR o), l1, l2] L2 St S = ev c 285 38 [some (aR o), l1, l2] L2 (aR o :: St) S := ev_go i285_37 rfl
theorem i285_38 : insAt 285 38 = some (.iload_n 2, 1, (0, 0, 0, 0), 0) := rfl
theorem s285_38 {c : Nat → List AV → SS → Option Out} {l0 l1 : Option AV} {x : Int32} {L2 : List (Nat × AV)} {St : List AV} {S : SS} : ev c 285 38 [l0, l1, some (aI x)] L2 St S = ev c 285 39 [l0, l1, some (aI x)] L2 (aI x :: St) S := ev_go i285_38 rfl
theorem i285_39 : insAt 285 39 = some (.invokevirtual 115, 3, (233, 1, 2, 12), 0) := rfl
theorem s285_39 {c : Nat → List AV → SS → Option Out} {l0 l1 l2 : Option AV} {t0 : AV} {a0 : Int32} {j t : Nat} {L2 : List (Nat × AV)} {S : SS} : ev c 285 39 [l0, l1, l2] L2 [aI a0, aR (12, j, t), t0] S = ck (c 233 [aR (12, j, t), aI a0] S) (fun v S' => ev c 285 42 [l0, l1, l2] L2 (v.toList ++ [t0]) S') := ev_call i285_39 rfl
theorem i285_42 : insAt 285 42 = some (.ifCond .eq 29, 3, (0, 0, 0, 0), 0) := rfl
theorem s285_42 {c : Nat → List AV → SS → Option Out} {l0 l1 l2 : Option AV} {x : Int32} {L2 : List (Nat × AV)} {St : List AV} {S : SS} : ev c 285 42 [l0, l1, l2] L2 (aI x :: St) S = if x = 0 then ev c 285 71 [l0, l1, l2] L2 St S else ev c 285 45 [l0, l1, l2] L2 St S := ev_br i285_42 rfl
theorem i285_45 : insAt 285 45 = some (.aload_n 0, 1, (0, 0, 0, 0), 0) := rfl
theorem s285_45 {c : Nat → List AV → SS → Option Out} {l1 l2 : Option AV} {o : OId} {L2 : List (Nat × AV)} {St : List AV} {S : SS} : ev c 285 45 [some (aR o), l1, l2] L2 St S = ev c 285 46 [some (aR o), l1, l2] L2 (aR o :: St) S := ev_go i285_45 rfl
theorem i285_46 : insAt 285 46 = some (.aload_n 0, 1, (0, 0, 0, 0), 0) := rfl
theorem s285_46 {c : Nat → List AV → SS → Option Out} {l1 l2 : Option AV} {o : OId} {L2 : List (Nat × AV)} {St : List AV} {S : SS} : ev c 285 46 [some (aR o), l1, l2] L2 St S = ev c 285 47 [some (aR o), l1, l2] L2 (aR o :: St) S := ev_go i285_46 rfl
theorem i285_47 : insAt 285 47 = some (.iload_n 2, 1, (0, 0, 0, 0), 0) := rfl
theorem s285_47 {c : Nat → List AV → SS → Option Out} {l0 l1 : Option AV} {x : Int32} {L2 : List (Nat × AV)} {St : List AV} {S : SS} : ev c 285 47 [l0, l1, some (aI x)] L2 St S = ev c 285 48 [l0, l1, some (aI x)] L2 (aI x :: St) S := ev_go i285_47 rfl
theorem i285_48 : insAt 285 48 = some (.iconst 1, 1, (0, 0, 0, 0), 0) := rfl
theorem s285_48 {c : Nat → List AV → SS → Option Out} {l0 l1 l2 : Option AV} {L2 : List (Nat × AV)} {St : List AV} {S : SS} : ev c 285 48 [l0, l1, l2] L2 St S = ev c 285 49 [l0, l1, l2] L2 (aI 1 :: St) S := ev_go i285_48 rfl
theorem i285_49 : insAt 285 49 = some (.invokevirtual 75, 3, (234, 2, 2, 12), 0) := rfl
theorem s285_49 {c : Nat → List AV → SS → Option Out} {l0 l1 l2 : Option AV} {t0 t1 : AV} {a0 : Int32} {a1 : Int32} {j t : Nat} {L2 : List (Nat × AV)} {S : SS} : ev c 285 49 [l0, l1, l2] L2 [aI a1, aI a0, aR (12, j, t), t0, t1] S = ck (c 234 [aR (12, j, t), aI a0, aI a1] S) (fun v S' => ev c 285 52 [l0, l1, l2] L2 (v.toList ++ [t0, t1]) S') := ev_call i285_49 rfl
theorem i285_52 : insAt 285 52 = some (.aload_n 0, 1, (0, 0, 0, 0), 0) := rfl
theorem s285_52 {c : Nat → List AV → SS → Option Out} {l1 l2 : Option AV} {o : OId} {L2 : List (Nat × AV)} {St : List AV} {S : SS} : ev c 285 52 [some (aR o), l1, l2] L2 St S = ev c 285 53 [some (aR o), l1, l2] L2 (aR o :: St) S := ev_go i285_52 rfl
theorem i285_53 : insAt 285 53 = some (.iload_n 2, 1, (0, 0, 0, 0), 0) := rfl
theorem s285_53 {c : Nat → List AV → SS → Option Out} {l0 l1 : Option AV} {x : Int32} {L2 : List (Nat × AV)} {St : List AV} {S : SS} : ev c 285 53 [l0, l1, some (aI x)] L2 St S = ev c 285 54 [l0, l1, some (aI x)] L2 (aI x :: St) S := ev_go i285_53 rfl
theorem i285_54 : insAt 285 54 = some (.iconst 2, 1, (0, 0, 0, 0), 0) := rfl
theorem s285_54 {c : Nat → List AV → SS → Option Out} {l0 l1 l2 : Option AV} {L2 : List (Nat × AV)} {St : List AV} {S : SS} : ev c 285 54 [l0, l1, l2] L2 St S = ev c 285 55 [l0, l1, l2] L2 (aI 2 :: St) S := ev_go i285_54 rfl
theorem i285_55 : insAt 285 55 = some (.invokevirtual 75, 3, (234, 2, 2, 12), 0) := rfl
theorem s285_55 {c : Nat → List AV → SS → Option Out} {l0 l1 l2 : Option AV} {t0 t1 t2 : AV} {a0 : Int32} {a1 : Int32} {j t : Nat} {L2 : List (Nat × AV)} {S : SS} : ev c 285 55 [l0, l1, l2] L2 [aI a1, aI a0, aR (12, j, t), t0, t1, t2] S = ck (c 234 [aR (12, j, t), aI a0, aI a1] S) (fun v S' => ev c 285 58 [l0, l1, l2] L2 (v.toList ++ [t0, t1, t2]) S') := ev_call i285_55 rfl
theorem i285_58 : insAt 285 58 = some (.aload_n 0, 1, (0, 0, 0, 0), 0) := rfl
theorem s285_58 {c : Nat → List AV → SS → Option Out} {l1 l2 : Option AV} {o : OId} {L2 : List (Nat × AV)} {St : List AV} {S : SS} : ev c 285 58 [some (aR o), l1, l2] L2 St S = ev c 285 59 [some (aR o), l1, l2] L2 (aR o :: St) S := ev_go i285_58 rfl
theorem i285_59 : insAt 285 59 = some (.iload_n 2, 1, (0, 0, 0, 0), 0) := rfl
theorem s285_59 {c : Nat → List AV → SS → Option Out} {l0 l1 : Option AV} {x : Int32} {L2 : List (Nat × AV)} {St : List AV} {S : SS} : ev c 285 59 [l0, l1, some (aI x)] L2 St S = ev c 285 60 [l0, l1, some (aI x)] L2 (aI x :: St) S := ev_go i285_59 rfl
theorem i285_60 : insAt 285 60 = some (.iconst 3, 1, (0, 0, 0, 0), 0) := rfl
theorem s285_60 {c : Nat → List AV → SS → Option Out} {l0 l1 l2 : Option AV} {L2 : List (Nat × AV)} {St : List AV} {S : SS} : ev c 285 60 [l0, l1, l2] L2 St S = ev c 285 61 [l0, l1, l2] L2 (aI 3 :: St) S := ev_go i285_60 rfl
theorem i285_61 : insAt 285 61 = some (.invokevirtual 75, 3, (234, 2, 2, 12), 0) := rfl
theorem s285_61 {c : Nat → List AV → SS → Option Out} {l0 l1 l2 : Option AV} {t0 t1 t2 t3 : AV} {a0 : Int32} {a1 : Int32} {j t : Nat} {L2 : List (Nat × AV)} {S : SS} : ev c 285 61 [l0, l1, l2] L2 [aI a1, aI a0, aR (12, j, t), t0, t1, t2, t3] S = ck (c 234 [aR (12, j, t), aI a0, aI a1] S) (fun v S' => ev c 285 64 [l0, l1, l2] L2 (v.toList ++ [t0, t1, t2, t3]) S') := ev_call i285_61 rfl
theorem i285_64 : insAt 285 64 = some (.iload_n 2, 1, (0, 0, 0, 0), 0) := rfl
theorem s285_64 {c : Nat → List AV → SS → Option Out} {l0 l1 : Option AV} {x : Int32} {L2 : List (Nat × AV)} {St : List AV} {S : SS} : ev c 285 64 [l0, l1, some (aI x)] L2 St S = ev c 285 65 [l0, l1, some (aI x)] L2 (aI x :: St) S := ev_go i285_64 rfl
theorem i285_65 : insAt 285 65 = some (.invokevirtual 125, 3, (241, 4, 2, 12), 0) := rfl
theorem s285_65 {c : Nat → List AV → SS → Option Out} {l0 l1 l2 : Option AV} {t0 : AV} {a0 : Int32} {a1 : Int32} {a2 : Int32} {a3 : Int32} {j t : Nat} {L2 : List (Nat × AV)} {S : SS} : ev c 285 65 [l0, l1, l2] L2 [aI a3, aI a2, aI a1, aI a0, aR (12, j, t), t0] S = ck (c 241 [aR (12, j, t), aI a0, aI a1, aI a2, aI a3] S) (fun v S' => ev c 285 68 [l0, l1, l2] L2 (v.toList ++ [t0]) S') := ev_call i285_65 rfl
theorem i285_68 : insAt 285 68 = some (.goto 4, 3, (0, 0, 0, 0), 0) := rfl
theorem s285_68 {c : Nat → List AV → SS → Option Out} {l0 l1 l2 : Option AV} {L2 : List (Nat × AV)} {St : List AV} {S : SS} : ev c 285 68 [l0, l1, l2] L2 St S = ev c 285 72 [l0, l1, l2] L2 St S := ev_go i285_68 rfl
theorem i285_71 : insAt 285 71 = some (.iconst 0, 1, (0, 0, 0, 0), 0) := rfl
theorem s285_71 {c : Nat → List AV → SS → Option Out} {l0 l1 l2 : Option AV} {L2 : List (Nat × AV)} {St : List AV} {S : SS} : ev c 285 71 [l0, l1, l2] L2 St S = ev c 285 72 [l0, l1, l2] L2 (aI 0 :: St) S := ev_go i285_71 rfl
theorem i285_72 : insAt 285 72 = some (.iadd, 1, (0, 0, 0, 0), 0) := rfl
theorem s285_72 {c : Nat → List AV → SS → Option Out} {l0 l1 l2 : Option AV} {x y : Int32} {L2 : List (Nat × AV)} {St : List AV} {S : SS} : ev c 285 72 [l0, l1, l2] L2 (aI y :: aI x :: St) S = ev c 285 73 [l0, l1, l2] L2 (aI (x + y) :: St) S := ev_go i285_72 rfl
theorem i285_73 : insAt 285 73 = some (.istore_n 1, 1, (0, 0, 0, 0), 0) := rfl
theorem s285_73 {c : Nat → List AV → SS → Option Out} {l0 l1 l2 : Option AV} {x : Int32} {L2 : List (Nat × AV)} {St : List AV} {S : SS} : ev c 285 73 [l0, l1, l2] L2 (aI x :: St) S = ev c 285 74 [l0, some (aI x), l2] (kil L2 1) St S := ev_go i285_73 rfl
theorem i285_74 : insAt 285 74 = some (.iinc 2 1, 3, (0, 0, 0, 0), 0) := rfl
theorem s285_74 {c : Nat → List AV → SS → Option Out} {l0 l1 : Option AV} {x : Int32} {L2 : List (Nat × AV)} {St : List AV} {S : SS} : ev c 285 74 [l0, l1, some (aI x)] L2 St S = ev c 285 77 [l0, l1, some (aI (x + 1))] (kil L2 2) St S := ev_go i285_74 rfl
theorem i285_77 : insAt 285 77 = some (.goto (-52), 3, (0, 0, 0, 0), 0) := rfl
theorem s285_77 {c : Nat → List AV → SS → Option Out} {l0 l1 l2 : Option AV} {L2 : List (Nat × AV)} {St : List AV} {S : SS} : ev c 285 77 [l0, l1, l2] L2 St S = ev c 285 25 [l0, l1, l2] L2 St S := ev_go i285_77 rfl
theorem i285_80 : insAt 285 80 = some (.iload_n 1, 1, (0, 0, 0, 0), 0) := rfl
theorem s285_80 {c : Nat → List AV → SS → Option Out} {l0 l2 : Option AV} {x : Int32} {L2 : List (Nat × AV)} {St : List AV} {S : SS} : ev c 285 80 [l0, some (aI x), l2] L2 St S = ev c 285 81 [l0, some (aI x), l2] L2 (aI x :: St) S := ev_go i285_80 rfl
theorem i285_81 : insAt 285 81 = some (.i2f, 1, (0, 0, 0, 0), 0) := rfl
theorem s285_81 {c : Nat → List AV → SS → Option Out} {l0 l1 l2 : Option AV} {x : Int32} {L2 : List (Nat × AV)} {St : List AV} {S : SS} : ev c 285 81 [l0, l1, l2] L2 (aI x :: St) S = ev c 285 82 [l0, l1, l2] L2 (aF (FP.i2f x) :: St) S := ev_go i285_81 rfl
theorem i285_82 : insAt 285 82 = some (.aload_n 0, 1, (0, 0, 0, 0), 0) := rfl
theorem s285_82 {c : Nat → List AV → SS → Option Out} {l1 l2 : Option AV} {o : OId} {L2 : List (Nat × AV)} {St : List AV} {S : SS} : ev c 285 82 [some (aR o), l1, l2] L2 St S = ev c 285 83 [some (aR o), l1, l2] L2 (aR o :: St) S := ev_go i285_82 rfl
theorem i285_83 : insAt 285 83 = some (.invokevirtual 180, 3, (264, 0, 2, 12), 0) := rfl
theorem s285_83 {c : Nat → List AV → SS → Option Out} {l0 l1 l2 : Option AV} {t0 : AV} {j t : Nat} {L2 : List (Nat × AV)} {S : SS} : ev c 285 83 [l0, l1, l2] L2 [aR (12, j, t), t0] S = ck (c 264 [aR (12, j, t)] S) (fun v S' => ev c 285 86 [l0, l1, l2] L2 (v.toList ++ [t0]) S') := ev_call i285_83 rfl
theorem i285_86 : insAt 285 86 = some (.i2f, 1, (0, 0, 0, 0), 0) := rfl
theorem s285_86 {c : Nat → List AV → SS → Option Out} {l0 l1 l2 : Option AV} {x : Int32} {L2 : List (Nat × AV)} {St : List AV} {S : SS} : ev c 285 86 [l0, l1, l2] L2 (aI x :: St) S = ev c 285 87 [l0, l1, l2] L2 (aF (FP.i2f x) :: St) S := ev_go i285_86 rfl
theorem i285_87 : insAt 285 87 = some (.fdiv, 1, (0, 0, 0, 0), 0) := rfl
theorem s285_87 {c : Nat → List AV → SS → Option Out} {l0 l1 l2 : Option AV} {x y : UInt32} {L2 : List (Nat × AV)} {St : List AV} {S : SS} : ev c 285 87 [l0, l1, l2] L2 (aF y :: aF x :: St) S = if FP.fdiv x y &&& 0x7fffffff ≤ 0x7f800000 then ev c 285 88 [l0, l1, l2] L2 (aF (FP.fdiv x y) :: St) S else none := ev_if i285_87 rfl
theorem i285_88 : insAt 285 88 = some (.freturn, 1, (0, 0, 0, 0), 0) := rfl
theorem s285_88 {c : Nat → List AV → SS → Option Out} {l0 l1 l2 : Option AV} {x : UInt32} {L2 : List (Nat × AV)} {St : List AV} {S : SS} : ev c 285 88 [l0, l1, l2] L2 [aF x] S = some (.inl (some (aF x)), S) := ev_end i285_88 rfl
theorem m285 {d : Nat} {o : OId} {S : SS} : evm (d + 1) 285 [aR o] S = ev (evm d) 285 0 [some (aR o), none, none] [] [] S := evm_s (n := 3) rfl (Nat.le_of_ble_eq_true rfl) rfl rfl
/-! FrequencyOfficeModel.isConsistent()Z -/
theorem i286_0 : insAt 286 0 = some (.aload_n 0, 1, (0, 0, 0, 0), 0) := rfl
theorem s286_0 {c : Nat → List AV → SS → Option Out} {l1 l2 : Option AV} {o : OId} {L2 : List (Nat × AV)} {St : List AV} {S : SS} : ev c 286 0 [some (aR o), l1, l2] L2 St S = ev c 286 1 [some (aR o), l1, l2] L2 (aR o :: St) S := ev_go i286_0 rfl
theorem i286_1 : insAt 286 1 = some (.iconst 0, 1, (0, 0, 0, 0), 0) := rfl
theorem s286_1 {c : Nat → List AV → SS → Option Out} {l0 l1 l2 : Option AV} {L2 : List (Nat × AV)} {St : List AV} {S : SS} : ev c 286 1 [l0, l1, l2] L2 St S = ev c 286 2 [l0, l1, l2] L2 (aI 0 :: St) S := ev_go i286_1 rfl
theorem i286_2 : insAt 286 2 = some (.putfield 31, 3, (12, 7, 0, 0), 0) := rfl
theorem s286_2 {c : Nat → List AV → SS → Option Out} {l0 l1 l2 : Option AV} {j t : Nat} {x : Int32} {L2 : List (Nat × AV)} {St : List AV} {S : SS} : ev c 286 2 [l0, l1, l2] L2 (aI x :: aR (12, j, t) :: St) S = ev c 286 5 [l0, l1, l2] L2 St (setI S.1 (12, j, t) 7 x, S.2) := ev_go i286_2 rfl
theorem i286_5 : insAt 286 5 = some (.iconst 0, 1, (0, 0, 0, 0), 0) := rfl
theorem s286_5 {c : Nat → List AV → SS → Option Out} {l0 l1 l2 : Option AV} {L2 : List (Nat × AV)} {St : List AV} {S : SS} : ev c 286 5 [l0, l1, l2] L2 St S = ev c 286 6 [l0, l1, l2] L2 (aI 0 :: St) S := ev_go i286_5 rfl
theorem i286_6 : insAt 286 6 = some (.istore_n 1, 1, (0, 0, 0, 0), 0) := rfl
theorem s286_6 {c : Nat → List AV → SS → Option Out} {l0 l1 l2 : Option AV} {x : Int32} {L2 : List (Nat × AV)} {St : List AV} {S : SS} : ev c 286 6 [l0, l1, l2] L2 (aI x :: St) S = ev c 286 7 [l0, some (aI x), l2] (kil L2 1) St S := ev_go i286_6 rfl
theorem i286_7 : insAt 286 7 = some (.iload_n 1, 1, (0, 0, 0, 0), 0) := rfl
theorem s286_7 {c : Nat → List AV → SS → Option Out} {l0 l2 : Option AV} {x : Int32} {L2 : List (Nat × AV)} {St : List AV} {S : SS} : ev c 286 7 [l0, some (aI x), l2] L2 St S = ev c 286 8 [l0, some (aI x), l2] L2 (aI x :: St) S := ev_go i286_7 rfl
theorem i286_8 : insAt 286 8 = some (.aload_n 0, 1, (0, 0, 0, 0), 0) := rfl
theorem s286_8 {c : Nat → List AV → SS → Option Out} {l1 l2 : Option AV} {o : OId} {L2 : List (Nat × AV)} {St : List AV} {S : SS} : ev c 286 8 [some (aR o), l1, l2] L2 St S = ev c 286 9 [some (aR o), l1, l2] L2 (aR o :: St) S := ev_go i286_8 rfl
theorem i286_9 : insAt 286 9 = some (.getfield 7, 3, (12, 0, 0, 0), 0) := rfl
theorem s286_9 {c : Nat → List AV → SS → Option Out} {l0 l1 l2 : Option AV} {j t : Nat} {L2 : List (Nat × AV)} {St : List AV} {S : SS} : ev c 286 9 [l0, l1, l2] L2 (aR (12, j, t) :: St) S = ev c 286 12 [l0, l1, l2] L2 (S.2.2.1 (12, j, t) 0 :: St) S := ev_go i286_9 rfl
theorem i286_12 : insAt 286 12 = some (.bipush 7, 2, (0, 0, 0, 0), 0) := rfl
theorem s286_12 {c : Nat → List AV → SS → Option Out} {l0 l1 l2 : Option AV} {L2 : List (Nat × AV)} {St : List AV} {S : SS} : ev c 286 12 [l0, l1, l2] L2 St S = ev c 286 14 [l0, l1, l2] L2 (aI 7 :: St) S := ev_go i286_12 rfl
theorem i286_14 : insAt 286 14 = some (.iaload, 1, (0, 0, 0, 0), 0) := rfl
theorem s286_14 {c : Nat → List AV → SS → Option Out} {l0 l1 l2 : Option AV} {i : Int32} {o : OId} {L2 : List (Nat × AV)} {St : List AV} {S : SS} : ev c 286 14 [l0, l1, l2] L2 (aI i :: aR o :: St) S = kI o i (ev c 286 15 [l0, l1, l2] L2 (aI (agI S o i.toNatClampNeg) :: St) S) := ev_iaload i286_14
theorem i286_15 : insAt 286 15 = some (.if_icmp .ge 61, 3, (0, 0, 0, 0), 0) := rfl
theorem s286_15 {c : Nat → List AV → SS → Option Out} {l0 l1 l2 : Option AV} {x y : Int32} {L2 : List (Nat × AV)} {St : List AV} {S : SS} : ev c 286 15 [l0, l1, l2] L2 (aI y :: aI x :: St) S = if y ≤ x then ev c 286 76 [l0, l1, l2] L2 St S else ev c 286 18 [l0, l1, l2] L2 St S := ev_br i286_15 rfl
theorem i286_18 : insAt 286 18 = some (.aload_n 0, 1, (0, 0, 0, 0), 0) := rfl
theorem s286_18 {c : Nat → List AV → SS → Option Out} {l1 l2 : Option AV} {o : OId} {L2 : List (Nat × AV)} {St : List AV} {S : SS} : ev c 286 18 [some (aR o), l1, l2] L2 St S = ev c 286 19 [some (aR o), l1, l2] L2 (aR o :: St) S := ev_go i286_18 rfl
theorem i286_19 : insAt 286 19 = some (.iload_n 1, 1, (0, 0, 0, 0), 0) := rfl
theorem s286_19 {c : Nat → List AV → SS → Option Out} {l0 l2 : Option AV} {x : Int32} {L2 : List (Nat × AV)} {St : List AV} {S : SS} : ev c 286 19 [l0, some (aI x), l2] L2 St S = ev c 286 20 [l0, some (aI x), l2] L2 (aI x :: St) S := ev_go i286_19 rfl
theorem i286_20 : insAt 286 20 = some (.iconst 4, 1, (0, 0, 0, 0), 0) := rfl
theorem s286_20 {c : Nat → List AV → SS → Option Out} {l0 l1 l2 : Option AV} {L2 : List (Nat × AV)} {St : List AV} {S : SS} : ev c 286 20 [l0, l1, l2] L2 St S = ev c 286 21 [l0, l1, l2] L2 (aI 4 :: St) S := ev_go i286_20 rfl
theorem i286_21 : insAt 286 21 = some (.invokevirtual 75, 3, (234, 2, 2, 12), 0) := rfl
theorem s286_21 {c : Nat → List AV → SS → Option Out} {l0 l1 l2 : Option AV} {a0 : Int32} {a1 : Int32} {j t : Nat} {L2 : List (Nat × AV)} {S : SS} : ev c 286 21 [l0, l1, l2] L2 [aI a1, aI a0, aR (12, j, t)] S = ck (c 234 [aR (12, j, t), aI a0, aI a1] S) (fun v S' => ev c 286 24 [l0, l1, l2] L2 (v.toList ++ []) S') := ev_call i286_21 rfl
theorem i286_24 : insAt 286 24 = some (.aload_n 0, 1, (0, 0, 0, 0), 0) := rfl
theorem s286_24 {c : Nat → List AV → SS → Option Out} {l1 l2 : Option AV} {o : OId} {L2 : List (Nat × AV)} {St : List AV} {S : SS} : ev c 286 24 [some (aR o), l1, l2] L2 St S = ev c 286 25 [some (aR o), l1, l2] L2 (aR o :: St) S := ev_go i286_24 rfl
theorem i286_25 : insAt 286 25 = some (.getfield 7, 3, (12, 0, 0, 0), 0) := rfl
theorem s286_25 {c : Nat → List AV → SS → Option Out} {l0 l1 l2 : Option AV} {j t : Nat} {L2 : List (Nat × AV)} {St : List AV} {S : SS} : ev c 286 25 [l0, l1, l2] L2 (aR (12, j, t) :: St) S = ev c 286 28 [l0, l1, l2] L2 (S.2.2.1 (12, j, t) 0 :: St) S := ev_go i286_25 rfl
theorem i286_28 : insAt 286 28 = some (.iconst 3, 1, (0, 0, 0, 0), 0) := rfl
theorem s286_28 {c : Nat → List AV → SS → Option Out} {l0 l1 l2 : Option AV} {L2 : List (Nat × AV)} {St : List AV} {S : SS} : ev c 286 28 [l0, l1, l2] L2 St S = ev c 286 29 [l0, l1, l2] L2 (aI 3 :: St) S := ev_go i286_28 rfl
theorem i286_29 : insAt 286 29 = some (.iaload, 1, (0, 0, 0, 0), 0) := rfl
theorem s286_29 {c : Nat → List AV → SS → Option Out} {l0 l1 l2 : Option AV} {i : Int32} {o : OId} {L2 : List (Nat × AV)} {St : List AV} {S : SS} : ev c 286 29 [l0, l1, l2] L2 (aI i :: aR o :: St) S = kI o i (ev c 286 30 [l0, l1, l2] L2 (aI (agI S o i.toNatClampNeg) :: St) S) := ev_iaload i286_29
theorem i286_30 : insAt 286 30 = some (.if_icmp .gt 5, 3, (0, 0, 0, 0), 0) := rfl
theorem s286_30 {c : Nat → List AV → SS → Option Out} {l0 l1 l2 : Option AV} {x y : Int32} {L2 : List (Nat × AV)} {St : List AV} {S : SS} : ev c 286 30 [l0, l1, l2] L2 (aI y :: aI x :: St) S = if y < x then ev c 286 35 [l0, l1, l2] L2 St S else ev c 286 33 [l0, l1, l2] L2 St S := ev_br i286_30 rfl
theorem i286_33 : insAt 286 33 = some (.iconst 0, 1, (0, 0, 0, 0), 0) := rfl
theorem s286_33 {c : Nat → List AV → SS → Option Out} {l0 l1 l2 : Option AV} {L2 : List (Nat × AV)} {St : List AV} {S : SS} : ev c 286 33 [l0, l1, l2] L2 St S = ev c 286 34 [l0, l1, l2] L2 (aI 0 :: St) S := ev_go i286_33 rfl
theorem i286_34 : insAt 286 34 = some (.ireturn, 1, (0, 0, 0, 0), 0) := rfl
theorem s286_34 {c : Nat → List AV → SS → Option Out} {l0 l1 l2 : Option AV} {x : Int32} {L2 : List (Nat × AV)} {St : List AV} {S : SS} : ev c 286 34 [l0, l1, l2] L2 [aI x] S = if x = 0 ∨ x = 1 then some (.inl (some (aI x)), S) else none := ev_rt i286_34 rfl
theorem i286_35 : insAt 286 35 = some (.iconst 0, 1, (0, 0, 0, 0), 0) := rfl
theorem s286_35 {c : Nat → List AV → SS → Option Out} {l0 l1 l2 : Option AV} {L2 : List (Nat × AV)} {St : List AV} {S : SS} : ev c 286 35 [l0, l1, l2] L2 St S = ev c 286 36 [l0, l1, l2] L2 (aI 0 :: St) S := ev_go i286_35 rfl
theorem i286_36 : insAt 286 36 = some (.istore_n 2, 1, (0, 0, 0, 0), 0) := rfl
theorem s286_36 {c : Nat → List AV → SS → Option Out} {l0 l1 l2 : Option AV} {x : Int32} {L2 : List (Nat × AV)} {St : List AV} {S : SS} : ev c 286 36 [l0, l1, l2] L2 (aI x :: St) S = ev c 286 37 [l0, l1, some (aI x)] (kil L2 2) St S := ev_go i286_36 rfl
theorem i286_37 : insAt 286 37 = some (.iload_n 2, 1, (0, 0, 0, 0), 0) := rfl
theorem s286_37 {c : Nat → List AV → SS → Option Out} {l0 l1 : Option AV} {x : Int32} {L2 : List (Nat × AV)} {St : List AV} {S : SS} : ev c 286 37 [l0, l1, some (aI x)] L2 St S = ev c 286 38 [l0, l1, some (aI x)] L2 (aI x :: St) S := ev_go i286_37 rfl
theorem i286_38 : insAt 286 38 = some (.aload_n 0, 1, (0, 0, 0, 0), 0) := rfl
theorem s286_38 {c : Nat → List AV → SS → Option Out} {l1 l2 : Option AV} {o : OId} {L2 : List (Nat × AV)} {St : List AV} {S : SS} : ev c 286 38 [some (aR o), l1, l2] L2 St S = ev c 286 39 [some (aR o), l1, l2] L2 (aR o :: St) S := ev_go i286_38 rfl
theorem i286_39 : insAt 286 39 = some (.getfield 7, 3, (12, 0, 0, 0), 0) := rfl
theorem s286_39 {c : Nat → List AV → SS → Option Out} {l0 l1 l2 : Option AV} {j t : Nat} {L2 : List (Nat × AV)} {St : List AV} {S : SS} : ev c 286 39 [l0, l1, l2] L2 (aR (12, j, t) :: St) S = ev c 286 42 [l0, l1, l2] L2 (S.2.2.1 (12, j, t) 0 :: St) S := ev_go i286_39 rfl
theorem i286_42 : insAt 286 42 = some (.bipush 7, 2, (0, 0, 0, 0), 0) := rfl
theorem s286_42 {c : Nat → List AV → SS → Option Out} {l0 l1 l2 : Option AV} {L2 : List (Nat × AV)} {St : List AV} {S : SS} : ev c 286 42 [l0, l1, l2] L2 St S = ev c 286 44 [l0, l1, l2] L2 (aI 7 :: St) S := ev_go i286_42 rfl
theorem i286_44 : insAt 286 44 = some (.iaload, 1, (0, 0, 0, 0), 0) := rfl
theorem s286_44 {c : Nat → List AV → SS → Option Out} {l0 l1 l2 : Option AV} {i : Int32} {o : OId} {L2 : List (Nat × AV)} {St : List AV} {S : SS} : ev c 286 44 [l0, l1, l2] L2 (aI i :: aR o :: St) S = kI o i (ev c 286 45 [l0, l1, l2] L2 (aI (agI S o i.toNatClampNeg) :: St) S) := ev_iaload i286_44
theorem i286_45 : insAt 286 45 = some (.if_icmp .ge 25, 3, (0, 0, 0, 0), 0) := rfl
theorem s286_45 {c : Nat → List AV → SS → Option Out} {l0 l1 l2 : Option AV} {x y : Int32} {L2 : List (Nat × AV)} {St : List AV} {S : SS} : ev c 286 45 [l0, l1, l2] L2 (aI y :: aI x :: St) S = if y ≤ x then ev c 286 70 [l0, l1, l2] L2 St S else ev c 286 48 [l0, l1, l2] L2 St S := ev_br i286_45 rfl
theorem i286_48 : insAt 286 48 = some (.iload_n 2, 1, (0, 0, 0, 0), 0) := rfl
theorem s286_48 {c : Nat → List AV → SS → Option Out} {l0 l1 : Option AV} {x : Int32} {L2 : List (Nat × AV)} {St : List AV} {S : SS} : ev c 286 48 [l0, l1, some (aI x)] L2 St S = ev c 286 49 [l0, l1, some (aI x)] L2 (aI x :: St) S := ev_go i286_48 rfl
theorem i286_49 : insAt 286 49 = some (.iload_n 1, 1, (0, 0, 0, 0), 0) := rfl
theorem s286_49 {c : Nat → List AV → SS → Option Out} {l0 l2 : Option AV} {x : Int32} {L2 : List (Nat × AV)} {St : List AV} {S : SS} : ev c 286 49 [l0, some (aI x), l2] L2 St S = ev c 286 50 [l0, some (aI x), l2] L2 (aI x :: St) S := ev_go i286_49 rfl
theorem i286_50 : insAt 286 50 = some (.if_icmp .eq 14, 3, (0, 0, 0, 0), 0) := rfl
theorem s286_50 {c : Nat → List AV → SS → Option Out} {l0 l1 l2 : Option AV} {x y : Int32} {L2 : List (Nat × AV)} {St : List AV} {S : SS} : ev c 286 50 [l0, l1, l2] L2 (aI y :: aI x :: St) S = if x = y then ev c 286 64 [l0, l1, l2] L2 St S else ev c 286 53 [l0, l1, l2] L2 St S := ev_br i286_50 rfl
theorem i286_53 : insAt 286 53 = some (.aload_n 0, 1, (0, 0, 0, 0), 0) := rfl
theorem s286_53 {c : Nat → List AV → SS → Option Out} {l1 l2 : Option AV} {o : OId} {L2 : List (Nat × AV)} {St : List AV} {S : SS} : ev c 286 53 [some (aR o), l1, l2] L2 St S = ev c 286 54 [some (aR o), l1, l2] L2 (aR o :: St) S := ev_go i286_53 rfl
theorem i286_54 : insAt 286 54 = some (.iload_n 1, 1, (0, 0, 0, 0), 0) := rfl
theorem s286_54 {c : Nat → List AV → SS → Option Out} {l0 l2 : Option AV} {x : Int32} {L2 : List (Nat × AV)} {St : List AV} {S : SS} : ev c 286 54 [l0, some (aI x), l2] L2 St S = ev c 286 55 [l0, some (aI x), l2] L2 (aI x :: St) S := ev_go i286_54 rfl
theorem i286_55 : insAt 286 55 = some (.iload_n 2, 1, (0, 0, 0, 0), 0) := rfl
theorem s286_55 {c : Nat → List AV → SS → Option Out} {l0 l1 : Option AV} {x : Int32} {L2 : List (Nat × AV)} {St : List AV} {S : SS} : ev c 286 55 [l0, l1, some (aI x)] L2 St S = ev c 286 56 [l0, l1, some (aI x)] L2 (aI x :: St) S := ev_go i286_55 rfl
theorem i286_56 : insAt 286 56 = some (.invokevirtual 144, 3, (251, 2, 2, 12), 0) := rfl
theorem s286_56 {c : Nat → List AV → SS → Option Out} {l0 l1 l2 : Option AV} {a0 : Int32} {a1 : Int32} {j t : Nat} {L2 : List (Nat × AV)} {S : SS} : ev c 286 56 [l0, l1, l2] L2 [aI a1, aI a0, aR (12, j, t)] S = ck (c 251 [aR (12, j, t), aI a0, aI a1] S) (fun v S' => ev c 286 59 [l0, l1, l2] L2 (v.toList ++ []) S') := ev_call i286_56 rfl
theorem i286_59 : insAt 286 59 = some (.ifCond .eq 5, 3, (0, 0, 0, 0), 0) := rfl
theorem s286_59 {c : Nat → List AV → SS → Option Out} {l0 l1 l2 : Option AV} {x : Int32} {L2 : List (Nat × AV)} {St : List AV} {S : SS} : ev c 286 59 [l0, l1, l2] L2 (aI x :: St) S = if x = 0 then ev c 286 64 [l0, l1, l2] L2 St S else ev c 286 62 [l0, l1, l2] L2 St S := ev_br i286_59 rfl
theorem i286_62 : insAt 286 62 = some (.iconst 0, 1, (0, 0, 0, 0), 0) := rfl
theorem s286_62 {c : Nat → List AV → SS → Option Out} {l0 l1 l2 : Option AV} {L2 : List (Nat × AV)} {St : List AV} {S : SS} : ev c 286 62 [l0, l1, l2] L2 St S = ev c 286 63 [l0, l1, l2] L2 (aI 0 :: St) S := ev_go i286_62 rfl
theorem i286_63 : insAt 286 63 = some (.ireturn, 1, (0, 0, 0, 0), 0) := rfl
theorem s286_63 {c : Nat → List AV → SS → Option Out} {l0 l1 l2 : Option AV} {x : Int32} {L2 : List (Nat × AV)} {St : List AV} {S : SS} : ev c 286 63 [l0, l1, l2] L2 [aI x] S = if x = 0 ∨ x = 1 then some (.inl (some (aI x)), S) else none := ev_rt i286_63 rfl
theorem i286_64 : insAt 286 64 = some (.iinc 2 1, 3, (0, 0, 0, 0), 0) := rfl
theorem s286_64 {c : Nat → List AV → SS → Option Out} {l0 l1 : Option AV} {x : Int32} {L2 : List (Nat × AV)} {St : List AV} {S : SS} : ev c 286 64 [l0, l1, some (aI x)] L2 St S = ev c 286 67 [l0, l1, some (aI (x + 1))] (kil L2 2) St S := ev_go i286_64 rfl
theorem i286_67 : insAt 286 67 = some (.goto (-30), 3, (0, 0, 0, 0), 0) := rfl
theorem s286_67 {c : Nat → List AV → SS → Option Out} {l0 l1 l2 : Option AV} {L2 : List (Nat × AV)} {St : List AV} {S : SS} : ev c 286 67 [l0, l1, l2] L2 St S = ev c 286 37 [l0, l1, l2] L2 St S := ev_go i286_67 rfl
theorem i286_70 : insAt 286 70 = some (.iinc 1 1, 3, (0, 0, 0, 0), 0) := rfl
theorem s286_70 {c : Nat → List AV → SS → Option Out} {l0 l2 : Option AV} {x : Int32} {L2 : List (Nat × AV)} {St : List AV} {S : SS} : ev c 286 70 [l0, some (aI x), l2] L2 St S = ev c 286 73 [l0, some (aI (x + 1)), l2] (kil L2 1) St S := ev_go i286_70 rfl
theorem i286_73 : insAt 286 73 = some (.goto (-66), 3, (0, 0, 0, 0), 0) := rfl
theorem s286_73 {c : Nat → List AV → SS → Option Out} {l0 l1 l2 : Option AV} {L2 : List (Nat × AV)} {St : List AV} {S : SS} : ev c 286 73 [l0, l1, l2] L2 St S = ev c 286 7 [l0, l1, l2] L2 St S := ev_go i286_73 rfl
theorem i286_76 : insAt 286 76 = some (.iconst 1, 1, (0, 0, 0, 0), 0) := rfl
theorem s286_76 {c : Nat → List AV → SS → Option Out} {l0 l1 l2 : Option AV} {L2 : List (Nat × AV)} {St : List AV} {S : SS} : ev c 286 76 [l0, l1, l2] L2 St S = ev c 286 77 [l0, l1, l2] L2 (aI 1 :: St) S := ev_go i286_76 rfl
theorem i286_77 : insAt 286 77 = some (.ireturn, 1, (0, 0, 0, 0), 0) := rfl
theorem s286_77 {c : Nat → List AV → SS → Option Out} {l0 l1 l2 : Option AV} {x : Int32} {L2 : List (Nat × AV)} {St : List AV} {S : SS} : ev c 286 77 [l0, l1, l2] L2 [aI x] S = if x = 0 ∨ x = 1 then some (.inl (some (aI x)), S) else none := ev_rt i286_77 rfl
theorem m286 {d : Nat} {o : OId} {S : SS} : evm (d + 1) 286 [aR o] S = ev (evm d) 286 0 [some (aR o), none, none] [] [] S := evm_s (n := 3) rfl (Nat.le_of_ble_eq_true rfl) rfl rfl
/-! FrequencyOfficeModel.openChannels(II)I -/
theorem i287_0 : insAt 287 0 = some (.aload_n 0, 1, (0, 0, 0, 0), 0) := rfl
theorem s287_0 {c : Nat → List AV → SS → Option Out} {l1 l2 l3 l4 : Option AV} {o : OId} {L2 : List (Nat × AV)} {St : List AV} {S : SS} : ev c 287 0 [some (aR o), l1, l2, l3, l4] L2 St S = ev c 287 1 [some (aR o), l1, l2, l3, l4] L2 (aR o :: St) S := ev_go i287_0 rfl
theorem i287_1 : insAt 287 1 = some (.iload_n 1, 1, (0, 0, 0, 0), 0) := rfl
theorem s287_1 {c : Nat → List AV → SS → Option Out} {l0 l2 l3 l4 : Option AV} {x : Int32} {L2 : List (Nat × AV)} {St : List AV} {S : SS} : ev c 287 1 [l0, some (aI x), l2, l3, l4] L2 St S = ev c 287 2 [l0, some (aI x), l2, l3, l4] L2 (aI x :: St) S := ev_go i287_1 rfl
theorem i287_2 : insAt 287 2 = some (.iload_n 2, 1, (0, 0, 0, 0), 0) := rfl
theorem s287_2 {c : Nat → List AV → SS → Option Out} {l0 l1 l3 l4 : Option AV} {x : Int32} {L2 : List (Nat × AV)} {St : List AV} {S : SS} : ev c 287 2 [l0, l1, some (aI x), l3, l4] L2 St S = ev c 287 3 [l0, l1, some (aI x), l3, l4] L2 (aI x :: St) S := ev_go i287_2 rfl
theorem i287_3 : insAt 287 3 = some (.invokestatic 158, 3, (227, 2, 0, 0), 0) := rfl
theorem s287_3 {c : Nat → List AV → SS → Option Out} {l0 l1 l2 l3 l4 : Option AV} {t0 : AV} {a0 : Int32} {a1 : Int32} {L2 : List (Nat × AV)} {S : SS} : ev c 287 3 [l0, l1, l2, l3, l4] L2 [aI a1, aI a0, t0] S = ck (c 227 [aI a0, aI a1] S) (fun v S' => ev c 287 6 [l0, l1, l2, l3, l4] L2 (v.toList ++ [t0]) S') := ev_call i287_3 rfl
theorem i287_6 : insAt 287 6 = some (.invokevirtual 176, 3, (259, 1, 2, 12), 0) := rfl
theorem s287_6 {c : Nat → List AV → SS → Option Out} {l0 l1 l2 l3 l4 : Option AV} {a0 : Int32} {j t : Nat} {L2 : List (Nat × AV)} {S : SS} : ev c 287 6 [l0, l1, l2, l3, l4] L2 [aI a0, aR (12, j, t)] S = ck (c 259 [aR (12, j, t), aI a0] S) (fun v S' => ev c 287 9 [l0, l1, l2, l3, l4] L2 (v.toList ++ []) S') := ev_call i287_6 rfl
theorem i287_9 : insAt 287 9 = some (.ifCond .le 5, 3, (0, 0, 0, 0), 0) := rfl
theorem s287_9 {c : Nat → List AV → SS → Option Out} {l0 l1 l2 l3 l4 : Option AV} {x : Int32} {L2 : List (Nat × AV)} {St : List AV} {S : SS} : ev c 287 9 [l0, l1, l2, l3, l4] L2 (aI x :: St) S = if x ≤ 0 then ev c 287 14 [l0, l1, l2, l3, l4] L2 St S else ev c 287 12 [l0, l1, l2, l3, l4] L2 St S := ev_br i287_9 rfl
theorem i287_12 : insAt 287 12 = some (.iconst 0, 1, (0, 0, 0, 0), 0) := rfl
theorem s287_12 {c : Nat → List AV → SS → Option Out} {l0 l1 l2 l3 l4 : Option AV} {L2 : List (Nat × AV)} {St : List AV} {S : SS} : ev c 287 12 [l0, l1, l2, l3, l4] L2 St S = ev c 287 13 [l0, l1, l2, l3, l4] L2 (aI 0 :: St) S := ev_go i287_12 rfl
theorem i287_13 : insAt 287 13 = some (.ireturn, 1, (0, 0, 0, 0), 0) := rfl
theorem s287_13 {c : Nat → List AV → SS → Option Out} {l0 l1 l2 l3 l4 : Option AV} {x : Int32} {L2 : List (Nat × AV)} {St : List AV} {S : SS} : ev c 287 13 [l0, l1, l2, l3, l4] L2 [aI x] S = some (.inl (some (aI x)), S) := ev_end i287_13 rfl
theorem i287_14 : insAt 287 14 = some (.aload_n 0, 1, (0, 0, 0, 0), 0) := rfl
theorem s287_14 {c : Nat → List AV → SS → Option Out} {l1 l2 l3 l4 : Option AV} {o : OId} {L2 : List (Nat × AV)} {St : List AV} {S : SS} : ev c 287 14 [some (aR o), l1, l2, l3, l4] L2 St S = ev c 287 15 [some (aR o), l1, l2, l3, l4] L2 (aR o :: St) S := ev_go i287_14 rfl
theorem i287_15 : insAt 287 15 = some (.iload_n 1, 1, (0, 0, 0, 0), 0) := rfl
theorem s287_15 {c : Nat → List AV → SS → Option Out} {l0 l2 l3 l4 : Option AV} {x : Int32} {L2 : List (Nat × AV)} {St : List AV} {S : SS} : ev c 287 15 [l0, some (aI x), l2, l3, l4] L2 St S = ev c 287 16 [l0, some (aI x), l2, l3, l4] L2 (aI x :: St) S := ev_go i287_15 rfl
theorem i287_16 : insAt 287 16 = some (.putfield 41, 3, (12, 10, 0, 0), 0) := rfl
theorem s287_16 {c : Nat → List AV → SS → Option Out} {l0 l1 l2 l3 l4 : Option AV} {j t : Nat} {x : Int32} {L2 : List (Nat × AV)} {St : List AV} {S : SS} : ev c 287 16 [l0, l1, l2, l3, l4] L2 (aI x :: aR (12, j, t) :: St) S = ev c 287 19 [l0, l1, l2, l3, l4] L2 St (setI S.1 (12, j, t) 10 x, S.2) := ev_go i287_16 rfl
theorem i287_19 : insAt 287 19 = some (.aload_n 0, 1, (0, 0, 0, 0), 0) := rfl
theorem s287_19 {c : Nat → List AV → SS → Option Out} {l1 l2 l3 l4 : Option AV} {o : OId} {L2 : List (Nat × AV)} {St : List AV} {S : SS} : ev c 287 19 [some (aR o), l1, l2, l3, l4] L2 St S = ev c 287 20 [some (aR o), l1, l2, l3, l4] L2 (aR o :: St) S := ev_go i287_19 rfl
theorem i287_20 : insAt 287 20 = some (.iload_n 2, 1, (0, 0, 0, 0), 0) := rfl
theorem s287_20 {c : Nat → List AV → SS → Option Out} {l0 l1 l3 l4 : Option AV} {x : Int32} {L2 : List (Nat × AV)} {St : List AV} {S : SS} : ev c 287 20 [l0, l1, some (aI x), l3, l4] L2 St S = ev c 287 21 [l0, l1, some (aI x), l3, l4] L2 (aI x :: St) S := ev_go i287_20 rfl
theorem i287_21 : insAt 287 21 = some (.putfield 44, 3, (12, 11, 0, 0), 0) := rfl
theorem s287_21 {c : Nat → List AV → SS → Option Out} {l0 l1 l2 l3 l4 : Option AV} {j t : Nat} {x : Int32} {L2 : List (Nat × AV)} {St : List AV} {S : SS} : ev c 287 21 [l0, l1, l2, l3, l4] L2 (aI x :: aR (12, j, t) :: St) S = ev c 287 24 [l0, l1, l2, l3, l4] L2 St (setI S.1 (12, j, t) 11 x, S.2) := ev_go i287_21 rfl
theorem i287_24 : insAt 287 24 = some (.aload_n 0, 1, (0, 0, 0, 0), 0) := rfl
theorem s287_24 {c : Nat → List AV → SS → Option Out} {l1 l2 l3 l4 : Option AV} {o : OId} {L2 : List (Nat × AV)} {St : List AV} {S : SS} : ev c 287 24 [some (aR o), l1, l2, l3, l4] L2 St S = ev c 287 25 [some (aR o), l1, l2, l3, l4] L2 (aR o :: St) S := ev_go i287_24 rfl
theorem i287_25 : insAt 287 25 = some (.iconst (-1), 1, (0, 0, 0, 0), 0) := rfl
theorem s287_25 {c : Nat → List AV → SS → Option Out} {l0 l1 l2 l3 l4 : Option AV} {L2 : List (Nat × AV)} {St : List AV} {S : SS} : ev c 287 25 [l0, l1, l2, l3, l4] L2 St S = ev c 287 26 [l0, l1, l2, l3, l4] L2 (aI (-1) :: St) S := ev_go i287_25 rfl
theorem i287_26 : insAt 287 26 = some (.putfield 38, 3, (12, 9, 0, 0), 0) := rfl
theorem s287_26 {c : Nat → List AV → SS → Option Out} {l0 l1 l2 l3 l4 : Option AV} {j t : Nat} {x : Int32} {L2 : List (Nat × AV)} {St : List AV} {S : SS} : ev c 287 26 [l0, l1, l2, l3, l4] L2 (aI x :: aR (12, j, t) :: St) S = ev c 287 29 [l0, l1, l2, l3, l4] L2 St (setI S.1 (12, j, t) 9 x, S.2) := ev_go i287_26 rfl
theorem i287_29 : insAt 287 29 = some (.iconst 0, 1, (0, 0, 0, 0), 0) := rfl
theorem s287_29 {c : Nat → List AV → SS → Option Out} {l0 l1 l2 l3 l4 : Option AV} {L2 : List (Nat × AV)} {St : List AV} {S : SS} : ev c 287 29 [l0, l1, l2, l3, l4] L2 St S = ev c 287 30 [l0, l1, l2, l3, l4] L2 (aI 0 :: St) S := ev_go i287_29 rfl
theorem i287_30 : insAt 287 30 = some (.istore_n 3, 1, (0, 0, 0, 0), 0) := rfl
theorem s287_30 {c : Nat → List AV → SS → Option Out} {l0 l1 l2 l3 l4 : Option AV} {x : Int32} {L2 : List (Nat × AV)} {St : List AV} {S : SS} : ev c 287 30 [l0, l1, l2, l3, l4] L2 (aI x :: St) S = ev c 287 31 [l0, l1, l2, some (aI x), l4] (kil L2 3) St S := ev_go i287_30 rfl
theorem i287_31 : insAt 287 31 = some (.iconst 0, 1, (0, 0, 0, 0), 0) := rfl
theorem s287_31 {c : Nat → List AV → SS → Option Out} {l0 l1 l2 l3 l4 : Option AV} {L2 : List (Nat × AV)} {St : List AV} {S : SS} : ev c 287 31 [l0, l1, l2, l3, l4] L2 St S = ev c 287 32 [l0, l1, l2, l3, l4] L2 (aI 0 :: St) S := ev_go i287_31 rfl
theorem i287_32 : insAt 287 32 = some (.istore 4, 2, (0, 0, 0, 0), 0) := rfl
theorem s287_32 {c : Nat → List AV → SS → Option Out} {l0 l1 l2 l3 l4 : Option AV} {x : Int32} {L2 : List (Nat × AV)} {St : List AV} {S : SS} : ev c 287 32 [l0, l1, l2, l3, l4] L2 (aI x :: St) S = ev c 287 34 [l0, l1, l2, l3, some (aI x)] (kil L2 4) St S := ev_go i287_32 rfl
theorem i287_34 : insAt 287 34 = some (.iload 4, 2, (0, 0, 0, 0), 0) := rfl
theorem s287_34 {c : Nat → List AV → SS → Option Out} {l0 l1 l2 l3 : Option AV} {x : Int32} {L2 : List (Nat × AV)} {St : List AV} {S : SS} : ev c 287 34 [l0, l1, l2, l3, some (aI x)] L2 St S = ev c 287 36 [l0, l1, l2, l3, some (aI x)] L2 (aI x :: St) S := ev_go i287_34 rfl
theorem i287_36 : insAt 287 36 = some (.bipush 8, 2, (0, 0, 0, 0), 0) := rfl
theorem s287_36 {c : Nat → List AV → SS → Option Out} {l0 l1 l2 l3 l4 : Option AV} {L2 : List (Nat × AV)} {St : List AV} {S : SS} : ev c 287 36 [l0, l1, l2, l3, l4] L2 St S = ev c 287 38 [l0, l1, l2, l3, l4] L2 (aI 8 :: St) S := ev_go i287_36 rfl
theorem i287_38 : insAt 287 38 = some (.if_icmp .ge 29, 3, (0, 0, 0, 0), 0) := rfl
theorem s287_38 {c : Nat → List AV → SS → Option Out} {l0 l1 l2 l3 l4 : Option AV} {x y : Int32} {L2 : List (Nat × AV)} {St : List AV} {S : SS} : ev c 287 38 [l0, l1, l2, l3, l4] L2 (aI y :: aI x :: St) S = if y ≤ x then ev c 287 67 [l0, l1, l2, l3, l4] L2 St S else ev c 287 41 [l0, l1, l2, l3, l4] L2 St S := ev_br i287_38 rfl
theorem i287_41 : insAt 287 41 = some (.iload_n 3, 1, (0, 0, 0, 0), 0) := rfl
theorem s287_41 {c : Nat → List AV → SS → Option Out} {l0 l1 l2 l4 : Option AV} {x : Int32} {L2 : List (Nat × AV)} {St : List AV} {S : SS} : ev c 287 41 [l0, l1, l2, some (aI x), l4] L2 St S = ev c 287 42 [l0, l1, l2, some (aI x), l4] L2 (aI x :: St) S := ev_go i287_41 rfl
theorem i287_42 : insAt 287 42 = some (.aload_n 0, 1, (0, 0, 0, 0), 0) := rfl
theorem s287_42 {c : Nat → List AV → SS → Option Out} {l1 l2 l3 l4 : Option AV} {o : OId} {L2 : List (Nat × AV)} {St : List AV} {S : SS} : ev c 287 42 [some (aR o), l1, l2, l3, l4] L2 St S = ev c 287 43 [some (aR o), l1, l2, l3, l4] L2 (aR o :: St) S := ev_go i287_42 rfl
theorem i287_43 : insAt 287 43 = some (.iload 4, 2, (0, 0, 0, 0), 0) := rfl
theorem s287_43 {c : Nat → List AV → SS → Option Out} {l0 l1 l2 l3 : Option AV} {x : Int32} {L2 : List (Nat × AV)} {St : List AV} {S : SS} : ev c 287 43 [l0, l1, l2, l3, some (aI x)] L2 St S = ev c 287 45 [l0, l1, l2, l3, some (aI x)] L2 (aI x :: St) S := ev_go i287_43 rfl
theorem i287_45 : insAt 287 45 = some (.invokevirtual 122, 3, (232, 1, 2, 12), 0) := rfl
theorem s287_45 {c : Nat → List AV → SS → Option Out} {l0 l1 l2 l3 l4 : Option AV} {t0 : AV} {a0 : Int32} {j t : Nat} {L2 : List (Nat × AV)} {S : SS} : ev c 287 45 [l0, l1, l2, l3, l4] L2 [aI a0, aR (12, j, t), t0] S = ck (c 232 [aR (12, j, t), aI a0] S) (fun v S' => ev c 287 48 [l0, l1, l2, l3, l4] L2 (v.toList ++ [t0]) S') := ev_call i287_45 rfl
theorem i287_48 : insAt 287 48 = some (.ifCond .eq 10, 3, (0, 0, 0, 0), 0) := rfl
theorem s287_48 {c : Nat → List AV → SS → Option Out} {l0 l1 l2 l3 l4 : Option AV} {x : Int32} {L2 : List (Nat × AV)} {St : List AV} {S : SS} : ev c 287 48 [l0, l1, l2, l3, l4] L2 (aI x :: St) S = if x = 0 then ev c 287 58 [l0, l1, l2, l3, l4] L2 St S else ev c 287 51 [l0, l1, l2, l3, l4] L2 St S := ev_br i287_48 rfl
theorem i287_51 : insAt 287 51 = some (.iconst 1, 1, (0, 0, 0, 0), 0) := rfl
theorem s287_51 {c : Nat → List AV → SS → Option Out} {l0 l1 l2 l3 l4 : Option AV} {L2 : List (Nat × AV)} {St : List AV} {S : SS} : ev c 287 51 [l0, l1, l2, l3, l4] L2 St S = ev c 287 52 [l0, l1, l2, l3, l4] L2 (aI 1 :: St) S := ev_go i287_51 rfl
theorem i287_52 : insAt 287 52 = some (.iload 4, 2, (0, 0, 0, 0), 0) := rfl
theorem s287_52 {c : Nat → List AV → SS → Option Out} {l0 l1 l2 l3 : Option AV} {x : Int32} {L2 : List (Nat × AV)} {St : List AV} {S : SS} : ev c 287 52 [l0, l1, l2, l3, some (aI x)] L2 St S = ev c 287 54 [l0, l1, l2, l3, some (aI x)] L2 (aI x :: St) S := ev_go i287_52 rfl
theorem i287_54 : insAt 287 54 = some (.ishl, 1, (0, 0, 0, 0), 0) := rfl
theorem s287_54 {c : Nat → List AV → SS → Option Out} {l0 l1 l2 l3 l4 : Option AV} {x y : Int32} {L2 : List (Nat × AV)} {St : List AV} {S : SS} : ev c 287 54 [l0, l1, l2, l3, l4] L2 (aI y :: aI x :: St) S = ev c 287 55 [l0, l1, l2, l3, l4] L2 (aI (x <<< (y &&& 31)) :: St) S := ev_go i287_54 rfl
theorem i287_55 : insAt 287 55 = some (.goto 4, 3, (0, 0, 0, 0), 0) := rfl
theorem s287_55 {c : Nat → List AV → SS → Option Out} {l0 l1 l2 l3 l4 : Option AV} {L2 : List (Nat × AV)} {St : List AV} {S : SS} : ev c 287 55 [l0, l1, l2, l3, l4] L2 St S = ev c 287 59 [l0, l1, l2, l3, l4] L2 St S := ev_go i287_55 rfl
theorem i287_58 : insAt 287 58 = some (.iconst 0, 1, (0, 0, 0, 0), 0) := rfl
theorem s287_58 {c : Nat → List AV → SS → Option Out} {l0 l1 l2 l3 l4 : Option AV} {L2 : List (Nat × AV)} {St : List AV} {S : SS} : ev c 287 58 [l0, l1, l2, l3, l4] L2 St S = ev c 287 59 [l0, l1, l2, l3, l4] L2 (aI 0 :: St) S := ev_go i287_58 rfl
theorem i287_59 : insAt 287 59 = some (.iadd, 1, (0, 0, 0, 0), 0) := rfl
theorem s287_59 {c : Nat → List AV → SS → Option Out} {l0 l1 l2 l3 l4 : Option AV} {x y : Int32} {L2 : List (Nat × AV)} {St : List AV} {S : SS} : ev c 287 59 [l0, l1, l2, l3, l4] L2 (aI y :: aI x :: St) S = ev c 287 60 [l0, l1, l2, l3, l4] L2 (aI (x + y) :: St) S := ev_go i287_59 rfl
theorem i287_60 : insAt 287 60 = some (.istore_n 3, 1, (0, 0, 0, 0), 0) := rfl
theorem s287_60 {c : Nat → List AV → SS → Option Out} {l0 l1 l2 l3 l4 : Option AV} {x : Int32} {L2 : List (Nat × AV)} {St : List AV} {S : SS} : ev c 287 60 [l0, l1, l2, l3, l4] L2 (aI x :: St) S = ev c 287 61 [l0, l1, l2, some (aI x), l4] (kil L2 3) St S := ev_go i287_60 rfl
theorem i287_61 : insAt 287 61 = some (.iinc 4 1, 3, (0, 0, 0, 0), 0) := rfl
theorem s287_61 {c : Nat → List AV → SS → Option Out} {l0 l1 l2 l3 : Option AV} {x : Int32} {L2 : List (Nat × AV)} {St : List AV} {S : SS} : ev c 287 61 [l0, l1, l2, l3, some (aI x)] L2 St S = ev c 287 64 [l0, l1, l2, l3, some (aI (x + 1))] (kil L2 4) St S := ev_go i287_61 rfl
theorem i287_64 : insAt 287 64 = some (.goto (-30), 3, (0, 0, 0, 0), 0) := rfl
theorem s287_64 {c : Nat → List AV → SS → Option Out} {l0 l1 l2 l3 l4 : Option AV} {L2 : List (Nat × AV)} {St : List AV} {S : SS} : ev c 287 64 [l0, l1, l2, l3, l4] L2 St S = ev c 287 34 [l0, l1, l2, l3, l4] L2 St S := ev_go i287_64 rfl
theorem i287_67 : insAt 287 67 = some (.iload_n 3, 1, (0, 0, 0, 0), 0) := rfl
theorem s287_67 {c : Nat → List AV → SS → Option Out} {l0 l1 l2 l4 : Option AV} {x : Int32} {L2 : List (Nat × AV)} {St : List AV} {S : SS} : ev c 287 67 [l0, l1, l2, some (aI x), l4] L2 St S = ev c 287 68 [l0, l1, l2, some (aI x), l4] L2 (aI x :: St) S := ev_go i287_67 rfl
theorem i287_68 : insAt 287 68 = some (.ireturn, 1, (0, 0, 0, 0), 0) := rfl
theorem s287_68 {c : Nat → List AV → SS → Option Out} {l0 l1 l2 l3 l4 : Option AV} {x : Int32} {L2 : List (Nat × AV)} {St : List AV} {S : SS} : ev c 287 68 [l0, l1, l2, l3, l4] L2 [aI x] S = some (.inl (some (aI x)), S) := ev_end i287_68 rfl
theorem m287 {d : Nat} {o : OId} {a0 : Int32} {a1 : Int32} {S : SS} : evm (d + 1) 287 [aR o, aI a0, aI a1] S = ev (evm d) 287 0 [some (aR o), some (aI a0), some (aI a1), none, none] [] [] S := evm_s (n := 5) rfl (Nat.le_of_ble_eq_true rfl) rfl rfl
/-! FrequencyOfficeModel.movesFor(II)I -/
theorem i288_0 : insAt 288 0 = some (.aload_n 0, 1, (0, 0, 0, 0), 0) := rfl
theorem s288_0 {c : Nat → List AV → SS → Option Out} {l1 l2 l3 : Option AV} {o : OId} {L2 : List (Nat × AV)} {St : List AV} {S : SS} : ev c 288 0 [some (aR o), l1, l2, l3] L2 St S = ev c 288 1 [some (aR o), l1, l2, l3] L2 (aR o :: St) S := ev_go i288_0 rfl
theorem i288_1 : insAt 288 1 = some (.iload_n 1, 1, (0, 0, 0, 0), 0) := rfl
theorem s288_1 {c : Nat → List AV → SS → Option Out} {l0 l2 l3 : Option AV} {x : Int32} {L2 : List (Nat × AV)} {St : List AV} {S : SS} : ev c 288 1 [l0, some (aI x), l2, l3] L2 St S = ev c 288 2 [l0, some (aI x), l2, l3] L2 (aI x :: St) S := ev_go i288_1 rfl
theorem i288_2 : insAt 288 2 = some (.iload_n 2, 1, (0, 0, 0, 0), 0) := rfl
theorem s288_2 {c : Nat → List AV → SS → Option Out} {l0 l1 l3 : Option AV} {x : Int32} {L2 : List (Nat × AV)} {St : List AV} {S : SS} : ev c 288 2 [l0, l1, some (aI x), l3] L2 St S = ev c 288 3 [l0, l1, some (aI x), l3] L2 (aI x :: St) S := ev_go i288_2 rfl
theorem i288_3 : insAt 288 3 = some (.invokestatic 158, 3, (227, 2, 0, 0), 0) := rfl
theorem s288_3 {c : Nat → List AV → SS → Option Out} {l0 l1 l2 l3 : Option AV} {t0 : AV} {a0 : Int32} {a1 : Int32} {L2 : List (Nat × AV)} {S : SS} : ev c 288 3 [l0, l1, l2, l3] L2 [aI a1, aI a0, t0] S = ck (c 227 [aI a0, aI a1] S) (fun v S' => ev c 288 6 [l0, l1, l2, l3] L2 (v.toList ++ [t0]) S') := ev_call i288_3 rfl
theorem i288_6 : insAt 288 6 = some (.invokevirtual 176, 3, (259, 1, 2, 12), 0) := rfl
theorem s288_6 {c : Nat → List AV → SS → Option Out} {l0 l1 l2 l3 : Option AV} {a0 : Int32} {j t : Nat} {L2 : List (Nat × AV)} {S : SS} : ev c 288 6 [l0, l1, l2, l3] L2 [aI a0, aR (12, j, t)] S = ck (c 259 [aR (12, j, t), aI a0] S) (fun v S' => ev c 288 9 [l0, l1, l2, l3] L2 (v.toList ++ []) S') := ev_call i288_6 rfl
theorem i288_9 : insAt 288 9 = some (.ifCond .le 5, 3, (0, 0, 0, 0), 0) := rfl
theorem s288_9 {c : Nat → List AV → SS → Option Out} {l0 l1 l2 l3 : Option AV} {x : Int32} {L2 : List (Nat × AV)} {St : List AV} {S : SS} : ev c 288 9 [l0, l1, l2, l3] L2 (aI x :: St) S = if x ≤ 0 then ev c 288 14 [l0, l1, l2, l3] L2 St S else ev c 288 12 [l0, l1, l2, l3] L2 St S := ev_br i288_9 rfl
theorem i288_12 : insAt 288 12 = some (.iconst 0, 1, (0, 0, 0, 0), 0) := rfl
theorem s288_12 {c : Nat → List AV → SS → Option Out} {l0 l1 l2 l3 : Option AV} {L2 : List (Nat × AV)} {St : List AV} {S : SS} : ev c 288 12 [l0, l1, l2, l3] L2 St S = ev c 288 13 [l0, l1, l2, l3] L2 (aI 0 :: St) S := ev_go i288_12 rfl
theorem i288_13 : insAt 288 13 = some (.ireturn, 1, (0, 0, 0, 0), 0) := rfl
theorem s288_13 {c : Nat → List AV → SS → Option Out} {l0 l1 l2 l3 : Option AV} {x : Int32} {L2 : List (Nat × AV)} {St : List AV} {S : SS} : ev c 288 13 [l0, l1, l2, l3] L2 [aI x] S = some (.inl (some (aI x)), S) := ev_end i288_13 rfl
theorem i288_14 : insAt 288 14 = some (.aload_n 0, 1, (0, 0, 0, 0), 0) := rfl
theorem s288_14 {c : Nat → List AV → SS → Option Out} {l1 l2 l3 : Option AV} {o : OId} {L2 : List (Nat × AV)} {St : List AV} {S : SS} : ev c 288 14 [some (aR o), l1, l2, l3] L2 St S = ev c 288 15 [some (aR o), l1, l2, l3] L2 (aR o :: St) S := ev_go i288_14 rfl
theorem i288_15 : insAt 288 15 = some (.iload_n 1, 1, (0, 0, 0, 0), 0) := rfl
theorem s288_15 {c : Nat → List AV → SS → Option Out} {l0 l2 l3 : Option AV} {x : Int32} {L2 : List (Nat × AV)} {St : List AV} {S : SS} : ev c 288 15 [l0, some (aI x), l2, l3] L2 St S = ev c 288 16 [l0, some (aI x), l2, l3] L2 (aI x :: St) S := ev_go i288_15 rfl
theorem i288_16 : insAt 288 16 = some (.iload_n 2, 1, (0, 0, 0, 0), 0) := rfl
theorem s288_16 {c : Nat → List AV → SS → Option Out} {l0 l1 l3 : Option AV} {x : Int32} {L2 : List (Nat × AV)} {St : List AV} {S : SS} : ev c 288 16 [l0, l1, some (aI x), l3] L2 St S = ev c 288 17 [l0, l1, some (aI x), l3] L2 (aI x :: St) S := ev_go i288_16 rfl
theorem i288_17 : insAt 288 17 = some (.iconst (-1), 1, (0, 0, 0, 0), 0) := rfl
theorem s288_17 {c : Nat → List AV → SS → Option Out} {l0 l1 l2 l3 : Option AV} {L2 : List (Nat × AV)} {St : List AV} {S : SS} : ev c 288 17 [l0, l1, l2, l3] L2 St S = ev c 288 18 [l0, l1, l2, l3] L2 (aI (-1) :: St) S := ev_go i288_17 rfl
theorem i288_18 : insAt 288 18 = some (.iconst (-1), 1, (0, 0, 0, 0), 0) := rfl
theorem s288_18 {c : Nat → List AV → SS → Option Out} {l0 l1 l2 l3 : Option AV} {L2 : List (Nat × AV)} {St : List AV} {S : SS} : ev c 288 18 [l0, l1, l2, l3] L2 St S = ev c 288 19 [l0, l1, l2, l3] L2 (aI (-1) :: St) S := ev_go i288_18 rfl
theorem i288_19 : insAt 288 19 = some (.iconst (-1), 1, (0, 0, 0, 0), 0) := rfl
theorem s288_19 {c : Nat → List AV → SS → Option Out} {l0 l1 l2 l3 : Option AV} {L2 : List (Nat × AV)} {St : List AV} {S : SS} : ev c 288 19 [l0, l1, l2, l3] L2 St S = ev c 288 20 [l0, l1, l2, l3] L2 (aI (-1) :: St) S := ev_go i288_19 rfl
theorem i288_20 : insAt 288 20 = some (.invokevirtual 140, 3, (229, 5, 2, 12), 0) := rfl
theorem s288_20 {c : Nat → List AV → SS → Option Out} {l0 l1 l2 l3 : Option AV} {a0 : Int32} {a1 : Int32} {a2 : Int32} {a3 : Int32} {a4 : Int32} {j t : Nat} {L2 : List (Nat × AV)} {S : SS} : ev c 288 20 [l0, l1, l2, l3] L2 [aI a4, aI a3, aI a2, aI a1, aI a0, aR (12, j, t)] S = ck (c 229 [aR (12, j, t), aI a0, aI a1, aI a2, aI a3, aI a4] S) (fun v S' => ev c 288 23 [l0, l1, l2, l3] L2 (v.toList ++ []) S') := ev_call i288_20 rfl
theorem i288_23 : insAt 288 23 = some (.istore_n 3, 1, (0, 0, 0, 0), 0) := rfl
theorem s288_23 {c : Nat → List AV → SS → Option Out} {l0 l1 l2 l3 : Option AV} {x : Int32} {L2 : List (Nat × AV)} {St : List AV} {S : SS} : ev c 288 23 [l0, l1, l2, l3] L2 (aI x :: St) S = ev c 288 24 [l0, l1, l2, some (aI x)] (kil L2 3) St S := ev_go i288_23 rfl
theorem i288_24 : insAt 288 24 = some (.aload_n 0, 1, (0, 0, 0, 0), 0) := rfl
theorem s288_24 {c : Nat → List AV → SS → Option Out} {l1 l2 l3 : Option AV} {o : OId} {L2 : List (Nat × AV)} {St : List AV} {S : SS} : ev c 288 24 [some (aR o), l1, l2, l3] L2 St S = ev c 288 25 [some (aR o), l1, l2, l3] L2 (aR o :: St) S := ev_go i288_24 rfl
theorem i288_25 : insAt 288 25 = some (.iload_n 3, 1, (0, 0, 0, 0), 0) := rfl
theorem s288_25 {c : Nat → List AV → SS → Option Out} {l0 l1 l2 : Option AV} {x : Int32} {L2 : List (Nat × AV)} {St : List AV} {S : SS} : ev c 288 25 [l0, l1, l2, some (aI x)] L2 St S = ev c 288 26 [l0, l1, l2, some (aI x)] L2 (aI x :: St) S := ev_go i288_25 rfl
theorem i288_26 : insAt 288 26 = some (.ifCond .ge 7, 3, (0, 0, 0, 0), 0) := rfl
theorem s288_26 {c : Nat → List AV → SS → Option Out} {l0 l1 l2 l3 : Option AV} {x : Int32} {L2 : List (Nat × AV)} {St : List AV} {S : SS} : ev c 288 26 [l0, l1, l2, l3] L2 (aI x :: St) S = if 0 ≤ x then ev c 288 33 [l0, l1, l2, l3] L2 St S else ev c 288 29 [l0, l1, l2, l3] L2 St S := ev_br i288_26 rfl
theorem i288_29 : insAt 288 29 = some (.iconst 2, 1, (0, 0, 0, 0), 0) := rfl
theorem s288_29 {c : Nat → List AV → SS → Option Out} {l0 l1 l2 l3 : Option AV} {L2 : List (Nat × AV)} {St : List AV} {S : SS} : ev c 288 29 [l0, l1, l2, l3] L2 St S = ev c 288 30 [l0, l1, l2, l3] L2 (aI 2 :: St) S := ev_go i288_29 rfl
theorem i288_30 : insAt 288 30 = some (.goto 4, 3, (0, 0, 0, 0), 0) := rfl
theorem s288_30 {c : Nat → List AV → SS → Option Out} {l0 l1 l2 l3 : Option AV} {L2 : List (Nat × AV)} {St : List AV} {S : SS} : ev c 288 30 [l0, l1, l2, l3] L2 St S = ev c 288 34 [l0, l1, l2, l3] L2 St S := ev_go i288_30 rfl
theorem i288_33 : insAt 288 33 = some (.iconst 0, 1, (0, 0, 0, 0), 0) := rfl
theorem s288_33 {c : Nat → List AV → SS → Option Out} {l0 l1 l2 l3 : Option AV} {L2 : List (Nat × AV)} {St : List AV} {S : SS} : ev c 288 33 [l0, l1, l2, l3] L2 St S = ev c 288 34 [l0, l1, l2, l3] L2 (aI 0 :: St) S := ev_go i288_33 rfl
theorem i288_34 : insAt 288 34 = some (.putfield 31, 3, (12, 7, 0, 0), 0) := rfl
theorem s288_34 {c : Nat → List AV → SS → Option Out} {l0 l1 l2 l3 : Option AV} {j t : Nat} {x : Int32} {L2 : List (Nat × AV)} {St : List AV} {S : SS} : ev c 288 34 [l0, l1, l2, l3] L2 (aI x :: aR (12, j, t) :: St) S = ev c 288 37 [l0, l1, l2, l3] L2 St (setI S.1 (12, j, t) 7 x, S.2) := ev_go i288_34 rfl
theorem i288_37 : insAt 288 37 = some (.iload_n 3, 1, (0, 0, 0, 0), 0) := rfl
theorem s288_37 {c : Nat → List AV → SS → Option Out} {l0 l1 l2 : Option AV} {x : Int32} {L2 : List (Nat × AV)} {St : List AV} {S : SS} : ev c 288 37 [l0, l1, l2, some (aI x)] L2 St S = ev c 288 38 [l0, l1, l2, some (aI x)] L2 (aI x :: St) S := ev_go i288_37 rfl
theorem i288_38 : insAt 288 38 = some (.ireturn, 1, (0, 0, 0, 0), 0) := rfl
theorem s288_38 {c : Nat → List AV → SS → Option Out} {l0 l1 l2 l3 : Option AV} {x : Int32} {L2 : List (Nat × AV)} {St : List AV} {S : SS} : ev c 288 38 [l0, l1, l2, l3] L2 [aI x] S = some (.inl (some (aI x)), S) := ev_end i288_38 rfl
theorem m288 {d : Nat} {o : OId} {a0 : Int32} {a1 : Int32} {S : SS} : evm (d + 1) 288 [aR o, aI a0, aI a1] S = ev (evm d) 288 0 [some (aR o), some (aI a0), some (aI a1), none] [] [] S := evm_s (n := 4) rfl (Nat.le_of_ble_eq_true rfl) rfl rfl
/-! FrequencyOfficeModel.movesForByQueue(II)I -/
theorem i289_0 : insAt 289 0 = some (.aload_n 0, 1, (0, 0, 0, 0), 0) := rfl
theorem s289_0 {c : Nat → List AV → SS → Option Out} {l1 l2 : Option AV} {o : OId} {L2 : List (Nat × AV)} {St : List AV} {S : SS} : ev c 289 0 [some (aR o), l1, l2] L2 St S = ev c 289 1 [some (aR o), l1, l2] L2 (aR o :: St) S := ev_go i289_0 rfl
theorem i289_1 : insAt 289 1 = some (.iload_n 1, 1, (0, 0, 0, 0), 0) := rfl
theorem s289_1 {c : Nat → List AV → SS → Option Out} {l0 l2 : Option AV} {x : Int32} {L2 : List (Nat × AV)} {St : List AV} {S : SS} : ev c 289 1 [l0, some (aI x), l2] L2 St S = ev c 289 2 [l0, some (aI x), l2] L2 (aI x :: St) S := ev_go i289_1 rfl
theorem i289_2 : insAt 289 2 = some (.iload_n 2, 1, (0, 0, 0, 0), 0) := rfl
theorem s289_2 {c : Nat → List AV → SS → Option Out} {l0 l1 : Option AV} {x : Int32} {L2 : List (Nat × AV)} {St : List AV} {S : SS} : ev c 289 2 [l0, l1, some (aI x)] L2 St S = ev c 289 3 [l0, l1, some (aI x)] L2 (aI x :: St) S := ev_go i289_2 rfl
theorem i289_3 : insAt 289 3 = some (.invokevirtual 192, 3, (288, 2, 2, 12), 0) := rfl
theorem s289_3 {c : Nat → List AV → SS → Option Out} {l0 l1 l2 : Option AV} {a0 : Int32} {a1 : Int32} {j t : Nat} {L2 : List (Nat × AV)} {S : SS} : ev c 289 3 [l0, l1, l2] L2 [aI a1, aI a0, aR (12, j, t)] S = ck (c 288 [aR (12, j, t), aI a0, aI a1] S) (fun v S' => ev c 289 6 [l0, l1, l2] L2 (v.toList ++ []) S') := ev_call i289_3 rfl
theorem i289_6 : insAt 289 6 = some (.ireturn, 1, (0, 0, 0, 0), 0) := rfl
theorem s289_6 {c : Nat → List AV → SS → Option Out} {l0 l1 l2 : Option AV} {x : Int32} {L2 : List (Nat × AV)} {St : List AV} {S : SS} : ev c 289 6 [l0, l1, l2] L2 [aI x] S = some (.inl (some (aI x)), S) := ev_end i289_6 rfl
theorem m289 {d : Nat} {o : OId} {a0 : Int32} {a1 : Int32} {S : SS} : evm (d + 1) 289 [aR o, aI a0, aI a1] S = ev (evm d) 289 0 [some (aR o), some (aI a0), some (aI a1)] [] [] S := evm_s (n := 3) rfl (Nat.le_of_ble_eq_true rfl) rfl rfl
/-! FrequencyOfficeModel.movesToChange(II)I -/
theorem i290_0 : insAt 290 0 = some (.aload_n 0, 1, (0, 0, 0, 0), 0) := rfl
theorem s290_0 {c : Nat → List AV → SS → Option Out} {l1 l2 l3 : Option AV} {o : OId} {L2 : List (Nat × AV)} {St : List AV} {S : SS} : ev c 290 0 [some (aR o), l1, l2, l3] L2 St S = ev c 290 1 [some (aR o), l1, l2, l3] L2 (aR o :: St) S := ev_go i290_0 rfl
theorem i290_1 : insAt 290 1 = some (.aload_n 0, 1, (0, 0, 0, 0), 0) := rfl
theorem s290_1 {c : Nat → List AV → SS → Option Out} {l1 l2 l3 : Option AV} {o : OId} {L2 : List (Nat × AV)} {St : List AV} {S : SS} : ev c 290 1 [some (aR o), l1, l2, l3] L2 St S = ev c 290 2 [some (aR o), l1, l2, l3] L2 (aR o :: St) S := ev_go i290_1 rfl
theorem i290_2 : insAt 290 2 = some (.iload_n 1, 1, (0, 0, 0, 0), 0) := rfl
theorem s290_2 {c : Nat → List AV → SS → Option Out} {l0 l2 l3 : Option AV} {x : Int32} {L2 : List (Nat × AV)} {St : List AV} {S : SS} : ev c 290 2 [l0, some (aI x), l2, l3] L2 St S = ev c 290 3 [l0, some (aI x), l2, l3] L2 (aI x :: St) S := ev_go i290_2 rfl
theorem i290_3 : insAt 290 3 = some (.iload_n 2, 1, (0, 0, 0, 0), 0) := rfl
theorem s290_3 {c : Nat → List AV → SS → Option Out} {l0 l1 l3 : Option AV} {x : Int32} {L2 : List (Nat × AV)} {St : List AV} {S : SS} : ev c 290 3 [l0, l1, some (aI x), l3] L2 St S = ev c 290 4 [l0, l1, some (aI x), l3] L2 (aI x :: St) S := ev_go i290_3 rfl
theorem i290_4 : insAt 290 4 = some (.invokevirtual 195, 3, (291, 2, 2, 12), 0) := rfl
theorem s290_4 {c : Nat → List AV → SS → Option Out} {l0 l1 l2 l3 : Option AV} {t0 : AV} {a0 : Int32} {a1 : Int32} {j t : Nat} {L2 : List (Nat × AV)} {S : SS} : ev c 290 4 [l0, l1, l2, l3] L2 [aI a1, aI a0, aR (12, j, t), t0] S = ck (c 291 [aR (12, j, t), aI a0, aI a1] S) (fun v S' => ev c 290 7 [l0, l1, l2, l3] L2 (v.toList ++ [t0]) S') := ev_call i290_4 rfl
theorem i290_7 : insAt 290 7 = some (.putfield 31, 3, (12, 7, 0, 0), 0) := rfl
theorem s290_7 {c : Nat → List AV → SS → Option Out} {l0 l1 l2 l3 : Option AV} {j t : Nat} {x : Int32} {L2 : List (Nat × AV)} {St : List AV} {S : SS} : ev c 290 7 [l0, l1, l2, l3] L2 (aI x :: aR (12, j, t) :: St) S = ev c 290 10 [l0, l1, l2, l3] L2 St (setI S.1 (12, j, t) 7 x, S.2) := ev_go i290_7 rfl
theorem i290_10 : insAt 290 10 = some (.aload_n 0, 1, (0, 0, 0, 0), 0) := rfl
theorem s290_10 {c : Nat → List AV → SS → Option Out} {l1 l2 l3 : Option AV} {o : OId} {L2 : List (Nat × AV)} {St : List AV} {S : SS} : ev c 290 10 [some (aR o), l1, l2, l3] L2 St S = ev c 290 11 [some (aR o), l1, l2, l3] L2 (aR o :: St) S := ev_go i290_10 rfl
theorem i290_11 : insAt 290 11 = some (.getfield 31, 3, (12, 7, 0, 0), 0) := rfl
theorem s290_11 {c : Nat → List AV → SS → Option Out} {l0 l1 l2 l3 : Option AV} {j t : Nat} {L2 : List (Nat × AV)} {St : List AV} {S : SS} : ev c 290 11 [l0, l1, l2, l3] L2 (aR (12, j, t) :: St) S = ev c 290 14 [l0, l1, l2, l3] L2 (aI (S.1 (12, j, t) 7) :: St) S := ev_go i290_11 rfl
theorem i290_14 : insAt 290 14 = some (.ifCond .le 5, 3, (0, 0, 0, 0), 0) := rfl
theorem s290_14 {c : Nat → List AV → SS → Option Out} {l0 l1 l2 l3 : Option AV} {x : Int32} {L2 : List (Nat × AV)} {St : List AV} {S : SS} : ev c 290 14 [l0, l1, l2, l3] L2 (aI x :: St) S = if x ≤ 0 then ev c 290 19 [l0, l1, l2, l3] L2 St S else ev c 290 17 [l0, l1, l2, l3] L2 St S := ev_br i290_14 rfl
theorem i290_17 : insAt 290 17 = some (.iconst 0, 1, (0, 0, 0, 0), 0) := rfl
theorem s290_17 {c : Nat → List AV → SS → Option Out} {l0 l1 l2 l3 : Option AV} {L2 : List (Nat × AV)} {St : List AV} {S : SS} : ev c 290 17 [l0, l1, l2, l3] L2 St S = ev c 290 18 [l0, l1, l2, l3] L2 (aI 0 :: St) S := ev_go i290_17 rfl
theorem i290_18 : insAt 290 18 = some (.ireturn, 1, (0, 0, 0, 0), 0) := rfl
theorem s290_18 {c : Nat → List AV → SS → Option Out} {l0 l1 l2 l3 : Option AV} {x : Int32} {L2 : List (Nat × AV)} {St : List AV} {S : SS} : ev c 290 18 [l0, l1, l2, l3] L2 [aI x] S = some (.inl (some (aI x)), S) := ev_end i290_18 rfl
theorem i290_19 : insAt 290 19 = some (.aload_n 0, 1, (0, 0, 0, 0), 0) := rfl
theorem s290_19 {c : Nat → List AV → SS → Option Out} {l1 l2 l3 : Option AV} {o : OId} {L2 : List (Nat × AV)} {St : List AV} {S : SS} : ev c 290 19 [some (aR o), l1, l2, l3] L2 St S = ev c 290 20 [some (aR o), l1, l2, l3] L2 (aR o :: St) S := ev_go i290_19 rfl
theorem i290_20 : insAt 290 20 = some (.aload_n 0, 1, (0, 0, 0, 0), 0) := rfl
theorem s290_20 {c : Nat → List AV → SS → Option Out} {l1 l2 l3 : Option AV} {o : OId} {L2 : List (Nat × AV)} {St : List AV} {S : SS} : ev c 290 20 [some (aR o), l1, l2, l3] L2 St S = ev c 290 21 [some (aR o), l1, l2, l3] L2 (aR o :: St) S := ev_go i290_20 rfl
theorem i290_21 : insAt 290 21 = some (.iload_n 1, 1, (0, 0, 0, 0), 0) := rfl
theorem s290_21 {c : Nat → List AV → SS → Option Out} {l0 l2 l3 : Option AV} {x : Int32} {L2 : List (Nat × AV)} {St : List AV} {S : SS} : ev c 290 21 [l0, some (aI x), l2, l3] L2 St S = ev c 290 22 [l0, some (aI x), l2, l3] L2 (aI x :: St) S := ev_go i290_21 rfl
theorem i290_22 : insAt 290 22 = some (.invokevirtual 173, 3, (256, 1, 2, 12), 0) := rfl
theorem s290_22 {c : Nat → List AV → SS → Option Out} {l0 l1 l2 l3 : Option AV} {t0 : AV} {a0 : Int32} {j t : Nat} {L2 : List (Nat × AV)} {S : SS} : ev c 290 22 [l0, l1, l2, l3] L2 [aI a0, aR (12, j, t), t0] S = ck (c 256 [aR (12, j, t), aI a0] S) (fun v S' => ev c 290 25 [l0, l1, l2, l3] L2 (v.toList ++ [t0]) S') := ev_call i290_22 rfl
theorem i290_25 : insAt 290 25 = some (.iload_n 2, 1, (0, 0, 0, 0), 0) := rfl
theorem s290_25 {c : Nat → List AV → SS → Option Out} {l0 l1 l3 : Option AV} {x : Int32} {L2 : List (Nat × AV)} {St : List AV} {S : SS} : ev c 290 25 [l0, l1, some (aI x), l3] L2 St S = ev c 290 26 [l0, l1, some (aI x), l3] L2 (aI x :: St) S := ev_go i290_25 rfl
theorem i290_26 : insAt 290 26 = some (.iconst (-1), 1, (0, 0, 0, 0), 0) := rfl
theorem s290_26 {c : Nat → List AV → SS → Option Out} {l0 l1 l2 l3 : Option AV} {L2 : List (Nat × AV)} {St : List AV} {S : SS} : ev c 290 26 [l0, l1, l2, l3] L2 St S = ev c 290 27 [l0, l1, l2, l3] L2 (aI (-1) :: St) S := ev_go i290_26 rfl
theorem i290_27 : insAt 290 27 = some (.invokevirtual 198, 3, (292, 3, 2, 12), 0) := rfl
theorem s290_27 {c : Nat → List AV → SS → Option Out} {l0 l1 l2 l3 : Option AV} {a0 : Int32} {a1 : Int32} {a2 : Int32} {j t : Nat} {L2 : List (Nat × AV)} {S : SS} : ev c 290 27 [l0, l1, l2, l3] L2 [aI a2, aI a1, aI a0, aR (12, j, t)] S = ck (c 292 [aR (12, j, t), aI a0, aI a1, aI a2] S) (fun v S' => ev c 290 30 [l0, l1, l2, l3] L2 (v.toList ++ []) S') := ev_call i290_27 rfl
theorem i290_30 : insAt 290 30 = some (.istore_n 3, 1, (0, 0, 0, 0), 0) := rfl
theorem s290_30 {c : Nat → List AV → SS → Option Out} {l0 l1 l2 l3 : Option AV} {x : Int32} {L2 : List (Nat × AV)} {St : List AV} {S : SS} : ev c 290 30 [l0, l1, l2, l3] L2 (aI x :: St) S = ev c 290 31 [l0, l1, l2, some (aI x)] (kil L2 3) St S := ev_go i290_30 rfl
theorem i290_31 : insAt 290 31 = some (.aload_n 0, 1, (0, 0, 0, 0), 0) := rfl
theorem s290_31 {c : Nat → List AV → SS → Option Out} {l1 l2 l3 : Option AV} {o : OId} {L2 : List (Nat × AV)} {St : List AV} {S : SS} : ev c 290 31 [some (aR o), l1, l2, l3] L2 St S = ev c 290 32 [some (aR o), l1, l2, l3] L2 (aR o :: St) S := ev_go i290_31 rfl
theorem i290_32 : insAt 290 32 = some (.iload_n 3, 1, (0, 0, 0, 0), 0) := rfl
theorem s290_32 {c : Nat → List AV → SS → Option Out} {l0 l1 l2 : Option AV} {x : Int32} {L2 : List (Nat × AV)} {St : List AV} {S : SS} : ev c 290 32 [l0, l1, l2, some (aI x)] L2 St S = ev c 290 33 [l0, l1, l2, some (aI x)] L2 (aI x :: St) S := ev_go i290_32 rfl
theorem i290_33 : insAt 290 33 = some (.ifCond .ge 7, 3, (0, 0, 0, 0), 0) := rfl
theorem s290_33 {c : Nat → List AV → SS → Option Out} {l0 l1 l2 l3 : Option AV} {x : Int32} {L2 : List (Nat × AV)} {St : List AV} {S : SS} : ev c 290 33 [l0, l1, l2, l3] L2 (aI x :: St) S = if 0 ≤ x then ev c 290 40 [l0, l1, l2, l3] L2 St S else ev c 290 36 [l0, l1, l2, l3] L2 St S := ev_br i290_33 rfl
theorem i290_36 : insAt 290 36 = some (.iconst 4, 1, (0, 0, 0, 0), 0) := rfl
theorem s290_36 {c : Nat → List AV → SS → Option Out} {l0 l1 l2 l3 : Option AV} {L2 : List (Nat × AV)} {St : List AV} {S : SS} : ev c 290 36 [l0, l1, l2, l3] L2 St S = ev c 290 37 [l0, l1, l2, l3] L2 (aI 4 :: St) S := ev_go i290_36 rfl
theorem i290_37 : insAt 290 37 = some (.goto 4, 3, (0, 0, 0, 0), 0) := rfl
theorem s290_37 {c : Nat → List AV → SS → Option Out} {l0 l1 l2 l3 : Option AV} {L2 : List (Nat × AV)} {St : List AV} {S : SS} : ev c 290 37 [l0, l1, l2, l3] L2 St S = ev c 290 41 [l0, l1, l2, l3] L2 St S := ev_go i290_37 rfl
theorem i290_40 : insAt 290 40 = some (.iconst 0, 1, (0, 0, 0, 0), 0) := rfl
theorem s290_40 {c : Nat → List AV → SS → Option Out} {l0 l1 l2 l3 : Option AV} {L2 : List (Nat × AV)} {St : List AV} {S : SS} : ev c 290 40 [l0, l1, l2, l3] L2 St S = ev c 290 41 [l0, l1, l2, l3] L2 (aI 0 :: St) S := ev_go i290_40 rfl
theorem i290_41 : insAt 290 41 = some (.putfield 31, 3, (12, 7, 0, 0), 0) := rfl
theorem s290_41 {c : Nat → List AV → SS → Option Out} {l0 l1 l2 l3 : Option AV} {j t : Nat} {x : Int32} {L2 : List (Nat × AV)} {St : List AV} {S : SS} : ev c 290 41 [l0, l1, l2, l3] L2 (aI x :: aR (12, j, t) :: St) S = ev c 290 44 [l0, l1, l2, l3] L2 St (setI S.1 (12, j, t) 7 x, S.2) := ev_go i290_41 rfl
theorem i290_44 : insAt 290 44 = some (.iload_n 3, 1, (0, 0, 0, 0), 0) := rfl
theorem s290_44 {c : Nat → List AV → SS → Option Out} {l0 l1 l2 : Option AV} {x : Int32} {L2 : List (Nat × AV)} {St : List AV} {S : SS} : ev c 290 44 [l0, l1, l2, some (aI x)] L2 St S = ev c 290 45 [l0, l1, l2, some (aI x)] L2 (aI x :: St) S := ev_go i290_44 rfl
theorem i290_45 : insAt 290 45 = some (.ireturn, 1, (0, 0, 0, 0), 0) := rfl
theorem s290_45 {c : Nat → List AV → SS → Option Out} {l0 l1 l2 l3 : Option AV} {x : Int32} {L2 : List (Nat × AV)} {St : List AV} {S : SS} : ev c 290 45 [l0, l1, l2, l3] L2 [aI x] S = some (.inl (some (aI x)), S) := ev_end i290_45 rfl
theorem m290 {d : Nat} {o : OId} {a0 : Int32} {a1 : Int32} {S : SS} : evm (d + 1) 290 [aR o, aI a0, aI a1] S = ev (evm d) 290 0 [some (aR o), some (aI a0), some (aI a1), none] [] [] S := evm_s (n := 4) rfl (Nat.le_of_ble_eq_true rfl) rfl rfl
/-! FrequencyOfficeModel.wrongChange(II)I -/
theorem i291_0 : insAt 291 0 = some (.aload_n 0, 1, (0, 0, 0, 0), 0) := rfl
theorem s291_0 {c : Nat → List AV → SS → Option Out} {l1 l2 : Option AV} {o : OId} {L2 : List (Nat × AV)} {St : List AV} {S : SS} : ev c 291 0 [some (aR o), l1, l2] L2 St S = ev c 291 1 [some (aR o), l1, l2] L2 (aR o :: St) S := ev_go i291_0 rfl
theorem i291_1 : insAt 291 1 = some (.iload_n 1, 1, (0, 0, 0, 0), 0) := rfl
theorem s291_1 {c : Nat → List AV → SS → Option Out} {l0 l2 : Option AV} {x : Int32} {L2 : List (Nat × AV)} {St : List AV} {S : SS} : ev c 291 1 [l0, some (aI x), l2] L2 St S = ev c 291 2 [l0, some (aI x), l2] L2 (aI x :: St) S := ev_go i291_1 rfl
theorem i291_2 : insAt 291 2 = some (.invokevirtual 173, 3, (256, 1, 2, 12), 0) := rfl
theorem s291_2 {c : Nat → List AV → SS → Option Out} {l0 l1 l2 : Option AV} {a0 : Int32} {j t : Nat} {L2 : List (Nat × AV)} {S : SS} : ev c 291 2 [l0, l1, l2] L2 [aI a0, aR (12, j, t)] S = ck (c 256 [aR (12, j, t), aI a0] S) (fun v S' => ev c 291 5 [l0, l1, l2] L2 (v.toList ++ []) S') := ev_call i291_2 rfl
theorem i291_5 : insAt 291 5 = some (.ifCond .ge 7, 3, (0, 0, 0, 0), 0) := rfl
theorem s291_5 {c : Nat → List AV → SS → Option Out} {l0 l1 l2 : Option AV} {x : Int32} {L2 : List (Nat × AV)} {St : List AV} {S : SS} : ev c 291 5 [l0, l1, l2] L2 (aI x :: St) S = if 0 ≤ x then ev c 291 12 [l0, l1, l2] L2 St S else ev c 291 8 [l0, l1, l2] L2 St S := ev_br i291_5 rfl
theorem i291_8 : insAt 291 8 = some (.iconst 1, 1, (0, 0, 0, 0), 0) := rfl
theorem s291_8 {c : Nat → List AV → SS → Option Out} {l0 l1 l2 : Option AV} {L2 : List (Nat × AV)} {St : List AV} {S : SS} : ev c 291 8 [l0, l1, l2] L2 St S = ev c 291 9 [l0, l1, l2] L2 (aI 1 :: St) S := ev_go i291_8 rfl
theorem i291_9 : insAt 291 9 = some (.goto 48, 3, (0, 0, 0, 0), 0) := rfl
theorem s291_9 {c : Nat → List AV → SS → Option Out} {l0 l1 l2 : Option AV} {L2 : List (Nat × AV)} {St : List AV} {S : SS} : ev c 291 9 [l0, l1, l2] L2 St S = ev c 291 57 [l0, l1, l2] L2 St S := ev_go i291_9 rfl
theorem i291_12 : insAt 291 12 = some (.iload_n 2, 1, (0, 0, 0, 0), 0) := rfl
theorem s291_12 {c : Nat → List AV → SS → Option Out} {l0 l1 : Option AV} {x : Int32} {L2 : List (Nat × AV)} {St : List AV} {S : SS} : ev c 291 12 [l0, l1, some (aI x)] L2 St S = ev c 291 13 [l0, l1, some (aI x)] L2 (aI x :: St) S := ev_go i291_12 rfl
theorem i291_13 : insAt 291 13 = some (.iconst 0, 1, (0, 0, 0, 0), 0) := rfl
theorem s291_13 {c : Nat → List AV → SS → Option Out} {l0 l1 l2 : Option AV} {L2 : List (Nat × AV)} {St : List AV} {S : SS} : ev c 291 13 [l0, l1, l2] L2 St S = ev c 291 14 [l0, l1, l2] L2 (aI 0 :: St) S := ev_go i291_13 rfl
theorem i291_14 : insAt 291 14 = some (.bipush 7, 2, (0, 0, 0, 0), 0) := rfl
theorem s291_14 {c : Nat → List AV → SS → Option Out} {l0 l1 l2 : Option AV} {L2 : List (Nat × AV)} {St : List AV} {S : SS} : ev c 291 14 [l0, l1, l2] L2 St S = ev c 291 16 [l0, l1, l2] L2 (aI 7 :: St) S := ev_go i291_14 rfl
theorem i291_16 : insAt 291 16 = some (.invokestatic 154, 3, (228, 3, 0, 0), 0) := rfl
theorem s291_16 {c : Nat → List AV → SS → Option Out} {l0 l1 l2 : Option AV} {a0 : Int32} {a1 : Int32} {a2 : Int32} {L2 : List (Nat × AV)} {S : SS} : ev c 291 16 [l0, l1, l2] L2 [aI a2, aI a1, aI a0] S = ck (c 228 [aI a0, aI a1, aI a2] S) (fun v S' => ev c 291 19 [l0, l1, l2] L2 (v.toList ++ []) S') := ev_call i291_16 rfl
theorem i291_19 : insAt 291 19 = some (.ifCond .ne 7, 3, (0, 0, 0, 0), 0) := rfl
theorem s291_19 {c : Nat → List AV → SS → Option Out} {l0 l1 l2 : Option AV} {x : Int32} {L2 : List (Nat × AV)} {St : List AV} {S : SS} : ev c 291 19 [l0, l1, l2] L2 (aI x :: St) S = if x = 0 then ev c 291 22 [l0, l1, l2] L2 St S else ev c 291 26 [l0, l1, l2] L2 St S := (ev_br i291_19 rfl).trans (ite_not _ _ _)
theorem i291_22 : insAt 291 22 = some (.iconst 2, 1, (0, 0, 0, 0), 0) := rfl
theorem s291_22 {c : Nat → List AV → SS → Option Out} {l0 l1 l2 : Option AV} {L2 : List (Nat × AV)} {St : List AV} {S : SS} : ev c 291 22 [l0, l1, l2] L2 St S = ev c 291 23 [l0, l1, l2] L2 (aI 2 :: St) S := ev_go i291_22 rfl
theorem i291_23 : insAt 291 23 = some (.goto 34, 3, (0, 0, 0, 0), 0) := rfl
theorem s291_23 {c : Nat → List AV → SS → Option Out} {l0 l1 l2 : Option AV} {L2 : List (Nat × AV)} {St : List AV} {S : SS} : ev c 291 23 [l0, l1, l2] L2 St S = ev c 291 57 [l0, l1, l2] L2 St S := ev_go i291_23 rfl
theorem i291_26 : insAt 291 26 = some (.aload_n 0, 1, (0, 0, 0, 0), 0) := rfl
theorem s291_26 {c : Nat → List AV → SS → Option Out} {l1 l2 : Option AV} {o : OId} {L2 : List (Nat × AV)} {St : List AV} {S : SS} : ev c 291 26 [some (aR o), l1, l2] L2 St S = ev c 291 27 [some (aR o), l1, l2] L2 (aR o :: St) S := ev_go i291_26 rfl
theorem i291_27 : insAt 291 27 = some (.aload_n 0, 1, (0, 0, 0, 0), 0) := rfl
theorem s291_27 {c : Nat → List AV → SS → Option Out} {l1 l2 : Option AV} {o : OId} {L2 : List (Nat × AV)} {St : List AV} {S : SS} : ev c 291 27 [some (aR o), l1, l2] L2 St S = ev c 291 28 [some (aR o), l1, l2] L2 (aR o :: St) S := ev_go i291_27 rfl
theorem i291_28 : insAt 291 28 = some (.iload_n 1, 1, (0, 0, 0, 0), 0) := rfl
theorem s291_28 {c : Nat → List AV → SS → Option Out} {l0 l2 : Option AV} {x : Int32} {L2 : List (Nat × AV)} {St : List AV} {S : SS} : ev c 291 28 [l0, some (aI x), l2] L2 St S = ev c 291 29 [l0, some (aI x), l2] L2 (aI x :: St) S := ev_go i291_28 rfl
theorem i291_29 : insAt 291 29 = some (.invokevirtual 173, 3, (256, 1, 2, 12), 0) := rfl
theorem s291_29 {c : Nat → List AV → SS → Option Out} {l0 l1 l2 : Option AV} {t0 : AV} {a0 : Int32} {j t : Nat} {L2 : List (Nat × AV)} {S : SS} : ev c 291 29 [l0, l1, l2] L2 [aI a0, aR (12, j, t), t0] S = ck (c 256 [aR (12, j, t), aI a0] S) (fun v S' => ev c 291 32 [l0, l1, l2] L2 (v.toList ++ [t0]) S') := ev_call i291_29 rfl
theorem i291_32 : insAt 291 32 = some (.invokevirtual 115, 3, (233, 1, 2, 12), 0) := rfl
theorem s291_32 {c : Nat → List AV → SS → Option Out} {l0 l1 l2 : Option AV} {a0 : Int32} {j t : Nat} {L2 : List (Nat × AV)} {S : SS} : ev c 291 32 [l0, l1, l2] L2 [aI a0, aR (12, j, t)] S = ck (c 233 [aR (12, j, t), aI a0] S) (fun v S' => ev c 291 35 [l0, l1, l2] L2 (v.toList ++ []) S') := ev_call i291_32 rfl
theorem i291_35 : insAt 291 35 = some (.ifCond .eq 17, 3, (0, 0, 0, 0), 0) := rfl
theorem s291_35 {c : Nat → List AV → SS → Option Out} {l0 l1 l2 : Option AV} {x : Int32} {L2 : List (Nat × AV)} {St : List AV} {S : SS} : ev c 291 35 [l0, l1, l2] L2 (aI x :: St) S = if x = 0 then ev c 291 52 [l0, l1, l2] L2 St S else ev c 291 38 [l0, l1, l2] L2 St S := ev_br i291_35 rfl
theorem i291_38 : insAt 291 38 = some (.aload_n 0, 1, (0, 0, 0, 0), 0) := rfl
theorem s291_38 {c : Nat → List AV → SS → Option Out} {l1 l2 : Option AV} {o : OId} {L2 : List (Nat × AV)} {St : List AV} {S : SS} : ev c 291 38 [some (aR o), l1, l2] L2 St S = ev c 291 39 [some (aR o), l1, l2] L2 (aR o :: St) S := ev_go i291_38 rfl
theorem i291_39 : insAt 291 39 = some (.aload_n 0, 1, (0, 0, 0, 0), 0) := rfl
theorem s291_39 {c : Nat → List AV → SS → Option Out} {l1 l2 : Option AV} {o : OId} {L2 : List (Nat × AV)} {St : List AV} {S : SS} : ev c 291 39 [some (aR o), l1, l2] L2 St S = ev c 291 40 [some (aR o), l1, l2] L2 (aR o :: St) S := ev_go i291_39 rfl
theorem i291_40 : insAt 291 40 = some (.iload_n 1, 1, (0, 0, 0, 0), 0) := rfl
theorem s291_40 {c : Nat → List AV → SS → Option Out} {l0 l2 : Option AV} {x : Int32} {L2 : List (Nat × AV)} {St : List AV} {S : SS} : ev c 291 40 [l0, some (aI x), l2] L2 St S = ev c 291 41 [l0, some (aI x), l2] L2 (aI x :: St) S := ev_go i291_40 rfl
theorem i291_41 : insAt 291 41 = some (.invokevirtual 173, 3, (256, 1, 2, 12), 0) := rfl
theorem s291_41 {c : Nat → List AV → SS → Option Out} {l0 l1 l2 : Option AV} {t0 : AV} {a0 : Int32} {j t : Nat} {L2 : List (Nat × AV)} {S : SS} : ev c 291 41 [l0, l1, l2] L2 [aI a0, aR (12, j, t), t0] S = ck (c 256 [aR (12, j, t), aI a0] S) (fun v S' => ev c 291 44 [l0, l1, l2] L2 (v.toList ++ [t0]) S') := ev_call i291_41 rfl
theorem i291_44 : insAt 291 44 = some (.iconst 3, 1, (0, 0, 0, 0), 0) := rfl
theorem s291_44 {c : Nat → List AV → SS → Option Out} {l0 l1 l2 : Option AV} {L2 : List (Nat × AV)} {St : List AV} {S : SS} : ev c 291 44 [l0, l1, l2] L2 St S = ev c 291 45 [l0, l1, l2] L2 (aI 3 :: St) S := ev_go i291_44 rfl
theorem i291_45 : insAt 291 45 = some (.invokevirtual 75, 3, (234, 2, 2, 12), 0) := rfl
theorem s291_45 {c : Nat → List AV → SS → Option Out} {l0 l1 l2 : Option AV} {a0 : Int32} {a1 : Int32} {j t : Nat} {L2 : List (Nat × AV)} {S : SS} : ev c 291 45 [l0, l1, l2] L2 [aI a1, aI a0, aR (12, j, t)] S = ck (c 234 [aR (12, j, t), aI a0, aI a1] S) (fun v S' => ev c 291 48 [l0, l1, l2] L2 (v.toList ++ []) S') := ev_call i291_45 rfl
theorem i291_48 : insAt 291 48 = some (.iload_n 2, 1, (0, 0, 0, 0), 0) := rfl
theorem s291_48 {c : Nat → List AV → SS → Option Out} {l0 l1 : Option AV} {x : Int32} {L2 : List (Nat × AV)} {St : List AV} {S : SS} : ev c 291 48 [l0, l1, some (aI x)] L2 St S = ev c 291 49 [l0, l1, some (aI x)] L2 (aI x :: St) S := ev_go i291_48 rfl
theorem i291_49 : insAt 291 49 = some (.if_icmp .ne 7, 3, (0, 0, 0, 0), 0) := rfl
theorem s291_49 {c : Nat → List AV → SS → Option Out} {l0 l1 l2 : Option AV} {x y : Int32} {L2 : List (Nat × AV)} {St : List AV} {S : SS} : ev c 291 49 [l0, l1, l2] L2 (aI y :: aI x :: St) S = if x = y then ev c 291 52 [l0, l1, l2] L2 St S else ev c 291 56 [l0, l1, l2] L2 St S := (ev_br i291_49 rfl).trans (ite_not _ _ _)
theorem i291_52 : insAt 291 52 = some (.iconst 3, 1, (0, 0, 0, 0), 0) := rfl
theorem s291_52 {c : Nat → List AV → SS → Option Out} {l0 l1 l2 : Option AV} {L2 : List (Nat × AV)} {St : List AV} {S : SS} : ev c 291 52 [l0, l1, l2] L2 St S = ev c 291 53 [l0, l1, l2] L2 (aI 3 :: St) S := ev_go i291_52 rfl
theorem i291_53 : insAt 291 53 = some (.goto 4, 3, (0, 0, 0, 0), 0) := rfl
theorem s291_53 {c : Nat → List AV → SS → Option Out} {l0 l1 l2 : Option AV} {L2 : List (Nat × AV)} {St : List AV} {S : SS} : ev c 291 53 [l0, l1, l2] L2 St S = ev c 291 57 [l0, l1, l2] L2 St S := ev_go i291_53 rfl
theorem i291_56 : insAt 291 56 = some (.iconst 0, 1, (0, 0, 0, 0), 0) := rfl
theorem s291_56 {c : Nat → List AV → SS → Option Out} {l0 l1 l2 : Option AV} {L2 : List (Nat × AV)} {St : List AV} {S : SS} : ev c 291 56 [l0, l1, l2] L2 St S = ev c 291 57 [l0, l1, l2] L2 (aI 0 :: St) S := ev_go i291_56 rfl
theorem i291_57 : insAt 291 57 = some (.ireturn, 1, (0, 0, 0, 0), 0) := rfl
theorem s291_57 {c : Nat → List AV → SS → Option Out} {l0 l1 l2 : Option AV} {x : Int32} {L2 : List (Nat × AV)} {St : List AV} {S : SS} : ev c 291 57 [l0, l1, l2] L2 [aI x] S = some (.inl (some (aI x)), S) := ev_end i291_57 rfl
theorem m291 {d : Nat} {o : OId} {a0 : Int32} {a1 : Int32} {S : SS} : evm (d + 1) 291 [aR o, aI a0, aI a1] S = ev (evm d) 291 0 [some (aR o), some (aI a0), some (aI a1)] [] [] S := evm_s (n := 3) rfl (Nat.le_of_ble_eq_true rfl) rfl rfl
/-! FrequencyOfficeModel.planForSlot(III)I -/
theorem i292_0 : insAt 292 0 = some (.aload_n 0, 1, (0, 0, 0, 0), 0) := rfl
theorem s292_0 {c : Nat → List AV → SS → Option Out} {l1 l2 l3 : Option AV} {o : OId} {L2 : List (Nat × AV)} {St : List AV} {S : SS} : ev c 292 0 [some (aR o), l1, l2, l3] L2 St S = ev c 292 1 [some (aR o), l1, l2, l3] L2 (aR o :: St) S := ev_go i292_0 rfl
theorem i292_1 : insAt 292 1 = some (.aload_n 0, 1, (0, 0, 0, 0), 0) := rfl
theorem s292_1 {c : Nat → List AV → SS → Option Out} {l1 l2 l3 : Option AV} {o : OId} {L2 : List (Nat × AV)} {St : List AV} {S : SS} : ev c 292 1 [some (aR o), l1, l2, l3] L2 St S = ev c 292 2 [some (aR o), l1, l2, l3] L2 (aR o :: St) S := ev_go i292_1 rfl
theorem i292_2 : insAt 292 2 = some (.iload_n 1, 1, (0, 0, 0, 0), 0) := rfl
theorem s292_2 {c : Nat → List AV → SS → Option Out} {l0 l2 l3 : Option AV} {x : Int32} {L2 : List (Nat × AV)} {St : List AV} {S : SS} : ev c 292 2 [l0, some (aI x), l2, l3] L2 St S = ev c 292 3 [l0, some (aI x), l2, l3] L2 (aI x :: St) S := ev_go i292_2 rfl
theorem i292_3 : insAt 292 3 = some (.iconst 1, 1, (0, 0, 0, 0), 0) := rfl
theorem s292_3 {c : Nat → List AV → SS → Option Out} {l0 l1 l2 l3 : Option AV} {L2 : List (Nat × AV)} {St : List AV} {S : SS} : ev c 292 3 [l0, l1, l2, l3] L2 St S = ev c 292 4 [l0, l1, l2, l3] L2 (aI 1 :: St) S := ev_go i292_3 rfl
theorem i292_4 : insAt 292 4 = some (.invokevirtual 75, 3, (234, 2, 2, 12), 0) := rfl
theorem s292_4 {c : Nat → List AV → SS → Option Out} {l0 l1 l2 l3 : Option AV} {t0 : AV} {a0 : Int32} {a1 : Int32} {j t : Nat} {L2 : List (Nat × AV)} {S : SS} : ev c 292 4 [l0, l1, l2, l3] L2 [aI a1, aI a0, aR (12, j, t), t0] S = ck (c 234 [aR (12, j, t), aI a0, aI a1] S) (fun v S' => ev c 292 7 [l0, l1, l2, l3] L2 (v.toList ++ [t0]) S') := ev_call i292_4 rfl
theorem i292_7 : insAt 292 7 = some (.aload_n 0, 1, (0, 0, 0, 0), 0) := rfl
theorem s292_7 {c : Nat → List AV → SS → Option Out} {l1 l2 l3 : Option AV} {o : OId} {L2 : List (Nat × AV)} {St : List AV} {S : SS} : ev c 292 7 [some (aR o), l1, l2, l3] L2 St S = ev c 292 8 [some (aR o), l1, l2, l3] L2 (aR o :: St) S := ev_go i292_7 rfl
theorem i292_8 : insAt 292 8 = some (.iload_n 1, 1, (0, 0, 0, 0), 0) := rfl
theorem s292_8 {c : Nat → List AV → SS → Option Out} {l0 l2 l3 : Option AV} {x : Int32} {L2 : List (Nat × AV)} {St : List AV} {S : SS} : ev c 292 8 [l0, some (aI x), l2, l3] L2 St S = ev c 292 9 [l0, some (aI x), l2, l3] L2 (aI x :: St) S := ev_go i292_8 rfl
theorem i292_9 : insAt 292 9 = some (.iconst 2, 1, (0, 0, 0, 0), 0) := rfl
theorem s292_9 {c : Nat → List AV → SS → Option Out} {l0 l1 l2 l3 : Option AV} {L2 : List (Nat × AV)} {St : List AV} {S : SS} : ev c 292 9 [l0, l1, l2, l3] L2 St S = ev c 292 10 [l0, l1, l2, l3] L2 (aI 2 :: St) S := ev_go i292_9 rfl
theorem i292_10 : insAt 292 10 = some (.invokevirtual 75, 3, (234, 2, 2, 12), 0) := rfl
theorem s292_10 {c : Nat → List AV → SS → Option Out} {l0 l1 l2 l3 : Option AV} {t0 t1 : AV} {a0 : Int32} {a1 : Int32} {j t : Nat} {L2 : List (Nat × AV)} {S : SS} : ev c 292 10 [l0, l1, l2, l3] L2 [aI a1, aI a0, aR (12, j, t), t0, t1] S = ck (c 234 [aR (12, j, t), aI a0, aI a1] S) (fun v S' => ev c 292 13 [l0, l1, l2, l3] L2 (v.toList ++ [t0, t1]) S') := ev_call i292_10 rfl
theorem i292_13 : insAt 292 13 = some (.iload_n 1, 1, (0, 0, 0, 0), 0) := rfl
theorem s292_13 {c : Nat → List AV → SS → Option Out} {l0 l2 l3 : Option AV} {x : Int32} {L2 : List (Nat × AV)} {St : List AV} {S : SS} : ev c 292 13 [l0, some (aI x), l2, l3] L2 St S = ev c 292 14 [l0, some (aI x), l2, l3] L2 (aI x :: St) S := ev_go i292_13 rfl
theorem i292_14 : insAt 292 14 = some (.iload_n 2, 1, (0, 0, 0, 0), 0) := rfl
theorem s292_14 {c : Nat → List AV → SS → Option Out} {l0 l1 l3 : Option AV} {x : Int32} {L2 : List (Nat × AV)} {St : List AV} {S : SS} : ev c 292 14 [l0, l1, some (aI x), l3] L2 St S = ev c 292 15 [l0, l1, some (aI x), l3] L2 (aI x :: St) S := ev_go i292_14 rfl
theorem i292_15 : insAt 292 15 = some (.iload_n 3, 1, (0, 0, 0, 0), 0) := rfl
theorem s292_15 {c : Nat → List AV → SS → Option Out} {l0 l1 l2 : Option AV} {x : Int32} {L2 : List (Nat × AV)} {St : List AV} {S : SS} : ev c 292 15 [l0, l1, l2, some (aI x)] L2 St S = ev c 292 16 [l0, l1, l2, some (aI x)] L2 (aI x :: St) S := ev_go i292_15 rfl
theorem i292_16 : insAt 292 16 = some (.invokevirtual 140, 3, (229, 5, 2, 12), 0) := rfl
theorem s292_16 {c : Nat → List AV → SS → Option Out} {l0 l1 l2 l3 : Option AV} {a0 : Int32} {a1 : Int32} {a2 : Int32} {a3 : Int32} {a4 : Int32} {j t : Nat} {L2 : List (Nat × AV)} {S : SS} : ev c 292 16 [l0, l1, l2, l3] L2 [aI a4, aI a3, aI a2, aI a1, aI a0, aR (12, j, t)] S = ck (c 229 [aR (12, j, t), aI a0, aI a1, aI a2, aI a3, aI a4] S) (fun v S' => ev c 292 19 [l0, l1, l2, l3] L2 (v.toList ++ []) S') := ev_call i292_16 rfl
theorem i292_19 : insAt 292 19 = some (.ireturn, 1, (0, 0, 0, 0), 0) := rfl
theorem s292_19 {c : Nat → List AV → SS → Option Out} {l0 l1 l2 l3 : Option AV} {x : Int32} {L2 : List (Nat × AV)} {St : List AV} {S : SS} : ev c 292 19 [l0, l1, l2, l3] L2 [aI x] S = some (.inl (some (aI x)), S) := ev_end i292_19 rfl
theorem m292 {d : Nat} {o : OId} {a0 : Int32} {a1 : Int32} {a2 : Int32} {S : SS} : evm (d + 1) 292 [aR o, aI a0, aI a1, aI a2] S = ev (evm d) 292 0 [some (aR o), some (aI a0), some (aI a1), some (aI a2)] [] [] S := evm_s (n := 4) rfl (Nat.le_of_ble_eq_true rfl) rfl rfl
/-! FrequencyOfficeModel.movesToChangeByQueue(II)I -/
theorem i293_0 : insAt 293 0 = some (.aload_n 0, 1, (0, 0, 0, 0), 0) := rfl
theorem s293_0 {c : Nat → List AV → SS → Option Out} {l1 l2 : Option AV} {o : OId} {L2 : List (Nat × AV)} {St : List AV} {S : SS} : ev c 293 0 [some (aR o), l1, l2] L2 St S = ev c 293 1 [some (aR o), l1, l2] L2 (aR o :: St) S := ev_go i293_0 rfl
theorem i293_1 : insAt 293 1 = some (.iload_n 1, 1, (0, 0, 0, 0), 0) := rfl
theorem s293_1 {c : Nat → List AV → SS → Option Out} {l0 l2 : Option AV} {x : Int32} {L2 : List (Nat × AV)} {St : List AV} {S : SS} : ev c 293 1 [l0, some (aI x), l2] L2 St S = ev c 293 2 [l0, some (aI x), l2] L2 (aI x :: St) S := ev_go i293_1 rfl
theorem i293_2 : insAt 293 2 = some (.iload_n 2, 1, (0, 0, 0, 0), 0) := rfl
theorem s293_2 {c : Nat → List AV → SS → Option Out} {l0 l1 : Option AV} {x : Int32} {L2 : List (Nat × AV)} {St : List AV} {S : SS} : ev c 293 2 [l0, l1, some (aI x)] L2 St S = ev c 293 3 [l0, l1, some (aI x)] L2 (aI x :: St) S := ev_go i293_2 rfl
theorem i293_3 : insAt 293 3 = some (.invokevirtual 201, 3, (290, 2, 2, 12), 0) := rfl
theorem s293_3 {c : Nat → List AV → SS → Option Out} {l0 l1 l2 : Option AV} {a0 : Int32} {a1 : Int32} {j t : Nat} {L2 : List (Nat × AV)} {S : SS} : ev c 293 3 [l0, l1, l2] L2 [aI a1, aI a0, aR (12, j, t)] S = ck (c 290 [aR (12, j, t), aI a0, aI a1] S) (fun v S' => ev c 293 6 [l0, l1, l2] L2 (v.toList ++ []) S') := ev_call i293_3 rfl
theorem i293_6 : insAt 293 6 = some (.ireturn, 1, (0, 0, 0, 0), 0) := rfl
theorem s293_6 {c : Nat → List AV → SS → Option Out} {l0 l1 l2 : Option AV} {x : Int32} {L2 : List (Nat × AV)} {St : List AV} {S : SS} : ev c 293 6 [l0, l1, l2] L2 [aI x] S = some (.inl (some (aI x)), S) := ev_end i293_6 rfl
theorem m293 {d : Nat} {o : OId} {a0 : Int32} {a1 : Int32} {S : SS} : evm (d + 1) 293 [aR o, aI a0, aI a1] S = ev (evm d) 293 0 [some (aR o), some (aI a0), some (aI a1)] [] [] S := evm_s (n := 3) rfl (Nat.le_of_ble_eq_true rfl) rfl rfl
/-! FrequencyOfficeModel.change(II)I -/
theorem i294_0 : insAt 294 0 = some (.aload_n 0, 1, (0, 0, 0, 0), 0) := rfl
theorem s294_0 {c : Nat → List AV → SS → Option Out} {l1 l2 l3 : Option AV} {o : OId} {L2 : List (Nat × AV)} {St : List AV} {S : SS} : ev c 294 0 [some (aR o), l1, l2, l3] L2 St S = ev c 294 1 [some (aR o), l1, l2, l3] L2 (aR o :: St) S := ev_go i294_0 rfl
theorem i294_1 : insAt 294 1 = some (.aload_n 0, 1, (0, 0, 0, 0), 0) := rfl
theorem s294_1 {c : Nat → List AV → SS → Option Out} {l1 l2 l3 : Option AV} {o : OId} {L2 : List (Nat × AV)} {St : List AV} {S : SS} : ev c 294 1 [some (aR o), l1, l2, l3] L2 St S = ev c 294 2 [some (aR o), l1, l2, l3] L2 (aR o :: St) S := ev_go i294_1 rfl
theorem i294_2 : insAt 294 2 = some (.iload_n 1, 1, (0, 0, 0, 0), 0) := rfl
theorem s294_2 {c : Nat → List AV → SS → Option Out} {l0 l2 l3 : Option AV} {x : Int32} {L2 : List (Nat × AV)} {St : List AV} {S : SS} : ev c 294 2 [l0, some (aI x), l2, l3] L2 St S = ev c 294 3 [l0, some (aI x), l2, l3] L2 (aI x :: St) S := ev_go i294_2 rfl
theorem i294_3 : insAt 294 3 = some (.iload_n 2, 1, (0, 0, 0, 0), 0) := rfl
theorem s294_3 {c : Nat → List AV → SS → Option Out} {l0 l1 l3 : Option AV} {x : Int32} {L2 : List (Nat × AV)} {St : List AV} {S : SS} : ev c 294 3 [l0, l1, some (aI x), l3] L2 St S = ev c 294 4 [l0, l1, some (aI x), l3] L2 (aI x :: St) S := ev_go i294_3 rfl
theorem i294_4 : insAt 294 4 = some (.invokevirtual 195, 3, (291, 2, 2, 12), 0) := rfl
theorem s294_4 {c : Nat → List AV → SS → Option Out} {l0 l1 l2 l3 : Option AV} {t0 : AV} {a0 : Int32} {a1 : Int32} {j t : Nat} {L2 : List (Nat × AV)} {S : SS} : ev c 294 4 [l0, l1, l2, l3] L2 [aI a1, aI a0, aR (12, j, t), t0] S = ck (c 291 [aR (12, j, t), aI a0, aI a1] S) (fun v S' => ev c 294 7 [l0, l1, l2, l3] L2 (v.toList ++ [t0]) S') := ev_call i294_4 rfl
theorem i294_7 : insAt 294 7 = some (.putfield 31, 3, (12, 7, 0, 0), 0) := rfl
theorem s294_7 {c : Nat → List AV → SS → Option Out} {l0 l1 l2 l3 : Option AV} {j t : Nat} {x : Int32} {L2 : List (Nat × AV)} {St : List AV} {S : SS} : ev c 294 7 [l0, l1, l2, l3] L2 (aI x :: aR (12, j, t) :: St) S = ev c 294 10 [l0, l1, l2, l3] L2 St (setI S.1 (12, j, t) 7 x, S.2) := ev_go i294_7 rfl
theorem i294_10 : insAt 294 10 = some (.aload_n 0, 1, (0, 0, 0, 0), 0) := rfl
theorem s294_10 {c : Nat → List AV → SS → Option Out} {l1 l2 l3 : Option AV} {o : OId} {L2 : List (Nat × AV)} {St : List AV} {S : SS} : ev c 294 10 [some (aR o), l1, l2, l3] L2 St S = ev c 294 11 [some (aR o), l1, l2, l3] L2 (aR o :: St) S := ev_go i294_10 rfl
theorem i294_11 : insAt 294 11 = some (.getfield 31, 3, (12, 7, 0, 0), 0) := rfl
theorem s294_11 {c : Nat → List AV → SS → Option Out} {l0 l1 l2 l3 : Option AV} {j t : Nat} {L2 : List (Nat × AV)} {St : List AV} {S : SS} : ev c 294 11 [l0, l1, l2, l3] L2 (aR (12, j, t) :: St) S = ev c 294 14 [l0, l1, l2, l3] L2 (aI (S.1 (12, j, t) 7) :: St) S := ev_go i294_11 rfl
theorem i294_14 : insAt 294 14 = some (.ifCond .le 5, 3, (0, 0, 0, 0), 0) := rfl
theorem s294_14 {c : Nat → List AV → SS → Option Out} {l0 l1 l2 l3 : Option AV} {x : Int32} {L2 : List (Nat × AV)} {St : List AV} {S : SS} : ev c 294 14 [l0, l1, l2, l3] L2 (aI x :: St) S = if x ≤ 0 then ev c 294 19 [l0, l1, l2, l3] L2 St S else ev c 294 17 [l0, l1, l2, l3] L2 St S := ev_br i294_14 rfl
theorem i294_17 : insAt 294 17 = some (.iconst 0, 1, (0, 0, 0, 0), 0) := rfl
theorem s294_17 {c : Nat → List AV → SS → Option Out} {l0 l1 l2 l3 : Option AV} {L2 : List (Nat × AV)} {St : List AV} {S : SS} : ev c 294 17 [l0, l1, l2, l3] L2 St S = ev c 294 18 [l0, l1, l2, l3] L2 (aI 0 :: St) S := ev_go i294_17 rfl
theorem i294_18 : insAt 294 18 = some (.ireturn, 1, (0, 0, 0, 0), 0) := rfl
theorem s294_18 {c : Nat → List AV → SS → Option Out} {l0 l1 l2 l3 : Option AV} {x : Int32} {L2 : List (Nat × AV)} {St : List AV} {S : SS} : ev c 294 18 [l0, l1, l2, l3] L2 [aI x] S = some (.inl (some (aI x)), S) := ev_end i294_18 rfl
theorem i294_19 : insAt 294 19 = some (.aload_n 0, 1, (0, 0, 0, 0), 0) := rfl
theorem s294_19 {c : Nat → List AV → SS → Option Out} {l1 l2 l3 : Option AV} {o : OId} {L2 : List (Nat × AV)} {St : List AV} {S : SS} : ev c 294 19 [some (aR o), l1, l2, l3] L2 St S = ev c 294 20 [some (aR o), l1, l2, l3] L2 (aR o :: St) S := ev_go i294_19 rfl
theorem i294_20 : insAt 294 20 = some (.aload_n 0, 1, (0, 0, 0, 0), 0) := rfl
theorem s294_20 {c : Nat → List AV → SS → Option Out} {l1 l2 l3 : Option AV} {o : OId} {L2 : List (Nat × AV)} {St : List AV} {S : SS} : ev c 294 20 [some (aR o), l1, l2, l3] L2 St S = ev c 294 21 [some (aR o), l1, l2, l3] L2 (aR o :: St) S := ev_go i294_20 rfl
theorem i294_21 : insAt 294 21 = some (.iload_n 1, 1, (0, 0, 0, 0), 0) := rfl
theorem s294_21 {c : Nat → List AV → SS → Option Out} {l0 l2 l3 : Option AV} {x : Int32} {L2 : List (Nat × AV)} {St : List AV} {S : SS} : ev c 294 21 [l0, some (aI x), l2, l3] L2 St S = ev c 294 22 [l0, some (aI x), l2, l3] L2 (aI x :: St) S := ev_go i294_21 rfl
theorem i294_22 : insAt 294 22 = some (.invokevirtual 173, 3, (256, 1, 2, 12), 0) := rfl
theorem s294_22 {c : Nat → List AV → SS → Option Out} {l0 l1 l2 l3 : Option AV} {t0 : AV} {a0 : Int32} {j t : Nat} {L2 : List (Nat × AV)} {S : SS} : ev c 294 22 [l0, l1, l2, l3] L2 [aI a0, aR (12, j, t), t0] S = ck (c 256 [aR (12, j, t), aI a0] S) (fun v S' => ev c 294 25 [l0, l1, l2, l3] L2 (v.toList ++ [t0]) S') := ev_call i294_22 rfl
theorem i294_25 : insAt 294 25 = some (.iload_n 2, 1, (0, 0, 0, 0), 0) := rfl
theorem s294_25 {c : Nat → List AV → SS → Option Out} {l0 l1 l3 : Option AV} {x : Int32} {L2 : List (Nat × AV)} {St : List AV} {S : SS} : ev c 294 25 [l0, l1, some (aI x), l3] L2 St S = ev c 294 26 [l0, l1, some (aI x), l3] L2 (aI x :: St) S := ev_go i294_25 rfl
theorem i294_26 : insAt 294 26 = some (.iconst (-1), 1, (0, 0, 0, 0), 0) := rfl
theorem s294_26 {c : Nat → List AV → SS → Option Out} {l0 l1 l2 l3 : Option AV} {L2 : List (Nat × AV)} {St : List AV} {S : SS} : ev c 294 26 [l0, l1, l2, l3] L2 St S = ev c 294 27 [l0, l1, l2, l3] L2 (aI (-1) :: St) S := ev_go i294_26 rfl
theorem i294_27 : insAt 294 27 = some (.invokevirtual 198, 3, (292, 3, 2, 12), 0) := rfl
theorem s294_27 {c : Nat → List AV → SS → Option Out} {l0 l1 l2 l3 : Option AV} {a0 : Int32} {a1 : Int32} {a2 : Int32} {j t : Nat} {L2 : List (Nat × AV)} {S : SS} : ev c 294 27 [l0, l1, l2, l3] L2 [aI a2, aI a1, aI a0, aR (12, j, t)] S = ck (c 292 [aR (12, j, t), aI a0, aI a1, aI a2] S) (fun v S' => ev c 294 30 [l0, l1, l2, l3] L2 (v.toList ++ []) S') := ev_call i294_27 rfl
theorem i294_30 : insAt 294 30 = some (.istore_n 3, 1, (0, 0, 0, 0), 0) := rfl
theorem s294_30 {c : Nat → List AV → SS → Option Out} {l0 l1 l2 l3 : Option AV} {x : Int32} {L2 : List (Nat × AV)} {St : List AV} {S : SS} : ev c 294 30 [l0, l1, l2, l3] L2 (aI x :: St) S = ev c 294 31 [l0, l1, l2, some (aI x)] (kil L2 3) St S := ev_go i294_30 rfl
theorem i294_31 : insAt 294 31 = some (.aload_n 0, 1, (0, 0, 0, 0), 0) := rfl
theorem s294_31 {c : Nat → List AV → SS → Option Out} {l1 l2 l3 : Option AV} {o : OId} {L2 : List (Nat × AV)} {St : List AV} {S : SS} : ev c 294 31 [some (aR o), l1, l2, l3] L2 St S = ev c 294 32 [some (aR o), l1, l2, l3] L2 (aR o :: St) S := ev_go i294_31 rfl
theorem i294_32 : insAt 294 32 = some (.iload_n 3, 1, (0, 0, 0, 0), 0) := rfl
theorem s294_32 {c : Nat → List AV → SS → Option Out} {l0 l1 l2 : Option AV} {x : Int32} {L2 : List (Nat × AV)} {St : List AV} {S : SS} : ev c 294 32 [l0, l1, l2, some (aI x)] L2 St S = ev c 294 33 [l0, l1, l2, some (aI x)] L2 (aI x :: St) S := ev_go i294_32 rfl
theorem i294_33 : insAt 294 33 = some (.ifCond .ge 7, 3, (0, 0, 0, 0), 0) := rfl
theorem s294_33 {c : Nat → List AV → SS → Option Out} {l0 l1 l2 l3 : Option AV} {x : Int32} {L2 : List (Nat × AV)} {St : List AV} {S : SS} : ev c 294 33 [l0, l1, l2, l3] L2 (aI x :: St) S = if 0 ≤ x then ev c 294 40 [l0, l1, l2, l3] L2 St S else ev c 294 36 [l0, l1, l2, l3] L2 St S := ev_br i294_33 rfl
theorem i294_36 : insAt 294 36 = some (.iconst 4, 1, (0, 0, 0, 0), 0) := rfl
theorem s294_36 {c : Nat → List AV → SS → Option Out} {l0 l1 l2 l3 : Option AV} {L2 : List (Nat × AV)} {St : List AV} {S : SS} : ev c 294 36 [l0, l1, l2, l3] L2 St S = ev c 294 37 [l0, l1, l2, l3] L2 (aI 4 :: St) S := ev_go i294_36 rfl
theorem i294_37 : insAt 294 37 = some (.goto 4, 3, (0, 0, 0, 0), 0) := rfl
theorem s294_37 {c : Nat → List AV → SS → Option Out} {l0 l1 l2 l3 : Option AV} {L2 : List (Nat × AV)} {St : List AV} {S : SS} : ev c 294 37 [l0, l1, l2, l3] L2 St S = ev c 294 41 [l0, l1, l2, l3] L2 St S := ev_go i294_37 rfl
theorem i294_40 : insAt 294 40 = some (.iconst 0, 1, (0, 0, 0, 0), 0) := rfl
theorem s294_40 {c : Nat → List AV → SS → Option Out} {l0 l1 l2 l3 : Option AV} {L2 : List (Nat × AV)} {St : List AV} {S : SS} : ev c 294 40 [l0, l1, l2, l3] L2 St S = ev c 294 41 [l0, l1, l2, l3] L2 (aI 0 :: St) S := ev_go i294_40 rfl
theorem i294_41 : insAt 294 41 = some (.putfield 31, 3, (12, 7, 0, 0), 0) := rfl
theorem s294_41 {c : Nat → List AV → SS → Option Out} {l0 l1 l2 l3 : Option AV} {j t : Nat} {x : Int32} {L2 : List (Nat × AV)} {St : List AV} {S : SS} : ev c 294 41 [l0, l1, l2, l3] L2 (aI x :: aR (12, j, t) :: St) S = ev c 294 44 [l0, l1, l2, l3] L2 St (setI S.1 (12, j, t) 7 x, S.2) := ev_go i294_41 rfl
theorem i294_44 : insAt 294 44 = some (.aload_n 0, 1, (0, 0, 0, 0), 0) := rfl
theorem s294_44 {c : Nat → List AV → SS → Option Out} {l1 l2 l3 : Option AV} {o : OId} {L2 : List (Nat × AV)} {St : List AV} {S : SS} : ev c 294 44 [some (aR o), l1, l2, l3] L2 St S = ev c 294 45 [some (aR o), l1, l2, l3] L2 (aR o :: St) S := ev_go i294_44 rfl
theorem i294_45 : insAt 294 45 = some (.getfield 31, 3, (12, 7, 0, 0), 0) := rfl
theorem s294_45 {c : Nat → List AV → SS → Option Out} {l0 l1 l2 l3 : Option AV} {j t : Nat} {L2 : List (Nat × AV)} {St : List AV} {S : SS} : ev c 294 45 [l0, l1, l2, l3] L2 (aR (12, j, t) :: St) S = ev c 294 48 [l0, l1, l2, l3] L2 (aI (S.1 (12, j, t) 7) :: St) S := ev_go i294_45 rfl
theorem i294_48 : insAt 294 48 = some (.ifCond .le 5, 3, (0, 0, 0, 0), 0) := rfl
theorem s294_48 {c : Nat → List AV → SS → Option Out} {l0 l1 l2 l3 : Option AV} {x : Int32} {L2 : List (Nat × AV)} {St : List AV} {S : SS} : ev c 294 48 [l0, l1, l2, l3] L2 (aI x :: St) S = if x ≤ 0 then ev c 294 53 [l0, l1, l2, l3] L2 St S else ev c 294 51 [l0, l1, l2, l3] L2 St S := ev_br i294_48 rfl
theorem i294_51 : insAt 294 51 = some (.iconst 0, 1, (0, 0, 0, 0), 0) := rfl
theorem s294_51 {c : Nat → List AV → SS → Option Out} {l0 l1 l2 l3 : Option AV} {L2 : List (Nat × AV)} {St : List AV} {S : SS} : ev c 294 51 [l0, l1, l2, l3] L2 St S = ev c 294 52 [l0, l1, l2, l3] L2 (aI 0 :: St) S := ev_go i294_51 rfl
theorem i294_52 : insAt 294 52 = some (.ireturn, 1, (0, 0, 0, 0), 0) := rfl
theorem s294_52 {c : Nat → List AV → SS → Option Out} {l0 l1 l2 l3 : Option AV} {x : Int32} {L2 : List (Nat × AV)} {St : List AV} {S : SS} : ev c 294 52 [l0, l1, l2, l3] L2 [aI x] S = some (.inl (some (aI x)), S) := ev_end i294_52 rfl
theorem i294_53 : insAt 294 53 = some (.aload_n 0, 1, (0, 0, 0, 0), 0) := rfl
theorem s294_53 {c : Nat → List AV → SS → Option Out} {l1 l2 l3 : Option AV} {o : OId} {L2 : List (Nat × AV)} {St : List AV} {S : SS} : ev c 294 53 [some (aR o), l1, l2, l3] L2 St S = ev c 294 54 [some (aR o), l1, l2, l3] L2 (aR o :: St) S := ev_go i294_53 rfl
theorem i294_54 : insAt 294 54 = some (.invokevirtual 86, 3, (220, 0, 2, 12), 0) := rfl
theorem s294_54 {c : Nat → List AV → SS → Option Out} {l0 l1 l2 l3 : Option AV} {j t : Nat} {L2 : List (Nat × AV)} {S : SS} : ev c 294 54 [l0, l1, l2, l3] L2 [aR (12, j, t)] S = ck (c 220 [aR (12, j, t)] S) (fun v S' => ev c 294 57 [l0, l1, l2, l3] L2 (v.toList ++ []) S') := ev_call i294_54 rfl
theorem i294_57 : insAt 294 57 = some (.aload_n 0, 1, (0, 0, 0, 0), 0) := rfl
theorem s294_57 {c : Nat → List AV → SS → Option Out} {l1 l2 l3 : Option AV} {o : OId} {L2 : List (Nat × AV)} {St : List AV} {S : SS} : ev c 294 57 [some (aR o), l1, l2, l3] L2 St S = ev c 294 58 [some (aR o), l1, l2, l3] L2 (aR o :: St) S := ev_go i294_57 rfl
theorem i294_58 : insAt 294 58 = some (.aload_n 0, 1, (0, 0, 0, 0), 0) := rfl
theorem s294_58 {c : Nat → List AV → SS → Option Out} {l1 l2 l3 : Option AV} {o : OId} {L2 : List (Nat × AV)} {St : List AV} {S : SS} : ev c 294 58 [some (aR o), l1, l2, l3] L2 St S = ev c 294 59 [some (aR o), l1, l2, l3] L2 (aR o :: St) S := ev_go i294_58 rfl
theorem i294_59 : insAt 294 59 = some (.iload_n 1, 1, (0, 0, 0, 0), 0) := rfl
theorem s294_59 {c : Nat → List AV → SS → Option Out} {l0 l2 l3 : Option AV} {x : Int32} {L2 : List (Nat × AV)} {St : List AV} {S : SS} : ev c 294 59 [l0, some (aI x), l2, l3] L2 St S = ev c 294 60 [l0, some (aI x), l2, l3] L2 (aI x :: St) S := ev_go i294_59 rfl
theorem i294_60 : insAt 294 60 = some (.invokevirtual 173, 3, (256, 1, 2, 12), 0) := rfl
theorem s294_60 {c : Nat → List AV → SS → Option Out} {l0 l1 l2 l3 : Option AV} {t0 : AV} {a0 : Int32} {j t : Nat} {L2 : List (Nat × AV)} {S : SS} : ev c 294 60 [l0, l1, l2, l3] L2 [aI a0, aR (12, j, t), t0] S = ck (c 256 [aR (12, j, t), aI a0] S) (fun v S' => ev c 294 63 [l0, l1, l2, l3] L2 (v.toList ++ [t0]) S') := ev_call i294_60 rfl
theorem i294_63 : insAt 294 63 = some (.iload_n 3, 1, (0, 0, 0, 0), 0) := rfl
theorem s294_63 {c : Nat → List AV → SS → Option Out} {l0 l1 l2 : Option AV} {x : Int32} {L2 : List (Nat × AV)} {St : List AV} {S : SS} : ev c 294 63 [l0, l1, l2, some (aI x)] L2 St S = ev c 294 64 [l0, l1, l2, some (aI x)] L2 (aI x :: St) S := ev_go i294_63 rfl
theorem i294_64 : insAt 294 64 = some (.invokevirtual 204, 3, (295, 2, 2, 12), 0) := rfl
theorem s294_64 {c : Nat → List AV → SS → Option Out} {l0 l1 l2 l3 : Option AV} {a0 : Int32} {a1 : Int32} {j t : Nat} {L2 : List (Nat × AV)} {S : SS} : ev c 294 64 [l0, l1, l2, l3] L2 [aI a1, aI a0, aR (12, j, t)] S = ck (c 295 [aR (12, j, t), aI a0, aI a1] S) (fun v S' => ev c 294 67 [l0, l1, l2, l3] L2 (v.toList ++ []) S') := ev_call i294_64 rfl
theorem i294_67 : insAt 294 67 = some (.iload_n 3, 1, (0, 0, 0, 0), 0) := rfl
theorem s294_67 {c : Nat → List AV → SS → Option Out} {l0 l1 l2 : Option AV} {x : Int32} {L2 : List (Nat × AV)} {St : List AV} {S : SS} : ev c 294 67 [l0, l1, l2, some (aI x)] L2 St S = ev c 294 68 [l0, l1, l2, some (aI x)] L2 (aI x :: St) S := ev_go i294_67 rfl
theorem i294_68 : insAt 294 68 = some (.ireturn, 1, (0, 0, 0, 0), 0) := rfl
theorem s294_68 {c : Nat → List AV → SS → Option Out} {l0 l1 l2 l3 : Option AV} {x : Int32} {L2 : List (Nat × AV)} {St : List AV} {S : SS} : ev c 294 68 [l0, l1, l2, l3] L2 [aI x] S = some (.inl (some (aI x)), S) := ev_end i294_68 rfl
theorem m294 {d : Nat} {o : OId} {a0 : Int32} {a1 : Int32} {S : SS} : evm (d + 1) 294 [aR o, aI a0, aI a1] S = ev (evm d) 294 0 [some (aR o), some (aI a0), some (aI a1), none] [] [] S := evm_s (n := 4) rfl (Nat.le_of_ble_eq_true rfl) rfl rfl
/-! FrequencyOfficeModel.carries(II)V -/
theorem i295_0 : insAt 295 0 = some (.aload_n 0, 1, (0, 0, 0, 0), 0) := rfl
theorem s295_0 {c : Nat → List AV → SS → Option Out} {l1 l2 : Option AV} {o : OId} {L2 : List (Nat × AV)} {St : List AV} {S : SS} : ev c 295 0 [some (aR o), l1, l2] L2 St S = ev c 295 1 [some (aR o), l1, l2] L2 (aR o :: St) S := ev_go i295_0 rfl
theorem i295_1 : insAt 295 1 = some (.iload_n 2, 1, (0, 0, 0, 0), 0) := rfl
theorem s295_1 {c : Nat → List AV → SS → Option Out} {l0 l1 : Option AV} {x : Int32} {L2 : List (Nat × AV)} {St : List AV} {S : SS} : ev c 295 1 [l0, l1, some (aI x)] L2 St S = ev c 295 2 [l0, l1, some (aI x)] L2 (aI x :: St) S := ev_go i295_1 rfl
theorem i295_2 : insAt 295 2 = some (.invokevirtual 161, 3, (246, 1, 2, 12), 0) := rfl
theorem s295_2 {c : Nat → List AV → SS → Option Out} {l0 l1 l2 : Option AV} {a0 : Int32} {j t : Nat} {L2 : List (Nat × AV)} {S : SS} : ev c 295 2 [l0, l1, l2] L2 [aI a0, aR (12, j, t)] S = ck (c 246 [aR (12, j, t), aI a0] S) (fun v S' => ev c 295 5 [l0, l1, l2] L2 (v.toList ++ []) S') := ev_call i295_2 rfl
theorem i295_5 : insAt 295 5 = some (.aload_n 0, 1, (0, 0, 0, 0), 0) := rfl
theorem s295_5 {c : Nat → List AV → SS → Option Out} {l1 l2 : Option AV} {o : OId} {L2 : List (Nat × AV)} {St : List AV} {S : SS} : ev c 295 5 [some (aR o), l1, l2] L2 St S = ev c 295 6 [some (aR o), l1, l2] L2 (aR o :: St) S := ev_go i295_5 rfl
theorem i295_6 : insAt 295 6 = some (.iload_n 1, 1, (0, 0, 0, 0), 0) := rfl
theorem s295_6 {c : Nat → List AV → SS → Option Out} {l0 l2 : Option AV} {x : Int32} {L2 : List (Nat × AV)} {St : List AV} {S : SS} : ev c 295 6 [l0, some (aI x), l2] L2 St S = ev c 295 7 [l0, some (aI x), l2] L2 (aI x :: St) S := ev_go i295_6 rfl
theorem i295_7 : insAt 295 7 = some (.iconst 3, 1, (0, 0, 0, 0), 0) := rfl
theorem s295_7 {c : Nat → List AV → SS → Option Out} {l0 l1 l2 : Option AV} {L2 : List (Nat × AV)} {St : List AV} {S : SS} : ev c 295 7 [l0, l1, l2] L2 St S = ev c 295 8 [l0, l1, l2] L2 (aI 3 :: St) S := ev_go i295_7 rfl
theorem i295_8 : insAt 295 8 = some (.aload_n 0, 1, (0, 0, 0, 0), 0) := rfl
theorem s295_8 {c : Nat → List AV → SS → Option Out} {l1 l2 : Option AV} {o : OId} {L2 : List (Nat × AV)} {St : List AV} {S : SS} : ev c 295 8 [some (aR o), l1, l2] L2 St S = ev c 295 9 [some (aR o), l1, l2] L2 (aR o :: St) S := ev_go i295_8 rfl
theorem i295_9 : insAt 295 9 = some (.getfield 53, 3, (12, 14, 0, 0), 0) := rfl
theorem s295_9 {c : Nat → List AV → SS → Option Out} {l0 l1 l2 : Option AV} {j t : Nat} {L2 : List (Nat × AV)} {St : List AV} {S : SS} : ev c 295 9 [l0, l1, l2] L2 (aR (12, j, t) :: St) S = ev c 295 12 [l0, l1, l2] L2 (aI (S.1 (12, j, t) 14) :: St) S := ev_go i295_9 rfl
theorem i295_12 : insAt 295 12 = some (.invokevirtual 79, 3, (245, 3, 2, 12), 0) := rfl
theorem s295_12 {c : Nat → List AV → SS → Option Out} {l0 l1 l2 : Option AV} {a0 : Int32} {a1 : Int32} {a2 : Int32} {j t : Nat} {L2 : List (Nat × AV)} {S : SS} : ev c 295 12 [l0, l1, l2] L2 [aI a2, aI a1, aI a0, aR (12, j, t)] S = ck (c 245 [aR (12, j, t), aI a0, aI a1, aI a2] S) (fun v S' => ev c 295 15 [l0, l1, l2] L2 (v.toList ++ []) S') := ev_call i295_12 rfl
theorem i295_15 : insAt 295 15 = some (.aload_n 0, 1, (0, 0, 0, 0), 0) := rfl
theorem s295_15 {c : Nat → List AV → SS → Option Out} {l1 l2 : Option AV} {o : OId} {L2 : List (Nat × AV)} {St : List AV} {S : SS} : ev c 295 15 [some (aR o), l1, l2] L2 St S = ev c 295 16 [some (aR o), l1, l2] L2 (aR o :: St) S := ev_go i295_15 rfl
theorem i295_16 : insAt 295 16 = some (.invokevirtual 167, 3, (249, 0, 2, 12), 0) := rfl
theorem s295_16 {c : Nat → List AV → SS → Option Out} {l0 l1 l2 : Option AV} {j t : Nat} {L2 : List (Nat × AV)} {S : SS} : ev c 295 16 [l0, l1, l2] L2 [aR (12, j, t)] S = ck (c 249 [aR (12, j, t)] S) (fun v S' => ev c 295 19 [l0, l1, l2] L2 (v.toList ++ []) S') := ev_call i295_16 rfl
theorem i295_19 : insAt 295 19 = some (.return_, 1, (0, 0, 0, 0), 0) := rfl
theorem s295_19 {c : Nat → List AV → SS → Option Out} {l0 l1 l2 : Option AV} {L2 : List (Nat × AV)} {St : List AV} {S : SS} : ev c 295 19 [l0, l1, l2] L2 [] S = some (.inl none, S) := ev_end i295_19 rfl
theorem m295 {d : Nat} {o : OId} {a0 : Int32} {a1 : Int32} {S : SS} : evm (d + 1) 295 [aR o, aI a0, aI a1] S = ev (evm d) 295 0 [some (aR o), some (aI a0), some (aI a1)] [] [] S := evm_s (n := 3) rfl (Nat.le_of_ble_eq_true rfl) rfl rfl
/-! FrequencyOfficeModel.complain(II)I -/
theorem i296_0 : insAt 296 0 = some (.aload_n 0, 1, (0, 0, 0, 0), 0) := rfl
theorem s296_0 {c : Nat → List AV → SS → Option Out} {l1 l2 l3 l4 l5 l6 l7 : Option AV} {o : OId} {L2 : List (Nat × AV)} {St : List AV} {S : SS} : ev c 296 0 [some (aR o), l1, l2, l3, l4, l5, l6, l7] L2 St S = ev c 296 1 [some (aR o), l1, l2, l3, l4, l5, l6, l7] L2 (aR o :: St) S := ev_go i296_0 rfl
theorem i296_1 : insAt 296 1 = some (.iload_n 1, 1, (0, 0, 0, 0), 0) := rfl
theorem s296_1 {c : Nat → List AV → SS → Option Out} {l0 l2 l3 l4 l5 l6 l7 : Option AV} {x : Int32} {L2 : List (Nat × AV)} {St : List AV} {S : SS} : ev c 296 1 [l0, some (aI x), l2, l3, l4, l5, l6, l7] L2 St S = ev c 296 2 [l0, some (aI x), l2, l3, l4, l5, l6, l7] L2 (aI x :: St) S := ev_go i296_1 rfl
theorem i296_2 : insAt 296 2 = some (.iload_n 2, 1, (0, 0, 0, 0), 0) := rfl
theorem s296_2 {c : Nat → List AV → SS → Option Out} {l0 l1 l3 l4 l5 l6 l7 : Option AV} {x : Int32} {L2 : List (Nat × AV)} {St : List AV} {S : SS} : ev c 296 2 [l0, l1, some (aI x), l3, l4, l5, l6, l7] L2 St S = ev c 296 3 [l0, l1, some (aI x), l3, l4, l5, l6, l7] L2 (aI x :: St) S := ev_go i296_2 rfl
theorem i296_3 : insAt 296 3 = some (.invokevirtual 189, 3, (278, 2, 2, 12), 0) := rfl
theorem s296_3 {c : Nat → List AV → SS → Option Out} {l0 l1 l2 l3 l4 l5 l6 l7 : Option AV} {a0 : Int32} {a1 : Int32} {j t : Nat} {L2 : List (Nat × AV)} {S : SS} : ev c 296 3 [l0, l1, l2, l3, l4, l5, l6, l7] L2 [aI a1, aI a0, aR (12, j, t)] S = ck (c 278 [aR (12, j, t), aI a0, aI a1] S) (fun v S' => ev c 296 6 [l0, l1, l2, l3, l4, l5, l6, l7] L2 (v.toList ++ []) S') := ev_call i296_3 rfl
theorem i296_6 : insAt 296 6 = some (.ifCond .ne 5, 3, (0, 0, 0, 0), 0) := rfl
theorem s296_6 {c : Nat → List AV → SS → Option Out} {l0 l1 l2 l3 l4 l5 l6 l7 : Option AV} {x : Int32} {L2 : List (Nat × AV)} {St : List AV} {S : SS} : ev c 296 6 [l0, l1, l2, l3, l4, l5, l6, l7] L2 (aI x :: St) S = if x = 0 then ev c 296 9 [l0, l1, l2, l3, l4, l5, l6, l7] L2 St S else ev c 296 11 [l0, l1, l2, l3, l4, l5, l6, l7] L2 St S := (ev_br i296_6 rfl).trans (ite_not _ _ _)
theorem i296_9 : insAt 296 9 = some (.iconst 0, 1, (0, 0, 0, 0), 0) := rfl
theorem s296_9 {c : Nat → List AV → SS → Option Out} {l0 l1 l2 l3 l4 l5 l6 l7 : Option AV} {L2 : List (Nat × AV)} {St : List AV} {S : SS} : ev c 296 9 [l0, l1, l2, l3, l4, l5, l6, l7] L2 St S = ev c 296 10 [l0, l1, l2, l3, l4, l5, l6, l7] L2 (aI 0 :: St) S := ev_go i296_9 rfl
theorem i296_10 : insAt 296 10 = some (.ireturn, 1, (0, 0, 0, 0), 0) := rfl
theorem s296_10 {c : Nat → List AV → SS → Option Out} {l0 l1 l2 l3 l4 l5 l6 l7 : Option AV} {x : Int32} {L2 : List (Nat × AV)} {St : List AV} {S : SS} : ev c 296 10 [l0, l1, l2, l3, l4, l5, l6, l7] L2 [aI x] S = some (.inl (some (aI x)), S) := ev_end i296_10 rfl
theorem i296_11 : insAt 296 11 = some (.aload_n 0, 1, (0, 0, 0, 0), 0) := rfl
theorem s296_11 {c : Nat → List AV → SS → Option Out} {l1 l2 l3 l4 l5 l6 l7 : Option AV} {o : OId} {L2 : List (Nat × AV)} {St : List AV} {S : SS} : ev c 296 11 [some (aR o), l1, l2, l3, l4, l5, l6, l7] L2 St S = ev c 296 12 [some (aR o), l1, l2, l3, l4, l5, l6, l7] L2 (aR o :: St) S := ev_go i296_11 rfl
theorem i296_12 : insAt 296 12 = some (.iload_n 1, 1, (0, 0, 0, 0), 0) := rfl
theorem s296_12 {c : Nat → List AV → SS → Option Out} {l0 l2 l3 l4 l5 l6 l7 : Option AV} {x : Int32} {L2 : List (Nat × AV)} {St : List AV} {S : SS} : ev c 296 12 [l0, some (aI x), l2, l3, l4, l5, l6, l7] L2 St S = ev c 296 13 [l0, some (aI x), l2, l3, l4, l5, l6, l7] L2 (aI x :: St) S := ev_go i296_12 rfl
theorem i296_13 : insAt 296 13 = some (.invokevirtual 173, 3, (256, 1, 2, 12), 0) := rfl
theorem s296_13 {c : Nat → List AV → SS → Option Out} {l0 l1 l2 l3 l4 l5 l6 l7 : Option AV} {a0 : Int32} {j t : Nat} {L2 : List (Nat × AV)} {S : SS} : ev c 296 13 [l0, l1, l2, l3, l4, l5, l6, l7] L2 [aI a0, aR (12, j, t)] S = ck (c 256 [aR (12, j, t), aI a0] S) (fun v S' => ev c 296 16 [l0, l1, l2, l3, l4, l5, l6, l7] L2 (v.toList ++ []) S') := ev_call i296_13 rfl
theorem i296_16 : insAt 296 16 = some (.istore_n 3, 1, (0, 0, 0, 0), 0) := rfl
theorem s296_16 {c : Nat → List AV → SS → Option Out} {l0 l1 l2 l3 l4 l5 l6 l7 : Option AV} {x : Int32} {L2 : List (Nat × AV)} {St : List AV} {S : SS} : ev c 296 16 [l0, l1, l2, l3, l4, l5, l6, l7] L2 (aI x :: St) S = ev c 296 17 [l0, l1, l2, some (aI x), l4, l5, l6, l7] (kil L2 3) St S := ev_go i296_16 rfl
theorem i296_17 : insAt 296 17 = some (.aload_n 0, 1, (0, 0, 0, 0), 0) := rfl
theorem s296_17 {c : Nat → List AV → SS → Option Out} {l1 l2 l3 l4 l5 l6 l7 : Option AV} {o : OId} {L2 : List (Nat × AV)} {St : List AV} {S : SS} : ev c 296 17 [some (aR o), l1, l2, l3, l4, l5, l6, l7] L2 St S = ev c 296 18 [some (aR o), l1, l2, l3, l4, l5, l6, l7] L2 (aR o :: St) S := ev_go i296_17 rfl
theorem i296_18 : insAt 296 18 = some (.iload_n 2, 1, (0, 0, 0, 0), 0) := rfl
theorem s296_18 {c : Nat → List AV → SS → Option Out} {l0 l1 l3 l4 l5 l6 l7 : Option AV} {x : Int32} {L2 : List (Nat × AV)} {St : List AV} {S : SS} : ev c 296 18 [l0, l1, some (aI x), l3, l4, l5, l6, l7] L2 St S = ev c 296 19 [l0, l1, some (aI x), l3, l4, l5, l6, l7] L2 (aI x :: St) S := ev_go i296_18 rfl
theorem i296_19 : insAt 296 19 = some (.invokevirtual 173, 3, (256, 1, 2, 12), 0) := rfl
theorem s296_19 {c : Nat → List AV → SS → Option Out} {l0 l1 l2 l3 l4 l5 l6 l7 : Option AV} {a0 : Int32} {j t : Nat} {L2 : List (Nat × AV)} {S : SS} : ev c 296 19 [l0, l1, l2, l3, l4, l5, l6, l7] L2 [aI a0, aR (12, j, t)] S = ck (c 256 [aR (12, j, t), aI a0] S) (fun v S' => ev c 296 22 [l0, l1, l2, l3, l4, l5, l6, l7] L2 (v.toList ++ []) S') := ev_call i296_19 rfl
theorem i296_22 : insAt 296 22 = some (.istore 4, 2, (0, 0, 0, 0), 0) := rfl
theorem s296_22 {c : Nat → List AV → SS → Option Out} {l0 l1 l2 l3 l4 l5 l6 l7 : Option AV} {x : Int32} {L2 : List (Nat × AV)} {St : List AV} {S : SS} : ev c 296 22 [l0, l1, l2, l3, l4, l5, l6, l7] L2 (aI x :: St) S = ev c 296 24 [l0, l1, l2, l3, some (aI x), l5, l6, l7] (kil L2 4) St S := ev_go i296_22 rfl
theorem i296_24 : insAt 296 24 = some (.aload_n 0, 1, (0, 0, 0, 0), 0) := rfl
theorem s296_24 {c : Nat → List AV → SS → Option Out} {l1 l2 l3 l4 l5 l6 l7 : Option AV} {o : OId} {L2 : List (Nat × AV)} {St : List AV} {S : SS} : ev c 296 24 [some (aR o), l1, l2, l3, l4, l5, l6, l7] L2 St S = ev c 296 25 [some (aR o), l1, l2, l3, l4, l5, l6, l7] L2 (aR o :: St) S := ev_go i296_24 rfl
theorem i296_25 : insAt 296 25 = some (.iload_n 3, 1, (0, 0, 0, 0), 0) := rfl
theorem s296_25 {c : Nat → List AV → SS → Option Out} {l0 l1 l2 l4 l5 l6 l7 : Option AV} {x : Int32} {L2 : List (Nat × AV)} {St : List AV} {S : SS} : ev c 296 25 [l0, l1, l2, some (aI x), l4, l5, l6, l7] L2 St S = ev c 296 26 [l0, l1, l2, some (aI x), l4, l5, l6, l7] L2 (aI x :: St) S := ev_go i296_25 rfl
theorem i296_26 : insAt 296 26 = some (.iload 4, 2, (0, 0, 0, 0), 0) := rfl
theorem s296_26 {c : Nat → List AV → SS → Option Out} {l0 l1 l2 l3 l5 l6 l7 : Option AV} {x : Int32} {L2 : List (Nat × AV)} {St : List AV} {S : SS} : ev c 296 26 [l0, l1, l2, l3, some (aI x), l5, l6, l7] L2 St S = ev c 296 28 [l0, l1, l2, l3, some (aI x), l5, l6, l7] L2 (aI x :: St) S := ev_go i296_26 rfl
theorem i296_28 : insAt 296 28 = some (.invokevirtual 106, 3, (240, 2, 2, 12), 0) := rfl
theorem s296_28 {c : Nat → List AV → SS → Option Out} {l0 l1 l2 l3 l4 l5 l6 l7 : Option AV} {a0 : Int32} {a1 : Int32} {j t : Nat} {L2 : List (Nat × AV)} {S : SS} : ev c 296 28 [l0, l1, l2, l3, l4, l5, l6, l7] L2 [aI a1, aI a0, aR (12, j, t)] S = ck (c 240 [aR (12, j, t), aI a0, aI a1] S) (fun v S' => ev c 296 31 [l0, l1, l2, l3, l4, l5, l6, l7] L2 (v.toList ++ []) S') := ev_call i296_28 rfl
theorem i296_31 : insAt 296 31 = some (.istore 5, 2, (0, 0, 0, 0), 0) := rfl
theorem s296_31 {c : Nat → List AV → SS → Option Out} {l0 l1 l2 l3 l4 l5 l6 l7 : Option AV} {x : Int32} {L2 : List (Nat × AV)} {St : List AV} {S : SS} : ev c 296 31 [l0, l1, l2, l3, l4, l5, l6, l7] L2 (aI x :: St) S = ev c 296 33 [l0, l1, l2, l3, l4, some (aI x), l6, l7] (kil L2 5) St S := ev_go i296_31 rfl
theorem i296_33 : insAt 296 33 = some (.aload_n 0, 1, (0, 0, 0, 0), 0) := rfl
theorem s296_33 {c : Nat → List AV → SS → Option Out} {l1 l2 l3 l4 l5 l6 l7 : Option AV} {o : OId} {L2 : List (Nat × AV)} {St : List AV} {S : SS} : ev c 296 33 [some (aR o), l1, l2, l3, l4, l5, l6, l7] L2 St S = ev c 296 34 [some (aR o), l1, l2, l3, l4, l5, l6, l7] L2 (aR o :: St) S := ev_go i296_33 rfl
theorem i296_34 : insAt 296 34 = some (.aload_n 0, 1, (0, 0, 0, 0), 0) := rfl
theorem s296_34 {c : Nat → List AV → SS → Option Out} {l1 l2 l3 l4 l5 l6 l7 : Option AV} {o : OId} {L2 : List (Nat × AV)} {St : List AV} {S : SS} : ev c 296 34 [some (aR o), l1, l2, l3, l4, l5, l6, l7] L2 St S = ev c 296 35 [some (aR o), l1, l2, l3, l4, l5, l6, l7] L2 (aR o :: St) S := ev_go i296_34 rfl
theorem i296_35 : insAt 296 35 = some (.iload_n 3, 1, (0, 0, 0, 0), 0) := rfl
theorem s296_35 {c : Nat → List AV → SS → Option Out} {l0 l1 l2 l4 l5 l6 l7 : Option AV} {x : Int32} {L2 : List (Nat × AV)} {St : List AV} {S : SS} : ev c 296 35 [l0, l1, l2, some (aI x), l4, l5, l6, l7] L2 St S = ev c 296 36 [l0, l1, l2, some (aI x), l4, l5, l6, l7] L2 (aI x :: St) S := ev_go i296_35 rfl
theorem i296_36 : insAt 296 36 = some (.invokevirtual 115, 3, (233, 1, 2, 12), 0) := rfl
theorem s296_36 {c : Nat → List AV → SS → Option Out} {l0 l1 l2 l3 l4 l5 l6 l7 : Option AV} {t0 : AV} {a0 : Int32} {j t : Nat} {L2 : List (Nat × AV)} {S : SS} : ev c 296 36 [l0, l1, l2, l3, l4, l5, l6, l7] L2 [aI a0, aR (12, j, t), t0] S = ck (c 233 [aR (12, j, t), aI a0] S) (fun v S' => ev c 296 39 [l0, l1, l2, l3, l4, l5, l6, l7] L2 (v.toList ++ [t0]) S') := ev_call i296_36 rfl
theorem i296_39 : insAt 296 39 = some (.ifCond .eq 28, 3, (0, 0, 0, 0), 0) := rfl
theorem s296_39 {c : Nat → List AV → SS → Option Out} {l0 l1 l2 l3 l4 l5 l6 l7 : Option AV} {x : Int32} {L2 : List (Nat × AV)} {St : List AV} {S : SS} : ev c 296 39 [l0, l1, l2, l3, l4, l5, l6, l7] L2 (aI x :: St) S = if x = 0 then ev c 296 67 [l0, l1, l2, l3, l4, l5, l6, l7] L2 St S else ev c 296 42 [l0, l1, l2, l3, l4, l5, l6, l7] L2 St S := ev_br i296_39 rfl
theorem i296_42 : insAt 296 42 = some (.aload_n 0, 1, (0, 0, 0, 0), 0) := rfl
theorem s296_42 {c : Nat → List AV → SS → Option Out} {l1 l2 l3 l4 l5 l6 l7 : Option AV} {o : OId} {L2 : List (Nat × AV)} {St : List AV} {S : SS} : ev c 296 42 [some (aR o), l1, l2, l3, l4, l5, l6, l7] L2 St S = ev c 296 43 [some (aR o), l1, l2, l3, l4, l5, l6, l7] L2 (aR o :: St) S := ev_go i296_42 rfl
theorem i296_43 : insAt 296 43 = some (.iload 4, 2, (0, 0, 0, 0), 0) := rfl
theorem s296_43 {c : Nat → List AV → SS → Option Out} {l0 l1 l2 l3 l5 l6 l7 : Option AV} {x : Int32} {L2 : List (Nat × AV)} {St : List AV} {S : SS} : ev c 296 43 [l0, l1, l2, l3, some (aI x), l5, l6, l7] L2 St S = ev c 296 45 [l0, l1, l2, l3, some (aI x), l5, l6, l7] L2 (aI x :: St) S := ev_go i296_43 rfl
theorem i296_45 : insAt 296 45 = some (.invokevirtual 115, 3, (233, 1, 2, 12), 0) := rfl
theorem s296_45 {c : Nat → List AV → SS → Option Out} {l0 l1 l2 l3 l4 l5 l6 l7 : Option AV} {t0 : AV} {a0 : Int32} {j t : Nat} {L2 : List (Nat × AV)} {S : SS} : ev c 296 45 [l0, l1, l2, l3, l4, l5, l6, l7] L2 [aI a0, aR (12, j, t), t0] S = ck (c 233 [aR (12, j, t), aI a0] S) (fun v S' => ev c 296 48 [l0, l1, l2, l3, l4, l5, l6, l7] L2 (v.toList ++ [t0]) S') := ev_call i296_45 rfl
theorem i296_48 : insAt 296 48 = some (.ifCond .eq 19, 3, (0, 0, 0, 0), 0) := rfl
theorem s296_48 {c : Nat → List AV → SS → Option Out} {l0 l1 l2 l3 l4 l5 l6 l7 : Option AV} {x : Int32} {L2 : List (Nat × AV)} {St : List AV} {S : SS} : ev c 296 48 [l0, l1, l2, l3, l4, l5, l6, l7] L2 (aI x :: St) S = if x = 0 then ev c 296 67 [l0, l1, l2, l3, l4, l5, l6, l7] L2 St S else ev c 296 51 [l0, l1, l2, l3, l4, l5, l6, l7] L2 St S := ev_br i296_48 rfl
theorem i296_51 : insAt 296 51 = some (.aload_n 0, 1, (0, 0, 0, 0), 0) := rfl
theorem s296_51 {c : Nat → List AV → SS → Option Out} {l1 l2 l3 l4 l5 l6 l7 : Option AV} {o : OId} {L2 : List (Nat × AV)} {St : List AV} {S : SS} : ev c 296 51 [some (aR o), l1, l2, l3, l4, l5, l6, l7] L2 St S = ev c 296 52 [some (aR o), l1, l2, l3, l4, l5, l6, l7] L2 (aR o :: St) S := ev_go i296_51 rfl
theorem i296_52 : insAt 296 52 = some (.iload_n 3, 1, (0, 0, 0, 0), 0) := rfl
theorem s296_52 {c : Nat → List AV → SS → Option Out} {l0 l1 l2 l4 l5 l6 l7 : Option AV} {x : Int32} {L2 : List (Nat × AV)} {St : List AV} {S : SS} : ev c 296 52 [l0, l1, l2, some (aI x), l4, l5, l6, l7] L2 St S = ev c 296 53 [l0, l1, l2, some (aI x), l4, l5, l6, l7] L2 (aI x :: St) S := ev_go i296_52 rfl
theorem i296_53 : insAt 296 53 = some (.iload 4, 2, (0, 0, 0, 0), 0) := rfl
theorem s296_53 {c : Nat → List AV → SS → Option Out} {l0 l1 l2 l3 l5 l6 l7 : Option AV} {x : Int32} {L2 : List (Nat × AV)} {St : List AV} {S : SS} : ev c 296 53 [l0, l1, l2, l3, some (aI x), l5, l6, l7] L2 St S = ev c 296 55 [l0, l1, l2, l3, some (aI x), l5, l6, l7] L2 (aI x :: St) S := ev_go i296_53 rfl
theorem i296_55 : insAt 296 55 = some (.invokevirtual 103, 3, (244, 2, 2, 12), 0) := rfl
theorem s296_55 {c : Nat → List AV → SS → Option Out} {l0 l1 l2 l3 l4 l5 l6 l7 : Option AV} {t0 : AV} {a0 : Int32} {a1 : Int32} {j t : Nat} {L2 : List (Nat × AV)} {S : SS} : ev c 296 55 [l0, l1, l2, l3, l4, l5, l6, l7] L2 [aI a1, aI a0, aR (12, j, t), t0] S = ck (c 244 [aR (12, j, t), aI a0, aI a1] S) (fun v S' => ev c 296 58 [l0, l1, l2, l3, l4, l5, l6, l7] L2 (v.toList ++ [t0]) S') := ev_call i296_55 rfl
theorem i296_58 : insAt 296 58 = some (.ifCond .eq 9, 3, (0, 0, 0, 0), 0) := rfl
theorem s296_58 {c : Nat → List AV → SS → Option Out} {l0 l1 l2 l3 l4 l5 l6 l7 : Option AV} {x : Int32} {L2 : List (Nat × AV)} {St : List AV} {S : SS} : ev c 296 58 [l0, l1, l2, l3, l4, l5, l6, l7] L2 (aI x :: St) S = if x = 0 then ev c 296 67 [l0, l1, l2, l3, l4, l5, l6, l7] L2 St S else ev c 296 61 [l0, l1, l2, l3, l4, l5, l6, l7] L2 St S := ev_br i296_58 rfl
theorem i296_61 : insAt 296 61 = some (.iload 5, 2, (0, 0, 0, 0), 0) := rfl
theorem s296_61 {c : Nat → List AV → SS → Option Out} {l0 l1 l2 l3 l4 l6 l7 : Option AV} {x : Int32} {L2 : List (Nat × AV)} {St : List AV} {S : SS} : ev c 296 61 [l0, l1, l2, l3, l4, some (aI x), l6, l7] L2 St S = ev c 296 63 [l0, l1, l2, l3, l4, some (aI x), l6, l7] L2 (aI x :: St) S := ev_go i296_61 rfl
theorem i296_63 : insAt 296 63 = some (.iconst 2, 1, (0, 0, 0, 0), 0) := rfl
theorem s296_63 {c : Nat → List AV → SS → Option Out} {l0 l1 l2 l3 l4 l5 l6 l7 : Option AV} {L2 : List (Nat × AV)} {St : List AV} {S : SS} : ev c 296 63 [l0, l1, l2, l3, l4, l5, l6, l7] L2 St S = ev c 296 64 [l0, l1, l2, l3, l4, l5, l6, l7] L2 (aI 2 :: St) S := ev_go i296_63 rfl
theorem i296_64 : insAt 296 64 = some (.if_icmp .ne 7, 3, (0, 0, 0, 0), 0) := rfl
theorem s296_64 {c : Nat → List AV → SS → Option Out} {l0 l1 l2 l3 l4 l5 l6 l7 : Option AV} {x y : Int32} {L2 : List (Nat × AV)} {St : List AV} {S : SS} : ev c 296 64 [l0, l1, l2, l3, l4, l5, l6, l7] L2 (aI y :: aI x :: St) S = if x = y then ev c 296 67 [l0, l1, l2, l3, l4, l5, l6, l7] L2 St S else ev c 296 71 [l0, l1, l2, l3, l4, l5, l6, l7] L2 St S := (ev_br i296_64 rfl).trans (ite_not _ _ _)
theorem i296_67 : insAt 296 67 = some (.iconst 3, 1, (0, 0, 0, 0), 0) := rfl
theorem s296_67 {c : Nat → List AV → SS → Option Out} {l0 l1 l2 l3 l4 l5 l6 l7 : Option AV} {L2 : List (Nat × AV)} {St : List AV} {S : SS} : ev c 296 67 [l0, l1, l2, l3, l4, l5, l6, l7] L2 St S = ev c 296 68 [l0, l1, l2, l3, l4, l5, l6, l7] L2 (aI 3 :: St) S := ev_go i296_67 rfl
theorem i296_68 : insAt 296 68 = some (.goto 4, 3, (0, 0, 0, 0), 0) := rfl
theorem s296_68 {c : Nat → List AV → SS → Option Out} {l0 l1 l2 l3 l4 l5 l6 l7 : Option AV} {L2 : List (Nat × AV)} {St : List AV} {S : SS} : ev c 296 68 [l0, l1, l2, l3, l4, l5, l6, l7] L2 St S = ev c 296 72 [l0, l1, l2, l3, l4, l5, l6, l7] L2 St S := ev_go i296_68 rfl
theorem i296_71 : insAt 296 71 = some (.iconst 0, 1, (0, 0, 0, 0), 0) := rfl
theorem s296_71 {c : Nat → List AV → SS → Option Out} {l0 l1 l2 l3 l4 l5 l6 l7 : Option AV} {L2 : List (Nat × AV)} {St : List AV} {S : SS} : ev c 296 71 [l0, l1, l2, l3, l4, l5, l6, l7] L2 St S = ev c 296 72 [l0, l1, l2, l3, l4, l5, l6, l7] L2 (aI 0 :: St) S := ev_go i296_71 rfl
theorem i296_72 : insAt 296 72 = some (.putfield 31, 3, (12, 7, 0, 0), 0) := rfl
theorem s296_72 {c : Nat → List AV → SS → Option Out} {l0 l1 l2 l3 l4 l5 l6 l7 : Option AV} {j t : Nat} {x : Int32} {L2 : List (Nat × AV)} {St : List AV} {S : SS} : ev c 296 72 [l0, l1, l2, l3, l4, l5, l6, l7] L2 (aI x :: aR (12, j, t) :: St) S = ev c 296 75 [l0, l1, l2, l3, l4, l5, l6, l7] L2 St (setI S.1 (12, j, t) 7 x, S.2) := ev_go i296_72 rfl
theorem i296_75 : insAt 296 75 = some (.aload_n 0, 1, (0, 0, 0, 0), 0) := rfl
theorem s296_75 {c : Nat → List AV → SS → Option Out} {l1 l2 l3 l4 l5 l6 l7 : Option AV} {o : OId} {L2 : List (Nat × AV)} {St : List AV} {S : SS} : ev c 296 75 [some (aR o), l1, l2, l3, l4, l5, l6, l7] L2 St S = ev c 296 76 [some (aR o), l1, l2, l3, l4, l5, l6, l7] L2 (aR o :: St) S := ev_go i296_75 rfl
theorem i296_76 : insAt 296 76 = some (.getfield 31, 3, (12, 7, 0, 0), 0) := rfl
theorem s296_76 {c : Nat → List AV → SS → Option Out} {l0 l1 l2 l3 l4 l5 l6 l7 : Option AV} {j t : Nat} {L2 : List (Nat × AV)} {St : List AV} {S : SS} : ev c 296 76 [l0, l1, l2, l3, l4, l5, l6, l7] L2 (aR (12, j, t) :: St) S = ev c 296 79 [l0, l1, l2, l3, l4, l5, l6, l7] L2 (aI (S.1 (12, j, t) 7) :: St) S := ev_go i296_76 rfl
theorem i296_79 : insAt 296 79 = some (.ifCond .le 5, 3, (0, 0, 0, 0), 0) := rfl
theorem s296_79 {c : Nat → List AV → SS → Option Out} {l0 l1 l2 l3 l4 l5 l6 l7 : Option AV} {x : Int32} {L2 : List (Nat × AV)} {St : List AV} {S : SS} : ev c 296 79 [l0, l1, l2, l3, l4, l5, l6, l7] L2 (aI x :: St) S = if x ≤ 0 then ev c 296 84 [l0, l1, l2, l3, l4, l5, l6, l7] L2 St S else ev c 296 82 [l0, l1, l2, l3, l4, l5, l6, l7] L2 St S := ev_br i296_79 rfl
theorem i296_82 : insAt 296 82 = some (.iconst 0, 1, (0, 0, 0, 0), 0) := rfl
theorem s296_82 {c : Nat → List AV → SS → Option Out} {l0 l1 l2 l3 l4 l5 l6 l7 : Option AV} {L2 : List (Nat × AV)} {St : List AV} {S : SS} : ev c 296 82 [l0, l1, l2, l3, l4, l5, l6, l7] L2 St S = ev c 296 83 [l0, l1, l2, l3, l4, l5, l6, l7] L2 (aI 0 :: St) S := ev_go i296_82 rfl
theorem i296_83 : insAt 296 83 = some (.ireturn, 1, (0, 0, 0, 0), 0) := rfl
theorem s296_83 {c : Nat → List AV → SS → Option Out} {l0 l1 l2 l3 l4 l5 l6 l7 : Option AV} {x : Int32} {L2 : List (Nat × AV)} {St : List AV} {S : SS} : ev c 296 83 [l0, l1, l2, l3, l4, l5, l6, l7] L2 [aI x] S = some (.inl (some (aI x)), S) := ev_end i296_83 rfl
theorem i296_84 : insAt 296 84 = some (.aload_n 0, 1, (0, 0, 0, 0), 0) := rfl
theorem s296_84 {c : Nat → List AV → SS → Option Out} {l1 l2 l3 l4 l5 l6 l7 : Option AV} {o : OId} {L2 : List (Nat × AV)} {St : List AV} {S : SS} : ev c 296 84 [some (aR o), l1, l2, l3, l4, l5, l6, l7] L2 St S = ev c 296 85 [some (aR o), l1, l2, l3, l4, l5, l6, l7] L2 (aR o :: St) S := ev_go i296_84 rfl
theorem i296_85 : insAt 296 85 = some (.iload_n 3, 1, (0, 0, 0, 0), 0) := rfl
theorem s296_85 {c : Nat → List AV → SS → Option Out} {l0 l1 l2 l4 l5 l6 l7 : Option AV} {x : Int32} {L2 : List (Nat × AV)} {St : List AV} {S : SS} : ev c 296 85 [l0, l1, l2, some (aI x), l4, l5, l6, l7] L2 St S = ev c 296 86 [l0, l1, l2, some (aI x), l4, l5, l6, l7] L2 (aI x :: St) S := ev_go i296_85 rfl
theorem i296_86 : insAt 296 86 = some (.iload 4, 2, (0, 0, 0, 0), 0) := rfl
theorem s296_86 {c : Nat → List AV → SS → Option Out} {l0 l1 l2 l3 l5 l6 l7 : Option AV} {x : Int32} {L2 : List (Nat × AV)} {St : List AV} {S : SS} : ev c 296 86 [l0, l1, l2, l3, some (aI x), l5, l6, l7] L2 St S = ev c 296 88 [l0, l1, l2, l3, some (aI x), l5, l6, l7] L2 (aI x :: St) S := ev_go i296_86 rfl
theorem i296_88 : insAt 296 88 = some (.iload 5, 2, (0, 0, 0, 0), 0) := rfl
theorem s296_88 {c : Nat → List AV → SS → Option Out} {l0 l1 l2 l3 l4 l6 l7 : Option AV} {x : Int32} {L2 : List (Nat × AV)} {St : List AV} {S : SS} : ev c 296 88 [l0, l1, l2, l3, l4, some (aI x), l6, l7] L2 St S = ev c 296 90 [l0, l1, l2, l3, l4, some (aI x), l6, l7] L2 (aI x :: St) S := ev_go i296_88 rfl
theorem i296_90 : insAt 296 90 = some (.iconst 1, 1, (0, 0, 0, 0), 0) := rfl
theorem s296_90 {c : Nat → List AV → SS → Option Out} {l0 l1 l2 l3 l4 l5 l6 l7 : Option AV} {L2 : List (Nat × AV)} {St : List AV} {S : SS} : ev c 296 90 [l0, l1, l2, l3, l4, l5, l6, l7] L2 St S = ev c 296 91 [l0, l1, l2, l3, l4, l5, l6, l7] L2 (aI 1 :: St) S := ev_go i296_90 rfl
theorem i296_91 : insAt 296 91 = some (.iadd, 1, (0, 0, 0, 0), 0) := rfl
theorem s296_91 {c : Nat → List AV → SS → Option Out} {l0 l1 l2 l3 l4 l5 l6 l7 : Option AV} {x y : Int32} {L2 : List (Nat × AV)} {St : List AV} {S : SS} : ev c 296 91 [l0, l1, l2, l3, l4, l5, l6, l7] L2 (aI y :: aI x :: St) S = ev c 296 92 [l0, l1, l2, l3, l4, l5, l6, l7] L2 (aI (x + y) :: St) S := ev_go i296_91 rfl
theorem i296_92 : insAt 296 92 = some (.invokevirtual 83, 3, (248, 3, 2, 12), 0) := rfl
theorem s296_92 {c : Nat → List AV → SS → Option Out} {l0 l1 l2 l3 l4 l5 l6 l7 : Option AV} {a0 : Int32} {a1 : Int32} {a2 : Int32} {j t : Nat} {L2 : List (Nat × AV)} {S : SS} : ev c 296 92 [l0, l1, l2, l3, l4, l5, l6, l7] L2 [aI a2, aI a1, aI a0, aR (12, j, t)] S = ck (c 248 [aR (12, j, t), aI a0, aI a1, aI a2] S) (fun v S' => ev c 296 95 [l0, l1, l2, l3, l4, l5, l6, l7] L2 (v.toList ++ []) S') := ev_call i296_92 rfl
theorem i296_95 : insAt 296 95 = some (.aload_n 0, 1, (0, 0, 0, 0), 0) := rfl
theorem s296_95 {c : Nat → List AV → SS → Option Out} {l1 l2 l3 l4 l5 l6 l7 : Option AV} {o : OId} {L2 : List (Nat × AV)} {St : List AV} {S : SS} : ev c 296 95 [some (aR o), l1, l2, l3, l4, l5, l6, l7] L2 St S = ev c 296 96 [some (aR o), l1, l2, l3, l4, l5, l6, l7] L2 (aR o :: St) S := ev_go i296_95 rfl
theorem i296_96 : insAt 296 96 = some (.iload_n 3, 1, (0, 0, 0, 0), 0) := rfl
theorem s296_96 {c : Nat → List AV → SS → Option Out} {l0 l1 l2 l4 l5 l6 l7 : Option AV} {x : Int32} {L2 : List (Nat × AV)} {St : List AV} {S : SS} : ev c 296 96 [l0, l1, l2, some (aI x), l4, l5, l6, l7] L2 St S = ev c 296 97 [l0, l1, l2, some (aI x), l4, l5, l6, l7] L2 (aI x :: St) S := ev_go i296_96 rfl
theorem i296_97 : insAt 296 97 = some (.iload 4, 2, (0, 0, 0, 0), 0) := rfl
theorem s296_97 {c : Nat → List AV → SS → Option Out} {l0 l1 l2 l3 l5 l6 l7 : Option AV} {x : Int32} {L2 : List (Nat × AV)} {St : List AV} {S : SS} : ev c 296 97 [l0, l1, l2, l3, some (aI x), l5, l6, l7] L2 St S = ev c 296 99 [l0, l1, l2, l3, some (aI x), l5, l6, l7] L2 (aI x :: St) S := ev_go i296_97 rfl
theorem i296_99 : insAt 296 99 = some (.invokevirtual 144, 3, (251, 2, 2, 12), 0) := rfl
theorem s296_99 {c : Nat → List AV → SS → Option Out} {l0 l1 l2 l3 l4 l5 l6 l7 : Option AV} {a0 : Int32} {a1 : Int32} {j t : Nat} {L2 : List (Nat × AV)} {S : SS} : ev c 296 99 [l0, l1, l2, l3, l4, l5, l6, l7] L2 [aI a1, aI a0, aR (12, j, t)] S = ck (c 251 [aR (12, j, t), aI a0, aI a1] S) (fun v S' => ev c 296 102 [l0, l1, l2, l3, l4, l5, l6, l7] L2 (v.toList ++ []) S') := ev_call i296_99 rfl
theorem i296_102 : insAt 296 102 = some (.ifCond .eq 14, 3, (0, 0, 0, 0), 0) := rfl
theorem s296_102 {c : Nat → List AV → SS → Option Out} {l0 l1 l2 l3 l4 l5 l6 l7 : Option AV} {x : Int32} {L2 : List (Nat × AV)} {St : List AV} {S : SS} : ev c 296 102 [l0, l1, l2, l3, l4, l5, l6, l7] L2 (aI x :: St) S = if x = 0 then ev c 296 116 [l0, l1, l2, l3, l4, l5, l6, l7] L2 St S else ev c 296 105 [l0, l1, l2, l3, l4, l5, l6, l7] L2 St S := ev_br i296_102 rfl
theorem i296_105 : insAt 296 105 = some (.aload_n 0, 1, (0, 0, 0, 0), 0) := rfl
theorem s296_105 {c : Nat → List AV → SS → Option Out} {l1 l2 l3 l4 l5 l6 l7 : Option AV} {o : OId} {L2 : List (Nat × AV)} {St : List AV} {S : SS} : ev c 296 105 [some (aR o), l1, l2, l3, l4, l5, l6, l7] L2 St S = ev c 296 106 [some (aR o), l1, l2, l3, l4, l5, l6, l7] L2 (aR o :: St) S := ev_go i296_105 rfl
theorem i296_106 : insAt 296 106 = some (.iload 4, 2, (0, 0, 0, 0), 0) := rfl
theorem s296_106 {c : Nat → List AV → SS → Option Out} {l0 l1 l2 l3 l5 l6 l7 : Option AV} {x : Int32} {L2 : List (Nat × AV)} {St : List AV} {S : SS} : ev c 296 106 [l0, l1, l2, l3, some (aI x), l5, l6, l7] L2 St S = ev c 296 108 [l0, l1, l2, l3, some (aI x), l5, l6, l7] L2 (aI x :: St) S := ev_go i296_106 rfl
theorem i296_108 : insAt 296 108 = some (.iconst (-1), 1, (0, 0, 0, 0), 0) := rfl
theorem s296_108 {c : Nat → List AV → SS → Option Out} {l0 l1 l2 l3 l4 l5 l6 l7 : Option AV} {L2 : List (Nat × AV)} {St : List AV} {S : SS} : ev c 296 108 [l0, l1, l2, l3, l4, l5, l6, l7] L2 St S = ev c 296 109 [l0, l1, l2, l3, l4, l5, l6, l7] L2 (aI (-1) :: St) S := ev_go i296_108 rfl
theorem i296_109 : insAt 296 109 = some (.iload_n 3, 1, (0, 0, 0, 0), 0) := rfl
theorem s296_109 {c : Nat → List AV → SS → Option Out} {l0 l1 l2 l4 l5 l6 l7 : Option AV} {x : Int32} {L2 : List (Nat × AV)} {St : List AV} {S : SS} : ev c 296 109 [l0, l1, l2, some (aI x), l4, l5, l6, l7] L2 St S = ev c 296 110 [l0, l1, l2, some (aI x), l4, l5, l6, l7] L2 (aI x :: St) S := ev_go i296_109 rfl
theorem i296_110 : insAt 296 110 = some (.invokevirtual 198, 3, (292, 3, 2, 12), 0) := rfl
theorem s296_110 {c : Nat → List AV → SS → Option Out} {l0 l1 l2 l3 l4 l5 l6 l7 : Option AV} {a0 : Int32} {a1 : Int32} {a2 : Int32} {j t : Nat} {L2 : List (Nat × AV)} {S : SS} : ev c 296 110 [l0, l1, l2, l3, l4, l5, l6, l7] L2 [aI a2, aI a1, aI a0, aR (12, j, t)] S = ck (c 292 [aR (12, j, t), aI a0, aI a1, aI a2] S) (fun v S' => ev c 296 113 [l0, l1, l2, l3, l4, l5, l6, l7] L2 (v.toList ++ []) S') := ev_call i296_110 rfl
theorem i296_113 : insAt 296 113 = some (.goto 4, 3, (0, 0, 0, 0), 0) := rfl
theorem s296_113 {c : Nat → List AV → SS → Option Out} {l0 l1 l2 l3 l4 l5 l6 l7 : Option AV} {L2 : List (Nat × AV)} {St : List AV} {S : SS} : ev c 296 113 [l0, l1, l2, l3, l4, l5, l6, l7] L2 St S = ev c 296 117 [l0, l1, l2, l3, l4, l5, l6, l7] L2 St S := ev_go i296_113 rfl
theorem i296_116 : insAt 296 116 = some (.iconst 0, 1, (0, 0, 0, 0), 0) := rfl
theorem s296_116 {c : Nat → List AV → SS → Option Out} {l0 l1 l2 l3 l4 l5 l6 l7 : Option AV} {L2 : List (Nat × AV)} {St : List AV} {S : SS} : ev c 296 116 [l0, l1, l2, l3, l4, l5, l6, l7] L2 St S = ev c 296 117 [l0, l1, l2, l3, l4, l5, l6, l7] L2 (aI 0 :: St) S := ev_go i296_116 rfl
theorem i296_117 : insAt 296 117 = some (.istore 6, 2, (0, 0, 0, 0), 0) := rfl
theorem s296_117 {c : Nat → List AV → SS → Option Out} {l0 l1 l2 l3 l4 l5 l6 l7 : Option AV} {x : Int32} {L2 : List (Nat × AV)} {St : List AV} {S : SS} : ev c 296 117 [l0, l1, l2, l3, l4, l5, l6, l7] L2 (aI x :: St) S = ev c 296 119 [l0, l1, l2, l3, l4, l5, some (aI x), l7] (kil L2 6) St S := ev_go i296_117 rfl
theorem i296_119 : insAt 296 119 = some (.aload_n 0, 1, (0, 0, 0, 0), 0) := rfl
theorem s296_119 {c : Nat → List AV → SS → Option Out} {l1 l2 l3 l4 l5 l6 l7 : Option AV} {o : OId} {L2 : List (Nat × AV)} {St : List AV} {S : SS} : ev c 296 119 [some (aR o), l1, l2, l3, l4, l5, l6, l7] L2 St S = ev c 296 120 [some (aR o), l1, l2, l3, l4, l5, l6, l7] L2 (aR o :: St) S := ev_go i296_119 rfl
theorem i296_120 : insAt 296 120 = some (.iload_n 3, 1, (0, 0, 0, 0), 0) := rfl
theorem s296_120 {c : Nat → List AV → SS → Option Out} {l0 l1 l2 l4 l5 l6 l7 : Option AV} {x : Int32} {L2 : List (Nat × AV)} {St : List AV} {S : SS} : ev c 296 120 [l0, l1, l2, some (aI x), l4, l5, l6, l7] L2 St S = ev c 296 121 [l0, l1, l2, some (aI x), l4, l5, l6, l7] L2 (aI x :: St) S := ev_go i296_120 rfl
theorem i296_121 : insAt 296 121 = some (.iload 4, 2, (0, 0, 0, 0), 0) := rfl
theorem s296_121 {c : Nat → List AV → SS → Option Out} {l0 l1 l2 l3 l5 l6 l7 : Option AV} {x : Int32} {L2 : List (Nat × AV)} {St : List AV} {S : SS} : ev c 296 121 [l0, l1, l2, l3, some (aI x), l5, l6, l7] L2 St S = ev c 296 123 [l0, l1, l2, l3, some (aI x), l5, l6, l7] L2 (aI x :: St) S := ev_go i296_121 rfl
theorem i296_123 : insAt 296 123 = some (.invokevirtual 144, 3, (251, 2, 2, 12), 0) := rfl
theorem s296_123 {c : Nat → List AV → SS → Option Out} {l0 l1 l2 l3 l4 l5 l6 l7 : Option AV} {a0 : Int32} {a1 : Int32} {j t : Nat} {L2 : List (Nat × AV)} {S : SS} : ev c 296 123 [l0, l1, l2, l3, l4, l5, l6, l7] L2 [aI a1, aI a0, aR (12, j, t)] S = ck (c 251 [aR (12, j, t), aI a0, aI a1] S) (fun v S' => ev c 296 126 [l0, l1, l2, l3, l4, l5, l6, l7] L2 (v.toList ++ []) S') := ev_call i296_123 rfl
theorem i296_126 : insAt 296 126 = some (.istore 7, 2, (0, 0, 0, 0), 0) := rfl
theorem s296_126 {c : Nat → List AV → SS → Option Out} {l0 l1 l2 l3 l4 l5 l6 l7 : Option AV} {x : Int32} {L2 : List (Nat × AV)} {St : List AV} {S : SS} : ev c 296 126 [l0, l1, l2, l3, l4, l5, l6, l7] L2 (aI x :: St) S = ev c 296 128 [l0, l1, l2, l3, l4, l5, l6, some (aI x)] (kil L2 7) St S := ev_go i296_126 rfl
theorem i296_128 : insAt 296 128 = some (.aload_n 0, 1, (0, 0, 0, 0), 0) := rfl
theorem s296_128 {c : Nat → List AV → SS → Option Out} {l1 l2 l3 l4 l5 l6 l7 : Option AV} {o : OId} {L2 : List (Nat × AV)} {St : List AV} {S : SS} : ev c 296 128 [some (aR o), l1, l2, l3, l4, l5, l6, l7] L2 St S = ev c 296 129 [some (aR o), l1, l2, l3, l4, l5, l6, l7] L2 (aR o :: St) S := ev_go i296_128 rfl
theorem i296_129 : insAt 296 129 = some (.iload_n 3, 1, (0, 0, 0, 0), 0) := rfl
theorem s296_129 {c : Nat → List AV → SS → Option Out} {l0 l1 l2 l4 l5 l6 l7 : Option AV} {x : Int32} {L2 : List (Nat × AV)} {St : List AV} {S : SS} : ev c 296 129 [l0, l1, l2, some (aI x), l4, l5, l6, l7] L2 St S = ev c 296 130 [l0, l1, l2, some (aI x), l4, l5, l6, l7] L2 (aI x :: St) S := ev_go i296_129 rfl
theorem i296_130 : insAt 296 130 = some (.iload 4, 2, (0, 0, 0, 0), 0) := rfl
theorem s296_130 {c : Nat → List AV → SS → Option Out} {l0 l1 l2 l3 l5 l6 l7 : Option AV} {x : Int32} {L2 : List (Nat × AV)} {St : List AV} {S : SS} : ev c 296 130 [l0, l1, l2, l3, some (aI x), l5, l6, l7] L2 St S = ev c 296 132 [l0, l1, l2, l3, some (aI x), l5, l6, l7] L2 (aI x :: St) S := ev_go i296_130 rfl
theorem i296_132 : insAt 296 132 = some (.iload 5, 2, (0, 0, 0, 0), 0) := rfl
theorem s296_132 {c : Nat → List AV → SS → Option Out} {l0 l1 l2 l3 l4 l6 l7 : Option AV} {x : Int32} {L2 : List (Nat × AV)} {St : List AV} {S : SS} : ev c 296 132 [l0, l1, l2, l3, l4, some (aI x), l6, l7] L2 St S = ev c 296 134 [l0, l1, l2, l3, l4, some (aI x), l6, l7] L2 (aI x :: St) S := ev_go i296_132 rfl
theorem i296_134 : insAt 296 134 = some (.invokevirtual 83, 3, (248, 3, 2, 12), 0) := rfl
theorem s296_134 {c : Nat → List AV → SS → Option Out} {l0 l1 l2 l3 l4 l5 l6 l7 : Option AV} {a0 : Int32} {a1 : Int32} {a2 : Int32} {j t : Nat} {L2 : List (Nat × AV)} {S : SS} : ev c 296 134 [l0, l1, l2, l3, l4, l5, l6, l7] L2 [aI a2, aI a1, aI a0, aR (12, j, t)] S = ck (c 248 [aR (12, j, t), aI a0, aI a1, aI a2] S) (fun v S' => ev c 296 137 [l0, l1, l2, l3, l4, l5, l6, l7] L2 (v.toList ++ []) S') := ev_call i296_134 rfl
theorem i296_137 : insAt 296 137 = some (.aload_n 0, 1, (0, 0, 0, 0), 0) := rfl
theorem s296_137 {c : Nat → List AV → SS → Option Out} {l1 l2 l3 l4 l5 l6 l7 : Option AV} {o : OId} {L2 : List (Nat × AV)} {St : List AV} {S : SS} : ev c 296 137 [some (aR o), l1, l2, l3, l4, l5, l6, l7] L2 St S = ev c 296 138 [some (aR o), l1, l2, l3, l4, l5, l6, l7] L2 (aR o :: St) S := ev_go i296_137 rfl
theorem i296_138 : insAt 296 138 = some (.iload 6, 2, (0, 0, 0, 0), 0) := rfl
theorem s296_138 {c : Nat → List AV → SS → Option Out} {l0 l1 l2 l3 l4 l5 l7 : Option AV} {x : Int32} {L2 : List (Nat × AV)} {St : List AV} {S : SS} : ev c 296 138 [l0, l1, l2, l3, l4, l5, some (aI x), l7] L2 St S = ev c 296 140 [l0, l1, l2, l3, l4, l5, some (aI x), l7] L2 (aI x :: St) S := ev_go i296_138 rfl
theorem i296_140 : insAt 296 140 = some (.ifCond .ge 7, 3, (0, 0, 0, 0), 0) := rfl
theorem s296_140 {c : Nat → List AV → SS → Option Out} {l0 l1 l2 l3 l4 l5 l6 l7 : Option AV} {x : Int32} {L2 : List (Nat × AV)} {St : List AV} {S : SS} : ev c 296 140 [l0, l1, l2, l3, l4, l5, l6, l7] L2 (aI x :: St) S = if 0 ≤ x then ev c 296 147 [l0, l1, l2, l3, l4, l5, l6, l7] L2 St S else ev c 296 143 [l0, l1, l2, l3, l4, l5, l6, l7] L2 St S := ev_br i296_140 rfl
theorem i296_143 : insAt 296 143 = some (.iconst 4, 1, (0, 0, 0, 0), 0) := rfl
theorem s296_143 {c : Nat → List AV → SS → Option Out} {l0 l1 l2 l3 l4 l5 l6 l7 : Option AV} {L2 : List (Nat × AV)} {St : List AV} {S : SS} : ev c 296 143 [l0, l1, l2, l3, l4, l5, l6, l7] L2 St S = ev c 296 144 [l0, l1, l2, l3, l4, l5, l6, l7] L2 (aI 4 :: St) S := ev_go i296_143 rfl
theorem i296_144 : insAt 296 144 = some (.goto 4, 3, (0, 0, 0, 0), 0) := rfl
theorem s296_144 {c : Nat → List AV → SS → Option Out} {l0 l1 l2 l3 l4 l5 l6 l7 : Option AV} {L2 : List (Nat × AV)} {St : List AV} {S : SS} : ev c 296 144 [l0, l1, l2, l3, l4, l5, l6, l7] L2 St S = ev c 296 148 [l0, l1, l2, l3, l4, l5, l6, l7] L2 St S := ev_go i296_144 rfl
theorem i296_147 : insAt 296 147 = some (.iconst 0, 1, (0, 0, 0, 0), 0) := rfl
theorem s296_147 {c : Nat → List AV → SS → Option Out} {l0 l1 l2 l3 l4 l5 l6 l7 : Option AV} {L2 : List (Nat × AV)} {St : List AV} {S : SS} : ev c 296 147 [l0, l1, l2, l3, l4, l5, l6, l7] L2 St S = ev c 296 148 [l0, l1, l2, l3, l4, l5, l6, l7] L2 (aI 0 :: St) S := ev_go i296_147 rfl
theorem i296_148 : insAt 296 148 = some (.putfield 31, 3, (12, 7, 0, 0), 0) := rfl
theorem s296_148 {c : Nat → List AV → SS → Option Out} {l0 l1 l2 l3 l4 l5 l6 l7 : Option AV} {j t : Nat} {x : Int32} {L2 : List (Nat × AV)} {St : List AV} {S : SS} : ev c 296 148 [l0, l1, l2, l3, l4, l5, l6, l7] L2 (aI x :: aR (12, j, t) :: St) S = ev c 296 151 [l0, l1, l2, l3, l4, l5, l6, l7] L2 St (setI S.1 (12, j, t) 7 x, S.2) := ev_go i296_148 rfl
theorem i296_151 : insAt 296 151 = some (.aload_n 0, 1, (0, 0, 0, 0), 0) := rfl
theorem s296_151 {c : Nat → List AV → SS → Option Out} {l1 l2 l3 l4 l5 l6 l7 : Option AV} {o : OId} {L2 : List (Nat × AV)} {St : List AV} {S : SS} : ev c 296 151 [some (aR o), l1, l2, l3, l4, l5, l6, l7] L2 St S = ev c 296 152 [some (aR o), l1, l2, l3, l4, l5, l6, l7] L2 (aR o :: St) S := ev_go i296_151 rfl
theorem i296_152 : insAt 296 152 = some (.getfield 31, 3, (12, 7, 0, 0), 0) := rfl
theorem s296_152 {c : Nat → List AV → SS → Option Out} {l0 l1 l2 l3 l4 l5 l6 l7 : Option AV} {j t : Nat} {L2 : List (Nat × AV)} {St : List AV} {S : SS} : ev c 296 152 [l0, l1, l2, l3, l4, l5, l6, l7] L2 (aR (12, j, t) :: St) S = ev c 296 155 [l0, l1, l2, l3, l4, l5, l6, l7] L2 (aI (S.1 (12, j, t) 7) :: St) S := ev_go i296_152 rfl
theorem i296_155 : insAt 296 155 = some (.ifCond .le 5, 3, (0, 0, 0, 0), 0) := rfl
theorem s296_155 {c : Nat → List AV → SS → Option Out} {l0 l1 l2 l3 l4 l5 l6 l7 : Option AV} {x : Int32} {L2 : List (Nat × AV)} {St : List AV} {S : SS} : ev c 296 155 [l0, l1, l2, l3, l4, l5, l6, l7] L2 (aI x :: St) S = if x ≤ 0 then ev c 296 160 [l0, l1, l2, l3, l4, l5, l6, l7] L2 St S else ev c 296 158 [l0, l1, l2, l3, l4, l5, l6, l7] L2 St S := ev_br i296_155 rfl
theorem i296_158 : insAt 296 158 = some (.iconst 0, 1, (0, 0, 0, 0), 0) := rfl
theorem s296_158 {c : Nat → List AV → SS → Option Out} {l0 l1 l2 l3 l4 l5 l6 l7 : Option AV} {L2 : List (Nat × AV)} {St : List AV} {S : SS} : ev c 296 158 [l0, l1, l2, l3, l4, l5, l6, l7] L2 St S = ev c 296 159 [l0, l1, l2, l3, l4, l5, l6, l7] L2 (aI 0 :: St) S := ev_go i296_158 rfl
theorem i296_159 : insAt 296 159 = some (.ireturn, 1, (0, 0, 0, 0), 0) := rfl
theorem s296_159 {c : Nat → List AV → SS → Option Out} {l0 l1 l2 l3 l4 l5 l6 l7 : Option AV} {x : Int32} {L2 : List (Nat × AV)} {St : List AV} {S : SS} : ev c 296 159 [l0, l1, l2, l3, l4, l5, l6, l7] L2 [aI x] S = some (.inl (some (aI x)), S) := ev_end i296_159 rfl
theorem i296_160 : insAt 296 160 = some (.aload_n 0, 1, (0, 0, 0, 0), 0) := rfl
theorem s296_160 {c : Nat → List AV → SS → Option Out} {l1 l2 l3 l4 l5 l6 l7 : Option AV} {o : OId} {L2 : List (Nat × AV)} {St : List AV} {S : SS} : ev c 296 160 [some (aR o), l1, l2, l3, l4, l5, l6, l7] L2 St S = ev c 296 161 [some (aR o), l1, l2, l3, l4, l5, l6, l7] L2 (aR o :: St) S := ev_go i296_160 rfl
theorem i296_161 : insAt 296 161 = some (.invokevirtual 86, 3, (220, 0, 2, 12), 0) := rfl
theorem s296_161 {c : Nat → List AV → SS → Option Out} {l0 l1 l2 l3 l4 l5 l6 l7 : Option AV} {j t : Nat} {L2 : List (Nat × AV)} {S : SS} : ev c 296 161 [l0, l1, l2, l3, l4, l5, l6, l7] L2 [aR (12, j, t)] S = ck (c 220 [aR (12, j, t)] S) (fun v S' => ev c 296 164 [l0, l1, l2, l3, l4, l5, l6, l7] L2 (v.toList ++ []) S') := ev_call i296_161 rfl
theorem i296_164 : insAt 296 164 = some (.aload_n 0, 1, (0, 0, 0, 0), 0) := rfl
theorem s296_164 {c : Nat → List AV → SS → Option Out} {l1 l2 l3 l4 l5 l6 l7 : Option AV} {o : OId} {L2 : List (Nat × AV)} {St : List AV} {S : SS} : ev c 296 164 [some (aR o), l1, l2, l3, l4, l5, l6, l7] L2 St S = ev c 296 165 [some (aR o), l1, l2, l3, l4, l5, l6, l7] L2 (aR o :: St) S := ev_go i296_164 rfl
theorem i296_165 : insAt 296 165 = some (.iload_n 3, 1, (0, 0, 0, 0), 0) := rfl
theorem s296_165 {c : Nat → List AV → SS → Option Out} {l0 l1 l2 l4 l5 l6 l7 : Option AV} {x : Int32} {L2 : List (Nat × AV)} {St : List AV} {S : SS} : ev c 296 165 [l0, l1, l2, some (aI x), l4, l5, l6, l7] L2 St S = ev c 296 166 [l0, l1, l2, some (aI x), l4, l5, l6, l7] L2 (aI x :: St) S := ev_go i296_165 rfl
theorem i296_166 : insAt 296 166 = some (.iload 4, 2, (0, 0, 0, 0), 0) := rfl
theorem s296_166 {c : Nat → List AV → SS → Option Out} {l0 l1 l2 l3 l5 l6 l7 : Option AV} {x : Int32} {L2 : List (Nat × AV)} {St : List AV} {S : SS} : ev c 296 166 [l0, l1, l2, l3, some (aI x), l5, l6, l7] L2 St S = ev c 296 168 [l0, l1, l2, l3, some (aI x), l5, l6, l7] L2 (aI x :: St) S := ev_go i296_166 rfl
theorem i296_168 : insAt 296 168 = some (.iload 5, 2, (0, 0, 0, 0), 0) := rfl
theorem s296_168 {c : Nat → List AV → SS → Option Out} {l0 l1 l2 l3 l4 l6 l7 : Option AV} {x : Int32} {L2 : List (Nat × AV)} {St : List AV} {S : SS} : ev c 296 168 [l0, l1, l2, l3, l4, some (aI x), l6, l7] L2 St S = ev c 296 170 [l0, l1, l2, l3, l4, some (aI x), l6, l7] L2 (aI x :: St) S := ev_go i296_168 rfl
theorem i296_170 : insAt 296 170 = some (.iconst 1, 1, (0, 0, 0, 0), 0) := rfl
theorem s296_170 {c : Nat → List AV → SS → Option Out} {l0 l1 l2 l3 l4 l5 l6 l7 : Option AV} {L2 : List (Nat × AV)} {St : List AV} {S : SS} : ev c 296 170 [l0, l1, l2, l3, l4, l5, l6, l7] L2 St S = ev c 296 171 [l0, l1, l2, l3, l4, l5, l6, l7] L2 (aI 1 :: St) S := ev_go i296_170 rfl
theorem i296_171 : insAt 296 171 = some (.iadd, 1, (0, 0, 0, 0), 0) := rfl
theorem s296_171 {c : Nat → List AV → SS → Option Out} {l0 l1 l2 l3 l4 l5 l6 l7 : Option AV} {x y : Int32} {L2 : List (Nat × AV)} {St : List AV} {S : SS} : ev c 296 171 [l0, l1, l2, l3, l4, l5, l6, l7] L2 (aI y :: aI x :: St) S = ev c 296 172 [l0, l1, l2, l3, l4, l5, l6, l7] L2 (aI (x + y) :: St) S := ev_go i296_171 rfl
theorem i296_172 : insAt 296 172 = some (.invokevirtual 83, 3, (248, 3, 2, 12), 0) := rfl
theorem s296_172 {c : Nat → List AV → SS → Option Out} {l0 l1 l2 l3 l4 l5 l6 l7 : Option AV} {a0 : Int32} {a1 : Int32} {a2 : Int32} {j t : Nat} {L2 : List (Nat × AV)} {S : SS} : ev c 296 172 [l0, l1, l2, l3, l4, l5, l6, l7] L2 [aI a2, aI a1, aI a0, aR (12, j, t)] S = ck (c 248 [aR (12, j, t), aI a0, aI a1, aI a2] S) (fun v S' => ev c 296 175 [l0, l1, l2, l3, l4, l5, l6, l7] L2 (v.toList ++ []) S') := ev_call i296_172 rfl
theorem i296_175 : insAt 296 175 = some (.iload 7, 2, (0, 0, 0, 0), 0) := rfl
theorem s296_175 {c : Nat → List AV → SS → Option Out} {l0 l1 l2 l3 l4 l5 l6 : Option AV} {x : Int32} {L2 : List (Nat × AV)} {St : List AV} {S : SS} : ev c 296 175 [l0, l1, l2, l3, l4, l5, l6, some (aI x)] L2 St S = ev c 296 177 [l0, l1, l2, l3, l4, l5, l6, some (aI x)] L2 (aI x :: St) S := ev_go i296_175 rfl
theorem i296_177 : insAt 296 177 = some (.ifCond .ne 5, 3, (0, 0, 0, 0), 0) := rfl
theorem s296_177 {c : Nat → List AV → SS → Option Out} {l0 l1 l2 l3 l4 l5 l6 l7 : Option AV} {x : Int32} {L2 : List (Nat × AV)} {St : List AV} {S : SS} : ev c 296 177 [l0, l1, l2, l3, l4, l5, l6, l7] L2 (aI x :: St) S = if x = 0 then ev c 296 180 [l0, l1, l2, l3, l4, l5, l6, l7] L2 St S else ev c 296 182 [l0, l1, l2, l3, l4, l5, l6, l7] L2 St S := (ev_br i296_177 rfl).trans (ite_not _ _ _)
theorem i296_180 : insAt 296 180 = some (.iconst 0, 1, (0, 0, 0, 0), 0) := rfl
theorem s296_180 {c : Nat → List AV → SS → Option Out} {l0 l1 l2 l3 l4 l5 l6 l7 : Option AV} {L2 : List (Nat × AV)} {St : List AV} {S : SS} : ev c 296 180 [l0, l1, l2, l3, l4, l5, l6, l7] L2 St S = ev c 296 181 [l0, l1, l2, l3, l4, l5, l6, l7] L2 (aI 0 :: St) S := ev_go i296_180 rfl
theorem i296_181 : insAt 296 181 = some (.ireturn, 1, (0, 0, 0, 0), 0) := rfl
theorem s296_181 {c : Nat → List AV → SS → Option Out} {l0 l1 l2 l3 l4 l5 l6 l7 : Option AV} {x : Int32} {L2 : List (Nat × AV)} {St : List AV} {S : SS} : ev c 296 181 [l0, l1, l2, l3, l4, l5, l6, l7] L2 [aI x] S = some (.inl (some (aI x)), S) := ev_end i296_181 rfl
theorem i296_182 : insAt 296 182 = some (.aload_n 0, 1, (0, 0, 0, 0), 0) := rfl
theorem s296_182 {c : Nat → List AV → SS → Option Out} {l1 l2 l3 l4 l5 l6 l7 : Option AV} {o : OId} {L2 : List (Nat × AV)} {St : List AV} {S : SS} : ev c 296 182 [some (aR o), l1, l2, l3, l4, l5, l6, l7] L2 St S = ev c 296 183 [some (aR o), l1, l2, l3, l4, l5, l6, l7] L2 (aR o :: St) S := ev_go i296_182 rfl
theorem i296_183 : insAt 296 183 = some (.iload 4, 2, (0, 0, 0, 0), 0) := rfl
theorem s296_183 {c : Nat → List AV → SS → Option Out} {l0 l1 l2 l3 l5 l6 l7 : Option AV} {x : Int32} {L2 : List (Nat × AV)} {St : List AV} {S : SS} : ev c 296 183 [l0, l1, l2, l3, some (aI x), l5, l6, l7] L2 St S = ev c 296 185 [l0, l1, l2, l3, some (aI x), l5, l6, l7] L2 (aI x :: St) S := ev_go i296_183 rfl
theorem i296_185 : insAt 296 185 = some (.iload 6, 2, (0, 0, 0, 0), 0) := rfl
theorem s296_185 {c : Nat → List AV → SS → Option Out} {l0 l1 l2 l3 l4 l5 l7 : Option AV} {x : Int32} {L2 : List (Nat × AV)} {St : List AV} {S : SS} : ev c 296 185 [l0, l1, l2, l3, l4, l5, some (aI x), l7] L2 St S = ev c 296 187 [l0, l1, l2, l3, l4, l5, some (aI x), l7] L2 (aI x :: St) S := ev_go i296_185 rfl
theorem i296_187 : insAt 296 187 = some (.invokevirtual 204, 3, (295, 2, 2, 12), 0) := rfl
theorem s296_187 {c : Nat → List AV → SS → Option Out} {l0 l1 l2 l3 l4 l5 l6 l7 : Option AV} {a0 : Int32} {a1 : Int32} {j t : Nat} {L2 : List (Nat × AV)} {S : SS} : ev c 296 187 [l0, l1, l2, l3, l4, l5, l6, l7] L2 [aI a1, aI a0, aR (12, j, t)] S = ck (c 295 [aR (12, j, t), aI a0, aI a1] S) (fun v S' => ev c 296 190 [l0, l1, l2, l3, l4, l5, l6, l7] L2 (v.toList ++ []) S') := ev_call i296_187 rfl
theorem i296_190 : insAt 296 190 = some (.iload 6, 2, (0, 0, 0, 0), 0) := rfl
theorem s296_190 {c : Nat → List AV → SS → Option Out} {l0 l1 l2 l3 l4 l5 l7 : Option AV} {x : Int32} {L2 : List (Nat × AV)} {St : List AV} {S : SS} : ev c 296 190 [l0, l1, l2, l3, l4, l5, some (aI x), l7] L2 St S = ev c 296 192 [l0, l1, l2, l3, l4, l5, some (aI x), l7] L2 (aI x :: St) S := ev_go i296_190 rfl
theorem i296_192 : insAt 296 192 = some (.iconst 1, 1, (0, 0, 0, 0), 0) := rfl
theorem s296_192 {c : Nat → List AV → SS → Option Out} {l0 l1 l2 l3 l4 l5 l6 l7 : Option AV} {L2 : List (Nat × AV)} {St : List AV} {S : SS} : ev c 296 192 [l0, l1, l2, l3, l4, l5, l6, l7] L2 St S = ev c 296 193 [l0, l1, l2, l3, l4, l5, l6, l7] L2 (aI 1 :: St) S := ev_go i296_192 rfl
theorem i296_193 : insAt 296 193 = some (.iadd, 1, (0, 0, 0, 0), 0) := rfl
theorem s296_193 {c : Nat → List AV → SS → Option Out} {l0 l1 l2 l3 l4 l5 l6 l7 : Option AV} {x y : Int32} {L2 : List (Nat × AV)} {St : List AV} {S : SS} : ev c 296 193 [l0, l1, l2, l3, l4, l5, l6, l7] L2 (aI y :: aI x :: St) S = ev c 296 194 [l0, l1, l2, l3, l4, l5, l6, l7] L2 (aI (x + y) :: St) S := ev_go i296_193 rfl
theorem i296_194 : insAt 296 194 = some (.ireturn, 1, (0, 0, 0, 0), 0) := rfl
theorem s296_194 {c : Nat → List AV → SS → Option Out} {l0 l1 l2 l3 l4 l5 l6 l7 : Option AV} {x : Int32} {L2 : List (Nat × AV)} {St : List AV} {S : SS} : ev c 296 194 [l0, l1, l2, l3, l4, l5, l6, l7] L2 [aI x] S = some (.inl (some (aI x)), S) := ev_end i296_194 rfl
theorem m296 {d : Nat} {o : OId} {a0 : Int32} {a1 : Int32} {S : SS} : evm (d + 1) 296 [aR o, aI a0, aI a1] S = ev (evm d) 296 0 [some (aR o), some (aI a0), some (aI a1), none, none, none, none, none] [] [] S := evm_s (n := 8) rfl (Nat.le_of_ble_eq_true rfl) rfl rfl
/-! FrequencyOfficeModel.moveCount()I -/
theorem i297_0 : insAt 297 0 = some (.aload_n 0, 1, (0, 0, 0, 0), 0) := rfl
theorem s297_0 {c : Nat → List AV → SS → Option Out} {o : OId} {L2 : List (Nat × AV)} {St : List AV} {S : SS} : ev c 297 0 [some (aR o)] L2 St S = ev c 297 1 [some (aR o)] L2 (aR o :: St) S := ev_go i297_0 rfl
theorem i297_1 : insAt 297 1 = some (.aload_n 0, 1, (0, 0, 0, 0), 0) := rfl
theorem s297_1 {c : Nat → List AV → SS → Option Out} {o : OId} {L2 : List (Nat × AV)} {St : List AV} {S : SS} : ev c 297 1 [some (aR o)] L2 St S = ev c 297 2 [some (aR o)] L2 (aR o :: St) S := ev_go i297_1 rfl
theorem i297_2 : insAt 297 2 = some (.getfield 7, 3, (12, 0, 0, 0), 0) := rfl
theorem s297_2 {c : Nat → List AV → SS → Option Out} {l0 : Option AV} {j t : Nat} {L2 : List (Nat × AV)} {St : List AV} {S : SS} : ev c 297 2 [l0] L2 (aR (12, j, t) :: St) S = ev c 297 5 [l0] L2 (S.2.2.1 (12, j, t) 0 :: St) S := ev_go i297_2 rfl
theorem i297_5 : insAt 297 5 = some (.bipush 8, 2, (0, 0, 0, 0), 0) := rfl
theorem s297_5 {c : Nat → List AV → SS → Option Out} {l0 : Option AV} {L2 : List (Nat × AV)} {St : List AV} {S : SS} : ev c 297 5 [l0] L2 St S = ev c 297 7 [l0] L2 (aI 8 :: St) S := ev_go i297_5 rfl
theorem i297_7 : insAt 297 7 = some (.iaload, 1, (0, 0, 0, 0), 0) := rfl
theorem s297_7 {c : Nat → List AV → SS → Option Out} {l0 : Option AV} {i : Int32} {o : OId} {L2 : List (Nat × AV)} {St : List AV} {S : SS} : ev c 297 7 [l0] L2 (aI i :: aR o :: St) S = kI o i (ev c 297 8 [l0] L2 (aI (agI S o i.toNatClampNeg) :: St) S) := ev_iaload i297_7
theorem i297_8 : insAt 297 8 = some (.ifCond .lt 7, 3, (0, 0, 0, 0), 0) := rfl
theorem s297_8 {c : Nat → List AV → SS → Option Out} {l0 : Option AV} {x : Int32} {L2 : List (Nat × AV)} {St : List AV} {S : SS} : ev c 297 8 [l0] L2 (aI x :: St) S = if x < 0 then ev c 297 15 [l0] L2 St S else ev c 297 11 [l0] L2 St S := ev_br i297_8 rfl
theorem i297_11 : insAt 297 11 = some (.iconst 1, 1, (0, 0, 0, 0), 0) := rfl
theorem s297_11 {c : Nat → List AV → SS → Option Out} {l0 : Option AV} {L2 : List (Nat × AV)} {St : List AV} {S : SS} : ev c 297 11 [l0] L2 St S = ev c 297 12 [l0] L2 (aI 1 :: St) S := ev_go i297_11 rfl
theorem i297_12 : insAt 297 12 = some (.goto 4, 3, (0, 0, 0, 0), 0) := rfl
theorem s297_12 {c : Nat → List AV → SS → Option Out} {l0 : Option AV} {L2 : List (Nat × AV)} {St : List AV} {S : SS} : ev c 297 12 [l0] L2 St S = ev c 297 16 [l0] L2 St S := ev_go i297_12 rfl
theorem i297_15 : insAt 297 15 = some (.iconst 0, 1, (0, 0, 0, 0), 0) := rfl
theorem s297_15 {c : Nat → List AV → SS → Option Out} {l0 : Option AV} {L2 : List (Nat × AV)} {St : List AV} {S : SS} : ev c 297 15 [l0] L2 St S = ev c 297 16 [l0] L2 (aI 0 :: St) S := ev_go i297_15 rfl
theorem i297_16 : insAt 297 16 = some (.invokevirtual 176, 3, (259, 1, 2, 12), 0) := rfl
theorem s297_16 {c : Nat → List AV → SS → Option Out} {l0 : Option AV} {a0 : Int32} {j t : Nat} {L2 : List (Nat × AV)} {S : SS} : ev c 297 16 [l0] L2 [aI a0, aR (12, j, t)] S = ck (c 259 [aR (12, j, t), aI a0] S) (fun v S' => ev c 297 19 [l0] L2 (v.toList ++ []) S') := ev_call i297_16 rfl
theorem i297_19 : insAt 297 19 = some (.ifCond .le 7, 3, (0, 0, 0, 0), 0) := rfl
theorem s297_19 {c : Nat → List AV → SS → Option Out} {l0 : Option AV} {x : Int32} {L2 : List (Nat × AV)} {St : List AV} {S : SS} : ev c 297 19 [l0] L2 (aI x :: St) S = if x ≤ 0 then ev c 297 26 [l0] L2 St S else ev c 297 22 [l0] L2 St S := ev_br i297_19 rfl
theorem i297_22 : insAt 297 22 = some (.iconst 0, 1, (0, 0, 0, 0), 0) := rfl
theorem s297_22 {c : Nat → List AV → SS → Option Out} {l0 : Option AV} {L2 : List (Nat × AV)} {St : List AV} {S : SS} : ev c 297 22 [l0] L2 St S = ev c 297 23 [l0] L2 (aI 0 :: St) S := ev_go i297_22 rfl
theorem i297_23 : insAt 297 23 = some (.goto 10, 3, (0, 0, 0, 0), 0) := rfl
theorem s297_23 {c : Nat → List AV → SS → Option Out} {l0 : Option AV} {L2 : List (Nat × AV)} {St : List AV} {S : SS} : ev c 297 23 [l0] L2 St S = ev c 297 33 [l0] L2 St S := ev_go i297_23 rfl
theorem i297_26 : insAt 297 26 = some (.aload_n 0, 1, (0, 0, 0, 0), 0) := rfl
theorem s297_26 {c : Nat → List AV → SS → Option Out} {o : OId} {L2 : List (Nat × AV)} {St : List AV} {S : SS} : ev c 297 26 [some (aR o)] L2 St S = ev c 297 27 [some (aR o)] L2 (aR o :: St) S := ev_go i297_26 rfl
theorem i297_27 : insAt 297 27 = some (.getfield 7, 3, (12, 0, 0, 0), 0) := rfl
theorem s297_27 {c : Nat → List AV → SS → Option Out} {l0 : Option AV} {j t : Nat} {L2 : List (Nat × AV)} {St : List AV} {S : SS} : ev c 297 27 [l0] L2 (aR (12, j, t) :: St) S = ev c 297 30 [l0] L2 (S.2.2.1 (12, j, t) 0 :: St) S := ev_go i297_27 rfl
theorem i297_30 : insAt 297 30 = some (.bipush 8, 2, (0, 0, 0, 0), 0) := rfl
theorem s297_30 {c : Nat → List AV → SS → Option Out} {l0 : Option AV} {L2 : List (Nat × AV)} {St : List AV} {S : SS} : ev c 297 30 [l0] L2 St S = ev c 297 32 [l0] L2 (aI 8 :: St) S := ev_go i297_30 rfl
theorem i297_32 : insAt 297 32 = some (.iaload, 1, (0, 0, 0, 0), 0) := rfl
theorem s297_32 {c : Nat → List AV → SS → Option Out} {l0 : Option AV} {i : Int32} {o : OId} {L2 : List (Nat × AV)} {St : List AV} {S : SS} : ev c 297 32 [l0] L2 (aI i :: aR o :: St) S = kI o i (ev c 297 33 [l0] L2 (aI (agI S o i.toNatClampNeg) :: St) S) := ev_iaload i297_32
theorem i297_33 : insAt 297 33 = some (.ireturn, 1, (0, 0, 0, 0), 0) := rfl
theorem s297_33 {c : Nat → List AV → SS → Option Out} {l0 : Option AV} {x : Int32} {L2 : List (Nat × AV)} {St : List AV} {S : SS} : ev c 297 33 [l0] L2 [aI x] S = some (.inl (some (aI x)), S) := ev_end i297_33 rfl
theorem m297 {d : Nat} {o : OId} {S : SS} : evm (d + 1) 297 [aR o] S = ev (evm d) 297 0 [some (aR o)] [] [] S := evm_s (n := 1) rfl (Nat.le_of_ble_eq_true rfl) rfl rfl
/-! FrequencyOfficeModel.movedStation(I)I -/
theorem i298_0 : insAt 298 0 = some (.aload_n 0, 1, (0, 0, 0, 0), 0) := rfl
theorem s298_0 {c : Nat → List AV → SS → Option Out} {l1 : Option AV} {o : OId} {L2 : List (Nat × AV)} {St : List AV} {S : SS} : ev c 298 0 [some (aR o), l1] L2 St S = ev c 298 1 [some (aR o), l1] L2 (aR o :: St) S := ev_go i298_0 rfl
theorem i298_1 : insAt 298 1 = some (.iload_n 1, 1, (0, 0, 0, 0), 0) := rfl
theorem s298_1 {c : Nat → List AV → SS → Option Out} {l0 : Option AV} {x : Int32} {L2 : List (Nat × AV)} {St : List AV} {S : SS} : ev c 298 1 [l0, some (aI x)] L2 St S = ev c 298 2 [l0, some (aI x)] L2 (aI x :: St) S := ev_go i298_1 rfl
theorem i298_2 : insAt 298 2 = some (.iconst 0, 1, (0, 0, 0, 0), 0) := rfl
theorem s298_2 {c : Nat → List AV → SS → Option Out} {l0 l1 : Option AV} {L2 : List (Nat × AV)} {St : List AV} {S : SS} : ev c 298 2 [l0, l1] L2 St S = ev c 298 3 [l0, l1] L2 (aI 0 :: St) S := ev_go i298_2 rfl
theorem i298_3 : insAt 298 3 = some (.invokevirtual 208, 3, (299, 2, 2, 12), 0) := rfl
theorem s298_3 {c : Nat → List AV → SS → Option Out} {l0 l1 : Option AV} {a0 : Int32} {a1 : Int32} {j t : Nat} {L2 : List (Nat × AV)} {S : SS} : ev c 298 3 [l0, l1] L2 [aI a1, aI a0, aR (12, j, t)] S = ck (c 299 [aR (12, j, t), aI a0, aI a1] S) (fun v S' => ev c 298 6 [l0, l1] L2 (v.toList ++ []) S') := ev_call i298_3 rfl
theorem i298_6 : insAt 298 6 = some (.ireturn, 1, (0, 0, 0, 0), 0) := rfl
theorem s298_6 {c : Nat → List AV → SS → Option Out} {l0 l1 : Option AV} {x : Int32} {L2 : List (Nat × AV)} {St : List AV} {S : SS} : ev c 298 6 [l0, l1] L2 [aI x] S = some (.inl (some (aI x)), S) := ev_end i298_6 rfl
theorem m298 {d : Nat} {o : OId} {a0 : Int32} {S : SS} : evm (d + 1) 298 [aR o, aI a0] S = ev (evm d) 298 0 [some (aR o), some (aI a0)] [] [] S := evm_s (n := 2) rfl (Nat.le_of_ble_eq_true rfl) rfl rfl
/-! FrequencyOfficeModel.ofMove(II)I -/
theorem i299_0 : insAt 299 0 = some (.aload_n 0, 1, (0, 0, 0, 0), 0) := rfl
theorem s299_0 {c : Nat → List AV → SS → Option Out} {l1 l2 : Option AV} {o : OId} {L2 : List (Nat × AV)} {St : List AV} {S : SS} : ev c 299 0 [some (aR o), l1, l2] L2 St S = ev c 299 1 [some (aR o), l1, l2] L2 (aR o :: St) S := ev_go i299_0 rfl
theorem i299_1 : insAt 299 1 = some (.iload_n 1, 1, (0, 0, 0, 0), 0) := rfl
theorem s299_1 {c : Nat → List AV → SS → Option Out} {l0 l2 : Option AV} {x : Int32} {L2 : List (Nat × AV)} {St : List AV} {S : SS} : ev c 299 1 [l0, some (aI x), l2] L2 St S = ev c 299 2 [l0, some (aI x), l2] L2 (aI x :: St) S := ev_go i299_1 rfl
theorem i299_2 : insAt 299 2 = some (.iconst 0, 1, (0, 0, 0, 0), 0) := rfl
theorem s299_2 {c : Nat → List AV → SS → Option Out} {l0 l1 l2 : Option AV} {L2 : List (Nat × AV)} {St : List AV} {S : SS} : ev c 299 2 [l0, l1, l2] L2 St S = ev c 299 3 [l0, l1, l2] L2 (aI 0 :: St) S := ev_go i299_2 rfl
theorem i299_3 : insAt 299 3 = some (.aload_n 0, 1, (0, 0, 0, 0), 0) := rfl
theorem s299_3 {c : Nat → List AV → SS → Option Out} {l1 l2 : Option AV} {o : OId} {L2 : List (Nat × AV)} {St : List AV} {S : SS} : ev c 299 3 [some (aR o), l1, l2] L2 St S = ev c 299 4 [some (aR o), l1, l2] L2 (aR o :: St) S := ev_go i299_3 rfl
theorem i299_4 : insAt 299 4 = some (.getfield 7, 3, (12, 0, 0, 0), 0) := rfl
theorem s299_4 {c : Nat → List AV → SS → Option Out} {l0 l1 l2 : Option AV} {j t : Nat} {L2 : List (Nat × AV)} {St : List AV} {S : SS} : ev c 299 4 [l0, l1, l2] L2 (aR (12, j, t) :: St) S = ev c 299 7 [l0, l1, l2] L2 (S.2.2.1 (12, j, t) 0 :: St) S := ev_go i299_4 rfl
theorem i299_7 : insAt 299 7 = some (.bipush 8, 2, (0, 0, 0, 0), 0) := rfl
theorem s299_7 {c : Nat → List AV → SS → Option Out} {l0 l1 l2 : Option AV} {L2 : List (Nat × AV)} {St : List AV} {S : SS} : ev c 299 7 [l0, l1, l2] L2 St S = ev c 299 9 [l0, l1, l2] L2 (aI 8 :: St) S := ev_go i299_7 rfl
theorem i299_9 : insAt 299 9 = some (.iaload, 1, (0, 0, 0, 0), 0) := rfl
theorem s299_9 {c : Nat → List AV → SS → Option Out} {l0 l1 l2 : Option AV} {i : Int32} {o : OId} {L2 : List (Nat × AV)} {St : List AV} {S : SS} : ev c 299 9 [l0, l1, l2] L2 (aI i :: aR o :: St) S = kI o i (ev c 299 10 [l0, l1, l2] L2 (aI (agI S o i.toNatClampNeg) :: St) S) := ev_iaload i299_9
theorem i299_10 : insAt 299 10 = some (.iconst 1, 1, (0, 0, 0, 0), 0) := rfl
theorem s299_10 {c : Nat → List AV → SS → Option Out} {l0 l1 l2 : Option AV} {L2 : List (Nat × AV)} {St : List AV} {S : SS} : ev c 299 10 [l0, l1, l2] L2 St S = ev c 299 11 [l0, l1, l2] L2 (aI 1 :: St) S := ev_go i299_10 rfl
theorem i299_11 : insAt 299 11 = some (.isub, 1, (0, 0, 0, 0), 0) := rfl
theorem s299_11 {c : Nat → List AV → SS → Option Out} {l0 l1 l2 : Option AV} {x y : Int32} {L2 : List (Nat × AV)} {St : List AV} {S : SS} : ev c 299 11 [l0, l1, l2] L2 (aI y :: aI x :: St) S = ev c 299 12 [l0, l1, l2] L2 (aI (x - y) :: St) S := ev_go i299_11 rfl
theorem i299_12 : insAt 299 12 = some (.invokestatic 154, 3, (228, 3, 0, 0), 0) := rfl
theorem s299_12 {c : Nat → List AV → SS → Option Out} {l0 l1 l2 : Option AV} {t0 : AV} {a0 : Int32} {a1 : Int32} {a2 : Int32} {L2 : List (Nat × AV)} {S : SS} : ev c 299 12 [l0, l1, l2] L2 [aI a2, aI a1, aI a0, t0] S = ck (c 228 [aI a0, aI a1, aI a2] S) (fun v S' => ev c 299 15 [l0, l1, l2] L2 (v.toList ++ [t0]) S') := ev_call i299_12 rfl
theorem i299_15 : insAt 299 15 = some (.invokevirtual 176, 3, (259, 1, 2, 12), 0) := rfl
theorem s299_15 {c : Nat → List AV → SS → Option Out} {l0 l1 l2 : Option AV} {a0 : Int32} {j t : Nat} {L2 : List (Nat × AV)} {S : SS} : ev c 299 15 [l0, l1, l2] L2 [aI a0, aR (12, j, t)] S = ck (c 259 [aR (12, j, t), aI a0] S) (fun v S' => ev c 299 18 [l0, l1, l2] L2 (v.toList ++ []) S') := ev_call i299_15 rfl
theorem i299_18 : insAt 299 18 = some (.ifCond .le 7, 3, (0, 0, 0, 0), 0) := rfl
theorem s299_18 {c : Nat → List AV → SS → Option Out} {l0 l1 l2 : Option AV} {x : Int32} {L2 : List (Nat × AV)} {St : List AV} {S : SS} : ev c 299 18 [l0, l1, l2] L2 (aI x :: St) S = if x ≤ 0 then ev c 299 25 [l0, l1, l2] L2 St S else ev c 299 21 [l0, l1, l2] L2 St S := ev_br i299_18 rfl
theorem i299_21 : insAt 299 21 = some (.iconst 0, 1, (0, 0, 0, 0), 0) := rfl
theorem s299_21 {c : Nat → List AV → SS → Option Out} {l0 l1 l2 : Option AV} {L2 : List (Nat × AV)} {St : List AV} {S : SS} : ev c 299 21 [l0, l1, l2] L2 St S = ev c 299 22 [l0, l1, l2] L2 (aI 0 :: St) S := ev_go i299_21 rfl
theorem i299_22 : insAt 299 22 = some (.goto 16, 3, (0, 0, 0, 0), 0) := rfl
theorem s299_22 {c : Nat → List AV → SS → Option Out} {l0 l1 l2 : Option AV} {L2 : List (Nat × AV)} {St : List AV} {S : SS} : ev c 299 22 [l0, l1, l2] L2 St S = ev c 299 38 [l0, l1, l2] L2 St S := ev_go i299_22 rfl
theorem i299_25 : insAt 299 25 = some (.aload_n 0, 1, (0, 0, 0, 0), 0) := rfl
theorem s299_25 {c : Nat → List AV → SS → Option Out} {l1 l2 : Option AV} {o : OId} {L2 : List (Nat × AV)} {St : List AV} {S : SS} : ev c 299 25 [some (aR o), l1, l2] L2 St S = ev c 299 26 [some (aR o), l1, l2] L2 (aR o :: St) S := ev_go i299_25 rfl
theorem i299_26 : insAt 299 26 = some (.getfield 7, 3, (12, 0, 0, 0), 0) := rfl
theorem s299_26 {c : Nat → List AV → SS → Option Out} {l0 l1 l2 : Option AV} {j t : Nat} {L2 : List (Nat × AV)} {St : List AV} {S : SS} : ev c 299 26 [l0, l1, l2] L2 (aR (12, j, t) :: St) S = ev c 299 29 [l0, l1, l2] L2 (S.2.2.1 (12, j, t) 0 :: St) S := ev_go i299_26 rfl
theorem i299_29 : insAt 299 29 = some (.bipush 9, 2, (0, 0, 0, 0), 0) := rfl
theorem s299_29 {c : Nat → List AV → SS → Option Out} {l0 l1 l2 : Option AV} {L2 : List (Nat × AV)} {St : List AV} {S : SS} : ev c 299 29 [l0, l1, l2] L2 St S = ev c 299 31 [l0, l1, l2] L2 (aI 9 :: St) S := ev_go i299_29 rfl
theorem i299_31 : insAt 299 31 = some (.iconst 3, 1, (0, 0, 0, 0), 0) := rfl
theorem s299_31 {c : Nat → List AV → SS → Option Out} {l0 l1 l2 : Option AV} {L2 : List (Nat × AV)} {St : List AV} {S : SS} : ev c 299 31 [l0, l1, l2] L2 St S = ev c 299 32 [l0, l1, l2] L2 (aI 3 :: St) S := ev_go i299_31 rfl
theorem i299_32 : insAt 299 32 = some (.iload_n 1, 1, (0, 0, 0, 0), 0) := rfl
theorem s299_32 {c : Nat → List AV → SS → Option Out} {l0 l2 : Option AV} {x : Int32} {L2 : List (Nat × AV)} {St : List AV} {S : SS} : ev c 299 32 [l0, some (aI x), l2] L2 St S = ev c 299 33 [l0, some (aI x), l2] L2 (aI x :: St) S := ev_go i299_32 rfl
theorem i299_33 : insAt 299 33 = some (.imul, 1, (0, 0, 0, 0), 0) := rfl
theorem s299_33 {c : Nat → List AV → SS → Option Out} {l0 l1 l2 : Option AV} {x y : Int32} {L2 : List (Nat × AV)} {St : List AV} {S : SS} : ev c 299 33 [l0, l1, l2] L2 (aI y :: aI x :: St) S = ev c 299 34 [l0, l1, l2] L2 (aI (x * y) :: St) S := ev_go i299_33 rfl
theorem i299_34 : insAt 299 34 = some (.iadd, 1, (0, 0, 0, 0), 0) := rfl
theorem s299_34 {c : Nat → List AV → SS → Option Out} {l0 l1 l2 : Option AV} {x y : Int32} {L2 : List (Nat × AV)} {St : List AV} {S : SS} : ev c 299 34 [l0, l1, l2] L2 (aI y :: aI x :: St) S = ev c 299 35 [l0, l1, l2] L2 (aI (x + y) :: St) S := ev_go i299_34 rfl
theorem i299_35 : insAt 299 35 = some (.iload_n 2, 1, (0, 0, 0, 0), 0) := rfl
theorem s299_35 {c : Nat → List AV → SS → Option Out} {l0 l1 : Option AV} {x : Int32} {L2 : List (Nat × AV)} {St : List AV} {S : SS} : ev c 299 35 [l0, l1, some (aI x)] L2 St S = ev c 299 36 [l0, l1, some (aI x)] L2 (aI x :: St) S := ev_go i299_35 rfl
theorem i299_36 : insAt 299 36 = some (.iadd, 1, (0, 0, 0, 0), 0) := rfl
theorem s299_36 {c : Nat → List AV → SS → Option Out} {l0 l1 l2 : Option AV} {x y : Int32} {L2 : List (Nat × AV)} {St : List AV} {S : SS} : ev c 299 36 [l0, l1, l2] L2 (aI y :: aI x :: St) S = ev c 299 37 [l0, l1, l2] L2 (aI (x + y) :: St) S := ev_go i299_36 rfl
theorem i299_37 : insAt 299 37 = some (.iaload, 1, (0, 0, 0, 0), 0) := rfl
theorem s299_37 {c : Nat → List AV → SS → Option Out} {l0 l1 l2 : Option AV} {i : Int32} {o : OId} {L2 : List (Nat × AV)} {St : List AV} {S : SS} : ev c 299 37 [l0, l1, l2] L2 (aI i :: aR o :: St) S = kI o i (ev c 299 38 [l0, l1, l2] L2 (aI (agI S o i.toNatClampNeg) :: St) S) := ev_iaload i299_37
theorem i299_38 : insAt 299 38 = some (.ireturn, 1, (0, 0, 0, 0), 0) := rfl
theorem s299_38 {c : Nat → List AV → SS → Option Out} {l0 l1 l2 : Option AV} {x : Int32} {L2 : List (Nat × AV)} {St : List AV} {S : SS} : ev c 299 38 [l0, l1, l2] L2 [aI x] S = some (.inl (some (aI x)), S) := ev_end i299_38 rfl
theorem m299 {d : Nat} {o : OId} {a0 : Int32} {a1 : Int32} {S : SS} : evm (d + 1) 299 [aR o, aI a0, aI a1] S = ev (evm d) 299 0 [some (aR o), some (aI a0), some (aI a1)] [] [] S := evm_s (n := 3) rfl (Nat.le_of_ble_eq_true rfl) rfl rfl
/-! FrequencyOfficeModel.movedFrom(I)I -/
theorem i300_0 : insAt 300 0 = some (.aload_n 0, 1, (0, 0, 0, 0), 0) := rfl
theorem s300_0 {c : Nat → List AV → SS → Option Out} {l1 : Option AV} {o : OId} {L2 : List (Nat × AV)} {St : List AV} {S : SS} : ev c 300 0 [some (aR o), l1] L2 St S = ev c 300 1 [some (aR o), l1] L2 (aR o :: St) S := ev_go i300_0 rfl
theorem i300_1 : insAt 300 1 = some (.iload_n 1, 1, (0, 0, 0, 0), 0) := rfl
theorem s300_1 {c : Nat → List AV → SS → Option Out} {l0 : Option AV} {x : Int32} {L2 : List (Nat × AV)} {St : List AV} {S : SS} : ev c 300 1 [l0, some (aI x)] L2 St S = ev c 300 2 [l0, some (aI x)] L2 (aI x :: St) S := ev_go i300_1 rfl
theorem i300_2 : insAt 300 2 = some (.iconst 1, 1, (0, 0, 0, 0), 0) := rfl
theorem s300_2 {c : Nat → List AV → SS → Option Out} {l0 l1 : Option AV} {L2 : List (Nat × AV)} {St : List AV} {S : SS} : ev c 300 2 [l0, l1] L2 St S = ev c 300 3 [l0, l1] L2 (aI 1 :: St) S := ev_go i300_2 rfl
theorem i300_3 : insAt 300 3 = some (.invokevirtual 208, 3, (299, 2, 2, 12), 0) := rfl
theorem s300_3 {c : Nat → List AV → SS → Option Out} {l0 l1 : Option AV} {a0 : Int32} {a1 : Int32} {j t : Nat} {L2 : List (Nat × AV)} {S : SS} : ev c 300 3 [l0, l1] L2 [aI a1, aI a0, aR (12, j, t)] S = ck (c 299 [aR (12, j, t), aI a0, aI a1] S) (fun v S' => ev c 300 6 [l0, l1] L2 (v.toList ++ []) S') := ev_call i300_3 rfl
theorem i300_6 : insAt 300 6 = some (.ireturn, 1, (0, 0, 0, 0), 0) := rfl
theorem s300_6 {c : Nat → List AV → SS → Option Out} {l0 l1 : Option AV} {x : Int32} {L2 : List (Nat × AV)} {St : List AV} {S : SS} : ev c 300 6 [l0, l1] L2 [aI x] S = some (.inl (some (aI x)), S) := ev_end i300_6 rfl
theorem m300 {d : Nat} {o : OId} {a0 : Int32} {S : SS} : evm (d + 1) 300 [aR o, aI a0] S = ev (evm d) 300 0 [some (aR o), some (aI a0)] [] [] S := evm_s (n := 2) rfl (Nat.le_of_ble_eq_true rfl) rfl rfl
/-! FrequencyOfficeModel.movedTo(I)I -/
theorem i301_0 : insAt 301 0 = some (.aload_n 0, 1, (0, 0, 0, 0), 0) := rfl
theorem s301_0 {c : Nat → List AV → SS → Option Out} {l1 : Option AV} {o : OId} {L2 : List (Nat × AV)} {St : List AV} {S : SS} : ev c 301 0 [some (aR o), l1] L2 St S = ev c 301 1 [some (aR o), l1] L2 (aR o :: St) S := ev_go i301_0 rfl
theorem i301_1 : insAt 301 1 = some (.iload_n 1, 1, (0, 0, 0, 0), 0) := rfl
theorem s301_1 {c : Nat → List AV → SS → Option Out} {l0 : Option AV} {x : Int32} {L2 : List (Nat × AV)} {St : List AV} {S : SS} : ev c 301 1 [l0, some (aI x)] L2 St S = ev c 301 2 [l0, some (aI x)] L2 (aI x :: St) S := ev_go i301_1 rfl
theorem i301_2 : insAt 301 2 = some (.iconst 2, 1, (0, 0, 0, 0), 0) := rfl
theorem s301_2 {c : Nat → List AV → SS → Option Out} {l0 l1 : Option AV} {L2 : List (Nat × AV)} {St : List AV} {S : SS} : ev c 301 2 [l0, l1] L2 St S = ev c 301 3 [l0, l1] L2 (aI 2 :: St) S := ev_go i301_2 rfl
theorem i301_3 : insAt 301 3 = some (.invokevirtual 208, 3, (299, 2, 2, 12), 0) := rfl
theorem s301_3 {c : Nat → List AV → SS → Option Out} {l0 l1 : Option AV} {a0 : Int32} {a1 : Int32} {j t : Nat} {L2 : List (Nat × AV)} {S : SS} : ev c 301 3 [l0, l1] L2 [aI a1, aI a0, aR (12, j, t)] S = ck (c 299 [aR (12, j, t), aI a0, aI a1] S) (fun v S' => ev c 301 6 [l0, l1] L2 (v.toList ++ []) S') := ev_call i301_3 rfl
theorem i301_6 : insAt 301 6 = some (.ireturn, 1, (0, 0, 0, 0), 0) := rfl
theorem s301_6 {c : Nat → List AV → SS → Option Out} {l0 l1 : Option AV} {x : Int32} {L2 : List (Nat × AV)} {St : List AV} {S : SS} : ev c 301 6 [l0, l1] L2 [aI x] S = some (.inl (some (aI x)), S) := ev_end i301_6 rfl
theorem m301 {d : Nat} {o : OId} {a0 : Int32} {S : SS} : evm (d + 1) 301 [aR o, aI a0] S = ev (evm d) 301 0 [some (aR o), some (aI a0)] [] [] S := evm_s (n := 2) rfl (Nat.le_of_ble_eq_true rfl) rfl rfl
/-! FrequencyOfficeModel.leastSpan()I -/
theorem i302_0 : insAt 302 0 = some (.aload_n 0, 1, (0, 0, 0, 0), 0) := rfl
theorem s302_0 {c : Nat → List AV → SS → Option Out} {l1 : Option AV} {o : OId} {L2 : List (Nat × AV)} {St : List AV} {S : SS} : ev c 302 0 [some (aR o), l1] L2 St S = ev c 302 1 [some (aR o), l1] L2 (aR o :: St) S := ev_go i302_0 rfl
theorem i302_1 : insAt 302 1 = some (.iconst 0, 1, (0, 0, 0, 0), 0) := rfl
theorem s302_1 {c : Nat → List AV → SS → Option Out} {l0 l1 : Option AV} {L2 : List (Nat × AV)} {St : List AV} {S : SS} : ev c 302 1 [l0, l1] L2 St S = ev c 302 2 [l0, l1] L2 (aI 0 :: St) S := ev_go i302_1 rfl
theorem i302_2 : insAt 302 2 = some (.putfield 31, 3, (12, 7, 0, 0), 0) := rfl
theorem s302_2 {c : Nat → List AV → SS → Option Out} {l0 l1 : Option AV} {j t : Nat} {x : Int32} {L2 : List (Nat × AV)} {St : List AV} {S : SS} : ev c 302 2 [l0, l1] L2 (aI x :: aR (12, j, t) :: St) S = ev c 302 5 [l0, l1] L2 St (setI S.1 (12, j, t) 7 x, S.2) := ev_go i302_2 rfl
theorem i302_5 : insAt 302 5 = some (.iconst 0, 1, (0, 0, 0, 0), 0) := rfl
theorem s302_5 {c : Nat → List AV → SS → Option Out} {l0 l1 : Option AV} {L2 : List (Nat × AV)} {St : List AV} {S : SS} : ev c 302 5 [l0, l1] L2 St S = ev c 302 6 [l0, l1] L2 (aI 0 :: St) S := ev_go i302_5 rfl
theorem i302_6 : insAt 302 6 = some (.istore_n 1, 1, (0, 0, 0, 0), 0) := rfl
theorem s302_6 {c : Nat → List AV → SS → Option Out} {l0 l1 : Option AV} {x : Int32} {L2 : List (Nat × AV)} {St : List AV} {S : SS} : ev c 302 6 [l0, l1] L2 (aI x :: St) S = ev c 302 7 [l0, some (aI x)] (kil L2 1) St S := ev_go i302_6 rfl
theorem i302_7 : insAt 302 7 = some (.aload_n 0, 1, (0, 0, 0, 0), 0) := rfl
theorem s302_7 {c : Nat → List AV → SS → Option Out} {l1 : Option AV} {o : OId} {L2 : List (Nat × AV)} {St : List AV} {S : SS} : ev c 302 7 [some (aR o), l1] L2 St S = ev c 302 8 [some (aR o), l1] L2 (aR o :: St) S := ev_go i302_7 rfl
theorem i302_8 : insAt 302 8 = some (.iconst 0, 1, (0, 0, 0, 0), 0) := rfl
theorem s302_8 {c : Nat → List AV → SS → Option Out} {l0 l1 : Option AV} {L2 : List (Nat × AV)} {St : List AV} {S : SS} : ev c 302 8 [l0, l1] L2 St S = ev c 302 9 [l0, l1] L2 (aI 0 :: St) S := ev_go i302_8 rfl
theorem i302_9 : insAt 302 9 = some (.iload_n 1, 1, (0, 0, 0, 0), 0) := rfl
theorem s302_9 {c : Nat → List AV → SS → Option Out} {l0 : Option AV} {x : Int32} {L2 : List (Nat × AV)} {St : List AV} {S : SS} : ev c 302 9 [l0, some (aI x)] L2 St S = ev c 302 10 [l0, some (aI x)] L2 (aI x :: St) S := ev_go i302_9 rfl
theorem i302_10 : insAt 302 10 = some (.invokevirtual 211, 3, (303, 2, 2, 12), 0) := rfl
theorem s302_10 {c : Nat → List AV → SS → Option Out} {l0 l1 : Option AV} {a0 : Int32} {a1 : Int32} {j t : Nat} {L2 : List (Nat × AV)} {S : SS} : ev c 302 10 [l0, l1] L2 [aI a1, aI a0, aR (12, j, t)] S = ck (c 303 [aR (12, j, t), aI a0, aI a1] S) (fun v S' => ev c 302 13 [l0, l1] L2 (v.toList ++ []) S') := ev_call i302_10 rfl
theorem i302_13 : insAt 302 13 = some (.ifCond .ne 9, 3, (0, 0, 0, 0), 0) := rfl
theorem s302_13 {c : Nat → List AV → SS → Option Out} {l0 l1 : Option AV} {x : Int32} {L2 : List (Nat × AV)} {St : List AV} {S : SS} : ev c 302 13 [l0, l1] L2 (aI x :: St) S = if x = 0 then ev c 302 16 [l0, l1] L2 St S else ev c 302 22 [l0, l1] L2 St S := (ev_br i302_13 rfl).trans (ite_not _ _ _)
theorem i302_16 : insAt 302 16 = some (.iinc 1 1, 3, (0, 0, 0, 0), 0) := rfl
theorem s302_16 {c : Nat → List AV → SS → Option Out} {l0 : Option AV} {x : Int32} {L2 : List (Nat × AV)} {St : List AV} {S : SS} : ev c 302 16 [l0, some (aI x)] L2 St S = ev c 302 19 [l0, some (aI (x + 1))] (kil L2 1) St S := ev_go i302_16 rfl
theorem i302_19 : insAt 302 19 = some (.goto (-12), 3, (0, 0, 0, 0), 0) := rfl
theorem s302_19 {c : Nat → List AV → SS → Option Out} {l0 l1 : Option AV} {L2 : List (Nat × AV)} {St : List AV} {S : SS} : ev c 302 19 [l0, l1] L2 St S = ev c 302 7 [l0, l1] L2 St S := ev_go i302_19 rfl
theorem i302_22 : insAt 302 22 = some (.iload_n 1, 1, (0, 0, 0, 0), 0) := rfl
theorem s302_22 {c : Nat → List AV → SS → Option Out} {l0 : Option AV} {x : Int32} {L2 : List (Nat × AV)} {St : List AV} {S : SS} : ev c 302 22 [l0, some (aI x)] L2 St S = ev c 302 23 [l0, some (aI x)] L2 (aI x :: St) S := ev_go i302_22 rfl
theorem i302_23 : insAt 302 23 = some (.ireturn, 1, (0, 0, 0, 0), 0) := rfl
theorem s302_23 {c : Nat → List AV → SS → Option Out} {l0 l1 : Option AV} {x : Int32} {L2 : List (Nat × AV)} {St : List AV} {S : SS} : ev c 302 23 [l0, l1] L2 [aI x] S = some (.inl (some (aI x)), S) := ev_end i302_23 rfl
theorem m302 {d : Nat} {o : OId} {S : SS} : evm (d + 1) 302 [aR o] S = ev (evm d) 302 0 [some (aR o), none] [] [] S := evm_s (n := 2) rfl (Nat.le_of_ble_eq_true rfl) rfl rfl
/-! FrequencyOfficeModel.assigns(II)Z -/
theorem i303_0 : insAt 303 0 = some (.iload_n 1, 1, (0, 0, 0, 0), 0) := rfl
theorem s303_0 {c : Nat → List AV → SS → Option Out} {l0 l2 l3 l4 l5 : Option AV} {x : Int32} {L2 : List (Nat × AV)} {St : List AV} {S : SS} : ev c 303 0 [l0, some (aI x), l2, l3, l4, l5] L2 St S = ev c 303 1 [l0, some (aI x), l2, l3, l4, l5] L2 (aI x :: St) S := ev_go i303_0 rfl
theorem i303_1 : insAt 303 1 = some (.aload_n 0, 1, (0, 0, 0, 0), 0) := rfl
theorem s303_1 {c : Nat → List AV → SS → Option Out} {l1 l2 l3 l4 l5 : Option AV} {o : OId} {L2 : List (Nat × AV)} {St : List AV} {S : SS} : ev c 303 1 [some (aR o), l1, l2, l3, l4, l5] L2 St S = ev c 303 2 [some (aR o), l1, l2, l3, l4, l5] L2 (aR o :: St) S := ev_go i303_1 rfl
theorem i303_2 : insAt 303 2 = some (.getfield 7, 3, (12, 0, 0, 0), 0) := rfl
theorem s303_2 {c : Nat → List AV → SS → Option Out} {l0 l1 l2 l3 l4 l5 : Option AV} {j t : Nat} {L2 : List (Nat × AV)} {St : List AV} {S : SS} : ev c 303 2 [l0, l1, l2, l3, l4, l5] L2 (aR (12, j, t) :: St) S = ev c 303 5 [l0, l1, l2, l3, l4, l5] L2 (S.2.2.1 (12, j, t) 0 :: St) S := ev_go i303_2 rfl
theorem i303_5 : insAt 303 5 = some (.bipush 7, 2, (0, 0, 0, 0), 0) := rfl
theorem s303_5 {c : Nat → List AV → SS → Option Out} {l0 l1 l2 l3 l4 l5 : Option AV} {L2 : List (Nat × AV)} {St : List AV} {S : SS} : ev c 303 5 [l0, l1, l2, l3, l4, l5] L2 St S = ev c 303 7 [l0, l1, l2, l3, l4, l5] L2 (aI 7 :: St) S := ev_go i303_5 rfl
theorem i303_7 : insAt 303 7 = some (.iaload, 1, (0, 0, 0, 0), 0) := rfl
theorem s303_7 {c : Nat → List AV → SS → Option Out} {l0 l1 l2 l3 l4 l5 : Option AV} {i : Int32} {o : OId} {L2 : List (Nat × AV)} {St : List AV} {S : SS} : ev c 303 7 [l0, l1, l2, l3, l4, l5] L2 (aI i :: aR o :: St) S = kI o i (ev c 303 8 [l0, l1, l2, l3, l4, l5] L2 (aI (agI S o i.toNatClampNeg) :: St) S) := ev_iaload i303_7
theorem i303_8 : insAt 303 8 = some (.if_icmp .ne 5, 3, (0, 0, 0, 0), 0) := rfl
theorem s303_8 {c : Nat → List AV → SS → Option Out} {l0 l1 l2 l3 l4 l5 : Option AV} {x y : Int32} {L2 : List (Nat × AV)} {St : List AV} {S : SS} : ev c 303 8 [l0, l1, l2, l3, l4, l5] L2 (aI y :: aI x :: St) S = if x = y then ev c 303 11 [l0, l1, l2, l3, l4, l5] L2 St S else ev c 303 13 [l0, l1, l2, l3, l4, l5] L2 St S := (ev_br i303_8 rfl).trans (ite_not _ _ _)
theorem i303_11 : insAt 303 11 = some (.iconst 1, 1, (0, 0, 0, 0), 0) := rfl
theorem s303_11 {c : Nat → List AV → SS → Option Out} {l0 l1 l2 l3 l4 l5 : Option AV} {L2 : List (Nat × AV)} {St : List AV} {S : SS} : ev c 303 11 [l0, l1, l2, l3, l4, l5] L2 St S = ev c 303 12 [l0, l1, l2, l3, l4, l5] L2 (aI 1 :: St) S := ev_go i303_11 rfl
theorem i303_12 : insAt 303 12 = some (.ireturn, 1, (0, 0, 0, 0), 0) := rfl
theorem s303_12 {c : Nat → List AV → SS → Option Out} {l0 l1 l2 l3 l4 l5 : Option AV} {x : Int32} {L2 : List (Nat × AV)} {St : List AV} {S : SS} : ev c 303 12 [l0, l1, l2, l3, l4, l5] L2 [aI x] S = if x = 0 ∨ x = 1 then some (.inl (some (aI x)), S) else none := ev_rt i303_12 rfl
theorem i303_13 : insAt 303 13 = some (.aload_n 0, 1, (0, 0, 0, 0), 0) := rfl
theorem s303_13 {c : Nat → List AV → SS → Option Out} {l1 l2 l3 l4 l5 : Option AV} {o : OId} {L2 : List (Nat × AV)} {St : List AV} {S : SS} : ev c 303 13 [some (aR o), l1, l2, l3, l4, l5] L2 St S = ev c 303 14 [some (aR o), l1, l2, l3, l4, l5] L2 (aR o :: St) S := ev_go i303_13 rfl
theorem i303_14 : insAt 303 14 = some (.iload_n 1, 1, (0, 0, 0, 0), 0) := rfl
theorem s303_14 {c : Nat → List AV → SS → Option Out} {l0 l2 l3 l4 l5 : Option AV} {x : Int32} {L2 : List (Nat × AV)} {St : List AV} {S : SS} : ev c 303 14 [l0, some (aI x), l2, l3, l4, l5] L2 St S = ev c 303 15 [l0, some (aI x), l2, l3, l4, l5] L2 (aI x :: St) S := ev_go i303_14 rfl
theorem i303_15 : insAt 303 15 = some (.invokevirtual 115, 3, (233, 1, 2, 12), 0) := rfl
theorem s303_15 {c : Nat → List AV → SS → Option Out} {l0 l1 l2 l3 l4 l5 : Option AV} {a0 : Int32} {j t : Nat} {L2 : List (Nat × AV)} {S : SS} : ev c 303 15 [l0, l1, l2, l3, l4, l5] L2 [aI a0, aR (12, j, t)] S = ck (c 233 [aR (12, j, t), aI a0] S) (fun v S' => ev c 303 18 [l0, l1, l2, l3, l4, l5] L2 (v.toList ++ []) S') := ev_call i303_15 rfl
theorem i303_18 : insAt 303 18 = some (.ifCond .ne 12, 3, (0, 0, 0, 0), 0) := rfl
theorem s303_18 {c : Nat → List AV → SS → Option Out} {l0 l1 l2 l3 l4 l5 : Option AV} {x : Int32} {L2 : List (Nat × AV)} {St : List AV} {S : SS} : ev c 303 18 [l0, l1, l2, l3, l4, l5] L2 (aI x :: St) S = if x = 0 then ev c 303 21 [l0, l1, l2, l3, l4, l5] L2 St S else ev c 303 30 [l0, l1, l2, l3, l4, l5] L2 St S := (ev_br i303_18 rfl).trans (ite_not _ _ _)
theorem i303_21 : insAt 303 21 = some (.aload_n 0, 1, (0, 0, 0, 0), 0) := rfl
theorem s303_21 {c : Nat → List AV → SS → Option Out} {l1 l2 l3 l4 l5 : Option AV} {o : OId} {L2 : List (Nat × AV)} {St : List AV} {S : SS} : ev c 303 21 [some (aR o), l1, l2, l3, l4, l5] L2 St S = ev c 303 22 [some (aR o), l1, l2, l3, l4, l5] L2 (aR o :: St) S := ev_go i303_21 rfl
theorem i303_22 : insAt 303 22 = some (.iload_n 1, 1, (0, 0, 0, 0), 0) := rfl
theorem s303_22 {c : Nat → List AV → SS → Option Out} {l0 l2 l3 l4 l5 : Option AV} {x : Int32} {L2 : List (Nat × AV)} {St : List AV} {S : SS} : ev c 303 22 [l0, some (aI x), l2, l3, l4, l5] L2 St S = ev c 303 23 [l0, some (aI x), l2, l3, l4, l5] L2 (aI x :: St) S := ev_go i303_22 rfl
theorem i303_23 : insAt 303 23 = some (.iconst 1, 1, (0, 0, 0, 0), 0) := rfl
theorem s303_23 {c : Nat → List AV → SS → Option Out} {l0 l1 l2 l3 l4 l5 : Option AV} {L2 : List (Nat × AV)} {St : List AV} {S : SS} : ev c 303 23 [l0, l1, l2, l3, l4, l5] L2 St S = ev c 303 24 [l0, l1, l2, l3, l4, l5] L2 (aI 1 :: St) S := ev_go i303_23 rfl
theorem i303_24 : insAt 303 24 = some (.iadd, 1, (0, 0, 0, 0), 0) := rfl
theorem s303_24 {c : Nat → List AV → SS → Option Out} {l0 l1 l2 l3 l4 l5 : Option AV} {x y : Int32} {L2 : List (Nat × AV)} {St : List AV} {S : SS} : ev c 303 24 [l0, l1, l2, l3, l4, l5] L2 (aI y :: aI x :: St) S = ev c 303 25 [l0, l1, l2, l3, l4, l5] L2 (aI (x + y) :: St) S := ev_go i303_24 rfl
theorem i303_25 : insAt 303 25 = some (.iload_n 2, 1, (0, 0, 0, 0), 0) := rfl
theorem s303_25 {c : Nat → List AV → SS → Option Out} {l0 l1 l3 l4 l5 : Option AV} {x : Int32} {L2 : List (Nat × AV)} {St : List AV} {S : SS} : ev c 303 25 [l0, l1, some (aI x), l3, l4, l5] L2 St S = ev c 303 26 [l0, l1, some (aI x), l3, l4, l5] L2 (aI x :: St) S := ev_go i303_25 rfl
theorem i303_26 : insAt 303 26 = some (.invokevirtual 211, 3, (303, 2, 2, 12), 0) := rfl
theorem s303_26 {c : Nat → List AV → SS → Option Out} {l0 l1 l2 l3 l4 l5 : Option AV} {a0 : Int32} {a1 : Int32} {j t : Nat} {L2 : List (Nat × AV)} {S : SS} : ev c 303 26 [l0, l1, l2, l3, l4, l5] L2 [aI a1, aI a0, aR (12, j, t)] S = ck (c 303 [aR (12, j, t), aI a0, aI a1] S) (fun v S' => ev c 303 29 [l0, l1, l2, l3, l4, l5] L2 (v.toList ++ []) S') := ev_call i303_26 rfl
theorem i303_29 : insAt 303 29 = some (.ireturn, 1, (0, 0, 0, 0), 0) := rfl
theorem s303_29 {c : Nat → List AV → SS → Option Out} {l0 l1 l2 l3 l4 l5 : Option AV} {x : Int32} {L2 : List (Nat × AV)} {St : List AV} {S : SS} : ev c 303 29 [l0, l1, l2, l3, l4, l5] L2 [aI x] S = if x = 0 ∨ x = 1 then some (.inl (some (aI x)), S) else none := ev_rt i303_29 rfl
theorem i303_30 : insAt 303 30 = some (.iconst 0, 1, (0, 0, 0, 0), 0) := rfl
theorem s303_30 {c : Nat → List AV → SS → Option Out} {l0 l1 l2 l3 l4 l5 : Option AV} {L2 : List (Nat × AV)} {St : List AV} {S : SS} : ev c 303 30 [l0, l1, l2, l3, l4, l5] L2 St S = ev c 303 31 [l0, l1, l2, l3, l4, l5] L2 (aI 0 :: St) S := ev_go i303_30 rfl
theorem i303_31 : insAt 303 31 = some (.istore_n 3, 1, (0, 0, 0, 0), 0) := rfl
theorem s303_31 {c : Nat → List AV → SS → Option Out} {l0 l1 l2 l3 l4 l5 : Option AV} {x : Int32} {L2 : List (Nat × AV)} {St : List AV} {S : SS} : ev c 303 31 [l0, l1, l2, l3, l4, l5] L2 (aI x :: St) S = ev c 303 32 [l0, l1, l2, some (aI x), l4, l5] (kil L2 3) St S := ev_go i303_31 rfl
theorem i303_32 : insAt 303 32 = some (.iload_n 3, 1, (0, 0, 0, 0), 0) := rfl
theorem s303_32 {c : Nat → List AV → SS → Option Out} {l0 l1 l2 l4 l5 : Option AV} {x : Int32} {L2 : List (Nat × AV)} {St : List AV} {S : SS} : ev c 303 32 [l0, l1, l2, some (aI x), l4, l5] L2 St S = ev c 303 33 [l0, l1, l2, some (aI x), l4, l5] L2 (aI x :: St) S := ev_go i303_32 rfl
theorem i303_33 : insAt 303 33 = some (.iload_n 2, 1, (0, 0, 0, 0), 0) := rfl
theorem s303_33 {c : Nat → List AV → SS → Option Out} {l0 l1 l3 l4 l5 : Option AV} {x : Int32} {L2 : List (Nat × AV)} {St : List AV} {S : SS} : ev c 303 33 [l0, l1, some (aI x), l3, l4, l5] L2 St S = ev c 303 34 [l0, l1, some (aI x), l3, l4, l5] L2 (aI x :: St) S := ev_go i303_33 rfl
theorem i303_34 : insAt 303 34 = some (.if_icmp .ge 95, 3, (0, 0, 0, 0), 0) := rfl
theorem s303_34 {c : Nat → List AV → SS → Option Out} {l0 l1 l2 l3 l4 l5 : Option AV} {x y : Int32} {L2 : List (Nat × AV)} {St : List AV} {S : SS} : ev c 303 34 [l0, l1, l2, l3, l4, l5] L2 (aI y :: aI x :: St) S = if y ≤ x then ev c 303 129 [l0, l1, l2, l3, l4, l5] L2 St S else ev c 303 37 [l0, l1, l2, l3, l4, l5] L2 St S := ev_br i303_34 rfl
theorem i303_37 : insAt 303 37 = some (.iconst 1, 1, (0, 0, 0, 0), 0) := rfl
theorem s303_37 {c : Nat → List AV → SS → Option Out} {l0 l1 l2 l3 l4 l5 : Option AV} {L2 : List (Nat × AV)} {St : List AV} {S : SS} : ev c 303 37 [l0, l1, l2, l3, l4, l5] L2 St S = ev c 303 38 [l0, l1, l2, l3, l4, l5] L2 (aI 1 :: St) S := ev_go i303_37 rfl
theorem i303_38 : insAt 303 38 = some (.istore 4, 2, (0, 0, 0, 0), 0) := rfl
theorem s303_38 {c : Nat → List AV → SS → Option Out} {l0 l1 l2 l3 l4 l5 : Option AV} {x : Int32} {L2 : List (Nat × AV)} {St : List AV} {S : SS} : ev c 303 38 [l0, l1, l2, l3, l4, l5] L2 (aI x :: St) S = ev c 303 40 [l0, l1, l2, l3, some (aI x), l5] (kil L2 4) St S := ev_go i303_38 rfl
theorem i303_40 : insAt 303 40 = some (.iconst 0, 1, (0, 0, 0, 0), 0) := rfl
theorem s303_40 {c : Nat → List AV → SS → Option Out} {l0 l1 l2 l3 l4 l5 : Option AV} {L2 : List (Nat × AV)} {St : List AV} {S : SS} : ev c 303 40 [l0, l1, l2, l3, l4, l5] L2 St S = ev c 303 41 [l0, l1, l2, l3, l4, l5] L2 (aI 0 :: St) S := ev_go i303_40 rfl
theorem i303_41 : insAt 303 41 = some (.istore 5, 2, (0, 0, 0, 0), 0) := rfl
theorem s303_41 {c : Nat → List AV → SS → Option Out} {l0 l1 l2 l3 l4 l5 : Option AV} {x : Int32} {L2 : List (Nat × AV)} {St : List AV} {S : SS} : ev c 303 41 [l0, l1, l2, l3, l4, l5] L2 (aI x :: St) S = ev c 303 43 [l0, l1, l2, l3, l4, some (aI x)] (kil L2 5) St S := ev_go i303_41 rfl
theorem i303_43 : insAt 303 43 = some (.iload 5, 2, (0, 0, 0, 0), 0) := rfl
theorem s303_43 {c : Nat → List AV → SS → Option Out} {l0 l1 l2 l3 l4 : Option AV} {x : Int32} {L2 : List (Nat × AV)} {St : List AV} {S : SS} : ev c 303 43 [l0, l1, l2, l3, l4, some (aI x)] L2 St S = ev c 303 45 [l0, l1, l2, l3, l4, some (aI x)] L2 (aI x :: St) S := ev_go i303_43 rfl
theorem i303_45 : insAt 303 45 = some (.iload_n 1, 1, (0, 0, 0, 0), 0) := rfl
theorem s303_45 {c : Nat → List AV → SS → Option Out} {l0 l2 l3 l4 l5 : Option AV} {x : Int32} {L2 : List (Nat × AV)} {St : List AV} {S : SS} : ev c 303 45 [l0, some (aI x), l2, l3, l4, l5] L2 St S = ev c 303 46 [l0, some (aI x), l2, l3, l4, l5] L2 (aI x :: St) S := ev_go i303_45 rfl
theorem i303_46 : insAt 303 46 = some (.if_icmp .ge 52, 3, (0, 0, 0, 0), 0) := rfl
theorem s303_46 {c : Nat → List AV → SS → Option Out} {l0 l1 l2 l3 l4 l5 : Option AV} {x y : Int32} {L2 : List (Nat × AV)} {St : List AV} {S : SS} : ev c 303 46 [l0, l1, l2, l3, l4, l5] L2 (aI y :: aI x :: St) S = if y ≤ x then ev c 303 98 [l0, l1, l2, l3, l4, l5] L2 St S else ev c 303 49 [l0, l1, l2, l3, l4, l5] L2 St S := ev_br i303_46 rfl
theorem i303_49 : insAt 303 49 = some (.iload 4, 2, (0, 0, 0, 0), 0) := rfl
theorem s303_49 {c : Nat → List AV → SS → Option Out} {l0 l1 l2 l3 l5 : Option AV} {x : Int32} {L2 : List (Nat × AV)} {St : List AV} {S : SS} : ev c 303 49 [l0, l1, l2, l3, some (aI x), l5] L2 St S = ev c 303 51 [l0, l1, l2, l3, some (aI x), l5] L2 (aI x :: St) S := ev_go i303_49 rfl
theorem i303_51 : insAt 303 51 = some (.ifCond .eq 38, 3, (0, 0, 0, 0), 0) := rfl
theorem s303_51 {c : Nat → List AV → SS → Option Out} {l0 l1 l2 l3 l4 l5 : Option AV} {x : Int32} {L2 : List (Nat × AV)} {St : List AV} {S : SS} : ev c 303 51 [l0, l1, l2, l3, l4, l5] L2 (aI x :: St) S = if x = 0 then ev c 303 89 [l0, l1, l2, l3, l4, l5] L2 St S else ev c 303 54 [l0, l1, l2, l3, l4, l5] L2 St S := ev_br i303_51 rfl
theorem i303_54 : insAt 303 54 = some (.aload_n 0, 1, (0, 0, 0, 0), 0) := rfl
theorem s303_54 {c : Nat → List AV → SS → Option Out} {l1 l2 l3 l4 l5 : Option AV} {o : OId} {L2 : List (Nat × AV)} {St : List AV} {S : SS} : ev c 303 54 [some (aR o), l1, l2, l3, l4, l5] L2 St S = ev c 303 55 [some (aR o), l1, l2, l3, l4, l5] L2 (aR o :: St) S := ev_go i303_54 rfl
theorem i303_55 : insAt 303 55 = some (.iload 5, 2, (0, 0, 0, 0), 0) := rfl
theorem s303_55 {c : Nat → List AV → SS → Option Out} {l0 l1 l2 l3 l4 : Option AV} {x : Int32} {L2 : List (Nat × AV)} {St : List AV} {S : SS} : ev c 303 55 [l0, l1, l2, l3, l4, some (aI x)] L2 St S = ev c 303 57 [l0, l1, l2, l3, l4, some (aI x)] L2 (aI x :: St) S := ev_go i303_55 rfl
theorem i303_57 : insAt 303 57 = some (.invokevirtual 115, 3, (233, 1, 2, 12), 0) := rfl
theorem s303_57 {c : Nat → List AV → SS → Option Out} {l0 l1 l2 l3 l4 l5 : Option AV} {a0 : Int32} {j t : Nat} {L2 : List (Nat × AV)} {S : SS} : ev c 303 57 [l0, l1, l2, l3, l4, l5] L2 [aI a0, aR (12, j, t)] S = ck (c 233 [aR (12, j, t), aI a0] S) (fun v S' => ev c 303 60 [l0, l1, l2, l3, l4, l5] L2 (v.toList ++ []) S') := ev_call i303_57 rfl
theorem i303_60 : insAt 303 60 = some (.ifCond .eq 25, 3, (0, 0, 0, 0), 0) := rfl
theorem s303_60 {c : Nat → List AV → SS → Option Out} {l0 l1 l2 l3 l4 l5 : Option AV} {x : Int32} {L2 : List (Nat × AV)} {St : List AV} {S : SS} : ev c 303 60 [l0, l1, l2, l3, l4, l5] L2 (aI x :: St) S = if x = 0 then ev c 303 85 [l0, l1, l2, l3, l4, l5] L2 St S else ev c 303 63 [l0, l1, l2, l3, l4, l5] L2 St S := ev_br i303_60 rfl
theorem i303_63 : insAt 303 63 = some (.aload_n 0, 1, (0, 0, 0, 0), 0) := rfl
theorem s303_63 {c : Nat → List AV → SS → Option Out} {l1 l2 l3 l4 l5 : Option AV} {o : OId} {L2 : List (Nat × AV)} {St : List AV} {S : SS} : ev c 303 63 [some (aR o), l1, l2, l3, l4, l5] L2 St S = ev c 303 64 [some (aR o), l1, l2, l3, l4, l5] L2 (aR o :: St) S := ev_go i303_63 rfl
theorem i303_64 : insAt 303 64 = some (.getfield 28, 3, (12, 6, 0, 0), 0) := rfl
theorem s303_64 {c : Nat → List AV → SS → Option Out} {l0 l1 l2 l3 l4 l5 : Option AV} {j t : Nat} {L2 : List (Nat × AV)} {St : List AV} {S : SS} : ev c 303 64 [l0, l1, l2, l3, l4, l5] L2 (aR (12, j, t) :: St) S = ev c 303 67 [l0, l1, l2, l3, l4, l5] L2 (S.2.2.1 (12, j, t) 6 :: St) S := ev_go i303_64 rfl
theorem i303_67 : insAt 303 67 = some (.iload 5, 2, (0, 0, 0, 0), 0) := rfl
theorem s303_67 {c : Nat → List AV → SS → Option Out} {l0 l1 l2 l3 l4 : Option AV} {x : Int32} {L2 : List (Nat × AV)} {St : List AV} {S : SS} : ev c 303 67 [l0, l1, l2, l3, l4, some (aI x)] L2 St S = ev c 303 69 [l0, l1, l2, l3, l4, some (aI x)] L2 (aI x :: St) S := ev_go i303_67 rfl
theorem i303_69 : insAt 303 69 = some (.iaload, 1, (0, 0, 0, 0), 0) := rfl
theorem s303_69 {c : Nat → List AV → SS → Option Out} {l0 l1 l2 l3 l4 l5 : Option AV} {i : Int32} {o : OId} {L2 : List (Nat × AV)} {St : List AV} {S : SS} : ev c 303 69 [l0, l1, l2, l3, l4, l5] L2 (aI i :: aR o :: St) S = kI o i (ev c 303 70 [l0, l1, l2, l3, l4, l5] L2 (aI (agI S o i.toNatClampNeg) :: St) S) := ev_iaload i303_69
theorem i303_70 : insAt 303 70 = some (.iload_n 3, 1, (0, 0, 0, 0), 0) := rfl
theorem s303_70 {c : Nat → List AV → SS → Option Out} {l0 l1 l2 l4 l5 : Option AV} {x : Int32} {L2 : List (Nat × AV)} {St : List AV} {S : SS} : ev c 303 70 [l0, l1, l2, some (aI x), l4, l5] L2 St S = ev c 303 71 [l0, l1, l2, some (aI x), l4, l5] L2 (aI x :: St) S := ev_go i303_70 rfl
theorem i303_71 : insAt 303 71 = some (.isub, 1, (0, 0, 0, 0), 0) := rfl
theorem s303_71 {c : Nat → List AV → SS → Option Out} {l0 l1 l2 l3 l4 l5 : Option AV} {x y : Int32} {L2 : List (Nat × AV)} {St : List AV} {S : SS} : ev c 303 71 [l0, l1, l2, l3, l4, l5] L2 (aI y :: aI x :: St) S = ev c 303 72 [l0, l1, l2, l3, l4, l5] L2 (aI (x - y) :: St) S := ev_go i303_71 rfl
theorem i303_72 : insAt 303 72 = some (.invokestatic 109, 3, (235, 1, 0, 0), 0) := rfl
theorem s303_72 {c : Nat → List AV → SS → Option Out} {l0 l1 l2 l3 l4 l5 : Option AV} {a0 : Int32} {L2 : List (Nat × AV)} {S : SS} : ev c 303 72 [l0, l1, l2, l3, l4, l5] L2 [aI a0] S = ck (c 235 [aI a0] S) (fun v S' => ev c 303 75 [l0, l1, l2, l3, l4, l5] L2 (v.toList ++ []) S') := ev_call i303_72 rfl
theorem i303_75 : insAt 303 75 = some (.aload_n 0, 1, (0, 0, 0, 0), 0) := rfl
theorem s303_75 {c : Nat → List AV → SS → Option Out} {l1 l2 l3 l4 l5 : Option AV} {o : OId} {L2 : List (Nat × AV)} {St : List AV} {S : SS} : ev c 303 75 [some (aR o), l1, l2, l3, l4, l5] L2 St S = ev c 303 76 [some (aR o), l1, l2, l3, l4, l5] L2 (aR o :: St) S := ev_go i303_75 rfl
theorem i303_76 : insAt 303 76 = some (.iload_n 1, 1, (0, 0, 0, 0), 0) := rfl
theorem s303_76 {c : Nat → List AV → SS → Option Out} {l0 l2 l3 l4 l5 : Option AV} {x : Int32} {L2 : List (Nat × AV)} {St : List AV} {S : SS} : ev c 303 76 [l0, some (aI x), l2, l3, l4, l5] L2 St S = ev c 303 77 [l0, some (aI x), l2, l3, l4, l5] L2 (aI x :: St) S := ev_go i303_76 rfl
theorem i303_77 : insAt 303 77 = some (.iload 5, 2, (0, 0, 0, 0), 0) := rfl
theorem s303_77 {c : Nat → List AV → SS → Option Out} {l0 l1 l2 l3 l4 : Option AV} {x : Int32} {L2 : List (Nat × AV)} {St : List AV} {S : SS} : ev c 303 77 [l0, l1, l2, l3, l4, some (aI x)] L2 St S = ev c 303 79 [l0, l1, l2, l3, l4, some (aI x)] L2 (aI x :: St) S := ev_go i303_77 rfl
theorem i303_79 : insAt 303 79 = some (.invokevirtual 112, 3, (243, 2, 2, 12), 0) := rfl
theorem s303_79 {c : Nat → List AV → SS → Option Out} {l0 l1 l2 l3 l4 l5 : Option AV} {t0 : AV} {a0 : Int32} {a1 : Int32} {j t : Nat} {L2 : List (Nat × AV)} {S : SS} : ev c 303 79 [l0, l1, l2, l3, l4, l5] L2 [aI a1, aI a0, aR (12, j, t), t0] S = ck (c 243 [aR (12, j, t), aI a0, aI a1] S) (fun v S' => ev c 303 82 [l0, l1, l2, l3, l4, l5] L2 (v.toList ++ [t0]) S') := ev_call i303_79 rfl
theorem i303_82 : insAt 303 82 = some (.if_icmp .lt 7, 3, (0, 0, 0, 0), 0) := rfl
theorem s303_82 {c : Nat → List AV → SS → Option Out} {l0 l1 l2 l3 l4 l5 : Option AV} {x y : Int32} {L2 : List (Nat × AV)} {St : List AV} {S : SS} : ev c 303 82 [l0, l1, l2, l3, l4, l5] L2 (aI y :: aI x :: St) S = if x < y then ev c 303 89 [l0, l1, l2, l3, l4, l5] L2 St S else ev c 303 85 [l0, l1, l2, l3, l4, l5] L2 St S := ev_br i303_82 rfl
theorem i303_85 : insAt 303 85 = some (.iconst 1, 1, (0, 0, 0, 0), 0) := rfl
theorem s303_85 {c : Nat → List AV → SS → Option Out} {l0 l1 l2 l3 l4 l5 : Option AV} {L2 : List (Nat × AV)} {St : List AV} {S : SS} : ev c 303 85 [l0, l1, l2, l3, l4, l5] L2 St S = ev c 303 86 [l0, l1, l2, l3, l4, l5] L2 (aI 1 :: St) S := ev_go i303_85 rfl
theorem i303_86 : insAt 303 86 = some (.goto 4, 3, (0, 0, 0, 0), 0) := rfl
theorem s303_86 {c : Nat → List AV → SS → Option Out} {l0 l1 l2 l3 l4 l5 : Option AV} {L2 : List (Nat × AV)} {St : List AV} {S : SS} : ev c 303 86 [l0, l1, l2, l3, l4, l5] L2 St S = ev c 303 90 [l0, l1, l2, l3, l4, l5] L2 St S := ev_go i303_86 rfl
theorem i303_89 : insAt 303 89 = some (.iconst 0, 1, (0, 0, 0, 0), 0) := rfl
theorem s303_89 {c : Nat → List AV → SS → Option Out} {l0 l1 l2 l3 l4 l5 : Option AV} {L2 : List (Nat × AV)} {St : List AV} {S : SS} : ev c 303 89 [l0, l1, l2, l3, l4, l5] L2 St S = ev c 303 90 [l0, l1, l2, l3, l4, l5] L2 (aI 0 :: St) S := ev_go i303_89 rfl
theorem i303_90 : insAt 303 90 = some (.istore 4, 2, (0, 0, 0, 0), 0) := rfl
theorem s303_90 {c : Nat → List AV → SS → Option Out} {l0 l1 l2 l3 l4 l5 : Option AV} {x : Int32} {L2 : List (Nat × AV)} {St : List AV} {S : SS} : ev c 303 90 [l0, l1, l2, l3, l4, l5] L2 (aI x :: St) S = ev c 303 92 [l0, l1, l2, l3, some (aI x), l5] (kil L2 4) St S := ev_go i303_90 rfl
theorem i303_92 : insAt 303 92 = some (.iinc 5 1, 3, (0, 0, 0, 0), 0) := rfl
theorem s303_92 {c : Nat → List AV → SS → Option Out} {l0 l1 l2 l3 l4 : Option AV} {x : Int32} {L2 : List (Nat × AV)} {St : List AV} {S : SS} : ev c 303 92 [l0, l1, l2, l3, l4, some (aI x)] L2 St S = ev c 303 95 [l0, l1, l2, l3, l4, some (aI (x + 1))] (kil L2 5) St S := ev_go i303_92 rfl
theorem i303_95 : insAt 303 95 = some (.goto (-52), 3, (0, 0, 0, 0), 0) := rfl
theorem s303_95 {c : Nat → List AV → SS → Option Out} {l0 l1 l2 l3 l4 l5 : Option AV} {L2 : List (Nat × AV)} {St : List AV} {S : SS} : ev c 303 95 [l0, l1, l2, l3, l4, l5] L2 St S = ev c 303 43 [l0, l1, l2, l3, l4, l5] L2 St S := ev_go i303_95 rfl
theorem i303_98 : insAt 303 98 = some (.aload_n 0, 1, (0, 0, 0, 0), 0) := rfl
theorem s303_98 {c : Nat → List AV → SS → Option Out} {l1 l2 l3 l4 l5 : Option AV} {o : OId} {L2 : List (Nat × AV)} {St : List AV} {S : SS} : ev c 303 98 [some (aR o), l1, l2, l3, l4, l5] L2 St S = ev c 303 99 [some (aR o), l1, l2, l3, l4, l5] L2 (aR o :: St) S := ev_go i303_98 rfl
theorem i303_99 : insAt 303 99 = some (.getfield 28, 3, (12, 6, 0, 0), 0) := rfl
theorem s303_99 {c : Nat → List AV → SS → Option Out} {l0 l1 l2 l3 l4 l5 : Option AV} {j t : Nat} {L2 : List (Nat × AV)} {St : List AV} {S : SS} : ev c 303 99 [l0, l1, l2, l3, l4, l5] L2 (aR (12, j, t) :: St) S = ev c 303 102 [l0, l1, l2, l3, l4, l5] L2 (S.2.2.1 (12, j, t) 6 :: St) S := ev_go i303_99 rfl
theorem i303_102 : insAt 303 102 = some (.iload_n 1, 1, (0, 0, 0, 0), 0) := rfl
theorem s303_102 {c : Nat → List AV → SS → Option Out} {l0 l2 l3 l4 l5 : Option AV} {x : Int32} {L2 : List (Nat × AV)} {St : List AV} {S : SS} : ev c 303 102 [l0, some (aI x), l2, l3, l4, l5] L2 St S = ev c 303 103 [l0, some (aI x), l2, l3, l4, l5] L2 (aI x :: St) S := ev_go i303_102 rfl
theorem i303_103 : insAt 303 103 = some (.iload_n 3, 1, (0, 0, 0, 0), 0) := rfl
theorem s303_103 {c : Nat → List AV → SS → Option Out} {l0 l1 l2 l4 l5 : Option AV} {x : Int32} {L2 : List (Nat × AV)} {St : List AV} {S : SS} : ev c 303 103 [l0, l1, l2, some (aI x), l4, l5] L2 St S = ev c 303 104 [l0, l1, l2, some (aI x), l4, l5] L2 (aI x :: St) S := ev_go i303_103 rfl
theorem i303_104 : insAt 303 104 = some (.iastore, 1, (0, 0, 0, 0), 0) := rfl
theorem s303_104 {c : Nat → List AV → SS → Option Out} {l0 l1 l2 l3 l4 l5 : Option AV} {x i : Int32} {o : OId} {L2 : List (Nat × AV)} {St : List AV} {S : SS} : ev c 303 104 [l0, l1, l2, l3, l4, l5] L2 (aI x :: aI i :: aR o :: St) S = kIw o i (ev c 303 105 [l0, l1, l2, l3, l4, l5] L2 St (setI S.1 o i.toNatClampNeg x, S.2)) := ev_iastore i303_104
theorem i303_105 : insAt 303 105 = some (.iload 4, 2, (0, 0, 0, 0), 0) := rfl
theorem s303_105 {c : Nat → List AV → SS → Option Out} {l0 l1 l2 l3 l5 : Option AV} {x : Int32} {L2 : List (Nat × AV)} {St : List AV} {S : SS} : ev c 303 105 [l0, l1, l2, l3, some (aI x), l5] L2 St S = ev c 303 107 [l0, l1, l2, l3, some (aI x), l5] L2 (aI x :: St) S := ev_go i303_105 rfl
theorem i303_107 : insAt 303 107 = some (.ifCond .eq 16, 3, (0, 0, 0, 0), 0) := rfl
theorem s303_107 {c : Nat → List AV → SS → Option Out} {l0 l1 l2 l3 l4 l5 : Option AV} {x : Int32} {L2 : List (Nat × AV)} {St : List AV} {S : SS} : ev c 303 107 [l0, l1, l2, l3, l4, l5] L2 (aI x :: St) S = if x = 0 then ev c 303 123 [l0, l1, l2, l3, l4, l5] L2 St S else ev c 303 110 [l0, l1, l2, l3, l4, l5] L2 St S := ev_br i303_107 rfl
theorem i303_110 : insAt 303 110 = some (.aload_n 0, 1, (0, 0, 0, 0), 0) := rfl
theorem s303_110 {c : Nat → List AV → SS → Option Out} {l1 l2 l3 l4 l5 : Option AV} {o : OId} {L2 : List (Nat × AV)} {St : List AV} {S : SS} : ev c 303 110 [some (aR o), l1, l2, l3, l4, l5] L2 St S = ev c 303 111 [some (aR o), l1, l2, l3, l4, l5] L2 (aR o :: St) S := ev_go i303_110 rfl
theorem i303_111 : insAt 303 111 = some (.iload_n 1, 1, (0, 0, 0, 0), 0) := rfl
theorem s303_111 {c : Nat → List AV → SS → Option Out} {l0 l2 l3 l4 l5 : Option AV} {x : Int32} {L2 : List (Nat × AV)} {St : List AV} {S : SS} : ev c 303 111 [l0, some (aI x), l2, l3, l4, l5] L2 St S = ev c 303 112 [l0, some (aI x), l2, l3, l4, l5] L2 (aI x :: St) S := ev_go i303_111 rfl
theorem i303_112 : insAt 303 112 = some (.iconst 1, 1, (0, 0, 0, 0), 0) := rfl
theorem s303_112 {c : Nat → List AV → SS → Option Out} {l0 l1 l2 l3 l4 l5 : Option AV} {L2 : List (Nat × AV)} {St : List AV} {S : SS} : ev c 303 112 [l0, l1, l2, l3, l4, l5] L2 St S = ev c 303 113 [l0, l1, l2, l3, l4, l5] L2 (aI 1 :: St) S := ev_go i303_112 rfl
theorem i303_113 : insAt 303 113 = some (.iadd, 1, (0, 0, 0, 0), 0) := rfl
theorem s303_113 {c : Nat → List AV → SS → Option Out} {l0 l1 l2 l3 l4 l5 : Option AV} {x y : Int32} {L2 : List (Nat × AV)} {St : List AV} {S : SS} : ev c 303 113 [l0, l1, l2, l3, l4, l5] L2 (aI y :: aI x :: St) S = ev c 303 114 [l0, l1, l2, l3, l4, l5] L2 (aI (x + y) :: St) S := ev_go i303_113 rfl
theorem i303_114 : insAt 303 114 = some (.iload_n 2, 1, (0, 0, 0, 0), 0) := rfl
theorem s303_114 {c : Nat → List AV → SS → Option Out} {l0 l1 l3 l4 l5 : Option AV} {x : Int32} {L2 : List (Nat × AV)} {St : List AV} {S : SS} : ev c 303 114 [l0, l1, some (aI x), l3, l4, l5] L2 St S = ev c 303 115 [l0, l1, some (aI x), l3, l4, l5] L2 (aI x :: St) S := ev_go i303_114 rfl
theorem i303_115 : insAt 303 115 = some (.invokevirtual 211, 3, (303, 2, 2, 12), 0) := rfl
theorem s303_115 {c : Nat → List AV → SS → Option Out} {l0 l1 l2 l3 l4 l5 : Option AV} {a0 : Int32} {a1 : Int32} {j t : Nat} {L2 : List (Nat × AV)} {S : SS} : ev c 303 115 [l0, l1, l2, l3, l4, l5] L2 [aI a1, aI a0, aR (12, j, t)] S = ck (c 303 [aR (12, j, t), aI a0, aI a1] S) (fun v S' => ev c 303 118 [l0, l1, l2, l3, l4, l5] L2 (v.toList ++ []) S') := ev_call i303_115 rfl
theorem i303_118 : insAt 303 118 = some (.ifCond .eq 5, 3, (0, 0, 0, 0), 0) := rfl
theorem s303_118 {c : Nat → List AV → SS → Option Out} {l0 l1 l2 l3 l4 l5 : Option AV} {x : Int32} {L2 : List (Nat × AV)} {St : List AV} {S : SS} : ev c 303 118 [l0, l1, l2, l3, l4, l5] L2 (aI x :: St) S = if x = 0 then ev c 303 123 [l0, l1, l2, l3, l4, l5] L2 St S else ev c 303 121 [l0, l1, l2, l3, l4, l5] L2 St S := ev_br i303_118 rfl
theorem i303_121 : insAt 303 121 = some (.iconst 1, 1, (0, 0, 0, 0), 0) := rfl
theorem s303_121 {c : Nat → List AV → SS → Option Out} {l0 l1 l2 l3 l4 l5 : Option AV} {L2 : List (Nat × AV)} {St : List AV} {S : SS} : ev c 303 121 [l0, l1, l2, l3, l4, l5] L2 St S = ev c 303 122 [l0, l1, l2, l3, l4, l5] L2 (aI 1 :: St) S := ev_go i303_121 rfl
theorem i303_122 : insAt 303 122 = some (.ireturn, 1, (0, 0, 0, 0), 0) := rfl
theorem s303_122 {c : Nat → List AV → SS → Option Out} {l0 l1 l2 l3 l4 l5 : Option AV} {x : Int32} {L2 : List (Nat × AV)} {St : List AV} {S : SS} : ev c 303 122 [l0, l1, l2, l3, l4, l5] L2 [aI x] S = if x = 0 ∨ x = 1 then some (.inl (some (aI x)), S) else none := ev_rt i303_122 rfl
theorem i303_123 : insAt 303 123 = some (.iinc 3 1, 3, (0, 0, 0, 0), 0) := rfl
theorem s303_123 {c : Nat → List AV → SS → Option Out} {l0 l1 l2 l4 l5 : Option AV} {x : Int32} {L2 : List (Nat × AV)} {St : List AV} {S : SS} : ev c 303 123 [l0, l1, l2, some (aI x), l4, l5] L2 St S = ev c 303 126 [l0, l1, l2, some (aI (x + 1)), l4, l5] (kil L2 3) St S := ev_go i303_123 rfl
theorem i303_126 : insAt 303 126 = some (.goto (-94), 3, (0, 0, 0, 0), 0) := rfl
theorem s303_126 {c : Nat → List AV → SS → Option Out} {l0 l1 l2 l3 l4 l5 : Option AV} {L2 : List (Nat × AV)} {St : List AV} {S : SS} : ev c 303 126 [l0, l1, l2, l3, l4, l5] L2 St S = ev c 303 32 [l0, l1, l2, l3, l4, l5] L2 St S := ev_go i303_126 rfl
theorem i303_129 : insAt 303 129 = some (.iconst 0, 1, (0, 0, 0, 0), 0) := rfl
theorem s303_129 {c : Nat → List AV → SS → Option Out} {l0 l1 l2 l3 l4 l5 : Option AV} {L2 : List (Nat × AV)} {St : List AV} {S : SS} : ev c 303 129 [l0, l1, l2, l3, l4, l5] L2 St S = ev c 303 130 [l0, l1, l2, l3, l4, l5] L2 (aI 0 :: St) S := ev_go i303_129 rfl
theorem i303_130 : insAt 303 130 = some (.ireturn, 1, (0, 0, 0, 0), 0) := rfl
theorem s303_130 {c : Nat → List AV → SS → Option Out} {l0 l1 l2 l3 l4 l5 : Option AV} {x : Int32} {L2 : List (Nat × AV)} {St : List AV} {S : SS} : ev c 303 130 [l0, l1, l2, l3, l4, l5] L2 [aI x] S = if x = 0 ∨ x = 1 then some (.inl (some (aI x)), S) else none := ev_rt i303_130 rfl
theorem m303 {d : Nat} {o : OId} {a0 : Int32} {a1 : Int32} {S : SS} : evm (d + 1) 303 [aR o, aI a0, aI a1] S = ev (evm d) 303 0 [some (aR o), some (aI a0), some (aI a1), none, none, none] [] [] S := evm_s (n := 6) rfl (Nat.le_of_ble_eq_true rfl) rfl rfl
/-! FrequencyOfficeModel.leastSpanByOrders()I -/
theorem i304_0 : insAt 304 0 = some (.aload_n 0, 1, (0, 0, 0, 0), 0) := rfl
theorem s304_0 {c : Nat → List AV → SS → Option Out} {o : OId} {L2 : List (Nat × AV)} {St : List AV} {S : SS} : ev c 304 0 [some (aR o)] L2 St S = ev c 304 1 [some (aR o)] L2 (aR o :: St) S := ev_go i304_0 rfl
theorem i304_1 : insAt 304 1 = some (.invokevirtual 214, 3, (302, 0, 2, 12), 0) := rfl
theorem s304_1 {c : Nat → List AV → SS → Option Out} {l0 : Option AV} {j t : Nat} {L2 : List (Nat × AV)} {S : SS} : ev c 304 1 [l0] L2 [aR (12, j, t)] S = ck (c 302 [aR (12, j, t)] S) (fun v S' => ev c 304 4 [l0] L2 (v.toList ++ []) S') := ev_call i304_1 rfl
theorem i304_4 : insAt 304 4 = some (.ireturn, 1, (0, 0, 0, 0), 0) := rfl
theorem s304_4 {c : Nat → List AV → SS → Option Out} {l0 : Option AV} {x : Int32} {L2 : List (Nat × AV)} {St : List AV} {S : SS} : ev c 304 4 [l0] L2 [aI x] S = some (.inl (some (aI x)), S) := ev_end i304_4 rfl
theorem m304 {d : Nat} {o : OId} {S : SS} : evm (d + 1) 304 [aR o] S = ev (evm d) 304 0 [some (aR o)] [] [] S := evm_s (n := 1) rfl (Nat.le_of_ble_eq_true rfl) rfl rfl
/-! FrequencyOfficeModel.usedSpan()I -/
theorem i305_0 : insAt 305 0 = some (.aload_n 0, 1, (0, 0, 0, 0), 0) := rfl
theorem s305_0 {c : Nat → List AV → SS → Option Out} {l1 l2 l3 : Option AV} {o : OId} {L2 : List (Nat × AV)} {St : List AV} {S : SS} : ev c 305 0 [some (aR o), l1, l2, l3] L2 St S = ev c 305 1 [some (aR o), l1, l2, l3] L2 (aR o :: St) S := ev_go i305_0 rfl
theorem i305_1 : insAt 305 1 = some (.iconst 0, 1, (0, 0, 0, 0), 0) := rfl
theorem s305_1 {c : Nat → List AV → SS → Option Out} {l0 l1 l2 l3 : Option AV} {L2 : List (Nat × AV)} {St : List AV} {S : SS} : ev c 305 1 [l0, l1, l2, l3] L2 St S = ev c 305 2 [l0, l1, l2, l3] L2 (aI 0 :: St) S := ev_go i305_1 rfl
theorem i305_2 : insAt 305 2 = some (.putfield 31, 3, (12, 7, 0, 0), 0) := rfl
theorem s305_2 {c : Nat → List AV → SS → Option Out} {l0 l1 l2 l3 : Option AV} {j t : Nat} {x : Int32} {L2 : List (Nat × AV)} {St : List AV} {S : SS} : ev c 305 2 [l0, l1, l2, l3] L2 (aI x :: aR (12, j, t) :: St) S = ev c 305 5 [l0, l1, l2, l3] L2 St (setI S.1 (12, j, t) 7 x, S.2) := ev_go i305_2 rfl
theorem i305_5 : insAt 305 5 = some (.bipush 8, 2, (0, 0, 0, 0), 0) := rfl
theorem s305_5 {c : Nat → List AV → SS → Option Out} {l0 l1 l2 l3 : Option AV} {L2 : List (Nat × AV)} {St : List AV} {S : SS} : ev c 305 5 [l0, l1, l2, l3] L2 St S = ev c 305 7 [l0, l1, l2, l3] L2 (aI 8 :: St) S := ev_go i305_5 rfl
theorem i305_7 : insAt 305 7 = some (.istore_n 1, 1, (0, 0, 0, 0), 0) := rfl
theorem s305_7 {c : Nat → List AV → SS → Option Out} {l0 l1 l2 l3 : Option AV} {x : Int32} {L2 : List (Nat × AV)} {St : List AV} {S : SS} : ev c 305 7 [l0, l1, l2, l3] L2 (aI x :: St) S = ev c 305 8 [l0, some (aI x), l2, l3] (kil L2 1) St S := ev_go i305_7 rfl
theorem i305_8 : insAt 305 8 = some (.iconst (-1), 1, (0, 0, 0, 0), 0) := rfl
theorem s305_8 {c : Nat → List AV → SS → Option Out} {l0 l1 l2 l3 : Option AV} {L2 : List (Nat × AV)} {St : List AV} {S : SS} : ev c 305 8 [l0, l1, l2, l3] L2 St S = ev c 305 9 [l0, l1, l2, l3] L2 (aI (-1) :: St) S := ev_go i305_8 rfl
theorem i305_9 : insAt 305 9 = some (.istore_n 2, 1, (0, 0, 0, 0), 0) := rfl
theorem s305_9 {c : Nat → List AV → SS → Option Out} {l0 l1 l2 l3 : Option AV} {x : Int32} {L2 : List (Nat × AV)} {St : List AV} {S : SS} : ev c 305 9 [l0, l1, l2, l3] L2 (aI x :: St) S = ev c 305 10 [l0, l1, some (aI x), l3] (kil L2 2) St S := ev_go i305_9 rfl
theorem i305_10 : insAt 305 10 = some (.iconst 0, 1, (0, 0, 0, 0), 0) := rfl
theorem s305_10 {c : Nat → List AV → SS → Option Out} {l0 l1 l2 l3 : Option AV} {L2 : List (Nat × AV)} {St : List AV} {S : SS} : ev c 305 10 [l0, l1, l2, l3] L2 St S = ev c 305 11 [l0, l1, l2, l3] L2 (aI 0 :: St) S := ev_go i305_10 rfl
theorem i305_11 : insAt 305 11 = some (.istore_n 3, 1, (0, 0, 0, 0), 0) := rfl
theorem s305_11 {c : Nat → List AV → SS → Option Out} {l0 l1 l2 l3 : Option AV} {x : Int32} {L2 : List (Nat × AV)} {St : List AV} {S : SS} : ev c 305 11 [l0, l1, l2, l3] L2 (aI x :: St) S = ev c 305 12 [l0, l1, l2, some (aI x)] (kil L2 3) St S := ev_go i305_11 rfl
theorem i305_12 : insAt 305 12 = some (.iload_n 3, 1, (0, 0, 0, 0), 0) := rfl
theorem s305_12 {c : Nat → List AV → SS → Option Out} {l0 l1 l2 : Option AV} {x : Int32} {L2 : List (Nat × AV)} {St : List AV} {S : SS} : ev c 305 12 [l0, l1, l2, some (aI x)] L2 St S = ev c 305 13 [l0, l1, l2, some (aI x)] L2 (aI x :: St) S := ev_go i305_12 rfl
theorem i305_13 : insAt 305 13 = some (.aload_n 0, 1, (0, 0, 0, 0), 0) := rfl
theorem s305_13 {c : Nat → List AV → SS → Option Out} {l1 l2 l3 : Option AV} {o : OId} {L2 : List (Nat × AV)} {St : List AV} {S : SS} : ev c 305 13 [some (aR o), l1, l2, l3] L2 St S = ev c 305 14 [some (aR o), l1, l2, l3] L2 (aR o :: St) S := ev_go i305_13 rfl
theorem i305_14 : insAt 305 14 = some (.getfield 7, 3, (12, 0, 0, 0), 0) := rfl
theorem s305_14 {c : Nat → List AV → SS → Option Out} {l0 l1 l2 l3 : Option AV} {j t : Nat} {L2 : List (Nat × AV)} {St : List AV} {S : SS} : ev c 305 14 [l0, l1, l2, l3] L2 (aR (12, j, t) :: St) S = ev c 305 17 [l0, l1, l2, l3] L2 (S.2.2.1 (12, j, t) 0 :: St) S := ev_go i305_14 rfl
theorem i305_17 : insAt 305 17 = some (.bipush 7, 2, (0, 0, 0, 0), 0) := rfl
theorem s305_17 {c : Nat → List AV → SS → Option Out} {l0 l1 l2 l3 : Option AV} {L2 : List (Nat × AV)} {St : List AV} {S : SS} : ev c 305 17 [l0, l1, l2, l3] L2 St S = ev c 305 19 [l0, l1, l2, l3] L2 (aI 7 :: St) S := ev_go i305_17 rfl
theorem i305_19 : insAt 305 19 = some (.iaload, 1, (0, 0, 0, 0), 0) := rfl
theorem s305_19 {c : Nat → List AV → SS → Option Out} {l0 l1 l2 l3 : Option AV} {i : Int32} {o : OId} {L2 : List (Nat × AV)} {St : List AV} {S : SS} : ev c 305 19 [l0, l1, l2, l3] L2 (aI i :: aR o :: St) S = kI o i (ev c 305 20 [l0, l1, l2, l3] L2 (aI (agI S o i.toNatClampNeg) :: St) S) := ev_iaload i305_19
theorem i305_20 : insAt 305 20 = some (.if_icmp .ge 62, 3, (0, 0, 0, 0), 0) := rfl
theorem s305_20 {c : Nat → List AV → SS → Option Out} {l0 l1 l2 l3 : Option AV} {x y : Int32} {L2 : List (Nat × AV)} {St : List AV} {S : SS} : ev c 305 20 [l0, l1, l2, l3] L2 (aI y :: aI x :: St) S = if y ≤ x then ev c 305 82 [l0, l1, l2, l3] L2 St S else ev c 305 23 [l0, l1, l2, l3] L2 St S := ev_br i305_20 rfl
theorem i305_23 : insAt 305 23 = some (.aload_n 0, 1, (0, 0, 0, 0), 0) := rfl
theorem s305_23 {c : Nat → List AV → SS → Option Out} {l1 l2 l3 : Option AV} {o : OId} {L2 : List (Nat × AV)} {St : List AV} {S : SS} : ev c 305 23 [some (aR o), l1, l2, l3] L2 St S = ev c 305 24 [some (aR o), l1, l2, l3] L2 (aR o :: St) S := ev_go i305_23 rfl
theorem i305_24 : insAt 305 24 = some (.iload_n 3, 1, (0, 0, 0, 0), 0) := rfl
theorem s305_24 {c : Nat → List AV → SS → Option Out} {l0 l1 l2 : Option AV} {x : Int32} {L2 : List (Nat × AV)} {St : List AV} {S : SS} : ev c 305 24 [l0, l1, l2, some (aI x)] L2 St S = ev c 305 25 [l0, l1, l2, some (aI x)] L2 (aI x :: St) S := ev_go i305_24 rfl
theorem i305_25 : insAt 305 25 = some (.invokevirtual 115, 3, (233, 1, 2, 12), 0) := rfl
theorem s305_25 {c : Nat → List AV → SS → Option Out} {l0 l1 l2 l3 : Option AV} {a0 : Int32} {j t : Nat} {L2 : List (Nat × AV)} {S : SS} : ev c 305 25 [l0, l1, l2, l3] L2 [aI a0, aR (12, j, t)] S = ck (c 233 [aR (12, j, t), aI a0] S) (fun v S' => ev c 305 28 [l0, l1, l2, l3] L2 (v.toList ++ []) S') := ev_call i305_25 rfl
theorem i305_28 : insAt 305 28 = some (.ifCond .ne 6, 3, (0, 0, 0, 0), 0) := rfl
theorem s305_28 {c : Nat → List AV → SS → Option Out} {l0 l1 l2 l3 : Option AV} {x : Int32} {L2 : List (Nat × AV)} {St : List AV} {S : SS} : ev c 305 28 [l0, l1, l2, l3] L2 (aI x :: St) S = if x = 0 then ev c 305 31 [l0, l1, l2, l3] L2 St S else ev c 305 34 [l0, l1, l2, l3] L2 St S := (ev_br i305_28 rfl).trans (ite_not _ _ _)
theorem i305_31 : insAt 305 31 = some (.goto 45, 3, (0, 0, 0, 0), 0) := rfl
theorem s305_31 {c : Nat → List AV → SS → Option Out} {l0 l1 l2 l3 : Option AV} {L2 : List (Nat × AV)} {St : List AV} {S : SS} : ev c 305 31 [l0, l1, l2, l3] L2 St S = ev c 305 76 [l0, l1, l2, l3] L2 St S := ev_go i305_31 rfl
theorem i305_34 : insAt 305 34 = some (.aload_n 0, 1, (0, 0, 0, 0), 0) := rfl
theorem s305_34 {c : Nat → List AV → SS → Option Out} {l1 l2 l3 : Option AV} {o : OId} {L2 : List (Nat × AV)} {St : List AV} {S : SS} : ev c 305 34 [some (aR o), l1, l2, l3] L2 St S = ev c 305 35 [some (aR o), l1, l2, l3] L2 (aR o :: St) S := ev_go i305_34 rfl
theorem i305_35 : insAt 305 35 = some (.iload_n 3, 1, (0, 0, 0, 0), 0) := rfl
theorem s305_35 {c : Nat → List AV → SS → Option Out} {l0 l1 l2 : Option AV} {x : Int32} {L2 : List (Nat × AV)} {St : List AV} {S : SS} : ev c 305 35 [l0, l1, l2, some (aI x)] L2 St S = ev c 305 36 [l0, l1, l2, some (aI x)] L2 (aI x :: St) S := ev_go i305_35 rfl
theorem i305_36 : insAt 305 36 = some (.iconst 3, 1, (0, 0, 0, 0), 0) := rfl
theorem s305_36 {c : Nat → List AV → SS → Option Out} {l0 l1 l2 l3 : Option AV} {L2 : List (Nat × AV)} {St : List AV} {S : SS} : ev c 305 36 [l0, l1, l2, l3] L2 St S = ev c 305 37 [l0, l1, l2, l3] L2 (aI 3 :: St) S := ev_go i305_36 rfl
theorem i305_37 : insAt 305 37 = some (.invokevirtual 75, 3, (234, 2, 2, 12), 0) := rfl
theorem s305_37 {c : Nat → List AV → SS → Option Out} {l0 l1 l2 l3 : Option AV} {a0 : Int32} {a1 : Int32} {j t : Nat} {L2 : List (Nat × AV)} {S : SS} : ev c 305 37 [l0, l1, l2, l3] L2 [aI a1, aI a0, aR (12, j, t)] S = ck (c 234 [aR (12, j, t), aI a0, aI a1] S) (fun v S' => ev c 305 40 [l0, l1, l2, l3] L2 (v.toList ++ []) S') := ev_call i305_37 rfl
theorem i305_40 : insAt 305 40 = some (.iload_n 1, 1, (0, 0, 0, 0), 0) := rfl
theorem s305_40 {c : Nat → List AV → SS → Option Out} {l0 l2 l3 : Option AV} {x : Int32} {L2 : List (Nat × AV)} {St : List AV} {S : SS} : ev c 305 40 [l0, some (aI x), l2, l3] L2 St S = ev c 305 41 [l0, some (aI x), l2, l3] L2 (aI x :: St) S := ev_go i305_40 rfl
theorem i305_41 : insAt 305 41 = some (.if_icmp .ge 12, 3, (0, 0, 0, 0), 0) := rfl
theorem s305_41 {c : Nat → List AV → SS → Option Out} {l0 l1 l2 l3 : Option AV} {x y : Int32} {L2 : List (Nat × AV)} {St : List AV} {S : SS} : ev c 305 41 [l0, l1, l2, l3] L2 (aI y :: aI x :: St) S = if y ≤ x then ev c 305 53 [l0, l1, l2, l3] L2 St S else ev c 305 44 [l0, l1, l2, l3] L2 St S := ev_br i305_41 rfl
theorem i305_44 : insAt 305 44 = some (.aload_n 0, 1, (0, 0, 0, 0), 0) := rfl
theorem s305_44 {c : Nat → List AV → SS → Option Out} {l1 l2 l3 : Option AV} {o : OId} {L2 : List (Nat × AV)} {St : List AV} {S : SS} : ev c 305 44 [some (aR o), l1, l2, l3] L2 St S = ev c 305 45 [some (aR o), l1, l2, l3] L2 (aR o :: St) S := ev_go i305_44 rfl
theorem i305_45 : insAt 305 45 = some (.iload_n 3, 1, (0, 0, 0, 0), 0) := rfl
theorem s305_45 {c : Nat → List AV → SS → Option Out} {l0 l1 l2 : Option AV} {x : Int32} {L2 : List (Nat × AV)} {St : List AV} {S : SS} : ev c 305 45 [l0, l1, l2, some (aI x)] L2 St S = ev c 305 46 [l0, l1, l2, some (aI x)] L2 (aI x :: St) S := ev_go i305_45 rfl
theorem i305_46 : insAt 305 46 = some (.iconst 3, 1, (0, 0, 0, 0), 0) := rfl
theorem s305_46 {c : Nat → List AV → SS → Option Out} {l0 l1 l2 l3 : Option AV} {L2 : List (Nat × AV)} {St : List AV} {S : SS} : ev c 305 46 [l0, l1, l2, l3] L2 St S = ev c 305 47 [l0, l1, l2, l3] L2 (aI 3 :: St) S := ev_go i305_46 rfl
theorem i305_47 : insAt 305 47 = some (.invokevirtual 75, 3, (234, 2, 2, 12), 0) := rfl
theorem s305_47 {c : Nat → List AV → SS → Option Out} {l0 l1 l2 l3 : Option AV} {a0 : Int32} {a1 : Int32} {j t : Nat} {L2 : List (Nat × AV)} {S : SS} : ev c 305 47 [l0, l1, l2, l3] L2 [aI a1, aI a0, aR (12, j, t)] S = ck (c 234 [aR (12, j, t), aI a0, aI a1] S) (fun v S' => ev c 305 50 [l0, l1, l2, l3] L2 (v.toList ++ []) S') := ev_call i305_47 rfl
theorem i305_50 : insAt 305 50 = some (.goto 4, 3, (0, 0, 0, 0), 0) := rfl
theorem s305_50 {c : Nat → List AV → SS → Option Out} {l0 l1 l2 l3 : Option AV} {L2 : List (Nat × AV)} {St : List AV} {S : SS} : ev c 305 50 [l0, l1, l2, l3] L2 St S = ev c 305 54 [l0, l1, l2, l3] L2 St S := ev_go i305_50 rfl
theorem i305_53 : insAt 305 53 = some (.iload_n 1, 1, (0, 0, 0, 0), 0) := rfl
theorem s305_53 {c : Nat → List AV → SS → Option Out} {l0 l2 l3 : Option AV} {x : Int32} {L2 : List (Nat × AV)} {St : List AV} {S : SS} : ev c 305 53 [l0, some (aI x), l2, l3] L2 St S = ev c 305 54 [l0, some (aI x), l2, l3] L2 (aI x :: St) S := ev_go i305_53 rfl
theorem i305_54 : insAt 305 54 = some (.istore_n 1, 1, (0, 0, 0, 0), 0) := rfl
theorem s305_54 {c : Nat → List AV → SS → Option Out} {l0 l1 l2 l3 : Option AV} {x : Int32} {L2 : List (Nat × AV)} {St : List AV} {S : SS} : ev c 305 54 [l0, l1, l2, l3] L2 (aI x :: St) S = ev c 305 55 [l0, some (aI x), l2, l3] (kil L2 1) St S := ev_go i305_54 rfl
theorem i305_55 : insAt 305 55 = some (.aload_n 0, 1, (0, 0, 0, 0), 0) := rfl
theorem s305_55 {c : Nat → List AV → SS → Option Out} {l1 l2 l3 : Option AV} {o : OId} {L2 : List (Nat × AV)} {St : List AV} {S : SS} : ev c 305 55 [some (aR o), l1, l2, l3] L2 St S = ev c 305 56 [some (aR o), l1, l2, l3] L2 (aR o :: St) S := ev_go i305_55 rfl
theorem i305_56 : insAt 305 56 = some (.iload_n 3, 1, (0, 0, 0, 0), 0) := rfl
theorem s305_56 {c : Nat → List AV → SS → Option Out} {l0 l1 l2 : Option AV} {x : Int32} {L2 : List (Nat × AV)} {St : List AV} {S : SS} : ev c 305 56 [l0, l1, l2, some (aI x)] L2 St S = ev c 305 57 [l0, l1, l2, some (aI x)] L2 (aI x :: St) S := ev_go i305_56 rfl
theorem i305_57 : insAt 305 57 = some (.iconst 3, 1, (0, 0, 0, 0), 0) := rfl
theorem s305_57 {c : Nat → List AV → SS → Option Out} {l0 l1 l2 l3 : Option AV} {L2 : List (Nat × AV)} {St : List AV} {S : SS} : ev c 305 57 [l0, l1, l2, l3] L2 St S = ev c 305 58 [l0, l1, l2, l3] L2 (aI 3 :: St) S := ev_go i305_57 rfl
theorem i305_58 : insAt 305 58 = some (.invokevirtual 75, 3, (234, 2, 2, 12), 0) := rfl
theorem s305_58 {c : Nat → List AV → SS → Option Out} {l0 l1 l2 l3 : Option AV} {a0 : Int32} {a1 : Int32} {j t : Nat} {L2 : List (Nat × AV)} {S : SS} : ev c 305 58 [l0, l1, l2, l3] L2 [aI a1, aI a0, aR (12, j, t)] S = ck (c 234 [aR (12, j, t), aI a0, aI a1] S) (fun v S' => ev c 305 61 [l0, l1, l2, l3] L2 (v.toList ++ []) S') := ev_call i305_58 rfl
theorem i305_61 : insAt 305 61 = some (.iload_n 2, 1, (0, 0, 0, 0), 0) := rfl
theorem s305_61 {c : Nat → List AV → SS → Option Out} {l0 l1 l3 : Option AV} {x : Int32} {L2 : List (Nat × AV)} {St : List AV} {S : SS} : ev c 305 61 [l0, l1, some (aI x), l3] L2 St S = ev c 305 62 [l0, l1, some (aI x), l3] L2 (aI x :: St) S := ev_go i305_61 rfl
theorem i305_62 : insAt 305 62 = some (.if_icmp .le 12, 3, (0, 0, 0, 0), 0) := rfl
theorem s305_62 {c : Nat → List AV → SS → Option Out} {l0 l1 l2 l3 : Option AV} {x y : Int32} {L2 : List (Nat × AV)} {St : List AV} {S : SS} : ev c 305 62 [l0, l1, l2, l3] L2 (aI y :: aI x :: St) S = if x ≤ y then ev c 305 74 [l0, l1, l2, l3] L2 St S else ev c 305 65 [l0, l1, l2, l3] L2 St S := ev_br i305_62 rfl
theorem i305_65 : insAt 305 65 = some (.aload_n 0, 1, (0, 0, 0, 0), 0) := rfl
theorem s305_65 {c : Nat → List AV → SS → Option Out} {l1 l2 l3 : Option AV} {o : OId} {L2 : List (Nat × AV)} {St : List AV} {S : SS} : ev c 305 65 [some (aR o), l1, l2, l3] L2 St S = ev c 305 66 [some (aR o), l1, l2, l3] L2 (aR o :: St) S := ev_go i305_65 rfl
theorem i305_66 : insAt 305 66 = some (.iload_n 3, 1, (0, 0, 0, 0), 0) := rfl
theorem s305_66 {c : Nat → List AV → SS → Option Out} {l0 l1 l2 : Option AV} {x : Int32} {L2 : List (Nat × AV)} {St : List AV} {S : SS} : ev c 305 66 [l0, l1, l2, some (aI x)] L2 St S = ev c 305 67 [l0, l1, l2, some (aI x)] L2 (aI x :: St) S := ev_go i305_66 rfl
theorem i305_67 : insAt 305 67 = some (.iconst 3, 1, (0, 0, 0, 0), 0) := rfl
theorem s305_67 {c : Nat → List AV → SS → Option Out} {l0 l1 l2 l3 : Option AV} {L2 : List (Nat × AV)} {St : List AV} {S : SS} : ev c 305 67 [l0, l1, l2, l3] L2 St S = ev c 305 68 [l0, l1, l2, l3] L2 (aI 3 :: St) S := ev_go i305_67 rfl
theorem i305_68 : insAt 305 68 = some (.invokevirtual 75, 3, (234, 2, 2, 12), 0) := rfl
theorem s305_68 {c : Nat → List AV → SS → Option Out} {l0 l1 l2 l3 : Option AV} {a0 : Int32} {a1 : Int32} {j t : Nat} {L2 : List (Nat × AV)} {S : SS} : ev c 305 68 [l0, l1, l2, l3] L2 [aI a1, aI a0, aR (12, j, t)] S = ck (c 234 [aR (12, j, t), aI a0, aI a1] S) (fun v S' => ev c 305 71 [l0, l1, l2, l3] L2 (v.toList ++ []) S') := ev_call i305_68 rfl
theorem i305_71 : insAt 305 71 = some (.goto 4, 3, (0, 0, 0, 0), 0) := rfl
theorem s305_71 {c : Nat → List AV → SS → Option Out} {l0 l1 l2 l3 : Option AV} {L2 : List (Nat × AV)} {St : List AV} {S : SS} : ev c 305 71 [l0, l1, l2, l3] L2 St S = ev c 305 75 [l0, l1, l2, l3] L2 St S := ev_go i305_71 rfl
theorem i305_74 : insAt 305 74 = some (.iload_n 2, 1, (0, 0, 0, 0), 0) := rfl
theorem s305_74 {c : Nat → List AV → SS → Option Out} {l0 l1 l3 : Option AV} {x : Int32} {L2 : List (Nat × AV)} {St : List AV} {S : SS} : ev c 305 74 [l0, l1, some (aI x), l3] L2 St S = ev c 305 75 [l0, l1, some (aI x), l3] L2 (aI x :: St) S := ev_go i305_74 rfl
theorem i305_75 : insAt 305 75 = some (.istore_n 2, 1, (0, 0, 0, 0), 0) := rfl
theorem s305_75 {c : Nat → List AV → SS → Option Out} {l0 l1 l2 l3 : Option AV} {x : Int32} {L2 : List (Nat × AV)} {St : List AV} {S : SS} : ev c 305 75 [l0, l1, l2, l3] L2 (aI x :: St) S = ev c 305 76 [l0, l1, some (aI x), l3] (kil L2 2) St S := ev_go i305_75 rfl
theorem i305_76 : insAt 305 76 = some (.iinc 3 1, 3, (0, 0, 0, 0), 0) := rfl
theorem s305_76 {c : Nat → List AV → SS → Option Out} {l0 l1 l2 : Option AV} {x : Int32} {L2 : List (Nat × AV)} {St : List AV} {S : SS} : ev c 305 76 [l0, l1, l2, some (aI x)] L2 St S = ev c 305 79 [l0, l1, l2, some (aI (x + 1))] (kil L2 3) St S := ev_go i305_76 rfl
theorem i305_79 : insAt 305 79 = some (.goto (-67), 3, (0, 0, 0, 0), 0) := rfl
theorem s305_79 {c : Nat → List AV → SS → Option Out} {l0 l1 l2 l3 : Option AV} {L2 : List (Nat × AV)} {St : List AV} {S : SS} : ev c 305 79 [l0, l1, l2, l3] L2 St S = ev c 305 12 [l0, l1, l2, l3] L2 St S := ev_go i305_79 rfl
theorem i305_82 : insAt 305 82 = some (.iload_n 2, 1, (0, 0, 0, 0), 0) := rfl
theorem s305_82 {c : Nat → List AV → SS → Option Out} {l0 l1 l3 : Option AV} {x : Int32} {L2 : List (Nat × AV)} {St : List AV} {S : SS} : ev c 305 82 [l0, l1, some (aI x), l3] L2 St S = ev c 305 83 [l0, l1, some (aI x), l3] L2 (aI x :: St) S := ev_go i305_82 rfl
theorem i305_83 : insAt 305 83 = some (.ifCond .ge 7, 3, (0, 0, 0, 0), 0) := rfl
theorem s305_83 {c : Nat → List AV → SS → Option Out} {l0 l1 l2 l3 : Option AV} {x : Int32} {L2 : List (Nat × AV)} {St : List AV} {S : SS} : ev c 305 83 [l0, l1, l2, l3] L2 (aI x :: St) S = if 0 ≤ x then ev c 305 90 [l0, l1, l2, l3] L2 St S else ev c 305 86 [l0, l1, l2, l3] L2 St S := ev_br i305_83 rfl
theorem i305_86 : insAt 305 86 = some (.iconst 0, 1, (0, 0, 0, 0), 0) := rfl
theorem s305_86 {c : Nat → List AV → SS → Option Out} {l0 l1 l2 l3 : Option AV} {L2 : List (Nat × AV)} {St : List AV} {S : SS} : ev c 305 86 [l0, l1, l2, l3] L2 St S = ev c 305 87 [l0, l1, l2, l3] L2 (aI 0 :: St) S := ev_go i305_86 rfl
theorem i305_87 : insAt 305 87 = some (.goto 8, 3, (0, 0, 0, 0), 0) := rfl
theorem s305_87 {c : Nat → List AV → SS → Option Out} {l0 l1 l2 l3 : Option AV} {L2 : List (Nat × AV)} {St : List AV} {S : SS} : ev c 305 87 [l0, l1, l2, l3] L2 St S = ev c 305 95 [l0, l1, l2, l3] L2 St S := ev_go i305_87 rfl
theorem i305_90 : insAt 305 90 = some (.iload_n 2, 1, (0, 0, 0, 0), 0) := rfl
theorem s305_90 {c : Nat → List AV → SS → Option Out} {l0 l1 l3 : Option AV} {x : Int32} {L2 : List (Nat × AV)} {St : List AV} {S : SS} : ev c 305 90 [l0, l1, some (aI x), l3] L2 St S = ev c 305 91 [l0, l1, some (aI x), l3] L2 (aI x :: St) S := ev_go i305_90 rfl
theorem i305_91 : insAt 305 91 = some (.iload_n 1, 1, (0, 0, 0, 0), 0) := rfl
theorem s305_91 {c : Nat → List AV → SS → Option Out} {l0 l2 l3 : Option AV} {x : Int32} {L2 : List (Nat × AV)} {St : List AV} {S : SS} : ev c 305 91 [l0, some (aI x), l2, l3] L2 St S = ev c 305 92 [l0, some (aI x), l2, l3] L2 (aI x :: St) S := ev_go i305_91 rfl
theorem i305_92 : insAt 305 92 = some (.isub, 1, (0, 0, 0, 0), 0) := rfl
theorem s305_92 {c : Nat → List AV → SS → Option Out} {l0 l1 l2 l3 : Option AV} {x y : Int32} {L2 : List (Nat × AV)} {St : List AV} {S : SS} : ev c 305 92 [l0, l1, l2, l3] L2 (aI y :: aI x :: St) S = ev c 305 93 [l0, l1, l2, l3] L2 (aI (x - y) :: St) S := ev_go i305_92 rfl
theorem i305_93 : insAt 305 93 = some (.iconst 1, 1, (0, 0, 0, 0), 0) := rfl
theorem s305_93 {c : Nat → List AV → SS → Option Out} {l0 l1 l2 l3 : Option AV} {L2 : List (Nat × AV)} {St : List AV} {S : SS} : ev c 305 93 [l0, l1, l2, l3] L2 St S = ev c 305 94 [l0, l1, l2, l3] L2 (aI 1 :: St) S := ev_go i305_93 rfl
theorem i305_94 : insAt 305 94 = some (.iadd, 1, (0, 0, 0, 0), 0) := rfl
theorem s305_94 {c : Nat → List AV → SS → Option Out} {l0 l1 l2 l3 : Option AV} {x y : Int32} {L2 : List (Nat × AV)} {St : List AV} {S : SS} : ev c 305 94 [l0, l1, l2, l3] L2 (aI y :: aI x :: St) S = ev c 305 95 [l0, l1, l2, l3] L2 (aI (x + y) :: St) S := ev_go i305_94 rfl
theorem i305_95 : insAt 305 95 = some (.ireturn, 1, (0, 0, 0, 0), 0) := rfl
theorem s305_95 {c : Nat → List AV → SS → Option Out} {l0 l1 l2 l3 : Option AV} {x : Int32} {L2 : List (Nat × AV)} {St : List AV} {S : SS} : ev c 305 95 [l0, l1, l2, l3] L2 [aI x] S = some (.inl (some (aI x)), S) := ev_end i305_95 rfl
theorem m305 {d : Nat} {o : OId} {S : SS} : evm (d + 1) 305 [aR o] S = ev (evm d) 305 0 [some (aR o), none, none, none] [] [] S := evm_s (n := 4) rfl (Nat.le_of_ble_eq_true rfl) rfl rfl
/-! FrequencyOfficeModel.writeStation(I)I -/
theorem i306_0 : insAt 306 0 = some (.aload_n 0, 1, (0, 0, 0, 0), 0) := rfl
theorem s306_0 {c : Nat → List AV → SS → Option Out} {l1 l2 : Option AV} {o : OId} {L2 : List (Nat × AV)} {St : List AV} {S : SS} : ev c 306 0 [some (aR o), l1, l2] L2 St S = ev c 306 1 [some (aR o), l1, l2] L2 (aR o :: St) S := ev_go i306_0 rfl
theorem i306_1 : insAt 306 1 = some (.iload_n 1, 1, (0, 0, 0, 0), 0) := rfl
theorem s306_1 {c : Nat → List AV → SS → Option Out} {l0 l2 : Option AV} {x : Int32} {L2 : List (Nat × AV)} {St : List AV} {S : SS} : ev c 306 1 [l0, some (aI x), l2] L2 St S = ev c 306 2 [l0, some (aI x), l2] L2 (aI x :: St) S := ev_go i306_1 rfl
theorem i306_2 : insAt 306 2 = some (.invokevirtual 173, 3, (256, 1, 2, 12), 0) := rfl
theorem s306_2 {c : Nat → List AV → SS → Option Out} {l0 l1 l2 : Option AV} {a0 : Int32} {j t : Nat} {L2 : List (Nat × AV)} {S : SS} : ev c 306 2 [l0, l1, l2] L2 [aI a0, aR (12, j, t)] S = ck (c 256 [aR (12, j, t), aI a0] S) (fun v S' => ev c 306 5 [l0, l1, l2] L2 (v.toList ++ []) S') := ev_call i306_2 rfl
theorem i306_5 : insAt 306 5 = some (.istore_n 2, 1, (0, 0, 0, 0), 0) := rfl
theorem s306_5 {c : Nat → List AV → SS → Option Out} {l0 l1 l2 : Option AV} {x : Int32} {L2 : List (Nat × AV)} {St : List AV} {S : SS} : ev c 306 5 [l0, l1, l2] L2 (aI x :: St) S = ev c 306 6 [l0, l1, some (aI x)] (kil L2 2) St S := ev_go i306_5 rfl
theorem i306_6 : insAt 306 6 = some (.aload_n 0, 1, (0, 0, 0, 0), 0) := rfl
theorem s306_6 {c : Nat → List AV → SS → Option Out} {l1 l2 : Option AV} {o : OId} {L2 : List (Nat × AV)} {St : List AV} {S : SS} : ev c 306 6 [some (aR o), l1, l2] L2 St S = ev c 306 7 [some (aR o), l1, l2] L2 (aR o :: St) S := ev_go i306_6 rfl
theorem i306_7 : insAt 306 7 = some (.iload_n 2, 1, (0, 0, 0, 0), 0) := rfl
theorem s306_7 {c : Nat → List AV → SS → Option Out} {l0 l1 : Option AV} {x : Int32} {L2 : List (Nat × AV)} {St : List AV} {S : SS} : ev c 306 7 [l0, l1, some (aI x)] L2 St S = ev c 306 8 [l0, l1, some (aI x)] L2 (aI x :: St) S := ev_go i306_7 rfl
theorem i306_8 : insAt 306 8 = some (.ifCond .lt 7, 3, (0, 0, 0, 0), 0) := rfl
theorem s306_8 {c : Nat → List AV → SS → Option Out} {l0 l1 l2 : Option AV} {x : Int32} {L2 : List (Nat × AV)} {St : List AV} {S : SS} : ev c 306 8 [l0, l1, l2] L2 (aI x :: St) S = if x < 0 then ev c 306 15 [l0, l1, l2] L2 St S else ev c 306 11 [l0, l1, l2] L2 St S := ev_br i306_8 rfl
theorem i306_11 : insAt 306 11 = some (.iconst 1, 1, (0, 0, 0, 0), 0) := rfl
theorem s306_11 {c : Nat → List AV → SS → Option Out} {l0 l1 l2 : Option AV} {L2 : List (Nat × AV)} {St : List AV} {S : SS} : ev c 306 11 [l0, l1, l2] L2 St S = ev c 306 12 [l0, l1, l2] L2 (aI 1 :: St) S := ev_go i306_11 rfl
theorem i306_12 : insAt 306 12 = some (.goto 4, 3, (0, 0, 0, 0), 0) := rfl
theorem s306_12 {c : Nat → List AV → SS → Option Out} {l0 l1 l2 : Option AV} {L2 : List (Nat × AV)} {St : List AV} {S : SS} : ev c 306 12 [l0, l1, l2] L2 St S = ev c 306 16 [l0, l1, l2] L2 St S := ev_go i306_12 rfl
theorem i306_15 : insAt 306 15 = some (.iconst 0, 1, (0, 0, 0, 0), 0) := rfl
theorem s306_15 {c : Nat → List AV → SS → Option Out} {l0 l1 l2 : Option AV} {L2 : List (Nat × AV)} {St : List AV} {S : SS} : ev c 306 15 [l0, l1, l2] L2 St S = ev c 306 16 [l0, l1, l2] L2 (aI 0 :: St) S := ev_go i306_15 rfl
theorem i306_16 : insAt 306 16 = some (.invokevirtual 176, 3, (259, 1, 2, 12), 0) := rfl
theorem s306_16 {c : Nat → List AV → SS → Option Out} {l0 l1 l2 : Option AV} {a0 : Int32} {j t : Nat} {L2 : List (Nat × AV)} {S : SS} : ev c 306 16 [l0, l1, l2] L2 [aI a0, aR (12, j, t)] S = ck (c 259 [aR (12, j, t), aI a0] S) (fun v S' => ev c 306 19 [l0, l1, l2] L2 (v.toList ++ []) S') := ev_call i306_16 rfl
theorem i306_19 : insAt 306 19 = some (.ifCond .le 5, 3, (0, 0, 0, 0), 0) := rfl
theorem s306_19 {c : Nat → List AV → SS → Option Out} {l0 l1 l2 : Option AV} {x : Int32} {L2 : List (Nat × AV)} {St : List AV} {S : SS} : ev c 306 19 [l0, l1, l2] L2 (aI x :: St) S = if x ≤ 0 then ev c 306 24 [l0, l1, l2] L2 St S else ev c 306 22 [l0, l1, l2] L2 St S := ev_br i306_19 rfl
theorem i306_22 : insAt 306 22 = some (.iconst 0, 1, (0, 0, 0, 0), 0) := rfl
theorem s306_22 {c : Nat → List AV → SS → Option Out} {l0 l1 l2 : Option AV} {L2 : List (Nat × AV)} {St : List AV} {S : SS} : ev c 306 22 [l0, l1, l2] L2 St S = ev c 306 23 [l0, l1, l2] L2 (aI 0 :: St) S := ev_go i306_22 rfl
theorem i306_23 : insAt 306 23 = some (.ireturn, 1, (0, 0, 0, 0), 0) := rfl
theorem s306_23 {c : Nat → List AV → SS → Option Out} {l0 l1 l2 : Option AV} {x : Int32} {L2 : List (Nat × AV)} {St : List AV} {S : SS} : ev c 306 23 [l0, l1, l2] L2 [aI x] S = some (.inl (some (aI x)), S) := ev_end i306_23 rfl
theorem i306_24 : insAt 306 24 = some (.aload_n 0, 1, (0, 0, 0, 0), 0) := rfl
theorem s306_24 {c : Nat → List AV → SS → Option Out} {l1 l2 : Option AV} {o : OId} {L2 : List (Nat × AV)} {St : List AV} {S : SS} : ev c 306 24 [some (aR o), l1, l2] L2 St S = ev c 306 25 [some (aR o), l1, l2] L2 (aR o :: St) S := ev_go i306_24 rfl
theorem i306_25 : insAt 306 25 = some (.new 60, 3, (1, 0, 0, 0), 0) := rfl
theorem i306_28 : insAt 306 28 = some (.dup, 1, (0, 0, 0, 0), 0) := rfl
theorem s306_28 {c : Nat → List AV → SS → Option Out} {l0 l1 l2 : Option AV} {x : OId} {L2 : List (Nat × AV)} {St : List AV} {S : SS} : ev c 306 28 [l0, l1, l2] L2 (aR x :: St) S = ev c 306 29 [l0, l1, l2] L2 (aR x :: aR x :: St) S := ev_go i306_28 rfl
theorem i306_29 : insAt 306 29 = some (.invokespecial 62, 3, (8, 0, 5, 1), 0) := rfl
theorem s306_29 {c : Nat → List AV → SS → Option Out} {l0 l1 l2 : Option AV} {t0 t1 : AV} {j t : Nat} {L2 : List (Nat × AV)} {S : SS} : ev c 306 29 [l0, l1, l2] L2 [aR (1, j, t), t0, t1] S = ck (c 8 [aR (1, j, t)] S) (fun v S' => ev c 306 32 [l0, l1, l2] L2 (v.toList ++ [t0, t1]) S') := ev_call i306_29 rfl
theorem i306_32 : insAt 306 32 = some (.iload_n 1, 1, (0, 0, 0, 0), 0) := rfl
theorem s306_32 {c : Nat → List AV → SS → Option Out} {l0 l2 : Option AV} {x : Int32} {L2 : List (Nat × AV)} {St : List AV} {S : SS} : ev c 306 32 [l0, some (aI x), l2] L2 St S = ev c 306 33 [l0, some (aI x), l2] L2 (aI x :: St) S := ev_go i306_32 rfl
theorem i306_33 : insAt 306 33 = some (.invokevirtual 217, 3, (189, 1, 2, 1), 0) := rfl
theorem s306_33 {c : Nat → List AV → SS → Option Out} {l0 l1 l2 : Option AV} {t0 : AV} {a0 : Int32} {j t : Nat} {L2 : List (Nat × AV)} {S : SS} : ev c 306 33 [l0, l1, l2] L2 [aI a0, aR (1, j, t), t0] S = ck (c 189 [aR (1, j, t), aI a0] S) (fun v S' => ev c 306 36 [l0, l1, l2] L2 (v.toList ++ [t0]) S') := ev_call i306_33 rfl
theorem i306_36 : insAt 306 36 = some (.bipush 64, 2, (0, 0, 0, 0), 0) := rfl
theorem s306_36 {c : Nat → List AV → SS → Option Out} {l0 l1 l2 : Option AV} {L2 : List (Nat × AV)} {St : List AV} {S : SS} : ev c 306 36 [l0, l1, l2] L2 St S = ev c 306 38 [l0, l1, l2] L2 (aI 64 :: St) S := ev_go i306_36 rfl
theorem i306_38 : insAt 306 38 = some (.invokevirtual 221, 3, (202, 1, 2, 1), 0) := rfl
theorem s306_38 {c : Nat → List AV → SS → Option Out} {l0 l1 l2 : Option AV} {t0 : AV} {a0 : Int32} {j t : Nat} {L2 : List (Nat × AV)} {S : SS} : ev c 306 38 [l0, l1, l2] L2 [aI a0, aR (1, j, t), t0] S = ck (c 202 [aR (1, j, t), aI a0] S) (fun v S' => ev c 306 41 [l0, l1, l2] L2 (v.toList ++ [t0]) S') := ev_call i306_38 rfl
theorem i306_41 : insAt 306 41 = some (.aload_n 0, 1, (0, 0, 0, 0), 0) := rfl
theorem s306_41 {c : Nat → List AV → SS → Option Out} {l1 l2 : Option AV} {o : OId} {L2 : List (Nat × AV)} {St : List AV} {S : SS} : ev c 306 41 [some (aR o), l1, l2] L2 St S = ev c 306 42 [some (aR o), l1, l2] L2 (aR o :: St) S := ev_go i306_41 rfl
theorem i306_42 : insAt 306 42 = some (.iload_n 2, 1, (0, 0, 0, 0), 0) := rfl
theorem s306_42 {c : Nat → List AV → SS → Option Out} {l0 l1 : Option AV} {x : Int32} {L2 : List (Nat × AV)} {St : List AV} {S : SS} : ev c 306 42 [l0, l1, some (aI x)] L2 St S = ev c 306 43 [l0, l1, some (aI x)] L2 (aI x :: St) S := ev_go i306_42 rfl
theorem i306_43 : insAt 306 43 = some (.iconst 1, 1, (0, 0, 0, 0), 0) := rfl
theorem s306_43 {c : Nat → List AV → SS → Option Out} {l0 l1 l2 : Option AV} {L2 : List (Nat × AV)} {St : List AV} {S : SS} : ev c 306 43 [l0, l1, l2] L2 St S = ev c 306 44 [l0, l1, l2] L2 (aI 1 :: St) S := ev_go i306_43 rfl
theorem i306_44 : insAt 306 44 = some (.invokevirtual 75, 3, (234, 2, 2, 12), 0) := rfl
theorem s306_44 {c : Nat → List AV → SS → Option Out} {l0 l1 l2 : Option AV} {t0 t1 : AV} {a0 : Int32} {a1 : Int32} {j t : Nat} {L2 : List (Nat × AV)} {S : SS} : ev c 306 44 [l0, l1, l2] L2 [aI a1, aI a0, aR (12, j, t), t0, t1] S = ck (c 234 [aR (12, j, t), aI a0, aI a1] S) (fun v S' => ev c 306 47 [l0, l1, l2] L2 (v.toList ++ [t0, t1]) S') := ev_call i306_44 rfl
theorem i306_47 : insAt 306 47 = some (.invokevirtual 217, 3, (189, 1, 2, 1), 0) := rfl
theorem s306_47 {c : Nat → List AV → SS → Option Out} {l0 l1 l2 : Option AV} {t0 : AV} {a0 : Int32} {j t : Nat} {L2 : List (Nat × AV)} {S : SS} : ev c 306 47 [l0, l1, l2] L2 [aI a0, aR (1, j, t), t0] S = ck (c 189 [aR (1, j, t), aI a0] S) (fun v S' => ev c 306 50 [l0, l1, l2] L2 (v.toList ++ [t0]) S') := ev_call i306_47 rfl
theorem i306_50 : insAt 306 50 = some (.bipush 44, 2, (0, 0, 0, 0), 0) := rfl
theorem s306_50 {c : Nat → List AV → SS → Option Out} {l0 l1 l2 : Option AV} {L2 : List (Nat × AV)} {St : List AV} {S : SS} : ev c 306 50 [l0, l1, l2] L2 St S = ev c 306 52 [l0, l1, l2] L2 (aI 44 :: St) S := ev_go i306_50 rfl
theorem i306_52 : insAt 306 52 = some (.invokevirtual 221, 3, (202, 1, 2, 1), 0) := rfl
theorem s306_52 {c : Nat → List AV → SS → Option Out} {l0 l1 l2 : Option AV} {t0 : AV} {a0 : Int32} {j t : Nat} {L2 : List (Nat × AV)} {S : SS} : ev c 306 52 [l0, l1, l2] L2 [aI a0, aR (1, j, t), t0] S = ck (c 202 [aR (1, j, t), aI a0] S) (fun v S' => ev c 306 55 [l0, l1, l2] L2 (v.toList ++ [t0]) S') := ev_call i306_52 rfl
theorem i306_55 : insAt 306 55 = some (.aload_n 0, 1, (0, 0, 0, 0), 0) := rfl
theorem s306_55 {c : Nat → List AV → SS → Option Out} {l1 l2 : Option AV} {o : OId} {L2 : List (Nat × AV)} {St : List AV} {S : SS} : ev c 306 55 [some (aR o), l1, l2] L2 St S = ev c 306 56 [some (aR o), l1, l2] L2 (aR o :: St) S := ev_go i306_55 rfl
theorem i306_56 : insAt 306 56 = some (.iload_n 2, 1, (0, 0, 0, 0), 0) := rfl
theorem s306_56 {c : Nat → List AV → SS → Option Out} {l0 l1 : Option AV} {x : Int32} {L2 : List (Nat × AV)} {St : List AV} {S : SS} : ev c 306 56 [l0, l1, some (aI x)] L2 St S = ev c 306 57 [l0, l1, some (aI x)] L2 (aI x :: St) S := ev_go i306_56 rfl
theorem i306_57 : insAt 306 57 = some (.iconst 2, 1, (0, 0, 0, 0), 0) := rfl
theorem s306_57 {c : Nat → List AV → SS → Option Out} {l0 l1 l2 : Option AV} {L2 : List (Nat × AV)} {St : List AV} {S : SS} : ev c 306 57 [l0, l1, l2] L2 St S = ev c 306 58 [l0, l1, l2] L2 (aI 2 :: St) S := ev_go i306_57 rfl
theorem i306_58 : insAt 306 58 = some (.invokevirtual 75, 3, (234, 2, 2, 12), 0) := rfl
theorem s306_58 {c : Nat → List AV → SS → Option Out} {l0 l1 l2 : Option AV} {t0 t1 : AV} {a0 : Int32} {a1 : Int32} {j t : Nat} {L2 : List (Nat × AV)} {S : SS} : ev c 306 58 [l0, l1, l2] L2 [aI a1, aI a0, aR (12, j, t), t0, t1] S = ck (c 234 [aR (12, j, t), aI a0, aI a1] S) (fun v S' => ev c 306 61 [l0, l1, l2] L2 (v.toList ++ [t0, t1]) S') := ev_call i306_58 rfl
theorem i306_61 : insAt 306 61 = some (.invokevirtual 217, 3, (189, 1, 2, 1), 0) := rfl
theorem s306_61 {c : Nat → List AV → SS → Option Out} {l0 l1 l2 : Option AV} {t0 : AV} {a0 : Int32} {j t : Nat} {L2 : List (Nat × AV)} {S : SS} : ev c 306 61 [l0, l1, l2] L2 [aI a0, aR (1, j, t), t0] S = ck (c 189 [aR (1, j, t), aI a0] S) (fun v S' => ev c 306 64 [l0, l1, l2] L2 (v.toList ++ [t0]) S') := ev_call i306_61 rfl
theorem i306_64 : insAt 306 64 = some (.bipush 32, 2, (0, 0, 0, 0), 0) := rfl
theorem s306_64 {c : Nat → List AV → SS → Option Out} {l0 l1 l2 : Option AV} {L2 : List (Nat × AV)} {St : List AV} {S : SS} : ev c 306 64 [l0, l1, l2] L2 St S = ev c 306 66 [l0, l1, l2] L2 (aI 32 :: St) S := ev_go i306_64 rfl
theorem i306_66 : insAt 306 66 = some (.invokevirtual 221, 3, (202, 1, 2, 1), 0) := rfl
theorem s306_66 {c : Nat → List AV → SS → Option Out} {l0 l1 l2 : Option AV} {t0 : AV} {a0 : Int32} {j t : Nat} {L2 : List (Nat × AV)} {S : SS} : ev c 306 66 [l0, l1, l2] L2 [aI a0, aR (1, j, t), t0] S = ck (c 202 [aR (1, j, t), aI a0] S) (fun v S' => ev c 306 69 [l0, l1, l2] L2 (v.toList ++ [t0]) S') := ev_call i306_66 rfl
theorem i306_69 : insAt 306 69 = some (.bipush 99, 2, (0, 0, 0, 0), 0) := rfl
theorem s306_69 {c : Nat → List AV → SS → Option Out} {l0 l1 l2 : Option AV} {L2 : List (Nat × AV)} {St : List AV} {S : SS} : ev c 306 69 [l0, l1, l2] L2 St S = ev c 306 71 [l0, l1, l2] L2 (aI 99 :: St) S := ev_go i306_69 rfl
theorem i306_71 : insAt 306 71 = some (.invokevirtual 221, 3, (202, 1, 2, 1), 0) := rfl
theorem s306_71 {c : Nat → List AV → SS → Option Out} {l0 l1 l2 : Option AV} {t0 : AV} {a0 : Int32} {j t : Nat} {L2 : List (Nat × AV)} {S : SS} : ev c 306 71 [l0, l1, l2] L2 [aI a0, aR (1, j, t), t0] S = ck (c 202 [aR (1, j, t), aI a0] S) (fun v S' => ev c 306 74 [l0, l1, l2] L2 (v.toList ++ [t0]) S') := ev_call i306_71 rfl
theorem i306_74 : insAt 306 74 = some (.aload_n 0, 1, (0, 0, 0, 0), 0) := rfl
theorem s306_74 {c : Nat → List AV → SS → Option Out} {l1 l2 : Option AV} {o : OId} {L2 : List (Nat × AV)} {St : List AV} {S : SS} : ev c 306 74 [some (aR o), l1, l2] L2 St S = ev c 306 75 [some (aR o), l1, l2] L2 (aR o :: St) S := ev_go i306_74 rfl
theorem i306_75 : insAt 306 75 = some (.iload_n 2, 1, (0, 0, 0, 0), 0) := rfl
theorem s306_75 {c : Nat → List AV → SS → Option Out} {l0 l1 : Option AV} {x : Int32} {L2 : List (Nat × AV)} {St : List AV} {S : SS} : ev c 306 75 [l0, l1, some (aI x)] L2 St S = ev c 306 76 [l0, l1, some (aI x)] L2 (aI x :: St) S := ev_go i306_75 rfl
theorem i306_76 : insAt 306 76 = some (.iconst 3, 1, (0, 0, 0, 0), 0) := rfl
theorem s306_76 {c : Nat → List AV → SS → Option Out} {l0 l1 l2 : Option AV} {L2 : List (Nat × AV)} {St : List AV} {S : SS} : ev c 306 76 [l0, l1, l2] L2 St S = ev c 306 77 [l0, l1, l2] L2 (aI 3 :: St) S := ev_go i306_76 rfl
theorem i306_77 : insAt 306 77 = some (.invokevirtual 75, 3, (234, 2, 2, 12), 0) := rfl
theorem s306_77 {c : Nat → List AV → SS → Option Out} {l0 l1 l2 : Option AV} {t0 t1 : AV} {a0 : Int32} {a1 : Int32} {j t : Nat} {L2 : List (Nat × AV)} {S : SS} : ev c 306 77 [l0, l1, l2] L2 [aI a1, aI a0, aR (12, j, t), t0, t1] S = ck (c 234 [aR (12, j, t), aI a0, aI a1] S) (fun v S' => ev c 306 80 [l0, l1, l2] L2 (v.toList ++ [t0, t1]) S') := ev_call i306_77 rfl
theorem i306_80 : insAt 306 80 = some (.invokevirtual 217, 3, (189, 1, 2, 1), 0) := rfl
theorem s306_80 {c : Nat → List AV → SS → Option Out} {l0 l1 l2 : Option AV} {t0 : AV} {a0 : Int32} {j t : Nat} {L2 : List (Nat × AV)} {S : SS} : ev c 306 80 [l0, l1, l2] L2 [aI a0, aR (1, j, t), t0] S = ck (c 189 [aR (1, j, t), aI a0] S) (fun v S' => ev c 306 83 [l0, l1, l2] L2 (v.toList ++ [t0]) S') := ev_call i306_80 rfl
theorem i306_83 : insAt 306 83 = some (.bipush 32, 2, (0, 0, 0, 0), 0) := rfl
theorem s306_83 {c : Nat → List AV → SS → Option Out} {l0 l1 l2 : Option AV} {L2 : List (Nat × AV)} {St : List AV} {S : SS} : ev c 306 83 [l0, l1, l2] L2 St S = ev c 306 85 [l0, l1, l2] L2 (aI 32 :: St) S := ev_go i306_83 rfl
theorem i306_85 : insAt 306 85 = some (.invokevirtual 221, 3, (202, 1, 2, 1), 0) := rfl
theorem s306_85 {c : Nat → List AV → SS → Option Out} {l0 l1 l2 : Option AV} {t0 : AV} {a0 : Int32} {j t : Nat} {L2 : List (Nat × AV)} {S : SS} : ev c 306 85 [l0, l1, l2] L2 [aI a0, aR (1, j, t), t0] S = ck (c 202 [aR (1, j, t), aI a0] S) (fun v S' => ev c 306 88 [l0, l1, l2] L2 (v.toList ++ [t0]) S') := ev_call i306_85 rfl
theorem i306_88 : insAt 306 88 = some (.aload_n 0, 1, (0, 0, 0, 0), 0) := rfl
theorem s306_88 {c : Nat → List AV → SS → Option Out} {l1 l2 : Option AV} {o : OId} {L2 : List (Nat × AV)} {St : List AV} {S : SS} : ev c 306 88 [some (aR o), l1, l2] L2 St S = ev c 306 89 [some (aR o), l1, l2] L2 (aR o :: St) S := ev_go i306_88 rfl
theorem i306_89 : insAt 306 89 = some (.iload_n 2, 1, (0, 0, 0, 0), 0) := rfl
theorem s306_89 {c : Nat → List AV → SS → Option Out} {l0 l1 : Option AV} {x : Int32} {L2 : List (Nat × AV)} {St : List AV} {S : SS} : ev c 306 89 [l0, l1, some (aI x)] L2 St S = ev c 306 90 [l0, l1, some (aI x)] L2 (aI x :: St) S := ev_go i306_89 rfl
theorem i306_90 : insAt 306 90 = some (.invokevirtual 115, 3, (233, 1, 2, 12), 0) := rfl
theorem s306_90 {c : Nat → List AV → SS → Option Out} {l0 l1 l2 : Option AV} {t0 t1 : AV} {a0 : Int32} {j t : Nat} {L2 : List (Nat × AV)} {S : SS} : ev c 306 90 [l0, l1, l2] L2 [aI a0, aR (12, j, t), t0, t1] S = ck (c 233 [aR (12, j, t), aI a0] S) (fun v S' => ev c 306 93 [l0, l1, l2] L2 (v.toList ++ [t0, t1]) S') := ev_call i306_90 rfl
theorem i306_93 : insAt 306 93 = some (.ifCond .eq 8, 3, (0, 0, 0, 0), 0) := rfl
theorem s306_93 {c : Nat → List AV → SS → Option Out} {l0 l1 l2 : Option AV} {x : Int32} {L2 : List (Nat × AV)} {St : List AV} {S : SS} : ev c 306 93 [l0, l1, l2] L2 (aI x :: St) S = if x = 0 then ev c 306 101 [l0, l1, l2] L2 St S else ev c 306 96 [l0, l1, l2] L2 St S := ev_br i306_93 rfl
theorem i306_96 : insAt 306 96 = some (.bipush 76, 2, (0, 0, 0, 0), 0) := rfl
theorem s306_96 {c : Nat → List AV → SS → Option Out} {l0 l1 l2 : Option AV} {L2 : List (Nat × AV)} {St : List AV} {S : SS} : ev c 306 96 [l0, l1, l2] L2 St S = ev c 306 98 [l0, l1, l2] L2 (aI 76 :: St) S := ev_go i306_96 rfl
theorem i306_98 : insAt 306 98 = some (.goto 5, 3, (0, 0, 0, 0), 0) := rfl
theorem s306_98 {c : Nat → List AV → SS → Option Out} {l0 l1 l2 : Option AV} {L2 : List (Nat × AV)} {St : List AV} {S : SS} : ev c 306 98 [l0, l1, l2] L2 St S = ev c 306 103 [l0, l1, l2] L2 St S := ev_go i306_98 rfl
theorem i306_101 : insAt 306 101 = some (.bipush 84, 2, (0, 0, 0, 0), 0) := rfl
theorem s306_101 {c : Nat → List AV → SS → Option Out} {l0 l1 l2 : Option AV} {L2 : List (Nat × AV)} {St : List AV} {S : SS} : ev c 306 101 [l0, l1, l2] L2 St S = ev c 306 103 [l0, l1, l2] L2 (aI 84 :: St) S := ev_go i306_101 rfl
theorem i306_103 : insAt 306 103 = some (.invokevirtual 221, 3, (202, 1, 2, 1), 0) := rfl
theorem s306_103 {c : Nat → List AV → SS → Option Out} {l0 l1 l2 : Option AV} {t0 : AV} {a0 : Int32} {j t : Nat} {L2 : List (Nat × AV)} {S : SS} : ev c 306 103 [l0, l1, l2] L2 [aI a0, aR (1, j, t), t0] S = ck (c 202 [aR (1, j, t), aI a0] S) (fun v S' => ev c 306 106 [l0, l1, l2] L2 (v.toList ++ [t0]) S') := ev_call i306_103 rfl
theorem i306_106 : insAt 306 106 = some (.aload_n 0, 1, (0, 0, 0, 0), 0) := rfl
theorem s306_106 {c : Nat → List AV → SS → Option Out} {l1 l2 : Option AV} {o : OId} {L2 : List (Nat × AV)} {St : List AV} {S : SS} : ev c 306 106 [some (aR o), l1, l2] L2 St S = ev c 306 107 [some (aR o), l1, l2] L2 (aR o :: St) S := ev_go i306_106 rfl
theorem i306_107 : insAt 306 107 = some (.iload_n 2, 1, (0, 0, 0, 0), 0) := rfl
theorem s306_107 {c : Nat → List AV → SS → Option Out} {l0 l1 : Option AV} {x : Int32} {L2 : List (Nat × AV)} {St : List AV} {S : SS} : ev c 306 107 [l0, l1, some (aI x)] L2 St S = ev c 306 108 [l0, l1, some (aI x)] L2 (aI x :: St) S := ev_go i306_107 rfl
theorem i306_108 : insAt 306 108 = some (.iconst 4, 1, (0, 0, 0, 0), 0) := rfl
theorem s306_108 {c : Nat → List AV → SS → Option Out} {l0 l1 l2 : Option AV} {L2 : List (Nat × AV)} {St : List AV} {S : SS} : ev c 306 108 [l0, l1, l2] L2 St S = ev c 306 109 [l0, l1, l2] L2 (aI 4 :: St) S := ev_go i306_108 rfl
theorem i306_109 : insAt 306 109 = some (.invokevirtual 75, 3, (234, 2, 2, 12), 0) := rfl
theorem s306_109 {c : Nat → List AV → SS → Option Out} {l0 l1 l2 : Option AV} {t0 t1 : AV} {a0 : Int32} {a1 : Int32} {j t : Nat} {L2 : List (Nat × AV)} {S : SS} : ev c 306 109 [l0, l1, l2] L2 [aI a1, aI a0, aR (12, j, t), t0, t1] S = ck (c 234 [aR (12, j, t), aI a0, aI a1] S) (fun v S' => ev c 306 112 [l0, l1, l2] L2 (v.toList ++ [t0, t1]) S') := ev_call i306_109 rfl
theorem i306_112 : insAt 306 112 = some (.invokevirtual 217, 3, (189, 1, 2, 1), 0) := rfl
theorem s306_112 {c : Nat → List AV → SS → Option Out} {l0 l1 l2 : Option AV} {t0 : AV} {a0 : Int32} {j t : Nat} {L2 : List (Nat × AV)} {S : SS} : ev c 306 112 [l0, l1, l2] L2 [aI a0, aR (1, j, t), t0] S = ck (c 189 [aR (1, j, t), aI a0] S) (fun v S' => ev c 306 115 [l0, l1, l2] L2 (v.toList ++ [t0]) S') := ev_call i306_112 rfl
theorem i306_115 : insAt 306 115 = some (.invokevirtual 63, 3, (193, 0, 2, 1), 0) := rfl
theorem s306_115 {c : Nat → List AV → SS → Option Out} {l0 l1 l2 : Option AV} {t0 : AV} {j t : Nat} {L2 : List (Nat × AV)} {S : SS} : ev c 306 115 [l0, l1, l2] L2 [aR (1, j, t), t0] S = ck (c 193 [aR (1, j, t)] S) (fun v S' => ev c 306 118 [l0, l1, l2] L2 (v.toList ++ [t0]) S') := ev_call i306_115 rfl
theorem i306_118 : insAt 306 118 = some (.putfield 67, 3, (12, 16, 0, 0), 0) := rfl
theorem s306_118 {c : Nat → List AV → SS → Option Out} {l0 l1 l2 : Option AV} {j t : Nat} {p : OId} {L2 : List (Nat × AV)} {St : List AV} {S : SS} : ev c 306 118 [l0, l1, l2] L2 (aR p :: aR (12, j, t) :: St) S = ev c 306 121 [l0, l1, l2] L2 St (S.1, setV S.2.1 (12, j, t) 16 (aR p), S.2.2) := ev_go i306_118 rfl
theorem i306_121 : insAt 306 121 = some (.aload_n 0, 1, (0, 0, 0, 0), 0) := rfl
theorem s306_121 {c : Nat → List AV → SS → Option Out} {l1 l2 : Option AV} {o : OId} {L2 : List (Nat × AV)} {St : List AV} {S : SS} : ev c 306 121 [some (aR o), l1, l2] L2 St S = ev c 306 122 [some (aR o), l1, l2] L2 (aR o :: St) S := ev_go i306_121 rfl
theorem i306_122 : insAt 306 122 = some (.getfield 67, 3, (12, 16, 0, 0), 0) := rfl
theorem s306_122 {c : Nat → List AV → SS → Option Out} {l0 l1 l2 : Option AV} {j t : Nat} {L2 : List (Nat × AV)} {St : List AV} {S : SS} : ev c 306 122 [l0, l1, l2] L2 (aR (12, j, t) :: St) S = ev c 306 125 [l0, l1, l2] L2 (S.2.1 (12, j, t) 16 :: St) S := ev_go i306_122 rfl
theorem i306_125 : insAt 306 125 = some (.invokevirtual 224, 3, (184, 0, 2, 0), 0) := rfl
theorem s306_125 {c : Nat → List AV → SS → Option Out} {l0 l1 l2 : Option AV} {j t : Nat} {L2 : List (Nat × AV)} {S : SS} : ev c 306 125 [l0, l1, l2] L2 [aR (0, j, t)] S = ck (c 184 [aR (0, j, t)] S) (fun v S' => ev c 306 128 [l0, l1, l2] L2 (v.toList ++ []) S') := ev_call i306_125 rfl
theorem i306_128 : insAt 306 128 = some (.ireturn, 1, (0, 0, 0, 0), 0) := rfl
theorem s306_128 {c : Nat → List AV → SS → Option Out} {l0 l1 l2 : Option AV} {x : Int32} {L2 : List (Nat × AV)} {St : List AV} {S : SS} : ev c 306 128 [l0, l1, l2] L2 [aI x] S = some (.inl (some (aI x)), S) := ev_end i306_128 rfl
theorem m306 {d : Nat} {o : OId} {a0 : Int32} {S : SS} : evm (d + 1) 306 [aR o, aI a0] S = ev (evm d) 306 0 [some (aR o), some (aI a0), none] [] [] S := evm_s (n := 3) rfl (Nat.le_of_ble_eq_true rfl) rfl rfl
/-! FrequencyOfficeModel.lineAt(I)C -/
theorem i307_0 : insAt 307 0 = some (.aload_n 0, 1, (0, 0, 0, 0), 0) := rfl
theorem s307_0 {c : Nat → List AV → SS → Option Out} {l1 : Option AV} {o : OId} {L2 : List (Nat × AV)} {St : List AV} {S : SS} : ev c 307 0 [some (aR o), l1] L2 St S = ev c 307 1 [some (aR o), l1] L2 (aR o :: St) S := ev_go i307_0 rfl
theorem i307_1 : insAt 307 1 = some (.iload_n 1, 1, (0, 0, 0, 0), 0) := rfl
theorem s307_1 {c : Nat → List AV → SS → Option Out} {l0 : Option AV} {x : Int32} {L2 : List (Nat × AV)} {St : List AV} {S : SS} : ev c 307 1 [l0, some (aI x)] L2 St S = ev c 307 2 [l0, some (aI x)] L2 (aI x :: St) S := ev_go i307_1 rfl
theorem i307_2 : insAt 307 2 = some (.iconst 0, 1, (0, 0, 0, 0), 0) := rfl
theorem s307_2 {c : Nat → List AV → SS → Option Out} {l0 l1 : Option AV} {L2 : List (Nat × AV)} {St : List AV} {S : SS} : ev c 307 2 [l0, l1] L2 St S = ev c 307 3 [l0, l1] L2 (aI 0 :: St) S := ev_go i307_2 rfl
theorem i307_3 : insAt 307 3 = some (.aload_n 0, 1, (0, 0, 0, 0), 0) := rfl
theorem s307_3 {c : Nat → List AV → SS → Option Out} {l1 : Option AV} {o : OId} {L2 : List (Nat × AV)} {St : List AV} {S : SS} : ev c 307 3 [some (aR o), l1] L2 St S = ev c 307 4 [some (aR o), l1] L2 (aR o :: St) S := ev_go i307_3 rfl
theorem i307_4 : insAt 307 4 = some (.getfield 67, 3, (12, 16, 0, 0), 0) := rfl
theorem s307_4 {c : Nat → List AV → SS → Option Out} {l0 l1 : Option AV} {j t : Nat} {L2 : List (Nat × AV)} {St : List AV} {S : SS} : ev c 307 4 [l0, l1] L2 (aR (12, j, t) :: St) S = ev c 307 7 [l0, l1] L2 (S.2.1 (12, j, t) 16 :: St) S := ev_go i307_4 rfl
theorem i307_7 : insAt 307 7 = some (.invokevirtual 224, 3, (184, 0, 2, 0), 0) := rfl
theorem s307_7 {c : Nat → List AV → SS → Option Out} {l0 l1 : Option AV} {t0 t1 t2 : AV} {j t : Nat} {L2 : List (Nat × AV)} {S : SS} : ev c 307 7 [l0, l1] L2 [aR (0, j, t), t0, t1, t2] S = ck (c 184 [aR (0, j, t)] S) (fun v S' => ev c 307 10 [l0, l1] L2 (v.toList ++ [t0, t1, t2]) S') := ev_call i307_7 rfl
theorem i307_10 : insAt 307 10 = some (.iconst 1, 1, (0, 0, 0, 0), 0) := rfl
theorem s307_10 {c : Nat → List AV → SS → Option Out} {l0 l1 : Option AV} {L2 : List (Nat × AV)} {St : List AV} {S : SS} : ev c 307 10 [l0, l1] L2 St S = ev c 307 11 [l0, l1] L2 (aI 1 :: St) S := ev_go i307_10 rfl
theorem i307_11 : insAt 307 11 = some (.isub, 1, (0, 0, 0, 0), 0) := rfl
theorem s307_11 {c : Nat → List AV → SS → Option Out} {l0 l1 : Option AV} {x y : Int32} {L2 : List (Nat × AV)} {St : List AV} {S : SS} : ev c 307 11 [l0, l1] L2 (aI y :: aI x :: St) S = ev c 307 12 [l0, l1] L2 (aI (x - y) :: St) S := ev_go i307_11 rfl
theorem i307_12 : insAt 307 12 = some (.invokestatic 154, 3, (228, 3, 0, 0), 0) := rfl
theorem s307_12 {c : Nat → List AV → SS → Option Out} {l0 l1 : Option AV} {t0 : AV} {a0 : Int32} {a1 : Int32} {a2 : Int32} {L2 : List (Nat × AV)} {S : SS} : ev c 307 12 [l0, l1] L2 [aI a2, aI a1, aI a0, t0] S = ck (c 228 [aI a0, aI a1, aI a2] S) (fun v S' => ev c 307 15 [l0, l1] L2 (v.toList ++ [t0]) S') := ev_call i307_12 rfl
theorem i307_15 : insAt 307 15 = some (.invokevirtual 176, 3, (259, 1, 2, 12), 0) := rfl
theorem s307_15 {c : Nat → List AV → SS → Option Out} {l0 l1 : Option AV} {a0 : Int32} {j t : Nat} {L2 : List (Nat × AV)} {S : SS} : ev c 307 15 [l0, l1] L2 [aI a0, aR (12, j, t)] S = ck (c 259 [aR (12, j, t), aI a0] S) (fun v S' => ev c 307 18 [l0, l1] L2 (v.toList ++ []) S') := ev_call i307_15 rfl
theorem i307_18 : insAt 307 18 = some (.ifCond .le 8, 3, (0, 0, 0, 0), 0) := rfl
theorem s307_18 {c : Nat → List AV → SS → Option Out} {l0 l1 : Option AV} {x : Int32} {L2 : List (Nat × AV)} {St : List AV} {S : SS} : ev c 307 18 [l0, l1] L2 (aI x :: St) S = if x ≤ 0 then ev c 307 26 [l0, l1] L2 St S else ev c 307 21 [l0, l1] L2 St S := ev_br i307_18 rfl
theorem i307_21 : insAt 307 21 = some (.bipush 32, 2, (0, 0, 0, 0), 0) := rfl
theorem s307_21 {c : Nat → List AV → SS → Option Out} {l0 l1 : Option AV} {L2 : List (Nat × AV)} {St : List AV} {S : SS} : ev c 307 21 [l0, l1] L2 St S = ev c 307 23 [l0, l1] L2 (aI 32 :: St) S := ev_go i307_21 rfl
theorem i307_23 : insAt 307 23 = some (.goto 11, 3, (0, 0, 0, 0), 0) := rfl
theorem s307_23 {c : Nat → List AV → SS → Option Out} {l0 l1 : Option AV} {L2 : List (Nat × AV)} {St : List AV} {S : SS} : ev c 307 23 [l0, l1] L2 St S = ev c 307 34 [l0, l1] L2 St S := ev_go i307_23 rfl
theorem i307_26 : insAt 307 26 = some (.aload_n 0, 1, (0, 0, 0, 0), 0) := rfl
theorem s307_26 {c : Nat → List AV → SS → Option Out} {l1 : Option AV} {o : OId} {L2 : List (Nat × AV)} {St : List AV} {S : SS} : ev c 307 26 [some (aR o), l1] L2 St S = ev c 307 27 [some (aR o), l1] L2 (aR o :: St) S := ev_go i307_26 rfl
theorem i307_27 : insAt 307 27 = some (.getfield 67, 3, (12, 16, 0, 0), 0) := rfl
theorem s307_27 {c : Nat → List AV → SS → Option Out} {l0 l1 : Option AV} {j t : Nat} {L2 : List (Nat × AV)} {St : List AV} {S : SS} : ev c 307 27 [l0, l1] L2 (aR (12, j, t) :: St) S = ev c 307 30 [l0, l1] L2 (S.2.1 (12, j, t) 16 :: St) S := ev_go i307_27 rfl
theorem i307_30 : insAt 307 30 = some (.iload_n 1, 1, (0, 0, 0, 0), 0) := rfl
theorem s307_30 {c : Nat → List AV → SS → Option Out} {l0 : Option AV} {x : Int32} {L2 : List (Nat × AV)} {St : List AV} {S : SS} : ev c 307 30 [l0, some (aI x)] L2 St S = ev c 307 31 [l0, some (aI x)] L2 (aI x :: St) S := ev_go i307_30 rfl
theorem i307_31 : insAt 307 31 = some (.invokevirtual 229, 3, (308, 1, 2, 0), 0) := rfl
theorem s307_31 {c : Nat → List AV → SS → Option Out} {l0 l1 : Option AV} {a0 : Int32} {j t : Nat} {L2 : List (Nat × AV)} {S : SS} : ev c 307 31 [l0, l1] L2 [aI a0, aR (0, j, t)] S = ck (c 308 [aR (0, j, t), aI a0] S) (fun v S' => ev c 307 34 [l0, l1] L2 (v.toList ++ []) S') := ev_call i307_31 rfl
theorem i307_34 : insAt 307 34 = some (.ireturn, 1, (0, 0, 0, 0), 0) := rfl
theorem s307_34 {c : Nat → List AV → SS → Option Out} {l0 l1 : Option AV} {x : Int32} {L2 : List (Nat × AV)} {St : List AV} {S : SS} : ev c 307 34 [l0, l1] L2 [aI x] S = if (x.toUInt32 % 65536).toInt32 = x then some (.inl (some (aI x)), S) else none := ev_rt i307_34 rfl
theorem m307 {d : Nat} {o : OId} {a0 : Int32} {S : SS} : evm (d + 1) 307 [aR o, aI a0] S = ev (evm d) 307 0 [some (aR o), some (aI a0)] [] [] S := evm_s (n := 2) rfl (Nat.le_of_ble_eq_true rfl) rfl rfl
/-! FrequencyOfficeModel.undo()I -/
theorem i311_0 : insAt 311 0 = some (.aload_n 0, 1, (0, 0, 0, 0), 0) := rfl
theorem s311_0 {c : Nat → List AV → SS → Option Out} {o : OId} {L2 : List (Nat × AV)} {St : List AV} {S : SS} : ev c 311 0 [some (aR o)] L2 St S = ev c 311 1 [some (aR o)] L2 (aR o :: St) S := ev_go i311_0 rfl
theorem i311_1 : insAt 311 1 = some (.aload_n 0, 1, (0, 0, 0, 0), 0) := rfl
theorem s311_1 {c : Nat → List AV → SS → Option Out} {o : OId} {L2 : List (Nat × AV)} {St : List AV} {S : SS} : ev c 311 1 [some (aR o)] L2 St S = ev c 311 2 [some (aR o)] L2 (aR o :: St) S := ev_go i311_1 rfl
theorem i311_2 : insAt 311 2 = some (.getfield 35, 3, (12, 8, 0, 0), 0) := rfl
theorem s311_2 {c : Nat → List AV → SS → Option Out} {l0 : Option AV} {j t : Nat} {L2 : List (Nat × AV)} {St : List AV} {S : SS} : ev c 311 2 [l0] L2 (aR (12, j, t) :: St) S = ev c 311 5 [l0] L2 (aI (S.1 (12, j, t) 8) :: St) S := ev_go i311_2 rfl
theorem i311_5 : insAt 311 5 = some (.ifCond .le 7, 3, (0, 0, 0, 0), 0) := rfl
theorem s311_5 {c : Nat → List AV → SS → Option Out} {l0 : Option AV} {x : Int32} {L2 : List (Nat × AV)} {St : List AV} {S : SS} : ev c 311 5 [l0] L2 (aI x :: St) S = if x ≤ 0 then ev c 311 12 [l0] L2 St S else ev c 311 8 [l0] L2 St S := ev_br i311_5 rfl
theorem i311_8 : insAt 311 8 = some (.iconst 1, 1, (0, 0, 0, 0), 0) := rfl
theorem s311_8 {c : Nat → List AV → SS → Option Out} {l0 : Option AV} {L2 : List (Nat × AV)} {St : List AV} {S : SS} : ev c 311 8 [l0] L2 St S = ev c 311 9 [l0] L2 (aI 1 :: St) S := ev_go i311_8 rfl
theorem i311_9 : insAt 311 9 = some (.goto 4, 3, (0, 0, 0, 0), 0) := rfl
theorem s311_9 {c : Nat → List AV → SS → Option Out} {l0 : Option AV} {L2 : List (Nat × AV)} {St : List AV} {S : SS} : ev c 311 9 [l0] L2 St S = ev c 311 13 [l0] L2 St S := ev_go i311_9 rfl
theorem i311_12 : insAt 311 12 = some (.iconst 0, 1, (0, 0, 0, 0), 0) := rfl
theorem s311_12 {c : Nat → List AV → SS → Option Out} {l0 : Option AV} {L2 : List (Nat × AV)} {St : List AV} {S : SS} : ev c 311 12 [l0] L2 St S = ev c 311 13 [l0] L2 (aI 0 :: St) S := ev_go i311_12 rfl
theorem i311_13 : insAt 311 13 = some (.invokevirtual 176, 3, (259, 1, 2, 12), 0) := rfl
theorem s311_13 {c : Nat → List AV → SS → Option Out} {l0 : Option AV} {a0 : Int32} {j t : Nat} {L2 : List (Nat × AV)} {S : SS} : ev c 311 13 [l0] L2 [aI a0, aR (12, j, t)] S = ck (c 259 [aR (12, j, t), aI a0] S) (fun v S' => ev c 311 16 [l0] L2 (v.toList ++ []) S') := ev_call i311_13 rfl
theorem i311_16 : insAt 311 16 = some (.ifCond .le 5, 3, (0, 0, 0, 0), 0) := rfl
theorem s311_16 {c : Nat → List AV → SS → Option Out} {l0 : Option AV} {x : Int32} {L2 : List (Nat × AV)} {St : List AV} {S : SS} : ev c 311 16 [l0] L2 (aI x :: St) S = if x ≤ 0 then ev c 311 21 [l0] L2 St S else ev c 311 19 [l0] L2 St S := ev_br i311_16 rfl
theorem i311_19 : insAt 311 19 = some (.iconst 0, 1, (0, 0, 0, 0), 0) := rfl
theorem s311_19 {c : Nat → List AV → SS → Option Out} {l0 : Option AV} {L2 : List (Nat × AV)} {St : List AV} {S : SS} : ev c 311 19 [l0] L2 St S = ev c 311 20 [l0] L2 (aI 0 :: St) S := ev_go i311_19 rfl
theorem i311_20 : insAt 311 20 = some (.ireturn, 1, (0, 0, 0, 0), 0) := rfl
theorem s311_20 {c : Nat → List AV → SS → Option Out} {l0 : Option AV} {x : Int32} {L2 : List (Nat × AV)} {St : List AV} {S : SS} : ev c 311 20 [l0] L2 [aI x] S = some (.inl (some (aI x)), S) := ev_end i311_20 rfl
theorem i311_21 : insAt 311 21 = some (.aload_n 0, 1, (0, 0, 0, 0), 0) := rfl
theorem s311_21 {c : Nat → List AV → SS → Option Out} {o : OId} {L2 : List (Nat × AV)} {St : List AV} {S : SS} : ev c 311 21 [some (aR o)] L2 St S = ev c 311 22 [some (aR o)] L2 (aR o :: St) S := ev_go i311_21 rfl
theorem i311_22 : insAt 311 22 = some (.dup, 1, (0, 0, 0, 0), 0) := rfl
theorem s311_22 {c : Nat → List AV → SS → Option Out} {l0 : Option AV} {x : OId} {L2 : List (Nat × AV)} {St : List AV} {S : SS} : ev c 311 22 [l0] L2 (aR x :: St) S = ev c 311 23 [l0] L2 (aR x :: aR x :: St) S := ev_go i311_22 rfl
theorem i311_23 : insAt 311 23 = some (.getfield 35, 3, (12, 8, 0, 0), 0) := rfl
theorem s311_23 {c : Nat → List AV → SS → Option Out} {l0 : Option AV} {j t : Nat} {L2 : List (Nat × AV)} {St : List AV} {S : SS} : ev c 311 23 [l0] L2 (aR (12, j, t) :: St) S = ev c 311 26 [l0] L2 (aI (S.1 (12, j, t) 8) :: St) S := ev_go i311_23 rfl
theorem i311_26 : insAt 311 26 = some (.iconst 1, 1, (0, 0, 0, 0), 0) := rfl
theorem s311_26 {c : Nat → List AV → SS → Option Out} {l0 : Option AV} {L2 : List (Nat × AV)} {St : List AV} {S : SS} : ev c 311 26 [l0] L2 St S = ev c 311 27 [l0] L2 (aI 1 :: St) S := ev_go i311_26 rfl
theorem i311_27 : insAt 311 27 = some (.isub, 1, (0, 0, 0, 0), 0) := rfl
theorem s311_27 {c : Nat → List AV → SS → Option Out} {l0 : Option AV} {x y : Int32} {L2 : List (Nat × AV)} {St : List AV} {S : SS} : ev c 311 27 [l0] L2 (aI y :: aI x :: St) S = ev c 311 28 [l0] L2 (aI (x - y) :: St) S := ev_go i311_27 rfl
theorem i311_28 : insAt 311 28 = some (.putfield 35, 3, (12, 8, 0, 0), 0) := rfl
theorem s311_28 {c : Nat → List AV → SS → Option Out} {l0 : Option AV} {j t : Nat} {x : Int32} {L2 : List (Nat × AV)} {St : List AV} {S : SS} : ev c 311 28 [l0] L2 (aI x :: aR (12, j, t) :: St) S = ev c 311 31 [l0] L2 St (setI S.1 (12, j, t) 8 x, S.2) := ev_go i311_28 rfl
theorem i311_31 : insAt 311 31 = some (.aload_n 0, 1, (0, 0, 0, 0), 0) := rfl
theorem s311_31 {c : Nat → List AV → SS → Option Out} {o : OId} {L2 : List (Nat × AV)} {St : List AV} {S : SS} : ev c 311 31 [some (aR o)] L2 St S = ev c 311 32 [some (aR o)] L2 (aR o :: St) S := ev_go i311_31 rfl
theorem i311_32 : insAt 311 32 = some (.aload_n 0, 1, (0, 0, 0, 0), 0) := rfl
theorem s311_32 {c : Nat → List AV → SS → Option Out} {o : OId} {L2 : List (Nat × AV)} {St : List AV} {S : SS} : ev c 311 32 [some (aR o)] L2 St S = ev c 311 33 [some (aR o)] L2 (aR o :: St) S := ev_go i311_32 rfl
theorem i311_33 : insAt 311 33 = some (.getfield 16, 3, (12, 2, 0, 0), 0) := rfl
theorem s311_33 {c : Nat → List AV → SS → Option Out} {l0 : Option AV} {j t : Nat} {L2 : List (Nat × AV)} {St : List AV} {S : SS} : ev c 311 33 [l0] L2 (aR (12, j, t) :: St) S = ev c 311 36 [l0] L2 (S.2.2.1 (12, j, t) 2 :: St) S := ev_go i311_33 rfl
theorem i311_36 : insAt 311 36 = some (.bipush 106, 2, (0, 0, 0, 0), 0) := rfl
theorem s311_36 {c : Nat → List AV → SS → Option Out} {l0 : Option AV} {L2 : List (Nat × AV)} {St : List AV} {S : SS} : ev c 311 36 [l0] L2 St S = ev c 311 38 [l0] L2 (aI 106 :: St) S := ev_go i311_36 rfl
theorem i311_38 : insAt 311 38 = some (.aload_n 0, 1, (0, 0, 0, 0), 0) := rfl
theorem s311_38 {c : Nat → List AV → SS → Option Out} {o : OId} {L2 : List (Nat × AV)} {St : List AV} {S : SS} : ev c 311 38 [some (aR o)] L2 St S = ev c 311 39 [some (aR o)] L2 (aR o :: St) S := ev_go i311_38 rfl
theorem i311_39 : insAt 311 39 = some (.getfield 35, 3, (12, 8, 0, 0), 0) := rfl
theorem s311_39 {c : Nat → List AV → SS → Option Out} {l0 : Option AV} {j t : Nat} {L2 : List (Nat × AV)} {St : List AV} {S : SS} : ev c 311 39 [l0] L2 (aR (12, j, t) :: St) S = ev c 311 42 [l0] L2 (aI (S.1 (12, j, t) 8) :: St) S := ev_go i311_39 rfl
theorem i311_42 : insAt 311 42 = some (.imul, 1, (0, 0, 0, 0), 0) := rfl
theorem s311_42 {c : Nat → List AV → SS → Option Out} {l0 : Option AV} {x y : Int32} {L2 : List (Nat × AV)} {St : List AV} {S : SS} : ev c 311 42 [l0] L2 (aI y :: aI x :: St) S = ev c 311 43 [l0] L2 (aI (x * y) :: St) S := ev_go i311_42 rfl
theorem i311_43 : insAt 311 43 = some (.aload_n 0, 1, (0, 0, 0, 0), 0) := rfl
theorem s311_43 {c : Nat → List AV → SS → Option Out} {o : OId} {L2 : List (Nat × AV)} {St : List AV} {S : SS} : ev c 311 43 [some (aR o)] L2 St S = ev c 311 44 [some (aR o)] L2 (aR o :: St) S := ev_go i311_43 rfl
theorem i311_44 : insAt 311 44 = some (.getfield 7, 3, (12, 0, 0, 0), 0) := rfl
theorem s311_44 {c : Nat → List AV → SS → Option Out} {l0 : Option AV} {j t : Nat} {L2 : List (Nat × AV)} {St : List AV} {S : SS} : ev c 311 44 [l0] L2 (aR (12, j, t) :: St) S = ev c 311 47 [l0] L2 (S.2.2.1 (12, j, t) 0 :: St) S := ev_go i311_44 rfl
theorem i311_47 : insAt 311 47 = some (.iconst 0, 1, (0, 0, 0, 0), 0) := rfl
theorem s311_47 {c : Nat → List AV → SS → Option Out} {l0 : Option AV} {L2 : List (Nat × AV)} {St : List AV} {S : SS} : ev c 311 47 [l0] L2 St S = ev c 311 48 [l0] L2 (aI 0 :: St) S := ev_go i311_47 rfl
theorem i311_48 : insAt 311 48 = some (.invokevirtual 71, 3, (221, 4, 2, 12), 0) := rfl
theorem s311_48 {c : Nat → List AV → SS → Option Out} {l0 : Option AV} {a0 : OId} {a1 : Int32} {a2 : OId} {a3 : Int32} {j t : Nat} {L2 : List (Nat × AV)} {S : SS} : ev c 311 48 [l0] L2 [aI a3, aR a2, aI a1, aR a0, aR (12, j, t)] S = ck (c 221 [aR (12, j, t), aR a0, aI a1, aR a2, aI a3] S) (fun v S' => ev c 311 51 [l0] L2 (v.toList ++ []) S') := ev_call i311_48 rfl
theorem i311_51 : insAt 311 51 = some (.aload_n 0, 1, (0, 0, 0, 0), 0) := rfl
theorem s311_51 {c : Nat → List AV → SS → Option Out} {o : OId} {L2 : List (Nat × AV)} {St : List AV} {S : SS} : ev c 311 51 [some (aR o)] L2 St S = ev c 311 52 [some (aR o)] L2 (aR o :: St) S := ev_go i311_51 rfl
theorem i311_52 : insAt 311 52 = some (.getfield 35, 3, (12, 8, 0, 0), 0) := rfl
theorem s311_52 {c : Nat → List AV → SS → Option Out} {l0 : Option AV} {j t : Nat} {L2 : List (Nat × AV)} {St : List AV} {S : SS} : ev c 311 52 [l0] L2 (aR (12, j, t) :: St) S = ev c 311 55 [l0] L2 (aI (S.1 (12, j, t) 8) :: St) S := ev_go i311_52 rfl
theorem i311_55 : insAt 311 55 = some (.ireturn, 1, (0, 0, 0, 0), 0) := rfl
theorem s311_55 {c : Nat → List AV → SS → Option Out} {l0 : Option AV} {x : Int32} {L2 : List (Nat × AV)} {St : List AV} {S : SS} : ev c 311 55 [l0] L2 [aI x] S = some (.inl (some (aI x)), S) := ev_end i311_55 rfl
theorem m311 {d : Nat} {o : OId} {S : SS} : evm (d + 1) 311 [aR o] S = ev (evm d) 311 0 [some (aR o)] [] [] S := evm_s (n := 1) rfl (Nat.le_of_ble_eq_true rfl) rfl rfl
/-! FrequencyOfficeModel.save()I -/
theorem i312_0 : insAt 312 0 = some (.aload_n 0, 1, (0, 0, 0, 0), 0) := rfl
theorem s312_0 {c : Nat → List AV → SS → Option Out} {o : OId} {L2 : List (Nat × AV)} {St : List AV} {S : SS} : ev c 312 0 [some (aR o)] L2 St S = ev c 312 1 [some (aR o)] L2 (aR o :: St) S := ev_go i312_0 rfl
theorem i312_1 : insAt 312 1 = some (.aload_n 0, 1, (0, 0, 0, 0), 0) := rfl
theorem s312_1 {c : Nat → List AV → SS → Option Out} {o : OId} {L2 : List (Nat × AV)} {St : List AV} {S : SS} : ev c 312 1 [some (aR o)] L2 St S = ev c 312 2 [some (aR o)] L2 (aR o :: St) S := ev_go i312_1 rfl
theorem i312_2 : insAt 312 2 = some (.getfield 7, 3, (12, 0, 0, 0), 0) := rfl
theorem s312_2 {c : Nat → List AV → SS → Option Out} {l0 : Option AV} {j t : Nat} {L2 : List (Nat × AV)} {St : List AV} {S : SS} : ev c 312 2 [l0] L2 (aR (12, j, t) :: St) S = ev c 312 5 [l0] L2 (S.2.2.1 (12, j, t) 0 :: St) S := ev_go i312_2 rfl
theorem i312_5 : insAt 312 5 = some (.iconst 0, 1, (0, 0, 0, 0), 0) := rfl
theorem s312_5 {c : Nat → List AV → SS → Option Out} {l0 : Option AV} {L2 : List (Nat × AV)} {St : List AV} {S : SS} : ev c 312 5 [l0] L2 St S = ev c 312 6 [l0] L2 (aI 0 :: St) S := ev_go i312_5 rfl
theorem i312_6 : insAt 312 6 = some (.aload_n 0, 1, (0, 0, 0, 0), 0) := rfl
theorem s312_6 {c : Nat → List AV → SS → Option Out} {o : OId} {L2 : List (Nat × AV)} {St : List AV} {S : SS} : ev c 312 6 [some (aR o)] L2 St S = ev c 312 7 [some (aR o)] L2 (aR o :: St) S := ev_go i312_6 rfl
theorem i312_7 : insAt 312 7 = some (.getfield 13, 3, (12, 1, 0, 0), 0) := rfl
theorem s312_7 {c : Nat → List AV → SS → Option Out} {l0 : Option AV} {j t : Nat} {L2 : List (Nat × AV)} {St : List AV} {S : SS} : ev c 312 7 [l0] L2 (aR (12, j, t) :: St) S = ev c 312 10 [l0] L2 (S.2.2.1 (12, j, t) 1 :: St) S := ev_go i312_7 rfl
theorem i312_10 : insAt 312 10 = some (.iconst 0, 1, (0, 0, 0, 0), 0) := rfl
theorem s312_10 {c : Nat → List AV → SS → Option Out} {l0 : Option AV} {L2 : List (Nat × AV)} {St : List AV} {S : SS} : ev c 312 10 [l0] L2 St S = ev c 312 11 [l0] L2 (aI 0 :: St) S := ev_go i312_10 rfl
theorem i312_11 : insAt 312 11 = some (.invokevirtual 71, 3, (221, 4, 2, 12), 0) := rfl
theorem s312_11 {c : Nat → List AV → SS → Option Out} {l0 : Option AV} {a0 : OId} {a1 : Int32} {a2 : OId} {a3 : Int32} {j t : Nat} {L2 : List (Nat × AV)} {S : SS} : ev c 312 11 [l0] L2 [aI a3, aR a2, aI a1, aR a0, aR (12, j, t)] S = ck (c 221 [aR (12, j, t), aR a0, aI a1, aR a2, aI a3] S) (fun v S' => ev c 312 14 [l0] L2 (v.toList ++ []) S') := ev_call i312_11 rfl
theorem i312_14 : insAt 312 14 = some (.aload_n 0, 1, (0, 0, 0, 0), 0) := rfl
theorem s312_14 {c : Nat → List AV → SS → Option Out} {o : OId} {L2 : List (Nat × AV)} {St : List AV} {S : SS} : ev c 312 14 [some (aR o)] L2 St S = ev c 312 15 [some (aR o)] L2 (aR o :: St) S := ev_go i312_14 rfl
theorem i312_15 : insAt 312 15 = some (.iconst 1, 1, (0, 0, 0, 0), 0) := rfl
theorem s312_15 {c : Nat → List AV → SS → Option Out} {l0 : Option AV} {L2 : List (Nat × AV)} {St : List AV} {S : SS} : ev c 312 15 [l0] L2 St S = ev c 312 16 [l0] L2 (aI 1 :: St) S := ev_go i312_15 rfl
theorem i312_16 : insAt 312 16 = some (.putfield 56, 3, (12, 15, 0, 0), 0) := rfl
theorem s312_16 {c : Nat → List AV → SS → Option Out} {l0 : Option AV} {j t : Nat} {x : Int32} {L2 : List (Nat × AV)} {St : List AV} {S : SS} : ev c 312 16 [l0] L2 (aI x :: aR (12, j, t) :: St) S = if x = 0 ∨ x = 1 then ev c 312 19 [l0] L2 St (setI S.1 (12, j, t) 15 x, S.2) else none := ev_if i312_16 rfl
theorem i312_19 : insAt 312 19 = some (.aload_n 0, 1, (0, 0, 0, 0), 0) := rfl
theorem s312_19 {c : Nat → List AV → SS → Option Out} {o : OId} {L2 : List (Nat × AV)} {St : List AV} {S : SS} : ev c 312 19 [some (aR o)] L2 St S = ev c 312 20 [some (aR o)] L2 (aR o :: St) S := ev_go i312_19 rfl
theorem i312_20 : insAt 312 20 = some (.aload_n 0, 1, (0, 0, 0, 0), 0) := rfl
theorem s312_20 {c : Nat → List AV → SS → Option Out} {o : OId} {L2 : List (Nat × AV)} {St : List AV} {S : SS} : ev c 312 20 [some (aR o)] L2 St S = ev c 312 21 [some (aR o)] L2 (aR o :: St) S := ev_go i312_20 rfl
theorem i312_21 : insAt 312 21 = some (.getfield 7, 3, (12, 0, 0, 0), 0) := rfl
theorem s312_21 {c : Nat → List AV → SS → Option Out} {l0 : Option AV} {j t : Nat} {L2 : List (Nat × AV)} {St : List AV} {S : SS} : ev c 312 21 [l0] L2 (aR (12, j, t) :: St) S = ev c 312 24 [l0] L2 (S.2.2.1 (12, j, t) 0 :: St) S := ev_go i312_21 rfl
theorem i312_24 : insAt 312 24 = some (.bipush 7, 2, (0, 0, 0, 0), 0) := rfl
theorem s312_24 {c : Nat → List AV → SS → Option Out} {l0 : Option AV} {L2 : List (Nat × AV)} {St : List AV} {S : SS} : ev c 312 24 [l0] L2 St S = ev c 312 26 [l0] L2 (aI 7 :: St) S := ev_go i312_24 rfl
theorem i312_26 : insAt 312 26 = some (.iaload, 1, (0, 0, 0, 0), 0) := rfl
theorem s312_26 {c : Nat → List AV → SS → Option Out} {l0 : Option AV} {i : Int32} {o : OId} {L2 : List (Nat × AV)} {St : List AV} {S : SS} : ev c 312 26 [l0] L2 (aI i :: aR o :: St) S = kI o i (ev c 312 27 [l0] L2 (aI (agI S o i.toNatClampNeg) :: St) S) := ev_iaload i312_26
theorem i312_27 : insAt 312 27 = some (.invokevirtual 89, 3, (223, 1, 2, 12), 0) := rfl
theorem s312_27 {c : Nat → List AV → SS → Option Out} {l0 : Option AV} {a0 : Int32} {j t : Nat} {L2 : List (Nat × AV)} {S : SS} : ev c 312 27 [l0] L2 [aI a0, aR (12, j, t)] S = ck (c 223 [aR (12, j, t), aI a0] S) (fun v S' => ev c 312 30 [l0] L2 (v.toList ++ []) S') := ev_call i312_27 rfl
theorem i312_30 : insAt 312 30 = some (.ireturn, 1, (0, 0, 0, 0), 0) := rfl
theorem s312_30 {c : Nat → List AV → SS → Option Out} {l0 : Option AV} {x : Int32} {L2 : List (Nat × AV)} {St : List AV} {S : SS} : ev c 312 30 [l0] L2 [aI x] S = some (.inl (some (aI x)), S) := ev_end i312_30 rfl
theorem m312 {d : Nat} {o : OId} {S : SS} : evm (d + 1) 312 [aR o] S = ev (evm d) 312 0 [some (aR o)] [] [] S := evm_s (n := 1) rfl (Nat.le_of_ble_eq_true rfl) rfl rfl
/-! FrequencyOfficeModel.restore()I -/
theorem i313_0 : insAt 313 0 = some (.aload_n 0, 1, (0, 0, 0, 0), 0) := rfl
theorem s313_0 {c : Nat → List AV → SS → Option Out} {o : OId} {L2 : List (Nat × AV)} {St : List AV} {S : SS} : ev c 313 0 [some (aR o)] L2 St S = ev c 313 1 [some (aR o)] L2 (aR o :: St) S := ev_go i313_0 rfl
theorem i313_1 : insAt 313 1 = some (.aload_n 0, 1, (0, 0, 0, 0), 0) := rfl
theorem s313_1 {c : Nat → List AV → SS → Option Out} {o : OId} {L2 : List (Nat × AV)} {St : List AV} {S : SS} : ev c 313 1 [some (aR o)] L2 St S = ev c 313 2 [some (aR o)] L2 (aR o :: St) S := ev_go i313_1 rfl
theorem i313_2 : insAt 313 2 = some (.getfield 56, 3, (12, 15, 0, 0), 0) := rfl
theorem s313_2 {c : Nat → List AV → SS → Option Out} {l0 : Option AV} {j t : Nat} {L2 : List (Nat × AV)} {St : List AV} {S : SS} : ev c 313 2 [l0] L2 (aR (12, j, t) :: St) S = ev c 313 5 [l0] L2 (aI (bb (S.1 (12, j, t) 15)) :: St) S := ev_go i313_2 rfl
theorem i313_5 : insAt 313 5 = some (.invokevirtual 176, 3, (259, 1, 2, 12), 0) := rfl
theorem s313_5 {c : Nat → List AV → SS → Option Out} {l0 : Option AV} {a0 : Int32} {j t : Nat} {L2 : List (Nat × AV)} {S : SS} : ev c 313 5 [l0] L2 [aI a0, aR (12, j, t)] S = ck (c 259 [aR (12, j, t), aI a0] S) (fun v S' => ev c 313 8 [l0] L2 (v.toList ++ []) S') := ev_call i313_5 rfl
theorem i313_8 : insAt 313 8 = some (.ifCond .le 5, 3, (0, 0, 0, 0), 0) := rfl
theorem s313_8 {c : Nat → List AV → SS → Option Out} {l0 : Option AV} {x : Int32} {L2 : List (Nat × AV)} {St : List AV} {S : SS} : ev c 313 8 [l0] L2 (aI x :: St) S = if x ≤ 0 then ev c 313 13 [l0] L2 St S else ev c 313 11 [l0] L2 St S := ev_br i313_8 rfl
theorem i313_11 : insAt 313 11 = some (.iconst 0, 1, (0, 0, 0, 0), 0) := rfl
theorem s313_11 {c : Nat → List AV → SS → Option Out} {l0 : Option AV} {L2 : List (Nat × AV)} {St : List AV} {S : SS} : ev c 313 11 [l0] L2 St S = ev c 313 12 [l0] L2 (aI 0 :: St) S := ev_go i313_11 rfl
theorem i313_12 : insAt 313 12 = some (.ireturn, 1, (0, 0, 0, 0), 0) := rfl
theorem s313_12 {c : Nat → List AV → SS → Option Out} {l0 : Option AV} {x : Int32} {L2 : List (Nat × AV)} {St : List AV} {S : SS} : ev c 313 12 [l0] L2 [aI x] S = some (.inl (some (aI x)), S) := ev_end i313_12 rfl
theorem i313_13 : insAt 313 13 = some (.aload_n 0, 1, (0, 0, 0, 0), 0) := rfl
theorem s313_13 {c : Nat → List AV → SS → Option Out} {o : OId} {L2 : List (Nat × AV)} {St : List AV} {S : SS} : ev c 313 13 [some (aR o)] L2 St S = ev c 313 14 [some (aR o)] L2 (aR o :: St) S := ev_go i313_13 rfl
theorem i313_14 : insAt 313 14 = some (.aload_n 0, 1, (0, 0, 0, 0), 0) := rfl
theorem s313_14 {c : Nat → List AV → SS → Option Out} {o : OId} {L2 : List (Nat × AV)} {St : List AV} {S : SS} : ev c 313 14 [some (aR o)] L2 St S = ev c 313 15 [some (aR o)] L2 (aR o :: St) S := ev_go i313_14 rfl
theorem i313_15 : insAt 313 15 = some (.getfield 13, 3, (12, 1, 0, 0), 0) := rfl
theorem s313_15 {c : Nat → List AV → SS → Option Out} {l0 : Option AV} {j t : Nat} {L2 : List (Nat × AV)} {St : List AV} {S : SS} : ev c 313 15 [l0] L2 (aR (12, j, t) :: St) S = ev c 313 18 [l0] L2 (S.2.2.1 (12, j, t) 1 :: St) S := ev_go i313_15 rfl
theorem i313_18 : insAt 313 18 = some (.iconst 0, 1, (0, 0, 0, 0), 0) := rfl
theorem s313_18 {c : Nat → List AV → SS → Option Out} {l0 : Option AV} {L2 : List (Nat × AV)} {St : List AV} {S : SS} : ev c 313 18 [l0] L2 St S = ev c 313 19 [l0] L2 (aI 0 :: St) S := ev_go i313_18 rfl
theorem i313_19 : insAt 313 19 = some (.aload_n 0, 1, (0, 0, 0, 0), 0) := rfl
theorem s313_19 {c : Nat → List AV → SS → Option Out} {o : OId} {L2 : List (Nat × AV)} {St : List AV} {S : SS} : ev c 313 19 [some (aR o)] L2 St S = ev c 313 20 [some (aR o)] L2 (aR o :: St) S := ev_go i313_19 rfl
theorem i313_20 : insAt 313 20 = some (.getfield 7, 3, (12, 0, 0, 0), 0) := rfl
theorem s313_20 {c : Nat → List AV → SS → Option Out} {l0 : Option AV} {j t : Nat} {L2 : List (Nat × AV)} {St : List AV} {S : SS} : ev c 313 20 [l0] L2 (aR (12, j, t) :: St) S = ev c 313 23 [l0] L2 (S.2.2.1 (12, j, t) 0 :: St) S := ev_go i313_20 rfl
theorem i313_23 : insAt 313 23 = some (.iconst 0, 1, (0, 0, 0, 0), 0) := rfl
theorem s313_23 {c : Nat → List AV → SS → Option Out} {l0 : Option AV} {L2 : List (Nat × AV)} {St : List AV} {S : SS} : ev c 313 23 [l0] L2 St S = ev c 313 24 [l0] L2 (aI 0 :: St) S := ev_go i313_23 rfl
theorem i313_24 : insAt 313 24 = some (.invokevirtual 71, 3, (221, 4, 2, 12), 0) := rfl
theorem s313_24 {c : Nat → List AV → SS → Option Out} {l0 : Option AV} {a0 : OId} {a1 : Int32} {a2 : OId} {a3 : Int32} {j t : Nat} {L2 : List (Nat × AV)} {S : SS} : ev c 313 24 [l0] L2 [aI a3, aR a2, aI a1, aR a0, aR (12, j, t)] S = ck (c 221 [aR (12, j, t), aR a0, aI a1, aR a2, aI a3] S) (fun v S' => ev c 313 27 [l0] L2 (v.toList ++ []) S') := ev_call i313_24 rfl
theorem i313_27 : insAt 313 27 = some (.aload_n 0, 1, (0, 0, 0, 0), 0) := rfl
theorem s313_27 {c : Nat → List AV → SS → Option Out} {o : OId} {L2 : List (Nat × AV)} {St : List AV} {S : SS} : ev c 313 27 [some (aR o)] L2 St S = ev c 313 28 [some (aR o)] L2 (aR o :: St) S := ev_go i313_27 rfl
theorem i313_28 : insAt 313 28 = some (.iconst 0, 1, (0, 0, 0, 0), 0) := rfl
theorem s313_28 {c : Nat → List AV → SS → Option Out} {l0 : Option AV} {L2 : List (Nat × AV)} {St : List AV} {S : SS} : ev c 313 28 [l0] L2 St S = ev c 313 29 [l0] L2 (aI 0 :: St) S := ev_go i313_28 rfl
theorem i313_29 : insAt 313 29 = some (.putfield 35, 3, (12, 8, 0, 0), 0) := rfl
theorem s313_29 {c : Nat → List AV → SS → Option Out} {l0 : Option AV} {j t : Nat} {x : Int32} {L2 : List (Nat × AV)} {St : List AV} {S : SS} : ev c 313 29 [l0] L2 (aI x :: aR (12, j, t) :: St) S = ev c 313 32 [l0] L2 St (setI S.1 (12, j, t) 8 x, S.2) := ev_go i313_29 rfl
theorem i313_32 : insAt 313 32 = some (.aload_n 0, 1, (0, 0, 0, 0), 0) := rfl
theorem s313_32 {c : Nat → List AV → SS → Option Out} {o : OId} {L2 : List (Nat × AV)} {St : List AV} {S : SS} : ev c 313 32 [some (aR o)] L2 St S = ev c 313 33 [some (aR o)] L2 (aR o :: St) S := ev_go i313_32 rfl
theorem i313_33 : insAt 313 33 = some (.getfield 7, 3, (12, 0, 0, 0), 0) := rfl
theorem s313_33 {c : Nat → List AV → SS → Option Out} {l0 : Option AV} {j t : Nat} {L2 : List (Nat × AV)} {St : List AV} {S : SS} : ev c 313 33 [l0] L2 (aR (12, j, t) :: St) S = ev c 313 36 [l0] L2 (S.2.2.1 (12, j, t) 0 :: St) S := ev_go i313_33 rfl
theorem i313_36 : insAt 313 36 = some (.bipush 7, 2, (0, 0, 0, 0), 0) := rfl
theorem s313_36 {c : Nat → List AV → SS → Option Out} {l0 : Option AV} {L2 : List (Nat × AV)} {St : List AV} {S : SS} : ev c 313 36 [l0] L2 St S = ev c 313 38 [l0] L2 (aI 7 :: St) S := ev_go i313_36 rfl
theorem i313_38 : insAt 313 38 = some (.iaload, 1, (0, 0, 0, 0), 0) := rfl
theorem s313_38 {c : Nat → List AV → SS → Option Out} {l0 : Option AV} {i : Int32} {o : OId} {L2 : List (Nat × AV)} {St : List AV} {S : SS} : ev c 313 38 [l0] L2 (aI i :: aR o :: St) S = kI o i (ev c 313 39 [l0] L2 (aI (agI S o i.toNatClampNeg) :: St) S) := ev_iaload i313_38
theorem i313_39 : insAt 313 39 = some (.ireturn, 1, (0, 0, 0, 0), 0) := rfl
theorem s313_39 {c : Nat → List AV → SS → Option Out} {l0 : Option AV} {x : Int32} {L2 : List (Nat × AV)} {St : List AV} {S : SS} : ev c 313 39 [l0] L2 [aI x] S = some (.inl (some (aI x)), S) := ev_end i313_39 rfl
theorem m313 {d : Nat} {o : OId} {S : SS} : evm (d + 1) 313 [aR o] S = ev (evm d) 313 0 [some (aR o)] [] [] S := evm_s (n := 1) rfl (Nat.le_of_ble_eq_true rfl) rfl rfl
