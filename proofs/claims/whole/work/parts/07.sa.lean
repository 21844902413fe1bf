/-! FrequencyOffice$Books.<init>()V -/
theorem i1_0 : insAt 1 0 = some (.aload_n 0, 1, (0, 0, 0, 0), 0) := rfl
theorem s1_0 {c : Nat → List AV → SS → Option Out} {l1 : Option AV} {o : OId} {L2 : List (Nat × AV)} {St : List AV} {S : SS} : ev c 1 0 [some (aR o), l1] L2 St S = ev c 1 1 [some (aR o), l1] L2 (aR o :: St) S := ev_go i1_0 rfl
theorem i1_1 : insAt 1 1 = some (.invokespecial 3, 3, (0, 0, 20, 0), 0) := rfl
theorem s1_1 {c : Nat → List AV → SS → Option Out} {l0 l1 : Option AV} {o : OId} {L2 : List (Nat × AV)} {St : List AV} {S : SS} : ev c 1 1 [l0, l1] L2 (aR o :: St) S = ev c 1 4 [l0, l1] L2 St S := ev_go i1_1 rfl
theorem i1_4 : insAt 1 4 = some (.aload_n 0, 1, (0, 0, 0, 0), 0) := rfl
theorem s1_4 {c : Nat → List AV → SS → Option Out} {l1 : Option AV} {o : OId} {L2 : List (Nat × AV)} {St : List AV} {S : SS} : ev c 1 4 [some (aR o), l1] L2 St S = ev c 1 5 [some (aR o), l1] L2 (aR o :: St) S := ev_go i1_4 rfl
theorem i1_5 : insAt 1 5 = some (.bipush 10, 2, (0, 0, 0, 0), 0) := rfl
theorem s1_5 {c : Nat → List AV → SS → Option Out} {l0 l1 : Option AV} {L2 : List (Nat × AV)} {St : List AV} {S : SS} : ev c 1 5 [l0, l1] L2 St S = ev c 1 7 [l0, l1] L2 (aI 10 :: St) S := ev_go i1_5 rfl
theorem i1_7 : insAt 1 7 = some (.putfield 9, 3, (4, 0, 0, 0), 0) := rfl
theorem s1_7 {c : Nat → List AV → SS → Option Out} {l0 l1 : Option AV} {j t : Nat} {x : Int32} {L2 : List (Nat × AV)} {St : List AV} {S : SS} : ev c 1 7 [l0, l1] L2 (aI x :: aR (4, j, t) :: St) S = ev c 1 10 [l0, l1] L2 St (setI S.1 (4, j, t) 0 x, S.2) := ev_go i1_7 rfl
theorem i1_10 : insAt 1 10 = some (.aload_n 0, 1, (0, 0, 0, 0), 0) := rfl
theorem s1_10 {c : Nat → List AV → SS → Option Out} {l1 : Option AV} {o : OId} {L2 : List (Nat × AV)} {St : List AV} {S : SS} : ev c 1 10 [some (aR o), l1] L2 St S = ev c 1 11 [some (aR o), l1] L2 (aR o :: St) S := ev_go i1_10 rfl
theorem i1_11 : insAt 1 11 = some (.bipush 20, 2, (0, 0, 0, 0), 0) := rfl
theorem s1_11 {c : Nat → List AV → SS → Option Out} {l0 l1 : Option AV} {L2 : List (Nat × AV)} {St : List AV} {S : SS} : ev c 1 11 [l0, l1] L2 St S = ev c 1 13 [l0, l1] L2 (aI 20 :: St) S := ev_go i1_11 rfl
theorem i1_13 : insAt 1 13 = some (.putfield 15, 3, (4, 1, 0, 0), 0) := rfl
theorem s1_13 {c : Nat → List AV → SS → Option Out} {l0 l1 : Option AV} {j t : Nat} {x : Int32} {L2 : List (Nat × AV)} {St : List AV} {S : SS} : ev c 1 13 [l0, l1] L2 (aI x :: aR (4, j, t) :: St) S = ev c 1 16 [l0, l1] L2 St (setI S.1 (4, j, t) 1 x, S.2) := ev_go i1_13 rfl
theorem i1_16 : insAt 1 16 = some (.aload_n 0, 1, (0, 0, 0, 0), 0) := rfl
theorem s1_16 {c : Nat → List AV → SS → Option Out} {l1 : Option AV} {o : OId} {L2 : List (Nat × AV)} {St : List AV} {S : SS} : ev c 1 16 [some (aR o), l1] L2 St S = ev c 1 17 [some (aR o), l1] L2 (aR o :: St) S := ev_go i1_16 rfl
theorem i1_17 : insAt 1 17 = some (.bipush 40, 2, (0, 0, 0, 0), 0) := rfl
theorem s1_17 {c : Nat → List AV → SS → Option Out} {l0 l1 : Option AV} {L2 : List (Nat × AV)} {St : List AV} {S : SS} : ev c 1 17 [l0, l1] L2 St S = ev c 1 19 [l0, l1] L2 (aI 40 :: St) S := ev_go i1_17 rfl
theorem i1_19 : insAt 1 19 = some (.putfield 18, 3, (4, 2, 0, 0), 0) := rfl
theorem s1_19 {c : Nat → List AV → SS → Option Out} {l0 l1 : Option AV} {j t : Nat} {x : Int32} {L2 : List (Nat × AV)} {St : List AV} {S : SS} : ev c 1 19 [l0, l1] L2 (aI x :: aR (4, j, t) :: St) S = ev c 1 22 [l0, l1] L2 St (setI S.1 (4, j, t) 2 x, S.2) := ev_go i1_19 rfl
theorem i1_22 : insAt 1 22 = some (.aload_n 0, 1, (0, 0, 0, 0), 0) := rfl
theorem s1_22 {c : Nat → List AV → SS → Option Out} {l1 : Option AV} {o : OId} {L2 : List (Nat × AV)} {St : List AV} {S : SS} : ev c 1 22 [some (aR o), l1] L2 St S = ev c 1 23 [some (aR o), l1] L2 (aR o :: St) S := ev_go i1_22 rfl
theorem i1_23 : insAt 1 23 = some (.iconst 0, 1, (0, 0, 0, 0), 0) := rfl
theorem s1_23 {c : Nat → List AV → SS → Option Out} {l0 l1 : Option AV} {L2 : List (Nat × AV)} {St : List AV} {S : SS} : ev c 1 23 [l0, l1] L2 St S = ev c 1 24 [l0, l1] L2 (aI 0 :: St) S := ev_go i1_23 rfl
theorem i1_24 : insAt 1 24 = some (.putfield 21, 3, (4, 3, 0, 0), 0) := rfl
theorem s1_24 {c : Nat → List AV → SS → Option Out} {l0 l1 : Option AV} {j t : Nat} {x : Int32} {L2 : List (Nat × AV)} {St : List AV} {S : SS} : ev c 1 24 [l0, l1] L2 (aI x :: aR (4, j, t) :: St) S = ev c 1 27 [l0, l1] L2 St (setI S.1 (4, j, t) 3 x, S.2) := ev_go i1_24 rfl
theorem i1_27 : insAt 1 27 = some (.aload_n 0, 1, (0, 0, 0, 0), 0) := rfl
theorem s1_27 {c : Nat → List AV → SS → Option Out} {l1 : Option AV} {o : OId} {L2 : List (Nat × AV)} {St : List AV} {S : SS} : ev c 1 27 [some (aR o), l1] L2 St S = ev c 1 28 [some (aR o), l1] L2 (aR o :: St) S := ev_go i1_27 rfl
theorem i1_28 : insAt 1 28 = some (.iconst (-1), 1, (0, 0, 0, 0), 0) := rfl
theorem s1_28 {c : Nat → List AV → SS → Option Out} {l0 l1 : Option AV} {L2 : List (Nat × AV)} {St : List AV} {S : SS} : ev c 1 28 [l0, l1] L2 St S = ev c 1 29 [l0, l1] L2 (aI (-1) :: St) S := ev_go i1_28 rfl
theorem i1_29 : insAt 1 29 = some (.putfield 24, 3, (4, 4, 0, 0), 0) := rfl
theorem s1_29 {c : Nat → List AV → SS → Option Out} {l0 l1 : Option AV} {j t : Nat} {x : Int32} {L2 : List (Nat × AV)} {St : List AV} {S : SS} : ev c 1 29 [l0, l1] L2 (aI x :: aR (4, j, t) :: St) S = ev c 1 32 [l0, l1] L2 St (setI S.1 (4, j, t) 4 x, S.2) := ev_go i1_29 rfl
theorem i1_32 : insAt 1 32 = some (.aload_n 0, 1, (0, 0, 0, 0), 0) := rfl
theorem s1_32 {c : Nat → List AV → SS → Option Out} {l1 : Option AV} {o : OId} {L2 : List (Nat × AV)} {St : List AV} {S : SS} : ev c 1 32 [some (aR o), l1] L2 St S = ev c 1 33 [some (aR o), l1] L2 (aR o :: St) S := ev_go i1_32 rfl
theorem i1_33 : insAt 1 33 = some (.iconst 0, 1, (0, 0, 0, 0), 0) := rfl
theorem s1_33 {c : Nat → List AV → SS → Option Out} {l0 l1 : Option AV} {L2 : List (Nat × AV)} {St : List AV} {S : SS} : ev c 1 33 [l0, l1] L2 St S = ev c 1 34 [l0, l1] L2 (aI 0 :: St) S := ev_go i1_33 rfl
theorem i1_34 : insAt 1 34 = some (.putfield 27, 3, (4, 5, 0, 0), 0) := rfl
theorem s1_34 {c : Nat → List AV → SS → Option Out} {l0 l1 : Option AV} {j t : Nat} {x : Int32} {L2 : List (Nat × AV)} {St : List AV} {S : SS} : ev c 1 34 [l0, l1] L2 (aI x :: aR (4, j, t) :: St) S = ev c 1 37 [l0, l1] L2 St (setI S.1 (4, j, t) 5 x, S.2) := ev_go i1_34 rfl
theorem i1_37 : insAt 1 37 = some (.aload_n 0, 1, (0, 0, 0, 0), 0) := rfl
theorem s1_37 {c : Nat → List AV → SS → Option Out} {l1 : Option AV} {o : OId} {L2 : List (Nat × AV)} {St : List AV} {S : SS} : ev c 1 37 [some (aR o), l1] L2 St S = ev c 1 38 [some (aR o), l1] L2 (aR o :: St) S := ev_go i1_37 rfl
theorem i1_38 : insAt 1 38 = some (.iconst 0, 1, (0, 0, 0, 0), 0) := rfl
theorem s1_38 {c : Nat → List AV → SS → Option Out} {l0 l1 : Option AV} {L2 : List (Nat × AV)} {St : List AV} {S : SS} : ev c 1 38 [l0, l1] L2 St S = ev c 1 39 [l0, l1] L2 (aI 0 :: St) S := ev_go i1_38 rfl
theorem i1_39 : insAt 1 39 = some (.putfield 30, 3, (4, 6, 0, 0), 0) := rfl
theorem s1_39 {c : Nat → List AV → SS → Option Out} {l0 l1 : Option AV} {j t : Nat} {x : Int32} {L2 : List (Nat × AV)} {St : List AV} {S : SS} : ev c 1 39 [l0, l1] L2 (aI x :: aR (4, j, t) :: St) S = ev c 1 42 [l0, l1] L2 St (setI S.1 (4, j, t) 6 x, S.2) := ev_go i1_39 rfl
theorem i1_42 : insAt 1 42 = some (.aload_n 0, 1, (0, 0, 0, 0), 0) := rfl
theorem s1_42 {c : Nat → List AV → SS → Option Out} {l1 : Option AV} {o : OId} {L2 : List (Nat × AV)} {St : List AV} {S : SS} : ev c 1 42 [some (aR o), l1] L2 St S = ev c 1 43 [some (aR o), l1] L2 (aR o :: St) S := ev_go i1_42 rfl
theorem i1_43 : insAt 1 43 = some (.iconst 0, 1, (0, 0, 0, 0), 0) := rfl
theorem s1_43 {c : Nat → List AV → SS → Option Out} {l0 l1 : Option AV} {L2 : List (Nat × AV)} {St : List AV} {S : SS} : ev c 1 43 [l0, l1] L2 St S = ev c 1 44 [l0, l1] L2 (aI 0 :: St) S := ev_go i1_43 rfl
theorem i1_44 : insAt 1 44 = some (.putfield 33, 3, (4, 7, 0, 0), 0) := rfl
theorem s1_44 {c : Nat → List AV → SS → Option Out} {l0 l1 : Option AV} {j t : Nat} {x : Int32} {L2 : List (Nat × AV)} {St : List AV} {S : SS} : ev c 1 44 [l0, l1] L2 (aI x :: aR (4, j, t) :: St) S = ev c 1 47 [l0, l1] L2 St (setI S.1 (4, j, t) 7 x, S.2) := ev_go i1_44 rfl
theorem i1_47 : insAt 1 47 = some (.aload_n 0, 1, (0, 0, 0, 0), 0) := rfl
theorem s1_47 {c : Nat → List AV → SS → Option Out} {l1 : Option AV} {o : OId} {L2 : List (Nat × AV)} {St : List AV} {S : SS} : ev c 1 47 [some (aR o), l1] L2 St S = ev c 1 48 [some (aR o), l1] L2 (aR o :: St) S := ev_go i1_47 rfl
theorem i1_48 : insAt 1 48 = some (.bipush 7, 2, (0, 0, 0, 0), 0) := rfl
theorem s1_48 {c : Nat → List AV → SS → Option Out} {l0 l1 : Option AV} {L2 : List (Nat × AV)} {St : List AV} {S : SS} : ev c 1 48 [l0, l1] L2 St S = ev c 1 50 [l0, l1] L2 (aI 7 :: St) S := ev_go i1_48 rfl
theorem i1_50 : insAt 1 50 = some (.anewarray 36, 3, (0, 0, 0, 0), 0) := rfl
theorem i1_53 : insAt 1 53 = some (.putfield 38, 3, (4, 8, 0, 0), 0) := rfl
theorem s1_53 {c : Nat → List AV → SS → Option Out} {l0 l1 : Option AV} {j t : Nat} {p : OId} {L2 : List (Nat × AV)} {St : List AV} {S : SS} : ev c 1 53 [l0, l1] L2 (aR p :: aR (4, j, t) :: St) S = ev c 1 56 [l0, l1] L2 St (S.1, S.2.1, setV S.2.2.1 (4, j, t) 8 (aR p), S.2.2.2) := ev_go i1_53 rfl
theorem i1_56 : insAt 1 56 = some (.aload_n 0, 1, (0, 0, 0, 0), 0) := rfl
theorem s1_56 {c : Nat → List AV → SS → Option Out} {l1 : Option AV} {o : OId} {L2 : List (Nat × AV)} {St : List AV} {S : SS} : ev c 1 56 [some (aR o), l1] L2 St S = ev c 1 57 [some (aR o), l1] L2 (aR o :: St) S := ev_go i1_56 rfl
theorem i1_57 : insAt 1 57 = some (.new 36, 3, (10, 0, 0, 0), 0) := rfl
theorem i1_60 : insAt 1 60 = some (.dup, 1, (0, 0, 0, 0), 0) := rfl
theorem s1_60 {c : Nat → List AV → SS → Option Out} {l0 l1 : Option AV} {x : OId} {L2 : List (Nat × AV)} {St : List AV} {S : SS} : ev c 1 60 [l0, l1] L2 (aR x :: St) S = ev c 1 61 [l0, l1] L2 (aR x :: aR x :: St) S := ev_go i1_60 rfl
theorem i1_61 : insAt 1 61 = some (.invokespecial 42, 3, (2, 0, 6, 10), 0) := rfl
theorem s1_61 {c : Nat → List AV → SS → Option Out} {l0 l1 : Option AV} {t0 t1 : AV} {j t : Nat} {L2 : List (Nat × AV)} {S : SS} : ev c 1 61 [l0, l1] L2 [aR (10, j, t), t0, t1] S = ck (c 2 [aR (10, j, t)] S) (fun v S' => ev c 1 64 [l0, l1] L2 (v.toList ++ [t0, t1]) S') := ev_call i1_61 rfl
theorem i1_64 : insAt 1 64 = some (.putfield 43, 3, (4, 9, 0, 0), 0) := rfl
theorem s1_64 {c : Nat → List AV → SS → Option Out} {l0 l1 : Option AV} {j t : Nat} {p : OId} {L2 : List (Nat × AV)} {St : List AV} {S : SS} : ev c 1 64 [l0, l1] L2 (aR p :: aR (4, j, t) :: St) S = ev c 1 67 [l0, l1] L2 St (S.1, S.2.1, setV S.2.2.1 (4, j, t) 9 (aR p), S.2.2.2) := ev_go i1_64 rfl
theorem i1_67 : insAt 1 67 = some (.aload_n 0, 1, (0, 0, 0, 0), 0) := rfl
theorem s1_67 {c : Nat → List AV → SS → Option Out} {l1 : Option AV} {o : OId} {L2 : List (Nat × AV)} {St : List AV} {S : SS} : ev c 1 67 [some (aR o), l1] L2 St S = ev c 1 68 [some (aR o), l1] L2 (aR o :: St) S := ev_go i1_67 rfl
theorem i1_68 : insAt 1 68 = some (.bipush 49, 2, (0, 0, 0, 0), 0) := rfl
theorem s1_68 {c : Nat → List AV → SS → Option Out} {l0 l1 : Option AV} {L2 : List (Nat × AV)} {St : List AV} {S : SS} : ev c 1 68 [l0, l1] L2 St S = ev c 1 70 [l0, l1] L2 (aI 49 :: St) S := ev_go i1_68 rfl
theorem i1_70 : insAt 1 70 = some (.newarray .int, 2, (0, 0, 0, 0), 0) := rfl
theorem i1_72 : insAt 1 72 = some (.putfield 47, 3, (4, 10, 0, 0), 0) := rfl
theorem s1_72 {c : Nat → List AV → SS → Option Out} {l0 l1 : Option AV} {j t : Nat} {p : OId} {L2 : List (Nat × AV)} {St : List AV} {S : SS} : ev c 1 72 [l0, l1] L2 (aR p :: aR (4, j, t) :: St) S = ev c 1 75 [l0, l1] L2 St (S.1, S.2.1, setV S.2.2.1 (4, j, t) 10 (aR p), S.2.2.2) := ev_go i1_72 rfl
theorem i1_75 : insAt 1 75 = some (.aload_n 0, 1, (0, 0, 0, 0), 0) := rfl
theorem s1_75 {c : Nat → List AV → SS → Option Out} {l1 : Option AV} {o : OId} {L2 : List (Nat × AV)} {St : List AV} {S : SS} : ev c 1 75 [some (aR o), l1] L2 St S = ev c 1 76 [some (aR o), l1] L2 (aR o :: St) S := ev_go i1_75 rfl
theorem i1_76 : insAt 1 76 = some (.new 51, 3, (7, 0, 0, 0), 0) := rfl
theorem i1_79 : insAt 1 79 = some (.dup, 1, (0, 0, 0, 0), 0) := rfl
theorem s1_79 {c : Nat → List AV → SS → Option Out} {l0 l1 : Option AV} {x : OId} {L2 : List (Nat × AV)} {St : List AV} {S : SS} : ev c 1 79 [l0, l1] L2 (aR x :: St) S = ev c 1 80 [l0, l1] L2 (aR x :: aR x :: St) S := ev_go i1_79 rfl
theorem i1_80 : insAt 1 80 = some (.invokespecial 53, 3, (3, 0, 6, 7), 0) := rfl
theorem s1_80 {c : Nat → List AV → SS → Option Out} {l0 l1 : Option AV} {t0 t1 : AV} {j t : Nat} {L2 : List (Nat × AV)} {S : SS} : ev c 1 80 [l0, l1] L2 [aR (7, j, t), t0, t1] S = ck (c 3 [aR (7, j, t)] S) (fun v S' => ev c 1 83 [l0, l1] L2 (v.toList ++ [t0, t1]) S') := ev_call i1_80 rfl
theorem i1_83 : insAt 1 83 = some (.putfield 54, 3, (4, 11, 0, 0), 0) := rfl
theorem s1_83 {c : Nat → List AV → SS → Option Out} {l0 l1 : Option AV} {j t : Nat} {p : OId} {L2 : List (Nat × AV)} {St : List AV} {S : SS} : ev c 1 83 [l0, l1] L2 (aR p :: aR (4, j, t) :: St) S = ev c 1 86 [l0, l1] L2 St (S.1, S.2.1, setV S.2.2.1 (4, j, t) 11 (aR p), S.2.2.2) := ev_go i1_83 rfl
theorem i1_86 : insAt 1 86 = some (.iconst 0, 1, (0, 0, 0, 0), 0) := rfl
theorem s1_86 {c : Nat → List AV → SS → Option Out} {l0 l1 : Option AV} {L2 : List (Nat × AV)} {St : List AV} {S : SS} : ev c 1 86 [l0, l1] L2 St S = ev c 1 87 [l0, l1] L2 (aI 0 :: St) S := ev_go i1_86 rfl
theorem i1_87 : insAt 1 87 = some (.istore_n 1, 1, (0, 0, 0, 0), 0) := rfl
theorem s1_87 {c : Nat → List AV → SS → Option Out} {l0 l1 : Option AV} {x : Int32} {L2 : List (Nat × AV)} {St : List AV} {S : SS} : ev c 1 87 [l0, l1] L2 (aI x :: St) S = ev c 1 88 [l0, some (aI x)] (kil L2 1) St S := ev_go i1_87 rfl
theorem i1_88 : insAt 1 88 = some (.iload_n 1, 1, (0, 0, 0, 0), 0) := rfl
theorem s1_88 {c : Nat → List AV → SS → Option Out} {l0 : Option AV} {x : Int32} {L2 : List (Nat × AV)} {St : List AV} {S : SS} : ev c 1 88 [l0, some (aI x)] L2 St S = ev c 1 89 [l0, some (aI x)] L2 (aI x :: St) S := ev_go i1_88 rfl
theorem i1_89 : insAt 1 89 = some (.bipush 7, 2, (0, 0, 0, 0), 0) := rfl
theorem s1_89 {c : Nat → List AV → SS → Option Out} {l0 l1 : Option AV} {L2 : List (Nat × AV)} {St : List AV} {S : SS} : ev c 1 89 [l0, l1] L2 St S = ev c 1 91 [l0, l1] L2 (aI 7 :: St) S := ev_go i1_89 rfl
theorem i1_91 : insAt 1 91 = some (.if_icmp .ge 22, 3, (0, 0, 0, 0), 0) := rfl
theorem s1_91 {c : Nat → List AV → SS → Option Out} {l0 l1 : Option AV} {x y : Int32} {L2 : List (Nat × AV)} {St : List AV} {S : SS} : ev c 1 91 [l0, l1] L2 (aI y :: aI x :: St) S = if y ≤ x then ev c 1 113 [l0, l1] L2 St S else ev c 1 94 [l0, l1] L2 St S := ev_br i1_91 rfl
theorem i1_94 : insAt 1 94 = some (.aload_n 0, 1, (0, 0, 0, 0), 0) := rfl
theorem s1_94 {c : Nat → List AV → SS → Option Out} {l1 : Option AV} {o : OId} {L2 : List (Nat × AV)} {St : List AV} {S : SS} : ev c 1 94 [some (aR o), l1] L2 St S = ev c 1 95 [some (aR o), l1] L2 (aR o :: St) S := ev_go i1_94 rfl
theorem i1_95 : insAt 1 95 = some (.getfield 38, 3, (4, 8, 0, 0), 0) := rfl
theorem s1_95 {c : Nat → List AV → SS → Option Out} {l0 l1 : Option AV} {j t : Nat} {L2 : List (Nat × AV)} {St : List AV} {S : SS} : ev c 1 95 [l0, l1] L2 (aR (4, j, t) :: St) S = ev c 1 98 [l0, l1] L2 (S.2.2.1 (4, j, t) 8 :: St) S := ev_go i1_95 rfl
theorem i1_98 : insAt 1 98 = some (.iload_n 1, 1, (0, 0, 0, 0), 0) := rfl
theorem s1_98 {c : Nat → List AV → SS → Option Out} {l0 : Option AV} {x : Int32} {L2 : List (Nat × AV)} {St : List AV} {S : SS} : ev c 1 98 [l0, some (aI x)] L2 St S = ev c 1 99 [l0, some (aI x)] L2 (aI x :: St) S := ev_go i1_98 rfl
theorem i1_99 : insAt 1 99 = some (.new 36, 3, (10, 0, 0, 0), 0) := rfl
theorem i1_102 : insAt 1 102 = some (.dup, 1, (0, 0, 0, 0), 0) := rfl
theorem s1_102 {c : Nat → List AV → SS → Option Out} {l0 l1 : Option AV} {x : OId} {L2 : List (Nat × AV)} {St : List AV} {S : SS} : ev c 1 102 [l0, l1] L2 (aR x :: St) S = ev c 1 103 [l0, l1] L2 (aR x :: aR x :: St) S := ev_go i1_102 rfl
theorem i1_103 : insAt 1 103 = some (.invokespecial 42, 3, (2, 0, 6, 10), 0) := rfl
theorem s1_103 {c : Nat → List AV → SS → Option Out} {l0 l1 : Option AV} {t0 t1 t2 : AV} {j t : Nat} {L2 : List (Nat × AV)} {S : SS} : ev c 1 103 [l0, l1] L2 [aR (10, j, t), t0, t1, t2] S = ck (c 2 [aR (10, j, t)] S) (fun v S' => ev c 1 106 [l0, l1] L2 (v.toList ++ [t0, t1, t2]) S') := ev_call i1_103 rfl
theorem i1_106 : insAt 1 106 = some (.aastore, 1, (0, 0, 0, 0), 0) := rfl
theorem i1_107 : insAt 1 107 = some (.iinc 1 1, 3, (0, 0, 0, 0), 0) := rfl
theorem s1_107 {c : Nat → List AV → SS → Option Out} {l0 : Option AV} {x : Int32} {L2 : List (Nat × AV)} {St : List AV} {S : SS} : ev c 1 107 [l0, some (aI x)] L2 St S = ev c 1 110 [l0, some (aI (x + 1))] (kil L2 1) St S := ev_go i1_107 rfl
theorem i1_110 : insAt 1 110 = some (.goto (-22), 3, (0, 0, 0, 0), 0) := rfl
theorem s1_110 {c : Nat → List AV → SS → Option Out} {l0 l1 : Option AV} {L2 : List (Nat × AV)} {St : List AV} {S : SS} : ev c 1 110 [l0, l1] L2 St S = ev c 1 88 [l0, l1] L2 St S := ev_go i1_110 rfl
theorem i1_113 : insAt 1 113 = some (.return_, 1, (0, 0, 0, 0), 0) := rfl
theorem s1_113 {c : Nat → List AV → SS → Option Out} {l0 l1 : Option AV} {L2 : List (Nat × AV)} {St : List AV} {S : SS} : ev c 1 113 [l0, l1] L2 [] S = some (.inl none, S) := ev_end i1_113 rfl
theorem m1 {d : Nat} {o : OId} {S : SS} : evm (d + 1) 1 [aR o] S = ev (evm d) 1 0 [some (aR o), none] [] [] S := evm_s (n := 2) rfl (Nat.le_of_ble_eq_true rfl) rfl rfl
/-! FrequencyOffice$Station.<init>()V -/
theorem i2_0 : insAt 2 0 = some (.aload_n 0, 1, (0, 0, 0, 0), 0) := rfl
theorem s2_0 {c : Nat → List AV → SS → Option Out} {o : OId} {L2 : List (Nat × AV)} {St : List AV} {S : SS} : ev c 2 0 [some (aR o)] L2 St S = ev c 2 1 [some (aR o)] L2 (aR o :: St) S := ev_go i2_0 rfl
theorem i2_1 : insAt 2 1 = some (.invokespecial 1, 3, (0, 0, 20, 0), 0) := rfl
theorem s2_1 {c : Nat → List AV → SS → Option Out} {l0 : Option AV} {o : OId} {L2 : List (Nat × AV)} {St : List AV} {S : SS} : ev c 2 1 [l0] L2 (aR o :: St) S = ev c 2 4 [l0] L2 St S := ev_go i2_1 rfl
theorem i2_4 : insAt 2 4 = some (.return_, 1, (0, 0, 0, 0), 0) := rfl
theorem s2_4 {c : Nat → List AV → SS → Option Out} {l0 : Option AV} {L2 : List (Nat × AV)} {St : List AV} {S : SS} : ev c 2 4 [l0] L2 [] S = some (.inl none, S) := ev_end i2_4 rfl
theorem m2 {d : Nat} {o : OId} {S : SS} : evm (d + 1) 2 [aR o] S = ev (evm d) 2 0 [some (aR o)] [] [] S := evm_s (n := 1) rfl (Nat.le_of_ble_eq_true rfl) rfl rfl
/-! FrequencyOffice$Plan.<init>()V -/
theorem i3_0 : insAt 3 0 = some (.aload_n 0, 1, (0, 0, 0, 0), 0) := rfl
theorem s3_0 {c : Nat → List AV → SS → Option Out} {o : OId} {L2 : List (Nat × AV)} {St : List AV} {S : SS} : ev c 3 0 [some (aR o)] L2 St S = ev c 3 1 [some (aR o)] L2 (aR o :: St) S := ev_go i3_0 rfl
theorem i3_1 : insAt 3 1 = some (.invokespecial 3, 3, (0, 0, 20, 0), 0) := rfl
theorem s3_1 {c : Nat → List AV → SS → Option Out} {l0 : Option AV} {o : OId} {L2 : List (Nat × AV)} {St : List AV} {S : SS} : ev c 3 1 [l0] L2 (aR o :: St) S = ev c 3 4 [l0] L2 St S := ev_go i3_1 rfl
theorem i3_4 : insAt 3 4 = some (.aload_n 0, 1, (0, 0, 0, 0), 0) := rfl
theorem s3_4 {c : Nat → List AV → SS → Option Out} {o : OId} {L2 : List (Nat × AV)} {St : List AV} {S : SS} : ev c 3 4 [some (aR o)] L2 St S = ev c 3 5 [some (aR o)] L2 (aR o :: St) S := ev_go i3_4 rfl
theorem i3_5 : insAt 3 5 = some (.iconst (-1), 1, (0, 0, 0, 0), 0) := rfl
theorem s3_5 {c : Nat → List AV → SS → Option Out} {l0 : Option AV} {L2 : List (Nat × AV)} {St : List AV} {S : SS} : ev c 3 5 [l0] L2 St S = ev c 3 6 [l0] L2 (aI (-1) :: St) S := ev_go i3_5 rfl
theorem i3_6 : insAt 3 6 = some (.putfield 9, 3, (7, 0, 0, 0), 0) := rfl
theorem s3_6 {c : Nat → List AV → SS → Option Out} {l0 : Option AV} {j t : Nat} {x : Int32} {L2 : List (Nat × AV)} {St : List AV} {S : SS} : ev c 3 6 [l0] L2 (aI x :: aR (7, j, t) :: St) S = ev c 3 9 [l0] L2 St (setI S.1 (7, j, t) 0 x, S.2) := ev_go i3_6 rfl
theorem i3_9 : insAt 3 9 = some (.aload_n 0, 1, (0, 0, 0, 0), 0) := rfl
theorem s3_9 {c : Nat → List AV → SS → Option Out} {o : OId} {L2 : List (Nat × AV)} {St : List AV} {S : SS} : ev c 3 9 [some (aR o)] L2 St S = ev c 3 10 [some (aR o)] L2 (aR o :: St) S := ev_go i3_9 rfl
theorem i3_10 : insAt 3 10 = some (.iconst (-1), 1, (0, 0, 0, 0), 0) := rfl
theorem s3_10 {c : Nat → List AV → SS → Option Out} {l0 : Option AV} {L2 : List (Nat × AV)} {St : List AV} {S : SS} : ev c 3 10 [l0] L2 St S = ev c 3 11 [l0] L2 (aI (-1) :: St) S := ev_go i3_10 rfl
theorem i3_11 : insAt 3 11 = some (.putfield 15, 3, (7, 1, 0, 0), 0) := rfl
theorem s3_11 {c : Nat → List AV → SS → Option Out} {l0 : Option AV} {j t : Nat} {x : Int32} {L2 : List (Nat × AV)} {St : List AV} {S : SS} : ev c 3 11 [l0] L2 (aI x :: aR (7, j, t) :: St) S = ev c 3 14 [l0] L2 St (setI S.1 (7, j, t) 1 x, S.2) := ev_go i3_11 rfl
theorem i3_14 : insAt 3 14 = some (.aload_n 0, 1, (0, 0, 0, 0), 0) := rfl
theorem s3_14 {c : Nat → List AV → SS → Option Out} {o : OId} {L2 : List (Nat × AV)} {St : List AV} {S : SS} : ev c 3 14 [some (aR o)] L2 St S = ev c 3 15 [some (aR o)] L2 (aR o :: St) S := ev_go i3_14 rfl
theorem i3_15 : insAt 3 15 = some (.iconst 2, 1, (0, 0, 0, 0), 0) := rfl
theorem s3_15 {c : Nat → List AV → SS → Option Out} {l0 : Option AV} {L2 : List (Nat × AV)} {St : List AV} {S : SS} : ev c 3 15 [l0] L2 St S = ev c 3 16 [l0] L2 (aI 2 :: St) S := ev_go i3_15 rfl
theorem i3_16 : insAt 3 16 = some (.newarray .int, 2, (0, 0, 0, 0), 0) := rfl
theorem i3_18 : insAt 3 18 = some (.putfield 18, 3, (7, 2, 0, 0), 0) := rfl
theorem s3_18 {c : Nat → List AV → SS → Option Out} {l0 : Option AV} {j t : Nat} {p : OId} {L2 : List (Nat × AV)} {St : List AV} {S : SS} : ev c 3 18 [l0] L2 (aR p :: aR (7, j, t) :: St) S = ev c 3 21 [l0] L2 St (S.1, S.2.1, setV S.2.2.1 (7, j, t) 2 (aR p), S.2.2.2) := ev_go i3_18 rfl
theorem i3_21 : insAt 3 21 = some (.aload_n 0, 1, (0, 0, 0, 0), 0) := rfl
theorem s3_21 {c : Nat → List AV → SS → Option Out} {o : OId} {L2 : List (Nat × AV)} {St : List AV} {S : SS} : ev c 3 21 [some (aR o)] L2 St S = ev c 3 22 [some (aR o)] L2 (aR o :: St) S := ev_go i3_21 rfl
theorem i3_22 : insAt 3 22 = some (.iconst 2, 1, (0, 0, 0, 0), 0) := rfl
theorem s3_22 {c : Nat → List AV → SS → Option Out} {l0 : Option AV} {L2 : List (Nat × AV)} {St : List AV} {S : SS} : ev c 3 22 [l0] L2 St S = ev c 3 23 [l0] L2 (aI 2 :: St) S := ev_go i3_22 rfl
theorem i3_23 : insAt 3 23 = some (.newarray .int, 2, (0, 0, 0, 0), 0) := rfl
theorem i3_25 : insAt 3 25 = some (.putfield 22, 3, (7, 3, 0, 0), 0) := rfl
theorem s3_25 {c : Nat → List AV → SS → Option Out} {l0 : Option AV} {j t : Nat} {p : OId} {L2 : List (Nat × AV)} {St : List AV} {S : SS} : ev c 3 25 [l0] L2 (aR p :: aR (7, j, t) :: St) S = ev c 3 28 [l0] L2 St (S.1, S.2.1, setV S.2.2.1 (7, j, t) 3 (aR p), S.2.2.2) := ev_go i3_25 rfl
theorem i3_28 : insAt 3 28 = some (.aload_n 0, 1, (0, 0, 0, 0), 0) := rfl
theorem s3_28 {c : Nat → List AV → SS → Option Out} {o : OId} {L2 : List (Nat × AV)} {St : List AV} {S : SS} : ev c 3 28 [some (aR o)] L2 St S = ev c 3 29 [some (aR o)] L2 (aR o :: St) S := ev_go i3_28 rfl
theorem i3_29 : insAt 3 29 = some (.iconst 2, 1, (0, 0, 0, 0), 0) := rfl
theorem s3_29 {c : Nat → List AV → SS → Option Out} {l0 : Option AV} {L2 : List (Nat × AV)} {St : List AV} {S : SS} : ev c 3 29 [l0] L2 St S = ev c 3 30 [l0] L2 (aI 2 :: St) S := ev_go i3_29 rfl
theorem i3_30 : insAt 3 30 = some (.newarray .int, 2, (0, 0, 0, 0), 0) := rfl
theorem i3_32 : insAt 3 32 = some (.putfield 25, 3, (7, 4, 0, 0), 0) := rfl
theorem s3_32 {c : Nat → List AV → SS → Option Out} {l0 : Option AV} {j t : Nat} {p : OId} {L2 : List (Nat × AV)} {St : List AV} {S : SS} : ev c 3 32 [l0] L2 (aR p :: aR (7, j, t) :: St) S = ev c 3 35 [l0] L2 St (S.1, S.2.1, setV S.2.2.1 (7, j, t) 4 (aR p), S.2.2.2) := ev_go i3_32 rfl
theorem i3_35 : insAt 3 35 = some (.return_, 1, (0, 0, 0, 0), 0) := rfl
theorem s3_35 {c : Nat → List AV → SS → Option Out} {l0 : Option AV} {L2 : List (Nat × AV)} {St : List AV} {S : SS} : ev c 3 35 [l0] L2 [] S = some (.inl none, S) := ev_end i3_35 rfl
theorem m3 {d : Nat} {o : OId} {S : SS} : evm (d + 1) 3 [aR o] S = ev (evm d) 3 0 [some (aR o)] [] [] S := evm_s (n := 1) rfl (Nat.le_of_ble_eq_true rfl) rfl rfl
/-! FrequencyOffice$History.<init>()V -/
theorem i4_0 : insAt 4 0 = some (.aload_n 0, 1, (0, 0, 0, 0), 0) := rfl
theorem s4_0 {c : Nat → List AV → SS → Option Out} {l1 : Option AV} {o : OId} {L2 : List (Nat × AV)} {St : List AV} {S : SS} : ev c 4 0 [some (aR o), l1] L2 St S = ev c 4 1 [some (aR o), l1] L2 (aR o :: St) S := ev_go i4_0 rfl
theorem i4_1 : insAt 4 1 = some (.invokespecial 3, 3, (0, 0, 20, 0), 0) := rfl
theorem s4_1 {c : Nat → List AV → SS → Option Out} {l0 l1 : Option AV} {o : OId} {L2 : List (Nat × AV)} {St : List AV} {S : SS} : ev c 4 1 [l0, l1] L2 (aR o :: St) S = ev c 4 4 [l0, l1] L2 St S := ev_go i4_1 rfl
theorem i4_4 : insAt 4 4 = some (.aload_n 0, 1, (0, 0, 0, 0), 0) := rfl
theorem s4_4 {c : Nat → List AV → SS → Option Out} {l1 : Option AV} {o : OId} {L2 : List (Nat × AV)} {St : List AV} {S : SS} : ev c 4 4 [some (aR o), l1] L2 St S = ev c 4 5 [some (aR o), l1] L2 (aR o :: St) S := ev_go i4_4 rfl
theorem i4_5 : insAt 4 5 = some (.bipush 6, 2, (0, 0, 0, 0), 0) := rfl
theorem s4_5 {c : Nat → List AV → SS → Option Out} {l0 l1 : Option AV} {L2 : List (Nat × AV)} {St : List AV} {S : SS} : ev c 4 5 [l0, l1] L2 St S = ev c 4 7 [l0, l1] L2 (aI 6 :: St) S := ev_go i4_5 rfl
theorem i4_7 : insAt 4 7 = some (.anewarray 9, 3, (1, 0, 0, 0), 0) := rfl
theorem i4_10 : insAt 4 10 = some (.putfield 11, 3, (5, 0, 0, 0), 0) := rfl
theorem s4_10 {c : Nat → List AV → SS → Option Out} {l0 l1 : Option AV} {j t : Nat} {p : OId} {L2 : List (Nat × AV)} {St : List AV} {S : SS} : ev c 4 10 [l0, l1] L2 (aR p :: aR (5, j, t) :: St) S = ev c 4 13 [l0, l1] L2 St (S.1, S.2.1, setV S.2.2.1 (5, j, t) 0 (aR p), S.2.2.2) := ev_go i4_10 rfl
theorem i4_13 : insAt 4 13 = some (.aload_n 0, 1, (0, 0, 0, 0), 0) := rfl
theorem s4_13 {c : Nat → List AV → SS → Option Out} {l1 : Option AV} {o : OId} {L2 : List (Nat × AV)} {St : List AV} {S : SS} : ev c 4 13 [some (aR o), l1] L2 St S = ev c 4 14 [some (aR o), l1] L2 (aR o :: St) S := ev_go i4_13 rfl
theorem i4_14 : insAt 4 14 = some (.iconst 0, 1, (0, 0, 0, 0), 0) := rfl
theorem s4_14 {c : Nat → List AV → SS → Option Out} {l0 l1 : Option AV} {L2 : List (Nat × AV)} {St : List AV} {S : SS} : ev c 4 14 [l0, l1] L2 St S = ev c 4 15 [l0, l1] L2 (aI 0 :: St) S := ev_go i4_14 rfl
theorem i4_15 : insAt 4 15 = some (.putfield 17, 3, (5, 1, 0, 0), 0) := rfl
theorem s4_15 {c : Nat → List AV → SS → Option Out} {l0 l1 : Option AV} {j t : Nat} {x : Int32} {L2 : List (Nat × AV)} {St : List AV} {S : SS} : ev c 4 15 [l0, l1] L2 (aI x :: aR (5, j, t) :: St) S = ev c 4 18 [l0, l1] L2 St (setI S.1 (5, j, t) 1 x, S.2) := ev_go i4_15 rfl
theorem i4_18 : insAt 4 18 = some (.aload_n 0, 1, (0, 0, 0, 0), 0) := rfl
theorem s4_18 {c : Nat → List AV → SS → Option Out} {l1 : Option AV} {o : OId} {L2 : List (Nat × AV)} {St : List AV} {S : SS} : ev c 4 18 [some (aR o), l1] L2 St S = ev c 4 19 [some (aR o), l1] L2 (aR o :: St) S := ev_go i4_18 rfl
theorem i4_19 : insAt 4 19 = some (.iconst 0, 1, (0, 0, 0, 0), 0) := rfl
theorem s4_19 {c : Nat → List AV → SS → Option Out} {l0 l1 : Option AV} {L2 : List (Nat × AV)} {St : List AV} {S : SS} : ev c 4 19 [l0, l1] L2 St S = ev c 4 20 [l0, l1] L2 (aI 0 :: St) S := ev_go i4_19 rfl
theorem i4_20 : insAt 4 20 = some (.putfield 21, 3, (5, 2, 0, 0), 0) := rfl
theorem s4_20 {c : Nat → List AV → SS → Option Out} {l0 l1 : Option AV} {j t : Nat} {x : Int32} {L2 : List (Nat × AV)} {St : List AV} {S : SS} : ev c 4 20 [l0, l1] L2 (aI x :: aR (5, j, t) :: St) S = ev c 4 23 [l0, l1] L2 St (setI S.1 (5, j, t) 2 x, S.2) := ev_go i4_20 rfl
theorem i4_23 : insAt 4 23 = some (.iconst 0, 1, (0, 0, 0, 0), 0) := rfl
theorem s4_23 {c : Nat → List AV → SS → Option Out} {l0 l1 : Option AV} {L2 : List (Nat × AV)} {St : List AV} {S : SS} : ev c 4 23 [l0, l1] L2 St S = ev c 4 24 [l0, l1] L2 (aI 0 :: St) S := ev_go i4_23 rfl
theorem i4_24 : insAt 4 24 = some (.istore_n 1, 1, (0, 0, 0, 0), 0) := rfl
theorem s4_24 {c : Nat → List AV → SS → Option Out} {l0 l1 : Option AV} {x : Int32} {L2 : List (Nat × AV)} {St : List AV} {S : SS} : ev c 4 24 [l0, l1] L2 (aI x :: St) S = ev c 4 25 [l0, some (aI x)] (kil L2 1) St S := ev_go i4_24 rfl
theorem i4_25 : insAt 4 25 = some (.iload_n 1, 1, (0, 0, 0, 0), 0) := rfl
theorem s4_25 {c : Nat → List AV → SS → Option Out} {l0 : Option AV} {x : Int32} {L2 : List (Nat × AV)} {St : List AV} {S : SS} : ev c 4 25 [l0, some (aI x)] L2 St S = ev c 4 26 [l0, some (aI x)] L2 (aI x :: St) S := ev_go i4_25 rfl
theorem i4_26 : insAt 4 26 = some (.bipush 6, 2, (0, 0, 0, 0), 0) := rfl
theorem s4_26 {c : Nat → List AV → SS → Option Out} {l0 l1 : Option AV} {L2 : List (Nat × AV)} {St : List AV} {S : SS} : ev c 4 26 [l0, l1] L2 St S = ev c 4 28 [l0, l1] L2 (aI 6 :: St) S := ev_go i4_26 rfl
theorem i4_28 : insAt 4 28 = some (.if_icmp .ge 22, 3, (0, 0, 0, 0), 0) := rfl
theorem s4_28 {c : Nat → List AV → SS → Option Out} {l0 l1 : Option AV} {x y : Int32} {L2 : List (Nat × AV)} {St : List AV} {S : SS} : ev c 4 28 [l0, l1] L2 (aI y :: aI x :: St) S = if y ≤ x then ev c 4 50 [l0, l1] L2 St S else ev c 4 31 [l0, l1] L2 St S := ev_br i4_28 rfl
theorem i4_31 : insAt 4 31 = some (.aload_n 0, 1, (0, 0, 0, 0), 0) := rfl
theorem s4_31 {c : Nat → List AV → SS → Option Out} {l1 : Option AV} {o : OId} {L2 : List (Nat × AV)} {St : List AV} {S : SS} : ev c 4 31 [some (aR o), l1] L2 St S = ev c 4 32 [some (aR o), l1] L2 (aR o :: St) S := ev_go i4_31 rfl
theorem i4_32 : insAt 4 32 = some (.getfield 11, 3, (5, 0, 0, 0), 0) := rfl
theorem s4_32 {c : Nat → List AV → SS → Option Out} {l0 l1 : Option AV} {j t : Nat} {L2 : List (Nat × AV)} {St : List AV} {S : SS} : ev c 4 32 [l0, l1] L2 (aR (5, j, t) :: St) S = ev c 4 35 [l0, l1] L2 (S.2.2.1 (5, j, t) 0 :: St) S := ev_go i4_32 rfl
theorem i4_35 : insAt 4 35 = some (.iload_n 1, 1, (0, 0, 0, 0), 0) := rfl
theorem s4_35 {c : Nat → List AV → SS → Option Out} {l0 : Option AV} {x : Int32} {L2 : List (Nat × AV)} {St : List AV} {S : SS} : ev c 4 35 [l0, some (aI x)] L2 St S = ev c 4 36 [l0, some (aI x)] L2 (aI x :: St) S := ev_go i4_35 rfl
theorem i4_36 : insAt 4 36 = some (.new 9, 3, (4, 0, 0, 0), 0) := rfl
theorem i4_39 : insAt 4 39 = some (.dup, 1, (0, 0, 0, 0), 0) := rfl
theorem s4_39 {c : Nat → List AV → SS → Option Out} {l0 l1 : Option AV} {x : OId} {L2 : List (Nat × AV)} {St : List AV} {S : SS} : ev c 4 39 [l0, l1] L2 (aR x :: St) S = ev c 4 40 [l0, l1] L2 (aR x :: aR x :: St) S := ev_go i4_39 rfl
theorem i4_40 : insAt 4 40 = some (.invokespecial 24, 3, (1, 0, 6, 4), 0) := rfl
theorem s4_40 {c : Nat → List AV → SS → Option Out} {l0 l1 : Option AV} {t0 t1 t2 : AV} {j t : Nat} {L2 : List (Nat × AV)} {S : SS} : ev c 4 40 [l0, l1] L2 [aR (4, j, t), t0, t1, t2] S = ck (c 1 [aR (4, j, t)] S) (fun v S' => ev c 4 43 [l0, l1] L2 (v.toList ++ [t0, t1, t2]) S') := ev_call i4_40 rfl
theorem i4_43 : insAt 4 43 = some (.aastore, 1, (0, 0, 0, 0), 0) := rfl
theorem i4_44 : insAt 4 44 = some (.iinc 1 1, 3, (0, 0, 0, 0), 0) := rfl
theorem s4_44 {c : Nat → List AV → SS → Option Out} {l0 : Option AV} {x : Int32} {L2 : List (Nat × AV)} {St : List AV} {S : SS} : ev c 4 44 [l0, some (aI x)] L2 St S = ev c 4 47 [l0, some (aI (x + 1))] (kil L2 1) St S := ev_go i4_44 rfl
theorem i4_47 : insAt 4 47 = some (.goto (-22), 3, (0, 0, 0, 0), 0) := rfl
theorem s4_47 {c : Nat → List AV → SS → Option Out} {l0 l1 : Option AV} {L2 : List (Nat × AV)} {St : List AV} {S : SS} : ev c 4 47 [l0, l1] L2 St S = ev c 4 25 [l0, l1] L2 St S := ev_go i4_47 rfl
theorem i4_50 : insAt 4 50 = some (.return_, 1, (0, 0, 0, 0), 0) := rfl
theorem s4_50 {c : Nat → List AV → SS → Option Out} {l0 l1 : Option AV} {L2 : List (Nat × AV)} {St : List AV} {S : SS} : ev c 4 50 [l0, l1] L2 [] S = some (.inl none, S) := ev_end i4_50 rfl
theorem m4 {d : Nat} {o : OId} {S : SS} : evm (d + 1) 4 [aR o] S = ev (evm d) 4 0 [some (aR o), none] [] [] S := evm_s (n := 2) rfl (Nat.le_of_ble_eq_true rfl) rfl rfl
/-! FrequencyOffice$Net.<init>()V -/
theorem i5_0 : insAt 5 0 = some (.aload_n 0, 1, (0, 0, 0, 0), 0) := rfl
theorem s5_0 {c : Nat → List AV → SS → Option Out} {o : OId} {L2 : List (Nat × AV)} {St : List AV} {S : SS} : ev c 5 0 [some (aR o)] L2 St S = ev c 5 1 [some (aR o)] L2 (aR o :: St) S := ev_go i5_0 rfl
theorem i5_1 : insAt 5 1 = some (.invokespecial 3, 3, (0, 0, 20, 0), 0) := rfl
theorem s5_1 {c : Nat → List AV → SS → Option Out} {l0 : Option AV} {o : OId} {L2 : List (Nat × AV)} {St : List AV} {S : SS} : ev c 5 1 [l0] L2 (aR o :: St) S = ev c 5 4 [l0] L2 St S := ev_go i5_1 rfl
theorem i5_4 : insAt 5 4 = some (.aload_n 0, 1, (0, 0, 0, 0), 0) := rfl
theorem s5_4 {c : Nat → List AV → SS → Option Out} {o : OId} {L2 : List (Nat × AV)} {St : List AV} {S : SS} : ev c 5 4 [some (aR o)] L2 St S = ev c 5 5 [some (aR o)] L2 (aR o :: St) S := ev_go i5_4 rfl
theorem i5_5 : insAt 5 5 = some (.iconst 0, 1, (0, 0, 0, 0), 0) := rfl
theorem s5_5 {c : Nat → List AV → SS → Option Out} {l0 : Option AV} {L2 : List (Nat × AV)} {St : List AV} {S : SS} : ev c 5 5 [l0] L2 St S = ev c 5 6 [l0] L2 (aI 0 :: St) S := ev_go i5_5 rfl
theorem i5_6 : insAt 5 6 = some (.putfield 9, 3, (6, 0, 0, 0), 0) := rfl
theorem s5_6 {c : Nat → List AV → SS → Option Out} {l0 : Option AV} {j t : Nat} {x : Int32} {L2 : List (Nat × AV)} {St : List AV} {S : SS} : ev c 5 6 [l0] L2 (aI x :: aR (6, j, t) :: St) S = ev c 5 9 [l0] L2 St (setI S.1 (6, j, t) 0 x, S.2) := ev_go i5_6 rfl
theorem i5_9 : insAt 5 9 = some (.aload_n 0, 1, (0, 0, 0, 0), 0) := rfl
theorem s5_9 {c : Nat → List AV → SS → Option Out} {o : OId} {L2 : List (Nat × AV)} {St : List AV} {S : SS} : ev c 5 9 [some (aR o)] L2 St S = ev c 5 10 [some (aR o)] L2 (aR o :: St) S := ev_go i5_9 rfl
theorem i5_10 : insAt 5 10 = some (.bipush 7, 2, (0, 0, 0, 0), 0) := rfl
theorem s5_10 {c : Nat → List AV → SS → Option Out} {l0 : Option AV} {L2 : List (Nat × AV)} {St : List AV} {S : SS} : ev c 5 10 [l0] L2 St S = ev c 5 12 [l0] L2 (aI 7 :: St) S := ev_go i5_10 rfl
theorem i5_12 : insAt 5 12 = some (.newarray .int, 2, (0, 0, 0, 0), 0) := rfl
theorem i5_14 : insAt 5 14 = some (.putfield 15, 3, (6, 1, 0, 0), 0) := rfl
theorem s5_14 {c : Nat → List AV → SS → Option Out} {l0 : Option AV} {j t : Nat} {p : OId} {L2 : List (Nat × AV)} {St : List AV} {S : SS} : ev c 5 14 [l0] L2 (aR p :: aR (6, j, t) :: St) S = ev c 5 17 [l0] L2 St (S.1, S.2.1, setV S.2.2.1 (6, j, t) 1 (aR p), S.2.2.2) := ev_go i5_14 rfl
theorem i5_17 : insAt 5 17 = some (.aload_n 0, 1, (0, 0, 0, 0), 0) := rfl
theorem s5_17 {c : Nat → List AV → SS → Option Out} {o : OId} {L2 : List (Nat × AV)} {St : List AV} {S : SS} : ev c 5 17 [some (aR o)] L2 St S = ev c 5 18 [some (aR o)] L2 (aR o :: St) S := ev_go i5_17 rfl
theorem i5_18 : insAt 5 18 = some (.bipush 7, 2, (0, 0, 0, 0), 0) := rfl
theorem s5_18 {c : Nat → List AV → SS → Option Out} {l0 : Option AV} {L2 : List (Nat × AV)} {St : List AV} {S : SS} : ev c 5 18 [l0] L2 St S = ev c 5 20 [l0] L2 (aI 7 :: St) S := ev_go i5_18 rfl
theorem i5_20 : insAt 5 20 = some (.newarray .int, 2, (0, 0, 0, 0), 0) := rfl
theorem i5_22 : insAt 5 22 = some (.putfield 19, 3, (6, 2, 0, 0), 0) := rfl
theorem s5_22 {c : Nat → List AV → SS → Option Out} {l0 : Option AV} {j t : Nat} {p : OId} {L2 : List (Nat × AV)} {St : List AV} {S : SS} : ev c 5 22 [l0] L2 (aR p :: aR (6, j, t) :: St) S = ev c 5 25 [l0] L2 St (S.1, S.2.1, setV S.2.2.1 (6, j, t) 2 (aR p), S.2.2.2) := ev_go i5_22 rfl
theorem i5_25 : insAt 5 25 = some (.aload_n 0, 1, (0, 0, 0, 0), 0) := rfl
theorem s5_25 {c : Nat → List AV → SS → Option Out} {o : OId} {L2 : List (Nat × AV)} {St : List AV} {S : SS} : ev c 5 25 [some (aR o)] L2 St S = ev c 5 26 [some (aR o)] L2 (aR o :: St) S := ev_go i5_25 rfl
theorem i5_26 : insAt 5 26 = some (.bipush 7, 2, (0, 0, 0, 0), 0) := rfl
theorem s5_26 {c : Nat → List AV → SS → Option Out} {l0 : Option AV} {L2 : List (Nat × AV)} {St : List AV} {S : SS} : ev c 5 26 [l0] L2 St S = ev c 5 28 [l0] L2 (aI 7 :: St) S := ev_go i5_26 rfl
theorem i5_28 : insAt 5 28 = some (.newarray .int, 2, (0, 0, 0, 0), 0) := rfl
theorem i5_30 : insAt 5 30 = some (.putfield 22, 3, (6, 3, 0, 0), 0) := rfl
theorem s5_30 {c : Nat → List AV → SS → Option Out} {l0 : Option AV} {j t : Nat} {p : OId} {L2 : List (Nat × AV)} {St : List AV} {S : SS} : ev c 5 30 [l0] L2 (aR p :: aR (6, j, t) :: St) S = ev c 5 33 [l0] L2 St (S.1, S.2.1, setV S.2.2.1 (6, j, t) 3 (aR p), S.2.2.2) := ev_go i5_30 rfl
theorem i5_33 : insAt 5 33 = some (.aload_n 0, 1, (0, 0, 0, 0), 0) := rfl
theorem s5_33 {c : Nat → List AV → SS → Option Out} {o : OId} {L2 : List (Nat × AV)} {St : List AV} {S : SS} : ev c 5 33 [some (aR o)] L2 St S = ev c 5 34 [some (aR o)] L2 (aR o :: St) S := ev_go i5_33 rfl
theorem i5_34 : insAt 5 34 = some (.bipush 49, 2, (0, 0, 0, 0), 0) := rfl
theorem s5_34 {c : Nat → List AV → SS → Option Out} {l0 : Option AV} {L2 : List (Nat × AV)} {St : List AV} {S : SS} : ev c 5 34 [l0] L2 St S = ev c 5 36 [l0] L2 (aI 49 :: St) S := ev_go i5_34 rfl
theorem i5_36 : insAt 5 36 = some (.newarray .int, 2, (0, 0, 0, 0), 0) := rfl
theorem i5_38 : insAt 5 38 = some (.putfield 25, 3, (6, 4, 0, 0), 0) := rfl
theorem s5_38 {c : Nat → List AV → SS → Option Out} {l0 : Option AV} {j t : Nat} {p : OId} {L2 : List (Nat × AV)} {St : List AV} {S : SS} : ev c 5 38 [l0] L2 (aR p :: aR (6, j, t) :: St) S = ev c 5 41 [l0] L2 St (S.1, S.2.1, setV S.2.2.1 (6, j, t) 4 (aR p), S.2.2.2) := ev_go i5_38 rfl
theorem i5_41 : insAt 5 41 = some (.return_, 1, (0, 0, 0, 0), 0) := rfl
theorem s5_41 {c : Nat → List AV → SS → Option Out} {l0 : Option AV} {L2 : List (Nat × AV)} {St : List AV} {S : SS} : ev c 5 41 [l0] L2 [] S = some (.inl none, S) := ev_end i5_41 rfl
theorem m5 {d : Nat} {o : OId} {S : SS} : evm (d + 1) 5 [aR o] S = ev (evm d) 5 0 [some (aR o)] [] [] S := evm_s (n := 1) rfl (Nat.le_of_ble_eq_true rfl) rfl rfl
/-! FrequencyOffice$Search.<init>(LFrequencyOffice$Net;)V -/
theorem i6_0 : insAt 6 0 = some (.aload_n 0, 1, (0, 0, 0, 0), 0) := rfl
theorem s6_0 {c : Nat → List AV → SS → Option Out} {l1 : Option AV} {o : OId} {L2 : List (Nat × AV)} {St : List AV} {S : SS} : ev c 6 0 [some (aR o), l1] L2 St S = ev c 6 1 [some (aR o), l1] L2 (aR o :: St) S := ev_go i6_0 rfl
theorem i6_1 : insAt 6 1 = some (.invokespecial 3, 3, (0, 0, 20, 0), 0) := rfl
theorem s6_1 {c : Nat → List AV → SS → Option Out} {l0 l1 : Option AV} {o : OId} {L2 : List (Nat × AV)} {St : List AV} {S : SS} : ev c 6 1 [l0, l1] L2 (aR o :: St) S = ev c 6 4 [l0, l1] L2 St S := ev_go i6_1 rfl
theorem i6_4 : insAt 6 4 = some (.aload_n 0, 1, (0, 0, 0, 0), 0) := rfl
theorem s6_4 {c : Nat → List AV → SS → Option Out} {l1 : Option AV} {o : OId} {L2 : List (Nat × AV)} {St : List AV} {S : SS} : ev c 6 4 [some (aR o), l1] L2 St S = ev c 6 5 [some (aR o), l1] L2 (aR o :: St) S := ev_go i6_4 rfl
theorem i6_5 : insAt 6 5 = some (.new 9, 3, (7, 0, 0, 0), 0) := rfl
theorem i6_8 : insAt 6 8 = some (.dup, 1, (0, 0, 0, 0), 0) := rfl
theorem s6_8 {c : Nat → List AV → SS → Option Out} {l0 l1 : Option AV} {x : OId} {L2 : List (Nat × AV)} {St : List AV} {S : SS} : ev c 6 8 [l0, l1] L2 (aR x :: St) S = ev c 6 9 [l0, l1] L2 (aR x :: aR x :: St) S := ev_go i6_8 rfl
theorem i6_9 : insAt 6 9 = some (.invokespecial 11, 3, (3, 0, 6, 7), 0) := rfl
theorem s6_9 {c : Nat → List AV → SS → Option Out} {l0 l1 : Option AV} {t0 t1 : AV} {j t : Nat} {L2 : List (Nat × AV)} {S : SS} : ev c 6 9 [l0, l1] L2 [aR (7, j, t), t0, t1] S = ck (c 3 [aR (7, j, t)] S) (fun v S' => ev c 6 12 [l0, l1] L2 (v.toList ++ [t0, t1]) S') := ev_call i6_9 rfl
theorem i6_12 : insAt 6 12 = some (.putfield 12, 3, (8, 1, 0, 0), 0) := rfl
theorem s6_12 {c : Nat → List AV → SS → Option Out} {l0 l1 : Option AV} {j t : Nat} {p : OId} {L2 : List (Nat × AV)} {St : List AV} {S : SS} : ev c 6 12 [l0, l1] L2 (aR p :: aR (8, j, t) :: St) S = ev c 6 15 [l0, l1] L2 St (S.1, S.2.1, setV S.2.2.1 (8, j, t) 1 (aR p), S.2.2.2) := ev_go i6_12 rfl
theorem i6_15 : insAt 6 15 = some (.aload_n 0, 1, (0, 0, 0, 0), 0) := rfl
theorem s6_15 {c : Nat → List AV → SS → Option Out} {l1 : Option AV} {o : OId} {L2 : List (Nat × AV)} {St : List AV} {S : SS} : ev c 6 15 [some (aR o), l1] L2 St S = ev c 6 16 [some (aR o), l1] L2 (aR o :: St) S := ev_go i6_15 rfl
theorem i6_16 : insAt 6 16 = some (.bipush 7, 2, (0, 0, 0, 0), 0) := rfl
theorem s6_16 {c : Nat → List AV → SS → Option Out} {l0 l1 : Option AV} {L2 : List (Nat × AV)} {St : List AV} {S : SS} : ev c 6 16 [l0, l1] L2 St S = ev c 6 18 [l0, l1] L2 (aI 7 :: St) S := ev_go i6_16 rfl
theorem i6_18 : insAt 6 18 = some (.newarray .int, 2, (0, 0, 0, 0), 0) := rfl
theorem i6_20 : insAt 6 20 = some (.putfield 18, 3, (8, 2, 0, 0), 0) := rfl
theorem s6_20 {c : Nat → List AV → SS → Option Out} {l0 l1 : Option AV} {j t : Nat} {p : OId} {L2 : List (Nat × AV)} {St : List AV} {S : SS} : ev c 6 20 [l0, l1] L2 (aR p :: aR (8, j, t) :: St) S = ev c 6 23 [l0, l1] L2 St (S.1, S.2.1, setV S.2.2.1 (8, j, t) 2 (aR p), S.2.2.2) := ev_go i6_20 rfl
theorem i6_23 : insAt 6 23 = some (.aload_n 0, 1, (0, 0, 0, 0), 0) := rfl
theorem s6_23 {c : Nat → List AV → SS → Option Out} {l1 : Option AV} {o : OId} {L2 : List (Nat × AV)} {St : List AV} {S : SS} : ev c 6 23 [some (aR o), l1] L2 St S = ev c 6 24 [some (aR o), l1] L2 (aR o :: St) S := ev_go i6_23 rfl
theorem i6_24 : insAt 6 24 = some (.bipush 7, 2, (0, 0, 0, 0), 0) := rfl
theorem s6_24 {c : Nat → List AV → SS → Option Out} {l0 l1 : Option AV} {L2 : List (Nat × AV)} {St : List AV} {S : SS} : ev c 6 24 [l0, l1] L2 St S = ev c 6 26 [l0, l1] L2 (aI 7 :: St) S := ev_go i6_24 rfl
theorem i6_26 : insAt 6 26 = some (.newarray .boolean, 2, (0, 0, 0, 0), 0) := rfl
theorem i6_28 : insAt 6 28 = some (.putfield 22, 3, (8, 3, 0, 0), 0) := rfl
theorem s6_28 {c : Nat → List AV → SS → Option Out} {l0 l1 : Option AV} {j t : Nat} {p : OId} {L2 : List (Nat × AV)} {St : List AV} {S : SS} : ev c 6 28 [l0, l1] L2 (aR p :: aR (8, j, t) :: St) S = ev c 6 31 [l0, l1] L2 St (S.1, S.2.1, setV S.2.2.1 (8, j, t) 3 (aR p), S.2.2.2) := ev_go i6_28 rfl
theorem i6_31 : insAt 6 31 = some (.aload_n 0, 1, (0, 0, 0, 0), 0) := rfl
theorem s6_31 {c : Nat → List AV → SS → Option Out} {l1 : Option AV} {o : OId} {L2 : List (Nat × AV)} {St : List AV} {S : SS} : ev c 6 31 [some (aR o), l1] L2 St S = ev c 6 32 [some (aR o), l1] L2 (aR o :: St) S := ev_go i6_31 rfl
theorem i6_32 : insAt 6 32 = some (.sipush 2451, 3, (0, 0, 0, 0), 0) := rfl
theorem s6_32 {c : Nat → List AV → SS → Option Out} {l0 l1 : Option AV} {L2 : List (Nat × AV)} {St : List AV} {S : SS} : ev c 6 32 [l0, l1] L2 St S = ev c 6 35 [l0, l1] L2 (aI 2451 :: St) S := ev_go i6_32 rfl
theorem i6_35 : insAt 6 35 = some (.newarray .int, 2, (0, 0, 0, 0), 0) := rfl
theorem i6_37 : insAt 6 37 = some (.putfield 26, 3, (8, 4, 0, 0), 0) := rfl
theorem s6_37 {c : Nat → List AV → SS → Option Out} {l0 l1 : Option AV} {j t : Nat} {p : OId} {L2 : List (Nat × AV)} {St : List AV} {S : SS} : ev c 6 37 [l0, l1] L2 (aR p :: aR (8, j, t) :: St) S = ev c 6 40 [l0, l1] L2 St (S.1, S.2.1, setV S.2.2.1 (8, j, t) 4 (aR p), S.2.2.2) := ev_go i6_37 rfl
theorem i6_40 : insAt 6 40 = some (.aload_n 0, 1, (0, 0, 0, 0), 0) := rfl
theorem s6_40 {c : Nat → List AV → SS → Option Out} {l1 : Option AV} {o : OId} {L2 : List (Nat × AV)} {St : List AV} {S : SS} : ev c 6 40 [some (aR o), l1] L2 St S = ev c 6 41 [some (aR o), l1] L2 (aR o :: St) S := ev_go i6_40 rfl
theorem i6_41 : insAt 6 41 = some (.sipush 255, 3, (0, 0, 0, 0), 0) := rfl
theorem s6_41 {c : Nat → List AV → SS → Option Out} {l0 l1 : Option AV} {L2 : List (Nat × AV)} {St : List AV} {S : SS} : ev c 6 41 [l0, l1] L2 St S = ev c 6 44 [l0, l1] L2 (aI 255 :: St) S := ev_go i6_41 rfl
theorem i6_44 : insAt 6 44 = some (.putfield 29, 3, (8, 5, 0, 0), 0) := rfl
theorem s6_44 {c : Nat → List AV → SS → Option Out} {l0 l1 : Option AV} {j t : Nat} {x : Int32} {L2 : List (Nat × AV)} {St : List AV} {S : SS} : ev c 6 44 [l0, l1] L2 (aI x :: aR (8, j, t) :: St) S = ev c 6 47 [l0, l1] L2 St (setI S.1 (8, j, t) 5 x, S.2) := ev_go i6_44 rfl
theorem i6_47 : insAt 6 47 = some (.aload_n 0, 1, (0, 0, 0, 0), 0) := rfl
theorem s6_47 {c : Nat → List AV → SS → Option Out} {l1 : Option AV} {o : OId} {L2 : List (Nat × AV)} {St : List AV} {S : SS} : ev c 6 47 [some (aR o), l1] L2 St S = ev c 6 48 [some (aR o), l1] L2 (aR o :: St) S := ev_go i6_47 rfl
theorem i6_48 : insAt 6 48 = some (.iconst (-1), 1, (0, 0, 0, 0), 0) := rfl
theorem s6_48 {c : Nat → List AV → SS → Option Out} {l0 l1 : Option AV} {L2 : List (Nat × AV)} {St : List AV} {S : SS} : ev c 6 48 [l0, l1] L2 St S = ev c 6 49 [l0, l1] L2 (aI (-1) :: St) S := ev_go i6_48 rfl
theorem i6_49 : insAt 6 49 = some (.putfield 33, 3, (8, 6, 0, 0), 0) := rfl
theorem s6_49 {c : Nat → List AV → SS → Option Out} {l0 l1 : Option AV} {j t : Nat} {x : Int32} {L2 : List (Nat × AV)} {St : List AV} {S : SS} : ev c 6 49 [l0, l1] L2 (aI x :: aR (8, j, t) :: St) S = ev c 6 52 [l0, l1] L2 St (setI S.1 (8, j, t) 6 x, S.2) := ev_go i6_49 rfl
theorem i6_52 : insAt 6 52 = some (.aload_n 0, 1, (0, 0, 0, 0), 0) := rfl
theorem s6_52 {c : Nat → List AV → SS → Option Out} {l1 : Option AV} {o : OId} {L2 : List (Nat × AV)} {St : List AV} {S : SS} : ev c 6 52 [some (aR o), l1] L2 St S = ev c 6 53 [some (aR o), l1] L2 (aR o :: St) S := ev_go i6_52 rfl
theorem i6_53 : insAt 6 53 = some (.aload_n 1, 1, (0, 0, 0, 0), 0) := rfl
theorem s6_53 {c : Nat → List AV → SS → Option Out} {l0 : Option AV} {o : OId} {L2 : List (Nat × AV)} {St : List AV} {S : SS} : ev c 6 53 [l0, some (aR o)] L2 St S = ev c 6 54 [l0, some (aR o)] L2 (aR o :: St) S := ev_go i6_53 rfl
theorem i6_54 : insAt 6 54 = some (.putfield 36, 3, (8, 0, 0, 0), 0) := rfl
theorem s6_54 {c : Nat → List AV → SS → Option Out} {l0 l1 : Option AV} {j t : Nat} {p : OId} {L2 : List (Nat × AV)} {St : List AV} {S : SS} : ev c 6 54 [l0, l1] L2 (aR p :: aR (8, j, t) :: St) S = ev c 6 57 [l0, l1] L2 St (S.1, S.2.1, setV S.2.2.1 (8, j, t) 0 (aR p), S.2.2.2) := ev_go i6_54 rfl
theorem i6_57 : insAt 6 57 = some (.return_, 1, (0, 0, 0, 0), 0) := rfl
theorem s6_57 {c : Nat → List AV → SS → Option Out} {l0 l1 : Option AV} {L2 : List (Nat × AV)} {St : List AV} {S : SS} : ev c 6 57 [l0, l1] L2 [] S = some (.inl none, S) := ev_end i6_57 rfl
theorem m6 {d : Nat} {o : OId} {a0 : OId} {S : SS} : evm (d + 1) 6 [aR o, aR a0] S = ev (evm d) 6 0 [some (aR o), some (aR a0)] [] [] S := evm_s (n := 2) rfl (Nat.le_of_ble_eq_true rfl) rfl rfl
/-! FrequencyOffice$Spans.<init>(LFrequencyOffice$Net;)V -/
theorem i7_0 : insAt 7 0 = some (.aload_n 0, 1, (0, 0, 0, 0), 0) := rfl
theorem s7_0 {c : Nat → List AV → SS → Option Out} {l1 : Option AV} {o : OId} {L2 : List (Nat × AV)} {St : List AV} {S : SS} : ev c 7 0 [some (aR o), l1] L2 St S = ev c 7 1 [some (aR o), l1] L2 (aR o :: St) S := ev_go i7_0 rfl
theorem i7_1 : insAt 7 1 = some (.invokespecial 3, 3, (0, 0, 20, 0), 0) := rfl
theorem s7_1 {c : Nat → List AV → SS → Option Out} {l0 l1 : Option AV} {o : OId} {L2 : List (Nat × AV)} {St : List AV} {S : SS} : ev c 7 1 [l0, l1] L2 (aR o :: St) S = ev c 7 4 [l0, l1] L2 St S := ev_go i7_1 rfl
theorem i7_4 : insAt 7 4 = some (.aload_n 0, 1, (0, 0, 0, 0), 0) := rfl
theorem s7_4 {c : Nat → List AV → SS → Option Out} {l1 : Option AV} {o : OId} {L2 : List (Nat × AV)} {St : List AV} {S : SS} : ev c 7 4 [some (aR o), l1] L2 St S = ev c 7 5 [some (aR o), l1] L2 (aR o :: St) S := ev_go i7_4 rfl
theorem i7_5 : insAt 7 5 = some (.bipush 7, 2, (0, 0, 0, 0), 0) := rfl
theorem s7_5 {c : Nat → List AV → SS → Option Out} {l0 l1 : Option AV} {L2 : List (Nat × AV)} {St : List AV} {S : SS} : ev c 7 5 [l0, l1] L2 St S = ev c 7 7 [l0, l1] L2 (aI 7 :: St) S := ev_go i7_5 rfl
theorem i7_7 : insAt 7 7 = some (.newarray .int, 2, (0, 0, 0, 0), 0) := rfl
theorem i7_9 : insAt 7 9 = some (.putfield 9, 3, (9, 1, 0, 0), 0) := rfl
theorem s7_9 {c : Nat → List AV → SS → Option Out} {l0 l1 : Option AV} {j t : Nat} {p : OId} {L2 : List (Nat × AV)} {St : List AV} {S : SS} : ev c 7 9 [l0, l1] L2 (aR p :: aR (9, j, t) :: St) S = ev c 7 12 [l0, l1] L2 St (S.1, S.2.1, setV S.2.2.1 (9, j, t) 1 (aR p), S.2.2.2) := ev_go i7_9 rfl
theorem i7_12 : insAt 7 12 = some (.aload_n 0, 1, (0, 0, 0, 0), 0) := rfl
theorem s7_12 {c : Nat → List AV → SS → Option Out} {l1 : Option AV} {o : OId} {L2 : List (Nat × AV)} {St : List AV} {S : SS} : ev c 7 12 [some (aR o), l1] L2 St S = ev c 7 13 [some (aR o), l1] L2 (aR o :: St) S := ev_go i7_12 rfl
theorem i7_13 : insAt 7 13 = some (.bipush 49, 2, (0, 0, 0, 0), 0) := rfl
theorem s7_13 {c : Nat → List AV → SS → Option Out} {l0 l1 : Option AV} {L2 : List (Nat × AV)} {St : List AV} {S : SS} : ev c 7 13 [l0, l1] L2 St S = ev c 7 15 [l0, l1] L2 (aI 49 :: St) S := ev_go i7_13 rfl
theorem i7_15 : insAt 7 15 = some (.newarray .long, 2, (0, 0, 0, 0), 0) := rfl
theorem i7_17 : insAt 7 17 = some (.putfield 15, 3, (9, 2, 0, 0), 0) := rfl
theorem s7_17 {c : Nat → List AV → SS → Option Out} {l0 l1 : Option AV} {j t : Nat} {p : OId} {L2 : List (Nat × AV)} {St : List AV} {S : SS} : ev c 7 17 [l0, l1] L2 (aR p :: aR (9, j, t) :: St) S = ev c 7 20 [l0, l1] L2 St (S.1, S.2.1, setV S.2.2.1 (9, j, t) 2 (aR p), S.2.2.2) := ev_go i7_17 rfl
theorem i7_20 : insAt 7 20 = some (.aload_n 0, 1, (0, 0, 0, 0), 0) := rfl
theorem s7_20 {c : Nat → List AV → SS → Option Out} {l1 : Option AV} {o : OId} {L2 : List (Nat × AV)} {St : List AV} {S : SS} : ev c 7 20 [some (aR o), l1] L2 St S = ev c 7 21 [some (aR o), l1] L2 (aR o :: St) S := ev_go i7_20 rfl
theorem i7_21 : insAt 7 21 = some (.aload_n 1, 1, (0, 0, 0, 0), 0) := rfl
theorem s7_21 {c : Nat → List AV → SS → Option Out} {l0 : Option AV} {o : OId} {L2 : List (Nat × AV)} {St : List AV} {S : SS} : ev c 7 21 [l0, some (aR o)] L2 St S = ev c 7 22 [l0, some (aR o)] L2 (aR o :: St) S := ev_go i7_21 rfl
theorem i7_22 : insAt 7 22 = some (.putfield 19, 3, (9, 0, 0, 0), 0) := rfl
theorem s7_22 {c : Nat → List AV → SS → Option Out} {l0 l1 : Option AV} {j t : Nat} {p : OId} {L2 : List (Nat × AV)} {St : List AV} {S : SS} : ev c 7 22 [l0, l1] L2 (aR p :: aR (9, j, t) :: St) S = ev c 7 25 [l0, l1] L2 St (S.1, S.2.1, setV S.2.2.1 (9, j, t) 0 (aR p), S.2.2.2) := ev_go i7_22 rfl
theorem i7_25 : insAt 7 25 = some (.return_, 1, (0, 0, 0, 0), 0) := rfl
theorem s7_25 {c : Nat → List AV → SS → Option Out} {l0 l1 : Option AV} {L2 : List (Nat × AV)} {St : List AV} {S : SS} : ev c 7 25 [l0, l1] L2 [] S = some (.inl none, S) := ev_end i7_25 rfl
theorem m7 {d : Nat} {o : OId} {a0 : OId} {S : SS} : evm (d + 1) 7 [aR o, aR a0] S = ev (evm d) 7 0 [some (aR o), some (aR a0)] [] [] S := evm_s (n := 2) rfl (Nat.le_of_ble_eq_true rfl) rfl rfl
/-! FrequencyOffice$Books.countLicensed()I -/
theorem i16_0 : insAt 16 0 = some (.iconst 0, 1, (0, 0, 0, 0), 0) := rfl
theorem s16_0 {c : Nat → List AV → SS → Option Out} {l0 l1 l2 : Option AV} {L2 : List (Nat × AV)} {St : List AV} {S : SS} : ev c 16 0 [l0, l1, l2] L2 St S = ev c 16 1 [l0, l1, l2] L2 (aI 0 :: St) S := ev_go i16_0 rfl
theorem i16_1 : insAt 16 1 = some (.istore_n 1, 1, (0, 0, 0, 0), 0) := rfl
theorem s16_1 {c : Nat → List AV → SS → Option Out} {l0 l1 l2 : Option AV} {x : Int32} {L2 : List (Nat × AV)} {St : List AV} {S : SS} : ev c 16 1 [l0, l1, l2] L2 (aI x :: St) S = ev c 16 2 [l0, some (aI x), l2] (kil L2 1) St S := ev_go i16_1 rfl
theorem i16_2 : insAt 16 2 = some (.iconst 0, 1, (0, 0, 0, 0), 0) := rfl
theorem s16_2 {c : Nat → List AV → SS → Option Out} {l0 l1 l2 : Option AV} {L2 : List (Nat × AV)} {St : List AV} {S : SS} : ev c 16 2 [l0, l1, l2] L2 St S = ev c 16 3 [l0, l1, l2] L2 (aI 0 :: St) S := ev_go i16_2 rfl
theorem i16_3 : insAt 16 3 = some (.istore_n 2, 1, (0, 0, 0, 0), 0) := rfl
theorem s16_3 {c : Nat → List AV → SS → Option Out} {l0 l1 l2 : Option AV} {x : Int32} {L2 : List (Nat × AV)} {St : List AV} {S : SS} : ev c 16 3 [l0, l1, l2] L2 (aI x :: St) S = ev c 16 4 [l0, l1, some (aI x)] (kil L2 2) St S := ev_go i16_3 rfl
theorem i16_4 : insAt 16 4 = some (.iload_n 2, 1, (0, 0, 0, 0), 0) := rfl
theorem s16_4 {c : Nat → List AV → SS → Option Out} {l0 l1 : Option AV} {x : Int32} {L2 : List (Nat × AV)} {St : List AV} {S : SS} : ev c 16 4 [l0, l1, some (aI x)] L2 St S = ev c 16 5 [l0, l1, some (aI x)] L2 (aI x :: St) S := ev_go i16_4 rfl
theorem i16_5 : insAt 16 5 = some (.aload_n 0, 1, (0, 0, 0, 0), 0) := rfl
theorem s16_5 {c : Nat → List AV → SS → Option Out} {l1 l2 : Option AV} {o : OId} {L2 : List (Nat × AV)} {St : List AV} {S : SS} : ev c 16 5 [some (aR o), l1, l2] L2 St S = ev c 16 6 [some (aR o), l1, l2] L2 (aR o :: St) S := ev_go i16_5 rfl
theorem i16_6 : insAt 16 6 = some (.getfield 33, 3, (4, 7, 0, 0), 0) := rfl
theorem s16_6 {c : Nat → List AV → SS → Option Out} {l0 l1 l2 : Option AV} {j t : Nat} {L2 : List (Nat × AV)} {St : List AV} {S : SS} : ev c 16 6 [l0, l1, l2] L2 (aR (4, j, t) :: St) S = ev c 16 9 [l0, l1, l2] L2 (aI (S.1 (4, j, t) 7) :: St) S := ev_go i16_6 rfl
theorem i16_9 : insAt 16 9 = some (.if_icmp .ge 28, 3, (0, 0, 0, 0), 0) := rfl
theorem s16_9 {c : Nat → List AV → SS → Option Out} {l0 l1 l2 : Option AV} {x y : Int32} {L2 : List (Nat × AV)} {St : List AV} {S : SS} : ev c 16 9 [l0, l1, l2] L2 (aI y :: aI x :: St) S = if y ≤ x then ev c 16 37 [l0, l1, l2] L2 St S else ev c 16 12 [l0, l1, l2] L2 St S := ev_br i16_9 rfl
theorem i16_12 : insAt 16 12 = some (.iload_n 1, 1, (0, 0, 0, 0), 0) := rfl
theorem s16_12 {c : Nat → List AV → SS → Option Out} {l0 l2 : Option AV} {x : Int32} {L2 : List (Nat × AV)} {St : List AV} {S : SS} : ev c 16 12 [l0, some (aI x), l2] L2 St S = ev c 16 13 [l0, some (aI x), l2] L2 (aI x :: St) S := ev_go i16_12 rfl
theorem i16_13 : insAt 16 13 = some (.aload_n 0, 1, (0, 0, 0, 0), 0) := rfl
theorem s16_13 {c : Nat → List AV → SS → Option Out} {l1 l2 : Option AV} {o : OId} {L2 : List (Nat × AV)} {St : List AV} {S : SS} : ev c 16 13 [some (aR o), l1, l2] L2 St S = ev c 16 14 [some (aR o), l1, l2] L2 (aR o :: St) S := ev_go i16_13 rfl
theorem i16_14 : insAt 16 14 = some (.iload_n 2, 1, (0, 0, 0, 0), 0) := rfl
theorem s16_14 {c : Nat → List AV → SS → Option Out} {l0 l1 : Option AV} {x : Int32} {L2 : List (Nat × AV)} {St : List AV} {S : SS} : ev c 16 14 [l0, l1, some (aI x)] L2 St S = ev c 16 15 [l0, l1, some (aI x)] L2 (aI x :: St) S := ev_go i16_14 rfl
theorem i16_15 : insAt 16 15 = some (.invokevirtual 58, 3, (17, 1, 2, 4), 0) := rfl
theorem s16_15 {c : Nat → List AV → SS → Option Out} {l0 l1 l2 : Option AV} {t0 : AV} {a0 : Int32} {j t : Nat} {L2 : List (Nat × AV)} {S : SS} : ev c 16 15 [l0, l1, l2] L2 [aI a0, aR (4, j, t), t0] S = ck (c 17 [aR (4, j, t), aI a0] S) (fun v S' => ev c 16 18 [l0, l1, l2] L2 (v.toList ++ [t0]) S') := ev_call i16_15 rfl
theorem i16_18 : insAt 16 18 = some (.getfield 87, 3, (10, 5, 1, 0), 0) := rfl
theorem s16_18 {c : Nat → List AV → SS → Option Out} {l0 l1 l2 : Option AV} {j t : Nat} {L2 : List (Nat × AV)} {St : List AV} {S : SS} : ev c 16 18 [l0, l1, l2] L2 (aR (10, j, t) :: St) S = ev c 16 21 [l0, l1, l2] L2 (aI (bb (S.1 (10, j, t) 5)) :: St) S := ev_go i16_18 rfl
theorem i16_21 : insAt 16 21 = some (.ifCond .eq 7, 3, (0, 0, 0, 0), 0) := rfl
theorem s16_21 {c : Nat → List AV → SS → Option Out} {l0 l1 l2 : Option AV} {x : Int32} {L2 : List (Nat × AV)} {St : List AV} {S : SS} : ev c 16 21 [l0, l1, l2] L2 (aI x :: St) S = if x = 0 then ev c 16 28 [l0, l1, l2] L2 St S else ev c 16 24 [l0, l1, l2] L2 St S := ev_br i16_21 rfl
theorem i16_24 : insAt 16 24 = some (.iconst 0, 1, (0, 0, 0, 0), 0) := rfl
theorem s16_24 {c : Nat → List AV → SS → Option Out} {l0 l1 l2 : Option AV} {L2 : List (Nat × AV)} {St : List AV} {S : SS} : ev c 16 24 [l0, l1, l2] L2 St S = ev c 16 25 [l0, l1, l2] L2 (aI 0 :: St) S := ev_go i16_24 rfl
theorem i16_25 : insAt 16 25 = some (.goto 4, 3, (0, 0, 0, 0), 0) := rfl
theorem s16_25 {c : Nat → List AV → SS → Option Out} {l0 l1 l2 : Option AV} {L2 : List (Nat × AV)} {St : List AV} {S : SS} : ev c 16 25 [l0, l1, l2] L2 St S = ev c 16 29 [l0, l1, l2] L2 St S := ev_go i16_25 rfl
theorem i16_28 : insAt 16 28 = some (.iconst 1, 1, (0, 0, 0, 0), 0) := rfl
theorem s16_28 {c : Nat → List AV → SS → Option Out} {l0 l1 l2 : Option AV} {L2 : List (Nat × AV)} {St : List AV} {S : SS} : ev c 16 28 [l0, l1, l2] L2 St S = ev c 16 29 [l0, l1, l2] L2 (aI 1 :: St) S := ev_go i16_28 rfl
theorem i16_29 : insAt 16 29 = some (.iadd, 1, (0, 0, 0, 0), 0) := rfl
theorem s16_29 {c : Nat → List AV → SS → Option Out} {l0 l1 l2 : Option AV} {x y : Int32} {L2 : List (Nat × AV)} {St : List AV} {S : SS} : ev c 16 29 [l0, l1, l2] L2 (aI y :: aI x :: St) S = ev c 16 30 [l0, l1, l2] L2 (aI (x + y) :: St) S := ev_go i16_29 rfl
theorem i16_30 : insAt 16 30 = some (.istore_n 1, 1, (0, 0, 0, 0), 0) := rfl
theorem s16_30 {c : Nat → List AV → SS → Option Out} {l0 l1 l2 : Option AV} {x : Int32} {L2 : List (Nat × AV)} {St : List AV} {S : SS} : ev c 16 30 [l0, l1, l2] L2 (aI x :: St) S = ev c 16 31 [l0, some (aI x), l2] (kil L2 1) St S := ev_go i16_30 rfl
theorem i16_31 : insAt 16 31 = some (.iinc 2 1, 3, (0, 0, 0, 0), 0) := rfl
theorem s16_31 {c : Nat → List AV → SS → Option Out} {l0 l1 : Option AV} {x : Int32} {L2 : List (Nat × AV)} {St : List AV} {S : SS} : ev c 16 31 [l0, l1, some (aI x)] L2 St S = ev c 16 34 [l0, l1, some (aI (x + 1))] (kil L2 2) St S := ev_go i16_31 rfl
theorem i16_34 : insAt 16 34 = some (.goto (-30), 3, (0, 0, 0, 0), 0) := rfl
theorem s16_34 {c : Nat → List AV → SS → Option Out} {l0 l1 l2 : Option AV} {L2 : List (Nat × AV)} {St : List AV} {S : SS} : ev c 16 34 [l0, l1, l2] L2 St S = ev c 16 4 [l0, l1, l2] L2 St S := ev_go i16_34 rfl
theorem i16_37 : insAt 16 37 = some (.iload_n 1, 1, (0, 0, 0, 0), 0) := rfl
theorem s16_37 {c : Nat → List AV → SS → Option Out} {l0 l2 : Option AV} {x : Int32} {L2 : List (Nat × AV)} {St : List AV} {S : SS} : ev c 16 37 [l0, some (aI x), l2] L2 St S = ev c 16 38 [l0, some (aI x), l2] L2 (aI x :: St) S := ev_go i16_37 rfl
theorem i16_38 : insAt 16 38 = some (.ireturn, 1, (0, 0, 0, 0), 0) := rfl
theorem s16_38 {c : Nat → List AV → SS → Option Out} {l0 l1 l2 : Option AV} {x : Int32} {L2 : List (Nat × AV)} {St : List AV} {S : SS} : ev c 16 38 [l0, l1, l2] L2 [aI x] S = some (.inl (some (aI x)), S) := ev_end i16_38 rfl
theorem m16 {d : Nat} {o : OId} {S : SS} : evm (d + 1) 16 [aR o] S = ev (evm d) 16 0 [some (aR o), none, none] [] [] S := evm_s (n := 3) rfl (Nat.le_of_ble_eq_true rfl) rfl rfl
/-! FrequencyOffice$Books.at(I)LFrequencyOffice$Station; -/
theorem i17_0 : insAt 17 0 = some (.iload_n 1, 1, (0, 0, 0, 0), 0) := rfl
theorem s17_0 {c : Nat → List AV → SS → Option Out} {l0 l2 : Option AV} {x : Int32} {L2 : List (Nat × AV)} {St : List AV} {S : SS} : ev c 17 0 [l0, some (aI x), l2] L2 St S = ev c 17 1 [l0, some (aI x), l2] L2 (aI x :: St) S := ev_go i17_0 rfl
theorem i17_1 : insAt 17 1 = some (.ifCond .lt 12, 3, (0, 0, 0, 0), 0) := rfl
theorem s17_1 {c : Nat → List AV → SS → Option Out} {l0 l1 l2 : Option AV} {x : Int32} {L2 : List (Nat × AV)} {St : List AV} {S : SS} : ev c 17 1 [l0, l1, l2] L2 (aI x :: St) S = if x < 0 then ev c 17 13 [l0, l1, l2] L2 St S else ev c 17 4 [l0, l1, l2] L2 St S := ev_br i17_1 rfl
theorem i17_4 : insAt 17 4 = some (.iload_n 1, 1, (0, 0, 0, 0), 0) := rfl
theorem s17_4 {c : Nat → List AV → SS → Option Out} {l0 l2 : Option AV} {x : Int32} {L2 : List (Nat × AV)} {St : List AV} {S : SS} : ev c 17 4 [l0, some (aI x), l2] L2 St S = ev c 17 5 [l0, some (aI x), l2] L2 (aI x :: St) S := ev_go i17_4 rfl
theorem i17_5 : insAt 17 5 = some (.aload_n 0, 1, (0, 0, 0, 0), 0) := rfl
theorem s17_5 {c : Nat → List AV → SS → Option Out} {l1 l2 : Option AV} {o : OId} {L2 : List (Nat × AV)} {St : List AV} {S : SS} : ev c 17 5 [some (aR o), l1, l2] L2 St S = ev c 17 6 [some (aR o), l1, l2] L2 (aR o :: St) S := ev_go i17_5 rfl
theorem i17_6 : insAt 17 6 = some (.getfield 38, 3, (4, 8, 0, 0), 0) := rfl
theorem s17_6 {c : Nat → List AV → SS → Option Out} {l0 l1 l2 : Option AV} {j t : Nat} {L2 : List (Nat × AV)} {St : List AV} {S : SS} : ev c 17 6 [l0, l1, l2] L2 (aR (4, j, t) :: St) S = ev c 17 9 [l0, l1, l2] L2 (S.2.2.1 (4, j, t) 8 :: St) S := ev_go i17_6 rfl
theorem i17_9 : insAt 17 9 = some (.arraylength, 1, (0, 0, 0, 0), 0) := rfl
theorem s17_9 {c : Nat → List AV → SS → Option Out} {l0 l1 l2 : Option AV} {o : OId} {L2 : List (Nat × AV)} {St : List AV} {S : SS} : ev c 17 9 [l0, l1, l2] L2 (aR o :: St) S = kN o (fun x => ev c 17 10 [l0, l1, l2] L2 (aI x :: St) S) := ev_alen i17_9
theorem i17_10 : insAt 17 10 = some (.if_icmp .lt 8, 3, (0, 0, 0, 0), 0) := rfl
theorem s17_10 {c : Nat → List AV → SS → Option Out} {l0 l1 l2 : Option AV} {x y : Int32} {L2 : List (Nat × AV)} {St : List AV} {S : SS} : ev c 17 10 [l0, l1, l2] L2 (aI y :: aI x :: St) S = if x < y then ev c 17 18 [l0, l1, l2] L2 St S else ev c 17 13 [l0, l1, l2] L2 St S := ev_br i17_10 rfl
theorem i17_13 : insAt 17 13 = some (.aload_n 0, 1, (0, 0, 0, 0), 0) := rfl
theorem s17_13 {c : Nat → List AV → SS → Option Out} {l1 l2 : Option AV} {o : OId} {L2 : List (Nat × AV)} {St : List AV} {S : SS} : ev c 17 13 [some (aR o), l1, l2] L2 St S = ev c 17 14 [some (aR o), l1, l2] L2 (aR o :: St) S := ev_go i17_13 rfl
theorem i17_14 : insAt 17 14 = some (.getfield 43, 3, (4, 9, 0, 0), 0) := rfl
theorem s17_14 {c : Nat → List AV → SS → Option Out} {l0 l1 l2 : Option AV} {j t : Nat} {L2 : List (Nat × AV)} {St : List AV} {S : SS} : ev c 17 14 [l0, l1, l2] L2 (aR (4, j, t) :: St) S = ev c 17 17 [l0, l1, l2] L2 (S.2.2.1 (4, j, t) 9 :: St) S := ev_go i17_14 rfl
theorem i17_17 : insAt 17 17 = some (.areturn, 1, (0, 0, 0, 0), 0) := rfl
theorem s17_17 {c : Nat → List AV → SS → Option Out} {l0 l1 l2 : Option AV} {o : OId} {L2 : List (Nat × AV)} {St : List AV} {S : SS} : ev c 17 17 [l0, l1, l2] L2 [aR o] S = some (.inl (some (aR o)), S) := ev_end i17_17 rfl
theorem s17_17N {c : Nat → List AV → SS → Option Out} {l0 l1 l2 : Option AV} {L2 : List (Nat × AV)} {S : SS} : ev c 17 17 [l0, l1, l2] L2 [aN] S = some (.inl (some aN), S) := ev_end i17_17 rfl
theorem i17_18 : insAt 17 18 = some (.aload_n 0, 1, (0, 0, 0, 0), 0) := rfl
theorem s17_18 {c : Nat → List AV → SS → Option Out} {l1 l2 : Option AV} {o : OId} {L2 : List (Nat × AV)} {St : List AV} {S : SS} : ev c 17 18 [some (aR o), l1, l2] L2 St S = ev c 17 19 [some (aR o), l1, l2] L2 (aR o :: St) S := ev_go i17_18 rfl
theorem i17_19 : insAt 17 19 = some (.getfield 38, 3, (4, 8, 0, 0), 0) := rfl
theorem s17_19 {c : Nat → List AV → SS → Option Out} {l0 l1 l2 : Option AV} {j t : Nat} {L2 : List (Nat × AV)} {St : List AV} {S : SS} : ev c 17 19 [l0, l1, l2] L2 (aR (4, j, t) :: St) S = ev c 17 22 [l0, l1, l2] L2 (S.2.2.1 (4, j, t) 8 :: St) S := ev_go i17_19 rfl
theorem i17_22 : insAt 17 22 = some (.iload_n 1, 1, (0, 0, 0, 0), 0) := rfl
theorem s17_22 {c : Nat → List AV → SS → Option Out} {l0 l2 : Option AV} {x : Int32} {L2 : List (Nat × AV)} {St : List AV} {S : SS} : ev c 17 22 [l0, some (aI x), l2] L2 St S = ev c 17 23 [l0, some (aI x), l2] L2 (aI x :: St) S := ev_go i17_22 rfl
theorem i17_23 : insAt 17 23 = some (.aaload, 1, (0, 0, 0, 0), 0) := rfl
theorem s17_23 {c : Nat → List AV → SS → Option Out} {l0 l1 l2 : Option AV} {i : Int32} {o : OId} {L2 : List (Nat × AV)} {St : List AV} {S : SS} : ev c 17 23 [l0, l1, l2] L2 (aI i :: aR o :: St) S = kQ o i (ev c 17 24 [l0, l1, l2] L2 (S.2.2.1 o i.toNatClampNeg :: St) S) := ev_aaload i17_23
theorem i17_24 : insAt 17 24 = some (.astore_n 2, 1, (0, 0, 0, 0), 0) := rfl
theorem s17_24 {c : Nat → List AV → SS → Option Out} {l0 l1 l2 : Option AV} {o : OId} {L2 : List (Nat × AV)} {St : List AV} {S : SS} : ev c 17 24 [l0, l1, l2] L2 (aR o :: St) S = ev c 17 25 [l0, l1, some (aR o)] (kil L2 2) St S := ev_go i17_24 rfl
theorem i17_25 : insAt 17 25 = some (.aload_n 2, 1, (0, 0, 0, 0), 0) := rfl
theorem s17_25 {c : Nat → List AV → SS → Option Out} {l0 l1 : Option AV} {o : OId} {L2 : List (Nat × AV)} {St : List AV} {S : SS} : ev c 17 25 [l0, l1, some (aR o)] L2 St S = ev c 17 26 [l0, l1, some (aR o)] L2 (aR o :: St) S := ev_go i17_25 rfl
theorem i17_26 : insAt 17 26 = some (.ifnonnull 10, 3, (0, 0, 0, 0), 0) := rfl
theorem s17_26 {c : Nat → List AV → SS → Option Out} {l0 l1 l2 : Option AV} {j t : Nat} {L2 : List (Nat × AV)} {St : List AV} {S : SS} : ev c 17 26 [l0, l1, l2] L2 (aR (10, j, t) :: St) S = ev c 17 36 [l0, l1, l2] L2 St S := ev_go i17_26 rfl
theorem s17_26N {c : Nat → List AV → SS → Option Out} {l0 l1 l2 : Option AV} {L2 : List (Nat × AV)} {St : List AV} {S : SS} : ev c 17 26 [l0, l1, l2] L2 (aN :: St) S = ev c 17 29 [l0, l1, l2] L2 St S := ev_go i17_26 rfl
theorem i17_29 : insAt 17 29 = some (.aload_n 0, 1, (0, 0, 0, 0), 0) := rfl
theorem s17_29 {c : Nat → List AV → SS → Option Out} {l1 l2 : Option AV} {o : OId} {L2 : List (Nat × AV)} {St : List AV} {S : SS} : ev c 17 29 [some (aR o), l1, l2] L2 St S = ev c 17 30 [some (aR o), l1, l2] L2 (aR o :: St) S := ev_go i17_29 rfl
theorem i17_30 : insAt 17 30 = some (.getfield 43, 3, (4, 9, 0, 0), 0) := rfl
theorem s17_30 {c : Nat → List AV → SS → Option Out} {l0 l1 l2 : Option AV} {j t : Nat} {L2 : List (Nat × AV)} {St : List AV} {S : SS} : ev c 17 30 [l0, l1, l2] L2 (aR (4, j, t) :: St) S = ev c 17 33 [l0, l1, l2] L2 (S.2.2.1 (4, j, t) 9 :: St) S := ev_go i17_30 rfl
theorem i17_33 : insAt 17 33 = some (.goto 4, 3, (0, 0, 0, 0), 0) := rfl
theorem s17_33 {c : Nat → List AV → SS → Option Out} {l0 l1 l2 : Option AV} {L2 : List (Nat × AV)} {St : List AV} {S : SS} : ev c 17 33 [l0, l1, l2] L2 St S = ev c 17 37 [l0, l1, l2] L2 St S := ev_go i17_33 rfl
theorem i17_36 : insAt 17 36 = some (.aload_n 2, 1, (0, 0, 0, 0), 0) := rfl
theorem s17_36 {c : Nat → List AV → SS → Option Out} {l0 l1 : Option AV} {o : OId} {L2 : List (Nat × AV)} {St : List AV} {S : SS} : ev c 17 36 [l0, l1, some (aR o)] L2 St S = ev c 17 37 [l0, l1, some (aR o)] L2 (aR o :: St) S := ev_go i17_36 rfl
theorem i17_37 : insAt 17 37 = some (.areturn, 1, (0, 0, 0, 0), 0) := rfl
theorem s17_37 {c : Nat → List AV → SS → Option Out} {l0 l1 l2 : Option AV} {o : OId} {L2 : List (Nat × AV)} {St : List AV} {S : SS} : ev c 17 37 [l0, l1, l2] L2 [aR o] S = some (.inl (some (aR o)), S) := ev_end i17_37 rfl
theorem s17_37N {c : Nat → List AV → SS → Option Out} {l0 l1 l2 : Option AV} {L2 : List (Nat × AV)} {S : SS} : ev c 17 37 [l0, l1, l2] L2 [aN] S = some (.inl (some aN), S) := ev_end i17_37 rfl
theorem m17 {d : Nat} {o : OId} {a0 : Int32} {S : SS} : evm (d + 1) 17 [aR o, aI a0] S = ev (evm d) 17 0 [some (aR o), some (aI a0), none] [] [] S := evm_s (n := 3) rfl (Nat.le_of_ble_eq_true rfl) rfl rfl
/-! FrequencyOffice$Books.find(I)I -/
theorem i19_0 : insAt 19 0 = some (.iconst 0, 1, (0, 0, 0, 0), 0) := rfl
theorem s19_0 {c : Nat → List AV → SS → Option Out} {l0 l1 l2 : Option AV} {L2 : List (Nat × AV)} {St : List AV} {S : SS} : ev c 19 0 [l0, l1, l2] L2 St S = ev c 19 1 [l0, l1, l2] L2 (aI 0 :: St) S := ev_go i19_0 rfl
theorem i19_1 : insAt 19 1 = some (.istore_n 2, 1, (0, 0, 0, 0), 0) := rfl
theorem s19_1 {c : Nat → List AV → SS → Option Out} {l0 l1 l2 : Option AV} {x : Int32} {L2 : List (Nat × AV)} {St : List AV} {S : SS} : ev c 19 1 [l0, l1, l2] L2 (aI x :: St) S = ev c 19 2 [l0, l1, some (aI x)] (kil L2 2) St S := ev_go i19_1 rfl
theorem i19_2 : insAt 19 2 = some (.iload_n 2, 1, (0, 0, 0, 0), 0) := rfl
theorem s19_2 {c : Nat → List AV → SS → Option Out} {l0 l1 : Option AV} {x : Int32} {L2 : List (Nat × AV)} {St : List AV} {S : SS} : ev c 19 2 [l0, l1, some (aI x)] L2 St S = ev c 19 3 [l0, l1, some (aI x)] L2 (aI x :: St) S := ev_go i19_2 rfl
theorem i19_3 : insAt 19 3 = some (.aload_n 0, 1, (0, 0, 0, 0), 0) := rfl
theorem s19_3 {c : Nat → List AV → SS → Option Out} {l1 l2 : Option AV} {o : OId} {L2 : List (Nat × AV)} {St : List AV} {S : SS} : ev c 19 3 [some (aR o), l1, l2] L2 St S = ev c 19 4 [some (aR o), l1, l2] L2 (aR o :: St) S := ev_go i19_3 rfl
theorem i19_4 : insAt 19 4 = some (.getfield 33, 3, (4, 7, 0, 0), 0) := rfl
theorem s19_4 {c : Nat → List AV → SS → Option Out} {l0 l1 l2 : Option AV} {j t : Nat} {L2 : List (Nat × AV)} {St : List AV} {S : SS} : ev c 19 4 [l0, l1, l2] L2 (aR (4, j, t) :: St) S = ev c 19 7 [l0, l1, l2] L2 (aI (S.1 (4, j, t) 7) :: St) S := ev_go i19_4 rfl
theorem i19_7 : insAt 19 7 = some (.if_icmp .ge 23, 3, (0, 0, 0, 0), 0) := rfl
theorem s19_7 {c : Nat → List AV → SS → Option Out} {l0 l1 l2 : Option AV} {x y : Int32} {L2 : List (Nat × AV)} {St : List AV} {S : SS} : ev c 19 7 [l0, l1, l2] L2 (aI y :: aI x :: St) S = if y ≤ x then ev c 19 30 [l0, l1, l2] L2 St S else ev c 19 10 [l0, l1, l2] L2 St S := ev_br i19_7 rfl
theorem i19_10 : insAt 19 10 = some (.aload_n 0, 1, (0, 0, 0, 0), 0) := rfl
theorem s19_10 {c : Nat → List AV → SS → Option Out} {l1 l2 : Option AV} {o : OId} {L2 : List (Nat × AV)} {St : List AV} {S : SS} : ev c 19 10 [some (aR o), l1, l2] L2 St S = ev c 19 11 [some (aR o), l1, l2] L2 (aR o :: St) S := ev_go i19_10 rfl
theorem i19_11 : insAt 19 11 = some (.iload_n 2, 1, (0, 0, 0, 0), 0) := rfl
theorem s19_11 {c : Nat → List AV → SS → Option Out} {l0 l1 : Option AV} {x : Int32} {L2 : List (Nat × AV)} {St : List AV} {S : SS} : ev c 19 11 [l0, l1, some (aI x)] L2 St S = ev c 19 12 [l0, l1, some (aI x)] L2 (aI x :: St) S := ev_go i19_11 rfl
theorem i19_12 : insAt 19 12 = some (.invokevirtual 58, 3, (17, 1, 2, 4), 0) := rfl
theorem s19_12 {c : Nat → List AV → SS → Option Out} {l0 l1 l2 : Option AV} {a0 : Int32} {j t : Nat} {L2 : List (Nat × AV)} {S : SS} : ev c 19 12 [l0, l1, l2] L2 [aI a0, aR (4, j, t)] S = ck (c 17 [aR (4, j, t), aI a0] S) (fun v S' => ev c 19 15 [l0, l1, l2] L2 (v.toList ++ []) S') := ev_call i19_12 rfl
theorem i19_15 : insAt 19 15 = some (.getfield 75, 3, (10, 0, 1, 0), 0) := rfl
theorem s19_15 {c : Nat → List AV → SS → Option Out} {l0 l1 l2 : Option AV} {j t : Nat} {L2 : List (Nat × AV)} {St : List AV} {S : SS} : ev c 19 15 [l0, l1, l2] L2 (aR (10, j, t) :: St) S = ev c 19 18 [l0, l1, l2] L2 (aI (S.1 (10, j, t) 0) :: St) S := ev_go i19_15 rfl
theorem i19_18 : insAt 19 18 = some (.iload_n 1, 1, (0, 0, 0, 0), 0) := rfl
theorem s19_18 {c : Nat → List AV → SS → Option Out} {l0 l2 : Option AV} {x : Int32} {L2 : List (Nat × AV)} {St : List AV} {S : SS} : ev c 19 18 [l0, some (aI x), l2] L2 St S = ev c 19 19 [l0, some (aI x), l2] L2 (aI x :: St) S := ev_go i19_18 rfl
theorem i19_19 : insAt 19 19 = some (.if_icmp .ne 5, 3, (0, 0, 0, 0), 0) := rfl
theorem s19_19 {c : Nat → List AV → SS → Option Out} {l0 l1 l2 : Option AV} {x y : Int32} {L2 : List (Nat × AV)} {St : List AV} {S : SS} : ev c 19 19 [l0, l1, l2] L2 (aI y :: aI x :: St) S = if x = y then ev c 19 22 [l0, l1, l2] L2 St S else ev c 19 24 [l0, l1, l2] L2 St S := (ev_br i19_19 rfl).trans (ite_not _ _ _)
theorem i19_22 : insAt 19 22 = some (.iload_n 2, 1, (0, 0, 0, 0), 0) := rfl
theorem s19_22 {c : Nat → List AV → SS → Option Out} {l0 l1 : Option AV} {x : Int32} {L2 : List (Nat × AV)} {St : List AV} {S : SS} : ev c 19 22 [l0, l1, some (aI x)] L2 St S = ev c 19 23 [l0, l1, some (aI x)] L2 (aI x :: St) S := ev_go i19_22 rfl
theorem i19_23 : insAt 19 23 = some (.ireturn, 1, (0, 0, 0, 0), 0) := rfl
theorem s19_23 {c : Nat → List AV → SS → Option Out} {l0 l1 l2 : Option AV} {x : Int32} {L2 : List (Nat × AV)} {St : List AV} {S : SS} : ev c 19 23 [l0, l1, l2] L2 [aI x] S = some (.inl (some (aI x)), S) := ev_end i19_23 rfl
theorem i19_24 : insAt 19 24 = some (.iinc 2 1, 3, (0, 0, 0, 0), 0) := rfl
theorem s19_24 {c : Nat → List AV → SS → Option Out} {l0 l1 : Option AV} {x : Int32} {L2 : List (Nat × AV)} {St : List AV} {S : SS} : ev c 19 24 [l0, l1, some (aI x)] L2 St S = ev c 19 27 [l0, l1, some (aI (x + 1))] (kil L2 2) St S := ev_go i19_24 rfl
theorem i19_27 : insAt 19 27 = some (.goto (-25), 3, (0, 0, 0, 0), 0) := rfl
theorem s19_27 {c : Nat → List AV → SS → Option Out} {l0 l1 l2 : Option AV} {L2 : List (Nat × AV)} {St : List AV} {S : SS} : ev c 19 27 [l0, l1, l2] L2 St S = ev c 19 2 [l0, l1, l2] L2 St S := ev_go i19_27 rfl
theorem i19_30 : insAt 19 30 = some (.iconst (-1), 1, (0, 0, 0, 0), 0) := rfl
theorem s19_30 {c : Nat → List AV → SS → Option Out} {l0 l1 l2 : Option AV} {L2 : List (Nat × AV)} {St : List AV} {S : SS} : ev c 19 30 [l0, l1, l2] L2 St S = ev c 19 31 [l0, l1, l2] L2 (aI (-1) :: St) S := ev_go i19_30 rfl
theorem i19_31 : insAt 19 31 = some (.ireturn, 1, (0, 0, 0, 0), 0) := rfl
theorem s19_31 {c : Nat → List AV → SS → Option Out} {l0 l1 l2 : Option AV} {x : Int32} {L2 : List (Nat × AV)} {St : List AV} {S : SS} : ev c 19 31 [l0, l1, l2] L2 [aI x] S = some (.inl (some (aI x)), S) := ev_end i19_31 rfl
theorem m19 {d : Nat} {o : OId} {a0 : Int32} {S : SS} : evm (d + 1) 19 [aR o, aI a0] S = ev (evm d) 19 0 [some (aR o), some (aI a0), none] [] [] S := evm_s (n := 3) rfl (Nat.le_of_ble_eq_true rfl) rfl rfl
/-! FrequencyOffice$Books.conflictsBefore(I)Z -/
theorem i23_0 : insAt 23 0 = some (.iconst 0, 1, (0, 0, 0, 0), 0) := rfl
theorem s23_0 {c : Nat → List AV → SS → Option Out} {l0 l1 l2 : Option AV} {L2 : List (Nat × AV)} {St : List AV} {S : SS} : ev c 23 0 [l0, l1, l2] L2 St S = ev c 23 1 [l0, l1, l2] L2 (aI 0 :: St) S := ev_go i23_0 rfl
theorem i23_1 : insAt 23 1 = some (.istore_n 2, 1, (0, 0, 0, 0), 0) := rfl
theorem s23_1 {c : Nat → List AV → SS → Option Out} {l0 l1 l2 : Option AV} {x : Int32} {L2 : List (Nat × AV)} {St : List AV} {S : SS} : ev c 23 1 [l0, l1, l2] L2 (aI x :: St) S = ev c 23 2 [l0, l1, some (aI x)] (kil L2 2) St S := ev_go i23_1 rfl
theorem i23_2 : insAt 23 2 = some (.iload_n 2, 1, (0, 0, 0, 0), 0) := rfl
theorem s23_2 {c : Nat → List AV → SS → Option Out} {l0 l1 : Option AV} {x : Int32} {L2 : List (Nat × AV)} {St : List AV} {S : SS} : ev c 23 2 [l0, l1, some (aI x)] L2 St S = ev c 23 3 [l0, l1, some (aI x)] L2 (aI x :: St) S := ev_go i23_2 rfl
theorem i23_3 : insAt 23 3 = some (.iload_n 1, 1, (0, 0, 0, 0), 0) := rfl
theorem s23_3 {c : Nat → List AV → SS → Option Out} {l0 l2 : Option AV} {x : Int32} {L2 : List (Nat × AV)} {St : List AV} {S : SS} : ev c 23 3 [l0, some (aI x), l2] L2 St S = ev c 23 4 [l0, some (aI x), l2] L2 (aI x :: St) S := ev_go i23_3 rfl
theorem i23_4 : insAt 23 4 = some (.if_icmp .ge 20, 3, (0, 0, 0, 0), 0) := rfl
theorem s23_4 {c : Nat → List AV → SS → Option Out} {l0 l1 l2 : Option AV} {x y : Int32} {L2 : List (Nat × AV)} {St : List AV} {S : SS} : ev c 23 4 [l0, l1, l2] L2 (aI y :: aI x :: St) S = if y ≤ x then ev c 23 24 [l0, l1, l2] L2 St S else ev c 23 7 [l0, l1, l2] L2 St S := ev_br i23_4 rfl
theorem i23_7 : insAt 23 7 = some (.aload_n 0, 1, (0, 0, 0, 0), 0) := rfl
theorem s23_7 {c : Nat → List AV → SS → Option Out} {l1 l2 : Option AV} {o : OId} {L2 : List (Nat × AV)} {St : List AV} {S : SS} : ev c 23 7 [some (aR o), l1, l2] L2 St S = ev c 23 8 [some (aR o), l1, l2] L2 (aR o :: St) S := ev_go i23_7 rfl
theorem i23_8 : insAt 23 8 = some (.iload_n 2, 1, (0, 0, 0, 0), 0) := rfl
theorem s23_8 {c : Nat → List AV → SS → Option Out} {l0 l1 : Option AV} {x : Int32} {L2 : List (Nat × AV)} {St : List AV} {S : SS} : ev c 23 8 [l0, l1, some (aI x)] L2 St S = ev c 23 9 [l0, l1, some (aI x)] L2 (aI x :: St) S := ev_go i23_8 rfl
theorem i23_9 : insAt 23 9 = some (.iload_n 1, 1, (0, 0, 0, 0), 0) := rfl
theorem s23_9 {c : Nat → List AV → SS → Option Out} {l0 l2 : Option AV} {x : Int32} {L2 : List (Nat × AV)} {St : List AV} {S : SS} : ev c 23 9 [l0, some (aI x), l2] L2 St S = ev c 23 10 [l0, some (aI x), l2] L2 (aI x :: St) S := ev_go i23_9 rfl
theorem i23_10 : insAt 23 10 = some (.invokevirtual 137, 3, (24, 2, 2, 4), 0) := rfl
theorem s23_10 {c : Nat → List AV → SS → Option Out} {l0 l1 l2 : Option AV} {a0 : Int32} {a1 : Int32} {j t : Nat} {L2 : List (Nat × AV)} {S : SS} : ev c 23 10 [l0, l1, l2] L2 [aI a1, aI a0, aR (4, j, t)] S = ck (c 24 [aR (4, j, t), aI a0, aI a1] S) (fun v S' => ev c 23 13 [l0, l1, l2] L2 (v.toList ++ []) S') := ev_call i23_10 rfl
theorem i23_13 : insAt 23 13 = some (.ifCond .ge 5, 3, (0, 0, 0, 0), 0) := rfl
theorem s23_13 {c : Nat → List AV → SS → Option Out} {l0 l1 l2 : Option AV} {x : Int32} {L2 : List (Nat × AV)} {St : List AV} {S : SS} : ev c 23 13 [l0, l1, l2] L2 (aI x :: St) S = if 0 ≤ x then ev c 23 18 [l0, l1, l2] L2 St S else ev c 23 16 [l0, l1, l2] L2 St S := ev_br i23_13 rfl
theorem i23_16 : insAt 23 16 = some (.iconst 1, 1, (0, 0, 0, 0), 0) := rfl
theorem s23_16 {c : Nat → List AV → SS → Option Out} {l0 l1 l2 : Option AV} {L2 : List (Nat × AV)} {St : List AV} {S : SS} : ev c 23 16 [l0, l1, l2] L2 St S = ev c 23 17 [l0, l1, l2] L2 (aI 1 :: St) S := ev_go i23_16 rfl
theorem i23_17 : insAt 23 17 = some (.ireturn, 1, (0, 0, 0, 0), 0) := rfl
theorem s23_17 {c : Nat → List AV → SS → Option Out} {l0 l1 l2 : Option AV} {x : Int32} {L2 : List (Nat × AV)} {St : List AV} {S : SS} : ev c 23 17 [l0, l1, l2] L2 [aI x] S = if x = 0 ∨ x = 1 then some (.inl (some (aI x)), S) else none := ev_rt i23_17 rfl
theorem i23_18 : insAt 23 18 = some (.iinc 2 1, 3, (0, 0, 0, 0), 0) := rfl
theorem s23_18 {c : Nat → List AV → SS → Option Out} {l0 l1 : Option AV} {x : Int32} {L2 : List (Nat × AV)} {St : List AV} {S : SS} : ev c 23 18 [l0, l1, some (aI x)] L2 St S = ev c 23 21 [l0, l1, some (aI (x + 1))] (kil L2 2) St S := ev_go i23_18 rfl
theorem i23_21 : insAt 23 21 = some (.goto (-19), 3, (0, 0, 0, 0), 0) := rfl
theorem s23_21 {c : Nat → List AV → SS → Option Out} {l0 l1 l2 : Option AV} {L2 : List (Nat × AV)} {St : List AV} {S : SS} : ev c 23 21 [l0, l1, l2] L2 St S = ev c 23 2 [l0, l1, l2] L2 St S := ev_go i23_21 rfl
theorem i23_24 : insAt 23 24 = some (.iconst 0, 1, (0, 0, 0, 0), 0) := rfl
theorem s23_24 {c : Nat → List AV → SS → Option Out} {l0 l1 l2 : Option AV} {L2 : List (Nat × AV)} {St : List AV} {S : SS} : ev c 23 24 [l0, l1, l2] L2 St S = ev c 23 25 [l0, l1, l2] L2 (aI 0 :: St) S := ev_go i23_24 rfl
theorem i23_25 : insAt 23 25 = some (.ireturn, 1, (0, 0, 0, 0), 0) := rfl
theorem s23_25 {c : Nat → List AV → SS → Option Out} {l0 l1 l2 : Option AV} {x : Int32} {L2 : List (Nat × AV)} {St : List AV} {S : SS} : ev c 23 25 [l0, l1, l2] L2 [aI x] S = if x = 0 ∨ x = 1 then some (.inl (some (aI x)), S) else none := ev_rt i23_25 rfl
theorem m23 {d : Nat} {o : OId} {a0 : Int32} {S : SS} : evm (d + 1) 23 [aR o, aI a0] S = ev (evm d) 23 0 [some (aR o), some (aI a0), none] [] [] S := evm_s (n := 3) rfl (Nat.le_of_ble_eq_true rfl) rfl rfl
/-! FrequencyOffice$Books.marginBetween(II)I -/
theorem i24_0 : insAt 24 0 = some (.aload_n 0, 1, (0, 0, 0, 0), 0) := rfl
theorem s24_0 {c : Nat → List AV → SS → Option Out} {l1 l2 : Option AV} {o : OId} {L2 : List (Nat × AV)} {St : List AV} {S : SS} : ev c 24 0 [some (aR o), l1, l2] L2 St S = ev c 24 1 [some (aR o), l1, l2] L2 (aR o :: St) S := ev_go i24_0 rfl
theorem i24_1 : insAt 24 1 = some (.iload_n 1, 1, (0, 0, 0, 0), 0) := rfl
theorem s24_1 {c : Nat → List AV → SS → Option Out} {l0 l2 : Option AV} {x : Int32} {L2 : List (Nat × AV)} {St : List AV} {S : SS} : ev c 24 1 [l0, some (aI x), l2] L2 St S = ev c 24 2 [l0, some (aI x), l2] L2 (aI x :: St) S := ev_go i24_1 rfl
theorem i24_2 : insAt 24 2 = some (.invokevirtual 58, 3, (17, 1, 2, 4), 0) := rfl
theorem s24_2 {c : Nat → List AV → SS → Option Out} {l0 l1 l2 : Option AV} {a0 : Int32} {j t : Nat} {L2 : List (Nat × AV)} {S : SS} : ev c 24 2 [l0, l1, l2] L2 [aI a0, aR (4, j, t)] S = ck (c 17 [aR (4, j, t), aI a0] S) (fun v S' => ev c 24 5 [l0, l1, l2] L2 (v.toList ++ []) S') := ev_call i24_2 rfl
theorem i24_5 : insAt 24 5 = some (.getfield 126, 3, (10, 3, 1, 0), 0) := rfl
theorem s24_5 {c : Nat → List AV → SS → Option Out} {l0 l1 l2 : Option AV} {j t : Nat} {L2 : List (Nat × AV)} {St : List AV} {S : SS} : ev c 24 5 [l0, l1, l2] L2 (aR (10, j, t) :: St) S = ev c 24 8 [l0, l1, l2] L2 (aI (S.1 (10, j, t) 3) :: St) S := ev_go i24_5 rfl
theorem i24_8 : insAt 24 8 = some (.aload_n 0, 1, (0, 0, 0, 0), 0) := rfl
theorem s24_8 {c : Nat → List AV → SS → Option Out} {l1 l2 : Option AV} {o : OId} {L2 : List (Nat × AV)} {St : List AV} {S : SS} : ev c 24 8 [some (aR o), l1, l2] L2 St S = ev c 24 9 [some (aR o), l1, l2] L2 (aR o :: St) S := ev_go i24_8 rfl
theorem i24_9 : insAt 24 9 = some (.iload_n 2, 1, (0, 0, 0, 0), 0) := rfl
theorem s24_9 {c : Nat → List AV → SS → Option Out} {l0 l1 : Option AV} {x : Int32} {L2 : List (Nat × AV)} {St : List AV} {S : SS} : ev c 24 9 [l0, l1, some (aI x)] L2 St S = ev c 24 10 [l0, l1, some (aI x)] L2 (aI x :: St) S := ev_go i24_9 rfl
theorem i24_10 : insAt 24 10 = some (.invokevirtual 58, 3, (17, 1, 2, 4), 0) := rfl
theorem s24_10 {c : Nat → List AV → SS → Option Out} {l0 l1 l2 : Option AV} {t0 : AV} {a0 : Int32} {j t : Nat} {L2 : List (Nat × AV)} {S : SS} : ev c 24 10 [l0, l1, l2] L2 [aI a0, aR (4, j, t), t0] S = ck (c 17 [aR (4, j, t), aI a0] S) (fun v S' => ev c 24 13 [l0, l1, l2] L2 (v.toList ++ [t0]) S') := ev_call i24_10 rfl
theorem i24_13 : insAt 24 13 = some (.getfield 126, 3, (10, 3, 1, 0), 0) := rfl
theorem s24_13 {c : Nat → List AV → SS → Option Out} {l0 l1 l2 : Option AV} {j t : Nat} {L2 : List (Nat × AV)} {St : List AV} {S : SS} : ev c 24 13 [l0, l1, l2] L2 (aR (10, j, t) :: St) S = ev c 24 16 [l0, l1, l2] L2 (aI (S.1 (10, j, t) 3) :: St) S := ev_go i24_13 rfl
theorem i24_16 : insAt 24 16 = some (.isub, 1, (0, 0, 0, 0), 0) := rfl
theorem s24_16 {c : Nat → List AV → SS → Option Out} {l0 l1 l2 : Option AV} {x y : Int32} {L2 : List (Nat × AV)} {St : List AV} {S : SS} : ev c 24 16 [l0, l1, l2] L2 (aI y :: aI x :: St) S = ev c 24 17 [l0, l1, l2] L2 (aI (x - y) :: St) S := ev_go i24_16 rfl
theorem i24_17 : insAt 24 17 = some (.invokestatic 129, 3, (25, 1, 0, 0), 0) := rfl
theorem s24_17 {c : Nat → List AV → SS → Option Out} {l0 l1 l2 : Option AV} {a0 : Int32} {L2 : List (Nat × AV)} {S : SS} : ev c 24 17 [l0, l1, l2] L2 [aI a0] S = ck (c 25 [aI a0] S) (fun v S' => ev c 24 20 [l0, l1, l2] L2 (v.toList ++ []) S') := ev_call i24_17 rfl
theorem i24_20 : insAt 24 20 = some (.aload_n 0, 1, (0, 0, 0, 0), 0) := rfl
theorem s24_20 {c : Nat → List AV → SS → Option Out} {l1 l2 : Option AV} {o : OId} {L2 : List (Nat × AV)} {St : List AV} {S : SS} : ev c 24 20 [some (aR o), l1, l2] L2 St S = ev c 24 21 [some (aR o), l1, l2] L2 (aR o :: St) S := ev_go i24_20 rfl
theorem i24_21 : insAt 24 21 = some (.iload_n 1, 1, (0, 0, 0, 0), 0) := rfl
theorem s24_21 {c : Nat → List AV → SS → Option Out} {l0 l2 : Option AV} {x : Int32} {L2 : List (Nat × AV)} {St : List AV} {S : SS} : ev c 24 21 [l0, some (aI x), l2] L2 St S = ev c 24 22 [l0, some (aI x), l2] L2 (aI x :: St) S := ev_go i24_21 rfl
theorem i24_22 : insAt 24 22 = some (.iload_n 2, 1, (0, 0, 0, 0), 0) := rfl
theorem s24_22 {c : Nat → List AV → SS → Option Out} {l0 l1 : Option AV} {x : Int32} {L2 : List (Nat × AV)} {St : List AV} {S : SS} : ev c 24 22 [l0, l1, some (aI x)] L2 St S = ev c 24 23 [l0, l1, some (aI x)] L2 (aI x :: St) S := ev_go i24_22 rfl
theorem i24_23 : insAt 24 23 = some (.invokevirtual 134, 3, (26, 2, 2, 4), 0) := rfl
theorem s24_23 {c : Nat → List AV → SS → Option Out} {l0 l1 l2 : Option AV} {t0 : AV} {a0 : Int32} {a1 : Int32} {j t : Nat} {L2 : List (Nat × AV)} {S : SS} : ev c 24 23 [l0, l1, l2] L2 [aI a1, aI a0, aR (4, j, t), t0] S = ck (c 26 [aR (4, j, t), aI a0, aI a1] S) (fun v S' => ev c 24 26 [l0, l1, l2] L2 (v.toList ++ [t0]) S') := ev_call i24_23 rfl
theorem i24_26 : insAt 24 26 = some (.isub, 1, (0, 0, 0, 0), 0) := rfl
theorem s24_26 {c : Nat → List AV → SS → Option Out} {l0 l1 l2 : Option AV} {x y : Int32} {L2 : List (Nat × AV)} {St : List AV} {S : SS} : ev c 24 26 [l0, l1, l2] L2 (aI y :: aI x :: St) S = ev c 24 27 [l0, l1, l2] L2 (aI (x - y) :: St) S := ev_go i24_26 rfl
theorem i24_27 : insAt 24 27 = some (.ireturn, 1, (0, 0, 0, 0), 0) := rfl
theorem s24_27 {c : Nat → List AV → SS → Option Out} {l0 l1 l2 : Option AV} {x : Int32} {L2 : List (Nat × AV)} {St : List AV} {S : SS} : ev c 24 27 [l0, l1, l2] L2 [aI x] S = some (.inl (some (aI x)), S) := ev_end i24_27 rfl
theorem m24 {d : Nat} {o : OId} {a0 : Int32} {a1 : Int32} {S : SS} : evm (d + 1) 24 [aR o, aI a0, aI a1] S = ev (evm d) 24 0 [some (aR o), some (aI a0), some (aI a1)] [] [] S := evm_s (n := 3) rfl (Nat.le_of_ble_eq_true rfl) rfl rfl
/-! FrequencyOffice$Books.separationBetween(II)I -/
theorem i26_0 : insAt 26 0 = some (.aload_n 0, 1, (0, 0, 0, 0), 0) := rfl
theorem s26_0 {c : Nat → List AV → SS → Option Out} {l1 l2 : Option AV} {o : OId} {L2 : List (Nat × AV)} {St : List AV} {S : SS} : ev c 26 0 [some (aR o), l1, l2] L2 St S = ev c 26 1 [some (aR o), l1, l2] L2 (aR o :: St) S := ev_go i26_0 rfl
theorem i26_1 : insAt 26 1 = some (.iload_n 1, 1, (0, 0, 0, 0), 0) := rfl
theorem s26_1 {c : Nat → List AV → SS → Option Out} {l0 l2 : Option AV} {x : Int32} {L2 : List (Nat × AV)} {St : List AV} {S : SS} : ev c 26 1 [l0, some (aI x), l2] L2 St S = ev c 26 2 [l0, some (aI x), l2] L2 (aI x :: St) S := ev_go i26_1 rfl
theorem i26_2 : insAt 26 2 = some (.iload_n 2, 1, (0, 0, 0, 0), 0) := rfl
theorem s26_2 {c : Nat → List AV → SS → Option Out} {l0 l1 : Option AV} {x : Int32} {L2 : List (Nat × AV)} {St : List AV} {S : SS} : ev c 26 2 [l0, l1, some (aI x)] L2 St S = ev c 26 3 [l0, l1, some (aI x)] L2 (aI x :: St) S := ev_go i26_2 rfl
theorem i26_3 : insAt 26 3 = some (.invokevirtual 123, 3, (27, 2, 2, 4), 0) := rfl
theorem s26_3 {c : Nat → List AV → SS → Option Out} {l0 l1 l2 : Option AV} {a0 : Int32} {a1 : Int32} {j t : Nat} {L2 : List (Nat × AV)} {S : SS} : ev c 26 3 [l0, l1, l2] L2 [aI a1, aI a0, aR (4, j, t)] S = ck (c 27 [aR (4, j, t), aI a0, aI a1] S) (fun v S' => ev c 26 6 [l0, l1, l2] L2 (v.toList ++ []) S') := ev_call i26_3 rfl
theorem i26_6 : insAt 26 6 = some (.aload_n 0, 1, (0, 0, 0, 0), 0) := rfl
theorem s26_6 {c : Nat → List AV → SS → Option Out} {l1 l2 : Option AV} {o : OId} {L2 : List (Nat × AV)} {St : List AV} {S : SS} : ev c 26 6 [some (aR o), l1, l2] L2 St S = ev c 26 7 [some (aR o), l1, l2] L2 (aR o :: St) S := ev_go i26_6 rfl
theorem i26_7 : insAt 26 7 = some (.iload_n 1, 1, (0, 0, 0, 0), 0) := rfl
theorem s26_7 {c : Nat → List AV → SS → Option Out} {l0 l2 : Option AV} {x : Int32} {L2 : List (Nat × AV)} {St : List AV} {S : SS} : ev c 26 7 [l0, some (aI x), l2] L2 St S = ev c 26 8 [l0, some (aI x), l2] L2 (aI x :: St) S := ev_go i26_7 rfl
theorem i26_8 : insAt 26 8 = some (.iload_n 2, 1, (0, 0, 0, 0), 0) := rfl
theorem s26_8 {c : Nat → List AV → SS → Option Out} {l0 l1 : Option AV} {x : Int32} {L2 : List (Nat × AV)} {St : List AV} {S : SS} : ev c 26 8 [l0, l1, some (aI x)] L2 St S = ev c 26 9 [l0, l1, some (aI x)] L2 (aI x :: St) S := ev_go i26_8 rfl
theorem i26_9 : insAt 26 9 = some (.invokevirtual 95, 3, (30, 2, 2, 4), 0) := rfl
theorem s26_9 {c : Nat → List AV → SS → Option Out} {l0 l1 l2 : Option AV} {t0 : AV} {a0 : Int32} {a1 : Int32} {j t : Nat} {L2 : List (Nat × AV)} {S : SS} : ev c 26 9 [l0, l1, l2] L2 [aI a1, aI a0, aR (4, j, t), t0] S = ck (c 30 [aR (4, j, t), aI a0, aI a1] S) (fun v S' => ev c 26 12 [l0, l1, l2] L2 (v.toList ++ [t0]) S') := ev_call i26_9 rfl
theorem i26_12 : insAt 26 12 = some (.iadd, 1, (0, 0, 0, 0), 0) := rfl
theorem s26_12 {c : Nat → List AV → SS → Option Out} {l0 l1 l2 : Option AV} {x y : Int32} {L2 : List (Nat × AV)} {St : List AV} {S : SS} : ev c 26 12 [l0, l1, l2] L2 (aI y :: aI x :: St) S = ev c 26 13 [l0, l1, l2] L2 (aI (x + y) :: St) S := ev_go i26_12 rfl
theorem i26_13 : insAt 26 13 = some (.ireturn, 1, (0, 0, 0, 0), 0) := rfl
theorem s26_13 {c : Nat → List AV → SS → Option Out} {l0 l1 l2 : Option AV} {x : Int32} {L2 : List (Nat × AV)} {St : List AV} {S : SS} : ev c 26 13 [l0, l1, l2] L2 [aI x] S = some (.inl (some (aI x)), S) := ev_end i26_13 rfl
theorem m26 {d : Nat} {o : OId} {a0 : Int32} {a1 : Int32} {S : SS} : evm (d + 1) 26 [aR o, aI a0, aI a1] S = ev (evm d) 26 0 [some (aR o), some (aI a0), some (aI a1)] [] [] S := evm_s (n := 3) rfl (Nat.le_of_ble_eq_true rfl) rfl rfl
/-! FrequencyOffice$Books.baseBetween(II)I -/
theorem i27_0 : insAt 27 0 = some (.aload_n 0, 1, (0, 0, 0, 0), 0) := rfl
theorem s27_0 {c : Nat → List AV → SS → Option Out} {l1 l2 : Option AV} {o : OId} {L2 : List (Nat × AV)} {St : List AV} {S : SS} : ev c 27 0 [some (aR o), l1, l2] L2 St S = ev c 27 1 [some (aR o), l1, l2] L2 (aR o :: St) S := ev_go i27_0 rfl
theorem i27_1 : insAt 27 1 = some (.aload_n 0, 1, (0, 0, 0, 0), 0) := rfl
theorem s27_1 {c : Nat → List AV → SS → Option Out} {l1 l2 : Option AV} {o : OId} {L2 : List (Nat × AV)} {St : List AV} {S : SS} : ev c 27 1 [some (aR o), l1, l2] L2 St S = ev c 27 2 [some (aR o), l1, l2] L2 (aR o :: St) S := ev_go i27_1 rfl
theorem i27_2 : insAt 27 2 = some (.iload_n 1, 1, (0, 0, 0, 0), 0) := rfl
theorem s27_2 {c : Nat → List AV → SS → Option Out} {l0 l2 : Option AV} {x : Int32} {L2 : List (Nat × AV)} {St : List AV} {S : SS} : ev c 27 2 [l0, some (aI x), l2] L2 St S = ev c 27 3 [l0, some (aI x), l2] L2 (aI x :: St) S := ev_go i27_2 rfl
theorem i27_3 : insAt 27 3 = some (.invokevirtual 58, 3, (17, 1, 2, 4), 0) := rfl
theorem s27_3 {c : Nat → List AV → SS → Option Out} {l0 l1 l2 : Option AV} {t0 : AV} {a0 : Int32} {j t : Nat} {L2 : List (Nat × AV)} {S : SS} : ev c 27 3 [l0, l1, l2] L2 [aI a0, aR (4, j, t), t0] S = ck (c 17 [aR (4, j, t), aI a0] S) (fun v S' => ev c 27 6 [l0, l1, l2] L2 (v.toList ++ [t0]) S') := ev_call i27_3 rfl
theorem i27_6 : insAt 27 6 = some (.aload_n 0, 1, (0, 0, 0, 0), 0) := rfl
theorem s27_6 {c : Nat → List AV → SS → Option Out} {l1 l2 : Option AV} {o : OId} {L2 : List (Nat × AV)} {St : List AV} {S : SS} : ev c 27 6 [some (aR o), l1, l2] L2 St S = ev c 27 7 [some (aR o), l1, l2] L2 (aR o :: St) S := ev_go i27_6 rfl
theorem i27_7 : insAt 27 7 = some (.iload_n 2, 1, (0, 0, 0, 0), 0) := rfl
theorem s27_7 {c : Nat → List AV → SS → Option Out} {l0 l1 : Option AV} {x : Int32} {L2 : List (Nat × AV)} {St : List AV} {S : SS} : ev c 27 7 [l0, l1, some (aI x)] L2 St S = ev c 27 8 [l0, l1, some (aI x)] L2 (aI x :: St) S := ev_go i27_7 rfl
theorem i27_8 : insAt 27 8 = some (.invokevirtual 58, 3, (17, 1, 2, 4), 0) := rfl
theorem s27_8 {c : Nat → List AV → SS → Option Out} {l0 l1 l2 : Option AV} {t0 t1 : AV} {a0 : Int32} {j t : Nat} {L2 : List (Nat × AV)} {S : SS} : ev c 27 8 [l0, l1, l2] L2 [aI a0, aR (4, j, t), t0, t1] S = ck (c 17 [aR (4, j, t), aI a0] S) (fun v S' => ev c 27 11 [l0, l1, l2] L2 (v.toList ++ [t0, t1]) S') := ev_call i27_8 rfl
theorem i27_11 : insAt 27 11 = some (.getfield 78, 3, (10, 1, 1, 0), 0) := rfl
theorem s27_11 {c : Nat → List AV → SS → Option Out} {l0 l1 l2 : Option AV} {j t : Nat} {L2 : List (Nat × AV)} {St : List AV} {S : SS} : ev c 27 11 [l0, l1, l2] L2 (aR (10, j, t) :: St) S = ev c 27 14 [l0, l1, l2] L2 (aI (S.1 (10, j, t) 1) :: St) S := ev_go i27_11 rfl
theorem i27_14 : insAt 27 14 = some (.aload_n 0, 1, (0, 0, 0, 0), 0) := rfl
theorem s27_14 {c : Nat → List AV → SS → Option Out} {l1 l2 : Option AV} {o : OId} {L2 : List (Nat × AV)} {St : List AV} {S : SS} : ev c 27 14 [some (aR o), l1, l2] L2 St S = ev c 27 15 [some (aR o), l1, l2] L2 (aR o :: St) S := ev_go i27_14 rfl
theorem i27_15 : insAt 27 15 = some (.iload_n 2, 1, (0, 0, 0, 0), 0) := rfl
theorem s27_15 {c : Nat → List AV → SS → Option Out} {l0 l1 : Option AV} {x : Int32} {L2 : List (Nat × AV)} {St : List AV} {S : SS} : ev c 27 15 [l0, l1, some (aI x)] L2 St S = ev c 27 16 [l0, l1, some (aI x)] L2 (aI x :: St) S := ev_go i27_15 rfl
theorem i27_16 : insAt 27 16 = some (.invokevirtual 58, 3, (17, 1, 2, 4), 0) := rfl
theorem s27_16 {c : Nat → List AV → SS → Option Out} {l0 l1 l2 : Option AV} {t0 t1 t2 : AV} {a0 : Int32} {j t : Nat} {L2 : List (Nat × AV)} {S : SS} : ev c 27 16 [l0, l1, l2] L2 [aI a0, aR (4, j, t), t0, t1, t2] S = ck (c 17 [aR (4, j, t), aI a0] S) (fun v S' => ev c 27 19 [l0, l1, l2] L2 (v.toList ++ [t0, t1, t2]) S') := ev_call i27_16 rfl
theorem i27_19 : insAt 27 19 = some (.getfield 81, 3, (10, 2, 1, 0), 0) := rfl
theorem s27_19 {c : Nat → List AV → SS → Option Out} {l0 l1 l2 : Option AV} {j t : Nat} {L2 : List (Nat × AV)} {St : List AV} {S : SS} : ev c 27 19 [l0, l1, l2] L2 (aR (10, j, t) :: St) S = ev c 27 22 [l0, l1, l2] L2 (aI (S.1 (10, j, t) 2) :: St) S := ev_go i27_19 rfl
theorem i27_22 : insAt 27 22 = some (.invokevirtual 113, 3, (28, 2, 3, 10), 0) := rfl
theorem s27_22 {c : Nat → List AV → SS → Option Out} {l0 l1 l2 : Option AV} {t0 : AV} {a0 : Int32} {a1 : Int32} {j t : Nat} {L2 : List (Nat × AV)} {S : SS} : ev c 27 22 [l0, l1, l2] L2 [aI a1, aI a0, aR (10, j, t), t0] S = ck (c 28 [aR (10, j, t), aI a0, aI a1] S) (fun v S' => ev c 27 25 [l0, l1, l2] L2 (v.toList ++ [t0]) S') := ev_call i27_22 rfl
theorem i27_25 : insAt 27 25 = some (.invokevirtual 116, 3, (29, 1, 2, 4), 0) := rfl
theorem s27_25 {c : Nat → List AV → SS → Option Out} {l0 l1 l2 : Option AV} {a0 : Int32} {j t : Nat} {L2 : List (Nat × AV)} {S : SS} : ev c 27 25 [l0, l1, l2] L2 [aI a0, aR (4, j, t)] S = ck (c 29 [aR (4, j, t), aI a0] S) (fun v S' => ev c 27 28 [l0, l1, l2] L2 (v.toList ++ []) S') := ev_call i27_25 rfl
theorem i27_28 : insAt 27 28 = some (.ireturn, 1, (0, 0, 0, 0), 0) := rfl
theorem s27_28 {c : Nat → List AV → SS → Option Out} {l0 l1 l2 : Option AV} {x : Int32} {L2 : List (Nat × AV)} {St : List AV} {S : SS} : ev c 27 28 [l0, l1, l2] L2 [aI x] S = some (.inl (some (aI x)), S) := ev_end i27_28 rfl
theorem m27 {d : Nat} {o : OId} {a0 : Int32} {a1 : Int32} {S : SS} : evm (d + 1) 27 [aR o, aI a0, aI a1] S = ev (evm d) 27 0 [some (aR o), some (aI a0), some (aI a1)] [] [] S := evm_s (n := 3) rfl (Nat.le_of_ble_eq_true rfl) rfl rfl
/-! FrequencyOffice$Station.squaredTo(II)I -/
theorem i28_0 : insAt 28 0 = some (.aload_n 0, 1, (0, 0, 0, 0), 0) := rfl
theorem s28_0 {c : Nat → List AV → SS → Option Out} {l1 l2 : Option AV} {o : OId} {L2 : List (Nat × AV)} {St : List AV} {S : SS} : ev c 28 0 [some (aR o), l1, l2] L2 St S = ev c 28 1 [some (aR o), l1, l2] L2 (aR o :: St) S := ev_go i28_0 rfl
theorem i28_1 : insAt 28 1 = some (.getfield 13, 3, (10, 1, 0, 0), 0) := rfl
theorem s28_1 {c : Nat → List AV → SS → Option Out} {l0 l1 l2 : Option AV} {j t : Nat} {L2 : List (Nat × AV)} {St : List AV} {S : SS} : ev c 28 1 [l0, l1, l2] L2 (aR (10, j, t) :: St) S = ev c 28 4 [l0, l1, l2] L2 (aI (S.1 (10, j, t) 1) :: St) S := ev_go i28_1 rfl
theorem i28_4 : insAt 28 4 = some (.iload_n 1, 1, (0, 0, 0, 0), 0) := rfl
theorem s28_4 {c : Nat → List AV → SS → Option Out} {l0 l2 : Option AV} {x : Int32} {L2 : List (Nat × AV)} {St : List AV} {S : SS} : ev c 28 4 [l0, some (aI x), l2] L2 St S = ev c 28 5 [l0, some (aI x), l2] L2 (aI x :: St) S := ev_go i28_4 rfl
theorem i28_5 : insAt 28 5 = some (.isub, 1, (0, 0, 0, 0), 0) := rfl
theorem s28_5 {c : Nat → List AV → SS → Option Out} {l0 l1 l2 : Option AV} {x y : Int32} {L2 : List (Nat × AV)} {St : List AV} {S : SS} : ev c 28 5 [l0, l1, l2] L2 (aI y :: aI x :: St) S = ev c 28 6 [l0, l1, l2] L2 (aI (x - y) :: St) S := ev_go i28_5 rfl
theorem i28_6 : insAt 28 6 = some (.aload_n 0, 1, (0, 0, 0, 0), 0) := rfl
theorem s28_6 {c : Nat → List AV → SS → Option Out} {l1 l2 : Option AV} {o : OId} {L2 : List (Nat × AV)} {St : List AV} {S : SS} : ev c 28 6 [some (aR o), l1, l2] L2 St S = ev c 28 7 [some (aR o), l1, l2] L2 (aR o :: St) S := ev_go i28_6 rfl
theorem i28_7 : insAt 28 7 = some (.getfield 13, 3, (10, 1, 0, 0), 0) := rfl
theorem s28_7 {c : Nat → List AV → SS → Option Out} {l0 l1 l2 : Option AV} {j t : Nat} {L2 : List (Nat × AV)} {St : List AV} {S : SS} : ev c 28 7 [l0, l1, l2] L2 (aR (10, j, t) :: St) S = ev c 28 10 [l0, l1, l2] L2 (aI (S.1 (10, j, t) 1) :: St) S := ev_go i28_7 rfl
theorem i28_10 : insAt 28 10 = some (.iload_n 1, 1, (0, 0, 0, 0), 0) := rfl
theorem s28_10 {c : Nat → List AV → SS → Option Out} {l0 l2 : Option AV} {x : Int32} {L2 : List (Nat × AV)} {St : List AV} {S : SS} : ev c 28 10 [l0, some (aI x), l2] L2 St S = ev c 28 11 [l0, some (aI x), l2] L2 (aI x :: St) S := ev_go i28_10 rfl
theorem i28_11 : insAt 28 11 = some (.isub, 1, (0, 0, 0, 0), 0) := rfl
theorem s28_11 {c : Nat → List AV → SS → Option Out} {l0 l1 l2 : Option AV} {x y : Int32} {L2 : List (Nat × AV)} {St : List AV} {S : SS} : ev c 28 11 [l0, l1, l2] L2 (aI y :: aI x :: St) S = ev c 28 12 [l0, l1, l2] L2 (aI (x - y) :: St) S := ev_go i28_11 rfl
theorem i28_12 : insAt 28 12 = some (.imul, 1, (0, 0, 0, 0), 0) := rfl
theorem s28_12 {c : Nat → List AV → SS → Option Out} {l0 l1 l2 : Option AV} {x y : Int32} {L2 : List (Nat × AV)} {St : List AV} {S : SS} : ev c 28 12 [l0, l1, l2] L2 (aI y :: aI x :: St) S = ev c 28 13 [l0, l1, l2] L2 (aI (x * y) :: St) S := ev_go i28_12 rfl
theorem i28_13 : insAt 28 13 = some (.aload_n 0, 1, (0, 0, 0, 0), 0) := rfl
theorem s28_13 {c : Nat → List AV → SS → Option Out} {l1 l2 : Option AV} {o : OId} {L2 : List (Nat × AV)} {St : List AV} {S : SS} : ev c 28 13 [some (aR o), l1, l2] L2 St S = ev c 28 14 [some (aR o), l1, l2] L2 (aR o :: St) S := ev_go i28_13 rfl
theorem i28_14 : insAt 28 14 = some (.getfield 16, 3, (10, 2, 0, 0), 0) := rfl
theorem s28_14 {c : Nat → List AV → SS → Option Out} {l0 l1 l2 : Option AV} {j t : Nat} {L2 : List (Nat × AV)} {St : List AV} {S : SS} : ev c 28 14 [l0, l1, l2] L2 (aR (10, j, t) :: St) S = ev c 28 17 [l0, l1, l2] L2 (aI (S.1 (10, j, t) 2) :: St) S := ev_go i28_14 rfl
theorem i28_17 : insAt 28 17 = some (.iload_n 2, 1, (0, 0, 0, 0), 0) := rfl
theorem s28_17 {c : Nat → List AV → SS → Option Out} {l0 l1 : Option AV} {x : Int32} {L2 : List (Nat × AV)} {St : List AV} {S : SS} : ev c 28 17 [l0, l1, some (aI x)] L2 St S = ev c 28 18 [l0, l1, some (aI x)] L2 (aI x :: St) S := ev_go i28_17 rfl
theorem i28_18 : insAt 28 18 = some (.isub, 1, (0, 0, 0, 0), 0) := rfl
theorem s28_18 {c : Nat → List AV → SS → Option Out} {l0 l1 l2 : Option AV} {x y : Int32} {L2 : List (Nat × AV)} {St : List AV} {S : SS} : ev c 28 18 [l0, l1, l2] L2 (aI y :: aI x :: St) S = ev c 28 19 [l0, l1, l2] L2 (aI (x - y) :: St) S := ev_go i28_18 rfl
theorem i28_19 : insAt 28 19 = some (.aload_n 0, 1, (0, 0, 0, 0), 0) := rfl
theorem s28_19 {c : Nat → List AV → SS → Option Out} {l1 l2 : Option AV} {o : OId} {L2 : List (Nat × AV)} {St : List AV} {S : SS} : ev c 28 19 [some (aR o), l1, l2] L2 St S = ev c 28 20 [some (aR o), l1, l2] L2 (aR o :: St) S := ev_go i28_19 rfl
theorem i28_20 : insAt 28 20 = some (.getfield 16, 3, (10, 2, 0, 0), 0) := rfl
theorem s28_20 {c : Nat → List AV → SS → Option Out} {l0 l1 l2 : Option AV} {j t : Nat} {L2 : List (Nat × AV)} {St : List AV} {S : SS} : ev c 28 20 [l0, l1, l2] L2 (aR (10, j, t) :: St) S = ev c 28 23 [l0, l1, l2] L2 (aI (S.1 (10, j, t) 2) :: St) S := ev_go i28_20 rfl
theorem i28_23 : insAt 28 23 = some (.iload_n 2, 1, (0, 0, 0, 0), 0) := rfl
theorem s28_23 {c : Nat → List AV → SS → Option Out} {l0 l1 : Option AV} {x : Int32} {L2 : List (Nat × AV)} {St : List AV} {S : SS} : ev c 28 23 [l0, l1, some (aI x)] L2 St S = ev c 28 24 [l0, l1, some (aI x)] L2 (aI x :: St) S := ev_go i28_23 rfl
theorem i28_24 : insAt 28 24 = some (.isub, 1, (0, 0, 0, 0), 0) := rfl
theorem s28_24 {c : Nat → List AV → SS → Option Out} {l0 l1 l2 : Option AV} {x y : Int32} {L2 : List (Nat × AV)} {St : List AV} {S : SS} : ev c 28 24 [l0, l1, l2] L2 (aI y :: aI x :: St) S = ev c 28 25 [l0, l1, l2] L2 (aI (x - y) :: St) S := ev_go i28_24 rfl
theorem i28_25 : insAt 28 25 = some (.imul, 1, (0, 0, 0, 0), 0) := rfl
theorem s28_25 {c : Nat → List AV → SS → Option Out} {l0 l1 l2 : Option AV} {x y : Int32} {L2 : List (Nat × AV)} {St : List AV} {S : SS} : ev c 28 25 [l0, l1, l2] L2 (aI y :: aI x :: St) S = ev c 28 26 [l0, l1, l2] L2 (aI (x * y) :: St) S := ev_go i28_25 rfl
theorem i28_26 : insAt 28 26 = some (.iadd, 1, (0, 0, 0, 0), 0) := rfl
theorem s28_26 {c : Nat → List AV → SS → Option Out} {l0 l1 l2 : Option AV} {x y : Int32} {L2 : List (Nat × AV)} {St : List AV} {S : SS} : ev c 28 26 [l0, l1, l2] L2 (aI y :: aI x :: St) S = ev c 28 27 [l0, l1, l2] L2 (aI (x + y) :: St) S := ev_go i28_26 rfl
theorem i28_27 : insAt 28 27 = some (.ireturn, 1, (0, 0, 0, 0), 0) := rfl
theorem s28_27 {c : Nat → List AV → SS → Option Out} {l0 l1 l2 : Option AV} {x : Int32} {L2 : List (Nat × AV)} {St : List AV} {S : SS} : ev c 28 27 [l0, l1, l2] L2 [aI x] S = some (.inl (some (aI x)), S) := ev_end i28_27 rfl
theorem m28 {d : Nat} {o : OId} {a0 : Int32} {a1 : Int32} {S : SS} : evm (d + 1) 28 [aR o, aI a0, aI a1] S = ev (evm d) 28 0 [some (aR o), some (aI a0), some (aI a1)] [] [] S := evm_s (n := 3) rfl (Nat.le_of_ble_eq_true rfl) rfl rfl
/-! FrequencyOffice$Books.baseAt(I)I -/
theorem i29_0 : insAt 29 0 = some (.iload_n 1, 1, (0, 0, 0, 0), 0) := rfl
theorem s29_0 {c : Nat → List AV → SS → Option Out} {l0 : Option AV} {x : Int32} {L2 : List (Nat × AV)} {St : List AV} {S : SS} : ev c 29 0 [l0, some (aI x)] L2 St S = ev c 29 1 [l0, some (aI x)] L2 (aI x :: St) S := ev_go i29_0 rfl
theorem i29_1 : insAt 29 1 = some (.aload_n 0, 1, (0, 0, 0, 0), 0) := rfl
theorem s29_1 {c : Nat → List AV → SS → Option Out} {l1 : Option AV} {o : OId} {L2 : List (Nat × AV)} {St : List AV} {S : SS} : ev c 29 1 [some (aR o), l1] L2 St S = ev c 29 2 [some (aR o), l1] L2 (aR o :: St) S := ev_go i29_1 rfl
theorem i29_2 : insAt 29 2 = some (.getfield 9, 3, (4, 0, 0, 0), 0) := rfl
theorem s29_2 {c : Nat → List AV → SS → Option Out} {l0 l1 : Option AV} {j t : Nat} {L2 : List (Nat × AV)} {St : List AV} {S : SS} : ev c 29 2 [l0, l1] L2 (aR (4, j, t) :: St) S = ev c 29 5 [l0, l1] L2 (aI (S.1 (4, j, t) 0) :: St) S := ev_go i29_2 rfl
theorem i29_5 : insAt 29 5 = some (.aload_n 0, 1, (0, 0, 0, 0), 0) := rfl
theorem s29_5 {c : Nat → List AV → SS → Option Out} {l1 : Option AV} {o : OId} {L2 : List (Nat × AV)} {St : List AV} {S : SS} : ev c 29 5 [some (aR o), l1] L2 St S = ev c 29 6 [some (aR o), l1] L2 (aR o :: St) S := ev_go i29_5 rfl
theorem i29_6 : insAt 29 6 = some (.getfield 9, 3, (4, 0, 0, 0), 0) := rfl
theorem s29_6 {c : Nat → List AV → SS → Option Out} {l0 l1 : Option AV} {j t : Nat} {L2 : List (Nat × AV)} {St : List AV} {S : SS} : ev c 29 6 [l0, l1] L2 (aR (4, j, t) :: St) S = ev c 29 9 [l0, l1] L2 (aI (S.1 (4, j, t) 0) :: St) S := ev_go i29_6 rfl
theorem i29_9 : insAt 29 9 = some (.imul, 1, (0, 0, 0, 0), 0) := rfl
theorem s29_9 {c : Nat → List AV → SS → Option Out} {l0 l1 : Option AV} {x y : Int32} {L2 : List (Nat × AV)} {St : List AV} {S : SS} : ev c 29 9 [l0, l1] L2 (aI y :: aI x :: St) S = ev c 29 10 [l0, l1] L2 (aI (x * y) :: St) S := ev_go i29_9 rfl
theorem i29_10 : insAt 29 10 = some (.if_icmp .ge 5, 3, (0, 0, 0, 0), 0) := rfl
theorem s29_10 {c : Nat → List AV → SS → Option Out} {l0 l1 : Option AV} {x y : Int32} {L2 : List (Nat × AV)} {St : List AV} {S : SS} : ev c 29 10 [l0, l1] L2 (aI y :: aI x :: St) S = if y ≤ x then ev c 29 15 [l0, l1] L2 St S else ev c 29 13 [l0, l1] L2 St S := ev_br i29_10 rfl
theorem i29_13 : insAt 29 13 = some (.iconst 3, 1, (0, 0, 0, 0), 0) := rfl
theorem s29_13 {c : Nat → List AV → SS → Option Out} {l0 l1 : Option AV} {L2 : List (Nat × AV)} {St : List AV} {S : SS} : ev c 29 13 [l0, l1] L2 St S = ev c 29 14 [l0, l1] L2 (aI 3 :: St) S := ev_go i29_13 rfl
theorem i29_14 : insAt 29 14 = some (.ireturn, 1, (0, 0, 0, 0), 0) := rfl
theorem s29_14 {c : Nat → List AV → SS → Option Out} {l0 l1 : Option AV} {x : Int32} {L2 : List (Nat × AV)} {St : List AV} {S : SS} : ev c 29 14 [l0, l1] L2 [aI x] S = some (.inl (some (aI x)), S) := ev_end i29_14 rfl
theorem i29_15 : insAt 29 15 = some (.iload_n 1, 1, (0, 0, 0, 0), 0) := rfl
theorem s29_15 {c : Nat → List AV → SS → Option Out} {l0 : Option AV} {x : Int32} {L2 : List (Nat × AV)} {St : List AV} {S : SS} : ev c 29 15 [l0, some (aI x)] L2 St S = ev c 29 16 [l0, some (aI x)] L2 (aI x :: St) S := ev_go i29_15 rfl
theorem i29_16 : insAt 29 16 = some (.aload_n 0, 1, (0, 0, 0, 0), 0) := rfl
theorem s29_16 {c : Nat → List AV → SS → Option Out} {l1 : Option AV} {o : OId} {L2 : List (Nat × AV)} {St : List AV} {S : SS} : ev c 29 16 [some (aR o), l1] L2 St S = ev c 29 17 [some (aR o), l1] L2 (aR o :: St) S := ev_go i29_16 rfl
theorem i29_17 : insAt 29 17 = some (.getfield 15, 3, (4, 1, 0, 0), 0) := rfl
theorem s29_17 {c : Nat → List AV → SS → Option Out} {l0 l1 : Option AV} {j t : Nat} {L2 : List (Nat × AV)} {St : List AV} {S : SS} : ev c 29 17 [l0, l1] L2 (aR (4, j, t) :: St) S = ev c 29 20 [l0, l1] L2 (aI (S.1 (4, j, t) 1) :: St) S := ev_go i29_17 rfl
theorem i29_20 : insAt 29 20 = some (.aload_n 0, 1, (0, 0, 0, 0), 0) := rfl
theorem s29_20 {c : Nat → List AV → SS → Option Out} {l1 : Option AV} {o : OId} {L2 : List (Nat × AV)} {St : List AV} {S : SS} : ev c 29 20 [some (aR o), l1] L2 St S = ev c 29 21 [some (aR o), l1] L2 (aR o :: St) S := ev_go i29_20 rfl
theorem i29_21 : insAt 29 21 = some (.getfield 15, 3, (4, 1, 0, 0), 0) := rfl
theorem s29_21 {c : Nat → List AV → SS → Option Out} {l0 l1 : Option AV} {j t : Nat} {L2 : List (Nat × AV)} {St : List AV} {S : SS} : ev c 29 21 [l0, l1] L2 (aR (4, j, t) :: St) S = ev c 29 24 [l0, l1] L2 (aI (S.1 (4, j, t) 1) :: St) S := ev_go i29_21 rfl
theorem i29_24 : insAt 29 24 = some (.imul, 1, (0, 0, 0, 0), 0) := rfl
theorem s29_24 {c : Nat → List AV → SS → Option Out} {l0 l1 : Option AV} {x y : Int32} {L2 : List (Nat × AV)} {St : List AV} {S : SS} : ev c 29 24 [l0, l1] L2 (aI y :: aI x :: St) S = ev c 29 25 [l0, l1] L2 (aI (x * y) :: St) S := ev_go i29_24 rfl
theorem i29_25 : insAt 29 25 = some (.if_icmp .ge 5, 3, (0, 0, 0, 0), 0) := rfl
theorem s29_25 {c : Nat → List AV → SS → Option Out} {l0 l1 : Option AV} {x y : Int32} {L2 : List (Nat × AV)} {St : List AV} {S : SS} : ev c 29 25 [l0, l1] L2 (aI y :: aI x :: St) S = if y ≤ x then ev c 29 30 [l0, l1] L2 St S else ev c 29 28 [l0, l1] L2 St S := ev_br i29_25 rfl
theorem i29_28 : insAt 29 28 = some (.iconst 2, 1, (0, 0, 0, 0), 0) := rfl
theorem s29_28 {c : Nat → List AV → SS → Option Out} {l0 l1 : Option AV} {L2 : List (Nat × AV)} {St : List AV} {S : SS} : ev c 29 28 [l0, l1] L2 St S = ev c 29 29 [l0, l1] L2 (aI 2 :: St) S := ev_go i29_28 rfl
theorem i29_29 : insAt 29 29 = some (.ireturn, 1, (0, 0, 0, 0), 0) := rfl
theorem s29_29 {c : Nat → List AV → SS → Option Out} {l0 l1 : Option AV} {x : Int32} {L2 : List (Nat × AV)} {St : List AV} {S : SS} : ev c 29 29 [l0, l1] L2 [aI x] S = some (.inl (some (aI x)), S) := ev_end i29_29 rfl
theorem i29_30 : insAt 29 30 = some (.iload_n 1, 1, (0, 0, 0, 0), 0) := rfl
theorem s29_30 {c : Nat → List AV → SS → Option Out} {l0 : Option AV} {x : Int32} {L2 : List (Nat × AV)} {St : List AV} {S : SS} : ev c 29 30 [l0, some (aI x)] L2 St S = ev c 29 31 [l0, some (aI x)] L2 (aI x :: St) S := ev_go i29_30 rfl
theorem i29_31 : insAt 29 31 = some (.aload_n 0, 1, (0, 0, 0, 0), 0) := rfl
theorem s29_31 {c : Nat → List AV → SS → Option Out} {l1 : Option AV} {o : OId} {L2 : List (Nat × AV)} {St : List AV} {S : SS} : ev c 29 31 [some (aR o), l1] L2 St S = ev c 29 32 [some (aR o), l1] L2 (aR o :: St) S := ev_go i29_31 rfl
theorem i29_32 : insAt 29 32 = some (.getfield 18, 3, (4, 2, 0, 0), 0) := rfl
theorem s29_32 {c : Nat → List AV → SS → Option Out} {l0 l1 : Option AV} {j t : Nat} {L2 : List (Nat × AV)} {St : List AV} {S : SS} : ev c 29 32 [l0, l1] L2 (aR (4, j, t) :: St) S = ev c 29 35 [l0, l1] L2 (aI (S.1 (4, j, t) 2) :: St) S := ev_go i29_32 rfl
theorem i29_35 : insAt 29 35 = some (.aload_n 0, 1, (0, 0, 0, 0), 0) := rfl
theorem s29_35 {c : Nat → List AV → SS → Option Out} {l1 : Option AV} {o : OId} {L2 : List (Nat × AV)} {St : List AV} {S : SS} : ev c 29 35 [some (aR o), l1] L2 St S = ev c 29 36 [some (aR o), l1] L2 (aR o :: St) S := ev_go i29_35 rfl
theorem i29_36 : insAt 29 36 = some (.getfield 18, 3, (4, 2, 0, 0), 0) := rfl
theorem s29_36 {c : Nat → List AV → SS → Option Out} {l0 l1 : Option AV} {j t : Nat} {L2 : List (Nat × AV)} {St : List AV} {S : SS} : ev c 29 36 [l0, l1] L2 (aR (4, j, t) :: St) S = ev c 29 39 [l0, l1] L2 (aI (S.1 (4, j, t) 2) :: St) S := ev_go i29_36 rfl
theorem i29_39 : insAt 29 39 = some (.imul, 1, (0, 0, 0, 0), 0) := rfl
theorem s29_39 {c : Nat → List AV → SS → Option Out} {l0 l1 : Option AV} {x y : Int32} {L2 : List (Nat × AV)} {St : List AV} {S : SS} : ev c 29 39 [l0, l1] L2 (aI y :: aI x :: St) S = ev c 29 40 [l0, l1] L2 (aI (x * y) :: St) S := ev_go i29_39 rfl
theorem i29_40 : insAt 29 40 = some (.if_icmp .ge 7, 3, (0, 0, 0, 0), 0) := rfl
theorem s29_40 {c : Nat → List AV → SS → Option Out} {l0 l1 : Option AV} {x y : Int32} {L2 : List (Nat × AV)} {St : List AV} {S : SS} : ev c 29 40 [l0, l1] L2 (aI y :: aI x :: St) S = if y ≤ x then ev c 29 47 [l0, l1] L2 St S else ev c 29 43 [l0, l1] L2 St S := ev_br i29_40 rfl
theorem i29_43 : insAt 29 43 = some (.iconst 1, 1, (0, 0, 0, 0), 0) := rfl
theorem s29_43 {c : Nat → List AV → SS → Option Out} {l0 l1 : Option AV} {L2 : List (Nat × AV)} {St : List AV} {S : SS} : ev c 29 43 [l0, l1] L2 St S = ev c 29 44 [l0, l1] L2 (aI 1 :: St) S := ev_go i29_43 rfl
theorem i29_44 : insAt 29 44 = some (.goto 4, 3, (0, 0, 0, 0), 0) := rfl
theorem s29_44 {c : Nat → List AV → SS → Option Out} {l0 l1 : Option AV} {L2 : List (Nat × AV)} {St : List AV} {S : SS} : ev c 29 44 [l0, l1] L2 St S = ev c 29 48 [l0, l1] L2 St S := ev_go i29_44 rfl
theorem i29_47 : insAt 29 47 = some (.iconst 0, 1, (0, 0, 0, 0), 0) := rfl
theorem s29_47 {c : Nat → List AV → SS → Option Out} {l0 l1 : Option AV} {L2 : List (Nat × AV)} {St : List AV} {S : SS} : ev c 29 47 [l0, l1] L2 St S = ev c 29 48 [l0, l1] L2 (aI 0 :: St) S := ev_go i29_47 rfl
theorem i29_48 : insAt 29 48 = some (.ireturn, 1, (0, 0, 0, 0), 0) := rfl
theorem s29_48 {c : Nat → List AV → SS → Option Out} {l0 l1 : Option AV} {x : Int32} {L2 : List (Nat × AV)} {St : List AV} {S : SS} : ev c 29 48 [l0, l1] L2 [aI x] S = some (.inl (some (aI x)), S) := ev_end i29_48 rfl
theorem m29 {d : Nat} {o : OId} {a0 : Int32} {S : SS} : evm (d + 1) 29 [aR o, aI a0] S = ev (evm d) 29 0 [some (aR o), some (aI a0)] [] [] S := evm_s (n := 2) rfl (Nat.le_of_ble_eq_true rfl) rfl rfl
/-! FrequencyOffice$Books.complaintsBetween(II)I -/
theorem i30_0 : insAt 30 0 = some (.aload_n 0, 1, (0, 0, 0, 0), 0) := rfl
theorem s30_0 {c : Nat → List AV → SS → Option Out} {l1 l2 : Option AV} {o : OId} {L2 : List (Nat × AV)} {St : List AV} {S : SS} : ev c 30 0 [some (aR o), l1, l2] L2 St S = ev c 30 1 [some (aR o), l1, l2] L2 (aR o :: St) S := ev_go i30_0 rfl
theorem i30_1 : insAt 30 1 = some (.getfield 47, 3, (4, 10, 0, 0), 0) := rfl
theorem s30_1 {c : Nat → List AV → SS → Option Out} {l0 l1 l2 : Option AV} {j t : Nat} {L2 : List (Nat × AV)} {St : List AV} {S : SS} : ev c 30 1 [l0, l1, l2] L2 (aR (4, j, t) :: St) S = ev c 30 4 [l0, l1, l2] L2 (S.2.2.1 (4, j, t) 10 :: St) S := ev_go i30_1 rfl
theorem i30_4 : insAt 30 4 = some (.iload_n 1, 1, (0, 0, 0, 0), 0) := rfl
theorem s30_4 {c : Nat → List AV → SS → Option Out} {l0 l2 : Option AV} {x : Int32} {L2 : List (Nat × AV)} {St : List AV} {S : SS} : ev c 30 4 [l0, some (aI x), l2] L2 St S = ev c 30 5 [l0, some (aI x), l2] L2 (aI x :: St) S := ev_go i30_4 rfl
theorem i30_5 : insAt 30 5 = some (.iload_n 2, 1, (0, 0, 0, 0), 0) := rfl
theorem s30_5 {c : Nat → List AV → SS → Option Out} {l0 l1 : Option AV} {x : Int32} {L2 : List (Nat × AV)} {St : List AV} {S : SS} : ev c 30 5 [l0, l1, some (aI x)] L2 St S = ev c 30 6 [l0, l1, some (aI x)] L2 (aI x :: St) S := ev_go i30_5 rfl
theorem i30_6 : insAt 30 6 = some (.invokestatic 99, 3, (31, 2, 1, 0), 0) := rfl
theorem s30_6 {c : Nat → List AV → SS → Option Out} {l0 l1 l2 : Option AV} {t0 : AV} {a0 : Int32} {a1 : Int32} {L2 : List (Nat × AV)} {S : SS} : ev c 30 6 [l0, l1, l2] L2 [aI a1, aI a0, t0] S = ck (c 31 [aI a0, aI a1] S) (fun v S' => ev c 30 9 [l0, l1, l2] L2 (v.toList ++ [t0]) S') := ev_call i30_6 rfl
theorem i30_9 : insAt 30 9 = some (.invokestatic 119, 3, (32, 2, 1, 0), 0) := rfl
theorem s30_9 {c : Nat → List AV → SS → Option Out} {l0 l1 l2 : Option AV} {a0 : OId} {a1 : Int32} {L2 : List (Nat × AV)} {S : SS} : ev c 30 9 [l0, l1, l2] L2 [aI a1, aR a0] S = ck (c 32 [aR a0, aI a1] S) (fun v S' => ev c 30 12 [l0, l1, l2] L2 (v.toList ++ []) S') := ev_call i30_9 rfl
theorem i30_12 : insAt 30 12 = some (.ireturn, 1, (0, 0, 0, 0), 0) := rfl
theorem s30_12 {c : Nat → List AV → SS → Option Out} {l0 l1 l2 : Option AV} {x : Int32} {L2 : List (Nat × AV)} {St : List AV} {S : SS} : ev c 30 12 [l0, l1, l2] L2 [aI x] S = some (.inl (some (aI x)), S) := ev_end i30_12 rfl
theorem m30 {d : Nat} {o : OId} {a0 : Int32} {a1 : Int32} {S : SS} : evm (d + 1) 30 [aR o, aI a0, aI a1] S = ev (evm d) 30 0 [some (aR o), some (aI a0), some (aI a1)] [] [] S := evm_s (n := 3) rfl (Nat.le_of_ble_eq_true rfl) rfl rfl
/-! FrequencyOffice$Net.load(LFrequencyOffice$Books;I)V -/
theorem i34_0 : insAt 34 0 = some (.aload_n 0, 1, (0, 0, 0, 0), 0) := rfl
theorem s34_0 {c : Nat → List AV → SS → Option Out} {l1 l2 l3 : Option AV} {o : OId} {L2 : List (Nat × AV)} {St : List AV} {S : SS} : ev c 34 0 [some (aR o), l1, l2, l3] L2 St S = ev c 34 1 [some (aR o), l1, l2, l3] L2 (aR o :: St) S := ev_go i34_0 rfl
theorem i34_1 : insAt 34 1 = some (.iconst 0, 1, (0, 0, 0, 0), 0) := rfl
theorem s34_1 {c : Nat → List AV → SS → Option Out} {l0 l1 l2 l3 : Option AV} {L2 : List (Nat × AV)} {St : List AV} {S : SS} : ev c 34 1 [l0, l1, l2, l3] L2 St S = ev c 34 2 [l0, l1, l2, l3] L2 (aI 0 :: St) S := ev_go i34_1 rfl
theorem i34_2 : insAt 34 2 = some (.putfield 9, 3, (6, 0, 0, 0), 0) := rfl
theorem s34_2 {c : Nat → List AV → SS → Option Out} {l0 l1 l2 l3 : Option AV} {j t : Nat} {x : Int32} {L2 : List (Nat × AV)} {St : List AV} {S : SS} : ev c 34 2 [l0, l1, l2, l3] L2 (aI x :: aR (6, j, t) :: St) S = ev c 34 5 [l0, l1, l2, l3] L2 St (setI S.1 (6, j, t) 0 x, S.2) := ev_go i34_2 rfl
theorem i34_5 : insAt 34 5 = some (.iconst 0, 1, (0, 0, 0, 0), 0) := rfl
theorem s34_5 {c : Nat → List AV → SS → Option Out} {l0 l1 l2 l3 : Option AV} {L2 : List (Nat × AV)} {St : List AV} {S : SS} : ev c 34 5 [l0, l1, l2, l3] L2 St S = ev c 34 6 [l0, l1, l2, l3] L2 (aI 0 :: St) S := ev_go i34_5 rfl
theorem i34_6 : insAt 34 6 = some (.istore_n 3, 1, (0, 0, 0, 0), 0) := rfl
theorem s34_6 {c : Nat → List AV → SS → Option Out} {l0 l1 l2 l3 : Option AV} {x : Int32} {L2 : List (Nat × AV)} {St : List AV} {S : SS} : ev c 34 6 [l0, l1, l2, l3] L2 (aI x :: St) S = ev c 34 7 [l0, l1, l2, some (aI x)] (kil L2 3) St S := ev_go i34_6 rfl
theorem i34_7 : insAt 34 7 = some (.iload_n 3, 1, (0, 0, 0, 0), 0) := rfl
theorem s34_7 {c : Nat → List AV → SS → Option Out} {l0 l1 l2 : Option AV} {x : Int32} {L2 : List (Nat × AV)} {St : List AV} {S : SS} : ev c 34 7 [l0, l1, l2, some (aI x)] L2 St S = ev c 34 8 [l0, l1, l2, some (aI x)] L2 (aI x :: St) S := ev_go i34_7 rfl
theorem i34_8 : insAt 34 8 = some (.aload_n 1, 1, (0, 0, 0, 0), 0) := rfl
theorem s34_8 {c : Nat → List AV → SS → Option Out} {l0 l2 l3 : Option AV} {o : OId} {L2 : List (Nat × AV)} {St : List AV} {S : SS} : ev c 34 8 [l0, some (aR o), l2, l3] L2 St S = ev c 34 9 [l0, some (aR o), l2, l3] L2 (aR o :: St) S := ev_go i34_8 rfl
theorem i34_9 : insAt 34 9 = some (.getfield 28, 3, (4, 7, 1, 0), 0) := rfl
theorem s34_9 {c : Nat → List AV → SS → Option Out} {l0 l1 l2 l3 : Option AV} {j t : Nat} {L2 : List (Nat × AV)} {St : List AV} {S : SS} : ev c 34 9 [l0, l1, l2, l3] L2 (aR (4, j, t) :: St) S = ev c 34 12 [l0, l1, l2, l3] L2 (aI (S.1 (4, j, t) 7) :: St) S := ev_go i34_9 rfl
theorem i34_12 : insAt 34 12 = some (.if_icmp .ge 31, 3, (0, 0, 0, 0), 0) := rfl
theorem s34_12 {c : Nat → List AV → SS → Option Out} {l0 l1 l2 l3 : Option AV} {x y : Int32} {L2 : List (Nat × AV)} {St : List AV} {S : SS} : ev c 34 12 [l0, l1, l2, l3] L2 (aI y :: aI x :: St) S = if y ≤ x then ev c 34 43 [l0, l1, l2, l3] L2 St S else ev c 34 15 [l0, l1, l2, l3] L2 St S := ev_br i34_12 rfl
theorem i34_15 : insAt 34 15 = some (.iload_n 3, 1, (0, 0, 0, 0), 0) := rfl
theorem s34_15 {c : Nat → List AV → SS → Option Out} {l0 l1 l2 : Option AV} {x : Int32} {L2 : List (Nat × AV)} {St : List AV} {S : SS} : ev c 34 15 [l0, l1, l2, some (aI x)] L2 St S = ev c 34 16 [l0, l1, l2, some (aI x)] L2 (aI x :: St) S := ev_go i34_15 rfl
theorem i34_16 : insAt 34 16 = some (.iload_n 2, 1, (0, 0, 0, 0), 0) := rfl
theorem s34_16 {c : Nat → List AV → SS → Option Out} {l0 l1 l3 : Option AV} {x : Int32} {L2 : List (Nat × AV)} {St : List AV} {S : SS} : ev c 34 16 [l0, l1, some (aI x), l3] L2 St S = ev c 34 17 [l0, l1, some (aI x), l3] L2 (aI x :: St) S := ev_go i34_16 rfl
theorem i34_17 : insAt 34 17 = some (.if_icmp .eq 20, 3, (0, 0, 0, 0), 0) := rfl
theorem s34_17 {c : Nat → List AV → SS → Option Out} {l0 l1 l2 l3 : Option AV} {x y : Int32} {L2 : List (Nat × AV)} {St : List AV} {S : SS} : ev c 34 17 [l0, l1, l2, l3] L2 (aI y :: aI x :: St) S = if x = y then ev c 34 37 [l0, l1, l2, l3] L2 St S else ev c 34 20 [l0, l1, l2, l3] L2 St S := ev_br i34_17 rfl
theorem i34_20 : insAt 34 20 = some (.aload_n 1, 1, (0, 0, 0, 0), 0) := rfl
theorem s34_20 {c : Nat → List AV → SS → Option Out} {l0 l2 l3 : Option AV} {o : OId} {L2 : List (Nat × AV)} {St : List AV} {S : SS} : ev c 34 20 [l0, some (aR o), l2, l3] L2 St S = ev c 34 21 [l0, some (aR o), l2, l3] L2 (aR o :: St) S := ev_go i34_20 rfl
theorem i34_21 : insAt 34 21 = some (.iload_n 3, 1, (0, 0, 0, 0), 0) := rfl
theorem s34_21 {c : Nat → List AV → SS → Option Out} {l0 l1 l2 : Option AV} {x : Int32} {L2 : List (Nat × AV)} {St : List AV} {S : SS} : ev c 34 21 [l0, l1, l2, some (aI x)] L2 St S = ev c 34 22 [l0, l1, l2, some (aI x)] L2 (aI x :: St) S := ev_go i34_21 rfl
theorem i34_22 : insAt 34 22 = some (.invokevirtual 33, 3, (17, 1, 3, 4), 0) := rfl
theorem s34_22 {c : Nat → List AV → SS → Option Out} {l0 l1 l2 l3 : Option AV} {a0 : Int32} {j t : Nat} {L2 : List (Nat × AV)} {S : SS} : ev c 34 22 [l0, l1, l2, l3] L2 [aI a0, aR (4, j, t)] S = ck (c 17 [aR (4, j, t), aI a0] S) (fun v S' => ev c 34 25 [l0, l1, l2, l3] L2 (v.toList ++ []) S') := ev_call i34_22 rfl
theorem i34_25 : insAt 34 25 = some (.getfield 37, 3, (10, 5, 1, 0), 0) := rfl
theorem s34_25 {c : Nat → List AV → SS → Option Out} {l0 l1 l2 l3 : Option AV} {j t : Nat} {L2 : List (Nat × AV)} {St : List AV} {S : SS} : ev c 34 25 [l0, l1, l2, l3] L2 (aR (10, j, t) :: St) S = ev c 34 28 [l0, l1, l2, l3] L2 (aI (bb (S.1 (10, j, t) 5)) :: St) S := ev_go i34_25 rfl
theorem i34_28 : insAt 34 28 = some (.ifCond .ne 9, 3, (0, 0, 0, 0), 0) := rfl
theorem s34_28 {c : Nat → List AV → SS → Option Out} {l0 l1 l2 l3 : Option AV} {x : Int32} {L2 : List (Nat × AV)} {St : List AV} {S : SS} : ev c 34 28 [l0, l1, l2, l3] L2 (aI x :: St) S = if x = 0 then ev c 34 31 [l0, l1, l2, l3] L2 St S else ev c 34 37 [l0, l1, l2, l3] L2 St S := (ev_br i34_28 rfl).trans (ite_not _ _ _)
theorem i34_31 : insAt 34 31 = some (.aload_n 0, 1, (0, 0, 0, 0), 0) := rfl
theorem s34_31 {c : Nat → List AV → SS → Option Out} {l1 l2 l3 : Option AV} {o : OId} {L2 : List (Nat × AV)} {St : List AV} {S : SS} : ev c 34 31 [some (aR o), l1, l2, l3] L2 St S = ev c 34 32 [some (aR o), l1, l2, l3] L2 (aR o :: St) S := ev_go i34_31 rfl
theorem i34_32 : insAt 34 32 = some (.aload_n 1, 1, (0, 0, 0, 0), 0) := rfl
theorem s34_32 {c : Nat → List AV → SS → Option Out} {l0 l2 l3 : Option AV} {o : OId} {L2 : List (Nat × AV)} {St : List AV} {S : SS} : ev c 34 32 [l0, some (aR o), l2, l3] L2 St S = ev c 34 33 [l0, some (aR o), l2, l3] L2 (aR o :: St) S := ev_go i34_32 rfl
theorem i34_33 : insAt 34 33 = some (.iload_n 3, 1, (0, 0, 0, 0), 0) := rfl
theorem s34_33 {c : Nat → List AV → SS → Option Out} {l0 l1 l2 : Option AV} {x : Int32} {L2 : List (Nat × AV)} {St : List AV} {S : SS} : ev c 34 33 [l0, l1, l2, some (aI x)] L2 St S = ev c 34 34 [l0, l1, l2, some (aI x)] L2 (aI x :: St) S := ev_go i34_33 rfl
theorem i34_34 : insAt 34 34 = some (.invokevirtual 43, 3, (35, 2, 2, 6), 0) := rfl
theorem s34_34 {c : Nat → List AV → SS → Option Out} {l0 l1 l2 l3 : Option AV} {a0 : OId} {a1 : Int32} {j t : Nat} {L2 : List (Nat × AV)} {S : SS} : ev c 34 34 [l0, l1, l2, l3] L2 [aI a1, aR a0, aR (6, j, t)] S = ck (c 35 [aR (6, j, t), aR a0, aI a1] S) (fun v S' => ev c 34 37 [l0, l1, l2, l3] L2 (v.toList ++ []) S') := ev_call i34_34 rfl
theorem i34_37 : insAt 34 37 = some (.iinc 3 1, 3, (0, 0, 0, 0), 0) := rfl
theorem s34_37 {c : Nat → List AV → SS → Option Out} {l0 l1 l2 : Option AV} {x : Int32} {L2 : List (Nat × AV)} {St : List AV} {S : SS} : ev c 34 37 [l0, l1, l2, some (aI x)] L2 St S = ev c 34 40 [l0, l1, l2, some (aI (x + 1))] (kil L2 3) St S := ev_go i34_37 rfl
theorem i34_40 : insAt 34 40 = some (.goto (-33), 3, (0, 0, 0, 0), 0) := rfl
theorem s34_40 {c : Nat → List AV → SS → Option Out} {l0 l1 l2 l3 : Option AV} {L2 : List (Nat × AV)} {St : List AV} {S : SS} : ev c 34 40 [l0, l1, l2, l3] L2 St S = ev c 34 7 [l0, l1, l2, l3] L2 St S := ev_go i34_40 rfl
theorem i34_43 : insAt 34 43 = some (.return_, 1, (0, 0, 0, 0), 0) := rfl
theorem s34_43 {c : Nat → List AV → SS → Option Out} {l0 l1 l2 l3 : Option AV} {L2 : List (Nat × AV)} {St : List AV} {S : SS} : ev c 34 43 [l0, l1, l2, l3] L2 [] S = some (.inl none, S) := ev_end i34_43 rfl
theorem m34 {d : Nat} {o : OId} {a0 : OId} {a1 : Int32} {S : SS} : evm (d + 1) 34 [aR o, aR a0, aI a1] S = ev (evm d) 34 0 [some (aR o), some (aR a0), some (aI a1), none] [] [] S := evm_s (n := 4) rfl (Nat.le_of_ble_eq_true rfl) rfl rfl
/-! FrequencyOffice$Net.append(LFrequencyOffice$Books;I)V -/
theorem i35_0 : insAt 35 0 = some (.iconst 0, 1, (0, 0, 0, 0), 0) := rfl
theorem s35_0 {c : Nat → List AV → SS → Option Out} {l0 l1 l2 l3 l4 : Option AV} {L2 : List (Nat × AV)} {St : List AV} {S : SS} : ev c 35 0 [l0, l1, l2, l3, l4] L2 St S = ev c 35 1 [l0, l1, l2, l3, l4] L2 (aI 0 :: St) S := ev_go i35_0 rfl
theorem i35_1 : insAt 35 1 = some (.istore_n 3, 1, (0, 0, 0, 0), 0) := rfl
theorem s35_1 {c : Nat → List AV → SS → Option Out} {l0 l1 l2 l3 l4 : Option AV} {x : Int32} {L2 : List (Nat × AV)} {St : List AV} {S : SS} : ev c 35 1 [l0, l1, l2, l3, l4] L2 (aI x :: St) S = ev c 35 2 [l0, l1, l2, some (aI x), l4] (kil L2 3) St S := ev_go i35_1 rfl
theorem i35_2 : insAt 35 2 = some (.iload_n 3, 1, (0, 0, 0, 0), 0) := rfl
theorem s35_2 {c : Nat → List AV → SS → Option Out} {l0 l1 l2 l4 : Option AV} {x : Int32} {L2 : List (Nat × AV)} {St : List AV} {S : SS} : ev c 35 2 [l0, l1, l2, some (aI x), l4] L2 St S = ev c 35 3 [l0, l1, l2, some (aI x), l4] L2 (aI x :: St) S := ev_go i35_2 rfl
theorem i35_3 : insAt 35 3 = some (.aload_n 0, 1, (0, 0, 0, 0), 0) := rfl
theorem s35_3 {c : Nat → List AV → SS → Option Out} {l1 l2 l3 l4 : Option AV} {o : OId} {L2 : List (Nat × AV)} {St : List AV} {S : SS} : ev c 35 3 [some (aR o), l1, l2, l3, l4] L2 St S = ev c 35 4 [some (aR o), l1, l2, l3, l4] L2 (aR o :: St) S := ev_go i35_3 rfl
theorem i35_4 : insAt 35 4 = some (.getfield 9, 3, (6, 0, 0, 0), 0) := rfl
theorem s35_4 {c : Nat → List AV → SS → Option Out} {l0 l1 l2 l3 l4 : Option AV} {j t : Nat} {L2 : List (Nat × AV)} {St : List AV} {S : SS} : ev c 35 4 [l0, l1, l2, l3, l4] L2 (aR (6, j, t) :: St) S = ev c 35 7 [l0, l1, l2, l3, l4] L2 (aI (S.1 (6, j, t) 0) :: St) S := ev_go i35_4 rfl
theorem i35_7 : insAt 35 7 = some (.if_icmp .ge 58, 3, (0, 0, 0, 0), 0) := rfl
theorem s35_7 {c : Nat → List AV → SS → Option Out} {l0 l1 l2 l3 l4 : Option AV} {x y : Int32} {L2 : List (Nat × AV)} {St : List AV} {S : SS} : ev c 35 7 [l0, l1, l2, l3, l4] L2 (aI y :: aI x :: St) S = if y ≤ x then ev c 35 65 [l0, l1, l2, l3, l4] L2 St S else ev c 35 10 [l0, l1, l2, l3, l4] L2 St S := ev_br i35_7 rfl
theorem i35_10 : insAt 35 10 = some (.aload_n 1, 1, (0, 0, 0, 0), 0) := rfl
theorem s35_10 {c : Nat → List AV → SS → Option Out} {l0 l2 l3 l4 : Option AV} {o : OId} {L2 : List (Nat × AV)} {St : List AV} {S : SS} : ev c 35 10 [l0, some (aR o), l2, l3, l4] L2 St S = ev c 35 11 [l0, some (aR o), l2, l3, l4] L2 (aR o :: St) S := ev_go i35_10 rfl
theorem i35_11 : insAt 35 11 = some (.aload_n 0, 1, (0, 0, 0, 0), 0) := rfl
theorem s35_11 {c : Nat → List AV → SS → Option Out} {l1 l2 l3 l4 : Option AV} {o : OId} {L2 : List (Nat × AV)} {St : List AV} {S : SS} : ev c 35 11 [some (aR o), l1, l2, l3, l4] L2 St S = ev c 35 12 [some (aR o), l1, l2, l3, l4] L2 (aR o :: St) S := ev_go i35_11 rfl
theorem i35_12 : insAt 35 12 = some (.getfield 15, 3, (6, 1, 0, 0), 0) := rfl
theorem s35_12 {c : Nat → List AV → SS → Option Out} {l0 l1 l2 l3 l4 : Option AV} {j t : Nat} {L2 : List (Nat × AV)} {St : List AV} {S : SS} : ev c 35 12 [l0, l1, l2, l3, l4] L2 (aR (6, j, t) :: St) S = ev c 35 15 [l0, l1, l2, l3, l4] L2 (S.2.2.1 (6, j, t) 1 :: St) S := ev_go i35_12 rfl
theorem i35_15 : insAt 35 15 = some (.iload_n 3, 1, (0, 0, 0, 0), 0) := rfl
theorem s35_15 {c : Nat → List AV → SS → Option Out} {l0 l1 l2 l4 : Option AV} {x : Int32} {L2 : List (Nat × AV)} {St : List AV} {S : SS} : ev c 35 15 [l0, l1, l2, some (aI x), l4] L2 St S = ev c 35 16 [l0, l1, l2, some (aI x), l4] L2 (aI x :: St) S := ev_go i35_15 rfl
theorem i35_16 : insAt 35 16 = some (.invokestatic 47, 3, (32, 2, 1, 0), 0) := rfl
theorem s35_16 {c : Nat → List AV → SS → Option Out} {l0 l1 l2 l3 l4 : Option AV} {t0 : AV} {a0 : OId} {a1 : Int32} {L2 : List (Nat × AV)} {S : SS} : ev c 35 16 [l0, l1, l2, l3, l4] L2 [aI a1, aR a0, t0] S = ck (c 32 [aR a0, aI a1] S) (fun v S' => ev c 35 19 [l0, l1, l2, l3, l4] L2 (v.toList ++ [t0]) S') := ev_call i35_16 rfl
theorem i35_19 : insAt 35 19 = some (.iload_n 2, 1, (0, 0, 0, 0), 0) := rfl
theorem s35_19 {c : Nat → List AV → SS → Option Out} {l0 l1 l3 l4 : Option AV} {x : Int32} {L2 : List (Nat × AV)} {St : List AV} {S : SS} : ev c 35 19 [l0, l1, some (aI x), l3, l4] L2 St S = ev c 35 20 [l0, l1, some (aI x), l3, l4] L2 (aI x :: St) S := ev_go i35_19 rfl
theorem i35_20 : insAt 35 20 = some (.invokevirtual 51, 3, (26, 2, 3, 4), 0) := rfl
theorem s35_20 {c : Nat → List AV → SS → Option Out} {l0 l1 l2 l3 l4 : Option AV} {a0 : Int32} {a1 : Int32} {j t : Nat} {L2 : List (Nat × AV)} {S : SS} : ev c 35 20 [l0, l1, l2, l3, l4] L2 [aI a1, aI a0, aR (4, j, t)] S = ck (c 26 [aR (4, j, t), aI a0, aI a1] S) (fun v S' => ev c 35 23 [l0, l1, l2, l3, l4] L2 (v.toList ++ []) S') := ev_call i35_20 rfl
theorem i35_23 : insAt 35 23 = some (.istore 4, 2, (0, 0, 0, 0), 0) := rfl
theorem s35_23 {c : Nat → List AV → SS → Option Out} {l0 l1 l2 l3 l4 : Option AV} {x : Int32} {L2 : List (Nat × AV)} {St : List AV} {S : SS} : ev c 35 23 [l0, l1, l2, l3, l4] L2 (aI x :: St) S = ev c 35 25 [l0, l1, l2, l3, some (aI x)] (kil L2 4) St S := ev_go i35_23 rfl
theorem i35_25 : insAt 35 25 = some (.aload_n 0, 1, (0, 0, 0, 0), 0) := rfl
theorem s35_25 {c : Nat → List AV → SS → Option Out} {l1 l2 l3 l4 : Option AV} {o : OId} {L2 : List (Nat × AV)} {St : List AV} {S : SS} : ev c 35 25 [some (aR o), l1, l2, l3, l4] L2 St S = ev c 35 26 [some (aR o), l1, l2, l3, l4] L2 (aR o :: St) S := ev_go i35_25 rfl
theorem i35_26 : insAt 35 26 = some (.getfield 25, 3, (6, 4, 0, 0), 0) := rfl
theorem s35_26 {c : Nat → List AV → SS → Option Out} {l0 l1 l2 l3 l4 : Option AV} {j t : Nat} {L2 : List (Nat × AV)} {St : List AV} {S : SS} : ev c 35 26 [l0, l1, l2, l3, l4] L2 (aR (6, j, t) :: St) S = ev c 35 29 [l0, l1, l2, l3, l4] L2 (S.2.2.1 (6, j, t) 4 :: St) S := ev_go i35_26 rfl
theorem i35_29 : insAt 35 29 = some (.iload_n 3, 1, (0, 0, 0, 0), 0) := rfl
theorem s35_29 {c : Nat → List AV → SS → Option Out} {l0 l1 l2 l4 : Option AV} {x : Int32} {L2 : List (Nat × AV)} {St : List AV} {S : SS} : ev c 35 29 [l0, l1, l2, some (aI x), l4] L2 St S = ev c 35 30 [l0, l1, l2, some (aI x), l4] L2 (aI x :: St) S := ev_go i35_29 rfl
theorem i35_30 : insAt 35 30 = some (.aload_n 0, 1, (0, 0, 0, 0), 0) := rfl
theorem s35_30 {c : Nat → List AV → SS → Option Out} {l1 l2 l3 l4 : Option AV} {o : OId} {L2 : List (Nat × AV)} {St : List AV} {S : SS} : ev c 35 30 [some (aR o), l1, l2, l3, l4] L2 St S = ev c 35 31 [some (aR o), l1, l2, l3, l4] L2 (aR o :: St) S := ev_go i35_30 rfl
theorem i35_31 : insAt 35 31 = some (.getfield 9, 3, (6, 0, 0, 0), 0) := rfl
theorem s35_31 {c : Nat → List AV → SS → Option Out} {l0 l1 l2 l3 l4 : Option AV} {j t : Nat} {L2 : List (Nat × AV)} {St : List AV} {S : SS} : ev c 35 31 [l0, l1, l2, l3, l4] L2 (aR (6, j, t) :: St) S = ev c 35 34 [l0, l1, l2, l3, l4] L2 (aI (S.1 (6, j, t) 0) :: St) S := ev_go i35_31 rfl
theorem i35_34 : insAt 35 34 = some (.invokestatic 55, 3, (31, 2, 1, 0), 0) := rfl
theorem s35_34 {c : Nat → List AV → SS → Option Out} {l0 l1 l2 l3 l4 : Option AV} {t0 : AV} {a0 : Int32} {a1 : Int32} {L2 : List (Nat × AV)} {S : SS} : ev c 35 34 [l0, l1, l2, l3, l4] L2 [aI a1, aI a0, t0] S = ck (c 31 [aI a0, aI a1] S) (fun v S' => ev c 35 37 [l0, l1, l2, l3, l4] L2 (v.toList ++ [t0]) S') := ev_call i35_34 rfl
theorem i35_37 : insAt 35 37 = some (.iload 4, 2, (0, 0, 0, 0), 0) := rfl
theorem s35_37 {c : Nat → List AV → SS → Option Out} {l0 l1 l2 l3 : Option AV} {x : Int32} {L2 : List (Nat × AV)} {St : List AV} {S : SS} : ev c 35 37 [l0, l1, l2, l3, some (aI x)] L2 St S = ev c 35 39 [l0, l1, l2, l3, some (aI x)] L2 (aI x :: St) S := ev_go i35_37 rfl
theorem i35_39 : insAt 35 39 = some (.invokestatic 58, 3, (36, 3, 1, 0), 0) := rfl
theorem s35_39 {c : Nat → List AV → SS → Option Out} {l0 l1 l2 l3 l4 : Option AV} {a0 : OId} {a1 : Int32} {a2 : Int32} {L2 : List (Nat × AV)} {S : SS} : ev c 35 39 [l0, l1, l2, l3, l4] L2 [aI a2, aI a1, aR a0] S = ck (c 36 [aR a0, aI a1, aI a2] S) (fun v S' => ev c 35 42 [l0, l1, l2, l3, l4] L2 (v.toList ++ []) S') := ev_call i35_39 rfl
theorem i35_42 : insAt 35 42 = some (.aload_n 0, 1, (0, 0, 0, 0), 0) := rfl
theorem s35_42 {c : Nat → List AV → SS → Option Out} {l1 l2 l3 l4 : Option AV} {o : OId} {L2 : List (Nat × AV)} {St : List AV} {S : SS} : ev c 35 42 [some (aR o), l1, l2, l3, l4] L2 St S = ev c 35 43 [some (aR o), l1, l2, l3, l4] L2 (aR o :: St) S := ev_go i35_42 rfl
theorem i35_43 : insAt 35 43 = some (.getfield 25, 3, (6, 4, 0, 0), 0) := rfl
theorem s35_43 {c : Nat → List AV → SS → Option Out} {l0 l1 l2 l3 l4 : Option AV} {j t : Nat} {L2 : List (Nat × AV)} {St : List AV} {S : SS} : ev c 35 43 [l0, l1, l2, l3, l4] L2 (aR (6, j, t) :: St) S = ev c 35 46 [l0, l1, l2, l3, l4] L2 (S.2.2.1 (6, j, t) 4 :: St) S := ev_go i35_43 rfl
theorem i35_46 : insAt 35 46 = some (.aload_n 0, 1, (0, 0, 0, 0), 0) := rfl
theorem s35_46 {c : Nat → List AV → SS → Option Out} {l1 l2 l3 l4 : Option AV} {o : OId} {L2 : List (Nat × AV)} {St : List AV} {S : SS} : ev c 35 46 [some (aR o), l1, l2, l3, l4] L2 St S = ev c 35 47 [some (aR o), l1, l2, l3, l4] L2 (aR o :: St) S := ev_go i35_46 rfl
theorem i35_47 : insAt 35 47 = some (.getfield 9, 3, (6, 0, 0, 0), 0) := rfl
theorem s35_47 {c : Nat → List AV → SS → Option Out} {l0 l1 l2 l3 l4 : Option AV} {j t : Nat} {L2 : List (Nat × AV)} {St : List AV} {S : SS} : ev c 35 47 [l0, l1, l2, l3, l4] L2 (aR (6, j, t) :: St) S = ev c 35 50 [l0, l1, l2, l3, l4] L2 (aI (S.1 (6, j, t) 0) :: St) S := ev_go i35_47 rfl
theorem i35_50 : insAt 35 50 = some (.iload_n 3, 1, (0, 0, 0, 0), 0) := rfl
theorem s35_50 {c : Nat → List AV → SS → Option Out} {l0 l1 l2 l4 : Option AV} {x : Int32} {L2 : List (Nat × AV)} {St : List AV} {S : SS} : ev c 35 50 [l0, l1, l2, some (aI x), l4] L2 St S = ev c 35 51 [l0, l1, l2, some (aI x), l4] L2 (aI x :: St) S := ev_go i35_50 rfl
theorem i35_51 : insAt 35 51 = some (.invokestatic 55, 3, (31, 2, 1, 0), 0) := rfl
theorem s35_51 {c : Nat → List AV → SS → Option Out} {l0 l1 l2 l3 l4 : Option AV} {t0 : AV} {a0 : Int32} {a1 : Int32} {L2 : List (Nat × AV)} {S : SS} : ev c 35 51 [l0, l1, l2, l3, l4] L2 [aI a1, aI a0, t0] S = ck (c 31 [aI a0, aI a1] S) (fun v S' => ev c 35 54 [l0, l1, l2, l3, l4] L2 (v.toList ++ [t0]) S') := ev_call i35_51 rfl
theorem i35_54 : insAt 35 54 = some (.iload 4, 2, (0, 0, 0, 0), 0) := rfl
theorem s35_54 {c : Nat → List AV → SS → Option Out} {l0 l1 l2 l3 : Option AV} {x : Int32} {L2 : List (Nat × AV)} {St : List AV} {S : SS} : ev c 35 54 [l0, l1, l2, l3, some (aI x)] L2 St S = ev c 35 56 [l0, l1, l2, l3, some (aI x)] L2 (aI x :: St) S := ev_go i35_54 rfl
theorem i35_56 : insAt 35 56 = some (.invokestatic 58, 3, (36, 3, 1, 0), 0) := rfl
theorem s35_56 {c : Nat → List AV → SS → Option Out} {l0 l1 l2 l3 l4 : Option AV} {a0 : OId} {a1 : Int32} {a2 : Int32} {L2 : List (Nat × AV)} {S : SS} : ev c 35 56 [l0, l1, l2, l3, l4] L2 [aI a2, aI a1, aR a0] S = ck (c 36 [aR a0, aI a1, aI a2] S) (fun v S' => ev c 35 59 [l0, l1, l2, l3, l4] L2 (v.toList ++ []) S') := ev_call i35_56 rfl
theorem i35_59 : insAt 35 59 = some (.iinc 3 1, 3, (0, 0, 0, 0), 0) := rfl
theorem s35_59 {c : Nat → List AV → SS → Option Out} {l0 l1 l2 l4 : Option AV} {x : Int32} {L2 : List (Nat × AV)} {St : List AV} {S : SS} : ev c 35 59 [l0, l1, l2, some (aI x), l4] L2 St S = ev c 35 62 [l0, l1, l2, some (aI (x + 1)), l4] (kil L2 3) St S := ev_go i35_59 rfl
theorem i35_62 : insAt 35 62 = some (.goto (-60), 3, (0, 0, 0, 0), 0) := rfl
theorem s35_62 {c : Nat → List AV → SS → Option Out} {l0 l1 l2 l3 l4 : Option AV} {L2 : List (Nat × AV)} {St : List AV} {S : SS} : ev c 35 62 [l0, l1, l2, l3, l4] L2 St S = ev c 35 2 [l0, l1, l2, l3, l4] L2 St S := ev_go i35_62 rfl
theorem i35_65 : insAt 35 65 = some (.aload_n 0, 1, (0, 0, 0, 0), 0) := rfl
theorem s35_65 {c : Nat → List AV → SS → Option Out} {l1 l2 l3 l4 : Option AV} {o : OId} {L2 : List (Nat × AV)} {St : List AV} {S : SS} : ev c 35 65 [some (aR o), l1, l2, l3, l4] L2 St S = ev c 35 66 [some (aR o), l1, l2, l3, l4] L2 (aR o :: St) S := ev_go i35_65 rfl
theorem i35_66 : insAt 35 66 = some (.getfield 15, 3, (6, 1, 0, 0), 0) := rfl
theorem s35_66 {c : Nat → List AV → SS → Option Out} {l0 l1 l2 l3 l4 : Option AV} {j t : Nat} {L2 : List (Nat × AV)} {St : List AV} {S : SS} : ev c 35 66 [l0, l1, l2, l3, l4] L2 (aR (6, j, t) :: St) S = ev c 35 69 [l0, l1, l2, l3, l4] L2 (S.2.2.1 (6, j, t) 1 :: St) S := ev_go i35_66 rfl
theorem i35_69 : insAt 35 69 = some (.aload_n 0, 1, (0, 0, 0, 0), 0) := rfl
theorem s35_69 {c : Nat → List AV → SS → Option Out} {l1 l2 l3 l4 : Option AV} {o : OId} {L2 : List (Nat × AV)} {St : List AV} {S : SS} : ev c 35 69 [some (aR o), l1, l2, l3, l4] L2 St S = ev c 35 70 [some (aR o), l1, l2, l3, l4] L2 (aR o :: St) S := ev_go i35_69 rfl
theorem i35_70 : insAt 35 70 = some (.getfield 9, 3, (6, 0, 0, 0), 0) := rfl
theorem s35_70 {c : Nat → List AV → SS → Option Out} {l0 l1 l2 l3 l4 : Option AV} {j t : Nat} {L2 : List (Nat × AV)} {St : List AV} {S : SS} : ev c 35 70 [l0, l1, l2, l3, l4] L2 (aR (6, j, t) :: St) S = ev c 35 73 [l0, l1, l2, l3, l4] L2 (aI (S.1 (6, j, t) 0) :: St) S := ev_go i35_70 rfl
theorem i35_73 : insAt 35 73 = some (.iload_n 2, 1, (0, 0, 0, 0), 0) := rfl
theorem s35_73 {c : Nat → List AV → SS → Option Out} {l0 l1 l3 l4 : Option AV} {x : Int32} {L2 : List (Nat × AV)} {St : List AV} {S : SS} : ev c 35 73 [l0, l1, some (aI x), l3, l4] L2 St S = ev c 35 74 [l0, l1, some (aI x), l3, l4] L2 (aI x :: St) S := ev_go i35_73 rfl
theorem i35_74 : insAt 35 74 = some (.invokestatic 58, 3, (36, 3, 1, 0), 0) := rfl
theorem s35_74 {c : Nat → List AV → SS → Option Out} {l0 l1 l2 l3 l4 : Option AV} {a0 : OId} {a1 : Int32} {a2 : Int32} {L2 : List (Nat × AV)} {S : SS} : ev c 35 74 [l0, l1, l2, l3, l4] L2 [aI a2, aI a1, aR a0] S = ck (c 36 [aR a0, aI a1, aI a2] S) (fun v S' => ev c 35 77 [l0, l1, l2, l3, l4] L2 (v.toList ++ []) S') := ev_call i35_74 rfl
theorem i35_77 : insAt 35 77 = some (.aload_n 0, 1, (0, 0, 0, 0), 0) := rfl
theorem s35_77 {c : Nat → List AV → SS → Option Out} {l1 l2 l3 l4 : Option AV} {o : OId} {L2 : List (Nat × AV)} {St : List AV} {S : SS} : ev c 35 77 [some (aR o), l1, l2, l3, l4] L2 St S = ev c 35 78 [some (aR o), l1, l2, l3, l4] L2 (aR o :: St) S := ev_go i35_77 rfl
theorem i35_78 : insAt 35 78 = some (.getfield 19, 3, (6, 2, 0, 0), 0) := rfl
theorem s35_78 {c : Nat → List AV → SS → Option Out} {l0 l1 l2 l3 l4 : Option AV} {j t : Nat} {L2 : List (Nat × AV)} {St : List AV} {S : SS} : ev c 35 78 [l0, l1, l2, l3, l4] L2 (aR (6, j, t) :: St) S = ev c 35 81 [l0, l1, l2, l3, l4] L2 (S.2.2.1 (6, j, t) 2 :: St) S := ev_go i35_78 rfl
theorem i35_81 : insAt 35 81 = some (.aload_n 0, 1, (0, 0, 0, 0), 0) := rfl
theorem s35_81 {c : Nat → List AV → SS → Option Out} {l1 l2 l3 l4 : Option AV} {o : OId} {L2 : List (Nat × AV)} {St : List AV} {S : SS} : ev c 35 81 [some (aR o), l1, l2, l3, l4] L2 St S = ev c 35 82 [some (aR o), l1, l2, l3, l4] L2 (aR o :: St) S := ev_go i35_81 rfl
theorem i35_82 : insAt 35 82 = some (.getfield 9, 3, (6, 0, 0, 0), 0) := rfl
theorem s35_82 {c : Nat → List AV → SS → Option Out} {l0 l1 l2 l3 l4 : Option AV} {j t : Nat} {L2 : List (Nat × AV)} {St : List AV} {S : SS} : ev c 35 82 [l0, l1, l2, l3, l4] L2 (aR (6, j, t) :: St) S = ev c 35 85 [l0, l1, l2, l3, l4] L2 (aI (S.1 (6, j, t) 0) :: St) S := ev_go i35_82 rfl
theorem i35_85 : insAt 35 85 = some (.aload_n 1, 1, (0, 0, 0, 0), 0) := rfl
theorem s35_85 {c : Nat → List AV → SS → Option Out} {l0 l2 l3 l4 : Option AV} {o : OId} {L2 : List (Nat × AV)} {St : List AV} {S : SS} : ev c 35 85 [l0, some (aR o), l2, l3, l4] L2 St S = ev c 35 86 [l0, some (aR o), l2, l3, l4] L2 (aR o :: St) S := ev_go i35_85 rfl
theorem i35_86 : insAt 35 86 = some (.iload_n 2, 1, (0, 0, 0, 0), 0) := rfl
theorem s35_86 {c : Nat → List AV → SS → Option Out} {l0 l1 l3 l4 : Option AV} {x : Int32} {L2 : List (Nat × AV)} {St : List AV} {S : SS} : ev c 35 86 [l0, l1, some (aI x), l3, l4] L2 St S = ev c 35 87 [l0, l1, some (aI x), l3, l4] L2 (aI x :: St) S := ev_go i35_86 rfl
theorem i35_87 : insAt 35 87 = some (.invokevirtual 33, 3, (17, 1, 3, 4), 0) := rfl
theorem s35_87 {c : Nat → List AV → SS → Option Out} {l0 l1 l2 l3 l4 : Option AV} {t0 t1 : AV} {a0 : Int32} {j t : Nat} {L2 : List (Nat × AV)} {S : SS} : ev c 35 87 [l0, l1, l2, l3, l4] L2 [aI a0, aR (4, j, t), t0, t1] S = ck (c 17 [aR (4, j, t), aI a0] S) (fun v S' => ev c 35 90 [l0, l1, l2, l3, l4] L2 (v.toList ++ [t0, t1]) S') := ev_call i35_87 rfl
theorem i35_90 : insAt 35 90 = some (.getfield 62, 3, (10, 0, 1, 0), 0) := rfl
theorem s35_90 {c : Nat → List AV → SS → Option Out} {l0 l1 l2 l3 l4 : Option AV} {j t : Nat} {L2 : List (Nat × AV)} {St : List AV} {S : SS} : ev c 35 90 [l0, l1, l2, l3, l4] L2 (aR (10, j, t) :: St) S = ev c 35 93 [l0, l1, l2, l3, l4] L2 (aI (S.1 (10, j, t) 0) :: St) S := ev_go i35_90 rfl
theorem i35_93 : insAt 35 93 = some (.invokestatic 58, 3, (36, 3, 1, 0), 0) := rfl
theorem s35_93 {c : Nat → List AV → SS → Option Out} {l0 l1 l2 l3 l4 : Option AV} {a0 : OId} {a1 : Int32} {a2 : Int32} {L2 : List (Nat × AV)} {S : SS} : ev c 35 93 [l0, l1, l2, l3, l4] L2 [aI a2, aI a1, aR a0] S = ck (c 36 [aR a0, aI a1, aI a2] S) (fun v S' => ev c 35 96 [l0, l1, l2, l3, l4] L2 (v.toList ++ []) S') := ev_call i35_93 rfl
theorem i35_96 : insAt 35 96 = some (.aload_n 0, 1, (0, 0, 0, 0), 0) := rfl
theorem s35_96 {c : Nat → List AV → SS → Option Out} {l1 l2 l3 l4 : Option AV} {o : OId} {L2 : List (Nat × AV)} {St : List AV} {S : SS} : ev c 35 96 [some (aR o), l1, l2, l3, l4] L2 St S = ev c 35 97 [some (aR o), l1, l2, l3, l4] L2 (aR o :: St) S := ev_go i35_96 rfl
theorem i35_97 : insAt 35 97 = some (.getfield 22, 3, (6, 3, 0, 0), 0) := rfl
theorem s35_97 {c : Nat → List AV → SS → Option Out} {l0 l1 l2 l3 l4 : Option AV} {j t : Nat} {L2 : List (Nat × AV)} {St : List AV} {S : SS} : ev c 35 97 [l0, l1, l2, l3, l4] L2 (aR (6, j, t) :: St) S = ev c 35 100 [l0, l1, l2, l3, l4] L2 (S.2.2.1 (6, j, t) 3 :: St) S := ev_go i35_97 rfl
theorem i35_100 : insAt 35 100 = some (.aload_n 0, 1, (0, 0, 0, 0), 0) := rfl
theorem s35_100 {c : Nat → List AV → SS → Option Out} {l1 l2 l3 l4 : Option AV} {o : OId} {L2 : List (Nat × AV)} {St : List AV} {S : SS} : ev c 35 100 [some (aR o), l1, l2, l3, l4] L2 St S = ev c 35 101 [some (aR o), l1, l2, l3, l4] L2 (aR o :: St) S := ev_go i35_100 rfl
theorem i35_101 : insAt 35 101 = some (.getfield 9, 3, (6, 0, 0, 0), 0) := rfl
theorem s35_101 {c : Nat → List AV → SS → Option Out} {l0 l1 l2 l3 l4 : Option AV} {j t : Nat} {L2 : List (Nat × AV)} {St : List AV} {S : SS} : ev c 35 101 [l0, l1, l2, l3, l4] L2 (aR (6, j, t) :: St) S = ev c 35 104 [l0, l1, l2, l3, l4] L2 (aI (S.1 (6, j, t) 0) :: St) S := ev_go i35_101 rfl
theorem i35_104 : insAt 35 104 = some (.aload_n 1, 1, (0, 0, 0, 0), 0) := rfl
theorem s35_104 {c : Nat → List AV → SS → Option Out} {l0 l2 l3 l4 : Option AV} {o : OId} {L2 : List (Nat × AV)} {St : List AV} {S : SS} : ev c 35 104 [l0, some (aR o), l2, l3, l4] L2 St S = ev c 35 105 [l0, some (aR o), l2, l3, l4] L2 (aR o :: St) S := ev_go i35_104 rfl
theorem i35_105 : insAt 35 105 = some (.iload_n 2, 1, (0, 0, 0, 0), 0) := rfl
theorem s35_105 {c : Nat → List AV → SS → Option Out} {l0 l1 l3 l4 : Option AV} {x : Int32} {L2 : List (Nat × AV)} {St : List AV} {S : SS} : ev c 35 105 [l0, l1, some (aI x), l3, l4] L2 St S = ev c 35 106 [l0, l1, some (aI x), l3, l4] L2 (aI x :: St) S := ev_go i35_105 rfl
theorem i35_106 : insAt 35 106 = some (.invokevirtual 33, 3, (17, 1, 3, 4), 0) := rfl
theorem s35_106 {c : Nat → List AV → SS → Option Out} {l0 l1 l2 l3 l4 : Option AV} {t0 t1 : AV} {a0 : Int32} {j t : Nat} {L2 : List (Nat × AV)} {S : SS} : ev c 35 106 [l0, l1, l2, l3, l4] L2 [aI a0, aR (4, j, t), t0, t1] S = ck (c 17 [aR (4, j, t), aI a0] S) (fun v S' => ev c 35 109 [l0, l1, l2, l3, l4] L2 (v.toList ++ [t0, t1]) S') := ev_call i35_106 rfl
theorem i35_109 : insAt 35 109 = some (.getfield 65, 3, (10, 3, 1, 0), 0) := rfl
theorem s35_109 {c : Nat → List AV → SS → Option Out} {l0 l1 l2 l3 l4 : Option AV} {j t : Nat} {L2 : List (Nat × AV)} {St : List AV} {S : SS} : ev c 35 109 [l0, l1, l2, l3, l4] L2 (aR (10, j, t) :: St) S = ev c 35 112 [l0, l1, l2, l3, l4] L2 (aI (S.1 (10, j, t) 3) :: St) S := ev_go i35_109 rfl
theorem i35_112 : insAt 35 112 = some (.invokestatic 58, 3, (36, 3, 1, 0), 0) := rfl
theorem s35_112 {c : Nat → List AV → SS → Option Out} {l0 l1 l2 l3 l4 : Option AV} {a0 : OId} {a1 : Int32} {a2 : Int32} {L2 : List (Nat × AV)} {S : SS} : ev c 35 112 [l0, l1, l2, l3, l4] L2 [aI a2, aI a1, aR a0] S = ck (c 36 [aR a0, aI a1, aI a2] S) (fun v S' => ev c 35 115 [l0, l1, l2, l3, l4] L2 (v.toList ++ []) S') := ev_call i35_112 rfl
theorem i35_115 : insAt 35 115 = some (.aload_n 0, 1, (0, 0, 0, 0), 0) := rfl
theorem s35_115 {c : Nat → List AV → SS → Option Out} {l1 l2 l3 l4 : Option AV} {o : OId} {L2 : List (Nat × AV)} {St : List AV} {S : SS} : ev c 35 115 [some (aR o), l1, l2, l3, l4] L2 St S = ev c 35 116 [some (aR o), l1, l2, l3, l4] L2 (aR o :: St) S := ev_go i35_115 rfl
theorem i35_116 : insAt 35 116 = some (.dup, 1, (0, 0, 0, 0), 0) := rfl
theorem s35_116 {c : Nat → List AV → SS → Option Out} {l0 l1 l2 l3 l4 : Option AV} {x : OId} {L2 : List (Nat × AV)} {St : List AV} {S : SS} : ev c 35 116 [l0, l1, l2, l3, l4] L2 (aR x :: St) S = ev c 35 117 [l0, l1, l2, l3, l4] L2 (aR x :: aR x :: St) S := ev_go i35_116 rfl
theorem i35_117 : insAt 35 117 = some (.getfield 9, 3, (6, 0, 0, 0), 0) := rfl
theorem s35_117 {c : Nat → List AV → SS → Option Out} {l0 l1 l2 l3 l4 : Option AV} {j t : Nat} {L2 : List (Nat × AV)} {St : List AV} {S : SS} : ev c 35 117 [l0, l1, l2, l3, l4] L2 (aR (6, j, t) :: St) S = ev c 35 120 [l0, l1, l2, l3, l4] L2 (aI (S.1 (6, j, t) 0) :: St) S := ev_go i35_117 rfl
theorem i35_120 : insAt 35 120 = some (.iconst 1, 1, (0, 0, 0, 0), 0) := rfl
theorem s35_120 {c : Nat → List AV → SS → Option Out} {l0 l1 l2 l3 l4 : Option AV} {L2 : List (Nat × AV)} {St : List AV} {S : SS} : ev c 35 120 [l0, l1, l2, l3, l4] L2 St S = ev c 35 121 [l0, l1, l2, l3, l4] L2 (aI 1 :: St) S := ev_go i35_120 rfl
theorem i35_121 : insAt 35 121 = some (.iadd, 1, (0, 0, 0, 0), 0) := rfl
theorem s35_121 {c : Nat → List AV → SS → Option Out} {l0 l1 l2 l3 l4 : Option AV} {x y : Int32} {L2 : List (Nat × AV)} {St : List AV} {S : SS} : ev c 35 121 [l0, l1, l2, l3, l4] L2 (aI y :: aI x :: St) S = ev c 35 122 [l0, l1, l2, l3, l4] L2 (aI (x + y) :: St) S := ev_go i35_121 rfl
theorem i35_122 : insAt 35 122 = some (.putfield 9, 3, (6, 0, 0, 0), 0) := rfl
theorem s35_122 {c : Nat → List AV → SS → Option Out} {l0 l1 l2 l3 l4 : Option AV} {j t : Nat} {x : Int32} {L2 : List (Nat × AV)} {St : List AV} {S : SS} : ev c 35 122 [l0, l1, l2, l3, l4] L2 (aI x :: aR (6, j, t) :: St) S = ev c 35 125 [l0, l1, l2, l3, l4] L2 St (setI S.1 (6, j, t) 0 x, S.2) := ev_go i35_122 rfl
theorem i35_125 : insAt 35 125 = some (.return_, 1, (0, 0, 0, 0), 0) := rfl
theorem s35_125 {c : Nat → List AV → SS → Option Out} {l0 l1 l2 l3 l4 : Option AV} {L2 : List (Nat × AV)} {St : List AV} {S : SS} : ev c 35 125 [l0, l1, l2, l3, l4] L2 [] S = some (.inl none, S) := ev_end i35_125 rfl
theorem m35 {d : Nat} {o : OId} {a0 : OId} {a1 : Int32} {S : SS} : evm (d + 1) 35 [aR o, aR a0, aI a1] S = ev (evm d) 35 0 [some (aR o), some (aR a0), some (aI a1), none, none] [] [] S := evm_s (n := 5) rfl (Nat.le_of_ble_eq_true rfl) rfl rfl
/-! FrequencyOffice$Spans.leastByNumbers()I -/
theorem i37_0 : insAt 37 0 = some (.aload_n 0, 1, (0, 0, 0, 0), 0) := rfl
theorem s37_0 {c : Nat → List AV → SS → Option Out} {l1 : Option AV} {o : OId} {L2 : List (Nat × AV)} {St : List AV} {S : SS} : ev c 37 0 [some (aR o), l1] L2 St S = ev c 37 1 [some (aR o), l1] L2 (aR o :: St) S := ev_go i37_0 rfl
theorem i37_1 : insAt 37 1 = some (.invokevirtual 23, 3, (38, 0, 2, 9), 0) := rfl
theorem s37_1 {c : Nat → List AV → SS → Option Out} {l0 l1 : Option AV} {j t : Nat} {L2 : List (Nat × AV)} {S : SS} : ev c 37 1 [l0, l1] L2 [aR (9, j, t)] S = ck (c 38 [aR (9, j, t)] S) (fun v S' => ev c 37 4 [l0, l1] L2 (v.toList ++ []) S') := ev_call i37_1 rfl
theorem i37_4 : insAt 37 4 = some (.iconst 0, 1, (0, 0, 0, 0), 0) := rfl
theorem s37_4 {c : Nat → List AV → SS → Option Out} {l0 l1 : Option AV} {L2 : List (Nat × AV)} {St : List AV} {S : SS} : ev c 37 4 [l0, l1] L2 St S = ev c 37 5 [l0, l1] L2 (aI 0 :: St) S := ev_go i37_4 rfl
theorem i37_5 : insAt 37 5 = some (.istore_n 1, 1, (0, 0, 0, 0), 0) := rfl
theorem s37_5 {c : Nat → List AV → SS → Option Out} {l0 l1 : Option AV} {x : Int32} {L2 : List (Nat × AV)} {St : List AV} {S : SS} : ev c 37 5 [l0, l1] L2 (aI x :: St) S = ev c 37 6 [l0, some (aI x)] (kil L2 1) St S := ev_go i37_5 rfl
theorem i37_6 : insAt 37 6 = some (.iload_n 1, 1, (0, 0, 0, 0), 0) := rfl
theorem s37_6 {c : Nat → List AV → SS → Option Out} {l0 : Option AV} {x : Int32} {L2 : List (Nat × AV)} {St : List AV} {S : SS} : ev c 37 6 [l0, some (aI x)] L2 St S = ev c 37 7 [l0, some (aI x)] L2 (aI x :: St) S := ev_go i37_6 rfl
theorem i37_7 : insAt 37 7 = some (.bipush 31, 2, (0, 0, 0, 0), 0) := rfl
theorem s37_7 {c : Nat → List AV → SS → Option Out} {l0 l1 : Option AV} {L2 : List (Nat × AV)} {St : List AV} {S : SS} : ev c 37 7 [l0, l1] L2 St S = ev c 37 9 [l0, l1] L2 (aI 31 :: St) S := ev_go i37_7 rfl
theorem i37_9 : insAt 37 9 = some (.if_icmp .ge 21, 3, (0, 0, 0, 0), 0) := rfl
theorem s37_9 {c : Nat → List AV → SS → Option Out} {l0 l1 : Option AV} {x y : Int32} {L2 : List (Nat × AV)} {St : List AV} {S : SS} : ev c 37 9 [l0, l1] L2 (aI y :: aI x :: St) S = if y ≤ x then ev c 37 30 [l0, l1] L2 St S else ev c 37 12 [l0, l1] L2 St S := ev_br i37_9 rfl
theorem i37_12 : insAt 37 12 = some (.aload_n 0, 1, (0, 0, 0, 0), 0) := rfl
theorem s37_12 {c : Nat → List AV → SS → Option Out} {l1 : Option AV} {o : OId} {L2 : List (Nat × AV)} {St : List AV} {S : SS} : ev c 37 12 [some (aR o), l1] L2 St S = ev c 37 13 [some (aR o), l1] L2 (aR o :: St) S := ev_go i37_12 rfl
theorem i37_13 : insAt 37 13 = some (.iconst 0, 1, (0, 0, 0, 0), 0) := rfl
theorem s37_13 {c : Nat → List AV → SS → Option Out} {l0 l1 : Option AV} {L2 : List (Nat × AV)} {St : List AV} {S : SS} : ev c 37 13 [l0, l1] L2 St S = ev c 37 14 [l0, l1] L2 (aI 0 :: St) S := ev_go i37_13 rfl
theorem i37_14 : insAt 37 14 = some (.iconst 0, 1, (0, 0, 0, 0), 0) := rfl
theorem s37_14 {c : Nat → List AV → SS → Option Out} {l0 l1 : Option AV} {L2 : List (Nat × AV)} {St : List AV} {S : SS} : ev c 37 14 [l0, l1] L2 St S = ev c 37 15 [l0, l1] L2 (aI 0 :: St) S := ev_go i37_14 rfl
theorem i37_15 : insAt 37 15 = some (.iload_n 1, 1, (0, 0, 0, 0), 0) := rfl
theorem s37_15 {c : Nat → List AV → SS → Option Out} {l0 : Option AV} {x : Int32} {L2 : List (Nat × AV)} {St : List AV} {S : SS} : ev c 37 15 [l0, some (aI x)] L2 St S = ev c 37 16 [l0, some (aI x)] L2 (aI x :: St) S := ev_go i37_15 rfl
theorem i37_16 : insAt 37 16 = some (.invokestatic 26, 3, (41, 4, 0, 0), 0) := rfl
theorem s37_16 {c : Nat → List AV → SS → Option Out} {l0 l1 : Option AV} {a0 : OId} {a1 : Int32} {a2 : Int32} {a3 : Int32} {L2 : List (Nat × AV)} {S : SS} : ev c 37 16 [l0, l1] L2 [aI a3, aI a2, aI a1, aR a0] S = ck (c 41 [aR a0, aI a1, aI a2, aI a3] S) (fun v S' => ev c 37 19 [l0, l1] L2 (v.toList ++ []) S') := ev_call i37_16 rfl
theorem i37_19 : insAt 37 19 = some (.ifCond .eq 5, 3, (0, 0, 0, 0), 0) := rfl
theorem s37_19 {c : Nat → List AV → SS → Option Out} {l0 l1 : Option AV} {x : Int32} {L2 : List (Nat × AV)} {St : List AV} {S : SS} : ev c 37 19 [l0, l1] L2 (aI x :: St) S = if x = 0 then ev c 37 24 [l0, l1] L2 St S else ev c 37 22 [l0, l1] L2 St S := ev_br i37_19 rfl
theorem i37_22 : insAt 37 22 = some (.iload_n 1, 1, (0, 0, 0, 0), 0) := rfl
theorem s37_22 {c : Nat → List AV → SS → Option Out} {l0 : Option AV} {x : Int32} {L2 : List (Nat × AV)} {St : List AV} {S : SS} : ev c 37 22 [l0, some (aI x)] L2 St S = ev c 37 23 [l0, some (aI x)] L2 (aI x :: St) S := ev_go i37_22 rfl
theorem i37_23 : insAt 37 23 = some (.ireturn, 1, (0, 0, 0, 0), 0) := rfl
theorem s37_23 {c : Nat → List AV → SS → Option Out} {l0 l1 : Option AV} {x : Int32} {L2 : List (Nat × AV)} {St : List AV} {S : SS} : ev c 37 23 [l0, l1] L2 [aI x] S = some (.inl (some (aI x)), S) := ev_end i37_23 rfl
theorem i37_24 : insAt 37 24 = some (.iinc 1 1, 3, (0, 0, 0, 0), 0) := rfl
theorem s37_24 {c : Nat → List AV → SS → Option Out} {l0 : Option AV} {x : Int32} {L2 : List (Nat × AV)} {St : List AV} {S : SS} : ev c 37 24 [l0, some (aI x)] L2 St S = ev c 37 27 [l0, some (aI (x + 1))] (kil L2 1) St S := ev_go i37_24 rfl
theorem i37_27 : insAt 37 27 = some (.goto (-21), 3, (0, 0, 0, 0), 0) := rfl
theorem s37_27 {c : Nat → List AV → SS → Option Out} {l0 l1 : Option AV} {L2 : List (Nat × AV)} {St : List AV} {S : SS} : ev c 37 27 [l0, l1] L2 St S = ev c 37 6 [l0, l1] L2 St S := ev_go i37_27 rfl
theorem i37_30 : insAt 37 30 = some (.bipush 31, 2, (0, 0, 0, 0), 0) := rfl
theorem s37_30 {c : Nat → List AV → SS → Option Out} {l0 l1 : Option AV} {L2 : List (Nat × AV)} {St : List AV} {S : SS} : ev c 37 30 [l0, l1] L2 St S = ev c 37 32 [l0, l1] L2 (aI 31 :: St) S := ev_go i37_30 rfl
theorem i37_32 : insAt 37 32 = some (.ireturn, 1, (0, 0, 0, 0), 0) := rfl
theorem s37_32 {c : Nat → List AV → SS → Option Out} {l0 l1 : Option AV} {x : Int32} {L2 : List (Nat × AV)} {St : List AV} {S : SS} : ev c 37 32 [l0, l1] L2 [aI x] S = some (.inl (some (aI x)), S) := ev_end i37_32 rfl
theorem m37 {d : Nat} {o : OId} {S : SS} : evm (d + 1) 37 [aR o] S = ev (evm d) 37 0 [some (aR o), none] [] [] S := evm_s (n := 2) rfl (Nat.le_of_ble_eq_true rfl) rfl rfl
/-! FrequencyOffice$Spans.sortBySeparations()V -/
theorem i38_0 : insAt 38 0 = some (.iconst 0, 1, (0, 0, 0, 0), 0) := rfl
theorem s38_0 {c : Nat → List AV → SS → Option Out} {l0 l1 l2 : Option AV} {L2 : List (Nat × AV)} {St : List AV} {S : SS} : ev c 38 0 [l0, l1, l2] L2 St S = ev c 38 1 [l0, l1, l2] L2 (aI 0 :: St) S := ev_go i38_0 rfl
theorem i38_1 : insAt 38 1 = some (.istore_n 1, 1, (0, 0, 0, 0), 0) := rfl
theorem s38_1 {c : Nat → List AV → SS → Option Out} {l0 l1 l2 : Option AV} {x : Int32} {L2 : List (Nat × AV)} {St : List AV} {S : SS} : ev c 38 1 [l0, l1, l2] L2 (aI x :: St) S = ev c 38 2 [l0, some (aI x), l2] (kil L2 1) St S := ev_go i38_1 rfl
theorem i38_2 : insAt 38 2 = some (.iload_n 1, 1, (0, 0, 0, 0), 0) := rfl
theorem s38_2 {c : Nat → List AV → SS → Option Out} {l0 l2 : Option AV} {x : Int32} {L2 : List (Nat × AV)} {St : List AV} {S : SS} : ev c 38 2 [l0, some (aI x), l2] L2 St S = ev c 38 3 [l0, some (aI x), l2] L2 (aI x :: St) S := ev_go i38_2 rfl
theorem i38_3 : insAt 38 3 = some (.aload_n 0, 1, (0, 0, 0, 0), 0) := rfl
theorem s38_3 {c : Nat → List AV → SS → Option Out} {l1 l2 : Option AV} {o : OId} {L2 : List (Nat × AV)} {St : List AV} {S : SS} : ev c 38 3 [some (aR o), l1, l2] L2 St S = ev c 38 4 [some (aR o), l1, l2] L2 (aR o :: St) S := ev_go i38_3 rfl
theorem i38_4 : insAt 38 4 = some (.getfield 19, 3, (9, 0, 0, 0), 0) := rfl
theorem s38_4 {c : Nat → List AV → SS → Option Out} {l0 l1 l2 : Option AV} {j t : Nat} {L2 : List (Nat × AV)} {St : List AV} {S : SS} : ev c 38 4 [l0, l1, l2] L2 (aR (9, j, t) :: St) S = ev c 38 7 [l0, l1, l2] L2 (S.2.2.1 (9, j, t) 0 :: St) S := ev_go i38_4 rfl
theorem i38_7 : insAt 38 7 = some (.getfield 30, 3, (6, 0, 1, 0), 0) := rfl
theorem s38_7 {c : Nat → List AV → SS → Option Out} {l0 l1 l2 : Option AV} {j t : Nat} {L2 : List (Nat × AV)} {St : List AV} {S : SS} : ev c 38 7 [l0, l1, l2] L2 (aR (6, j, t) :: St) S = ev c 38 10 [l0, l1, l2] L2 (aI (S.1 (6, j, t) 0) :: St) S := ev_go i38_7 rfl
theorem i38_10 : insAt 38 10 = some (.if_icmp .ge 76, 3, (0, 0, 0, 0), 0) := rfl
theorem s38_10 {c : Nat → List AV → SS → Option Out} {l0 l1 l2 : Option AV} {x y : Int32} {L2 : List (Nat × AV)} {St : List AV} {S : SS} : ev c 38 10 [l0, l1, l2] L2 (aI y :: aI x :: St) S = if y ≤ x then ev c 38 86 [l0, l1, l2] L2 St S else ev c 38 13 [l0, l1, l2] L2 St S := ev_br i38_10 rfl
theorem i38_13 : insAt 38 13 = some (.iload_n 1, 1, (0, 0, 0, 0), 0) := rfl
theorem s38_13 {c : Nat → List AV → SS → Option Out} {l0 l2 : Option AV} {x : Int32} {L2 : List (Nat × AV)} {St : List AV} {S : SS} : ev c 38 13 [l0, some (aI x), l2] L2 St S = ev c 38 14 [l0, some (aI x), l2] L2 (aI x :: St) S := ev_go i38_13 rfl
theorem i38_14 : insAt 38 14 = some (.istore_n 2, 1, (0, 0, 0, 0), 0) := rfl
theorem s38_14 {c : Nat → List AV → SS → Option Out} {l0 l1 l2 : Option AV} {x : Int32} {L2 : List (Nat × AV)} {St : List AV} {S : SS} : ev c 38 14 [l0, l1, l2] L2 (aI x :: St) S = ev c 38 15 [l0, l1, some (aI x)] (kil L2 2) St S := ev_go i38_14 rfl
theorem i38_15 : insAt 38 15 = some (.iload_n 2, 1, (0, 0, 0, 0), 0) := rfl
theorem s38_15 {c : Nat → List AV → SS → Option Out} {l0 l1 : Option AV} {x : Int32} {L2 : List (Nat × AV)} {St : List AV} {S : SS} : ev c 38 15 [l0, l1, some (aI x)] L2 St S = ev c 38 16 [l0, l1, some (aI x)] L2 (aI x :: St) S := ev_go i38_15 rfl
theorem i38_16 : insAt 38 16 = some (.ifCond .le 55, 3, (0, 0, 0, 0), 0) := rfl
theorem s38_16 {c : Nat → List AV → SS → Option Out} {l0 l1 l2 : Option AV} {x : Int32} {L2 : List (Nat × AV)} {St : List AV} {S : SS} : ev c 38 16 [l0, l1, l2] L2 (aI x :: St) S = if x ≤ 0 then ev c 38 71 [l0, l1, l2] L2 St S else ev c 38 19 [l0, l1, l2] L2 St S := ev_br i38_16 rfl
theorem i38_19 : insAt 38 19 = some (.aload_n 0, 1, (0, 0, 0, 0), 0) := rfl
theorem s38_19 {c : Nat → List AV → SS → Option Out} {l1 l2 : Option AV} {o : OId} {L2 : List (Nat × AV)} {St : List AV} {S : SS} : ev c 38 19 [some (aR o), l1, l2] L2 St S = ev c 38 20 [some (aR o), l1, l2] L2 (aR o :: St) S := ev_go i38_19 rfl
theorem i38_20 : insAt 38 20 = some (.getfield 19, 3, (9, 0, 0, 0), 0) := rfl
theorem s38_20 {c : Nat → List AV → SS → Option Out} {l0 l1 l2 : Option AV} {j t : Nat} {L2 : List (Nat × AV)} {St : List AV} {S : SS} : ev c 38 20 [l0, l1, l2] L2 (aR (9, j, t) :: St) S = ev c 38 23 [l0, l1, l2] L2 (S.2.2.1 (9, j, t) 0 :: St) S := ev_go i38_20 rfl
theorem i38_23 : insAt 38 23 = some (.aload_n 0, 1, (0, 0, 0, 0), 0) := rfl
theorem s38_23 {c : Nat → List AV → SS → Option Out} {l1 l2 : Option AV} {o : OId} {L2 : List (Nat × AV)} {St : List AV} {S : SS} : ev c 38 23 [some (aR o), l1, l2] L2 St S = ev c 38 24 [some (aR o), l1, l2] L2 (aR o :: St) S := ev_go i38_23 rfl
theorem i38_24 : insAt 38 24 = some (.getfield 9, 3, (9, 1, 0, 0), 0) := rfl
theorem s38_24 {c : Nat → List AV → SS → Option Out} {l0 l1 l2 : Option AV} {j t : Nat} {L2 : List (Nat × AV)} {St : List AV} {S : SS} : ev c 38 24 [l0, l1, l2] L2 (aR (9, j, t) :: St) S = ev c 38 27 [l0, l1, l2] L2 (S.2.2.1 (9, j, t) 1 :: St) S := ev_go i38_24 rfl
theorem i38_27 : insAt 38 27 = some (.iload_n 2, 1, (0, 0, 0, 0), 0) := rfl
theorem s38_27 {c : Nat → List AV → SS → Option Out} {l0 l1 : Option AV} {x : Int32} {L2 : List (Nat × AV)} {St : List AV} {S : SS} : ev c 38 27 [l0, l1, some (aI x)] L2 St S = ev c 38 28 [l0, l1, some (aI x)] L2 (aI x :: St) S := ev_go i38_27 rfl
theorem i38_28 : insAt 38 28 = some (.iconst 1, 1, (0, 0, 0, 0), 0) := rfl
theorem s38_28 {c : Nat → List AV → SS → Option Out} {l0 l1 l2 : Option AV} {L2 : List (Nat × AV)} {St : List AV} {S : SS} : ev c 38 28 [l0, l1, l2] L2 St S = ev c 38 29 [l0, l1, l2] L2 (aI 1 :: St) S := ev_go i38_28 rfl
theorem i38_29 : insAt 38 29 = some (.isub, 1, (0, 0, 0, 0), 0) := rfl
theorem s38_29 {c : Nat → List AV → SS → Option Out} {l0 l1 l2 : Option AV} {x y : Int32} {L2 : List (Nat × AV)} {St : List AV} {S : SS} : ev c 38 29 [l0, l1, l2] L2 (aI y :: aI x :: St) S = ev c 38 30 [l0, l1, l2] L2 (aI (x - y) :: St) S := ev_go i38_29 rfl
theorem i38_30 : insAt 38 30 = some (.invokestatic 36, 3, (32, 2, 1, 0), 0) := rfl
theorem s38_30 {c : Nat → List AV → SS → Option Out} {l0 l1 l2 : Option AV} {t0 : AV} {a0 : OId} {a1 : Int32} {L2 : List (Nat × AV)} {S : SS} : ev c 38 30 [l0, l1, l2] L2 [aI a1, aR a0, t0] S = ck (c 32 [aR a0, aI a1] S) (fun v S' => ev c 38 33 [l0, l1, l2] L2 (v.toList ++ [t0]) S') := ev_call i38_30 rfl
theorem i38_33 : insAt 38 33 = some (.invokevirtual 40, 3, (39, 1, 3, 6), 0) := rfl
theorem s38_33 {c : Nat → List AV → SS → Option Out} {l0 l1 l2 : Option AV} {a0 : Int32} {j t : Nat} {L2 : List (Nat × AV)} {S : SS} : ev c 38 33 [l0, l1, l2] L2 [aI a0, aR (6, j, t)] S = ck (c 39 [aR (6, j, t), aI a0] S) (fun v S' => ev c 38 36 [l0, l1, l2] L2 (v.toList ++ []) S') := ev_call i38_33 rfl
theorem i38_36 : insAt 38 36 = some (.aload_n 0, 1, (0, 0, 0, 0), 0) := rfl
theorem s38_36 {c : Nat → List AV → SS → Option Out} {l1 l2 : Option AV} {o : OId} {L2 : List (Nat × AV)} {St : List AV} {S : SS} : ev c 38 36 [some (aR o), l1, l2] L2 St S = ev c 38 37 [some (aR o), l1, l2] L2 (aR o :: St) S := ev_go i38_36 rfl
theorem i38_37 : insAt 38 37 = some (.getfield 19, 3, (9, 0, 0, 0), 0) := rfl
theorem s38_37 {c : Nat → List AV → SS → Option Out} {l0 l1 l2 : Option AV} {j t : Nat} {L2 : List (Nat × AV)} {St : List AV} {S : SS} : ev c 38 37 [l0, l1, l2] L2 (aR (9, j, t) :: St) S = ev c 38 40 [l0, l1, l2] L2 (S.2.2.1 (9, j, t) 0 :: St) S := ev_go i38_37 rfl
theorem i38_40 : insAt 38 40 = some (.iload_n 1, 1, (0, 0, 0, 0), 0) := rfl
theorem s38_40 {c : Nat → List AV → SS → Option Out} {l0 l2 : Option AV} {x : Int32} {L2 : List (Nat × AV)} {St : List AV} {S : SS} : ev c 38 40 [l0, some (aI x), l2] L2 St S = ev c 38 41 [l0, some (aI x), l2] L2 (aI x :: St) S := ev_go i38_40 rfl
theorem i38_41 : insAt 38 41 = some (.invokevirtual 40, 3, (39, 1, 3, 6), 0) := rfl
theorem s38_41 {c : Nat → List AV → SS → Option Out} {l0 l1 l2 : Option AV} {t0 : AV} {a0 : Int32} {j t : Nat} {L2 : List (Nat × AV)} {S : SS} : ev c 38 41 [l0, l1, l2] L2 [aI a0, aR (6, j, t), t0] S = ck (c 39 [aR (6, j, t), aI a0] S) (fun v S' => ev c 38 44 [l0, l1, l2] L2 (v.toList ++ [t0]) S') := ev_call i38_41 rfl
theorem i38_44 : insAt 38 44 = some (.if_icmp .ge 27, 3, (0, 0, 0, 0), 0) := rfl
theorem s38_44 {c : Nat → List AV → SS → Option Out} {l0 l1 l2 : Option AV} {x y : Int32} {L2 : List (Nat × AV)} {St : List AV} {S : SS} : ev c 38 44 [l0, l1, l2] L2 (aI y :: aI x :: St) S = if y ≤ x then ev c 38 71 [l0, l1, l2] L2 St S else ev c 38 47 [l0, l1, l2] L2 St S := ev_br i38_44 rfl
theorem i38_47 : insAt 38 47 = some (.aload_n 0, 1, (0, 0, 0, 0), 0) := rfl
theorem s38_47 {c : Nat → List AV → SS → Option Out} {l1 l2 : Option AV} {o : OId} {L2 : List (Nat × AV)} {St : List AV} {S : SS} : ev c 38 47 [some (aR o), l1, l2] L2 St S = ev c 38 48 [some (aR o), l1, l2] L2 (aR o :: St) S := ev_go i38_47 rfl
theorem i38_48 : insAt 38 48 = some (.getfield 9, 3, (9, 1, 0, 0), 0) := rfl
theorem s38_48 {c : Nat → List AV → SS → Option Out} {l0 l1 l2 : Option AV} {j t : Nat} {L2 : List (Nat × AV)} {St : List AV} {S : SS} : ev c 38 48 [l0, l1, l2] L2 (aR (9, j, t) :: St) S = ev c 38 51 [l0, l1, l2] L2 (S.2.2.1 (9, j, t) 1 :: St) S := ev_go i38_48 rfl
theorem i38_51 : insAt 38 51 = some (.iload_n 2, 1, (0, 0, 0, 0), 0) := rfl
theorem s38_51 {c : Nat → List AV → SS → Option Out} {l0 l1 : Option AV} {x : Int32} {L2 : List (Nat × AV)} {St : List AV} {S : SS} : ev c 38 51 [l0, l1, some (aI x)] L2 St S = ev c 38 52 [l0, l1, some (aI x)] L2 (aI x :: St) S := ev_go i38_51 rfl
theorem i38_52 : insAt 38 52 = some (.aload_n 0, 1, (0, 0, 0, 0), 0) := rfl
theorem s38_52 {c : Nat → List AV → SS → Option Out} {l1 l2 : Option AV} {o : OId} {L2 : List (Nat × AV)} {St : List AV} {S : SS} : ev c 38 52 [some (aR o), l1, l2] L2 St S = ev c 38 53 [some (aR o), l1, l2] L2 (aR o :: St) S := ev_go i38_52 rfl
theorem i38_53 : insAt 38 53 = some (.getfield 9, 3, (9, 1, 0, 0), 0) := rfl
theorem s38_53 {c : Nat → List AV → SS → Option Out} {l0 l1 l2 : Option AV} {j t : Nat} {L2 : List (Nat × AV)} {St : List AV} {S : SS} : ev c 38 53 [l0, l1, l2] L2 (aR (9, j, t) :: St) S = ev c 38 56 [l0, l1, l2] L2 (S.2.2.1 (9, j, t) 1 :: St) S := ev_go i38_53 rfl
theorem i38_56 : insAt 38 56 = some (.iload_n 2, 1, (0, 0, 0, 0), 0) := rfl
theorem s38_56 {c : Nat → List AV → SS → Option Out} {l0 l1 : Option AV} {x : Int32} {L2 : List (Nat × AV)} {St : List AV} {S : SS} : ev c 38 56 [l0, l1, some (aI x)] L2 St S = ev c 38 57 [l0, l1, some (aI x)] L2 (aI x :: St) S := ev_go i38_56 rfl
theorem i38_57 : insAt 38 57 = some (.iconst 1, 1, (0, 0, 0, 0), 0) := rfl
theorem s38_57 {c : Nat → List AV → SS → Option Out} {l0 l1 l2 : Option AV} {L2 : List (Nat × AV)} {St : List AV} {S : SS} : ev c 38 57 [l0, l1, l2] L2 St S = ev c 38 58 [l0, l1, l2] L2 (aI 1 :: St) S := ev_go i38_57 rfl
theorem i38_58 : insAt 38 58 = some (.isub, 1, (0, 0, 0, 0), 0) := rfl
theorem s38_58 {c : Nat → List AV → SS → Option Out} {l0 l1 l2 : Option AV} {x y : Int32} {L2 : List (Nat × AV)} {St : List AV} {S : SS} : ev c 38 58 [l0, l1, l2] L2 (aI y :: aI x :: St) S = ev c 38 59 [l0, l1, l2] L2 (aI (x - y) :: St) S := ev_go i38_58 rfl
theorem i38_59 : insAt 38 59 = some (.invokestatic 36, 3, (32, 2, 1, 0), 0) := rfl
theorem s38_59 {c : Nat → List AV → SS → Option Out} {l0 l1 l2 : Option AV} {t0 t1 : AV} {a0 : OId} {a1 : Int32} {L2 : List (Nat × AV)} {S : SS} : ev c 38 59 [l0, l1, l2] L2 [aI a1, aR a0, t0, t1] S = ck (c 32 [aR a0, aI a1] S) (fun v S' => ev c 38 62 [l0, l1, l2] L2 (v.toList ++ [t0, t1]) S') := ev_call i38_59 rfl
theorem i38_62 : insAt 38 62 = some (.invokestatic 44, 3, (36, 3, 1, 0), 0) := rfl
theorem s38_62 {c : Nat → List AV → SS → Option Out} {l0 l1 l2 : Option AV} {a0 : OId} {a1 : Int32} {a2 : Int32} {L2 : List (Nat × AV)} {S : SS} : ev c 38 62 [l0, l1, l2] L2 [aI a2, aI a1, aR a0] S = ck (c 36 [aR a0, aI a1, aI a2] S) (fun v S' => ev c 38 65 [l0, l1, l2] L2 (v.toList ++ []) S') := ev_call i38_62 rfl
theorem i38_65 : insAt 38 65 = some (.iinc 2 (-1), 3, (0, 0, 0, 0), 0) := rfl
theorem s38_65 {c : Nat → List AV → SS → Option Out} {l0 l1 : Option AV} {x : Int32} {L2 : List (Nat × AV)} {St : List AV} {S : SS} : ev c 38 65 [l0, l1, some (aI x)] L2 St S = ev c 38 68 [l0, l1, some (aI (x + (-1)))] (kil L2 2) St S := ev_go i38_65 rfl
theorem i38_68 : insAt 38 68 = some (.goto (-53), 3, (0, 0, 0, 0), 0) := rfl
theorem s38_68 {c : Nat → List AV → SS → Option Out} {l0 l1 l2 : Option AV} {L2 : List (Nat × AV)} {St : List AV} {S : SS} : ev c 38 68 [l0, l1, l2] L2 St S = ev c 38 15 [l0, l1, l2] L2 St S := ev_go i38_68 rfl
theorem i38_71 : insAt 38 71 = some (.aload_n 0, 1, (0, 0, 0, 0), 0) := rfl
theorem s38_71 {c : Nat → List AV → SS → Option Out} {l1 l2 : Option AV} {o : OId} {L2 : List (Nat × AV)} {St : List AV} {S : SS} : ev c 38 71 [some (aR o), l1, l2] L2 St S = ev c 38 72 [some (aR o), l1, l2] L2 (aR o :: St) S := ev_go i38_71 rfl
theorem i38_72 : insAt 38 72 = some (.getfield 9, 3, (9, 1, 0, 0), 0) := rfl
theorem s38_72 {c : Nat → List AV → SS → Option Out} {l0 l1 l2 : Option AV} {j t : Nat} {L2 : List (Nat × AV)} {St : List AV} {S : SS} : ev c 38 72 [l0, l1, l2] L2 (aR (9, j, t) :: St) S = ev c 38 75 [l0, l1, l2] L2 (S.2.2.1 (9, j, t) 1 :: St) S := ev_go i38_72 rfl
theorem i38_75 : insAt 38 75 = some (.iload_n 2, 1, (0, 0, 0, 0), 0) := rfl
theorem s38_75 {c : Nat → List AV → SS → Option Out} {l0 l1 : Option AV} {x : Int32} {L2 : List (Nat × AV)} {St : List AV} {S : SS} : ev c 38 75 [l0, l1, some (aI x)] L2 St S = ev c 38 76 [l0, l1, some (aI x)] L2 (aI x :: St) S := ev_go i38_75 rfl
theorem i38_76 : insAt 38 76 = some (.iload_n 1, 1, (0, 0, 0, 0), 0) := rfl
theorem s38_76 {c : Nat → List AV → SS → Option Out} {l0 l2 : Option AV} {x : Int32} {L2 : List (Nat × AV)} {St : List AV} {S : SS} : ev c 38 76 [l0, some (aI x), l2] L2 St S = ev c 38 77 [l0, some (aI x), l2] L2 (aI x :: St) S := ev_go i38_76 rfl
theorem i38_77 : insAt 38 77 = some (.invokestatic 44, 3, (36, 3, 1, 0), 0) := rfl
theorem s38_77 {c : Nat → List AV → SS → Option Out} {l0 l1 l2 : Option AV} {a0 : OId} {a1 : Int32} {a2 : Int32} {L2 : List (Nat × AV)} {S : SS} : ev c 38 77 [l0, l1, l2] L2 [aI a2, aI a1, aR a0] S = ck (c 36 [aR a0, aI a1, aI a2] S) (fun v S' => ev c 38 80 [l0, l1, l2] L2 (v.toList ++ []) S') := ev_call i38_77 rfl
theorem i38_80 : insAt 38 80 = some (.iinc 1 1, 3, (0, 0, 0, 0), 0) := rfl
theorem s38_80 {c : Nat → List AV → SS → Option Out} {l0 l2 : Option AV} {x : Int32} {L2 : List (Nat × AV)} {St : List AV} {S : SS} : ev c 38 80 [l0, some (aI x), l2] L2 St S = ev c 38 83 [l0, some (aI (x + 1)), l2] (kil L2 1) St S := ev_go i38_80 rfl
theorem i38_83 : insAt 38 83 = some (.goto (-81), 3, (0, 0, 0, 0), 0) := rfl
theorem s38_83 {c : Nat → List AV → SS → Option Out} {l0 l1 l2 : Option AV} {L2 : List (Nat × AV)} {St : List AV} {S : SS} : ev c 38 83 [l0, l1, l2] L2 St S = ev c 38 2 [l0, l1, l2] L2 St S := ev_go i38_83 rfl
theorem i38_86 : insAt 38 86 = some (.return_, 1, (0, 0, 0, 0), 0) := rfl
theorem s38_86 {c : Nat → List AV → SS → Option Out} {l0 l1 l2 : Option AV} {L2 : List (Nat × AV)} {St : List AV} {S : SS} : ev c 38 86 [l0, l1, l2] L2 [] S = some (.inl none, S) := ev_end i38_86 rfl
theorem m38 {d : Nat} {o : OId} {S : SS} : evm (d + 1) 38 [aR o] S = ev (evm d) 38 0 [some (aR o), none, none] [] [] S := evm_s (n := 3) rfl (Nat.le_of_ble_eq_true rfl) rfl rfl
/-! FrequencyOffice$Net.sumOfSeparations(I)I -/
theorem i39_0 : insAt 39 0 = some (.iconst 0, 1, (0, 0, 0, 0), 0) := rfl
theorem s39_0 {c : Nat → List AV → SS → Option Out} {l0 l1 l2 l3 : Option AV} {L2 : List (Nat × AV)} {St : List AV} {S : SS} : ev c 39 0 [l0, l1, l2, l3] L2 St S = ev c 39 1 [l0, l1, l2, l3] L2 (aI 0 :: St) S := ev_go i39_0 rfl
theorem i39_1 : insAt 39 1 = some (.istore_n 2, 1, (0, 0, 0, 0), 0) := rfl
theorem s39_1 {c : Nat → List AV → SS → Option Out} {l0 l1 l2 l3 : Option AV} {x : Int32} {L2 : List (Nat × AV)} {St : List AV} {S : SS} : ev c 39 1 [l0, l1, l2, l3] L2 (aI x :: St) S = ev c 39 2 [l0, l1, some (aI x), l3] (kil L2 2) St S := ev_go i39_1 rfl
theorem i39_2 : insAt 39 2 = some (.iconst 0, 1, (0, 0, 0, 0), 0) := rfl
theorem s39_2 {c : Nat → List AV → SS → Option Out} {l0 l1 l2 l3 : Option AV} {L2 : List (Nat × AV)} {St : List AV} {S : SS} : ev c 39 2 [l0, l1, l2, l3] L2 St S = ev c 39 3 [l0, l1, l2, l3] L2 (aI 0 :: St) S := ev_go i39_2 rfl
theorem i39_3 : insAt 39 3 = some (.istore_n 3, 1, (0, 0, 0, 0), 0) := rfl
theorem s39_3 {c : Nat → List AV → SS → Option Out} {l0 l1 l2 l3 : Option AV} {x : Int32} {L2 : List (Nat × AV)} {St : List AV} {S : SS} : ev c 39 3 [l0, l1, l2, l3] L2 (aI x :: St) S = ev c 39 4 [l0, l1, l2, some (aI x)] (kil L2 3) St S := ev_go i39_3 rfl
theorem i39_4 : insAt 39 4 = some (.iload_n 3, 1, (0, 0, 0, 0), 0) := rfl
theorem s39_4 {c : Nat → List AV → SS → Option Out} {l0 l1 l2 : Option AV} {x : Int32} {L2 : List (Nat × AV)} {St : List AV} {S : SS} : ev c 39 4 [l0, l1, l2, some (aI x)] L2 St S = ev c 39 5 [l0, l1, l2, some (aI x)] L2 (aI x :: St) S := ev_go i39_4 rfl
theorem i39_5 : insAt 39 5 = some (.aload_n 0, 1, (0, 0, 0, 0), 0) := rfl
theorem s39_5 {c : Nat → List AV → SS → Option Out} {l1 l2 l3 : Option AV} {o : OId} {L2 : List (Nat × AV)} {St : List AV} {S : SS} : ev c 39 5 [some (aR o), l1, l2, l3] L2 St S = ev c 39 6 [some (aR o), l1, l2, l3] L2 (aR o :: St) S := ev_go i39_5 rfl
theorem i39_6 : insAt 39 6 = some (.getfield 9, 3, (6, 0, 0, 0), 0) := rfl
theorem s39_6 {c : Nat → List AV → SS → Option Out} {l0 l1 l2 l3 : Option AV} {j t : Nat} {L2 : List (Nat × AV)} {St : List AV} {S : SS} : ev c 39 6 [l0, l1, l2, l3] L2 (aR (6, j, t) :: St) S = ev c 39 9 [l0, l1, l2, l3] L2 (aI (S.1 (6, j, t) 0) :: St) S := ev_go i39_6 rfl
theorem i39_9 : insAt 39 9 = some (.if_icmp .ge 27, 3, (0, 0, 0, 0), 0) := rfl
theorem s39_9 {c : Nat → List AV → SS → Option Out} {l0 l1 l2 l3 : Option AV} {x y : Int32} {L2 : List (Nat × AV)} {St : List AV} {S : SS} : ev c 39 9 [l0, l1, l2, l3] L2 (aI y :: aI x :: St) S = if y ≤ x then ev c 39 36 [l0, l1, l2, l3] L2 St S else ev c 39 12 [l0, l1, l2, l3] L2 St S := ev_br i39_9 rfl
theorem i39_12 : insAt 39 12 = some (.iload_n 2, 1, (0, 0, 0, 0), 0) := rfl
theorem s39_12 {c : Nat → List AV → SS → Option Out} {l0 l1 l3 : Option AV} {x : Int32} {L2 : List (Nat × AV)} {St : List AV} {S : SS} : ev c 39 12 [l0, l1, some (aI x), l3] L2 St S = ev c 39 13 [l0, l1, some (aI x), l3] L2 (aI x :: St) S := ev_go i39_12 rfl
theorem i39_13 : insAt 39 13 = some (.iload_n 3, 1, (0, 0, 0, 0), 0) := rfl
theorem s39_13 {c : Nat → List AV → SS → Option Out} {l0 l1 l2 : Option AV} {x : Int32} {L2 : List (Nat × AV)} {St : List AV} {S : SS} : ev c 39 13 [l0, l1, l2, some (aI x)] L2 St S = ev c 39 14 [l0, l1, l2, some (aI x)] L2 (aI x :: St) S := ev_go i39_13 rfl
theorem i39_14 : insAt 39 14 = some (.iload_n 1, 1, (0, 0, 0, 0), 0) := rfl
theorem s39_14 {c : Nat → List AV → SS → Option Out} {l0 l2 l3 : Option AV} {x : Int32} {L2 : List (Nat × AV)} {St : List AV} {S : SS} : ev c 39 14 [l0, some (aI x), l2, l3] L2 St S = ev c 39 15 [l0, some (aI x), l2, l3] L2 (aI x :: St) S := ev_go i39_14 rfl
theorem i39_15 : insAt 39 15 = some (.if_icmp .ne 7, 3, (0, 0, 0, 0), 0) := rfl
theorem s39_15 {c : Nat → List AV → SS → Option Out} {l0 l1 l2 l3 : Option AV} {x y : Int32} {L2 : List (Nat × AV)} {St : List AV} {S : SS} : ev c 39 15 [l0, l1, l2, l3] L2 (aI y :: aI x :: St) S = if x = y then ev c 39 18 [l0, l1, l2, l3] L2 St S else ev c 39 22 [l0, l1, l2, l3] L2 St S := (ev_br i39_15 rfl).trans (ite_not _ _ _)
theorem i39_18 : insAt 39 18 = some (.iconst 0, 1, (0, 0, 0, 0), 0) := rfl
theorem s39_18 {c : Nat → List AV → SS → Option Out} {l0 l1 l2 l3 : Option AV} {L2 : List (Nat × AV)} {St : List AV} {S : SS} : ev c 39 18 [l0, l1, l2, l3] L2 St S = ev c 39 19 [l0, l1, l2, l3] L2 (aI 0 :: St) S := ev_go i39_18 rfl
theorem i39_19 : insAt 39 19 = some (.goto 9, 3, (0, 0, 0, 0), 0) := rfl
theorem s39_19 {c : Nat → List AV → SS → Option Out} {l0 l1 l2 l3 : Option AV} {L2 : List (Nat × AV)} {St : List AV} {S : SS} : ev c 39 19 [l0, l1, l2, l3] L2 St S = ev c 39 28 [l0, l1, l2, l3] L2 St S := ev_go i39_19 rfl
theorem i39_22 : insAt 39 22 = some (.aload_n 0, 1, (0, 0, 0, 0), 0) := rfl
theorem s39_22 {c : Nat → List AV → SS → Option Out} {l1 l2 l3 : Option AV} {o : OId} {L2 : List (Nat × AV)} {St : List AV} {S : SS} : ev c 39 22 [some (aR o), l1, l2, l3] L2 St S = ev c 39 23 [some (aR o), l1, l2, l3] L2 (aR o :: St) S := ev_go i39_22 rfl
theorem i39_23 : insAt 39 23 = some (.iload_n 1, 1, (0, 0, 0, 0), 0) := rfl
theorem s39_23 {c : Nat → List AV → SS → Option Out} {l0 l2 l3 : Option AV} {x : Int32} {L2 : List (Nat × AV)} {St : List AV} {S : SS} : ev c 39 23 [l0, some (aI x), l2, l3] L2 St S = ev c 39 24 [l0, some (aI x), l2, l3] L2 (aI x :: St) S := ev_go i39_23 rfl
theorem i39_24 : insAt 39 24 = some (.iload_n 3, 1, (0, 0, 0, 0), 0) := rfl
theorem s39_24 {c : Nat → List AV → SS → Option Out} {l0 l1 l2 : Option AV} {x : Int32} {L2 : List (Nat × AV)} {St : List AV} {S : SS} : ev c 39 24 [l0, l1, l2, some (aI x)] L2 St S = ev c 39 25 [l0, l1, l2, some (aI x)] L2 (aI x :: St) S := ev_go i39_24 rfl
theorem i39_25 : insAt 39 25 = some (.invokevirtual 68, 3, (40, 2, 2, 6), 0) := rfl
theorem s39_25 {c : Nat → List AV → SS → Option Out} {l0 l1 l2 l3 : Option AV} {t0 : AV} {a0 : Int32} {a1 : Int32} {j t : Nat} {L2 : List (Nat × AV)} {S : SS} : ev c 39 25 [l0, l1, l2, l3] L2 [aI a1, aI a0, aR (6, j, t), t0] S = ck (c 40 [aR (6, j, t), aI a0, aI a1] S) (fun v S' => ev c 39 28 [l0, l1, l2, l3] L2 (v.toList ++ [t0]) S') := ev_call i39_25 rfl
theorem i39_28 : insAt 39 28 = some (.iadd, 1, (0, 0, 0, 0), 0) := rfl
theorem s39_28 {c : Nat → List AV → SS → Option Out} {l0 l1 l2 l3 : Option AV} {x y : Int32} {L2 : List (Nat × AV)} {St : List AV} {S : SS} : ev c 39 28 [l0, l1, l2, l3] L2 (aI y :: aI x :: St) S = ev c 39 29 [l0, l1, l2, l3] L2 (aI (x + y) :: St) S := ev_go i39_28 rfl
theorem i39_29 : insAt 39 29 = some (.istore_n 2, 1, (0, 0, 0, 0), 0) := rfl
theorem s39_29 {c : Nat → List AV → SS → Option Out} {l0 l1 l2 l3 : Option AV} {x : Int32} {L2 : List (Nat × AV)} {St : List AV} {S : SS} : ev c 39 29 [l0, l1, l2, l3] L2 (aI x :: St) S = ev c 39 30 [l0, l1, some (aI x), l3] (kil L2 2) St S := ev_go i39_29 rfl
theorem i39_30 : insAt 39 30 = some (.iinc 3 1, 3, (0, 0, 0, 0), 0) := rfl
theorem s39_30 {c : Nat → List AV → SS → Option Out} {l0 l1 l2 : Option AV} {x : Int32} {L2 : List (Nat × AV)} {St : List AV} {S : SS} : ev c 39 30 [l0, l1, l2, some (aI x)] L2 St S = ev c 39 33 [l0, l1, l2, some (aI (x + 1))] (kil L2 3) St S := ev_go i39_30 rfl
theorem i39_33 : insAt 39 33 = some (.goto (-29), 3, (0, 0, 0, 0), 0) := rfl
theorem s39_33 {c : Nat → List AV → SS → Option Out} {l0 l1 l2 l3 : Option AV} {L2 : List (Nat × AV)} {St : List AV} {S : SS} : ev c 39 33 [l0, l1, l2, l3] L2 St S = ev c 39 4 [l0, l1, l2, l3] L2 St S := ev_go i39_33 rfl
theorem i39_36 : insAt 39 36 = some (.iload_n 2, 1, (0, 0, 0, 0), 0) := rfl
theorem s39_36 {c : Nat → List AV → SS → Option Out} {l0 l1 l3 : Option AV} {x : Int32} {L2 : List (Nat × AV)} {St : List AV} {S : SS} : ev c 39 36 [l0, l1, some (aI x), l3] L2 St S = ev c 39 37 [l0, l1, some (aI x), l3] L2 (aI x :: St) S := ev_go i39_36 rfl
theorem i39_37 : insAt 39 37 = some (.ireturn, 1, (0, 0, 0, 0), 0) := rfl
theorem s39_37 {c : Nat → List AV → SS → Option Out} {l0 l1 l2 l3 : Option AV} {x : Int32} {L2 : List (Nat × AV)} {St : List AV} {S : SS} : ev c 39 37 [l0, l1, l2, l3] L2 [aI x] S = some (.inl (some (aI x)), S) := ev_end i39_37 rfl
theorem m39 {d : Nat} {o : OId} {a0 : Int32} {S : SS} : evm (d + 1) 39 [aR o, aI a0] S = ev (evm d) 39 0 [some (aR o), some (aI a0), none, none] [] [] S := evm_s (n := 4) rfl (Nat.le_of_ble_eq_true rfl) rfl rfl
/-! FrequencyOffice$Net.apart(II)I -/
theorem i40_0 : insAt 40 0 = some (.aload_n 0, 1, (0, 0, 0, 0), 0) := rfl
theorem s40_0 {c : Nat → List AV → SS → Option Out} {l1 l2 : Option AV} {o : OId} {L2 : List (Nat × AV)} {St : List AV} {S : SS} : ev c 40 0 [some (aR o), l1, l2] L2 St S = ev c 40 1 [some (aR o), l1, l2] L2 (aR o :: St) S := ev_go i40_0 rfl
theorem i40_1 : insAt 40 1 = some (.getfield 25, 3, (6, 4, 0, 0), 0) := rfl
theorem s40_1 {c : Nat → List AV → SS → Option Out} {l0 l1 l2 : Option AV} {j t : Nat} {L2 : List (Nat × AV)} {St : List AV} {S : SS} : ev c 40 1 [l0, l1, l2] L2 (aR (6, j, t) :: St) S = ev c 40 4 [l0, l1, l2] L2 (S.2.2.1 (6, j, t) 4 :: St) S := ev_go i40_1 rfl
theorem i40_4 : insAt 40 4 = some (.iload_n 1, 1, (0, 0, 0, 0), 0) := rfl
theorem s40_4 {c : Nat → List AV → SS → Option Out} {l0 l2 : Option AV} {x : Int32} {L2 : List (Nat × AV)} {St : List AV} {S : SS} : ev c 40 4 [l0, some (aI x), l2] L2 St S = ev c 40 5 [l0, some (aI x), l2] L2 (aI x :: St) S := ev_go i40_4 rfl
theorem i40_5 : insAt 40 5 = some (.iload_n 2, 1, (0, 0, 0, 0), 0) := rfl
theorem s40_5 {c : Nat → List AV → SS → Option Out} {l0 l1 : Option AV} {x : Int32} {L2 : List (Nat × AV)} {St : List AV} {S : SS} : ev c 40 5 [l0, l1, some (aI x)] L2 St S = ev c 40 6 [l0, l1, some (aI x)] L2 (aI x :: St) S := ev_go i40_5 rfl
theorem i40_6 : insAt 40 6 = some (.invokestatic 55, 3, (31, 2, 1, 0), 0) := rfl
theorem s40_6 {c : Nat → List AV → SS → Option Out} {l0 l1 l2 : Option AV} {t0 : AV} {a0 : Int32} {a1 : Int32} {L2 : List (Nat × AV)} {S : SS} : ev c 40 6 [l0, l1, l2] L2 [aI a1, aI a0, t0] S = ck (c 31 [aI a0, aI a1] S) (fun v S' => ev c 40 9 [l0, l1, l2] L2 (v.toList ++ [t0]) S') := ev_call i40_6 rfl
theorem i40_9 : insAt 40 9 = some (.invokestatic 47, 3, (32, 2, 1, 0), 0) := rfl
theorem s40_9 {c : Nat → List AV → SS → Option Out} {l0 l1 l2 : Option AV} {a0 : OId} {a1 : Int32} {L2 : List (Nat × AV)} {S : SS} : ev c 40 9 [l0, l1, l2] L2 [aI a1, aR a0] S = ck (c 32 [aR a0, aI a1] S) (fun v S' => ev c 40 12 [l0, l1, l2] L2 (v.toList ++ []) S') := ev_call i40_9 rfl
theorem i40_12 : insAt 40 12 = some (.ireturn, 1, (0, 0, 0, 0), 0) := rfl
theorem s40_12 {c : Nat → List AV → SS → Option Out} {l0 l1 l2 : Option AV} {x : Int32} {L2 : List (Nat × AV)} {St : List AV} {S : SS} : ev c 40 12 [l0, l1, l2] L2 [aI x] S = some (.inl (some (aI x)), S) := ev_end i40_12 rfl
theorem m40 {d : Nat} {o : OId} {a0 : Int32} {a1 : Int32} {S : SS} : evm (d + 1) 40 [aR o, aI a0, aI a1] S = ev (evm d) 40 0 [some (aR o), some (aI a0), some (aI a1)] [] [] S := evm_s (n := 3) rfl (Nat.le_of_ble_eq_true rfl) rfl rfl
/-! FrequencyOffice$Spans.assign(LFrequencyOffice$Spans;III)Z -/
theorem i41_0 : insAt 41 0 = some (.iload_n 1, 1, (0, 0, 0, 0), 0) := rfl
theorem s41_0 {c : Nat → List AV → SS → Option Out} {l0 l2 l3 l4 l5 l6 l7 : Option AV} {x : Int32} {L2 : List (Nat × AV)} {St : List AV} {S : SS} : ev c 41 0 [l0, some (aI x), l2, l3, l4, l5, l6, l7] L2 St S = ev c 41 1 [l0, some (aI x), l2, l3, l4, l5, l6, l7] L2 (aI x :: St) S := ev_go i41_0 rfl
theorem i41_1 : insAt 41 1 = some (.aload_n 0, 1, (0, 0, 0, 0), 0) := rfl
theorem s41_1 {c : Nat → List AV → SS → Option Out} {l1 l2 l3 l4 l5 l6 l7 : Option AV} {o : OId} {L2 : List (Nat × AV)} {St : List AV} {S : SS} : ev c 41 1 [some (aR o), l1, l2, l3, l4, l5, l6, l7] L2 St S = ev c 41 2 [some (aR o), l1, l2, l3, l4, l5, l6, l7] L2 (aR o :: St) S := ev_go i41_1 rfl
theorem i41_2 : insAt 41 2 = some (.getfield 19, 3, (9, 0, 0, 0), 0) := rfl
theorem s41_2 {c : Nat → List AV → SS → Option Out} {l0 l1 l2 l3 l4 l5 l6 l7 : Option AV} {j t : Nat} {L2 : List (Nat × AV)} {St : List AV} {S : SS} : ev c 41 2 [l0, l1, l2, l3, l4, l5, l6, l7] L2 (aR (9, j, t) :: St) S = ev c 41 5 [l0, l1, l2, l3, l4, l5, l6, l7] L2 (S.2.2.1 (9, j, t) 0 :: St) S := ev_go i41_2 rfl
theorem i41_5 : insAt 41 5 = some (.getfield 30, 3, (6, 0, 1, 0), 0) := rfl
theorem s41_5 {c : Nat → List AV → SS → Option Out} {l0 l1 l2 l3 l4 l5 l6 l7 : Option AV} {j t : Nat} {L2 : List (Nat × AV)} {St : List AV} {S : SS} : ev c 41 5 [l0, l1, l2, l3, l4, l5, l6, l7] L2 (aR (6, j, t) :: St) S = ev c 41 8 [l0, l1, l2, l3, l4, l5, l6, l7] L2 (aI (S.1 (6, j, t) 0) :: St) S := ev_go i41_5 rfl
theorem i41_8 : insAt 41 8 = some (.if_icmp .lt 5, 3, (0, 0, 0, 0), 0) := rfl
theorem s41_8 {c : Nat → List AV → SS → Option Out} {l0 l1 l2 l3 l4 l5 l6 l7 : Option AV} {x y : Int32} {L2 : List (Nat × AV)} {St : List AV} {S : SS} : ev c 41 8 [l0, l1, l2, l3, l4, l5, l6, l7] L2 (aI y :: aI x :: St) S = if x < y then ev c 41 13 [l0, l1, l2, l3, l4, l5, l6, l7] L2 St S else ev c 41 11 [l0, l1, l2, l3, l4, l5, l6, l7] L2 St S := ev_br i41_8 rfl
theorem i41_11 : insAt 41 11 = some (.iconst 1, 1, (0, 0, 0, 0), 0) := rfl
theorem s41_11 {c : Nat → List AV → SS → Option Out} {l0 l1 l2 l3 l4 l5 l6 l7 : Option AV} {L2 : List (Nat × AV)} {St : List AV} {S : SS} : ev c 41 11 [l0, l1, l2, l3, l4, l5, l6, l7] L2 St S = ev c 41 12 [l0, l1, l2, l3, l4, l5, l6, l7] L2 (aI 1 :: St) S := ev_go i41_11 rfl
theorem i41_12 : insAt 41 12 = some (.ireturn, 1, (0, 0, 0, 0), 0) := rfl
theorem s41_12 {c : Nat → List AV → SS → Option Out} {l0 l1 l2 l3 l4 l5 l6 l7 : Option AV} {x : Int32} {L2 : List (Nat × AV)} {St : List AV} {S : SS} : ev c 41 12 [l0, l1, l2, l3, l4, l5, l6, l7] L2 [aI x] S = if x = 0 ∨ x = 1 then some (.inl (some (aI x)), S) else none := ev_rt i41_12 rfl
theorem i41_13 : insAt 41 13 = some (.aload_n 0, 1, (0, 0, 0, 0), 0) := rfl
theorem s41_13 {c : Nat → List AV → SS → Option Out} {l1 l2 l3 l4 l5 l6 l7 : Option AV} {o : OId} {L2 : List (Nat × AV)} {St : List AV} {S : SS} : ev c 41 13 [some (aR o), l1, l2, l3, l4, l5, l6, l7] L2 St S = ev c 41 14 [some (aR o), l1, l2, l3, l4, l5, l6, l7] L2 (aR o :: St) S := ev_go i41_13 rfl
theorem i41_14 : insAt 41 14 = some (.getfield 9, 3, (9, 1, 0, 0), 0) := rfl
theorem s41_14 {c : Nat → List AV → SS → Option Out} {l0 l1 l2 l3 l4 l5 l6 l7 : Option AV} {j t : Nat} {L2 : List (Nat × AV)} {St : List AV} {S : SS} : ev c 41 14 [l0, l1, l2, l3, l4, l5, l6, l7] L2 (aR (9, j, t) :: St) S = ev c 41 17 [l0, l1, l2, l3, l4, l5, l6, l7] L2 (S.2.2.1 (9, j, t) 1 :: St) S := ev_go i41_14 rfl
theorem i41_17 : insAt 41 17 = some (.iload_n 1, 1, (0, 0, 0, 0), 0) := rfl
theorem s41_17 {c : Nat → List AV → SS → Option Out} {l0 l2 l3 l4 l5 l6 l7 : Option AV} {x : Int32} {L2 : List (Nat × AV)} {St : List AV} {S : SS} : ev c 41 17 [l0, some (aI x), l2, l3, l4, l5, l6, l7] L2 St S = ev c 41 18 [l0, some (aI x), l2, l3, l4, l5, l6, l7] L2 (aI x :: St) S := ev_go i41_17 rfl
theorem i41_18 : insAt 41 18 = some (.invokestatic 36, 3, (32, 2, 1, 0), 0) := rfl
theorem s41_18 {c : Nat → List AV → SS → Option Out} {l0 l1 l2 l3 l4 l5 l6 l7 : Option AV} {a0 : OId} {a1 : Int32} {L2 : List (Nat × AV)} {S : SS} : ev c 41 18 [l0, l1, l2, l3, l4, l5, l6, l7] L2 [aI a1, aR a0] S = ck (c 32 [aR a0, aI a1] S) (fun v S' => ev c 41 21 [l0, l1, l2, l3, l4, l5, l6, l7] L2 (v.toList ++ []) S') := ev_call i41_18 rfl
theorem i41_21 : insAt 41 21 = some (.istore 4, 2, (0, 0, 0, 0), 0) := rfl
theorem s41_21 {c : Nat → List AV → SS → Option Out} {l0 l1 l2 l3 l4 l5 l6 l7 : Option AV} {x : Int32} {L2 : List (Nat × AV)} {St : List AV} {S : SS} : ev c 41 21 [l0, l1, l2, l3, l4, l5, l6, l7] L2 (aI x :: St) S = ev c 41 23 [l0, l1, l2, l3, some (aI x), l5, l6, l7] (kil L2 4) St S := ev_go i41_21 rfl
theorem i41_23 : insAt 41 23 = some (.aload_n 0, 1, (0, 0, 0, 0), 0) := rfl
theorem s41_23 {c : Nat → List AV → SS → Option Out} {l1 l2 l3 l4 l5 l6 l7 : Option AV} {o : OId} {L2 : List (Nat × AV)} {St : List AV} {S : SS} : ev c 41 23 [some (aR o), l1, l2, l3, l4, l5, l6, l7] L2 St S = ev c 41 24 [some (aR o), l1, l2, l3, l4, l5, l6, l7] L2 (aR o :: St) S := ev_go i41_23 rfl
theorem i41_24 : insAt 41 24 = some (.iload_n 1, 1, (0, 0, 0, 0), 0) := rfl
theorem s41_24 {c : Nat → List AV → SS → Option Out} {l0 l2 l3 l4 l5 l6 l7 : Option AV} {x : Int32} {L2 : List (Nat × AV)} {St : List AV} {S : SS} : ev c 41 24 [l0, some (aI x), l2, l3, l4, l5, l6, l7] L2 St S = ev c 41 25 [l0, some (aI x), l2, l3, l4, l5, l6, l7] L2 (aI x :: St) S := ev_go i41_24 rfl
theorem i41_25 : insAt 41 25 = some (.iload 4, 2, (0, 0, 0, 0), 0) := rfl
theorem s41_25 {c : Nat → List AV → SS → Option Out} {l0 l1 l2 l3 l5 l6 l7 : Option AV} {x : Int32} {L2 : List (Nat × AV)} {St : List AV} {S : SS} : ev c 41 25 [l0, l1, l2, l3, some (aI x), l5, l6, l7] L2 St S = ev c 41 27 [l0, l1, l2, l3, some (aI x), l5, l6, l7] L2 (aI x :: St) S := ev_go i41_25 rfl
theorem i41_27 : insAt 41 27 = some (.invokevirtual 48, 3, (42, 2, 2, 9), 0) := rfl
theorem s41_27 {c : Nat → List AV → SS → Option Out} {l0 l1 l2 l3 l4 l5 l6 l7 : Option AV} {a0 : Int32} {a1 : Int32} {j t : Nat} {L2 : List (Nat × AV)} {S : SS} : ev c 41 27 [l0, l1, l2, l3, l4, l5, l6, l7] L2 [aI a1, aI a0, aR (9, j, t)] S = ck (c 42 [aR (9, j, t), aI a0, aI a1] S) (fun v S' => ev c 41 30 [l0, l1, l2, l3, l4, l5, l6, l7] L2 (v.toList ++ []) S') := ev_call i41_27 rfl
theorem i41_30 : insAt 41 30 = some (.lstore 5, 2, (0, 0, 0, 0), 0) := rfl
theorem s41_30 {c : Nat → List AV → SS → Option Out} {l0 l1 l2 l3 l4 l5 l6 l7 : Option AV} {x : Int64} {L2 : List (Nat × AV)} {St : List AV} {S : SS} : ev c 41 30 [l0, l1, l2, l3, l4, l5, l6, l7] L2 (aL x :: St) S = ev c 41 32 [l0, l1, l2, l3, l4, none, none, l7] ((5, aL x) :: kil2 L2 5) St S := ev_go i41_30 rfl
theorem i41_32 : insAt 41 32 = some (.iconst 0, 1, (0, 0, 0, 0), 0) := rfl
theorem s41_32 {c : Nat → List AV → SS → Option Out} {l0 l1 l2 l3 l4 l5 l6 l7 : Option AV} {L2 : List (Nat × AV)} {St : List AV} {S : SS} : ev c 41 32 [l0, l1, l2, l3, l4, l5, l6, l7] L2 St S = ev c 41 33 [l0, l1, l2, l3, l4, l5, l6, l7] L2 (aI 0 :: St) S := ev_go i41_32 rfl
theorem i41_33 : insAt 41 33 = some (.istore 7, 2, (0, 0, 0, 0), 0) := rfl
theorem s41_33 {c : Nat → List AV → SS → Option Out} {l0 l1 l2 l3 l4 l5 l6 l7 : Option AV} {x : Int32} {L2 : List (Nat × AV)} {St : List AV} {S : SS} : ev c 41 33 [l0, l1, l2, l3, l4, l5, l6, l7] L2 (aI x :: St) S = ev c 41 35 [l0, l1, l2, l3, l4, l5, l6, some (aI x)] (kil L2 7) St S := ev_go i41_33 rfl
theorem i41_35 : insAt 41 35 = some (.iload 7, 2, (0, 0, 0, 0), 0) := rfl
theorem s41_35 {c : Nat → List AV → SS → Option Out} {l0 l1 l2 l3 l4 l5 l6 : Option AV} {x : Int32} {L2 : List (Nat × AV)} {St : List AV} {S : SS} : ev c 41 35 [l0, l1, l2, l3, l4, l5, l6, some (aI x)] L2 St S = ev c 41 37 [l0, l1, l2, l3, l4, l5, l6, some (aI x)] L2 (aI x :: St) S := ev_go i41_35 rfl
theorem i41_37 : insAt 41 37 = some (.iload_n 3, 1, (0, 0, 0, 0), 0) := rfl
theorem s41_37 {c : Nat → List AV → SS → Option Out} {l0 l1 l2 l4 l5 l6 l7 : Option AV} {x : Int32} {L2 : List (Nat × AV)} {St : List AV} {S : SS} : ev c 41 37 [l0, l1, l2, some (aI x), l4, l5, l6, l7] L2 St S = ev c 41 38 [l0, l1, l2, some (aI x), l4, l5, l6, l7] L2 (aI x :: St) S := ev_go i41_37 rfl
theorem i41_38 : insAt 41 38 = some (.if_icmp .ge 48, 3, (0, 0, 0, 0), 0) := rfl
theorem s41_38 {c : Nat → List AV → SS → Option Out} {l0 l1 l2 l3 l4 l5 l6 l7 : Option AV} {x y : Int32} {L2 : List (Nat × AV)} {St : List AV} {S : SS} : ev c 41 38 [l0, l1, l2, l3, l4, l5, l6, l7] L2 (aI y :: aI x :: St) S = if y ≤ x then ev c 41 86 [l0, l1, l2, l3, l4, l5, l6, l7] L2 St S else ev c 41 41 [l0, l1, l2, l3, l4, l5, l6, l7] L2 St S := ev_br i41_38 rfl
theorem i41_41 : insAt 41 41 = some (.lload 5, 2, (0, 0, 0, 0), 0) := rfl
theorem s41_41 {c : Nat → List AV → SS → Option Out} {l0 l1 l2 l3 l4 l5 l6 l7 : Option AV} {x : Int64} {L2 : List (Nat × AV)} {St : List AV} {S : SS} (h : ldL L2 5 = some x) : ev c 41 41 [l0, l1, l2, l3, l4, l5, l6, l7] L2 St S = ev c 41 43 [l0, l1, l2, l3, l4, l5, l6, l7] L2 (aL x :: St) S := ev_go i41_41 (by simp only [stepI]; exact (congrArg (fun q => match q with | some x => nx (41 + 2) [l0, l1, l2, l3, l4, l5, l6, l7] L2 (aL x :: St) S | none => none) h))
theorem i41_43 : insAt 41 43 = some (.iload 7, 2, (0, 0, 0, 0), 0) := rfl
theorem s41_43 {c : Nat → List AV → SS → Option Out} {l0 l1 l2 l3 l4 l5 l6 : Option AV} {x : Int32} {L2 : List (Nat × AV)} {St : List AV} {S : SS} : ev c 41 43 [l0, l1, l2, l3, l4, l5, l6, some (aI x)] L2 St S = ev c 41 45 [l0, l1, l2, l3, l4, l5, l6, some (aI x)] L2 (aI x :: St) S := ev_go i41_43 rfl
theorem i41_45 : insAt 41 45 = some (.invokestatic 52, 3, (43, 2, 1, 0), 0) := rfl
theorem s41_45 {c : Nat → List AV → SS → Option Out} {l0 l1 l2 l3 l4 l5 l6 l7 : Option AV} {a0 : Int64} {a1 : Int32} {L2 : List (Nat × AV)} {S : SS} : ev c 41 45 [l0, l1, l2, l3, l4, l5, l6, l7] L2 [aI a1, aL a0] S = ck (c 43 [aL a0, aI a1] S) (fun v S' => ev c 41 48 [l0, l1, l2, l3, l4, l5, l6, l7] L2 (v.toList ++ []) S') := ev_call i41_45 rfl
theorem i41_48 : insAt 41 48 = some (.ifCond .ne 32, 3, (0, 0, 0, 0), 0) := rfl
theorem s41_48 {c : Nat → List AV → SS → Option Out} {l0 l1 l2 l3 l4 l5 l6 l7 : Option AV} {x : Int32} {L2 : List (Nat × AV)} {St : List AV} {S : SS} : ev c 41 48 [l0, l1, l2, l3, l4, l5, l6, l7] L2 (aI x :: St) S = if x = 0 then ev c 41 51 [l0, l1, l2, l3, l4, l5, l6, l7] L2 St S else ev c 41 80 [l0, l1, l2, l3, l4, l5, l6, l7] L2 St S := (ev_br i41_48 rfl).trans (ite_not _ _ _)
theorem i41_51 : insAt 41 51 = some (.aload_n 0, 1, (0, 0, 0, 0), 0) := rfl
theorem s41_51 {c : Nat → List AV → SS → Option Out} {l1 l2 l3 l4 l5 l6 l7 : Option AV} {o : OId} {L2 : List (Nat × AV)} {St : List AV} {S : SS} : ev c 41 51 [some (aR o), l1, l2, l3, l4, l5, l6, l7] L2 St S = ev c 41 52 [some (aR o), l1, l2, l3, l4, l5, l6, l7] L2 (aR o :: St) S := ev_go i41_51 rfl
theorem i41_52 : insAt 41 52 = some (.iload 4, 2, (0, 0, 0, 0), 0) := rfl
theorem s41_52 {c : Nat → List AV → SS → Option Out} {l0 l1 l2 l3 l5 l6 l7 : Option AV} {x : Int32} {L2 : List (Nat × AV)} {St : List AV} {S : SS} : ev c 41 52 [l0, l1, l2, l3, some (aI x), l5, l6, l7] L2 St S = ev c 41 54 [l0, l1, l2, l3, some (aI x), l5, l6, l7] L2 (aI x :: St) S := ev_go i41_52 rfl
theorem i41_54 : insAt 41 54 = some (.iload 7, 2, (0, 0, 0, 0), 0) := rfl
theorem s41_54 {c : Nat → List AV → SS → Option Out} {l0 l1 l2 l3 l4 l5 l6 : Option AV} {x : Int32} {L2 : List (Nat × AV)} {St : List AV} {S : SS} : ev c 41 54 [l0, l1, l2, l3, l4, l5, l6, some (aI x)] L2 St S = ev c 41 56 [l0, l1, l2, l3, l4, l5, l6, some (aI x)] L2 (aI x :: St) S := ev_go i41_54 rfl
theorem i41_56 : insAt 41 56 = some (.iload_n 1, 1, (0, 0, 0, 0), 0) := rfl
theorem s41_56 {c : Nat → List AV → SS → Option Out} {l0 l2 l3 l4 l5 l6 l7 : Option AV} {x : Int32} {L2 : List (Nat × AV)} {St : List AV} {S : SS} : ev c 41 56 [l0, some (aI x), l2, l3, l4, l5, l6, l7] L2 St S = ev c 41 57 [l0, some (aI x), l2, l3, l4, l5, l6, l7] L2 (aI x :: St) S := ev_go i41_56 rfl
theorem i41_57 : insAt 41 57 = some (.iload_n 2, 1, (0, 0, 0, 0), 0) := rfl
theorem s41_57 {c : Nat → List AV → SS → Option Out} {l0 l1 l3 l4 l5 l6 l7 : Option AV} {x : Int32} {L2 : List (Nat × AV)} {St : List AV} {S : SS} : ev c 41 57 [l0, l1, some (aI x), l3, l4, l5, l6, l7] L2 St S = ev c 41 58 [l0, l1, some (aI x), l3, l4, l5, l6, l7] L2 (aI x :: St) S := ev_go i41_57 rfl
theorem i41_58 : insAt 41 58 = some (.invokevirtual 56, 3, (44, 4, 2, 9), 0) := rfl
theorem s41_58 {c : Nat → List AV → SS → Option Out} {l0 l1 l2 l3 l4 l5 l6 l7 : Option AV} {a0 : Int32} {a1 : Int32} {a2 : Int32} {a3 : Int32} {j t : Nat} {L2 : List (Nat × AV)} {S : SS} : ev c 41 58 [l0, l1, l2, l3, l4, l5, l6, l7] L2 [aI a3, aI a2, aI a1, aI a0, aR (9, j, t)] S = ck (c 44 [aR (9, j, t), aI a0, aI a1, aI a2, aI a3] S) (fun v S' => ev c 41 61 [l0, l1, l2, l3, l4, l5, l6, l7] L2 (v.toList ++ []) S') := ev_call i41_58 rfl
theorem i41_61 : insAt 41 61 = some (.aload_n 0, 1, (0, 0, 0, 0), 0) := rfl
theorem s41_61 {c : Nat → List AV → SS → Option Out} {l1 l2 l3 l4 l5 l6 l7 : Option AV} {o : OId} {L2 : List (Nat × AV)} {St : List AV} {S : SS} : ev c 41 61 [some (aR o), l1, l2, l3, l4, l5, l6, l7] L2 St S = ev c 41 62 [some (aR o), l1, l2, l3, l4, l5, l6, l7] L2 (aR o :: St) S := ev_go i41_61 rfl
theorem i41_62 : insAt 41 62 = some (.iload_n 1, 1, (0, 0, 0, 0), 0) := rfl
theorem s41_62 {c : Nat → List AV → SS → Option Out} {l0 l2 l3 l4 l5 l6 l7 : Option AV} {x : Int32} {L2 : List (Nat × AV)} {St : List AV} {S : SS} : ev c 41 62 [l0, some (aI x), l2, l3, l4, l5, l6, l7] L2 St S = ev c 41 63 [l0, some (aI x), l2, l3, l4, l5, l6, l7] L2 (aI x :: St) S := ev_go i41_62 rfl
theorem i41_63 : insAt 41 63 = some (.iconst 1, 1, (0, 0, 0, 0), 0) := rfl
theorem s41_63 {c : Nat → List AV → SS → Option Out} {l0 l1 l2 l3 l4 l5 l6 l7 : Option AV} {L2 : List (Nat × AV)} {St : List AV} {S : SS} : ev c 41 63 [l0, l1, l2, l3, l4, l5, l6, l7] L2 St S = ev c 41 64 [l0, l1, l2, l3, l4, l5, l6, l7] L2 (aI 1 :: St) S := ev_go i41_63 rfl
theorem i41_64 : insAt 41 64 = some (.iadd, 1, (0, 0, 0, 0), 0) := rfl
theorem s41_64 {c : Nat → List AV → SS → Option Out} {l0 l1 l2 l3 l4 l5 l6 l7 : Option AV} {x y : Int32} {L2 : List (Nat × AV)} {St : List AV} {S : SS} : ev c 41 64 [l0, l1, l2, l3, l4, l5, l6, l7] L2 (aI y :: aI x :: St) S = ev c 41 65 [l0, l1, l2, l3, l4, l5, l6, l7] L2 (aI (x + y) :: St) S := ev_go i41_64 rfl
theorem i41_65 : insAt 41 65 = some (.iload_n 2, 1, (0, 0, 0, 0), 0) := rfl
theorem s41_65 {c : Nat → List AV → SS → Option Out} {l0 l1 l3 l4 l5 l6 l7 : Option AV} {x : Int32} {L2 : List (Nat × AV)} {St : List AV} {S : SS} : ev c 41 65 [l0, l1, some (aI x), l3, l4, l5, l6, l7] L2 St S = ev c 41 66 [l0, l1, some (aI x), l3, l4, l5, l6, l7] L2 (aI x :: St) S := ev_go i41_65 rfl
theorem i41_66 : insAt 41 66 = some (.iconst 1, 1, (0, 0, 0, 0), 0) := rfl
theorem s41_66 {c : Nat → List AV → SS → Option Out} {l0 l1 l2 l3 l4 l5 l6 l7 : Option AV} {L2 : List (Nat × AV)} {St : List AV} {S : SS} : ev c 41 66 [l0, l1, l2, l3, l4, l5, l6, l7] L2 St S = ev c 41 67 [l0, l1, l2, l3, l4, l5, l6, l7] L2 (aI 1 :: St) S := ev_go i41_66 rfl
theorem i41_67 : insAt 41 67 = some (.iload 4, 2, (0, 0, 0, 0), 0) := rfl
theorem s41_67 {c : Nat → List AV → SS → Option Out} {l0 l1 l2 l3 l5 l6 l7 : Option AV} {x : Int32} {L2 : List (Nat × AV)} {St : List AV} {S : SS} : ev c 41 67 [l0, l1, l2, l3, some (aI x), l5, l6, l7] L2 St S = ev c 41 69 [l0, l1, l2, l3, some (aI x), l5, l6, l7] L2 (aI x :: St) S := ev_go i41_67 rfl
theorem i41_69 : insAt 41 69 = some (.ishl, 1, (0, 0, 0, 0), 0) := rfl
theorem s41_69 {c : Nat → List AV → SS → Option Out} {l0 l1 l2 l3 l4 l5 l6 l7 : Option AV} {x y : Int32} {L2 : List (Nat × AV)} {St : List AV} {S : SS} : ev c 41 69 [l0, l1, l2, l3, l4, l5, l6, l7] L2 (aI y :: aI x :: St) S = ev c 41 70 [l0, l1, l2, l3, l4, l5, l6, l7] L2 (aI (x <<< (y &&& 31)) :: St) S := ev_go i41_69 rfl
theorem i41_70 : insAt 41 70 = some (.ior, 1, (0, 0, 0, 0), 0) := rfl
theorem s41_70 {c : Nat → List AV → SS → Option Out} {l0 l1 l2 l3 l4 l5 l6 l7 : Option AV} {x y : Int32} {L2 : List (Nat × AV)} {St : List AV} {S : SS} : ev c 41 70 [l0, l1, l2, l3, l4, l5, l6, l7] L2 (aI y :: aI x :: St) S = ev c 41 71 [l0, l1, l2, l3, l4, l5, l6, l7] L2 (aI (x ||| y) :: St) S := ev_go i41_70 rfl
theorem i41_71 : insAt 41 71 = some (.iload_n 3, 1, (0, 0, 0, 0), 0) := rfl
theorem s41_71 {c : Nat → List AV → SS → Option Out} {l0 l1 l2 l4 l5 l6 l7 : Option AV} {x : Int32} {L2 : List (Nat × AV)} {St : List AV} {S : SS} : ev c 41 71 [l0, l1, l2, some (aI x), l4, l5, l6, l7] L2 St S = ev c 41 72 [l0, l1, l2, some (aI x), l4, l5, l6, l7] L2 (aI x :: St) S := ev_go i41_71 rfl
theorem i41_72 : insAt 41 72 = some (.invokestatic 26, 3, (41, 4, 0, 0), 0) := rfl
theorem s41_72 {c : Nat → List AV → SS → Option Out} {l0 l1 l2 l3 l4 l5 l6 l7 : Option AV} {a0 : OId} {a1 : Int32} {a2 : Int32} {a3 : Int32} {L2 : List (Nat × AV)} {S : SS} : ev c 41 72 [l0, l1, l2, l3, l4, l5, l6, l7] L2 [aI a3, aI a2, aI a1, aR a0] S = ck (c 41 [aR a0, aI a1, aI a2, aI a3] S) (fun v S' => ev c 41 75 [l0, l1, l2, l3, l4, l5, l6, l7] L2 (v.toList ++ []) S') := ev_call i41_72 rfl
theorem i41_75 : insAt 41 75 = some (.ifCond .eq 5, 3, (0, 0, 0, 0), 0) := rfl
theorem s41_75 {c : Nat → List AV → SS → Option Out} {l0 l1 l2 l3 l4 l5 l6 l7 : Option AV} {x : Int32} {L2 : List (Nat × AV)} {St : List AV} {S : SS} : ev c 41 75 [l0, l1, l2, l3, l4, l5, l6, l7] L2 (aI x :: St) S = if x = 0 then ev c 41 80 [l0, l1, l2, l3, l4, l5, l6, l7] L2 St S else ev c 41 78 [l0, l1, l2, l3, l4, l5, l6, l7] L2 St S := ev_br i41_75 rfl
theorem i41_78 : insAt 41 78 = some (.iconst 1, 1, (0, 0, 0, 0), 0) := rfl
theorem s41_78 {c : Nat → List AV → SS → Option Out} {l0 l1 l2 l3 l4 l5 l6 l7 : Option AV} {L2 : List (Nat × AV)} {St : List AV} {S : SS} : ev c 41 78 [l0, l1, l2, l3, l4, l5, l6, l7] L2 St S = ev c 41 79 [l0, l1, l2, l3, l4, l5, l6, l7] L2 (aI 1 :: St) S := ev_go i41_78 rfl
theorem i41_79 : insAt 41 79 = some (.ireturn, 1, (0, 0, 0, 0), 0) := rfl
theorem s41_79 {c : Nat → List AV → SS → Option Out} {l0 l1 l2 l3 l4 l5 l6 l7 : Option AV} {x : Int32} {L2 : List (Nat × AV)} {St : List AV} {S : SS} : ev c 41 79 [l0, l1, l2, l3, l4, l5, l6, l7] L2 [aI x] S = if x = 0 ∨ x = 1 then some (.inl (some (aI x)), S) else none := ev_rt i41_79 rfl
theorem i41_80 : insAt 41 80 = some (.iinc 7 1, 3, (0, 0, 0, 0), 0) := rfl
theorem s41_80 {c : Nat → List AV → SS → Option Out} {l0 l1 l2 l3 l4 l5 l6 : Option AV} {x : Int32} {L2 : List (Nat × AV)} {St : List AV} {S : SS} : ev c 41 80 [l0, l1, l2, l3, l4, l5, l6, some (aI x)] L2 St S = ev c 41 83 [l0, l1, l2, l3, l4, l5, l6, some (aI (x + 1))] (kil L2 7) St S := ev_go i41_80 rfl
theorem i41_83 : insAt 41 83 = some (.goto (-48), 3, (0, 0, 0, 0), 0) := rfl
theorem s41_83 {c : Nat → List AV → SS → Option Out} {l0 l1 l2 l3 l4 l5 l6 l7 : Option AV} {L2 : List (Nat × AV)} {St : List AV} {S : SS} : ev c 41 83 [l0, l1, l2, l3, l4, l5, l6, l7] L2 St S = ev c 41 35 [l0, l1, l2, l3, l4, l5, l6, l7] L2 St S := ev_go i41_83 rfl
theorem i41_86 : insAt 41 86 = some (.iconst 0, 1, (0, 0, 0, 0), 0) := rfl
theorem s41_86 {c : Nat → List AV → SS → Option Out} {l0 l1 l2 l3 l4 l5 l6 l7 : Option AV} {L2 : List (Nat × AV)} {St : List AV} {S : SS} : ev c 41 86 [l0, l1, l2, l3, l4, l5, l6, l7] L2 St S = ev c 41 87 [l0, l1, l2, l3, l4, l5, l6, l7] L2 (aI 0 :: St) S := ev_go i41_86 rfl
theorem i41_87 : insAt 41 87 = some (.ireturn, 1, (0, 0, 0, 0), 0) := rfl
theorem s41_87 {c : Nat → List AV → SS → Option Out} {l0 l1 l2 l3 l4 l5 l6 l7 : Option AV} {x : Int32} {L2 : List (Nat × AV)} {St : List AV} {S : SS} : ev c 41 87 [l0, l1, l2, l3, l4, l5, l6, l7] L2 [aI x] S = if x = 0 ∨ x = 1 then some (.inl (some (aI x)), S) else none := ev_rt i41_87 rfl
theorem m41 {d : Nat} {a0 : OId} {a1 : Int32} {a2 : Int32} {a3 : Int32} {S : SS} : evm (d + 1) 41 [aR a0, aI a1, aI a2, aI a3] S = ev (evm d) 41 0 [some (aR a0), some (aI a1), some (aI a2), some (aI a3), none, none, none, none] [] [] S := evm_s (n := 8) rfl (Nat.le_of_ble_eq_true rfl) rfl rfl
/-! FrequencyOffice$Spans.shutTo(II)J -/
theorem i42_0 : insAt 42 0 = some (.iload_n 1, 1, (0, 0, 0, 0), 0) := rfl
theorem s42_0 {c : Nat → List AV → SS → Option Out} {l0 l2 l3 : Option AV} {x : Int32} {L2 : List (Nat × AV)} {St : List AV} {S : SS} : ev c 42 0 [l0, some (aI x), l2, l3] L2 St S = ev c 42 1 [l0, some (aI x), l2, l3] L2 (aI x :: St) S := ev_go i42_0 rfl
theorem i42_1 : insAt 42 1 = some (.iload_n 2, 1, (0, 0, 0, 0), 0) := rfl
theorem s42_1 {c : Nat → List AV → SS → Option Out} {l0 l1 l3 : Option AV} {x : Int32} {L2 : List (Nat × AV)} {St : List AV} {S : SS} : ev c 42 1 [l0, l1, some (aI x), l3] L2 St S = ev c 42 2 [l0, l1, some (aI x), l3] L2 (aI x :: St) S := ev_go i42_1 rfl
theorem i42_2 : insAt 42 2 = some (.invokestatic 94, 3, (31, 2, 1, 0), 0) := rfl
theorem s42_2 {c : Nat → List AV → SS → Option Out} {l0 l1 l2 l3 : Option AV} {a0 : Int32} {a1 : Int32} {L2 : List (Nat × AV)} {S : SS} : ev c 42 2 [l0, l1, l2, l3] L2 [aI a1, aI a0] S = ck (c 31 [aI a0, aI a1] S) (fun v S' => ev c 42 5 [l0, l1, l2, l3] L2 (v.toList ++ []) S') := ev_call i42_2 rfl
theorem i42_5 : insAt 42 5 = some (.istore_n 3, 1, (0, 0, 0, 0), 0) := rfl
theorem s42_5 {c : Nat → List AV → SS → Option Out} {l0 l1 l2 l3 : Option AV} {x : Int32} {L2 : List (Nat × AV)} {St : List AV} {S : SS} : ev c 42 5 [l0, l1, l2, l3] L2 (aI x :: St) S = ev c 42 6 [l0, l1, l2, some (aI x)] (kil L2 3) St S := ev_go i42_5 rfl
theorem i42_6 : insAt 42 6 = some (.iload_n 3, 1, (0, 0, 0, 0), 0) := rfl
theorem s42_6 {c : Nat → List AV → SS → Option Out} {l0 l1 l2 : Option AV} {x : Int32} {L2 : List (Nat × AV)} {St : List AV} {S : SS} : ev c 42 6 [l0, l1, l2, some (aI x)] L2 St S = ev c 42 7 [l0, l1, l2, some (aI x)] L2 (aI x :: St) S := ev_go i42_6 rfl
theorem i42_7 : insAt 42 7 = some (.ifCond .lt 21, 3, (0, 0, 0, 0), 0) := rfl
theorem s42_7 {c : Nat → List AV → SS → Option Out} {l0 l1 l2 l3 : Option AV} {x : Int32} {L2 : List (Nat × AV)} {St : List AV} {S : SS} : ev c 42 7 [l0, l1, l2, l3] L2 (aI x :: St) S = if x < 0 then ev c 42 28 [l0, l1, l2, l3] L2 St S else ev c 42 10 [l0, l1, l2, l3] L2 St S := ev_br i42_7 rfl
theorem i42_10 : insAt 42 10 = some (.iload_n 3, 1, (0, 0, 0, 0), 0) := rfl
theorem s42_10 {c : Nat → List AV → SS → Option Out} {l0 l1 l2 : Option AV} {x : Int32} {L2 : List (Nat × AV)} {St : List AV} {S : SS} : ev c 42 10 [l0, l1, l2, some (aI x)] L2 St S = ev c 42 11 [l0, l1, l2, some (aI x)] L2 (aI x :: St) S := ev_go i42_10 rfl
theorem i42_11 : insAt 42 11 = some (.aload_n 0, 1, (0, 0, 0, 0), 0) := rfl
theorem s42_11 {c : Nat → List AV → SS → Option Out} {l1 l2 l3 : Option AV} {o : OId} {L2 : List (Nat × AV)} {St : List AV} {S : SS} : ev c 42 11 [some (aR o), l1, l2, l3] L2 St S = ev c 42 12 [some (aR o), l1, l2, l3] L2 (aR o :: St) S := ev_go i42_11 rfl
theorem i42_12 : insAt 42 12 = some (.getfield 15, 3, (9, 2, 0, 0), 0) := rfl
theorem s42_12 {c : Nat → List AV → SS → Option Out} {l0 l1 l2 l3 : Option AV} {j t : Nat} {L2 : List (Nat × AV)} {St : List AV} {S : SS} : ev c 42 12 [l0, l1, l2, l3] L2 (aR (9, j, t) :: St) S = ev c 42 15 [l0, l1, l2, l3] L2 (S.2.2.1 (9, j, t) 2 :: St) S := ev_go i42_12 rfl
theorem i42_15 : insAt 42 15 = some (.arraylength, 1, (0, 0, 0, 0), 0) := rfl
theorem s42_15 {c : Nat → List AV → SS → Option Out} {l0 l1 l2 l3 : Option AV} {o : OId} {L2 : List (Nat × AV)} {St : List AV} {S : SS} : ev c 42 15 [l0, l1, l2, l3] L2 (aR o :: St) S = kN o (fun x => ev c 42 16 [l0, l1, l2, l3] L2 (aI x :: St) S) := ev_alen i42_15
theorem i42_16 : insAt 42 16 = some (.if_icmp .ge 12, 3, (0, 0, 0, 0), 0) := rfl
theorem s42_16 {c : Nat → List AV → SS → Option Out} {l0 l1 l2 l3 : Option AV} {x y : Int32} {L2 : List (Nat × AV)} {St : List AV} {S : SS} : ev c 42 16 [l0, l1, l2, l3] L2 (aI y :: aI x :: St) S = if y ≤ x then ev c 42 28 [l0, l1, l2, l3] L2 St S else ev c 42 19 [l0, l1, l2, l3] L2 St S := ev_br i42_16 rfl
theorem i42_19 : insAt 42 19 = some (.aload_n 0, 1, (0, 0, 0, 0), 0) := rfl
theorem s42_19 {c : Nat → List AV → SS → Option Out} {l1 l2 l3 : Option AV} {o : OId} {L2 : List (Nat × AV)} {St : List AV} {S : SS} : ev c 42 19 [some (aR o), l1, l2, l3] L2 St S = ev c 42 20 [some (aR o), l1, l2, l3] L2 (aR o :: St) S := ev_go i42_19 rfl
theorem i42_20 : insAt 42 20 = some (.getfield 15, 3, (9, 2, 0, 0), 0) := rfl
theorem s42_20 {c : Nat → List AV → SS → Option Out} {l0 l1 l2 l3 : Option AV} {j t : Nat} {L2 : List (Nat × AV)} {St : List AV} {S : SS} : ev c 42 20 [l0, l1, l2, l3] L2 (aR (9, j, t) :: St) S = ev c 42 23 [l0, l1, l2, l3] L2 (S.2.2.1 (9, j, t) 2 :: St) S := ev_go i42_20 rfl
theorem i42_23 : insAt 42 23 = some (.iload_n 3, 1, (0, 0, 0, 0), 0) := rfl
theorem s42_23 {c : Nat → List AV → SS → Option Out} {l0 l1 l2 : Option AV} {x : Int32} {L2 : List (Nat × AV)} {St : List AV} {S : SS} : ev c 42 23 [l0, l1, l2, some (aI x)] L2 St S = ev c 42 24 [l0, l1, l2, some (aI x)] L2 (aI x :: St) S := ev_go i42_23 rfl
theorem i42_24 : insAt 42 24 = some (.laload, 1, (0, 0, 0, 0), 0) := rfl
theorem s42_24 {c : Nat → List AV → SS → Option Out} {l0 l1 l2 l3 : Option AV} {i : Int32} {o : OId} {L2 : List (Nat × AV)} {St : List AV} {S : SS} : ev c 42 24 [l0, l1, l2, l3] L2 (aI i :: aR o :: St) S = kJ o i (ev c 42 25 [l0, l1, l2, l3] L2 (aL (toL (S.2.1 o i.toNatClampNeg)) :: St) S) := ev_laload i42_24
theorem i42_25 : insAt 42 25 = some (.goto 4, 3, (0, 0, 0, 0), 0) := rfl
theorem s42_25 {c : Nat → List AV → SS → Option Out} {l0 l1 l2 l3 : Option AV} {L2 : List (Nat × AV)} {St : List AV} {S : SS} : ev c 42 25 [l0, l1, l2, l3] L2 St S = ev c 42 29 [l0, l1, l2, l3] L2 St S := ev_go i42_25 rfl
theorem i42_28 : insAt 42 28 = some (.lconst 0, 1, (0, 0, 0, 0), 0) := rfl
theorem s42_28 {c : Nat → List AV → SS → Option Out} {l0 l1 l2 l3 : Option AV} {L2 : List (Nat × AV)} {St : List AV} {S : SS} : ev c 42 28 [l0, l1, l2, l3] L2 St S = ev c 42 29 [l0, l1, l2, l3] L2 (aL 0 :: St) S := ev_go i42_28 rfl
theorem i42_29 : insAt 42 29 = some (.lreturn, 1, (0, 0, 0, 0), 0) := rfl
theorem s42_29 {c : Nat → List AV → SS → Option Out} {l0 l1 l2 l3 : Option AV} {x : Int64} {L2 : List (Nat × AV)} {St : List AV} {S : SS} : ev c 42 29 [l0, l1, l2, l3] L2 [aL x] S = some (.inl (some (aL x)), S) := ev_end i42_29 rfl
theorem m42 {d : Nat} {o : OId} {a0 : Int32} {a1 : Int32} {S : SS} : evm (d + 1) 42 [aR o, aI a0, aI a1] S = ev (evm d) 42 0 [some (aR o), some (aI a0), some (aI a1), none] [] [] S := evm_s (n := 4) rfl (Nat.le_of_ble_eq_true rfl) rfl rfl
/-! FrequencyOffice$Spans.place(IIII)V -/
theorem i44_0 : insAt 44 0 = some (.iconst 0, 1, (0, 0, 0, 0), 0) := rfl
theorem s44_0 {c : Nat → List AV → SS → Option Out} {l0 l1 l2 l3 l4 l5 l6 l7 : Option AV} {L2 : List (Nat × AV)} {St : List AV} {S : SS} : ev c 44 0 [l0, l1, l2, l3, l4, l5, l6, l7] L2 St S = ev c 44 1 [l0, l1, l2, l3, l4, l5, l6, l7] L2 (aI 0 :: St) S := ev_go i44_0 rfl
theorem i44_1 : insAt 44 1 = some (.istore 5, 2, (0, 0, 0, 0), 0) := rfl
theorem s44_1 {c : Nat → List AV → SS → Option Out} {l0 l1 l2 l3 l4 l5 l6 l7 : Option AV} {x : Int32} {L2 : List (Nat × AV)} {St : List AV} {S : SS} : ev c 44 1 [l0, l1, l2, l3, l4, l5, l6, l7] L2 (aI x :: St) S = ev c 44 3 [l0, l1, l2, l3, l4, some (aI x), l6, l7] (kil L2 5) St S := ev_go i44_1 rfl
theorem i44_3 : insAt 44 3 = some (.iload 5, 2, (0, 0, 0, 0), 0) := rfl
theorem s44_3 {c : Nat → List AV → SS → Option Out} {l0 l1 l2 l3 l4 l6 l7 : Option AV} {x : Int32} {L2 : List (Nat × AV)} {St : List AV} {S : SS} : ev c 44 3 [l0, l1, l2, l3, l4, some (aI x), l6, l7] L2 St S = ev c 44 5 [l0, l1, l2, l3, l4, some (aI x), l6, l7] L2 (aI x :: St) S := ev_go i44_3 rfl
theorem i44_5 : insAt 44 5 = some (.aload_n 0, 1, (0, 0, 0, 0), 0) := rfl
theorem s44_5 {c : Nat → List AV → SS → Option Out} {l1 l2 l3 l4 l5 l6 l7 : Option AV} {o : OId} {L2 : List (Nat × AV)} {St : List AV} {S : SS} : ev c 44 5 [some (aR o), l1, l2, l3, l4, l5, l6, l7] L2 St S = ev c 44 6 [some (aR o), l1, l2, l3, l4, l5, l6, l7] L2 (aR o :: St) S := ev_go i44_5 rfl
theorem i44_6 : insAt 44 6 = some (.getfield 19, 3, (9, 0, 0, 0), 0) := rfl
theorem s44_6 {c : Nat → List AV → SS → Option Out} {l0 l1 l2 l3 l4 l5 l6 l7 : Option AV} {j t : Nat} {L2 : List (Nat × AV)} {St : List AV} {S : SS} : ev c 44 6 [l0, l1, l2, l3, l4, l5, l6, l7] L2 (aR (9, j, t) :: St) S = ev c 44 9 [l0, l1, l2, l3, l4, l5, l6, l7] L2 (S.2.2.1 (9, j, t) 0 :: St) S := ev_go i44_6 rfl
theorem i44_9 : insAt 44 9 = some (.getfield 30, 3, (6, 0, 1, 0), 0) := rfl
theorem s44_9 {c : Nat → List AV → SS → Option Out} {l0 l1 l2 l3 l4 l5 l6 l7 : Option AV} {j t : Nat} {L2 : List (Nat × AV)} {St : List AV} {S : SS} : ev c 44 9 [l0, l1, l2, l3, l4, l5, l6, l7] L2 (aR (6, j, t) :: St) S = ev c 44 12 [l0, l1, l2, l3, l4, l5, l6, l7] L2 (aI (S.1 (6, j, t) 0) :: St) S := ev_go i44_9 rfl
theorem i44_12 : insAt 44 12 = some (.if_icmp .ge 61, 3, (0, 0, 0, 0), 0) := rfl
theorem s44_12 {c : Nat → List AV → SS → Option Out} {l0 l1 l2 l3 l4 l5 l6 l7 : Option AV} {x y : Int32} {L2 : List (Nat × AV)} {St : List AV} {S : SS} : ev c 44 12 [l0, l1, l2, l3, l4, l5, l6, l7] L2 (aI y :: aI x :: St) S = if y ≤ x then ev c 44 73 [l0, l1, l2, l3, l4, l5, l6, l7] L2 St S else ev c 44 15 [l0, l1, l2, l3, l4, l5, l6, l7] L2 St S := ev_br i44_12 rfl
theorem i44_15 : insAt 44 15 = some (.iload 5, 2, (0, 0, 0, 0), 0) := rfl
theorem s44_15 {c : Nat → List AV → SS → Option Out} {l0 l1 l2 l3 l4 l6 l7 : Option AV} {x : Int32} {L2 : List (Nat × AV)} {St : List AV} {S : SS} : ev c 44 15 [l0, l1, l2, l3, l4, some (aI x), l6, l7] L2 St S = ev c 44 17 [l0, l1, l2, l3, l4, some (aI x), l6, l7] L2 (aI x :: St) S := ev_go i44_15 rfl
theorem i44_17 : insAt 44 17 = some (.iload_n 1, 1, (0, 0, 0, 0), 0) := rfl
theorem s44_17 {c : Nat → List AV → SS → Option Out} {l0 l2 l3 l4 l5 l6 l7 : Option AV} {x : Int32} {L2 : List (Nat × AV)} {St : List AV} {S : SS} : ev c 44 17 [l0, some (aI x), l2, l3, l4, l5, l6, l7] L2 St S = ev c 44 18 [l0, some (aI x), l2, l3, l4, l5, l6, l7] L2 (aI x :: St) S := ev_go i44_17 rfl
theorem i44_18 : insAt 44 18 = some (.if_icmp .eq 49, 3, (0, 0, 0, 0), 0) := rfl
theorem s44_18 {c : Nat → List AV → SS → Option Out} {l0 l1 l2 l3 l4 l5 l6 l7 : Option AV} {x y : Int32} {L2 : List (Nat × AV)} {St : List AV} {S : SS} : ev c 44 18 [l0, l1, l2, l3, l4, l5, l6, l7] L2 (aI y :: aI x :: St) S = if x = y then ev c 44 67 [l0, l1, l2, l3, l4, l5, l6, l7] L2 St S else ev c 44 21 [l0, l1, l2, l3, l4, l5, l6, l7] L2 St S := ev_br i44_18 rfl
theorem i44_21 : insAt 44 21 = some (.iload 4, 2, (0, 0, 0, 0), 0) := rfl
theorem s44_21 {c : Nat → List AV → SS → Option Out} {l0 l1 l2 l3 l5 l6 l7 : Option AV} {x : Int32} {L2 : List (Nat × AV)} {St : List AV} {S : SS} : ev c 44 21 [l0, l1, l2, l3, some (aI x), l5, l6, l7] L2 St S = ev c 44 23 [l0, l1, l2, l3, some (aI x), l5, l6, l7] L2 (aI x :: St) S := ev_go i44_21 rfl
theorem i44_23 : insAt 44 23 = some (.i2l, 1, (0, 0, 0, 0), 0) := rfl
theorem s44_23 {c : Nat → List AV → SS → Option Out} {l0 l1 l2 l3 l4 l5 l6 l7 : Option AV} {x : Int32} {L2 : List (Nat × AV)} {St : List AV} {S : SS} : ev c 44 23 [l0, l1, l2, l3, l4, l5, l6, l7] L2 (aI x :: St) S = ev c 44 24 [l0, l1, l2, l3, l4, l5, l6, l7] L2 (aL x.toInt64 :: St) S := ev_go i44_23 rfl
theorem i44_24 : insAt 44 24 = some (.iload 5, 2, (0, 0, 0, 0), 0) := rfl
theorem s44_24 {c : Nat → List AV → SS → Option Out} {l0 l1 l2 l3 l4 l6 l7 : Option AV} {x : Int32} {L2 : List (Nat × AV)} {St : List AV} {S : SS} : ev c 44 24 [l0, l1, l2, l3, l4, some (aI x), l6, l7] L2 St S = ev c 44 26 [l0, l1, l2, l3, l4, some (aI x), l6, l7] L2 (aI x :: St) S := ev_go i44_24 rfl
theorem i44_26 : insAt 44 26 = some (.invokestatic 52, 3, (43, 2, 1, 0), 0) := rfl
theorem s44_26 {c : Nat → List AV → SS → Option Out} {l0 l1 l2 l3 l4 l5 l6 l7 : Option AV} {a0 : Int64} {a1 : Int32} {L2 : List (Nat × AV)} {S : SS} : ev c 44 26 [l0, l1, l2, l3, l4, l5, l6, l7] L2 [aI a1, aL a0] S = ck (c 43 [aL a0, aI a1] S) (fun v S' => ev c 44 29 [l0, l1, l2, l3, l4, l5, l6, l7] L2 (v.toList ++ []) S') := ev_call i44_26 rfl
theorem i44_29 : insAt 44 29 = some (.ifCond .ne 38, 3, (0, 0, 0, 0), 0) := rfl
theorem s44_29 {c : Nat → List AV → SS → Option Out} {l0 l1 l2 l3 l4 l5 l6 l7 : Option AV} {x : Int32} {L2 : List (Nat × AV)} {St : List AV} {S : SS} : ev c 44 29 [l0, l1, l2, l3, l4, l5, l6, l7] L2 (aI x :: St) S = if x = 0 then ev c 44 32 [l0, l1, l2, l3, l4, l5, l6, l7] L2 St S else ev c 44 67 [l0, l1, l2, l3, l4, l5, l6, l7] L2 St S := (ev_br i44_29 rfl).trans (ite_not _ _ _)
theorem i44_32 : insAt 44 32 = some (.aload_n 0, 1, (0, 0, 0, 0), 0) := rfl
theorem s44_32 {c : Nat → List AV → SS → Option Out} {l1 l2 l3 l4 l5 l6 l7 : Option AV} {o : OId} {L2 : List (Nat × AV)} {St : List AV} {S : SS} : ev c 44 32 [some (aR o), l1, l2, l3, l4, l5, l6, l7] L2 St S = ev c 44 33 [some (aR o), l1, l2, l3, l4, l5, l6, l7] L2 (aR o :: St) S := ev_go i44_32 rfl
theorem i44_33 : insAt 44 33 = some (.iload_n 3, 1, (0, 0, 0, 0), 0) := rfl
theorem s44_33 {c : Nat → List AV → SS → Option Out} {l0 l1 l2 l4 l5 l6 l7 : Option AV} {x : Int32} {L2 : List (Nat × AV)} {St : List AV} {S : SS} : ev c 44 33 [l0, l1, l2, some (aI x), l4, l5, l6, l7] L2 St S = ev c 44 34 [l0, l1, l2, some (aI x), l4, l5, l6, l7] L2 (aI x :: St) S := ev_go i44_33 rfl
theorem i44_34 : insAt 44 34 = some (.iload 5, 2, (0, 0, 0, 0), 0) := rfl
theorem s44_34 {c : Nat → List AV → SS → Option Out} {l0 l1 l2 l3 l4 l6 l7 : Option AV} {x : Int32} {L2 : List (Nat × AV)} {St : List AV} {S : SS} : ev c 44 34 [l0, l1, l2, l3, l4, some (aI x), l6, l7] L2 St S = ev c 44 36 [l0, l1, l2, l3, l4, some (aI x), l6, l7] L2 (aI x :: St) S := ev_go i44_34 rfl
theorem i44_36 : insAt 44 36 = some (.invokevirtual 48, 3, (42, 2, 2, 9), 0) := rfl
theorem s44_36 {c : Nat → List AV → SS → Option Out} {l0 l1 l2 l3 l4 l5 l6 l7 : Option AV} {a0 : Int32} {a1 : Int32} {j t : Nat} {L2 : List (Nat × AV)} {S : SS} : ev c 44 36 [l0, l1, l2, l3, l4, l5, l6, l7] L2 [aI a1, aI a0, aR (9, j, t)] S = ck (c 42 [aR (9, j, t), aI a0, aI a1] S) (fun v S' => ev c 44 39 [l0, l1, l2, l3, l4, l5, l6, l7] L2 (v.toList ++ []) S') := ev_call i44_36 rfl
theorem i44_39 : insAt 44 39 = some (.iload_n 2, 1, (0, 0, 0, 0), 0) := rfl
theorem s44_39 {c : Nat → List AV → SS → Option Out} {l0 l1 l3 l4 l5 l6 l7 : Option AV} {x : Int32} {L2 : List (Nat × AV)} {St : List AV} {S : SS} : ev c 44 39 [l0, l1, some (aI x), l3, l4, l5, l6, l7] L2 St S = ev c 44 40 [l0, l1, some (aI x), l3, l4, l5, l6, l7] L2 (aI x :: St) S := ev_go i44_39 rfl
theorem i44_40 : insAt 44 40 = some (.aload_n 0, 1, (0, 0, 0, 0), 0) := rfl
theorem s44_40 {c : Nat → List AV → SS → Option Out} {l1 l2 l3 l4 l5 l6 l7 : Option AV} {o : OId} {L2 : List (Nat × AV)} {St : List AV} {S : SS} : ev c 44 40 [some (aR o), l1, l2, l3, l4, l5, l6, l7] L2 St S = ev c 44 41 [some (aR o), l1, l2, l3, l4, l5, l6, l7] L2 (aR o :: St) S := ev_go i44_40 rfl
theorem i44_41 : insAt 44 41 = some (.getfield 19, 3, (9, 0, 0, 0), 0) := rfl
theorem s44_41 {c : Nat → List AV → SS → Option Out} {l0 l1 l2 l3 l4 l5 l6 l7 : Option AV} {j t : Nat} {L2 : List (Nat × AV)} {St : List AV} {S : SS} : ev c 44 41 [l0, l1, l2, l3, l4, l5, l6, l7] L2 (aR (9, j, t) :: St) S = ev c 44 44 [l0, l1, l2, l3, l4, l5, l6, l7] L2 (S.2.2.1 (9, j, t) 0 :: St) S := ev_go i44_41 rfl
theorem i44_44 : insAt 44 44 = some (.iload_n 1, 1, (0, 0, 0, 0), 0) := rfl
theorem s44_44 {c : Nat → List AV → SS → Option Out} {l0 l2 l3 l4 l5 l6 l7 : Option AV} {x : Int32} {L2 : List (Nat × AV)} {St : List AV} {S : SS} : ev c 44 44 [l0, some (aI x), l2, l3, l4, l5, l6, l7] L2 St S = ev c 44 45 [l0, some (aI x), l2, l3, l4, l5, l6, l7] L2 (aI x :: St) S := ev_go i44_44 rfl
theorem i44_45 : insAt 44 45 = some (.iload 5, 2, (0, 0, 0, 0), 0) := rfl
theorem s44_45 {c : Nat → List AV → SS → Option Out} {l0 l1 l2 l3 l4 l6 l7 : Option AV} {x : Int32} {L2 : List (Nat × AV)} {St : List AV} {S : SS} : ev c 44 45 [l0, l1, l2, l3, l4, some (aI x), l6, l7] L2 St S = ev c 44 47 [l0, l1, l2, l3, l4, some (aI x), l6, l7] L2 (aI x :: St) S := ev_go i44_45 rfl
theorem i44_47 : insAt 44 47 = some (.invokevirtual 84, 3, (40, 2, 3, 6), 0) := rfl
theorem s44_47 {c : Nat → List AV → SS → Option Out} {l0 l1 l2 l3 l4 l5 l6 l7 : Option AV} {t0 t1 : AV} {a0 : Int32} {a1 : Int32} {j t : Nat} {L2 : List (Nat × AV)} {S : SS} : ev c 44 47 [l0, l1, l2, l3, l4, l5, l6, l7] L2 [aI a1, aI a0, aR (6, j, t), t0, t1] S = ck (c 40 [aR (6, j, t), aI a0, aI a1] S) (fun v S' => ev c 44 50 [l0, l1, l2, l3, l4, l5, l6, l7] L2 (v.toList ++ [t0, t1]) S') := ev_call i44_47 rfl
theorem i44_50 : insAt 44 50 = some (.invokestatic 87, 3, (45, 2, 1, 0), 0) := rfl
theorem s44_50 {c : Nat → List AV → SS → Option Out} {l0 l1 l2 l3 l4 l5 l6 l7 : Option AV} {t0 : AV} {a0 : Int32} {a1 : Int32} {L2 : List (Nat × AV)} {S : SS} : ev c 44 50 [l0, l1, l2, l3, l4, l5, l6, l7] L2 [aI a1, aI a0, t0] S = ck (c 45 [aI a0, aI a1] S) (fun v S' => ev c 44 53 [l0, l1, l2, l3, l4, l5, l6, l7] L2 (v.toList ++ [t0]) S') := ev_call i44_50 rfl
theorem i44_53 : insAt 44 53 = some (.lor, 1, (0, 0, 0, 0), 0) := rfl
theorem s44_53 {c : Nat → List AV → SS → Option Out} {l0 l1 l2 l3 l4 l5 l6 l7 : Option AV} {x y : Int64} {L2 : List (Nat × AV)} {St : List AV} {S : SS} : ev c 44 53 [l0, l1, l2, l3, l4, l5, l6, l7] L2 (aL y :: aL x :: St) S = ev c 44 54 [l0, l1, l2, l3, l4, l5, l6, l7] L2 (aL (x ||| y) :: St) S := ev_go i44_53 rfl
theorem i44_54 : insAt 44 54 = some (.lstore 6, 2, (0, 0, 0, 0), 0) := rfl
theorem s44_54 {c : Nat → List AV → SS → Option Out} {l0 l1 l2 l3 l4 l5 l6 l7 : Option AV} {x : Int64} {L2 : List (Nat × AV)} {St : List AV} {S : SS} : ev c 44 54 [l0, l1, l2, l3, l4, l5, l6, l7] L2 (aL x :: St) S = ev c 44 56 [l0, l1, l2, l3, l4, l5, none, none] ((6, aL x) :: kil2 L2 6) St S := ev_go i44_54 rfl
theorem i44_56 : insAt 44 56 = some (.aload_n 0, 1, (0, 0, 0, 0), 0) := rfl
theorem s44_56 {c : Nat → List AV → SS → Option Out} {l1 l2 l3 l4 l5 l6 l7 : Option AV} {o : OId} {L2 : List (Nat × AV)} {St : List AV} {S : SS} : ev c 44 56 [some (aR o), l1, l2, l3, l4, l5, l6, l7] L2 St S = ev c 44 57 [some (aR o), l1, l2, l3, l4, l5, l6, l7] L2 (aR o :: St) S := ev_go i44_56 rfl
theorem i44_57 : insAt 44 57 = some (.iload_n 3, 1, (0, 0, 0, 0), 0) := rfl
theorem s44_57 {c : Nat → List AV → SS → Option Out} {l0 l1 l2 l4 l5 l6 l7 : Option AV} {x : Int32} {L2 : List (Nat × AV)} {St : List AV} {S : SS} : ev c 44 57 [l0, l1, l2, some (aI x), l4, l5, l6, l7] L2 St S = ev c 44 58 [l0, l1, l2, some (aI x), l4, l5, l6, l7] L2 (aI x :: St) S := ev_go i44_57 rfl
theorem i44_58 : insAt 44 58 = some (.iconst 1, 1, (0, 0, 0, 0), 0) := rfl
theorem s44_58 {c : Nat → List AV → SS → Option Out} {l0 l1 l2 l3 l4 l5 l6 l7 : Option AV} {L2 : List (Nat × AV)} {St : List AV} {S : SS} : ev c 44 58 [l0, l1, l2, l3, l4, l5, l6, l7] L2 St S = ev c 44 59 [l0, l1, l2, l3, l4, l5, l6, l7] L2 (aI 1 :: St) S := ev_go i44_58 rfl
theorem i44_59 : insAt 44 59 = some (.iadd, 1, (0, 0, 0, 0), 0) := rfl
theorem s44_59 {c : Nat → List AV → SS → Option Out} {l0 l1 l2 l3 l4 l5 l6 l7 : Option AV} {x y : Int32} {L2 : List (Nat × AV)} {St : List AV} {S : SS} : ev c 44 59 [l0, l1, l2, l3, l4, l5, l6, l7] L2 (aI y :: aI x :: St) S = ev c 44 60 [l0, l1, l2, l3, l4, l5, l6, l7] L2 (aI (x + y) :: St) S := ev_go i44_59 rfl
theorem i44_60 : insAt 44 60 = some (.iload 5, 2, (0, 0, 0, 0), 0) := rfl
theorem s44_60 {c : Nat → List AV → SS → Option Out} {l0 l1 l2 l3 l4 l6 l7 : Option AV} {x : Int32} {L2 : List (Nat × AV)} {St : List AV} {S : SS} : ev c 44 60 [l0, l1, l2, l3, l4, some (aI x), l6, l7] L2 St S = ev c 44 62 [l0, l1, l2, l3, l4, some (aI x), l6, l7] L2 (aI x :: St) S := ev_go i44_60 rfl
theorem i44_62 : insAt 44 62 = some (.lload 6, 2, (0, 0, 0, 0), 0) := rfl
theorem s44_62 {c : Nat → List AV → SS → Option Out} {l0 l1 l2 l3 l4 l5 l6 l7 : Option AV} {x : Int64} {L2 : List (Nat × AV)} {St : List AV} {S : SS} (h : ldL L2 6 = some x) : ev c 44 62 [l0, l1, l2, l3, l4, l5, l6, l7] L2 St S = ev c 44 64 [l0, l1, l2, l3, l4, l5, l6, l7] L2 (aL x :: St) S := ev_go i44_62 (by simp only [stepI]; exact (congrArg (fun q => match q with | some x => nx (62 + 2) [l0, l1, l2, l3, l4, l5, l6, l7] L2 (aL x :: St) S | none => none) h))
theorem i44_64 : insAt 44 64 = some (.invokevirtual 90, 3, (47, 3, 2, 9), 0) := rfl
theorem s44_64 {c : Nat → List AV → SS → Option Out} {l0 l1 l2 l3 l4 l5 l6 l7 : Option AV} {a0 : Int32} {a1 : Int32} {a2 : Int64} {j t : Nat} {L2 : List (Nat × AV)} {S : SS} : ev c 44 64 [l0, l1, l2, l3, l4, l5, l6, l7] L2 [aL a2, aI a1, aI a0, aR (9, j, t)] S = ck (c 47 [aR (9, j, t), aI a0, aI a1, aL a2] S) (fun v S' => ev c 44 67 [l0, l1, l2, l3, l4, l5, l6, l7] L2 (v.toList ++ []) S') := ev_call i44_64 rfl
theorem i44_67 : insAt 44 67 = some (.iinc 5 1, 3, (0, 0, 0, 0), 0) := rfl
theorem s44_67 {c : Nat → List AV → SS → Option Out} {l0 l1 l2 l3 l4 l6 l7 : Option AV} {x : Int32} {L2 : List (Nat × AV)} {St : List AV} {S : SS} : ev c 44 67 [l0, l1, l2, l3, l4, some (aI x), l6, l7] L2 St S = ev c 44 70 [l0, l1, l2, l3, l4, some (aI (x + 1)), l6, l7] (kil L2 5) St S := ev_go i44_67 rfl
theorem i44_70 : insAt 44 70 = some (.goto (-67), 3, (0, 0, 0, 0), 0) := rfl
theorem s44_70 {c : Nat → List AV → SS → Option Out} {l0 l1 l2 l3 l4 l5 l6 l7 : Option AV} {L2 : List (Nat × AV)} {St : List AV} {S : SS} : ev c 44 70 [l0, l1, l2, l3, l4, l5, l6, l7] L2 St S = ev c 44 3 [l0, l1, l2, l3, l4, l5, l6, l7] L2 St S := ev_go i44_70 rfl
theorem i44_73 : insAt 44 73 = some (.return_, 1, (0, 0, 0, 0), 0) := rfl
theorem s44_73 {c : Nat → List AV → SS → Option Out} {l0 l1 l2 l3 l4 l5 l6 l7 : Option AV} {L2 : List (Nat × AV)} {St : List AV} {S : SS} : ev c 44 73 [l0, l1, l2, l3, l4, l5, l6, l7] L2 [] S = some (.inl none, S) := ev_end i44_73 rfl
theorem m44 {d : Nat} {o : OId} {a0 : Int32} {a1 : Int32} {a2 : Int32} {a3 : Int32} {S : SS} : evm (d + 1) 44 [aR o, aI a0, aI a1, aI a2, aI a3] S = ev (evm d) 44 0 [some (aR o), some (aI a0), some (aI a1), some (aI a2), some (aI a3), none, none, none] [] [] S := evm_s (n := 8) rfl (Nat.le_of_ble_eq_true rfl) rfl rfl
/-! FrequencyOffice$Spans.putShut(IIJ)V -/
theorem i47_0 : insAt 47 0 = some (.iload_n 1, 1, (0, 0, 0, 0), 0) := rfl
theorem s47_0 {c : Nat → List AV → SS → Option Out} {l0 l2 l3 l4 l5 : Option AV} {x : Int32} {L2 : List (Nat × AV)} {St : List AV} {S : SS} : ev c 47 0 [l0, some (aI x), l2, l3, l4, l5] L2 St S = ev c 47 1 [l0, some (aI x), l2, l3, l4, l5] L2 (aI x :: St) S := ev_go i47_0 rfl
theorem i47_1 : insAt 47 1 = some (.iload_n 2, 1, (0, 0, 0, 0), 0) := rfl
theorem s47_1 {c : Nat → List AV → SS → Option Out} {l0 l1 l3 l4 l5 : Option AV} {x : Int32} {L2 : List (Nat × AV)} {St : List AV} {S : SS} : ev c 47 1 [l0, l1, some (aI x), l3, l4, l5] L2 St S = ev c 47 2 [l0, l1, some (aI x), l3, l4, l5] L2 (aI x :: St) S := ev_go i47_1 rfl
theorem i47_2 : insAt 47 2 = some (.invokestatic 94, 3, (31, 2, 1, 0), 0) := rfl
theorem s47_2 {c : Nat → List AV → SS → Option Out} {l0 l1 l2 l3 l4 l5 : Option AV} {a0 : Int32} {a1 : Int32} {L2 : List (Nat × AV)} {S : SS} : ev c 47 2 [l0, l1, l2, l3, l4, l5] L2 [aI a1, aI a0] S = ck (c 31 [aI a0, aI a1] S) (fun v S' => ev c 47 5 [l0, l1, l2, l3, l4, l5] L2 (v.toList ++ []) S') := ev_call i47_2 rfl
theorem i47_5 : insAt 47 5 = some (.istore 5, 2, (0, 0, 0, 0), 0) := rfl
theorem s47_5 {c : Nat → List AV → SS → Option Out} {l0 l1 l2 l3 l4 l5 : Option AV} {x : Int32} {L2 : List (Nat × AV)} {St : List AV} {S : SS} : ev c 47 5 [l0, l1, l2, l3, l4, l5] L2 (aI x :: St) S = ev c 47 7 [l0, l1, l2, l3, l4, some (aI x)] (kil L2 5) St S := ev_go i47_5 rfl
theorem i47_7 : insAt 47 7 = some (.iload 5, 2, (0, 0, 0, 0), 0) := rfl
theorem s47_7 {c : Nat → List AV → SS → Option Out} {l0 l1 l2 l3 l4 : Option AV} {x : Int32} {L2 : List (Nat × AV)} {St : List AV} {S : SS} : ev c 47 7 [l0, l1, l2, l3, l4, some (aI x)] L2 St S = ev c 47 9 [l0, l1, l2, l3, l4, some (aI x)] L2 (aI x :: St) S := ev_go i47_7 rfl
theorem i47_9 : insAt 47 9 = some (.ifCond .lt 21, 3, (0, 0, 0, 0), 0) := rfl
theorem s47_9 {c : Nat → List AV → SS → Option Out} {l0 l1 l2 l3 l4 l5 : Option AV} {x : Int32} {L2 : List (Nat × AV)} {St : List AV} {S : SS} : ev c 47 9 [l0, l1, l2, l3, l4, l5] L2 (aI x :: St) S = if x < 0 then ev c 47 30 [l0, l1, l2, l3, l4, l5] L2 St S else ev c 47 12 [l0, l1, l2, l3, l4, l5] L2 St S := ev_br i47_9 rfl
theorem i47_12 : insAt 47 12 = some (.iload 5, 2, (0, 0, 0, 0), 0) := rfl
theorem s47_12 {c : Nat → List AV → SS → Option Out} {l0 l1 l2 l3 l4 : Option AV} {x : Int32} {L2 : List (Nat × AV)} {St : List AV} {S : SS} : ev c 47 12 [l0, l1, l2, l3, l4, some (aI x)] L2 St S = ev c 47 14 [l0, l1, l2, l3, l4, some (aI x)] L2 (aI x :: St) S := ev_go i47_12 rfl
theorem i47_14 : insAt 47 14 = some (.aload_n 0, 1, (0, 0, 0, 0), 0) := rfl
theorem s47_14 {c : Nat → List AV → SS → Option Out} {l1 l2 l3 l4 l5 : Option AV} {o : OId} {L2 : List (Nat × AV)} {St : List AV} {S : SS} : ev c 47 14 [some (aR o), l1, l2, l3, l4, l5] L2 St S = ev c 47 15 [some (aR o), l1, l2, l3, l4, l5] L2 (aR o :: St) S := ev_go i47_14 rfl
theorem i47_15 : insAt 47 15 = some (.getfield 15, 3, (9, 2, 0, 0), 0) := rfl
theorem s47_15 {c : Nat → List AV → SS → Option Out} {l0 l1 l2 l3 l4 l5 : Option AV} {j t : Nat} {L2 : List (Nat × AV)} {St : List AV} {S : SS} : ev c 47 15 [l0, l1, l2, l3, l4, l5] L2 (aR (9, j, t) :: St) S = ev c 47 18 [l0, l1, l2, l3, l4, l5] L2 (S.2.2.1 (9, j, t) 2 :: St) S := ev_go i47_15 rfl
theorem i47_18 : insAt 47 18 = some (.arraylength, 1, (0, 0, 0, 0), 0) := rfl
theorem s47_18 {c : Nat → List AV → SS → Option Out} {l0 l1 l2 l3 l4 l5 : Option AV} {o : OId} {L2 : List (Nat × AV)} {St : List AV} {S : SS} : ev c 47 18 [l0, l1, l2, l3, l4, l5] L2 (aR o :: St) S = kN o (fun x => ev c 47 19 [l0, l1, l2, l3, l4, l5] L2 (aI x :: St) S) := ev_alen i47_18
theorem i47_19 : insAt 47 19 = some (.if_icmp .ge 11, 3, (0, 0, 0, 0), 0) := rfl
theorem s47_19 {c : Nat → List AV → SS → Option Out} {l0 l1 l2 l3 l4 l5 : Option AV} {x y : Int32} {L2 : List (Nat × AV)} {St : List AV} {S : SS} : ev c 47 19 [l0, l1, l2, l3, l4, l5] L2 (aI y :: aI x :: St) S = if y ≤ x then ev c 47 30 [l0, l1, l2, l3, l4, l5] L2 St S else ev c 47 22 [l0, l1, l2, l3, l4, l5] L2 St S := ev_br i47_19 rfl
theorem i47_22 : insAt 47 22 = some (.aload_n 0, 1, (0, 0, 0, 0), 0) := rfl
theorem s47_22 {c : Nat → List AV → SS → Option Out} {l1 l2 l3 l4 l5 : Option AV} {o : OId} {L2 : List (Nat × AV)} {St : List AV} {S : SS} : ev c 47 22 [some (aR o), l1, l2, l3, l4, l5] L2 St S = ev c 47 23 [some (aR o), l1, l2, l3, l4, l5] L2 (aR o :: St) S := ev_go i47_22 rfl
theorem i47_23 : insAt 47 23 = some (.getfield 15, 3, (9, 2, 0, 0), 0) := rfl
theorem s47_23 {c : Nat → List AV → SS → Option Out} {l0 l1 l2 l3 l4 l5 : Option AV} {j t : Nat} {L2 : List (Nat × AV)} {St : List AV} {S : SS} : ev c 47 23 [l0, l1, l2, l3, l4, l5] L2 (aR (9, j, t) :: St) S = ev c 47 26 [l0, l1, l2, l3, l4, l5] L2 (S.2.2.1 (9, j, t) 2 :: St) S := ev_go i47_23 rfl
theorem i47_26 : insAt 47 26 = some (.iload 5, 2, (0, 0, 0, 0), 0) := rfl
theorem s47_26 {c : Nat → List AV → SS → Option Out} {l0 l1 l2 l3 l4 : Option AV} {x : Int32} {L2 : List (Nat × AV)} {St : List AV} {S : SS} : ev c 47 26 [l0, l1, l2, l3, l4, some (aI x)] L2 St S = ev c 47 28 [l0, l1, l2, l3, l4, some (aI x)] L2 (aI x :: St) S := ev_go i47_26 rfl
theorem i47_28 : insAt 47 28 = some (.lload_n 3, 1, (0, 0, 0, 0), 0) := rfl
theorem s47_28 {c : Nat → List AV → SS → Option Out} {l0 l1 l2 l3 l4 l5 : Option AV} {x : Int64} {L2 : List (Nat × AV)} {St : List AV} {S : SS} (h : ldL L2 3 = some x) : ev c 47 28 [l0, l1, l2, l3, l4, l5] L2 St S = ev c 47 29 [l0, l1, l2, l3, l4, l5] L2 (aL x :: St) S := ev_go i47_28 (by simp only [stepI]; exact (congrArg (fun q => match q with | some x => nx (28 + 1) [l0, l1, l2, l3, l4, l5] L2 (aL x :: St) S | none => none) h))
theorem i47_29 : insAt 47 29 = some (.lastore, 1, (0, 0, 0, 0), 0) := rfl
theorem s47_29 {c : Nat → List AV → SS → Option Out} {l0 l1 l2 l3 l4 l5 : Option AV} {x : Int64} {i : Int32} {o : OId} {L2 : List (Nat × AV)} {St : List AV} {S : SS} : ev c 47 29 [l0, l1, l2, l3, l4, l5] L2 (aL x :: aI i :: aR o :: St) S = kJ o i (ev c 47 30 [l0, l1, l2, l3, l4, l5] L2 St (S.1, setV S.2.1 o i.toNatClampNeg (aL x), S.2.2)) := ev_lastore i47_29
theorem i47_30 : insAt 47 30 = some (.return_, 1, (0, 0, 0, 0), 0) := rfl
theorem s47_30 {c : Nat → List AV → SS → Option Out} {l0 l1 l2 l3 l4 l5 : Option AV} {L2 : List (Nat × AV)} {St : List AV} {S : SS} : ev c 47 30 [l0, l1, l2, l3, l4, l5] L2 [] S = some (.inl none, S) := ev_end i47_30 rfl
theorem m47 {d : Nat} {o : OId} {a0 : Int32} {a1 : Int32} {a2 : Int64} {S : SS} : evm (d + 1) 47 [aR o, aI a0, aI a1, aL a2] S = ev (evm d) 47 0 [some (aR o), some (aI a0), some (aI a1), none, none, none] [(3, aL a2)] [] S := evm_s (n := 6) rfl (Nat.le_of_ble_eq_true rfl) rfl rfl
/-! FrequencyOffice$Spans.leastByOrders()I -/
theorem i49_0 : insAt 49 0 = some (.aload_n 0, 1, (0, 0, 0, 0), 0) := rfl
theorem s49_0 {c : Nat → List AV → SS → Option Out} {o : OId} {L2 : List (Nat × AV)} {St : List AV} {S : SS} : ev c 49 0 [some (aR o)] L2 St S = ev c 49 1 [some (aR o)] L2 (aR o :: St) S := ev_go i49_0 rfl
theorem i49_1 : insAt 49 1 = some (.iconst 0, 1, (0, 0, 0, 0), 0) := rfl
theorem s49_1 {c : Nat → List AV → SS → Option Out} {l0 : Option AV} {L2 : List (Nat × AV)} {St : List AV} {S : SS} : ev c 49 1 [l0] L2 St S = ev c 49 2 [l0] L2 (aI 0 :: St) S := ev_go i49_1 rfl
theorem i49_2 : insAt 49 2 = some (.iconst 0, 1, (0, 0, 0, 0), 0) := rfl
theorem s49_2 {c : Nat → List AV → SS → Option Out} {l0 : Option AV} {L2 : List (Nat × AV)} {St : List AV} {S : SS} : ev c 49 2 [l0] L2 St S = ev c 49 3 [l0] L2 (aI 0 :: St) S := ev_go i49_2 rfl
theorem i49_3 : insAt 49 3 = some (.iconst 0, 1, (0, 0, 0, 0), 0) := rfl
theorem s49_3 {c : Nat → List AV → SS → Option Out} {l0 : Option AV} {L2 : List (Nat × AV)} {St : List AV} {S : SS} : ev c 49 3 [l0] L2 St S = ev c 49 4 [l0] L2 (aI 0 :: St) S := ev_go i49_3 rfl
theorem i49_4 : insAt 49 4 = some (.invokestatic 60, 3, (50, 4, 0, 0), 0) := rfl
theorem s49_4 {c : Nat → List AV → SS → Option Out} {l0 : Option AV} {a0 : OId} {a1 : Int32} {a2 : Int32} {a3 : Int32} {L2 : List (Nat × AV)} {S : SS} : ev c 49 4 [l0] L2 [aI a3, aI a2, aI a1, aR a0] S = ck (c 50 [aR a0, aI a1, aI a2, aI a3] S) (fun v S' => ev c 49 7 [l0] L2 (v.toList ++ []) S') := ev_call i49_4 rfl
theorem i49_7 : insAt 49 7 = some (.ireturn, 1, (0, 0, 0, 0), 0) := rfl
theorem s49_7 {c : Nat → List AV → SS → Option Out} {l0 : Option AV} {x : Int32} {L2 : List (Nat × AV)} {St : List AV} {S : SS} : ev c 49 7 [l0] L2 [aI x] S = some (.inl (some (aI x)), S) := ev_end i49_7 rfl
theorem m49 {d : Nat} {o : OId} {S : SS} : evm (d + 1) 49 [aR o] S = ev (evm d) 49 0 [some (aR o)] [] [] S := evm_s (n := 1) rfl (Nat.le_of_ble_eq_true rfl) rfl rfl
/-! FrequencyOffice$Spans.leastFrom(LFrequencyOffice$Spans;III)I -/
theorem i50_0 : insAt 50 0 = some (.iload_n 1, 1, (0, 0, 0, 0), 0) := rfl
theorem s50_0 {c : Nat → List AV → SS → Option Out} {l0 l2 l3 l4 l5 l6 l7 : Option AV} {x : Int32} {L2 : List (Nat × AV)} {St : List AV} {S : SS} : ev c 50 0 [l0, some (aI x), l2, l3, l4, l5, l6, l7] L2 St S = ev c 50 1 [l0, some (aI x), l2, l3, l4, l5, l6, l7] L2 (aI x :: St) S := ev_go i50_0 rfl
theorem i50_1 : insAt 50 1 = some (.aload_n 0, 1, (0, 0, 0, 0), 0) := rfl
theorem s50_1 {c : Nat → List AV → SS → Option Out} {l1 l2 l3 l4 l5 l6 l7 : Option AV} {o : OId} {L2 : List (Nat × AV)} {St : List AV} {S : SS} : ev c 50 1 [some (aR o), l1, l2, l3, l4, l5, l6, l7] L2 St S = ev c 50 2 [some (aR o), l1, l2, l3, l4, l5, l6, l7] L2 (aR o :: St) S := ev_go i50_1 rfl
theorem i50_2 : insAt 50 2 = some (.getfield 19, 3, (9, 0, 0, 0), 0) := rfl
theorem s50_2 {c : Nat → List AV → SS → Option Out} {l0 l1 l2 l3 l4 l5 l6 l7 : Option AV} {j t : Nat} {L2 : List (Nat × AV)} {St : List AV} {S : SS} : ev c 50 2 [l0, l1, l2, l3, l4, l5, l6, l7] L2 (aR (9, j, t) :: St) S = ev c 50 5 [l0, l1, l2, l3, l4, l5, l6, l7] L2 (S.2.2.1 (9, j, t) 0 :: St) S := ev_go i50_2 rfl
theorem i50_5 : insAt 50 5 = some (.getfield 30, 3, (6, 0, 1, 0), 0) := rfl
theorem s50_5 {c : Nat → List AV → SS → Option Out} {l0 l1 l2 l3 l4 l5 l6 l7 : Option AV} {j t : Nat} {L2 : List (Nat × AV)} {St : List AV} {S : SS} : ev c 50 5 [l0, l1, l2, l3, l4, l5, l6, l7] L2 (aR (6, j, t) :: St) S = ev c 50 8 [l0, l1, l2, l3, l4, l5, l6, l7] L2 (aI (S.1 (6, j, t) 0) :: St) S := ev_go i50_5 rfl
theorem i50_8 : insAt 50 8 = some (.if_icmp .lt 5, 3, (0, 0, 0, 0), 0) := rfl
theorem s50_8 {c : Nat → List AV → SS → Option Out} {l0 l1 l2 l3 l4 l5 l6 l7 : Option AV} {x y : Int32} {L2 : List (Nat × AV)} {St : List AV} {S : SS} : ev c 50 8 [l0, l1, l2, l3, l4, l5, l6, l7] L2 (aI y :: aI x :: St) S = if x < y then ev c 50 13 [l0, l1, l2, l3, l4, l5, l6, l7] L2 St S else ev c 50 11 [l0, l1, l2, l3, l4, l5, l6, l7] L2 St S := ev_br i50_8 rfl
theorem i50_11 : insAt 50 11 = some (.iload_n 3, 1, (0, 0, 0, 0), 0) := rfl
theorem s50_11 {c : Nat → List AV → SS → Option Out} {l0 l1 l2 l4 l5 l6 l7 : Option AV} {x : Int32} {L2 : List (Nat × AV)} {St : List AV} {S : SS} : ev c 50 11 [l0, l1, l2, some (aI x), l4, l5, l6, l7] L2 St S = ev c 50 12 [l0, l1, l2, some (aI x), l4, l5, l6, l7] L2 (aI x :: St) S := ev_go i50_11 rfl
theorem i50_12 : insAt 50 12 = some (.ireturn, 1, (0, 0, 0, 0), 0) := rfl
theorem s50_12 {c : Nat → List AV → SS → Option Out} {l0 l1 l2 l3 l4 l5 l6 l7 : Option AV} {x : Int32} {L2 : List (Nat × AV)} {St : List AV} {S : SS} : ev c 50 12 [l0, l1, l2, l3, l4, l5, l6, l7] L2 [aI x] S = some (.inl (some (aI x)), S) := ev_end i50_12 rfl
theorem i50_13 : insAt 50 13 = some (.bipush 56, 2, (0, 0, 0, 0), 0) := rfl
theorem s50_13 {c : Nat → List AV → SS → Option Out} {l0 l1 l2 l3 l4 l5 l6 l7 : Option AV} {L2 : List (Nat × AV)} {St : List AV} {S : SS} : ev c 50 13 [l0, l1, l2, l3, l4, l5, l6, l7] L2 St S = ev c 50 15 [l0, l1, l2, l3, l4, l5, l6, l7] L2 (aI 56 :: St) S := ev_go i50_13 rfl
theorem i50_15 : insAt 50 15 = some (.istore 4, 2, (0, 0, 0, 0), 0) := rfl
theorem s50_15 {c : Nat → List AV → SS → Option Out} {l0 l1 l2 l3 l4 l5 l6 l7 : Option AV} {x : Int32} {L2 : List (Nat × AV)} {St : List AV} {S : SS} : ev c 50 15 [l0, l1, l2, l3, l4, l5, l6, l7] L2 (aI x :: St) S = ev c 50 17 [l0, l1, l2, l3, some (aI x), l5, l6, l7] (kil L2 4) St S := ev_go i50_15 rfl
theorem i50_17 : insAt 50 17 = some (.iconst 0, 1, (0, 0, 0, 0), 0) := rfl
theorem s50_17 {c : Nat → List AV → SS → Option Out} {l0 l1 l2 l3 l4 l5 l6 l7 : Option AV} {L2 : List (Nat × AV)} {St : List AV} {S : SS} : ev c 50 17 [l0, l1, l2, l3, l4, l5, l6, l7] L2 St S = ev c 50 18 [l0, l1, l2, l3, l4, l5, l6, l7] L2 (aI 0 :: St) S := ev_go i50_17 rfl
theorem i50_18 : insAt 50 18 = some (.istore 5, 2, (0, 0, 0, 0), 0) := rfl
theorem s50_18 {c : Nat → List AV → SS → Option Out} {l0 l1 l2 l3 l4 l5 l6 l7 : Option AV} {x : Int32} {L2 : List (Nat × AV)} {St : List AV} {S : SS} : ev c 50 18 [l0, l1, l2, l3, l4, l5, l6, l7] L2 (aI x :: St) S = ev c 50 20 [l0, l1, l2, l3, l4, some (aI x), l6, l7] (kil L2 5) St S := ev_go i50_18 rfl
theorem i50_20 : insAt 50 20 = some (.iload 5, 2, (0, 0, 0, 0), 0) := rfl
theorem s50_20 {c : Nat → List AV → SS → Option Out} {l0 l1 l2 l3 l4 l6 l7 : Option AV} {x : Int32} {L2 : List (Nat × AV)} {St : List AV} {S : SS} : ev c 50 20 [l0, l1, l2, l3, l4, some (aI x), l6, l7] L2 St S = ev c 50 22 [l0, l1, l2, l3, l4, some (aI x), l6, l7] L2 (aI x :: St) S := ev_go i50_20 rfl
theorem i50_22 : insAt 50 22 = some (.aload_n 0, 1, (0, 0, 0, 0), 0) := rfl
theorem s50_22 {c : Nat → List AV → SS → Option Out} {l1 l2 l3 l4 l5 l6 l7 : Option AV} {o : OId} {L2 : List (Nat × AV)} {St : List AV} {S : SS} : ev c 50 22 [some (aR o), l1, l2, l3, l4, l5, l6, l7] L2 St S = ev c 50 23 [some (aR o), l1, l2, l3, l4, l5, l6, l7] L2 (aR o :: St) S := ev_go i50_22 rfl
theorem i50_23 : insAt 50 23 = some (.getfield 19, 3, (9, 0, 0, 0), 0) := rfl
theorem s50_23 {c : Nat → List AV → SS → Option Out} {l0 l1 l2 l3 l4 l5 l6 l7 : Option AV} {j t : Nat} {L2 : List (Nat × AV)} {St : List AV} {S : SS} : ev c 50 23 [l0, l1, l2, l3, l4, l5, l6, l7] L2 (aR (9, j, t) :: St) S = ev c 50 26 [l0, l1, l2, l3, l4, l5, l6, l7] L2 (S.2.2.1 (9, j, t) 0 :: St) S := ev_go i50_23 rfl
theorem i50_26 : insAt 50 26 = some (.getfield 30, 3, (6, 0, 1, 0), 0) := rfl
theorem s50_26 {c : Nat → List AV → SS → Option Out} {l0 l1 l2 l3 l4 l5 l6 l7 : Option AV} {j t : Nat} {L2 : List (Nat × AV)} {St : List AV} {S : SS} : ev c 50 26 [l0, l1, l2, l3, l4, l5, l6, l7] L2 (aR (6, j, t) :: St) S = ev c 50 29 [l0, l1, l2, l3, l4, l5, l6, l7] L2 (aI (S.1 (6, j, t) 0) :: St) S := ev_go i50_26 rfl
theorem i50_29 : insAt 50 29 = some (.if_icmp .ge 73, 3, (0, 0, 0, 0), 0) := rfl
theorem s50_29 {c : Nat → List AV → SS → Option Out} {l0 l1 l2 l3 l4 l5 l6 l7 : Option AV} {x y : Int32} {L2 : List (Nat × AV)} {St : List AV} {S : SS} : ev c 50 29 [l0, l1, l2, l3, l4, l5, l6, l7] L2 (aI y :: aI x :: St) S = if y ≤ x then ev c 50 102 [l0, l1, l2, l3, l4, l5, l6, l7] L2 St S else ev c 50 32 [l0, l1, l2, l3, l4, l5, l6, l7] L2 St S := ev_br i50_29 rfl
theorem i50_32 : insAt 50 32 = some (.iload_n 2, 1, (0, 0, 0, 0), 0) := rfl
theorem s50_32 {c : Nat → List AV → SS → Option Out} {l0 l1 l3 l4 l5 l6 l7 : Option AV} {x : Int32} {L2 : List (Nat × AV)} {St : List AV} {S : SS} : ev c 50 32 [l0, l1, some (aI x), l3, l4, l5, l6, l7] L2 St S = ev c 50 33 [l0, l1, some (aI x), l3, l4, l5, l6, l7] L2 (aI x :: St) S := ev_go i50_32 rfl
theorem i50_33 : insAt 50 33 = some (.i2l, 1, (0, 0, 0, 0), 0) := rfl
theorem s50_33 {c : Nat → List AV → SS → Option Out} {l0 l1 l2 l3 l4 l5 l6 l7 : Option AV} {x : Int32} {L2 : List (Nat × AV)} {St : List AV} {S : SS} : ev c 50 33 [l0, l1, l2, l3, l4, l5, l6, l7] L2 (aI x :: St) S = ev c 50 34 [l0, l1, l2, l3, l4, l5, l6, l7] L2 (aL x.toInt64 :: St) S := ev_go i50_33 rfl
theorem i50_34 : insAt 50 34 = some (.iload 5, 2, (0, 0, 0, 0), 0) := rfl
theorem s50_34 {c : Nat → List AV → SS → Option Out} {l0 l1 l2 l3 l4 l6 l7 : Option AV} {x : Int32} {L2 : List (Nat × AV)} {St : List AV} {S : SS} : ev c 50 34 [l0, l1, l2, l3, l4, some (aI x), l6, l7] L2 St S = ev c 50 36 [l0, l1, l2, l3, l4, some (aI x), l6, l7] L2 (aI x :: St) S := ev_go i50_34 rfl
theorem i50_36 : insAt 50 36 = some (.invokestatic 52, 3, (43, 2, 1, 0), 0) := rfl
theorem s50_36 {c : Nat → List AV → SS → Option Out} {l0 l1 l2 l3 l4 l5 l6 l7 : Option AV} {a0 : Int64} {a1 : Int32} {L2 : List (Nat × AV)} {S : SS} : ev c 50 36 [l0, l1, l2, l3, l4, l5, l6, l7] L2 [aI a1, aL a0] S = ck (c 43 [aL a0, aI a1] S) (fun v S' => ev c 50 39 [l0, l1, l2, l3, l4, l5, l6, l7] L2 (v.toList ++ []) S') := ev_call i50_36 rfl
theorem i50_39 : insAt 50 39 = some (.ifCond .ne 57, 3, (0, 0, 0, 0), 0) := rfl
theorem s50_39 {c : Nat → List AV → SS → Option Out} {l0 l1 l2 l3 l4 l5 l6 l7 : Option AV} {x : Int32} {L2 : List (Nat × AV)} {St : List AV} {S : SS} : ev c 50 39 [l0, l1, l2, l3, l4, l5, l6, l7] L2 (aI x :: St) S = if x = 0 then ev c 50 42 [l0, l1, l2, l3, l4, l5, l6, l7] L2 St S else ev c 50 96 [l0, l1, l2, l3, l4, l5, l6, l7] L2 St S := (ev_br i50_39 rfl).trans (ite_not _ _ _)
theorem i50_42 : insAt 50 42 = some (.aload_n 0, 1, (0, 0, 0, 0), 0) := rfl
theorem s50_42 {c : Nat → List AV → SS → Option Out} {l1 l2 l3 l4 l5 l6 l7 : Option AV} {o : OId} {L2 : List (Nat × AV)} {St : List AV} {S : SS} : ev c 50 42 [some (aR o), l1, l2, l3, l4, l5, l6, l7] L2 St S = ev c 50 43 [some (aR o), l1, l2, l3, l4, l5, l6, l7] L2 (aR o :: St) S := ev_go i50_42 rfl
theorem i50_43 : insAt 50 43 = some (.iload_n 1, 1, (0, 0, 0, 0), 0) := rfl
theorem s50_43 {c : Nat → List AV → SS → Option Out} {l0 l2 l3 l4 l5 l6 l7 : Option AV} {x : Int32} {L2 : List (Nat × AV)} {St : List AV} {S : SS} : ev c 50 43 [l0, some (aI x), l2, l3, l4, l5, l6, l7] L2 St S = ev c 50 44 [l0, some (aI x), l2, l3, l4, l5, l6, l7] L2 (aI x :: St) S := ev_go i50_43 rfl
theorem i50_44 : insAt 50 44 = some (.iload 5, 2, (0, 0, 0, 0), 0) := rfl
theorem s50_44 {c : Nat → List AV → SS → Option Out} {l0 l1 l2 l3 l4 l6 l7 : Option AV} {x : Int32} {L2 : List (Nat × AV)} {St : List AV} {S : SS} : ev c 50 44 [l0, l1, l2, l3, l4, some (aI x), l6, l7] L2 St S = ev c 50 46 [l0, l1, l2, l3, l4, some (aI x), l6, l7] L2 (aI x :: St) S := ev_go i50_44 rfl
theorem i50_46 : insAt 50 46 = some (.invokevirtual 48, 3, (42, 2, 2, 9), 0) := rfl
theorem s50_46 {c : Nat → List AV → SS → Option Out} {l0 l1 l2 l3 l4 l5 l6 l7 : Option AV} {a0 : Int32} {a1 : Int32} {j t : Nat} {L2 : List (Nat × AV)} {S : SS} : ev c 50 46 [l0, l1, l2, l3, l4, l5, l6, l7] L2 [aI a1, aI a0, aR (9, j, t)] S = ck (c 42 [aR (9, j, t), aI a0, aI a1] S) (fun v S' => ev c 50 49 [l0, l1, l2, l3, l4, l5, l6, l7] L2 (v.toList ++ []) S') := ev_call i50_46 rfl
theorem i50_49 : insAt 50 49 = some (.invokestatic 64, 3, (51, 1, 0, 0), 0) := rfl
theorem s50_49 {c : Nat → List AV → SS → Option Out} {l0 l1 l2 l3 l4 l5 l6 l7 : Option AV} {a0 : Int64} {L2 : List (Nat × AV)} {S : SS} : ev c 50 49 [l0, l1, l2, l3, l4, l5, l6, l7] L2 [aL a0] S = ck (c 51 [aL a0] S) (fun v S' => ev c 50 52 [l0, l1, l2, l3, l4, l5, l6, l7] L2 (v.toList ++ []) S') := ev_call i50_49 rfl
theorem i50_52 : insAt 50 52 = some (.istore 6, 2, (0, 0, 0, 0), 0) := rfl
theorem s50_52 {c : Nat → List AV → SS → Option Out} {l0 l1 l2 l3 l4 l5 l6 l7 : Option AV} {x : Int32} {L2 : List (Nat × AV)} {St : List AV} {S : SS} : ev c 50 52 [l0, l1, l2, l3, l4, l5, l6, l7] L2 (aI x :: St) S = ev c 50 54 [l0, l1, l2, l3, l4, l5, some (aI x), l7] (kil L2 6) St S := ev_go i50_52 rfl
theorem i50_54 : insAt 50 54 = some (.aload_n 0, 1, (0, 0, 0, 0), 0) := rfl
theorem s50_54 {c : Nat → List AV → SS → Option Out} {l1 l2 l3 l4 l5 l6 l7 : Option AV} {o : OId} {L2 : List (Nat × AV)} {St : List AV} {S : SS} : ev c 50 54 [some (aR o), l1, l2, l3, l4, l5, l6, l7] L2 St S = ev c 50 55 [some (aR o), l1, l2, l3, l4, l5, l6, l7] L2 (aR o :: St) S := ev_go i50_54 rfl
theorem i50_55 : insAt 50 55 = some (.iload 5, 2, (0, 0, 0, 0), 0) := rfl
theorem s50_55 {c : Nat → List AV → SS → Option Out} {l0 l1 l2 l3 l4 l6 l7 : Option AV} {x : Int32} {L2 : List (Nat × AV)} {St : List AV} {S : SS} : ev c 50 55 [l0, l1, l2, l3, l4, some (aI x), l6, l7] L2 St S = ev c 50 57 [l0, l1, l2, l3, l4, some (aI x), l6, l7] L2 (aI x :: St) S := ev_go i50_55 rfl
theorem i50_57 : insAt 50 57 = some (.iload 6, 2, (0, 0, 0, 0), 0) := rfl
theorem s50_57 {c : Nat → List AV → SS → Option Out} {l0 l1 l2 l3 l4 l5 l7 : Option AV} {x : Int32} {L2 : List (Nat × AV)} {St : List AV} {S : SS} : ev c 50 57 [l0, l1, l2, l3, l4, l5, some (aI x), l7] L2 St S = ev c 50 59 [l0, l1, l2, l3, l4, l5, some (aI x), l7] L2 (aI x :: St) S := ev_go i50_57 rfl
theorem i50_59 : insAt 50 59 = some (.iload_n 1, 1, (0, 0, 0, 0), 0) := rfl
theorem s50_59 {c : Nat → List AV → SS → Option Out} {l0 l2 l3 l4 l5 l6 l7 : Option AV} {x : Int32} {L2 : List (Nat × AV)} {St : List AV} {S : SS} : ev c 50 59 [l0, some (aI x), l2, l3, l4, l5, l6, l7] L2 St S = ev c 50 60 [l0, some (aI x), l2, l3, l4, l5, l6, l7] L2 (aI x :: St) S := ev_go i50_59 rfl
theorem i50_60 : insAt 50 60 = some (.iload_n 2, 1, (0, 0, 0, 0), 0) := rfl
theorem s50_60 {c : Nat → List AV → SS → Option Out} {l0 l1 l3 l4 l5 l6 l7 : Option AV} {x : Int32} {L2 : List (Nat × AV)} {St : List AV} {S : SS} : ev c 50 60 [l0, l1, some (aI x), l3, l4, l5, l6, l7] L2 St S = ev c 50 61 [l0, l1, some (aI x), l3, l4, l5, l6, l7] L2 (aI x :: St) S := ev_go i50_60 rfl
theorem i50_61 : insAt 50 61 = some (.invokevirtual 56, 3, (44, 4, 2, 9), 0) := rfl
theorem s50_61 {c : Nat → List AV → SS → Option Out} {l0 l1 l2 l3 l4 l5 l6 l7 : Option AV} {a0 : Int32} {a1 : Int32} {a2 : Int32} {a3 : Int32} {j t : Nat} {L2 : List (Nat × AV)} {S : SS} : ev c 50 61 [l0, l1, l2, l3, l4, l5, l6, l7] L2 [aI a3, aI a2, aI a1, aI a0, aR (9, j, t)] S = ck (c 44 [aR (9, j, t), aI a0, aI a1, aI a2, aI a3] S) (fun v S' => ev c 50 64 [l0, l1, l2, l3, l4, l5, l6, l7] L2 (v.toList ++ []) S') := ev_call i50_61 rfl
theorem i50_64 : insAt 50 64 = some (.iload_n 3, 1, (0, 0, 0, 0), 0) := rfl
theorem s50_64 {c : Nat → List AV → SS → Option Out} {l0 l1 l2 l4 l5 l6 l7 : Option AV} {x : Int32} {L2 : List (Nat × AV)} {St : List AV} {S : SS} : ev c 50 64 [l0, l1, l2, some (aI x), l4, l5, l6, l7] L2 St S = ev c 50 65 [l0, l1, l2, some (aI x), l4, l5, l6, l7] L2 (aI x :: St) S := ev_go i50_64 rfl
theorem i50_65 : insAt 50 65 = some (.iload 6, 2, (0, 0, 0, 0), 0) := rfl
theorem s50_65 {c : Nat → List AV → SS → Option Out} {l0 l1 l2 l3 l4 l5 l7 : Option AV} {x : Int32} {L2 : List (Nat × AV)} {St : List AV} {S : SS} : ev c 50 65 [l0, l1, l2, l3, l4, l5, some (aI x), l7] L2 St S = ev c 50 67 [l0, l1, l2, l3, l4, l5, some (aI x), l7] L2 (aI x :: St) S := ev_go i50_65 rfl
theorem i50_67 : insAt 50 67 = some (.iconst 1, 1, (0, 0, 0, 0), 0) := rfl
theorem s50_67 {c : Nat → List AV → SS → Option Out} {l0 l1 l2 l3 l4 l5 l6 l7 : Option AV} {L2 : List (Nat × AV)} {St : List AV} {S : SS} : ev c 50 67 [l0, l1, l2, l3, l4, l5, l6, l7] L2 St S = ev c 50 68 [l0, l1, l2, l3, l4, l5, l6, l7] L2 (aI 1 :: St) S := ev_go i50_67 rfl
theorem i50_68 : insAt 50 68 = some (.iadd, 1, (0, 0, 0, 0), 0) := rfl
theorem s50_68 {c : Nat → List AV → SS → Option Out} {l0 l1 l2 l3 l4 l5 l6 l7 : Option AV} {x y : Int32} {L2 : List (Nat × AV)} {St : List AV} {S : SS} : ev c 50 68 [l0, l1, l2, l3, l4, l5, l6, l7] L2 (aI y :: aI x :: St) S = ev c 50 69 [l0, l1, l2, l3, l4, l5, l6, l7] L2 (aI (x + y) :: St) S := ev_go i50_68 rfl
theorem i50_69 : insAt 50 69 = some (.invokestatic 68, 3, (46, 2, 0, 0), 0) := rfl
theorem s50_69 {c : Nat → List AV → SS → Option Out} {l0 l1 l2 l3 l4 l5 l6 l7 : Option AV} {a0 : Int32} {a1 : Int32} {L2 : List (Nat × AV)} {S : SS} : ev c 50 69 [l0, l1, l2, l3, l4, l5, l6, l7] L2 [aI a1, aI a0] S = ck (c 46 [aI a0, aI a1] S) (fun v S' => ev c 50 72 [l0, l1, l2, l3, l4, l5, l6, l7] L2 (v.toList ++ []) S') := ev_call i50_69 rfl
theorem i50_72 : insAt 50 72 = some (.istore 7, 2, (0, 0, 0, 0), 0) := rfl
theorem s50_72 {c : Nat → List AV → SS → Option Out} {l0 l1 l2 l3 l4 l5 l6 l7 : Option AV} {x : Int32} {L2 : List (Nat × AV)} {St : List AV} {S : SS} : ev c 50 72 [l0, l1, l2, l3, l4, l5, l6, l7] L2 (aI x :: St) S = ev c 50 74 [l0, l1, l2, l3, l4, l5, l6, some (aI x)] (kil L2 7) St S := ev_go i50_72 rfl
theorem i50_74 : insAt 50 74 = some (.iload 4, 2, (0, 0, 0, 0), 0) := rfl
theorem s50_74 {c : Nat → List AV → SS → Option Out} {l0 l1 l2 l3 l5 l6 l7 : Option AV} {x : Int32} {L2 : List (Nat × AV)} {St : List AV} {S : SS} : ev c 50 74 [l0, l1, l2, l3, some (aI x), l5, l6, l7] L2 St S = ev c 50 76 [l0, l1, l2, l3, some (aI x), l5, l6, l7] L2 (aI x :: St) S := ev_go i50_74 rfl
theorem i50_76 : insAt 50 76 = some (.aload_n 0, 1, (0, 0, 0, 0), 0) := rfl
theorem s50_76 {c : Nat → List AV → SS → Option Out} {l1 l2 l3 l4 l5 l6 l7 : Option AV} {o : OId} {L2 : List (Nat × AV)} {St : List AV} {S : SS} : ev c 50 76 [some (aR o), l1, l2, l3, l4, l5, l6, l7] L2 St S = ev c 50 77 [some (aR o), l1, l2, l3, l4, l5, l6, l7] L2 (aR o :: St) S := ev_go i50_76 rfl
theorem i50_77 : insAt 50 77 = some (.iload_n 1, 1, (0, 0, 0, 0), 0) := rfl
theorem s50_77 {c : Nat → List AV → SS → Option Out} {l0 l2 l3 l4 l5 l6 l7 : Option AV} {x : Int32} {L2 : List (Nat × AV)} {St : List AV} {S : SS} : ev c 50 77 [l0, some (aI x), l2, l3, l4, l5, l6, l7] L2 St S = ev c 50 78 [l0, some (aI x), l2, l3, l4, l5, l6, l7] L2 (aI x :: St) S := ev_go i50_77 rfl
theorem i50_78 : insAt 50 78 = some (.iconst 1, 1, (0, 0, 0, 0), 0) := rfl
theorem s50_78 {c : Nat → List AV → SS → Option Out} {l0 l1 l2 l3 l4 l5 l6 l7 : Option AV} {L2 : List (Nat × AV)} {St : List AV} {S : SS} : ev c 50 78 [l0, l1, l2, l3, l4, l5, l6, l7] L2 St S = ev c 50 79 [l0, l1, l2, l3, l4, l5, l6, l7] L2 (aI 1 :: St) S := ev_go i50_78 rfl
theorem i50_79 : insAt 50 79 = some (.iadd, 1, (0, 0, 0, 0), 0) := rfl
theorem s50_79 {c : Nat → List AV → SS → Option Out} {l0 l1 l2 l3 l4 l5 l6 l7 : Option AV} {x y : Int32} {L2 : List (Nat × AV)} {St : List AV} {S : SS} : ev c 50 79 [l0, l1, l2, l3, l4, l5, l6, l7] L2 (aI y :: aI x :: St) S = ev c 50 80 [l0, l1, l2, l3, l4, l5, l6, l7] L2 (aI (x + y) :: St) S := ev_go i50_79 rfl
theorem i50_80 : insAt 50 80 = some (.iload_n 2, 1, (0, 0, 0, 0), 0) := rfl
theorem s50_80 {c : Nat → List AV → SS → Option Out} {l0 l1 l3 l4 l5 l6 l7 : Option AV} {x : Int32} {L2 : List (Nat × AV)} {St : List AV} {S : SS} : ev c 50 80 [l0, l1, some (aI x), l3, l4, l5, l6, l7] L2 St S = ev c 50 81 [l0, l1, some (aI x), l3, l4, l5, l6, l7] L2 (aI x :: St) S := ev_go i50_80 rfl
theorem i50_81 : insAt 50 81 = some (.iconst 1, 1, (0, 0, 0, 0), 0) := rfl
theorem s50_81 {c : Nat → List AV → SS → Option Out} {l0 l1 l2 l3 l4 l5 l6 l7 : Option AV} {L2 : List (Nat × AV)} {St : List AV} {S : SS} : ev c 50 81 [l0, l1, l2, l3, l4, l5, l6, l7] L2 St S = ev c 50 82 [l0, l1, l2, l3, l4, l5, l6, l7] L2 (aI 1 :: St) S := ev_go i50_81 rfl
theorem i50_82 : insAt 50 82 = some (.iload 5, 2, (0, 0, 0, 0), 0) := rfl
theorem s50_82 {c : Nat → List AV → SS → Option Out} {l0 l1 l2 l3 l4 l6 l7 : Option AV} {x : Int32} {L2 : List (Nat × AV)} {St : List AV} {S : SS} : ev c 50 82 [l0, l1, l2, l3, l4, some (aI x), l6, l7] L2 St S = ev c 50 84 [l0, l1, l2, l3, l4, some (aI x), l6, l7] L2 (aI x :: St) S := ev_go i50_82 rfl
theorem i50_84 : insAt 50 84 = some (.ishl, 1, (0, 0, 0, 0), 0) := rfl
theorem s50_84 {c : Nat → List AV → SS → Option Out} {l0 l1 l2 l3 l4 l5 l6 l7 : Option AV} {x y : Int32} {L2 : List (Nat × AV)} {St : List AV} {S : SS} : ev c 50 84 [l0, l1, l2, l3, l4, l5, l6, l7] L2 (aI y :: aI x :: St) S = ev c 50 85 [l0, l1, l2, l3, l4, l5, l6, l7] L2 (aI (x <<< (y &&& 31)) :: St) S := ev_go i50_84 rfl
theorem i50_85 : insAt 50 85 = some (.ior, 1, (0, 0, 0, 0), 0) := rfl
theorem s50_85 {c : Nat → List AV → SS → Option Out} {l0 l1 l2 l3 l4 l5 l6 l7 : Option AV} {x y : Int32} {L2 : List (Nat × AV)} {St : List AV} {S : SS} : ev c 50 85 [l0, l1, l2, l3, l4, l5, l6, l7] L2 (aI y :: aI x :: St) S = ev c 50 86 [l0, l1, l2, l3, l4, l5, l6, l7] L2 (aI (x ||| y) :: St) S := ev_go i50_85 rfl
theorem i50_86 : insAt 50 86 = some (.iload 7, 2, (0, 0, 0, 0), 0) := rfl
theorem s50_86 {c : Nat → List AV → SS → Option Out} {l0 l1 l2 l3 l4 l5 l6 : Option AV} {x : Int32} {L2 : List (Nat × AV)} {St : List AV} {S : SS} : ev c 50 86 [l0, l1, l2, l3, l4, l5, l6, some (aI x)] L2 St S = ev c 50 88 [l0, l1, l2, l3, l4, l5, l6, some (aI x)] L2 (aI x :: St) S := ev_go i50_86 rfl
theorem i50_88 : insAt 50 88 = some (.invokestatic 60, 3, (50, 4, 0, 0), 0) := rfl
theorem s50_88 {c : Nat → List AV → SS → Option Out} {l0 l1 l2 l3 l4 l5 l6 l7 : Option AV} {t0 : AV} {a0 : OId} {a1 : Int32} {a2 : Int32} {a3 : Int32} {L2 : List (Nat × AV)} {S : SS} : ev c 50 88 [l0, l1, l2, l3, l4, l5, l6, l7] L2 [aI a3, aI a2, aI a1, aR a0, t0] S = ck (c 50 [aR a0, aI a1, aI a2, aI a3] S) (fun v S' => ev c 50 91 [l0, l1, l2, l3, l4, l5, l6, l7] L2 (v.toList ++ [t0]) S') := ev_call i50_88 rfl
theorem i50_91 : insAt 50 91 = some (.invokestatic 74, 3, (53, 2, 0, 0), 0) := rfl
theorem s50_91 {c : Nat → List AV → SS → Option Out} {l0 l1 l2 l3 l4 l5 l6 l7 : Option AV} {a0 : Int32} {a1 : Int32} {L2 : List (Nat × AV)} {S : SS} : ev c 50 91 [l0, l1, l2, l3, l4, l5, l6, l7] L2 [aI a1, aI a0] S = ck (c 53 [aI a0, aI a1] S) (fun v S' => ev c 50 94 [l0, l1, l2, l3, l4, l5, l6, l7] L2 (v.toList ++ []) S') := ev_call i50_91 rfl
theorem i50_94 : insAt 50 94 = some (.istore 4, 2, (0, 0, 0, 0), 0) := rfl
theorem s50_94 {c : Nat → List AV → SS → Option Out} {l0 l1 l2 l3 l4 l5 l6 l7 : Option AV} {x : Int32} {L2 : List (Nat × AV)} {St : List AV} {S : SS} : ev c 50 94 [l0, l1, l2, l3, l4, l5, l6, l7] L2 (aI x :: St) S = ev c 50 96 [l0, l1, l2, l3, some (aI x), l5, l6, l7] (kil L2 4) St S := ev_go i50_94 rfl
theorem i50_96 : insAt 50 96 = some (.iinc 5 1, 3, (0, 0, 0, 0), 0) := rfl
theorem s50_96 {c : Nat → List AV → SS → Option Out} {l0 l1 l2 l3 l4 l6 l7 : Option AV} {x : Int32} {L2 : List (Nat × AV)} {St : List AV} {S : SS} : ev c 50 96 [l0, l1, l2, l3, l4, some (aI x), l6, l7] L2 St S = ev c 50 99 [l0, l1, l2, l3, l4, some (aI (x + 1)), l6, l7] (kil L2 5) St S := ev_go i50_96 rfl
theorem i50_99 : insAt 50 99 = some (.goto (-79), 3, (0, 0, 0, 0), 0) := rfl
theorem s50_99 {c : Nat → List AV → SS → Option Out} {l0 l1 l2 l3 l4 l5 l6 l7 : Option AV} {L2 : List (Nat × AV)} {St : List AV} {S : SS} : ev c 50 99 [l0, l1, l2, l3, l4, l5, l6, l7] L2 St S = ev c 50 20 [l0, l1, l2, l3, l4, l5, l6, l7] L2 St S := ev_go i50_99 rfl
theorem i50_102 : insAt 50 102 = some (.iload 4, 2, (0, 0, 0, 0), 0) := rfl
theorem s50_102 {c : Nat → List AV → SS → Option Out} {l0 l1 l2 l3 l5 l6 l7 : Option AV} {x : Int32} {L2 : List (Nat × AV)} {St : List AV} {S : SS} : ev c 50 102 [l0, l1, l2, l3, some (aI x), l5, l6, l7] L2 St S = ev c 50 104 [l0, l1, l2, l3, some (aI x), l5, l6, l7] L2 (aI x :: St) S := ev_go i50_102 rfl
theorem i50_104 : insAt 50 104 = some (.ireturn, 1, (0, 0, 0, 0), 0) := rfl
theorem s50_104 {c : Nat → List AV → SS → Option Out} {l0 l1 l2 l3 l4 l5 l6 l7 : Option AV} {x : Int32} {L2 : List (Nat × AV)} {St : List AV} {S : SS} : ev c 50 104 [l0, l1, l2, l3, l4, l5, l6, l7] L2 [aI x] S = some (.inl (some (aI x)), S) := ev_end i50_104 rfl
theorem m50 {d : Nat} {a0 : OId} {a1 : Int32} {a2 : Int32} {a3 : Int32} {S : SS} : evm (d + 1) 50 [aR a0, aI a1, aI a2, aI a3] S = ev (evm d) 50 0 [some (aR a0), some (aI a1), some (aI a2), some (aI a3), none, none, none, none] [] [] S := evm_s (n := 8) rfl (Nat.le_of_ble_eq_true rfl) rfl rfl
/-! FrequencyOffice$Spans.lowestOpen(J)I -/
theorem i51_0 : insAt 51 0 = some (.lload_n 0, 1, (0, 0, 0, 0), 0) := rfl
theorem s51_0 {c : Nat → List AV → SS → Option Out} {l0 l1 l2 l3 : Option AV} {x : Int64} {L2 : List (Nat × AV)} {St : List AV} {S : SS} (h : ldL L2 0 = some x) : ev c 51 0 [l0, l1, l2, l3] L2 St S = ev c 51 1 [l0, l1, l2, l3] L2 (aL x :: St) S := ev_go i51_0 (by simp only [stepI]; exact (congrArg (fun q => match q with | some x => nx (0 + 1) [l0, l1, l2, l3] L2 (aL x :: St) S | none => none) h))
theorem i51_1 : insAt 51 1 = some (.ldc2_w 77, 3, (0, 0, 0, 0), -1) := rfl
theorem s51_1 {c : Nat → List AV → SS → Option Out} {l0 l1 l2 l3 : Option AV} {L2 : List (Nat × AV)} {St : List AV} {S : SS} : ev c 51 1 [l0, l1, l2, l3] L2 St S = ev c 51 4 [l0, l1, l2, l3] L2 (aL (-1) :: St) S := ev_go i51_1 rfl
theorem i51_4 : insAt 51 4 = some (.lxor, 1, (0, 0, 0, 0), 0) := rfl
theorem s51_4 {c : Nat → List AV → SS → Option Out} {l0 l1 l2 l3 : Option AV} {x y : Int64} {L2 : List (Nat × AV)} {St : List AV} {S : SS} : ev c 51 4 [l0, l1, l2, l3] L2 (aL y :: aL x :: St) S = ev c 51 5 [l0, l1, l2, l3] L2 (aL (x ^^^ y) :: St) S := ev_go i51_4 rfl
theorem i51_5 : insAt 51 5 = some (.lload_n 0, 1, (0, 0, 0, 0), 0) := rfl
theorem s51_5 {c : Nat → List AV → SS → Option Out} {l0 l1 l2 l3 : Option AV} {x : Int64} {L2 : List (Nat × AV)} {St : List AV} {S : SS} (h : ldL L2 0 = some x) : ev c 51 5 [l0, l1, l2, l3] L2 St S = ev c 51 6 [l0, l1, l2, l3] L2 (aL x :: St) S := ev_go i51_5 (by simp only [stepI]; exact (congrArg (fun q => match q with | some x => nx (5 + 1) [l0, l1, l2, l3] L2 (aL x :: St) S | none => none) h))
theorem i51_6 : insAt 51 6 = some (.lconst 1, 1, (0, 0, 0, 0), 0) := rfl
theorem s51_6 {c : Nat → List AV → SS → Option Out} {l0 l1 l2 l3 : Option AV} {L2 : List (Nat × AV)} {St : List AV} {S : SS} : ev c 51 6 [l0, l1, l2, l3] L2 St S = ev c 51 7 [l0, l1, l2, l3] L2 (aL 1 :: St) S := ev_go i51_6 rfl
theorem i51_7 : insAt 51 7 = some (.ladd, 1, (0, 0, 0, 0), 0) := rfl
theorem s51_7 {c : Nat → List AV → SS → Option Out} {l0 l1 l2 l3 : Option AV} {x y : Int64} {L2 : List (Nat × AV)} {St : List AV} {S : SS} : ev c 51 7 [l0, l1, l2, l3] L2 (aL y :: aL x :: St) S = ev c 51 8 [l0, l1, l2, l3] L2 (aL (x + y) :: St) S := ev_go i51_7 rfl
theorem i51_8 : insAt 51 8 = some (.land, 1, (0, 0, 0, 0), 0) := rfl
theorem s51_8 {c : Nat → List AV → SS → Option Out} {l0 l1 l2 l3 : Option AV} {x y : Int64} {L2 : List (Nat × AV)} {St : List AV} {S : SS} : ev c 51 8 [l0, l1, l2, l3] L2 (aL y :: aL x :: St) S = ev c 51 9 [l0, l1, l2, l3] L2 (aL (x &&& y) :: St) S := ev_go i51_8 rfl
theorem i51_9 : insAt 51 9 = some (.lstore_n 2, 1, (0, 0, 0, 0), 0) := rfl
theorem s51_9 {c : Nat → List AV → SS → Option Out} {l0 l1 l2 l3 : Option AV} {x : Int64} {L2 : List (Nat × AV)} {St : List AV} {S : SS} : ev c 51 9 [l0, l1, l2, l3] L2 (aL x :: St) S = ev c 51 10 [l0, l1, none, none] ((2, aL x) :: kil2 L2 2) St S := ev_go i51_9 rfl
theorem i51_10 : insAt 51 10 = some (.lload_n 2, 1, (0, 0, 0, 0), 0) := rfl
theorem s51_10 {c : Nat → List AV → SS → Option Out} {l0 l1 l2 l3 : Option AV} {x : Int64} {L2 : List (Nat × AV)} {St : List AV} {S : SS} (h : ldL L2 2 = some x) : ev c 51 10 [l0, l1, l2, l3] L2 St S = ev c 51 11 [l0, l1, l2, l3] L2 (aL x :: St) S := ev_go i51_10 (by simp only [stepI]; exact (congrArg (fun q => match q with | some x => nx (10 + 1) [l0, l1, l2, l3] L2 (aL x :: St) S | none => none) h))
theorem i51_11 : insAt 51 11 = some (.lconst 1, 1, (0, 0, 0, 0), 0) := rfl
theorem s51_11 {c : Nat → List AV → SS → Option Out} {l0 l1 l2 l3 : Option AV} {L2 : List (Nat × AV)} {St : List AV} {S : SS} : ev c 51 11 [l0, l1, l2, l3] L2 St S = ev c 51 12 [l0, l1, l2, l3] L2 (aL 1 :: St) S := ev_go i51_11 rfl
theorem i51_12 : insAt 51 12 = some (.lsub, 1, (0, 0, 0, 0), 0) := rfl
theorem s51_12 {c : Nat → List AV → SS → Option Out} {l0 l1 l2 l3 : Option AV} {x y : Int64} {L2 : List (Nat × AV)} {St : List AV} {S : SS} : ev c 51 12 [l0, l1, l2, l3] L2 (aL y :: aL x :: St) S = ev c 51 13 [l0, l1, l2, l3] L2 (aL (x - y) :: St) S := ev_go i51_12 rfl
theorem i51_13 : insAt 51 13 = some (.invokestatic 79, 3, (52, 1, 0, 0), 0) := rfl
theorem s51_13 {c : Nat → List AV → SS → Option Out} {l0 l1 l2 l3 : Option AV} {a0 : Int64} {L2 : List (Nat × AV)} {S : SS} : ev c 51 13 [l0, l1, l2, l3] L2 [aL a0] S = ck (c 52 [aL a0] S) (fun v S' => ev c 51 16 [l0, l1, l2, l3] L2 (v.toList ++ []) S') := ev_call i51_13 rfl
theorem i51_16 : insAt 51 16 = some (.ireturn, 1, (0, 0, 0, 0), 0) := rfl
theorem s51_16 {c : Nat → List AV → SS → Option Out} {l0 l1 l2 l3 : Option AV} {x : Int32} {L2 : List (Nat × AV)} {St : List AV} {S : SS} : ev c 51 16 [l0, l1, l2, l3] L2 [aI x] S = some (.inl (some (aI x)), S) := ev_end i51_16 rfl
theorem m51 {d : Nat} {a0 : Int64} {S : SS} : evm (d + 1) 51 [aL a0] S = ev (evm d) 51 0 [none, none, none, none] [(0, aL a0)] [] S := evm_s (n := 4) rfl (Nat.le_of_ble_eq_true rfl) rfl rfl
/-! FrequencyOffice$Books.take(LFrequencyOffice$Books;)V -/
theorem i56_0 : insAt 56 0 = some (.aload_n 0, 1, (0, 0, 0, 0), 0) := rfl
theorem s56_0 {c : Nat → List AV → SS → Option Out} {l1 l2 : Option AV} {o : OId} {L2 : List (Nat × AV)} {St : List AV} {S : SS} : ev c 56 0 [some (aR o), l1, l2] L2 St S = ev c 56 1 [some (aR o), l1, l2] L2 (aR o :: St) S := ev_go i56_0 rfl
theorem i56_1 : insAt 56 1 = some (.aload_n 1, 1, (0, 0, 0, 0), 0) := rfl
theorem s56_1 {c : Nat → List AV → SS → Option Out} {l0 l2 : Option AV} {o : OId} {L2 : List (Nat × AV)} {St : List AV} {S : SS} : ev c 56 1 [l0, some (aR o), l2] L2 St S = ev c 56 2 [l0, some (aR o), l2] L2 (aR o :: St) S := ev_go i56_1 rfl
theorem i56_2 : insAt 56 2 = some (.getfield 9, 3, (4, 0, 0, 0), 0) := rfl
theorem s56_2 {c : Nat → List AV → SS → Option Out} {l0 l1 l2 : Option AV} {j t : Nat} {L2 : List (Nat × AV)} {St : List AV} {S : SS} : ev c 56 2 [l0, l1, l2] L2 (aR (4, j, t) :: St) S = ev c 56 5 [l0, l1, l2] L2 (aI (S.1 (4, j, t) 0) :: St) S := ev_go i56_2 rfl
theorem i56_5 : insAt 56 5 = some (.putfield 9, 3, (4, 0, 0, 0), 0) := rfl
theorem s56_5 {c : Nat → List AV → SS → Option Out} {l0 l1 l2 : Option AV} {j t : Nat} {x : Int32} {L2 : List (Nat × AV)} {St : List AV} {S : SS} : ev c 56 5 [l0, l1, l2] L2 (aI x :: aR (4, j, t) :: St) S = ev c 56 8 [l0, l1, l2] L2 St (setI S.1 (4, j, t) 0 x, S.2) := ev_go i56_5 rfl
theorem i56_8 : insAt 56 8 = some (.aload_n 0, 1, (0, 0, 0, 0), 0) := rfl
theorem s56_8 {c : Nat → List AV → SS → Option Out} {l1 l2 : Option AV} {o : OId} {L2 : List (Nat × AV)} {St : List AV} {S : SS} : ev c 56 8 [some (aR o), l1, l2] L2 St S = ev c 56 9 [some (aR o), l1, l2] L2 (aR o :: St) S := ev_go i56_8 rfl
theorem i56_9 : insAt 56 9 = some (.aload_n 1, 1, (0, 0, 0, 0), 0) := rfl
theorem s56_9 {c : Nat → List AV → SS → Option Out} {l0 l2 : Option AV} {o : OId} {L2 : List (Nat × AV)} {St : List AV} {S : SS} : ev c 56 9 [l0, some (aR o), l2] L2 St S = ev c 56 10 [l0, some (aR o), l2] L2 (aR o :: St) S := ev_go i56_9 rfl
theorem i56_10 : insAt 56 10 = some (.getfield 15, 3, (4, 1, 0, 0), 0) := rfl
theorem s56_10 {c : Nat → List AV → SS → Option Out} {l0 l1 l2 : Option AV} {j t : Nat} {L2 : List (Nat × AV)} {St : List AV} {S : SS} : ev c 56 10 [l0, l1, l2] L2 (aR (4, j, t) :: St) S = ev c 56 13 [l0, l1, l2] L2 (aI (S.1 (4, j, t) 1) :: St) S := ev_go i56_10 rfl
theorem i56_13 : insAt 56 13 = some (.putfield 15, 3, (4, 1, 0, 0), 0) := rfl
theorem s56_13 {c : Nat → List AV → SS → Option Out} {l0 l1 l2 : Option AV} {j t : Nat} {x : Int32} {L2 : List (Nat × AV)} {St : List AV} {S : SS} : ev c 56 13 [l0, l1, l2] L2 (aI x :: aR (4, j, t) :: St) S = ev c 56 16 [l0, l1, l2] L2 St (setI S.1 (4, j, t) 1 x, S.2) := ev_go i56_13 rfl
theorem i56_16 : insAt 56 16 = some (.aload_n 0, 1, (0, 0, 0, 0), 0) := rfl
theorem s56_16 {c : Nat → List AV → SS → Option Out} {l1 l2 : Option AV} {o : OId} {L2 : List (Nat × AV)} {St : List AV} {S : SS} : ev c 56 16 [some (aR o), l1, l2] L2 St S = ev c 56 17 [some (aR o), l1, l2] L2 (aR o :: St) S := ev_go i56_16 rfl
theorem i56_17 : insAt 56 17 = some (.aload_n 1, 1, (0, 0, 0, 0), 0) := rfl
theorem s56_17 {c : Nat → List AV → SS → Option Out} {l0 l2 : Option AV} {o : OId} {L2 : List (Nat × AV)} {St : List AV} {S : SS} : ev c 56 17 [l0, some (aR o), l2] L2 St S = ev c 56 18 [l0, some (aR o), l2] L2 (aR o :: St) S := ev_go i56_17 rfl
theorem i56_18 : insAt 56 18 = some (.getfield 18, 3, (4, 2, 0, 0), 0) := rfl
theorem s56_18 {c : Nat → List AV → SS → Option Out} {l0 l1 l2 : Option AV} {j t : Nat} {L2 : List (Nat × AV)} {St : List AV} {S : SS} : ev c 56 18 [l0, l1, l2] L2 (aR (4, j, t) :: St) S = ev c 56 21 [l0, l1, l2] L2 (aI (S.1 (4, j, t) 2) :: St) S := ev_go i56_18 rfl
theorem i56_21 : insAt 56 21 = some (.putfield 18, 3, (4, 2, 0, 0), 0) := rfl
theorem s56_21 {c : Nat → List AV → SS → Option Out} {l0 l1 l2 : Option AV} {j t : Nat} {x : Int32} {L2 : List (Nat × AV)} {St : List AV} {S : SS} : ev c 56 21 [l0, l1, l2] L2 (aI x :: aR (4, j, t) :: St) S = ev c 56 24 [l0, l1, l2] L2 St (setI S.1 (4, j, t) 2 x, S.2) := ev_go i56_21 rfl
theorem i56_24 : insAt 56 24 = some (.aload_n 0, 1, (0, 0, 0, 0), 0) := rfl
theorem s56_24 {c : Nat → List AV → SS → Option Out} {l1 l2 : Option AV} {o : OId} {L2 : List (Nat × AV)} {St : List AV} {S : SS} : ev c 56 24 [some (aR o), l1, l2] L2 St S = ev c 56 25 [some (aR o), l1, l2] L2 (aR o :: St) S := ev_go i56_24 rfl
theorem i56_25 : insAt 56 25 = some (.aload_n 1, 1, (0, 0, 0, 0), 0) := rfl
theorem s56_25 {c : Nat → List AV → SS → Option Out} {l0 l2 : Option AV} {o : OId} {L2 : List (Nat × AV)} {St : List AV} {S : SS} : ev c 56 25 [l0, some (aR o), l2] L2 St S = ev c 56 26 [l0, some (aR o), l2] L2 (aR o :: St) S := ev_go i56_25 rfl
theorem i56_26 : insAt 56 26 = some (.getfield 21, 3, (4, 3, 0, 0), 0) := rfl
theorem s56_26 {c : Nat → List AV → SS → Option Out} {l0 l1 l2 : Option AV} {j t : Nat} {L2 : List (Nat × AV)} {St : List AV} {S : SS} : ev c 56 26 [l0, l1, l2] L2 (aR (4, j, t) :: St) S = ev c 56 29 [l0, l1, l2] L2 (aI (S.1 (4, j, t) 3) :: St) S := ev_go i56_26 rfl
theorem i56_29 : insAt 56 29 = some (.putfield 21, 3, (4, 3, 0, 0), 0) := rfl
theorem s56_29 {c : Nat → List AV → SS → Option Out} {l0 l1 l2 : Option AV} {j t : Nat} {x : Int32} {L2 : List (Nat × AV)} {St : List AV} {S : SS} : ev c 56 29 [l0, l1, l2] L2 (aI x :: aR (4, j, t) :: St) S = ev c 56 32 [l0, l1, l2] L2 St (setI S.1 (4, j, t) 3 x, S.2) := ev_go i56_29 rfl
theorem i56_32 : insAt 56 32 = some (.aload_n 0, 1, (0, 0, 0, 0), 0) := rfl
theorem s56_32 {c : Nat → List AV → SS → Option Out} {l1 l2 : Option AV} {o : OId} {L2 : List (Nat × AV)} {St : List AV} {S : SS} : ev c 56 32 [some (aR o), l1, l2] L2 St S = ev c 56 33 [some (aR o), l1, l2] L2 (aR o :: St) S := ev_go i56_32 rfl
theorem i56_33 : insAt 56 33 = some (.aload_n 1, 1, (0, 0, 0, 0), 0) := rfl
theorem s56_33 {c : Nat → List AV → SS → Option Out} {l0 l2 : Option AV} {o : OId} {L2 : List (Nat × AV)} {St : List AV} {S : SS} : ev c 56 33 [l0, some (aR o), l2] L2 St S = ev c 56 34 [l0, some (aR o), l2] L2 (aR o :: St) S := ev_go i56_33 rfl
theorem i56_34 : insAt 56 34 = some (.getfield 24, 3, (4, 4, 0, 0), 0) := rfl
theorem s56_34 {c : Nat → List AV → SS → Option Out} {l0 l1 l2 : Option AV} {j t : Nat} {L2 : List (Nat × AV)} {St : List AV} {S : SS} : ev c 56 34 [l0, l1, l2] L2 (aR (4, j, t) :: St) S = ev c 56 37 [l0, l1, l2] L2 (aI (S.1 (4, j, t) 4) :: St) S := ev_go i56_34 rfl
theorem i56_37 : insAt 56 37 = some (.putfield 24, 3, (4, 4, 0, 0), 0) := rfl
theorem s56_37 {c : Nat → List AV → SS → Option Out} {l0 l1 l2 : Option AV} {j t : Nat} {x : Int32} {L2 : List (Nat × AV)} {St : List AV} {S : SS} : ev c 56 37 [l0, l1, l2] L2 (aI x :: aR (4, j, t) :: St) S = ev c 56 40 [l0, l1, l2] L2 St (setI S.1 (4, j, t) 4 x, S.2) := ev_go i56_37 rfl
theorem i56_40 : insAt 56 40 = some (.aload_n 0, 1, (0, 0, 0, 0), 0) := rfl
theorem s56_40 {c : Nat → List AV → SS → Option Out} {l1 l2 : Option AV} {o : OId} {L2 : List (Nat × AV)} {St : List AV} {S : SS} : ev c 56 40 [some (aR o), l1, l2] L2 St S = ev c 56 41 [some (aR o), l1, l2] L2 (aR o :: St) S := ev_go i56_40 rfl
theorem i56_41 : insAt 56 41 = some (.aload_n 1, 1, (0, 0, 0, 0), 0) := rfl
theorem s56_41 {c : Nat → List AV → SS → Option Out} {l0 l2 : Option AV} {o : OId} {L2 : List (Nat × AV)} {St : List AV} {S : SS} : ev c 56 41 [l0, some (aR o), l2] L2 St S = ev c 56 42 [l0, some (aR o), l2] L2 (aR o :: St) S := ev_go i56_41 rfl
theorem i56_42 : insAt 56 42 = some (.getfield 27, 3, (4, 5, 0, 0), 0) := rfl
theorem s56_42 {c : Nat → List AV → SS → Option Out} {l0 l1 l2 : Option AV} {j t : Nat} {L2 : List (Nat × AV)} {St : List AV} {S : SS} : ev c 56 42 [l0, l1, l2] L2 (aR (4, j, t) :: St) S = ev c 56 45 [l0, l1, l2] L2 (aI (S.1 (4, j, t) 5) :: St) S := ev_go i56_42 rfl
theorem i56_45 : insAt 56 45 = some (.putfield 27, 3, (4, 5, 0, 0), 0) := rfl
theorem s56_45 {c : Nat → List AV → SS → Option Out} {l0 l1 l2 : Option AV} {j t : Nat} {x : Int32} {L2 : List (Nat × AV)} {St : List AV} {S : SS} : ev c 56 45 [l0, l1, l2] L2 (aI x :: aR (4, j, t) :: St) S = ev c 56 48 [l0, l1, l2] L2 St (setI S.1 (4, j, t) 5 x, S.2) := ev_go i56_45 rfl
theorem i56_48 : insAt 56 48 = some (.aload_n 0, 1, (0, 0, 0, 0), 0) := rfl
theorem s56_48 {c : Nat → List AV → SS → Option Out} {l1 l2 : Option AV} {o : OId} {L2 : List (Nat × AV)} {St : List AV} {S : SS} : ev c 56 48 [some (aR o), l1, l2] L2 St S = ev c 56 49 [some (aR o), l1, l2] L2 (aR o :: St) S := ev_go i56_48 rfl
theorem i56_49 : insAt 56 49 = some (.aload_n 1, 1, (0, 0, 0, 0), 0) := rfl
theorem s56_49 {c : Nat → List AV → SS → Option Out} {l0 l2 : Option AV} {o : OId} {L2 : List (Nat × AV)} {St : List AV} {S : SS} : ev c 56 49 [l0, some (aR o), l2] L2 St S = ev c 56 50 [l0, some (aR o), l2] L2 (aR o :: St) S := ev_go i56_49 rfl
theorem i56_50 : insAt 56 50 = some (.getfield 30, 3, (4, 6, 0, 0), 0) := rfl
theorem s56_50 {c : Nat → List AV → SS → Option Out} {l0 l1 l2 : Option AV} {j t : Nat} {L2 : List (Nat × AV)} {St : List AV} {S : SS} : ev c 56 50 [l0, l1, l2] L2 (aR (4, j, t) :: St) S = ev c 56 53 [l0, l1, l2] L2 (aI (S.1 (4, j, t) 6) :: St) S := ev_go i56_50 rfl
theorem i56_53 : insAt 56 53 = some (.putfield 30, 3, (4, 6, 0, 0), 0) := rfl
theorem s56_53 {c : Nat → List AV → SS → Option Out} {l0 l1 l2 : Option AV} {j t : Nat} {x : Int32} {L2 : List (Nat × AV)} {St : List AV} {S : SS} : ev c 56 53 [l0, l1, l2] L2 (aI x :: aR (4, j, t) :: St) S = ev c 56 56 [l0, l1, l2] L2 St (setI S.1 (4, j, t) 6 x, S.2) := ev_go i56_53 rfl
theorem i56_56 : insAt 56 56 = some (.aload_n 0, 1, (0, 0, 0, 0), 0) := rfl
theorem s56_56 {c : Nat → List AV → SS → Option Out} {l1 l2 : Option AV} {o : OId} {L2 : List (Nat × AV)} {St : List AV} {S : SS} : ev c 56 56 [some (aR o), l1, l2] L2 St S = ev c 56 57 [some (aR o), l1, l2] L2 (aR o :: St) S := ev_go i56_56 rfl
theorem i56_57 : insAt 56 57 = some (.aload_n 1, 1, (0, 0, 0, 0), 0) := rfl
theorem s56_57 {c : Nat → List AV → SS → Option Out} {l0 l2 : Option AV} {o : OId} {L2 : List (Nat × AV)} {St : List AV} {S : SS} : ev c 56 57 [l0, some (aR o), l2] L2 St S = ev c 56 58 [l0, some (aR o), l2] L2 (aR o :: St) S := ev_go i56_57 rfl
theorem i56_58 : insAt 56 58 = some (.getfield 33, 3, (4, 7, 0, 0), 0) := rfl
theorem s56_58 {c : Nat → List AV → SS → Option Out} {l0 l1 l2 : Option AV} {j t : Nat} {L2 : List (Nat × AV)} {St : List AV} {S : SS} : ev c 56 58 [l0, l1, l2] L2 (aR (4, j, t) :: St) S = ev c 56 61 [l0, l1, l2] L2 (aI (S.1 (4, j, t) 7) :: St) S := ev_go i56_58 rfl
theorem i56_61 : insAt 56 61 = some (.putfield 33, 3, (4, 7, 0, 0), 0) := rfl
theorem s56_61 {c : Nat → List AV → SS → Option Out} {l0 l1 l2 : Option AV} {j t : Nat} {x : Int32} {L2 : List (Nat × AV)} {St : List AV} {S : SS} : ev c 56 61 [l0, l1, l2] L2 (aI x :: aR (4, j, t) :: St) S = ev c 56 64 [l0, l1, l2] L2 St (setI S.1 (4, j, t) 7 x, S.2) := ev_go i56_61 rfl
theorem i56_64 : insAt 56 64 = some (.iconst 0, 1, (0, 0, 0, 0), 0) := rfl
theorem s56_64 {c : Nat → List AV → SS → Option Out} {l0 l1 l2 : Option AV} {L2 : List (Nat × AV)} {St : List AV} {S : SS} : ev c 56 64 [l0, l1, l2] L2 St S = ev c 56 65 [l0, l1, l2] L2 (aI 0 :: St) S := ev_go i56_64 rfl
theorem i56_65 : insAt 56 65 = some (.istore_n 2, 1, (0, 0, 0, 0), 0) := rfl
theorem s56_65 {c : Nat → List AV → SS → Option Out} {l0 l1 l2 : Option AV} {x : Int32} {L2 : List (Nat × AV)} {St : List AV} {S : SS} : ev c 56 65 [l0, l1, l2] L2 (aI x :: St) S = ev c 56 66 [l0, l1, some (aI x)] (kil L2 2) St S := ev_go i56_65 rfl
theorem i56_66 : insAt 56 66 = some (.iload_n 2, 1, (0, 0, 0, 0), 0) := rfl
theorem s56_66 {c : Nat → List AV → SS → Option Out} {l0 l1 : Option AV} {x : Int32} {L2 : List (Nat × AV)} {St : List AV} {S : SS} : ev c 56 66 [l0, l1, some (aI x)] L2 St S = ev c 56 67 [l0, l1, some (aI x)] L2 (aI x :: St) S := ev_go i56_66 rfl
theorem i56_67 : insAt 56 67 = some (.aload_n 0, 1, (0, 0, 0, 0), 0) := rfl
theorem s56_67 {c : Nat → List AV → SS → Option Out} {l1 l2 : Option AV} {o : OId} {L2 : List (Nat × AV)} {St : List AV} {S : SS} : ev c 56 67 [some (aR o), l1, l2] L2 St S = ev c 56 68 [some (aR o), l1, l2] L2 (aR o :: St) S := ev_go i56_67 rfl
theorem i56_68 : insAt 56 68 = some (.getfield 33, 3, (4, 7, 0, 0), 0) := rfl
theorem s56_68 {c : Nat → List AV → SS → Option Out} {l0 l1 l2 : Option AV} {j t : Nat} {L2 : List (Nat × AV)} {St : List AV} {S : SS} : ev c 56 68 [l0, l1, l2] L2 (aR (4, j, t) :: St) S = ev c 56 71 [l0, l1, l2] L2 (aI (S.1 (4, j, t) 7) :: St) S := ev_go i56_68 rfl
theorem i56_71 : insAt 56 71 = some (.if_icmp .ge 22, 3, (0, 0, 0, 0), 0) := rfl
theorem s56_71 {c : Nat → List AV → SS → Option Out} {l0 l1 l2 : Option AV} {x y : Int32} {L2 : List (Nat × AV)} {St : List AV} {S : SS} : ev c 56 71 [l0, l1, l2] L2 (aI y :: aI x :: St) S = if y ≤ x then ev c 56 93 [l0, l1, l2] L2 St S else ev c 56 74 [l0, l1, l2] L2 St S := ev_br i56_71 rfl
theorem i56_74 : insAt 56 74 = some (.aload_n 0, 1, (0, 0, 0, 0), 0) := rfl
theorem s56_74 {c : Nat → List AV → SS → Option Out} {l1 l2 : Option AV} {o : OId} {L2 : List (Nat × AV)} {St : List AV} {S : SS} : ev c 56 74 [some (aR o), l1, l2] L2 St S = ev c 56 75 [some (aR o), l1, l2] L2 (aR o :: St) S := ev_go i56_74 rfl
theorem i56_75 : insAt 56 75 = some (.iload_n 2, 1, (0, 0, 0, 0), 0) := rfl
theorem s56_75 {c : Nat → List AV → SS → Option Out} {l0 l1 : Option AV} {x : Int32} {L2 : List (Nat × AV)} {St : List AV} {S : SS} : ev c 56 75 [l0, l1, some (aI x)] L2 St S = ev c 56 76 [l0, l1, some (aI x)] L2 (aI x :: St) S := ev_go i56_75 rfl
theorem i56_76 : insAt 56 76 = some (.invokevirtual 58, 3, (17, 1, 2, 4), 0) := rfl
theorem s56_76 {c : Nat → List AV → SS → Option Out} {l0 l1 l2 : Option AV} {a0 : Int32} {j t : Nat} {L2 : List (Nat × AV)} {S : SS} : ev c 56 76 [l0, l1, l2] L2 [aI a0, aR (4, j, t)] S = ck (c 17 [aR (4, j, t), aI a0] S) (fun v S' => ev c 56 79 [l0, l1, l2] L2 (v.toList ++ []) S') := ev_call i56_76 rfl
theorem i56_79 : insAt 56 79 = some (.aload_n 1, 1, (0, 0, 0, 0), 0) := rfl
theorem s56_79 {c : Nat → List AV → SS → Option Out} {l0 l2 : Option AV} {o : OId} {L2 : List (Nat × AV)} {St : List AV} {S : SS} : ev c 56 79 [l0, some (aR o), l2] L2 St S = ev c 56 80 [l0, some (aR o), l2] L2 (aR o :: St) S := ev_go i56_79 rfl
theorem i56_80 : insAt 56 80 = some (.iload_n 2, 1, (0, 0, 0, 0), 0) := rfl
theorem s56_80 {c : Nat → List AV → SS → Option Out} {l0 l1 : Option AV} {x : Int32} {L2 : List (Nat × AV)} {St : List AV} {S : SS} : ev c 56 80 [l0, l1, some (aI x)] L2 St S = ev c 56 81 [l0, l1, some (aI x)] L2 (aI x :: St) S := ev_go i56_80 rfl
theorem i56_81 : insAt 56 81 = some (.invokevirtual 58, 3, (17, 1, 2, 4), 0) := rfl
theorem s56_81 {c : Nat → List AV → SS → Option Out} {l0 l1 l2 : Option AV} {t0 : AV} {a0 : Int32} {j t : Nat} {L2 : List (Nat × AV)} {S : SS} : ev c 56 81 [l0, l1, l2] L2 [aI a0, aR (4, j, t), t0] S = ck (c 17 [aR (4, j, t), aI a0] S) (fun v S' => ev c 56 84 [l0, l1, l2] L2 (v.toList ++ [t0]) S') := ev_call i56_81 rfl
theorem i56_84 : insAt 56 84 = some (.invokevirtual 62, 3, (57, 1, 3, 10), 0) := rfl
theorem s56_84 {c : Nat → List AV → SS → Option Out} {l0 l1 l2 : Option AV} {a0 : OId} {j t : Nat} {L2 : List (Nat × AV)} {S : SS} : ev c 56 84 [l0, l1, l2] L2 [aR a0, aR (10, j, t)] S = ck (c 57 [aR (10, j, t), aR a0] S) (fun v S' => ev c 56 87 [l0, l1, l2] L2 (v.toList ++ []) S') := ev_call i56_84 rfl
theorem i56_87 : insAt 56 87 = some (.iinc 2 1, 3, (0, 0, 0, 0), 0) := rfl
theorem s56_87 {c : Nat → List AV → SS → Option Out} {l0 l1 : Option AV} {x : Int32} {L2 : List (Nat × AV)} {St : List AV} {S : SS} : ev c 56 87 [l0, l1, some (aI x)] L2 St S = ev c 56 90 [l0, l1, some (aI (x + 1))] (kil L2 2) St S := ev_go i56_87 rfl
theorem i56_90 : insAt 56 90 = some (.goto (-24), 3, (0, 0, 0, 0), 0) := rfl
theorem s56_90 {c : Nat → List AV → SS → Option Out} {l0 l1 l2 : Option AV} {L2 : List (Nat × AV)} {St : List AV} {S : SS} : ev c 56 90 [l0, l1, l2] L2 St S = ev c 56 66 [l0, l1, l2] L2 St S := ev_go i56_90 rfl
theorem i56_93 : insAt 56 93 = some (.aload_n 1, 1, (0, 0, 0, 0), 0) := rfl
theorem s56_93 {c : Nat → List AV → SS → Option Out} {l0 l2 : Option AV} {o : OId} {L2 : List (Nat × AV)} {St : List AV} {S : SS} : ev c 56 93 [l0, some (aR o), l2] L2 St S = ev c 56 94 [l0, some (aR o), l2] L2 (aR o :: St) S := ev_go i56_93 rfl
theorem i56_94 : insAt 56 94 = some (.getfield 47, 3, (4, 10, 0, 0), 0) := rfl
theorem s56_94 {c : Nat → List AV → SS → Option Out} {l0 l1 l2 : Option AV} {j t : Nat} {L2 : List (Nat × AV)} {St : List AV} {S : SS} : ev c 56 94 [l0, l1, l2] L2 (aR (4, j, t) :: St) S = ev c 56 97 [l0, l1, l2] L2 (S.2.2.1 (4, j, t) 10 :: St) S := ev_go i56_94 rfl
theorem i56_97 : insAt 56 97 = some (.iconst 0, 1, (0, 0, 0, 0), 0) := rfl
theorem s56_97 {c : Nat → List AV → SS → Option Out} {l0 l1 l2 : Option AV} {L2 : List (Nat × AV)} {St : List AV} {S : SS} : ev c 56 97 [l0, l1, l2] L2 St S = ev c 56 98 [l0, l1, l2] L2 (aI 0 :: St) S := ev_go i56_97 rfl
theorem i56_98 : insAt 56 98 = some (.aload_n 0, 1, (0, 0, 0, 0), 0) := rfl
theorem s56_98 {c : Nat → List AV → SS → Option Out} {l1 l2 : Option AV} {o : OId} {L2 : List (Nat × AV)} {St : List AV} {S : SS} : ev c 56 98 [some (aR o), l1, l2] L2 St S = ev c 56 99 [some (aR o), l1, l2] L2 (aR o :: St) S := ev_go i56_98 rfl
theorem i56_99 : insAt 56 99 = some (.getfield 47, 3, (4, 10, 0, 0), 0) := rfl
theorem s56_99 {c : Nat → List AV → SS → Option Out} {l0 l1 l2 : Option AV} {j t : Nat} {L2 : List (Nat × AV)} {St : List AV} {S : SS} : ev c 56 99 [l0, l1, l2] L2 (aR (4, j, t) :: St) S = ev c 56 102 [l0, l1, l2] L2 (S.2.2.1 (4, j, t) 10 :: St) S := ev_go i56_99 rfl
theorem i56_102 : insAt 56 102 = some (.iconst 0, 1, (0, 0, 0, 0), 0) := rfl
theorem s56_102 {c : Nat → List AV → SS → Option Out} {l0 l1 l2 : Option AV} {L2 : List (Nat × AV)} {St : List AV} {S : SS} : ev c 56 102 [l0, l1, l2] L2 St S = ev c 56 103 [l0, l1, l2] L2 (aI 0 :: St) S := ev_go i56_102 rfl
theorem i56_103 : insAt 56 103 = some (.bipush 49, 2, (0, 0, 0, 0), 0) := rfl
theorem s56_103 {c : Nat → List AV → SS → Option Out} {l0 l1 l2 : Option AV} {L2 : List (Nat × AV)} {St : List AV} {S : SS} : ev c 56 103 [l0, l1, l2] L2 St S = ev c 56 105 [l0, l1, l2] L2 (aI 49 :: St) S := ev_go i56_103 rfl
theorem i56_105 : insAt 56 105 = some (.invokestatic 66, 3, (0, 5, 21, 0), 0) := rfl
theorem s56_105 {c : Nat → List AV → SS → Option Out} {l0 l1 l2 : Option AV} {x dp sp : Int32} {d s : OId} {L2 : List (Nat × AV)} {S : SS} : ev c 56 105 [l0, l1, l2] L2 [aI x, aI dp, aR d, aI sp, aR s] S = kA (acp S s sp d dp x) (fun S' => ev c 56 108 [l0, l1, l2] L2 [] S') := ev_acopy rfl i56_105 (by decide)
theorem i56_108 : insAt 56 108 = some (.aload_n 0, 1, (0, 0, 0, 0), 0) := rfl
theorem s56_108 {c : Nat → List AV → SS → Option Out} {l1 l2 : Option AV} {o : OId} {L2 : List (Nat × AV)} {St : List AV} {S : SS} : ev c 56 108 [some (aR o), l1, l2] L2 St S = ev c 56 109 [some (aR o), l1, l2] L2 (aR o :: St) S := ev_go i56_108 rfl
theorem i56_109 : insAt 56 109 = some (.getfield 54, 3, (4, 11, 0, 0), 0) := rfl
theorem s56_109 {c : Nat → List AV → SS → Option Out} {l0 l1 l2 : Option AV} {j t : Nat} {L2 : List (Nat × AV)} {St : List AV} {S : SS} : ev c 56 109 [l0, l1, l2] L2 (aR (4, j, t) :: St) S = ev c 56 112 [l0, l1, l2] L2 (S.2.2.1 (4, j, t) 11 :: St) S := ev_go i56_109 rfl
theorem i56_112 : insAt 56 112 = some (.aload_n 1, 1, (0, 0, 0, 0), 0) := rfl
theorem s56_112 {c : Nat → List AV → SS → Option Out} {l0 l2 : Option AV} {o : OId} {L2 : List (Nat × AV)} {St : List AV} {S : SS} : ev c 56 112 [l0, some (aR o), l2] L2 St S = ev c 56 113 [l0, some (aR o), l2] L2 (aR o :: St) S := ev_go i56_112 rfl
theorem i56_113 : insAt 56 113 = some (.getfield 54, 3, (4, 11, 0, 0), 0) := rfl
theorem s56_113 {c : Nat → List AV → SS → Option Out} {l0 l1 l2 : Option AV} {j t : Nat} {L2 : List (Nat × AV)} {St : List AV} {S : SS} : ev c 56 113 [l0, l1, l2] L2 (aR (4, j, t) :: St) S = ev c 56 116 [l0, l1, l2] L2 (S.2.2.1 (4, j, t) 11 :: St) S := ev_go i56_113 rfl
theorem i56_116 : insAt 56 116 = some (.invokevirtual 72, 3, (58, 1, 3, 7), 0) := rfl
theorem s56_116 {c : Nat → List AV → SS → Option Out} {l0 l1 l2 : Option AV} {a0 : OId} {j t : Nat} {L2 : List (Nat × AV)} {S : SS} : ev c 56 116 [l0, l1, l2] L2 [aR a0, aR (7, j, t)] S = ck (c 58 [aR (7, j, t), aR a0] S) (fun v S' => ev c 56 119 [l0, l1, l2] L2 (v.toList ++ []) S') := ev_call i56_116 rfl
theorem i56_119 : insAt 56 119 = some (.return_, 1, (0, 0, 0, 0), 0) := rfl
theorem s56_119 {c : Nat → List AV → SS → Option Out} {l0 l1 l2 : Option AV} {L2 : List (Nat × AV)} {St : List AV} {S : SS} : ev c 56 119 [l0, l1, l2] L2 [] S = some (.inl none, S) := ev_end i56_119 rfl
theorem m56 {d : Nat} {o : OId} {a0 : OId} {S : SS} : evm (d + 1) 56 [aR o, aR a0] S = ev (evm d) 56 0 [some (aR o), some (aR a0), none] [] [] S := evm_s (n := 3) rfl (Nat.le_of_ble_eq_true rfl) rfl rfl
/-! FrequencyOffice$Station.take(LFrequencyOffice$Station;)V -/
theorem i57_0 : insAt 57 0 = some (.aload_n 0, 1, (0, 0, 0, 0), 0) := rfl
theorem s57_0 {c : Nat → List AV → SS → Option Out} {l1 : Option AV} {o : OId} {L2 : List (Nat × AV)} {St : List AV} {S : SS} : ev c 57 0 [some (aR o), l1] L2 St S = ev c 57 1 [some (aR o), l1] L2 (aR o :: St) S := ev_go i57_0 rfl
theorem i57_1 : insAt 57 1 = some (.aload_n 1, 1, (0, 0, 0, 0), 0) := rfl
theorem s57_1 {c : Nat → List AV → SS → Option Out} {l0 : Option AV} {o : OId} {L2 : List (Nat × AV)} {St : List AV} {S : SS} : ev c 57 1 [l0, some (aR o)] L2 St S = ev c 57 2 [l0, some (aR o)] L2 (aR o :: St) S := ev_go i57_1 rfl
theorem i57_2 : insAt 57 2 = some (.getfield 7, 3, (10, 0, 0, 0), 0) := rfl
theorem s57_2 {c : Nat → List AV → SS → Option Out} {l0 l1 : Option AV} {j t : Nat} {L2 : List (Nat × AV)} {St : List AV} {S : SS} : ev c 57 2 [l0, l1] L2 (aR (10, j, t) :: St) S = ev c 57 5 [l0, l1] L2 (aI (S.1 (10, j, t) 0) :: St) S := ev_go i57_2 rfl
theorem i57_5 : insAt 57 5 = some (.putfield 7, 3, (10, 0, 0, 0), 0) := rfl
theorem s57_5 {c : Nat → List AV → SS → Option Out} {l0 l1 : Option AV} {j t : Nat} {x : Int32} {L2 : List (Nat × AV)} {St : List AV} {S : SS} : ev c 57 5 [l0, l1] L2 (aI x :: aR (10, j, t) :: St) S = ev c 57 8 [l0, l1] L2 St (setI S.1 (10, j, t) 0 x, S.2) := ev_go i57_5 rfl
theorem i57_8 : insAt 57 8 = some (.aload_n 0, 1, (0, 0, 0, 0), 0) := rfl
theorem s57_8 {c : Nat → List AV → SS → Option Out} {l1 : Option AV} {o : OId} {L2 : List (Nat × AV)} {St : List AV} {S : SS} : ev c 57 8 [some (aR o), l1] L2 St S = ev c 57 9 [some (aR o), l1] L2 (aR o :: St) S := ev_go i57_8 rfl
theorem i57_9 : insAt 57 9 = some (.aload_n 1, 1, (0, 0, 0, 0), 0) := rfl
theorem s57_9 {c : Nat → List AV → SS → Option Out} {l0 : Option AV} {o : OId} {L2 : List (Nat × AV)} {St : List AV} {S : SS} : ev c 57 9 [l0, some (aR o)] L2 St S = ev c 57 10 [l0, some (aR o)] L2 (aR o :: St) S := ev_go i57_9 rfl
theorem i57_10 : insAt 57 10 = some (.getfield 13, 3, (10, 1, 0, 0), 0) := rfl
theorem s57_10 {c : Nat → List AV → SS → Option Out} {l0 l1 : Option AV} {j t : Nat} {L2 : List (Nat × AV)} {St : List AV} {S : SS} : ev c 57 10 [l0, l1] L2 (aR (10, j, t) :: St) S = ev c 57 13 [l0, l1] L2 (aI (S.1 (10, j, t) 1) :: St) S := ev_go i57_10 rfl
theorem i57_13 : insAt 57 13 = some (.putfield 13, 3, (10, 1, 0, 0), 0) := rfl
theorem s57_13 {c : Nat → List AV → SS → Option Out} {l0 l1 : Option AV} {j t : Nat} {x : Int32} {L2 : List (Nat × AV)} {St : List AV} {S : SS} : ev c 57 13 [l0, l1] L2 (aI x :: aR (10, j, t) :: St) S = ev c 57 16 [l0, l1] L2 St (setI S.1 (10, j, t) 1 x, S.2) := ev_go i57_13 rfl
theorem i57_16 : insAt 57 16 = some (.aload_n 0, 1, (0, 0, 0, 0), 0) := rfl
theorem s57_16 {c : Nat → List AV → SS → Option Out} {l1 : Option AV} {o : OId} {L2 : List (Nat × AV)} {St : List AV} {S : SS} : ev c 57 16 [some (aR o), l1] L2 St S = ev c 57 17 [some (aR o), l1] L2 (aR o :: St) S := ev_go i57_16 rfl
theorem i57_17 : insAt 57 17 = some (.aload_n 1, 1, (0, 0, 0, 0), 0) := rfl
theorem s57_17 {c : Nat → List AV → SS → Option Out} {l0 : Option AV} {o : OId} {L2 : List (Nat × AV)} {St : List AV} {S : SS} : ev c 57 17 [l0, some (aR o)] L2 St S = ev c 57 18 [l0, some (aR o)] L2 (aR o :: St) S := ev_go i57_17 rfl
theorem i57_18 : insAt 57 18 = some (.getfield 16, 3, (10, 2, 0, 0), 0) := rfl
theorem s57_18 {c : Nat → List AV → SS → Option Out} {l0 l1 : Option AV} {j t : Nat} {L2 : List (Nat × AV)} {St : List AV} {S : SS} : ev c 57 18 [l0, l1] L2 (aR (10, j, t) :: St) S = ev c 57 21 [l0, l1] L2 (aI (S.1 (10, j, t) 2) :: St) S := ev_go i57_18 rfl
theorem i57_21 : insAt 57 21 = some (.putfield 16, 3, (10, 2, 0, 0), 0) := rfl
theorem s57_21 {c : Nat → List AV → SS → Option Out} {l0 l1 : Option AV} {j t : Nat} {x : Int32} {L2 : List (Nat × AV)} {St : List AV} {S : SS} : ev c 57 21 [l0, l1] L2 (aI x :: aR (10, j, t) :: St) S = ev c 57 24 [l0, l1] L2 St (setI S.1 (10, j, t) 2 x, S.2) := ev_go i57_21 rfl
theorem i57_24 : insAt 57 24 = some (.aload_n 0, 1, (0, 0, 0, 0), 0) := rfl
theorem s57_24 {c : Nat → List AV → SS → Option Out} {l1 : Option AV} {o : OId} {L2 : List (Nat × AV)} {St : List AV} {S : SS} : ev c 57 24 [some (aR o), l1] L2 St S = ev c 57 25 [some (aR o), l1] L2 (aR o :: St) S := ev_go i57_24 rfl
theorem i57_25 : insAt 57 25 = some (.aload_n 1, 1, (0, 0, 0, 0), 0) := rfl
theorem s57_25 {c : Nat → List AV → SS → Option Out} {l0 : Option AV} {o : OId} {L2 : List (Nat × AV)} {St : List AV} {S : SS} : ev c 57 25 [l0, some (aR o)] L2 St S = ev c 57 26 [l0, some (aR o)] L2 (aR o :: St) S := ev_go i57_25 rfl
theorem i57_26 : insAt 57 26 = some (.getfield 19, 3, (10, 3, 0, 0), 0) := rfl
theorem s57_26 {c : Nat → List AV → SS → Option Out} {l0 l1 : Option AV} {j t : Nat} {L2 : List (Nat × AV)} {St : List AV} {S : SS} : ev c 57 26 [l0, l1] L2 (aR (10, j, t) :: St) S = ev c 57 29 [l0, l1] L2 (aI (S.1 (10, j, t) 3) :: St) S := ev_go i57_26 rfl
theorem i57_29 : insAt 57 29 = some (.putfield 19, 3, (10, 3, 0, 0), 0) := rfl
theorem s57_29 {c : Nat → List AV → SS → Option Out} {l0 l1 : Option AV} {j t : Nat} {x : Int32} {L2 : List (Nat × AV)} {St : List AV} {S : SS} : ev c 57 29 [l0, l1] L2 (aI x :: aR (10, j, t) :: St) S = ev c 57 32 [l0, l1] L2 St (setI S.1 (10, j, t) 3 x, S.2) := ev_go i57_29 rfl
theorem i57_32 : insAt 57 32 = some (.aload_n 0, 1, (0, 0, 0, 0), 0) := rfl
theorem s57_32 {c : Nat → List AV → SS → Option Out} {l1 : Option AV} {o : OId} {L2 : List (Nat × AV)} {St : List AV} {S : SS} : ev c 57 32 [some (aR o), l1] L2 St S = ev c 57 33 [some (aR o), l1] L2 (aR o :: St) S := ev_go i57_32 rfl
theorem i57_33 : insAt 57 33 = some (.aload_n 1, 1, (0, 0, 0, 0), 0) := rfl
theorem s57_33 {c : Nat → List AV → SS → Option Out} {l0 : Option AV} {o : OId} {L2 : List (Nat × AV)} {St : List AV} {S : SS} : ev c 57 33 [l0, some (aR o)] L2 St S = ev c 57 34 [l0, some (aR o)] L2 (aR o :: St) S := ev_go i57_33 rfl
theorem i57_34 : insAt 57 34 = some (.getfield 22, 3, (10, 4, 0, 0), 0) := rfl
theorem s57_34 {c : Nat → List AV → SS → Option Out} {l0 l1 : Option AV} {j t : Nat} {L2 : List (Nat × AV)} {St : List AV} {S : SS} : ev c 57 34 [l0, l1] L2 (aR (10, j, t) :: St) S = ev c 57 37 [l0, l1] L2 (aI (S.1 (10, j, t) 4) :: St) S := ev_go i57_34 rfl
theorem i57_37 : insAt 57 37 = some (.putfield 22, 3, (10, 4, 0, 0), 0) := rfl
theorem s57_37 {c : Nat → List AV → SS → Option Out} {l0 l1 : Option AV} {j t : Nat} {x : Int32} {L2 : List (Nat × AV)} {St : List AV} {S : SS} : ev c 57 37 [l0, l1] L2 (aI x :: aR (10, j, t) :: St) S = ev c 57 40 [l0, l1] L2 St (setI S.1 (10, j, t) 4 x, S.2) := ev_go i57_37 rfl
theorem i57_40 : insAt 57 40 = some (.aload_n 0, 1, (0, 0, 0, 0), 0) := rfl
theorem s57_40 {c : Nat → List AV → SS → Option Out} {l1 : Option AV} {o : OId} {L2 : List (Nat × AV)} {St : List AV} {S : SS} : ev c 57 40 [some (aR o), l1] L2 St S = ev c 57 41 [some (aR o), l1] L2 (aR o :: St) S := ev_go i57_40 rfl
theorem i57_41 : insAt 57 41 = some (.aload_n 1, 1, (0, 0, 0, 0), 0) := rfl
theorem s57_41 {c : Nat → List AV → SS → Option Out} {l0 : Option AV} {o : OId} {L2 : List (Nat × AV)} {St : List AV} {S : SS} : ev c 57 41 [l0, some (aR o)] L2 St S = ev c 57 42 [l0, some (aR o)] L2 (aR o :: St) S := ev_go i57_41 rfl
theorem i57_42 : insAt 57 42 = some (.getfield 25, 3, (10, 5, 0, 0), 0) := rfl
theorem s57_42 {c : Nat → List AV → SS → Option Out} {l0 l1 : Option AV} {j t : Nat} {L2 : List (Nat × AV)} {St : List AV} {S : SS} : ev c 57 42 [l0, l1] L2 (aR (10, j, t) :: St) S = ev c 57 45 [l0, l1] L2 (aI (bb (S.1 (10, j, t) 5)) :: St) S := ev_go i57_42 rfl
theorem i57_45 : insAt 57 45 = some (.putfield 25, 3, (10, 5, 0, 0), 0) := rfl
theorem s57_45 {c : Nat → List AV → SS → Option Out} {l0 l1 : Option AV} {j t : Nat} {x : Int32} {L2 : List (Nat × AV)} {St : List AV} {S : SS} : ev c 57 45 [l0, l1] L2 (aI x :: aR (10, j, t) :: St) S = if x = 0 ∨ x = 1 then ev c 57 48 [l0, l1] L2 St (setI S.1 (10, j, t) 5 x, S.2) else none := ev_if i57_45 rfl
theorem i57_48 : insAt 57 48 = some (.return_, 1, (0, 0, 0, 0), 0) := rfl
theorem s57_48 {c : Nat → List AV → SS → Option Out} {l0 l1 : Option AV} {L2 : List (Nat × AV)} {St : List AV} {S : SS} : ev c 57 48 [l0, l1] L2 [] S = some (.inl none, S) := ev_end i57_48 rfl
theorem m57 {d : Nat} {o : OId} {a0 : OId} {S : SS} : evm (d + 1) 57 [aR o, aR a0] S = ev (evm d) 57 0 [some (aR o), some (aR a0)] [] [] S := evm_s (n := 2) rfl (Nat.le_of_ble_eq_true rfl) rfl rfl
/-! FrequencyOffice$Plan.take(LFrequencyOffice$Plan;)V -/
theorem i58_0 : insAt 58 0 = some (.aload_n 0, 1, (0, 0, 0, 0), 0) := rfl
theorem s58_0 {c : Nat → List AV → SS → Option Out} {l1 : Option AV} {o : OId} {L2 : List (Nat × AV)} {St : List AV} {S : SS} : ev c 58 0 [some (aR o), l1] L2 St S = ev c 58 1 [some (aR o), l1] L2 (aR o :: St) S := ev_go i58_0 rfl
theorem i58_1 : insAt 58 1 = some (.aload_n 1, 1, (0, 0, 0, 0), 0) := rfl
theorem s58_1 {c : Nat → List AV → SS → Option Out} {l0 : Option AV} {o : OId} {L2 : List (Nat × AV)} {St : List AV} {S : SS} : ev c 58 1 [l0, some (aR o)] L2 St S = ev c 58 2 [l0, some (aR o)] L2 (aR o :: St) S := ev_go i58_1 rfl
theorem i58_2 : insAt 58 2 = some (.getfield 9, 3, (7, 0, 0, 0), 0) := rfl
theorem s58_2 {c : Nat → List AV → SS → Option Out} {l0 l1 : Option AV} {j t : Nat} {L2 : List (Nat × AV)} {St : List AV} {S : SS} : ev c 58 2 [l0, l1] L2 (aR (7, j, t) :: St) S = ev c 58 5 [l0, l1] L2 (aI (S.1 (7, j, t) 0) :: St) S := ev_go i58_2 rfl
theorem i58_5 : insAt 58 5 = some (.putfield 9, 3, (7, 0, 0, 0), 0) := rfl
theorem s58_5 {c : Nat → List AV → SS → Option Out} {l0 l1 : Option AV} {j t : Nat} {x : Int32} {L2 : List (Nat × AV)} {St : List AV} {S : SS} : ev c 58 5 [l0, l1] L2 (aI x :: aR (7, j, t) :: St) S = ev c 58 8 [l0, l1] L2 St (setI S.1 (7, j, t) 0 x, S.2) := ev_go i58_5 rfl
theorem i58_8 : insAt 58 8 = some (.aload_n 0, 1, (0, 0, 0, 0), 0) := rfl
theorem s58_8 {c : Nat → List AV → SS → Option Out} {l1 : Option AV} {o : OId} {L2 : List (Nat × AV)} {St : List AV} {S : SS} : ev c 58 8 [some (aR o), l1] L2 St S = ev c 58 9 [some (aR o), l1] L2 (aR o :: St) S := ev_go i58_8 rfl
theorem i58_9 : insAt 58 9 = some (.aload_n 1, 1, (0, 0, 0, 0), 0) := rfl
theorem s58_9 {c : Nat → List AV → SS → Option Out} {l0 : Option AV} {o : OId} {L2 : List (Nat × AV)} {St : List AV} {S : SS} : ev c 58 9 [l0, some (aR o)] L2 St S = ev c 58 10 [l0, some (aR o)] L2 (aR o :: St) S := ev_go i58_9 rfl
theorem i58_10 : insAt 58 10 = some (.getfield 15, 3, (7, 1, 0, 0), 0) := rfl
theorem s58_10 {c : Nat → List AV → SS → Option Out} {l0 l1 : Option AV} {j t : Nat} {L2 : List (Nat × AV)} {St : List AV} {S : SS} : ev c 58 10 [l0, l1] L2 (aR (7, j, t) :: St) S = ev c 58 13 [l0, l1] L2 (aI (S.1 (7, j, t) 1) :: St) S := ev_go i58_10 rfl
theorem i58_13 : insAt 58 13 = some (.putfield 15, 3, (7, 1, 0, 0), 0) := rfl
theorem s58_13 {c : Nat → List AV → SS → Option Out} {l0 l1 : Option AV} {j t : Nat} {x : Int32} {L2 : List (Nat × AV)} {St : List AV} {S : SS} : ev c 58 13 [l0, l1] L2 (aI x :: aR (7, j, t) :: St) S = ev c 58 16 [l0, l1] L2 St (setI S.1 (7, j, t) 1 x, S.2) := ev_go i58_13 rfl
theorem i58_16 : insAt 58 16 = some (.aload_n 1, 1, (0, 0, 0, 0), 0) := rfl
theorem s58_16 {c : Nat → List AV → SS → Option Out} {l0 : Option AV} {o : OId} {L2 : List (Nat × AV)} {St : List AV} {S : SS} : ev c 58 16 [l0, some (aR o)] L2 St S = ev c 58 17 [l0, some (aR o)] L2 (aR o :: St) S := ev_go i58_16 rfl
theorem i58_17 : insAt 58 17 = some (.getfield 18, 3, (7, 2, 0, 0), 0) := rfl
theorem s58_17 {c : Nat → List AV → SS → Option Out} {l0 l1 : Option AV} {j t : Nat} {L2 : List (Nat × AV)} {St : List AV} {S : SS} : ev c 58 17 [l0, l1] L2 (aR (7, j, t) :: St) S = ev c 58 20 [l0, l1] L2 (S.2.2.1 (7, j, t) 2 :: St) S := ev_go i58_17 rfl
theorem i58_20 : insAt 58 20 = some (.iconst 0, 1, (0, 0, 0, 0), 0) := rfl
theorem s58_20 {c : Nat → List AV → SS → Option Out} {l0 l1 : Option AV} {L2 : List (Nat × AV)} {St : List AV} {S : SS} : ev c 58 20 [l0, l1] L2 St S = ev c 58 21 [l0, l1] L2 (aI 0 :: St) S := ev_go i58_20 rfl
theorem i58_21 : insAt 58 21 = some (.aload_n 0, 1, (0, 0, 0, 0), 0) := rfl
theorem s58_21 {c : Nat → List AV → SS → Option Out} {l1 : Option AV} {o : OId} {L2 : List (Nat × AV)} {St : List AV} {S : SS} : ev c 58 21 [some (aR o), l1] L2 St S = ev c 58 22 [some (aR o), l1] L2 (aR o :: St) S := ev_go i58_21 rfl
theorem i58_22 : insAt 58 22 = some (.getfield 18, 3, (7, 2, 0, 0), 0) := rfl
theorem s58_22 {c : Nat → List AV → SS → Option Out} {l0 l1 : Option AV} {j t : Nat} {L2 : List (Nat × AV)} {St : List AV} {S : SS} : ev c 58 22 [l0, l1] L2 (aR (7, j, t) :: St) S = ev c 58 25 [l0, l1] L2 (S.2.2.1 (7, j, t) 2 :: St) S := ev_go i58_22 rfl
theorem i58_25 : insAt 58 25 = some (.iconst 0, 1, (0, 0, 0, 0), 0) := rfl
theorem s58_25 {c : Nat → List AV → SS → Option Out} {l0 l1 : Option AV} {L2 : List (Nat × AV)} {St : List AV} {S : SS} : ev c 58 25 [l0, l1] L2 St S = ev c 58 26 [l0, l1] L2 (aI 0 :: St) S := ev_go i58_25 rfl
theorem i58_26 : insAt 58 26 = some (.iconst 2, 1, (0, 0, 0, 0), 0) := rfl
theorem s58_26 {c : Nat → List AV → SS → Option Out} {l0 l1 : Option AV} {L2 : List (Nat × AV)} {St : List AV} {S : SS} : ev c 58 26 [l0, l1] L2 St S = ev c 58 27 [l0, l1] L2 (aI 2 :: St) S := ev_go i58_26 rfl
theorem i58_27 : insAt 58 27 = some (.invokestatic 28, 3, (0, 5, 21, 0), 0) := rfl
theorem s58_27 {c : Nat → List AV → SS → Option Out} {l0 l1 : Option AV} {x dp sp : Int32} {d s : OId} {L2 : List (Nat × AV)} {S : SS} : ev c 58 27 [l0, l1] L2 [aI x, aI dp, aR d, aI sp, aR s] S = kA (acp S s sp d dp x) (fun S' => ev c 58 30 [l0, l1] L2 [] S') := ev_acopy rfl i58_27 (by decide)
theorem i58_30 : insAt 58 30 = some (.aload_n 1, 1, (0, 0, 0, 0), 0) := rfl
theorem s58_30 {c : Nat → List AV → SS → Option Out} {l0 : Option AV} {o : OId} {L2 : List (Nat × AV)} {St : List AV} {S : SS} : ev c 58 30 [l0, some (aR o)] L2 St S = ev c 58 31 [l0, some (aR o)] L2 (aR o :: St) S := ev_go i58_30 rfl
theorem i58_31 : insAt 58 31 = some (.getfield 22, 3, (7, 3, 0, 0), 0) := rfl
theorem s58_31 {c : Nat → List AV → SS → Option Out} {l0 l1 : Option AV} {j t : Nat} {L2 : List (Nat × AV)} {St : List AV} {S : SS} : ev c 58 31 [l0, l1] L2 (aR (7, j, t) :: St) S = ev c 58 34 [l0, l1] L2 (S.2.2.1 (7, j, t) 3 :: St) S := ev_go i58_31 rfl
theorem i58_34 : insAt 58 34 = some (.iconst 0, 1, (0, 0, 0, 0), 0) := rfl
theorem s58_34 {c : Nat → List AV → SS → Option Out} {l0 l1 : Option AV} {L2 : List (Nat × AV)} {St : List AV} {S : SS} : ev c 58 34 [l0, l1] L2 St S = ev c 58 35 [l0, l1] L2 (aI 0 :: St) S := ev_go i58_34 rfl
theorem i58_35 : insAt 58 35 = some (.aload_n 0, 1, (0, 0, 0, 0), 0) := rfl
theorem s58_35 {c : Nat → List AV → SS → Option Out} {l1 : Option AV} {o : OId} {L2 : List (Nat × AV)} {St : List AV} {S : SS} : ev c 58 35 [some (aR o), l1] L2 St S = ev c 58 36 [some (aR o), l1] L2 (aR o :: St) S := ev_go i58_35 rfl
theorem i58_36 : insAt 58 36 = some (.getfield 22, 3, (7, 3, 0, 0), 0) := rfl
theorem s58_36 {c : Nat → List AV → SS → Option Out} {l0 l1 : Option AV} {j t : Nat} {L2 : List (Nat × AV)} {St : List AV} {S : SS} : ev c 58 36 [l0, l1] L2 (aR (7, j, t) :: St) S = ev c 58 39 [l0, l1] L2 (S.2.2.1 (7, j, t) 3 :: St) S := ev_go i58_36 rfl
theorem i58_39 : insAt 58 39 = some (.iconst 0, 1, (0, 0, 0, 0), 0) := rfl
theorem s58_39 {c : Nat → List AV → SS → Option Out} {l0 l1 : Option AV} {L2 : List (Nat × AV)} {St : List AV} {S : SS} : ev c 58 39 [l0, l1] L2 St S = ev c 58 40 [l0, l1] L2 (aI 0 :: St) S := ev_go i58_39 rfl
theorem i58_40 : insAt 58 40 = some (.iconst 2, 1, (0, 0, 0, 0), 0) := rfl
theorem s58_40 {c : Nat → List AV → SS → Option Out} {l0 l1 : Option AV} {L2 : List (Nat × AV)} {St : List AV} {S : SS} : ev c 58 40 [l0, l1] L2 St S = ev c 58 41 [l0, l1] L2 (aI 2 :: St) S := ev_go i58_40 rfl
theorem i58_41 : insAt 58 41 = some (.invokestatic 28, 3, (0, 5, 21, 0), 0) := rfl
theorem s58_41 {c : Nat → List AV → SS → Option Out} {l0 l1 : Option AV} {x dp sp : Int32} {d s : OId} {L2 : List (Nat × AV)} {S : SS} : ev c 58 41 [l0, l1] L2 [aI x, aI dp, aR d, aI sp, aR s] S = kA (acp S s sp d dp x) (fun S' => ev c 58 44 [l0, l1] L2 [] S') := ev_acopy rfl i58_41 (by decide)
theorem i58_44 : insAt 58 44 = some (.aload_n 1, 1, (0, 0, 0, 0), 0) := rfl
theorem s58_44 {c : Nat → List AV → SS → Option Out} {l0 : Option AV} {o : OId} {L2 : List (Nat × AV)} {St : List AV} {S : SS} : ev c 58 44 [l0, some (aR o)] L2 St S = ev c 58 45 [l0, some (aR o)] L2 (aR o :: St) S := ev_go i58_44 rfl
theorem i58_45 : insAt 58 45 = some (.getfield 25, 3, (7, 4, 0, 0), 0) := rfl
theorem s58_45 {c : Nat → List AV → SS → Option Out} {l0 l1 : Option AV} {j t : Nat} {L2 : List (Nat × AV)} {St : List AV} {S : SS} : ev c 58 45 [l0, l1] L2 (aR (7, j, t) :: St) S = ev c 58 48 [l0, l1] L2 (S.2.2.1 (7, j, t) 4 :: St) S := ev_go i58_45 rfl
theorem i58_48 : insAt 58 48 = some (.iconst 0, 1, (0, 0, 0, 0), 0) := rfl
theorem s58_48 {c : Nat → List AV → SS → Option Out} {l0 l1 : Option AV} {L2 : List (Nat × AV)} {St : List AV} {S : SS} : ev c 58 48 [l0, l1] L2 St S = ev c 58 49 [l0, l1] L2 (aI 0 :: St) S := ev_go i58_48 rfl
theorem i58_49 : insAt 58 49 = some (.aload_n 0, 1, (0, 0, 0, 0), 0) := rfl
theorem s58_49 {c : Nat → List AV → SS → Option Out} {l1 : Option AV} {o : OId} {L2 : List (Nat × AV)} {St : List AV} {S : SS} : ev c 58 49 [some (aR o), l1] L2 St S = ev c 58 50 [some (aR o), l1] L2 (aR o :: St) S := ev_go i58_49 rfl
theorem i58_50 : insAt 58 50 = some (.getfield 25, 3, (7, 4, 0, 0), 0) := rfl
theorem s58_50 {c : Nat → List AV → SS → Option Out} {l0 l1 : Option AV} {j t : Nat} {L2 : List (Nat × AV)} {St : List AV} {S : SS} : ev c 58 50 [l0, l1] L2 (aR (7, j, t) :: St) S = ev c 58 53 [l0, l1] L2 (S.2.2.1 (7, j, t) 4 :: St) S := ev_go i58_50 rfl
theorem i58_53 : insAt 58 53 = some (.iconst 0, 1, (0, 0, 0, 0), 0) := rfl
theorem s58_53 {c : Nat → List AV → SS → Option Out} {l0 l1 : Option AV} {L2 : List (Nat × AV)} {St : List AV} {S : SS} : ev c 58 53 [l0, l1] L2 St S = ev c 58 54 [l0, l1] L2 (aI 0 :: St) S := ev_go i58_53 rfl
theorem i58_54 : insAt 58 54 = some (.iconst 2, 1, (0, 0, 0, 0), 0) := rfl
theorem s58_54 {c : Nat → List AV → SS → Option Out} {l0 l1 : Option AV} {L2 : List (Nat × AV)} {St : List AV} {S : SS} : ev c 58 54 [l0, l1] L2 St S = ev c 58 55 [l0, l1] L2 (aI 2 :: St) S := ev_go i58_54 rfl
theorem i58_55 : insAt 58 55 = some (.invokestatic 28, 3, (0, 5, 21, 0), 0) := rfl
theorem s58_55 {c : Nat → List AV → SS → Option Out} {l0 l1 : Option AV} {x dp sp : Int32} {d s : OId} {L2 : List (Nat × AV)} {S : SS} : ev c 58 55 [l0, l1] L2 [aI x, aI dp, aR d, aI sp, aR s] S = kA (acp S s sp d dp x) (fun S' => ev c 58 58 [l0, l1] L2 [] S') := ev_acopy rfl i58_55 (by decide)
theorem i58_58 : insAt 58 58 = some (.return_, 1, (0, 0, 0, 0), 0) := rfl
theorem s58_58 {c : Nat → List AV → SS → Option Out} {l0 l1 : Option AV} {L2 : List (Nat × AV)} {St : List AV} {S : SS} : ev c 58 58 [l0, l1] L2 [] S = some (.inl none, S) := ev_end i58_58 rfl
theorem m58 {d : Nat} {o : OId} {a0 : OId} {S : SS} : evm (d + 1) 58 [aR o, aR a0] S = ev (evm d) 58 0 [some (aR o), some (aR a0)] [] [] S := evm_s (n := 2) rfl (Nat.le_of_ble_eq_true rfl) rfl rfl
/-! FrequencyOffice$History.keep(LFrequencyOffice$Books;)V -/
theorem i62_0 : insAt 62 0 = some (.aload_n 0, 1, (0, 0, 0, 0), 0) := rfl
theorem s62_0 {c : Nat → List AV → SS → Option Out} {l1 l2 : Option AV} {o : OId} {L2 : List (Nat × AV)} {St : List AV} {S : SS} : ev c 62 0 [some (aR o), l1, l2] L2 St S = ev c 62 1 [some (aR o), l1, l2] L2 (aR o :: St) S := ev_go i62_0 rfl
theorem i62_1 : insAt 62 1 = some (.aload_n 0, 1, (0, 0, 0, 0), 0) := rfl
theorem s62_1 {c : Nat → List AV → SS → Option Out} {l1 l2 : Option AV} {o : OId} {L2 : List (Nat × AV)} {St : List AV} {S : SS} : ev c 62 1 [some (aR o), l1, l2] L2 St S = ev c 62 2 [some (aR o), l1, l2] L2 (aR o :: St) S := ev_go i62_1 rfl
theorem i62_2 : insAt 62 2 = some (.getfield 17, 3, (5, 1, 0, 0), 0) := rfl
theorem s62_2 {c : Nat → List AV → SS → Option Out} {l0 l1 l2 : Option AV} {j t : Nat} {L2 : List (Nat × AV)} {St : List AV} {S : SS} : ev c 62 2 [l0, l1, l2] L2 (aR (5, j, t) :: St) S = ev c 62 5 [l0, l1, l2] L2 (aI (S.1 (5, j, t) 1) :: St) S := ev_go i62_2 rfl
theorem i62_5 : insAt 62 5 = some (.invokevirtual 25, 3, (63, 1, 2, 5), 0) := rfl
theorem s62_5 {c : Nat → List AV → SS → Option Out} {l0 l1 l2 : Option AV} {a0 : Int32} {j t : Nat} {L2 : List (Nat × AV)} {S : SS} : ev c 62 5 [l0, l1, l2] L2 [aI a0, aR (5, j, t)] S = ck (c 63 [aR (5, j, t), aI a0] S) (fun v S' => ev c 62 8 [l0, l1, l2] L2 (v.toList ++ []) S') := ev_call i62_5 rfl
theorem i62_8 : insAt 62 8 = some (.astore_n 2, 1, (0, 0, 0, 0), 0) := rfl
theorem s62_8 {c : Nat → List AV → SS → Option Out} {l0 l1 l2 : Option AV} {o : OId} {L2 : List (Nat × AV)} {St : List AV} {S : SS} : ev c 62 8 [l0, l1, l2] L2 (aR o :: St) S = ev c 62 9 [l0, l1, some (aR o)] (kil L2 2) St S := ev_go i62_8 rfl
theorem i62_9 : insAt 62 9 = some (.aload_n 2, 1, (0, 0, 0, 0), 0) := rfl
theorem s62_9 {c : Nat → List AV → SS → Option Out} {l0 l1 : Option AV} {o : OId} {L2 : List (Nat × AV)} {St : List AV} {S : SS} : ev c 62 9 [l0, l1, some (aR o)] L2 St S = ev c 62 10 [l0, l1, some (aR o)] L2 (aR o :: St) S := ev_go i62_9 rfl
theorem i62_10 : insAt 62 10 = some (.ifnull 8, 3, (0, 0, 0, 0), 0) := rfl
theorem s62_10 {c : Nat → List AV → SS → Option Out} {l0 l1 l2 : Option AV} {j t : Nat} {L2 : List (Nat × AV)} {St : List AV} {S : SS} : ev c 62 10 [l0, l1, l2] L2 (aR (4, j, t) :: St) S = ev c 62 13 [l0, l1, l2] L2 St S := ev_go i62_10 rfl
theorem s62_10N {c : Nat → List AV → SS → Option Out} {l0 l1 l2 : Option AV} {L2 : List (Nat × AV)} {St : List AV} {S : SS} : ev c 62 10 [l0, l1, l2] L2 (aN :: St) S = ev c 62 18 [l0, l1, l2] L2 St S := ev_go i62_10 rfl
theorem i62_13 : insAt 62 13 = some (.aload_n 2, 1, (0, 0, 0, 0), 0) := rfl
theorem s62_13 {c : Nat → List AV → SS → Option Out} {l0 l1 : Option AV} {o : OId} {L2 : List (Nat × AV)} {St : List AV} {S : SS} : ev c 62 13 [l0, l1, some (aR o)] L2 St S = ev c 62 14 [l0, l1, some (aR o)] L2 (aR o :: St) S := ev_go i62_13 rfl
theorem i62_14 : insAt 62 14 = some (.aload_n 1, 1, (0, 0, 0, 0), 0) := rfl
theorem s62_14 {c : Nat → List AV → SS → Option Out} {l0 l2 : Option AV} {o : OId} {L2 : List (Nat × AV)} {St : List AV} {S : SS} : ev c 62 14 [l0, some (aR o), l2] L2 St S = ev c 62 15 [l0, some (aR o), l2] L2 (aR o :: St) S := ev_go i62_14 rfl
theorem i62_15 : insAt 62 15 = some (.invokevirtual 29, 3, (56, 1, 3, 4), 0) := rfl
theorem s62_15 {c : Nat → List AV → SS → Option Out} {l0 l1 l2 : Option AV} {a0 : OId} {j t : Nat} {L2 : List (Nat × AV)} {S : SS} : ev c 62 15 [l0, l1, l2] L2 [aR a0, aR (4, j, t)] S = ck (c 56 [aR (4, j, t), aR a0] S) (fun v S' => ev c 62 18 [l0, l1, l2] L2 (v.toList ++ []) S') := ev_call i62_15 rfl
theorem i62_18 : insAt 62 18 = some (.aload_n 0, 1, (0, 0, 0, 0), 0) := rfl
theorem s62_18 {c : Nat → List AV → SS → Option Out} {l1 l2 : Option AV} {o : OId} {L2 : List (Nat × AV)} {St : List AV} {S : SS} : ev c 62 18 [some (aR o), l1, l2] L2 St S = ev c 62 19 [some (aR o), l1, l2] L2 (aR o :: St) S := ev_go i62_18 rfl
theorem i62_19 : insAt 62 19 = some (.aload_n 0, 1, (0, 0, 0, 0), 0) := rfl
theorem s62_19 {c : Nat → List AV → SS → Option Out} {l1 l2 : Option AV} {o : OId} {L2 : List (Nat × AV)} {St : List AV} {S : SS} : ev c 62 19 [some (aR o), l1, l2] L2 St S = ev c 62 20 [some (aR o), l1, l2] L2 (aR o :: St) S := ev_go i62_19 rfl
theorem i62_20 : insAt 62 20 = some (.getfield 17, 3, (5, 1, 0, 0), 0) := rfl
theorem s62_20 {c : Nat → List AV → SS → Option Out} {l0 l1 l2 : Option AV} {j t : Nat} {L2 : List (Nat × AV)} {St : List AV} {S : SS} : ev c 62 20 [l0, l1, l2] L2 (aR (5, j, t) :: St) S = ev c 62 23 [l0, l1, l2] L2 (aI (S.1 (5, j, t) 1) :: St) S := ev_go i62_20 rfl
theorem i62_23 : insAt 62 23 = some (.iconst 5, 1, (0, 0, 0, 0), 0) := rfl
theorem s62_23 {c : Nat → List AV → SS → Option Out} {l0 l1 l2 : Option AV} {L2 : List (Nat × AV)} {St : List AV} {S : SS} : ev c 62 23 [l0, l1, l2] L2 St S = ev c 62 24 [l0, l1, l2] L2 (aI 5 :: St) S := ev_go i62_23 rfl
theorem i62_24 : insAt 62 24 = some (.if_icmp .lt 7, 3, (0, 0, 0, 0), 0) := rfl
theorem s62_24 {c : Nat → List AV → SS → Option Out} {l0 l1 l2 : Option AV} {x y : Int32} {L2 : List (Nat × AV)} {St : List AV} {S : SS} : ev c 62 24 [l0, l1, l2] L2 (aI y :: aI x :: St) S = if x < y then ev c 62 31 [l0, l1, l2] L2 St S else ev c 62 27 [l0, l1, l2] L2 St S := ev_br i62_24 rfl
theorem i62_27 : insAt 62 27 = some (.iconst 0, 1, (0, 0, 0, 0), 0) := rfl
theorem s62_27 {c : Nat → List AV → SS → Option Out} {l0 l1 l2 : Option AV} {L2 : List (Nat × AV)} {St : List AV} {S : SS} : ev c 62 27 [l0, l1, l2] L2 St S = ev c 62 28 [l0, l1, l2] L2 (aI 0 :: St) S := ev_go i62_27 rfl
theorem i62_28 : insAt 62 28 = some (.goto 9, 3, (0, 0, 0, 0), 0) := rfl
theorem s62_28 {c : Nat → List AV → SS → Option Out} {l0 l1 l2 : Option AV} {L2 : List (Nat × AV)} {St : List AV} {S : SS} : ev c 62 28 [l0, l1, l2] L2 St S = ev c 62 37 [l0, l1, l2] L2 St S := ev_go i62_28 rfl
theorem i62_31 : insAt 62 31 = some (.aload_n 0, 1, (0, 0, 0, 0), 0) := rfl
theorem s62_31 {c : Nat → List AV → SS → Option Out} {l1 l2 : Option AV} {o : OId} {L2 : List (Nat × AV)} {St : List AV} {S : SS} : ev c 62 31 [some (aR o), l1, l2] L2 St S = ev c 62 32 [some (aR o), l1, l2] L2 (aR o :: St) S := ev_go i62_31 rfl
theorem i62_32 : insAt 62 32 = some (.getfield 17, 3, (5, 1, 0, 0), 0) := rfl
theorem s62_32 {c : Nat → List AV → SS → Option Out} {l0 l1 l2 : Option AV} {j t : Nat} {L2 : List (Nat × AV)} {St : List AV} {S : SS} : ev c 62 32 [l0, l1, l2] L2 (aR (5, j, t) :: St) S = ev c 62 35 [l0, l1, l2] L2 (aI (S.1 (5, j, t) 1) :: St) S := ev_go i62_32 rfl
theorem i62_35 : insAt 62 35 = some (.iconst 1, 1, (0, 0, 0, 0), 0) := rfl
theorem s62_35 {c : Nat → List AV → SS → Option Out} {l0 l1 l2 : Option AV} {L2 : List (Nat × AV)} {St : List AV} {S : SS} : ev c 62 35 [l0, l1, l2] L2 St S = ev c 62 36 [l0, l1, l2] L2 (aI 1 :: St) S := ev_go i62_35 rfl
theorem i62_36 : insAt 62 36 = some (.iadd, 1, (0, 0, 0, 0), 0) := rfl
theorem s62_36 {c : Nat → List AV → SS → Option Out} {l0 l1 l2 : Option AV} {x y : Int32} {L2 : List (Nat × AV)} {St : List AV} {S : SS} : ev c 62 36 [l0, l1, l2] L2 (aI y :: aI x :: St) S = ev c 62 37 [l0, l1, l2] L2 (aI (x + y) :: St) S := ev_go i62_36 rfl
theorem i62_37 : insAt 62 37 = some (.putfield 17, 3, (5, 1, 0, 0), 0) := rfl
theorem s62_37 {c : Nat → List AV → SS → Option Out} {l0 l1 l2 : Option AV} {j t : Nat} {x : Int32} {L2 : List (Nat × AV)} {St : List AV} {S : SS} : ev c 62 37 [l0, l1, l2] L2 (aI x :: aR (5, j, t) :: St) S = ev c 62 40 [l0, l1, l2] L2 St (setI S.1 (5, j, t) 1 x, S.2) := ev_go i62_37 rfl
theorem i62_40 : insAt 62 40 = some (.aload_n 0, 1, (0, 0, 0, 0), 0) := rfl
theorem s62_40 {c : Nat → List AV → SS → Option Out} {l1 l2 : Option AV} {o : OId} {L2 : List (Nat × AV)} {St : List AV} {S : SS} : ev c 62 40 [some (aR o), l1, l2] L2 St S = ev c 62 41 [some (aR o), l1, l2] L2 (aR o :: St) S := ev_go i62_40 rfl
theorem i62_41 : insAt 62 41 = some (.aload_n 0, 1, (0, 0, 0, 0), 0) := rfl
theorem s62_41 {c : Nat → List AV → SS → Option Out} {l1 l2 : Option AV} {o : OId} {L2 : List (Nat × AV)} {St : List AV} {S : SS} : ev c 62 41 [some (aR o), l1, l2] L2 St S = ev c 62 42 [some (aR o), l1, l2] L2 (aR o :: St) S := ev_go i62_41 rfl
theorem i62_42 : insAt 62 42 = some (.getfield 21, 3, (5, 2, 0, 0), 0) := rfl
theorem s62_42 {c : Nat → List AV → SS → Option Out} {l0 l1 l2 : Option AV} {j t : Nat} {L2 : List (Nat × AV)} {St : List AV} {S : SS} : ev c 62 42 [l0, l1, l2] L2 (aR (5, j, t) :: St) S = ev c 62 45 [l0, l1, l2] L2 (aI (S.1 (5, j, t) 2) :: St) S := ev_go i62_42 rfl
theorem i62_45 : insAt 62 45 = some (.iconst 1, 1, (0, 0, 0, 0), 0) := rfl
theorem s62_45 {c : Nat → List AV → SS → Option Out} {l0 l1 l2 : Option AV} {L2 : List (Nat × AV)} {St : List AV} {S : SS} : ev c 62 45 [l0, l1, l2] L2 St S = ev c 62 46 [l0, l1, l2] L2 (aI 1 :: St) S := ev_go i62_45 rfl
theorem i62_46 : insAt 62 46 = some (.iadd, 1, (0, 0, 0, 0), 0) := rfl
theorem s62_46 {c : Nat → List AV → SS → Option Out} {l0 l1 l2 : Option AV} {x y : Int32} {L2 : List (Nat × AV)} {St : List AV} {S : SS} : ev c 62 46 [l0, l1, l2] L2 (aI y :: aI x :: St) S = ev c 62 47 [l0, l1, l2] L2 (aI (x + y) :: St) S := ev_go i62_46 rfl
theorem i62_47 : insAt 62 47 = some (.bipush 6, 2, (0, 0, 0, 0), 0) := rfl
theorem s62_47 {c : Nat → List AV → SS → Option Out} {l0 l1 l2 : Option AV} {L2 : List (Nat × AV)} {St : List AV} {S : SS} : ev c 62 47 [l0, l1, l2] L2 St S = ev c 62 49 [l0, l1, l2] L2 (aI 6 :: St) S := ev_go i62_47 rfl
theorem i62_49 : insAt 62 49 = some (.invokestatic 33, 3, (53, 2, 0, 0), 0) := rfl
theorem s62_49 {c : Nat → List AV → SS → Option Out} {l0 l1 l2 : Option AV} {t0 : AV} {a0 : Int32} {a1 : Int32} {L2 : List (Nat × AV)} {S : SS} : ev c 62 49 [l0, l1, l2] L2 [aI a1, aI a0, t0] S = ck (c 53 [aI a0, aI a1] S) (fun v S' => ev c 62 52 [l0, l1, l2] L2 (v.toList ++ [t0]) S') := ev_call i62_49 rfl
theorem i62_52 : insAt 62 52 = some (.putfield 21, 3, (5, 2, 0, 0), 0) := rfl
theorem s62_52 {c : Nat → List AV → SS → Option Out} {l0 l1 l2 : Option AV} {j t : Nat} {x : Int32} {L2 : List (Nat × AV)} {St : List AV} {S : SS} : ev c 62 52 [l0, l1, l2] L2 (aI x :: aR (5, j, t) :: St) S = ev c 62 55 [l0, l1, l2] L2 St (setI S.1 (5, j, t) 2 x, S.2) := ev_go i62_52 rfl
theorem i62_55 : insAt 62 55 = some (.return_, 1, (0, 0, 0, 0), 0) := rfl
theorem s62_55 {c : Nat → List AV → SS → Option Out} {l0 l1 l2 : Option AV} {L2 : List (Nat × AV)} {St : List AV} {S : SS} : ev c 62 55 [l0, l1, l2] L2 [] S = some (.inl none, S) := ev_end i62_55 rfl
theorem m62 {d : Nat} {o : OId} {a0 : OId} {S : SS} : evm (d + 1) 62 [aR o, aR a0] S = ev (evm d) 62 0 [some (aR o), some (aR a0), none] [] [] S := evm_s (n := 3) rfl (Nat.le_of_ble_eq_true rfl) rfl rfl
/-! FrequencyOffice$History.pastAt(I)LFrequencyOffice$Books; -/
theorem i63_0 : insAt 63 0 = some (.iload_n 1, 1, (0, 0, 0, 0), 0) := rfl
theorem s63_0 {c : Nat → List AV → SS → Option Out} {l0 : Option AV} {x : Int32} {L2 : List (Nat × AV)} {St : List AV} {S : SS} : ev c 63 0 [l0, some (aI x)] L2 St S = ev c 63 1 [l0, some (aI x)] L2 (aI x :: St) S := ev_go i63_0 rfl
theorem i63_1 : insAt 63 1 = some (.ifCond .lt 21, 3, (0, 0, 0, 0), 0) := rfl
theorem s63_1 {c : Nat → List AV → SS → Option Out} {l0 l1 : Option AV} {x : Int32} {L2 : List (Nat × AV)} {St : List AV} {S : SS} : ev c 63 1 [l0, l1] L2 (aI x :: St) S = if x < 0 then ev c 63 22 [l0, l1] L2 St S else ev c 63 4 [l0, l1] L2 St S := ev_br i63_1 rfl
theorem i63_4 : insAt 63 4 = some (.iload_n 1, 1, (0, 0, 0, 0), 0) := rfl
theorem s63_4 {c : Nat → List AV → SS → Option Out} {l0 : Option AV} {x : Int32} {L2 : List (Nat × AV)} {St : List AV} {S : SS} : ev c 63 4 [l0, some (aI x)] L2 St S = ev c 63 5 [l0, some (aI x)] L2 (aI x :: St) S := ev_go i63_4 rfl
theorem i63_5 : insAt 63 5 = some (.aload_n 0, 1, (0, 0, 0, 0), 0) := rfl
theorem s63_5 {c : Nat → List AV → SS → Option Out} {l1 : Option AV} {o : OId} {L2 : List (Nat × AV)} {St : List AV} {S : SS} : ev c 63 5 [some (aR o), l1] L2 St S = ev c 63 6 [some (aR o), l1] L2 (aR o :: St) S := ev_go i63_5 rfl
theorem i63_6 : insAt 63 6 = some (.getfield 11, 3, (5, 0, 0, 0), 0) := rfl
theorem s63_6 {c : Nat → List AV → SS → Option Out} {l0 l1 : Option AV} {j t : Nat} {L2 : List (Nat × AV)} {St : List AV} {S : SS} : ev c 63 6 [l0, l1] L2 (aR (5, j, t) :: St) S = ev c 63 9 [l0, l1] L2 (S.2.2.1 (5, j, t) 0 :: St) S := ev_go i63_6 rfl
theorem i63_9 : insAt 63 9 = some (.arraylength, 1, (0, 0, 0, 0), 0) := rfl
theorem s63_9 {c : Nat → List AV → SS → Option Out} {l0 l1 : Option AV} {o : OId} {L2 : List (Nat × AV)} {St : List AV} {S : SS} : ev c 63 9 [l0, l1] L2 (aR o :: St) S = kN o (fun x => ev c 63 10 [l0, l1] L2 (aI x :: St) S) := ev_alen i63_9
theorem i63_10 : insAt 63 10 = some (.if_icmp .ge 12, 3, (0, 0, 0, 0), 0) := rfl
theorem s63_10 {c : Nat → List AV → SS → Option Out} {l0 l1 : Option AV} {x y : Int32} {L2 : List (Nat × AV)} {St : List AV} {S : SS} : ev c 63 10 [l0, l1] L2 (aI y :: aI x :: St) S = if y ≤ x then ev c 63 22 [l0, l1] L2 St S else ev c 63 13 [l0, l1] L2 St S := ev_br i63_10 rfl
theorem i63_13 : insAt 63 13 = some (.aload_n 0, 1, (0, 0, 0, 0), 0) := rfl
theorem s63_13 {c : Nat → List AV → SS → Option Out} {l1 : Option AV} {o : OId} {L2 : List (Nat × AV)} {St : List AV} {S : SS} : ev c 63 13 [some (aR o), l1] L2 St S = ev c 63 14 [some (aR o), l1] L2 (aR o :: St) S := ev_go i63_13 rfl
theorem i63_14 : insAt 63 14 = some (.getfield 11, 3, (5, 0, 0, 0), 0) := rfl
theorem s63_14 {c : Nat → List AV → SS → Option Out} {l0 l1 : Option AV} {j t : Nat} {L2 : List (Nat × AV)} {St : List AV} {S : SS} : ev c 63 14 [l0, l1] L2 (aR (5, j, t) :: St) S = ev c 63 17 [l0, l1] L2 (S.2.2.1 (5, j, t) 0 :: St) S := ev_go i63_14 rfl
theorem i63_17 : insAt 63 17 = some (.iload_n 1, 1, (0, 0, 0, 0), 0) := rfl
theorem s63_17 {c : Nat → List AV → SS → Option Out} {l0 : Option AV} {x : Int32} {L2 : List (Nat × AV)} {St : List AV} {S : SS} : ev c 63 17 [l0, some (aI x)] L2 St S = ev c 63 18 [l0, some (aI x)] L2 (aI x :: St) S := ev_go i63_17 rfl
theorem i63_18 : insAt 63 18 = some (.aaload, 1, (0, 0, 0, 0), 0) := rfl
theorem s63_18 {c : Nat → List AV → SS → Option Out} {l0 l1 : Option AV} {i : Int32} {o : OId} {L2 : List (Nat × AV)} {St : List AV} {S : SS} : ev c 63 18 [l0, l1] L2 (aI i :: aR o :: St) S = kQ o i (ev c 63 19 [l0, l1] L2 (S.2.2.1 o i.toNatClampNeg :: St) S) := ev_aaload i63_18
theorem i63_19 : insAt 63 19 = some (.goto 4, 3, (0, 0, 0, 0), 0) := rfl
theorem s63_19 {c : Nat → List AV → SS → Option Out} {l0 l1 : Option AV} {L2 : List (Nat × AV)} {St : List AV} {S : SS} : ev c 63 19 [l0, l1] L2 St S = ev c 63 23 [l0, l1] L2 St S := ev_go i63_19 rfl
theorem i63_22 : insAt 63 22 = some (.aconst_null, 1, (0, 0, 0, 0), 0) := rfl
theorem s63_22 {c : Nat → List AV → SS → Option Out} {l0 l1 : Option AV} {L2 : List (Nat × AV)} {St : List AV} {S : SS} : ev c 63 22 [l0, l1] L2 St S = ev c 63 23 [l0, l1] L2 (aN :: St) S := ev_go i63_22 rfl
theorem i63_23 : insAt 63 23 = some (.areturn, 1, (0, 0, 0, 0), 0) := rfl
theorem s63_23 {c : Nat → List AV → SS → Option Out} {l0 l1 : Option AV} {o : OId} {L2 : List (Nat × AV)} {St : List AV} {S : SS} : ev c 63 23 [l0, l1] L2 [aR o] S = some (.inl (some (aR o)), S) := ev_end i63_23 rfl
theorem s63_23N {c : Nat → List AV → SS → Option Out} {l0 l1 : Option AV} {L2 : List (Nat × AV)} {S : SS} : ev c 63 23 [l0, l1] L2 [aN] S = some (.inl (some aN), S) := ev_end i63_23 rfl
theorem m63 {d : Nat} {o : OId} {a0 : Int32} {S : SS} : evm (d + 1) 63 [aR o, aI a0] S = ev (evm d) 63 0 [some (aR o), some (aI a0)] [] [] S := evm_s (n := 2) rfl (Nat.le_of_ble_eq_true rfl) rfl rfl
/-! FrequencyOffice$Search.serveNew(LFrequencyOffice$Books;II)V -/
theorem i68_0 : insAt 68 0 = some (.aload_n 0, 1, (0, 0, 0, 0), 0) := rfl
theorem s68_0 {c : Nat → List AV → SS → Option Out} {l1 l2 l3 l4 l5 : Option AV} {o : OId} {L2 : List (Nat × AV)} {St : List AV} {S : SS} : ev c 68 0 [some (aR o), l1, l2, l3, l4, l5] L2 St S = ev c 68 1 [some (aR o), l1, l2, l3, l4, l5] L2 (aR o :: St) S := ev_go i68_0 rfl
theorem i68_1 : insAt 68 1 = some (.sipush 255, 3, (0, 0, 0, 0), 0) := rfl
theorem s68_1 {c : Nat → List AV → SS → Option Out} {l0 l1 l2 l3 l4 l5 : Option AV} {L2 : List (Nat × AV)} {St : List AV} {S : SS} : ev c 68 1 [l0, l1, l2, l3, l4, l5] L2 St S = ev c 68 4 [l0, l1, l2, l3, l4, l5] L2 (aI 255 :: St) S := ev_go i68_1 rfl
theorem i68_4 : insAt 68 4 = some (.putfield 29, 3, (8, 5, 0, 0), 0) := rfl
theorem s68_4 {c : Nat → List AV → SS → Option Out} {l0 l1 l2 l3 l4 l5 : Option AV} {j t : Nat} {x : Int32} {L2 : List (Nat × AV)} {St : List AV} {S : SS} : ev c 68 4 [l0, l1, l2, l3, l4, l5] L2 (aI x :: aR (8, j, t) :: St) S = ev c 68 7 [l0, l1, l2, l3, l4, l5] L2 St (setI S.1 (8, j, t) 5 x, S.2) := ev_go i68_4 rfl
theorem i68_7 : insAt 68 7 = some (.aload_n 0, 1, (0, 0, 0, 0), 0) := rfl
theorem s68_7 {c : Nat → List AV → SS → Option Out} {l1 l2 l3 l4 l5 : Option AV} {o : OId} {L2 : List (Nat × AV)} {St : List AV} {S : SS} : ev c 68 7 [some (aR o), l1, l2, l3, l4, l5] L2 St S = ev c 68 8 [some (aR o), l1, l2, l3, l4, l5] L2 (aR o :: St) S := ev_go i68_7 rfl
theorem i68_8 : insAt 68 8 = some (.iconst (-1), 1, (0, 0, 0, 0), 0) := rfl
theorem s68_8 {c : Nat → List AV → SS → Option Out} {l0 l1 l2 l3 l4 l5 : Option AV} {L2 : List (Nat × AV)} {St : List AV} {S : SS} : ev c 68 8 [l0, l1, l2, l3, l4, l5] L2 St S = ev c 68 9 [l0, l1, l2, l3, l4, l5] L2 (aI (-1) :: St) S := ev_go i68_8 rfl
theorem i68_9 : insAt 68 9 = some (.putfield 33, 3, (8, 6, 0, 0), 0) := rfl
theorem s68_9 {c : Nat → List AV → SS → Option Out} {l0 l1 l2 l3 l4 l5 : Option AV} {j t : Nat} {x : Int32} {L2 : List (Nat × AV)} {St : List AV} {S : SS} : ev c 68 9 [l0, l1, l2, l3, l4, l5] L2 (aI x :: aR (8, j, t) :: St) S = ev c 68 12 [l0, l1, l2, l3, l4, l5] L2 St (setI S.1 (8, j, t) 6 x, S.2) := ev_go i68_9 rfl
theorem i68_12 : insAt 68 12 = some (.aload_n 0, 1, (0, 0, 0, 0), 0) := rfl
theorem s68_12 {c : Nat → List AV → SS → Option Out} {l1 l2 l3 l4 l5 : Option AV} {o : OId} {L2 : List (Nat × AV)} {St : List AV} {S : SS} : ev c 68 12 [some (aR o), l1, l2, l3, l4, l5] L2 St S = ev c 68 13 [some (aR o), l1, l2, l3, l4, l5] L2 (aR o :: St) S := ev_go i68_12 rfl
theorem i68_13 : insAt 68 13 = some (.getfield 36, 3, (8, 0, 0, 0), 0) := rfl
theorem s68_13 {c : Nat → List AV → SS → Option Out} {l0 l1 l2 l3 l4 l5 : Option AV} {j t : Nat} {L2 : List (Nat × AV)} {St : List AV} {S : SS} : ev c 68 13 [l0, l1, l2, l3, l4, l5] L2 (aR (8, j, t) :: St) S = ev c 68 16 [l0, l1, l2, l3, l4, l5] L2 (S.2.2.1 (8, j, t) 0 :: St) S := ev_go i68_13 rfl
theorem i68_16 : insAt 68 16 = some (.aload_n 1, 1, (0, 0, 0, 0), 0) := rfl
theorem s68_16 {c : Nat → List AV → SS → Option Out} {l0 l2 l3 l4 l5 : Option AV} {o : OId} {L2 : List (Nat × AV)} {St : List AV} {S : SS} : ev c 68 16 [l0, some (aR o), l2, l3, l4, l5] L2 St S = ev c 68 17 [l0, some (aR o), l2, l3, l4, l5] L2 (aR o :: St) S := ev_go i68_16 rfl
theorem i68_17 : insAt 68 17 = some (.iconst (-1), 1, (0, 0, 0, 0), 0) := rfl
theorem s68_17 {c : Nat → List AV → SS → Option Out} {l0 l1 l2 l3 l4 l5 : Option AV} {L2 : List (Nat × AV)} {St : List AV} {S : SS} : ev c 68 17 [l0, l1, l2, l3, l4, l5] L2 St S = ev c 68 18 [l0, l1, l2, l3, l4, l5] L2 (aI (-1) :: St) S := ev_go i68_17 rfl
theorem i68_18 : insAt 68 18 = some (.invokevirtual 40, 3, (34, 2, 3, 6), 0) := rfl
theorem s68_18 {c : Nat → List AV → SS → Option Out} {l0 l1 l2 l3 l4 l5 : Option AV} {a0 : OId} {a1 : Int32} {j t : Nat} {L2 : List (Nat × AV)} {S : SS} : ev c 68 18 [l0, l1, l2, l3, l4, l5] L2 [aI a1, aR a0, aR (6, j, t)] S = ck (c 34 [aR (6, j, t), aR a0, aI a1] S) (fun v S' => ev c 68 21 [l0, l1, l2, l3, l4, l5] L2 (v.toList ++ []) S') := ev_call i68_18 rfl
theorem i68_21 : insAt 68 21 = some (.iconst 0, 1, (0, 0, 0, 0), 0) := rfl
theorem s68_21 {c : Nat → List AV → SS → Option Out} {l0 l1 l2 l3 l4 l5 : Option AV} {L2 : List (Nat × AV)} {St : List AV} {S : SS} : ev c 68 21 [l0, l1, l2, l3, l4, l5] L2 St S = ev c 68 22 [l0, l1, l2, l3, l4, l5] L2 (aI 0 :: St) S := ev_go i68_21 rfl
theorem i68_22 : insAt 68 22 = some (.istore 4, 2, (0, 0, 0, 0), 0) := rfl
theorem s68_22 {c : Nat → List AV → SS → Option Out} {l0 l1 l2 l3 l4 l5 : Option AV} {x : Int32} {L2 : List (Nat × AV)} {St : List AV} {S : SS} : ev c 68 22 [l0, l1, l2, l3, l4, l5] L2 (aI x :: St) S = ev c 68 24 [l0, l1, l2, l3, some (aI x), l5] (kil L2 4) St S := ev_go i68_22 rfl
theorem i68_24 : insAt 68 24 = some (.iload 4, 2, (0, 0, 0, 0), 0) := rfl
theorem s68_24 {c : Nat → List AV → SS → Option Out} {l0 l1 l2 l3 l5 : Option AV} {x : Int32} {L2 : List (Nat × AV)} {St : List AV} {S : SS} : ev c 68 24 [l0, l1, l2, l3, some (aI x), l5] L2 St S = ev c 68 26 [l0, l1, l2, l3, some (aI x), l5] L2 (aI x :: St) S := ev_go i68_24 rfl
theorem i68_26 : insAt 68 26 = some (.aload_n 0, 1, (0, 0, 0, 0), 0) := rfl
theorem s68_26 {c : Nat → List AV → SS → Option Out} {l1 l2 l3 l4 l5 : Option AV} {o : OId} {L2 : List (Nat × AV)} {St : List AV} {S : SS} : ev c 68 26 [some (aR o), l1, l2, l3, l4, l5] L2 St S = ev c 68 27 [some (aR o), l1, l2, l3, l4, l5] L2 (aR o :: St) S := ev_go i68_26 rfl
theorem i68_27 : insAt 68 27 = some (.getfield 36, 3, (8, 0, 0, 0), 0) := rfl
theorem s68_27 {c : Nat → List AV → SS → Option Out} {l0 l1 l2 l3 l4 l5 : Option AV} {j t : Nat} {L2 : List (Nat × AV)} {St : List AV} {S : SS} : ev c 68 27 [l0, l1, l2, l3, l4, l5] L2 (aR (8, j, t) :: St) S = ev c 68 30 [l0, l1, l2, l3, l4, l5] L2 (S.2.2.1 (8, j, t) 0 :: St) S := ev_go i68_27 rfl
theorem i68_30 : insAt 68 30 = some (.getfield 46, 3, (6, 0, 1, 0), 0) := rfl
theorem s68_30 {c : Nat → List AV → SS → Option Out} {l0 l1 l2 l3 l4 l5 : Option AV} {j t : Nat} {L2 : List (Nat × AV)} {St : List AV} {S : SS} : ev c 68 30 [l0, l1, l2, l3, l4, l5] L2 (aR (6, j, t) :: St) S = ev c 68 33 [l0, l1, l2, l3, l4, l5] L2 (aI (S.1 (6, j, t) 0) :: St) S := ev_go i68_30 rfl
theorem i68_33 : insAt 68 33 = some (.if_icmp .ge 63, 3, (0, 0, 0, 0), 0) := rfl
theorem s68_33 {c : Nat → List AV → SS → Option Out} {l0 l1 l2 l3 l4 l5 : Option AV} {x y : Int32} {L2 : List (Nat × AV)} {St : List AV} {S : SS} : ev c 68 33 [l0, l1, l2, l3, l4, l5] L2 (aI y :: aI x :: St) S = if y ≤ x then ev c 68 96 [l0, l1, l2, l3, l4, l5] L2 St S else ev c 68 36 [l0, l1, l2, l3, l4, l5] L2 St S := ev_br i68_33 rfl
theorem i68_36 : insAt 68 36 = some (.aload_n 1, 1, (0, 0, 0, 0), 0) := rfl
theorem s68_36 {c : Nat → List AV → SS → Option Out} {l0 l2 l3 l4 l5 : Option AV} {o : OId} {L2 : List (Nat × AV)} {St : List AV} {S : SS} : ev c 68 36 [l0, some (aR o), l2, l3, l4, l5] L2 St S = ev c 68 37 [l0, some (aR o), l2, l3, l4, l5] L2 (aR o :: St) S := ev_go i68_36 rfl
theorem i68_37 : insAt 68 37 = some (.aload_n 0, 1, (0, 0, 0, 0), 0) := rfl
theorem s68_37 {c : Nat → List AV → SS → Option Out} {l1 l2 l3 l4 l5 : Option AV} {o : OId} {L2 : List (Nat × AV)} {St : List AV} {S : SS} : ev c 68 37 [some (aR o), l1, l2, l3, l4, l5] L2 St S = ev c 68 38 [some (aR o), l1, l2, l3, l4, l5] L2 (aR o :: St) S := ev_go i68_37 rfl
theorem i68_38 : insAt 68 38 = some (.getfield 36, 3, (8, 0, 0, 0), 0) := rfl
theorem s68_38 {c : Nat → List AV → SS → Option Out} {l0 l1 l2 l3 l4 l5 : Option AV} {j t : Nat} {L2 : List (Nat × AV)} {St : List AV} {S : SS} : ev c 68 38 [l0, l1, l2, l3, l4, l5] L2 (aR (8, j, t) :: St) S = ev c 68 41 [l0, l1, l2, l3, l4, l5] L2 (S.2.2.1 (8, j, t) 0 :: St) S := ev_go i68_38 rfl
theorem i68_41 : insAt 68 41 = some (.getfield 49, 3, (6, 1, 1, 0), 0) := rfl
theorem s68_41 {c : Nat → List AV → SS → Option Out} {l0 l1 l2 l3 l4 l5 : Option AV} {j t : Nat} {L2 : List (Nat × AV)} {St : List AV} {S : SS} : ev c 68 41 [l0, l1, l2, l3, l4, l5] L2 (aR (6, j, t) :: St) S = ev c 68 44 [l0, l1, l2, l3, l4, l5] L2 (S.2.2.1 (6, j, t) 1 :: St) S := ev_go i68_41 rfl
theorem i68_44 : insAt 68 44 = some (.iload 4, 2, (0, 0, 0, 0), 0) := rfl
theorem s68_44 {c : Nat → List AV → SS → Option Out} {l0 l1 l2 l3 l5 : Option AV} {x : Int32} {L2 : List (Nat × AV)} {St : List AV} {S : SS} : ev c 68 44 [l0, l1, l2, l3, some (aI x), l5] L2 St S = ev c 68 46 [l0, l1, l2, l3, some (aI x), l5] L2 (aI x :: St) S := ev_go i68_44 rfl
theorem i68_46 : insAt 68 46 = some (.invokestatic 52, 3, (32, 2, 1, 0), 0) := rfl
theorem s68_46 {c : Nat → List AV → SS → Option Out} {l0 l1 l2 l3 l4 l5 : Option AV} {t0 : AV} {a0 : OId} {a1 : Int32} {L2 : List (Nat × AV)} {S : SS} : ev c 68 46 [l0, l1, l2, l3, l4, l5] L2 [aI a1, aR a0, t0] S = ck (c 32 [aR a0, aI a1] S) (fun v S' => ev c 68 49 [l0, l1, l2, l3, l4, l5] L2 (v.toList ++ [t0]) S') := ev_call i68_46 rfl
theorem i68_49 : insAt 68 49 = some (.invokevirtual 56, 3, (17, 1, 3, 4), 0) := rfl
theorem s68_49 {c : Nat → List AV → SS → Option Out} {l0 l1 l2 l3 l4 l5 : Option AV} {a0 : Int32} {j t : Nat} {L2 : List (Nat × AV)} {S : SS} : ev c 68 49 [l0, l1, l2, l3, l4, l5] L2 [aI a0, aR (4, j, t)] S = ck (c 17 [aR (4, j, t), aI a0] S) (fun v S' => ev c 68 52 [l0, l1, l2, l3, l4, l5] L2 (v.toList ++ []) S') := ev_call i68_49 rfl
theorem i68_52 : insAt 68 52 = some (.iload_n 2, 1, (0, 0, 0, 0), 0) := rfl
theorem s68_52 {c : Nat → List AV → SS → Option Out} {l0 l1 l3 l4 l5 : Option AV} {x : Int32} {L2 : List (Nat × AV)} {St : List AV} {S : SS} : ev c 68 52 [l0, l1, some (aI x), l3, l4, l5] L2 St S = ev c 68 53 [l0, l1, some (aI x), l3, l4, l5] L2 (aI x :: St) S := ev_go i68_52 rfl
theorem i68_53 : insAt 68 53 = some (.iload_n 3, 1, (0, 0, 0, 0), 0) := rfl
theorem s68_53 {c : Nat → List AV → SS → Option Out} {l0 l1 l2 l4 l5 : Option AV} {x : Int32} {L2 : List (Nat × AV)} {St : List AV} {S : SS} : ev c 68 53 [l0, l1, l2, some (aI x), l4, l5] L2 St S = ev c 68 54 [l0, l1, l2, some (aI x), l4, l5] L2 (aI x :: St) S := ev_go i68_53 rfl
theorem i68_54 : insAt 68 54 = some (.invokevirtual 62, 3, (28, 2, 3, 10), 0) := rfl
theorem s68_54 {c : Nat → List AV → SS → Option Out} {l0 l1 l2 l3 l4 l5 : Option AV} {a0 : Int32} {a1 : Int32} {j t : Nat} {L2 : List (Nat × AV)} {S : SS} : ev c 68 54 [l0, l1, l2, l3, l4, l5] L2 [aI a1, aI a0, aR (10, j, t)] S = ck (c 28 [aR (10, j, t), aI a0, aI a1] S) (fun v S' => ev c 68 57 [l0, l1, l2, l3, l4, l5] L2 (v.toList ++ []) S') := ev_call i68_54 rfl
theorem i68_57 : insAt 68 57 = some (.istore 5, 2, (0, 0, 0, 0), 0) := rfl
theorem s68_57 {c : Nat → List AV → SS → Option Out} {l0 l1 l2 l3 l4 l5 : Option AV} {x : Int32} {L2 : List (Nat × AV)} {St : List AV} {S : SS} : ev c 68 57 [l0, l1, l2, l3, l4, l5] L2 (aI x :: St) S = ev c 68 59 [l0, l1, l2, l3, l4, some (aI x)] (kil L2 5) St S := ev_go i68_57 rfl
theorem i68_59 : insAt 68 59 = some (.aload_n 0, 1, (0, 0, 0, 0), 0) := rfl
theorem s68_59 {c : Nat → List AV → SS → Option Out} {l1 l2 l3 l4 l5 : Option AV} {o : OId} {L2 : List (Nat × AV)} {St : List AV} {S : SS} : ev c 68 59 [some (aR o), l1, l2, l3, l4, l5] L2 St S = ev c 68 60 [some (aR o), l1, l2, l3, l4, l5] L2 (aR o :: St) S := ev_go i68_59 rfl
theorem i68_60 : insAt 68 60 = some (.iload 4, 2, (0, 0, 0, 0), 0) := rfl
theorem s68_60 {c : Nat → List AV → SS → Option Out} {l0 l1 l2 l3 l5 : Option AV} {x : Int32} {L2 : List (Nat × AV)} {St : List AV} {S : SS} : ev c 68 60 [l0, l1, l2, l3, some (aI x), l5] L2 St S = ev c 68 62 [l0, l1, l2, l3, some (aI x), l5] L2 (aI x :: St) S := ev_go i68_60 rfl
theorem i68_62 : insAt 68 62 = some (.aload_n 1, 1, (0, 0, 0, 0), 0) := rfl
theorem s68_62 {c : Nat → List AV → SS → Option Out} {l0 l2 l3 l4 l5 : Option AV} {o : OId} {L2 : List (Nat × AV)} {St : List AV} {S : SS} : ev c 68 62 [l0, some (aR o), l2, l3, l4, l5] L2 St S = ev c 68 63 [l0, some (aR o), l2, l3, l4, l5] L2 (aR o :: St) S := ev_go i68_62 rfl
theorem i68_63 : insAt 68 63 = some (.iload 5, 2, (0, 0, 0, 0), 0) := rfl
theorem s68_63 {c : Nat → List AV → SS → Option Out} {l0 l1 l2 l3 l4 : Option AV} {x : Int32} {L2 : List (Nat × AV)} {St : List AV} {S : SS} : ev c 68 63 [l0, l1, l2, l3, l4, some (aI x)] L2 St S = ev c 68 65 [l0, l1, l2, l3, l4, some (aI x)] L2 (aI x :: St) S := ev_go i68_63 rfl
theorem i68_65 : insAt 68 65 = some (.invokevirtual 68, 3, (29, 1, 3, 4), 0) := rfl
theorem s68_65 {c : Nat → List AV → SS → Option Out} {l0 l1 l2 l3 l4 l5 : Option AV} {t0 t1 : AV} {a0 : Int32} {j t : Nat} {L2 : List (Nat × AV)} {S : SS} : ev c 68 65 [l0, l1, l2, l3, l4, l5] L2 [aI a0, aR (4, j, t), t0, t1] S = ck (c 29 [aR (4, j, t), aI a0] S) (fun v S' => ev c 68 68 [l0, l1, l2, l3, l4, l5] L2 (v.toList ++ [t0, t1]) S') := ev_call i68_65 rfl
theorem i68_68 : insAt 68 68 = some (.iload 5, 2, (0, 0, 0, 0), 0) := rfl
theorem s68_68 {c : Nat → List AV → SS → Option Out} {l0 l1 l2 l3 l4 : Option AV} {x : Int32} {L2 : List (Nat × AV)} {St : List AV} {S : SS} : ev c 68 68 [l0, l1, l2, l3, l4, some (aI x)] L2 St S = ev c 68 70 [l0, l1, l2, l3, l4, some (aI x)] L2 (aI x :: St) S := ev_go i68_68 rfl
theorem i68_70 : insAt 68 70 = some (.aload_n 1, 1, (0, 0, 0, 0), 0) := rfl
theorem s68_70 {c : Nat → List AV → SS → Option Out} {l0 l2 l3 l4 l5 : Option AV} {o : OId} {L2 : List (Nat × AV)} {St : List AV} {S : SS} : ev c 68 70 [l0, some (aR o), l2, l3, l4, l5] L2 St S = ev c 68 71 [l0, some (aR o), l2, l3, l4, l5] L2 (aR o :: St) S := ev_go i68_70 rfl
theorem i68_71 : insAt 68 71 = some (.getfield 72, 3, (4, 2, 1, 0), 0) := rfl
theorem s68_71 {c : Nat → List AV → SS → Option Out} {l0 l1 l2 l3 l4 l5 : Option AV} {j t : Nat} {L2 : List (Nat × AV)} {St : List AV} {S : SS} : ev c 68 71 [l0, l1, l2, l3, l4, l5] L2 (aR (4, j, t) :: St) S = ev c 68 74 [l0, l1, l2, l3, l4, l5] L2 (aI (S.1 (4, j, t) 2) :: St) S := ev_go i68_71 rfl
theorem i68_74 : insAt 68 74 = some (.aload_n 1, 1, (0, 0, 0, 0), 0) := rfl
theorem s68_74 {c : Nat → List AV → SS → Option Out} {l0 l2 l3 l4 l5 : Option AV} {o : OId} {L2 : List (Nat × AV)} {St : List AV} {S : SS} : ev c 68 74 [l0, some (aR o), l2, l3, l4, l5] L2 St S = ev c 68 75 [l0, some (aR o), l2, l3, l4, l5] L2 (aR o :: St) S := ev_go i68_74 rfl
theorem i68_75 : insAt 68 75 = some (.getfield 72, 3, (4, 2, 1, 0), 0) := rfl
theorem s68_75 {c : Nat → List AV → SS → Option Out} {l0 l1 l2 l3 l4 l5 : Option AV} {j t : Nat} {L2 : List (Nat × AV)} {St : List AV} {S : SS} : ev c 68 75 [l0, l1, l2, l3, l4, l5] L2 (aR (4, j, t) :: St) S = ev c 68 78 [l0, l1, l2, l3, l4, l5] L2 (aI (S.1 (4, j, t) 2) :: St) S := ev_go i68_75 rfl
theorem i68_78 : insAt 68 78 = some (.imul, 1, (0, 0, 0, 0), 0) := rfl
theorem s68_78 {c : Nat → List AV → SS → Option Out} {l0 l1 l2 l3 l4 l5 : Option AV} {x y : Int32} {L2 : List (Nat × AV)} {St : List AV} {S : SS} : ev c 68 78 [l0, l1, l2, l3, l4, l5] L2 (aI y :: aI x :: St) S = ev c 68 79 [l0, l1, l2, l3, l4, l5] L2 (aI (x * y) :: St) S := ev_go i68_78 rfl
theorem i68_79 : insAt 68 79 = some (.if_icmp .ge 7, 3, (0, 0, 0, 0), 0) := rfl
theorem s68_79 {c : Nat → List AV → SS → Option Out} {l0 l1 l2 l3 l4 l5 : Option AV} {x y : Int32} {L2 : List (Nat × AV)} {St : List AV} {S : SS} : ev c 68 79 [l0, l1, l2, l3, l4, l5] L2 (aI y :: aI x :: St) S = if y ≤ x then ev c 68 86 [l0, l1, l2, l3, l4, l5] L2 St S else ev c 68 82 [l0, l1, l2, l3, l4, l5] L2 St S := ev_br i68_79 rfl
theorem i68_82 : insAt 68 82 = some (.iconst 1, 1, (0, 0, 0, 0), 0) := rfl
theorem s68_82 {c : Nat → List AV → SS → Option Out} {l0 l1 l2 l3 l4 l5 : Option AV} {L2 : List (Nat × AV)} {St : List AV} {S : SS} : ev c 68 82 [l0, l1, l2, l3, l4, l5] L2 St S = ev c 68 83 [l0, l1, l2, l3, l4, l5] L2 (aI 1 :: St) S := ev_go i68_82 rfl
theorem i68_83 : insAt 68 83 = some (.goto 4, 3, (0, 0, 0, 0), 0) := rfl
theorem s68_83 {c : Nat → List AV → SS → Option Out} {l0 l1 l2 l3 l4 l5 : Option AV} {L2 : List (Nat × AV)} {St : List AV} {S : SS} : ev c 68 83 [l0, l1, l2, l3, l4, l5] L2 St S = ev c 68 87 [l0, l1, l2, l3, l4, l5] L2 St S := ev_go i68_83 rfl
theorem i68_86 : insAt 68 86 = some (.iconst 0, 1, (0, 0, 0, 0), 0) := rfl
theorem s68_86 {c : Nat → List AV → SS → Option Out} {l0 l1 l2 l3 l4 l5 : Option AV} {L2 : List (Nat × AV)} {St : List AV} {S : SS} : ev c 68 86 [l0, l1, l2, l3, l4, l5] L2 St S = ev c 68 87 [l0, l1, l2, l3, l4, l5] L2 (aI 0 :: St) S := ev_go i68_86 rfl
theorem i68_87 : insAt 68 87 = some (.invokevirtual 75, 3, (69, 3, 2, 8), 0) := rfl
theorem s68_87 {c : Nat → List AV → SS → Option Out} {l0 l1 l2 l3 l4 l5 : Option AV} {a0 : Int32} {a1 : Int32} {a2 : Int32} {j t : Nat} {L2 : List (Nat × AV)} {S : SS} : ev c 68 87 [l0, l1, l2, l3, l4, l5] L2 [aI a2, aI a1, aI a0, aR (8, j, t)] S = ck (c 69 [aR (8, j, t), aI a0, aI a1, aI a2] S) (fun v S' => ev c 68 90 [l0, l1, l2, l3, l4, l5] L2 (v.toList ++ []) S') := ev_call i68_87 rfl
theorem i68_90 : insAt 68 90 = some (.iinc 4 1, 3, (0, 0, 0, 0), 0) := rfl
theorem s68_90 {c : Nat → List AV → SS → Option Out} {l0 l1 l2 l3 l5 : Option AV} {x : Int32} {L2 : List (Nat × AV)} {St : List AV} {S : SS} : ev c 68 90 [l0, l1, l2, l3, some (aI x), l5] L2 St S = ev c 68 93 [l0, l1, l2, l3, some (aI (x + 1)), l5] (kil L2 4) St S := ev_go i68_90 rfl
theorem i68_93 : insAt 68 93 = some (.goto (-69), 3, (0, 0, 0, 0), 0) := rfl
theorem s68_93 {c : Nat → List AV → SS → Option Out} {l0 l1 l2 l3 l4 l5 : Option AV} {L2 : List (Nat × AV)} {St : List AV} {S : SS} : ev c 68 93 [l0, l1, l2, l3, l4, l5] L2 St S = ev c 68 24 [l0, l1, l2, l3, l4, l5] L2 St S := ev_go i68_93 rfl
theorem i68_96 : insAt 68 96 = some (.return_, 1, (0, 0, 0, 0), 0) := rfl
theorem s68_96 {c : Nat → List AV → SS → Option Out} {l0 l1 l2 l3 l4 l5 : Option AV} {L2 : List (Nat × AV)} {St : List AV} {S : SS} : ev c 68 96 [l0, l1, l2, l3, l4, l5] L2 [] S = some (.inl none, S) := ev_end i68_96 rfl
theorem m68 {d : Nat} {o : OId} {a0 : OId} {a1 : Int32} {a2 : Int32} {S : SS} : evm (d + 1) 68 [aR o, aR a0, aI a1, aI a2] S = ev (evm d) 68 0 [some (aR o), some (aR a0), some (aI a1), some (aI a2), none, none] [] [] S := evm_s (n := 6) rfl (Nat.le_of_ble_eq_true rfl) rfl rfl
/-! FrequencyOffice$Search.setServed(IIZ)V -/
theorem i69_0 : insAt 69 0 = some (.aload_n 0, 1, (0, 0, 0, 0), 0) := rfl
theorem s69_0 {c : Nat → List AV → SS → Option Out} {l1 l2 l3 : Option AV} {o : OId} {L2 : List (Nat × AV)} {St : List AV} {S : SS} : ev c 69 0 [some (aR o), l1, l2, l3] L2 St S = ev c 69 1 [some (aR o), l1, l2, l3] L2 (aR o :: St) S := ev_go i69_0 rfl
theorem i69_1 : insAt 69 1 = some (.getfield 18, 3, (8, 2, 0, 0), 0) := rfl
theorem s69_1 {c : Nat → List AV → SS → Option Out} {l0 l1 l2 l3 : Option AV} {j t : Nat} {L2 : List (Nat × AV)} {St : List AV} {S : SS} : ev c 69 1 [l0, l1, l2, l3] L2 (aR (8, j, t) :: St) S = ev c 69 4 [l0, l1, l2, l3] L2 (S.2.2.1 (8, j, t) 2 :: St) S := ev_go i69_1 rfl
theorem i69_4 : insAt 69 4 = some (.iload_n 1, 1, (0, 0, 0, 0), 0) := rfl
theorem s69_4 {c : Nat → List AV → SS → Option Out} {l0 l2 l3 : Option AV} {x : Int32} {L2 : List (Nat × AV)} {St : List AV} {S : SS} : ev c 69 4 [l0, some (aI x), l2, l3] L2 St S = ev c 69 5 [l0, some (aI x), l2, l3] L2 (aI x :: St) S := ev_go i69_4 rfl
theorem i69_5 : insAt 69 5 = some (.iload_n 2, 1, (0, 0, 0, 0), 0) := rfl
theorem s69_5 {c : Nat → List AV → SS → Option Out} {l0 l1 l3 : Option AV} {x : Int32} {L2 : List (Nat × AV)} {St : List AV} {S : SS} : ev c 69 5 [l0, l1, some (aI x), l3] L2 St S = ev c 69 6 [l0, l1, some (aI x), l3] L2 (aI x :: St) S := ev_go i69_5 rfl
theorem i69_6 : insAt 69 6 = some (.invokestatic 85, 3, (36, 3, 1, 0), 0) := rfl
theorem s69_6 {c : Nat → List AV → SS → Option Out} {l0 l1 l2 l3 : Option AV} {a0 : OId} {a1 : Int32} {a2 : Int32} {L2 : List (Nat × AV)} {S : SS} : ev c 69 6 [l0, l1, l2, l3] L2 [aI a2, aI a1, aR a0] S = ck (c 36 [aR a0, aI a1, aI a2] S) (fun v S' => ev c 69 9 [l0, l1, l2, l3] L2 (v.toList ++ []) S') := ev_call i69_6 rfl
theorem i69_9 : insAt 69 9 = some (.iload_n 1, 1, (0, 0, 0, 0), 0) := rfl
theorem s69_9 {c : Nat → List AV → SS → Option Out} {l0 l2 l3 : Option AV} {x : Int32} {L2 : List (Nat × AV)} {St : List AV} {S : SS} : ev c 69 9 [l0, some (aI x), l2, l3] L2 St S = ev c 69 10 [l0, some (aI x), l2, l3] L2 (aI x :: St) S := ev_go i69_9 rfl
theorem i69_10 : insAt 69 10 = some (.ifCond .lt 19, 3, (0, 0, 0, 0), 0) := rfl
theorem s69_10 {c : Nat → List AV → SS → Option Out} {l0 l1 l2 l3 : Option AV} {x : Int32} {L2 : List (Nat × AV)} {St : List AV} {S : SS} : ev c 69 10 [l0, l1, l2, l3] L2 (aI x :: St) S = if x < 0 then ev c 69 29 [l0, l1, l2, l3] L2 St S else ev c 69 13 [l0, l1, l2, l3] L2 St S := ev_br i69_10 rfl
theorem i69_13 : insAt 69 13 = some (.iload_n 1, 1, (0, 0, 0, 0), 0) := rfl
theorem s69_13 {c : Nat → List AV → SS → Option Out} {l0 l2 l3 : Option AV} {x : Int32} {L2 : List (Nat × AV)} {St : List AV} {S : SS} : ev c 69 13 [l0, some (aI x), l2, l3] L2 St S = ev c 69 14 [l0, some (aI x), l2, l3] L2 (aI x :: St) S := ev_go i69_13 rfl
theorem i69_14 : insAt 69 14 = some (.aload_n 0, 1, (0, 0, 0, 0), 0) := rfl
theorem s69_14 {c : Nat → List AV → SS → Option Out} {l1 l2 l3 : Option AV} {o : OId} {L2 : List (Nat × AV)} {St : List AV} {S : SS} : ev c 69 14 [some (aR o), l1, l2, l3] L2 St S = ev c 69 15 [some (aR o), l1, l2, l3] L2 (aR o :: St) S := ev_go i69_14 rfl
theorem i69_15 : insAt 69 15 = some (.getfield 22, 3, (8, 3, 0, 0), 0) := rfl
theorem s69_15 {c : Nat → List AV → SS → Option Out} {l0 l1 l2 l3 : Option AV} {j t : Nat} {L2 : List (Nat × AV)} {St : List AV} {S : SS} : ev c 69 15 [l0, l1, l2, l3] L2 (aR (8, j, t) :: St) S = ev c 69 18 [l0, l1, l2, l3] L2 (S.2.2.1 (8, j, t) 3 :: St) S := ev_go i69_15 rfl
theorem i69_18 : insAt 69 18 = some (.arraylength, 1, (0, 0, 0, 0), 0) := rfl
theorem s69_18 {c : Nat → List AV → SS → Option Out} {l0 l1 l2 l3 : Option AV} {o : OId} {L2 : List (Nat × AV)} {St : List AV} {S : SS} : ev c 69 18 [l0, l1, l2, l3] L2 (aR o :: St) S = kN o (fun x => ev c 69 19 [l0, l1, l2, l3] L2 (aI x :: St) S) := ev_alen i69_18
theorem i69_19 : insAt 69 19 = some (.if_icmp .ge 10, 3, (0, 0, 0, 0), 0) := rfl
theorem s69_19 {c : Nat → List AV → SS → Option Out} {l0 l1 l2 l3 : Option AV} {x y : Int32} {L2 : List (Nat × AV)} {St : List AV} {S : SS} : ev c 69 19 [l0, l1, l2, l3] L2 (aI y :: aI x :: St) S = if y ≤ x then ev c 69 29 [l0, l1, l2, l3] L2 St S else ev c 69 22 [l0, l1, l2, l3] L2 St S := ev_br i69_19 rfl
theorem i69_22 : insAt 69 22 = some (.aload_n 0, 1, (0, 0, 0, 0), 0) := rfl
theorem s69_22 {c : Nat → List AV → SS → Option Out} {l1 l2 l3 : Option AV} {o : OId} {L2 : List (Nat × AV)} {St : List AV} {S : SS} : ev c 69 22 [some (aR o), l1, l2, l3] L2 St S = ev c 69 23 [some (aR o), l1, l2, l3] L2 (aR o :: St) S := ev_go i69_22 rfl
theorem i69_23 : insAt 69 23 = some (.getfield 22, 3, (8, 3, 0, 0), 0) := rfl
theorem s69_23 {c : Nat → List AV → SS → Option Out} {l0 l1 l2 l3 : Option AV} {j t : Nat} {L2 : List (Nat × AV)} {St : List AV} {S : SS} : ev c 69 23 [l0, l1, l2, l3] L2 (aR (8, j, t) :: St) S = ev c 69 26 [l0, l1, l2, l3] L2 (S.2.2.1 (8, j, t) 3 :: St) S := ev_go i69_23 rfl
theorem i69_26 : insAt 69 26 = some (.iload_n 1, 1, (0, 0, 0, 0), 0) := rfl
theorem s69_26 {c : Nat → List AV → SS → Option Out} {l0 l2 l3 : Option AV} {x : Int32} {L2 : List (Nat × AV)} {St : List AV} {S : SS} : ev c 69 26 [l0, some (aI x), l2, l3] L2 St S = ev c 69 27 [l0, some (aI x), l2, l3] L2 (aI x :: St) S := ev_go i69_26 rfl
theorem i69_27 : insAt 69 27 = some (.iload_n 3, 1, (0, 0, 0, 0), 0) := rfl
theorem s69_27 {c : Nat → List AV → SS → Option Out} {l0 l1 l2 : Option AV} {x : Int32} {L2 : List (Nat × AV)} {St : List AV} {S : SS} : ev c 69 27 [l0, l1, l2, some (aI x)] L2 St S = ev c 69 28 [l0, l1, l2, some (aI x)] L2 (aI x :: St) S := ev_go i69_27 rfl
theorem i69_28 : insAt 69 28 = some (.bastore, 1, (0, 0, 0, 0), 0) := rfl
theorem s69_28 {c : Nat → List AV → SS → Option Out} {l0 l1 l2 l3 : Option AV} {x i : Int32} {o : OId} {L2 : List (Nat × AV)} {St : List AV} {S : SS} : ev c 69 28 [l0, l1, l2, l3] L2 (aI x :: aI i :: aR o :: St) S = kBw o i x (ev c 69 29 [l0, l1, l2, l3] L2 St (setI S.1 o i.toNatClampNeg x, S.2)) := ev_bastore i69_28
theorem i69_29 : insAt 69 29 = some (.return_, 1, (0, 0, 0, 0), 0) := rfl
theorem s69_29 {c : Nat → List AV → SS → Option Out} {l0 l1 l2 l3 : Option AV} {L2 : List (Nat × AV)} {St : List AV} {S : SS} : ev c 69 29 [l0, l1, l2, l3] L2 [] S = some (.inl none, S) := ev_end i69_29 rfl
theorem m69 {d : Nat} {o : OId} {a0 : Int32} {a1 : Int32} {a2 : Int32} {S : SS} : evm (d + 1) 69 [aR o, aI a0, aI a1, aI a2] S = ev (evm d) 69 0 [some (aR o), some (aI a0), some (aI a1), some (aI a2)] [] [] S := evm_s (n := 4) rfl (Nat.le_of_ble_eq_true rfl) rfl rfl
/-! FrequencyOffice$Search.findByOrder()Z -/
theorem i71_0 : insAt 71 0 = some (.iconst 0, 1, (0, 0, 0, 0), 0) := rfl
theorem s71_0 {c : Nat → List AV → SS → Option Out} {l0 l1 : Option AV} {L2 : List (Nat × AV)} {St : List AV} {S : SS} : ev c 71 0 [l0, l1] L2 St S = ev c 71 1 [l0, l1] L2 (aI 0 :: St) S := ev_go i71_0 rfl
theorem i71_1 : insAt 71 1 = some (.istore_n 1, 1, (0, 0, 0, 0), 0) := rfl
theorem s71_1 {c : Nat → List AV → SS → Option Out} {l0 l1 : Option AV} {x : Int32} {L2 : List (Nat × AV)} {St : List AV} {S : SS} : ev c 71 1 [l0, l1] L2 (aI x :: St) S = ev c 71 2 [l0, some (aI x)] (kil L2 1) St S := ev_go i71_1 rfl
theorem i71_2 : insAt 71 2 = some (.iload_n 1, 1, (0, 0, 0, 0), 0) := rfl
theorem s71_2 {c : Nat → List AV → SS → Option Out} {l0 : Option AV} {x : Int32} {L2 : List (Nat × AV)} {St : List AV} {S : SS} : ev c 71 2 [l0, some (aI x)] L2 St S = ev c 71 3 [l0, some (aI x)] L2 (aI x :: St) S := ev_go i71_2 rfl
theorem i71_3 : insAt 71 3 = some (.iconst 2, 1, (0, 0, 0, 0), 0) := rfl
theorem s71_3 {c : Nat → List AV → SS → Option Out} {l0 l1 : Option AV} {L2 : List (Nat × AV)} {St : List AV} {S : SS} : ev c 71 3 [l0, l1] L2 St S = ev c 71 4 [l0, l1] L2 (aI 2 :: St) S := ev_go i71_3 rfl
theorem i71_4 : insAt 71 4 = some (.if_icmp .gt 27, 3, (0, 0, 0, 0), 0) := rfl
theorem s71_4 {c : Nat → List AV → SS → Option Out} {l0 l1 : Option AV} {x y : Int32} {L2 : List (Nat × AV)} {St : List AV} {S : SS} : ev c 71 4 [l0, l1] L2 (aI y :: aI x :: St) S = if y < x then ev c 71 31 [l0, l1] L2 St S else ev c 71 7 [l0, l1] L2 St S := ev_br i71_4 rfl
theorem i71_7 : insAt 71 7 = some (.aload_n 0, 1, (0, 0, 0, 0), 0) := rfl
theorem s71_7 {c : Nat → List AV → SS → Option Out} {l1 : Option AV} {o : OId} {L2 : List (Nat × AV)} {St : List AV} {S : SS} : ev c 71 7 [some (aR o), l1] L2 St S = ev c 71 8 [some (aR o), l1] L2 (aR o :: St) S := ev_go i71_7 rfl
theorem i71_8 : insAt 71 8 = some (.getfield 12, 3, (8, 1, 0, 0), 0) := rfl
theorem s71_8 {c : Nat → List AV → SS → Option Out} {l0 l1 : Option AV} {j t : Nat} {L2 : List (Nat × AV)} {St : List AV} {S : SS} : ev c 71 8 [l0, l1] L2 (aR (8, j, t) :: St) S = ev c 71 11 [l0, l1] L2 (S.2.2.1 (8, j, t) 1 :: St) S := ev_go i71_8 rfl
theorem i71_11 : insAt 71 11 = some (.iload_n 1, 1, (0, 0, 0, 0), 0) := rfl
theorem s71_11 {c : Nat → List AV → SS → Option Out} {l0 : Option AV} {x : Int32} {L2 : List (Nat × AV)} {St : List AV} {S : SS} : ev c 71 11 [l0, some (aI x)] L2 St S = ev c 71 12 [l0, some (aI x)] L2 (aI x :: St) S := ev_go i71_11 rfl
theorem i71_12 : insAt 71 12 = some (.putfield 111, 3, (7, 0, 1, 0), 0) := rfl
theorem s71_12 {c : Nat → List AV → SS → Option Out} {l0 l1 : Option AV} {j t : Nat} {x : Int32} {L2 : List (Nat × AV)} {St : List AV} {S : SS} : ev c 71 12 [l0, l1] L2 (aI x :: aR (7, j, t) :: St) S = ev c 71 15 [l0, l1] L2 St (setI S.1 (7, j, t) 0 x, S.2) := ev_go i71_12 rfl
theorem i71_15 : insAt 71 15 = some (.aload_n 0, 1, (0, 0, 0, 0), 0) := rfl
theorem s71_15 {c : Nat → List AV → SS → Option Out} {l1 : Option AV} {o : OId} {L2 : List (Nat × AV)} {St : List AV} {S : SS} : ev c 71 15 [some (aR o), l1] L2 St S = ev c 71 16 [some (aR o), l1] L2 (aR o :: St) S := ev_go i71_15 rfl
theorem i71_16 : insAt 71 16 = some (.iconst 0, 1, (0, 0, 0, 0), 0) := rfl
theorem s71_16 {c : Nat → List AV → SS → Option Out} {l0 l1 : Option AV} {L2 : List (Nat × AV)} {St : List AV} {S : SS} : ev c 71 16 [l0, l1] L2 St S = ev c 71 17 [l0, l1] L2 (aI 0 :: St) S := ev_go i71_16 rfl
theorem i71_17 : insAt 71 17 = some (.invokestatic 114, 3, (72, 2, 0, 0), 0) := rfl
theorem s71_17 {c : Nat → List AV → SS → Option Out} {l0 l1 : Option AV} {a0 : OId} {a1 : Int32} {L2 : List (Nat × AV)} {S : SS} : ev c 71 17 [l0, l1] L2 [aI a1, aR a0] S = ck (c 72 [aR a0, aI a1] S) (fun v S' => ev c 71 20 [l0, l1] L2 (v.toList ++ []) S') := ev_call i71_17 rfl
theorem i71_20 : insAt 71 20 = some (.ifCond .eq 5, 3, (0, 0, 0, 0), 0) := rfl
theorem s71_20 {c : Nat → List AV → SS → Option Out} {l0 l1 : Option AV} {x : Int32} {L2 : List (Nat × AV)} {St : List AV} {S : SS} : ev c 71 20 [l0, l1] L2 (aI x :: St) S = if x = 0 then ev c 71 25 [l0, l1] L2 St S else ev c 71 23 [l0, l1] L2 St S := ev_br i71_20 rfl
theorem i71_23 : insAt 71 23 = some (.iconst 1, 1, (0, 0, 0, 0), 0) := rfl
theorem s71_23 {c : Nat → List AV → SS → Option Out} {l0 l1 : Option AV} {L2 : List (Nat × AV)} {St : List AV} {S : SS} : ev c 71 23 [l0, l1] L2 St S = ev c 71 24 [l0, l1] L2 (aI 1 :: St) S := ev_go i71_23 rfl
theorem i71_24 : insAt 71 24 = some (.ireturn, 1, (0, 0, 0, 0), 0) := rfl
theorem s71_24 {c : Nat → List AV → SS → Option Out} {l0 l1 : Option AV} {x : Int32} {L2 : List (Nat × AV)} {St : List AV} {S : SS} : ev c 71 24 [l0, l1] L2 [aI x] S = if x = 0 ∨ x = 1 then some (.inl (some (aI x)), S) else none := ev_rt i71_24 rfl
theorem i71_25 : insAt 71 25 = some (.iinc 1 1, 3, (0, 0, 0, 0), 0) := rfl
theorem s71_25 {c : Nat → List AV → SS → Option Out} {l0 : Option AV} {x : Int32} {L2 : List (Nat × AV)} {St : List AV} {S : SS} : ev c 71 25 [l0, some (aI x)] L2 St S = ev c 71 28 [l0, some (aI (x + 1))] (kil L2 1) St S := ev_go i71_25 rfl
theorem i71_28 : insAt 71 28 = some (.goto (-26), 3, (0, 0, 0, 0), 0) := rfl
theorem s71_28 {c : Nat → List AV → SS → Option Out} {l0 l1 : Option AV} {L2 : List (Nat × AV)} {St : List AV} {S : SS} : ev c 71 28 [l0, l1] L2 St S = ev c 71 2 [l0, l1] L2 St S := ev_go i71_28 rfl
theorem i71_31 : insAt 71 31 = some (.iconst 0, 1, (0, 0, 0, 0), 0) := rfl
theorem s71_31 {c : Nat → List AV → SS → Option Out} {l0 l1 : Option AV} {L2 : List (Nat × AV)} {St : List AV} {S : SS} : ev c 71 31 [l0, l1] L2 St S = ev c 71 32 [l0, l1] L2 (aI 0 :: St) S := ev_go i71_31 rfl
theorem i71_32 : insAt 71 32 = some (.ireturn, 1, (0, 0, 0, 0), 0) := rfl
theorem s71_32 {c : Nat → List AV → SS → Option Out} {l0 l1 : Option AV} {x : Int32} {L2 : List (Nat × AV)} {St : List AV} {S : SS} : ev c 71 32 [l0, l1] L2 [aI x] S = if x = 0 ∨ x = 1 then some (.inl (some (aI x)), S) else none := ev_rt i71_32 rfl
theorem m71 {d : Nat} {o : OId} {S : SS} : evm (d + 1) 71 [aR o] S = ev (evm d) 71 0 [some (aR o), none] [] [] S := evm_s (n := 2) rfl (Nat.le_of_ble_eq_true rfl) rfl rfl
/-! FrequencyOffice$Search.tryMoves(LFrequencyOffice$Search;I)Z -/
theorem i72_0 : insAt 72 0 = some (.iload_n 1, 1, (0, 0, 0, 0), 0) := rfl
theorem s72_0 {c : Nat → List AV → SS → Option Out} {l0 l2 : Option AV} {x : Int32} {L2 : List (Nat × AV)} {St : List AV} {S : SS} : ev c 72 0 [l0, some (aI x), l2] L2 St S = ev c 72 1 [l0, some (aI x), l2] L2 (aI x :: St) S := ev_go i72_0 rfl
theorem i72_1 : insAt 72 1 = some (.aload_n 0, 1, (0, 0, 0, 0), 0) := rfl
theorem s72_1 {c : Nat → List AV → SS → Option Out} {l1 l2 : Option AV} {o : OId} {L2 : List (Nat × AV)} {St : List AV} {S : SS} : ev c 72 1 [some (aR o), l1, l2] L2 St S = ev c 72 2 [some (aR o), l1, l2] L2 (aR o :: St) S := ev_go i72_1 rfl
theorem i72_2 : insAt 72 2 = some (.getfield 12, 3, (8, 1, 0, 0), 0) := rfl
theorem s72_2 {c : Nat → List AV → SS → Option Out} {l0 l1 l2 : Option AV} {j t : Nat} {L2 : List (Nat × AV)} {St : List AV} {S : SS} : ev c 72 2 [l0, l1, l2] L2 (aR (8, j, t) :: St) S = ev c 72 5 [l0, l1, l2] L2 (S.2.2.1 (8, j, t) 1 :: St) S := ev_go i72_2 rfl
theorem i72_5 : insAt 72 5 = some (.getfield 111, 3, (7, 0, 1, 0), 0) := rfl
theorem s72_5 {c : Nat → List AV → SS → Option Out} {l0 l1 l2 : Option AV} {j t : Nat} {L2 : List (Nat × AV)} {St : List AV} {S : SS} : ev c 72 5 [l0, l1, l2] L2 (aR (7, j, t) :: St) S = ev c 72 8 [l0, l1, l2] L2 (aI (S.1 (7, j, t) 0) :: St) S := ev_go i72_5 rfl
theorem i72_8 : insAt 72 8 = some (.if_icmp .lt 8, 3, (0, 0, 0, 0), 0) := rfl
theorem s72_8 {c : Nat → List AV → SS → Option Out} {l0 l1 l2 : Option AV} {x y : Int32} {L2 : List (Nat × AV)} {St : List AV} {S : SS} : ev c 72 8 [l0, l1, l2] L2 (aI y :: aI x :: St) S = if x < y then ev c 72 16 [l0, l1, l2] L2 St S else ev c 72 11 [l0, l1, l2] L2 St S := ev_br i72_8 rfl
theorem i72_11 : insAt 72 11 = some (.aload_n 0, 1, (0, 0, 0, 0), 0) := rfl
theorem s72_11 {c : Nat → List AV → SS → Option Out} {l1 l2 : Option AV} {o : OId} {L2 : List (Nat × AV)} {St : List AV} {S : SS} : ev c 72 11 [some (aR o), l1, l2] L2 St S = ev c 72 12 [some (aR o), l1, l2] L2 (aR o :: St) S := ev_go i72_11 rfl
theorem i72_12 : insAt 72 12 = some (.invokevirtual 118, 3, (73, 0, 2, 8), 0) := rfl
theorem s72_12 {c : Nat → List AV → SS → Option Out} {l0 l1 l2 : Option AV} {j t : Nat} {L2 : List (Nat × AV)} {S : SS} : ev c 72 12 [l0, l1, l2] L2 [aR (8, j, t)] S = ck (c 73 [aR (8, j, t)] S) (fun v S' => ev c 72 15 [l0, l1, l2] L2 (v.toList ++ []) S') := ev_call i72_12 rfl
theorem i72_15 : insAt 72 15 = some (.ireturn, 1, (0, 0, 0, 0), 0) := rfl
theorem s72_15 {c : Nat → List AV → SS → Option Out} {l0 l1 l2 : Option AV} {x : Int32} {L2 : List (Nat × AV)} {St : List AV} {S : SS} : ev c 72 15 [l0, l1, l2] L2 [aI x] S = if x = 0 ∨ x = 1 then some (.inl (some (aI x)), S) else none := ev_rt i72_15 rfl
theorem i72_16 : insAt 72 16 = some (.iconst 0, 1, (0, 0, 0, 0), 0) := rfl
theorem s72_16 {c : Nat → List AV → SS → Option Out} {l0 l1 l2 : Option AV} {L2 : List (Nat × AV)} {St : List AV} {S : SS} : ev c 72 16 [l0, l1, l2] L2 St S = ev c 72 17 [l0, l1, l2] L2 (aI 0 :: St) S := ev_go i72_16 rfl
theorem i72_17 : insAt 72 17 = some (.istore_n 2, 1, (0, 0, 0, 0), 0) := rfl
theorem s72_17 {c : Nat → List AV → SS → Option Out} {l0 l1 l2 : Option AV} {x : Int32} {L2 : List (Nat × AV)} {St : List AV} {S : SS} : ev c 72 17 [l0, l1, l2] L2 (aI x :: St) S = ev c 72 18 [l0, l1, some (aI x)] (kil L2 2) St S := ev_go i72_17 rfl
theorem i72_18 : insAt 72 18 = some (.iload_n 2, 1, (0, 0, 0, 0), 0) := rfl
theorem s72_18 {c : Nat → List AV → SS → Option Out} {l0 l1 : Option AV} {x : Int32} {L2 : List (Nat × AV)} {St : List AV} {S : SS} : ev c 72 18 [l0, l1, some (aI x)] L2 St S = ev c 72 19 [l0, l1, some (aI x)] L2 (aI x :: St) S := ev_go i72_18 rfl
theorem i72_19 : insAt 72 19 = some (.aload_n 0, 1, (0, 0, 0, 0), 0) := rfl
theorem s72_19 {c : Nat → List AV → SS → Option Out} {l1 l2 : Option AV} {o : OId} {L2 : List (Nat × AV)} {St : List AV} {S : SS} : ev c 72 19 [some (aR o), l1, l2] L2 St S = ev c 72 20 [some (aR o), l1, l2] L2 (aR o :: St) S := ev_go i72_19 rfl
theorem i72_20 : insAt 72 20 = some (.getfield 36, 3, (8, 0, 0, 0), 0) := rfl
theorem s72_20 {c : Nat → List AV → SS → Option Out} {l0 l1 l2 : Option AV} {j t : Nat} {L2 : List (Nat × AV)} {St : List AV} {S : SS} : ev c 72 20 [l0, l1, l2] L2 (aR (8, j, t) :: St) S = ev c 72 23 [l0, l1, l2] L2 (S.2.2.1 (8, j, t) 0 :: St) S := ev_go i72_20 rfl
theorem i72_23 : insAt 72 23 = some (.getfield 46, 3, (6, 0, 1, 0), 0) := rfl
theorem s72_23 {c : Nat → List AV → SS → Option Out} {l0 l1 l2 : Option AV} {j t : Nat} {L2 : List (Nat × AV)} {St : List AV} {S : SS} : ev c 72 23 [l0, l1, l2] L2 (aR (6, j, t) :: St) S = ev c 72 26 [l0, l1, l2] L2 (aI (S.1 (6, j, t) 0) :: St) S := ev_go i72_23 rfl
theorem i72_26 : insAt 72 26 = some (.if_icmp .ge 28, 3, (0, 0, 0, 0), 0) := rfl
theorem s72_26 {c : Nat → List AV → SS → Option Out} {l0 l1 l2 : Option AV} {x y : Int32} {L2 : List (Nat × AV)} {St : List AV} {S : SS} : ev c 72 26 [l0, l1, l2] L2 (aI y :: aI x :: St) S = if y ≤ x then ev c 72 54 [l0, l1, l2] L2 St S else ev c 72 29 [l0, l1, l2] L2 St S := ev_br i72_26 rfl
theorem i72_29 : insAt 72 29 = some (.iload_n 2, 1, (0, 0, 0, 0), 0) := rfl
theorem s72_29 {c : Nat → List AV → SS → Option Out} {l0 l1 : Option AV} {x : Int32} {L2 : List (Nat × AV)} {St : List AV} {S : SS} : ev c 72 29 [l0, l1, some (aI x)] L2 St S = ev c 72 30 [l0, l1, some (aI x)] L2 (aI x :: St) S := ev_go i72_29 rfl
theorem i72_30 : insAt 72 30 = some (.aload_n 0, 1, (0, 0, 0, 0), 0) := rfl
theorem s72_30 {c : Nat → List AV → SS → Option Out} {l1 l2 : Option AV} {o : OId} {L2 : List (Nat × AV)} {St : List AV} {S : SS} : ev c 72 30 [some (aR o), l1, l2] L2 St S = ev c 72 31 [some (aR o), l1, l2] L2 (aR o :: St) S := ev_go i72_30 rfl
theorem i72_31 : insAt 72 31 = some (.getfield 33, 3, (8, 6, 0, 0), 0) := rfl
theorem s72_31 {c : Nat → List AV → SS → Option Out} {l0 l1 l2 : Option AV} {j t : Nat} {L2 : List (Nat × AV)} {St : List AV} {S : SS} : ev c 72 31 [l0, l1, l2] L2 (aR (8, j, t) :: St) S = ev c 72 34 [l0, l1, l2] L2 (aI (S.1 (8, j, t) 6) :: St) S := ev_go i72_31 rfl
theorem i72_34 : insAt 72 34 = some (.if_icmp .eq 14, 3, (0, 0, 0, 0), 0) := rfl
theorem s72_34 {c : Nat → List AV → SS → Option Out} {l0 l1 l2 : Option AV} {x y : Int32} {L2 : List (Nat × AV)} {St : List AV} {S : SS} : ev c 72 34 [l0, l1, l2] L2 (aI y :: aI x :: St) S = if x = y then ev c 72 48 [l0, l1, l2] L2 St S else ev c 72 37 [l0, l1, l2] L2 St S := ev_br i72_34 rfl
theorem i72_37 : insAt 72 37 = some (.aload_n 0, 1, (0, 0, 0, 0), 0) := rfl
theorem s72_37 {c : Nat → List AV → SS → Option Out} {l1 l2 : Option AV} {o : OId} {L2 : List (Nat × AV)} {St : List AV} {S : SS} : ev c 72 37 [some (aR o), l1, l2] L2 St S = ev c 72 38 [some (aR o), l1, l2] L2 (aR o :: St) S := ev_go i72_37 rfl
theorem i72_38 : insAt 72 38 = some (.iload_n 2, 1, (0, 0, 0, 0), 0) := rfl
theorem s72_38 {c : Nat → List AV → SS → Option Out} {l0 l1 : Option AV} {x : Int32} {L2 : List (Nat × AV)} {St : List AV} {S : SS} : ev c 72 38 [l0, l1, some (aI x)] L2 St S = ev c 72 39 [l0, l1, some (aI x)] L2 (aI x :: St) S := ev_go i72_38 rfl
theorem i72_39 : insAt 72 39 = some (.iload_n 1, 1, (0, 0, 0, 0), 0) := rfl
theorem s72_39 {c : Nat → List AV → SS → Option Out} {l0 l2 : Option AV} {x : Int32} {L2 : List (Nat × AV)} {St : List AV} {S : SS} : ev c 72 39 [l0, some (aI x), l2] L2 St S = ev c 72 40 [l0, some (aI x), l2] L2 (aI x :: St) S := ev_go i72_39 rfl
theorem i72_40 : insAt 72 40 = some (.invokestatic 122, 3, (78, 3, 0, 0), 0) := rfl
theorem s72_40 {c : Nat → List AV → SS → Option Out} {l0 l1 l2 : Option AV} {a0 : OId} {a1 : Int32} {a2 : Int32} {L2 : List (Nat × AV)} {S : SS} : ev c 72 40 [l0, l1, l2] L2 [aI a2, aI a1, aR a0] S = ck (c 78 [aR a0, aI a1, aI a2] S) (fun v S' => ev c 72 43 [l0, l1, l2] L2 (v.toList ++ []) S') := ev_call i72_40 rfl
theorem i72_43 : insAt 72 43 = some (.ifCond .eq 5, 3, (0, 0, 0, 0), 0) := rfl
theorem s72_43 {c : Nat → List AV → SS → Option Out} {l0 l1 l2 : Option AV} {x : Int32} {L2 : List (Nat × AV)} {St : List AV} {S : SS} : ev c 72 43 [l0, l1, l2] L2 (aI x :: St) S = if x = 0 then ev c 72 48 [l0, l1, l2] L2 St S else ev c 72 46 [l0, l1, l2] L2 St S := ev_br i72_43 rfl
theorem i72_46 : insAt 72 46 = some (.iconst 1, 1, (0, 0, 0, 0), 0) := rfl
theorem s72_46 {c : Nat → List AV → SS → Option Out} {l0 l1 l2 : Option AV} {L2 : List (Nat × AV)} {St : List AV} {S : SS} : ev c 72 46 [l0, l1, l2] L2 St S = ev c 72 47 [l0, l1, l2] L2 (aI 1 :: St) S := ev_go i72_46 rfl
theorem i72_47 : insAt 72 47 = some (.ireturn, 1, (0, 0, 0, 0), 0) := rfl
theorem s72_47 {c : Nat → List AV → SS → Option Out} {l0 l1 l2 : Option AV} {x : Int32} {L2 : List (Nat × AV)} {St : List AV} {S : SS} : ev c 72 47 [l0, l1, l2] L2 [aI x] S = if x = 0 ∨ x = 1 then some (.inl (some (aI x)), S) else none := ev_rt i72_47 rfl
theorem i72_48 : insAt 72 48 = some (.iinc 2 1, 3, (0, 0, 0, 0), 0) := rfl
theorem s72_48 {c : Nat → List AV → SS → Option Out} {l0 l1 : Option AV} {x : Int32} {L2 : List (Nat × AV)} {St : List AV} {S : SS} : ev c 72 48 [l0, l1, some (aI x)] L2 St S = ev c 72 51 [l0, l1, some (aI (x + 1))] (kil L2 2) St S := ev_go i72_48 rfl
theorem i72_51 : insAt 72 51 = some (.goto (-33), 3, (0, 0, 0, 0), 0) := rfl
theorem s72_51 {c : Nat → List AV → SS → Option Out} {l0 l1 l2 : Option AV} {L2 : List (Nat × AV)} {St : List AV} {S : SS} : ev c 72 51 [l0, l1, l2] L2 St S = ev c 72 18 [l0, l1, l2] L2 St S := ev_go i72_51 rfl
theorem i72_54 : insAt 72 54 = some (.iconst 0, 1, (0, 0, 0, 0), 0) := rfl
theorem s72_54 {c : Nat → List AV → SS → Option Out} {l0 l1 l2 : Option AV} {L2 : List (Nat × AV)} {St : List AV} {S : SS} : ev c 72 54 [l0, l1, l2] L2 St S = ev c 72 55 [l0, l1, l2] L2 (aI 0 :: St) S := ev_go i72_54 rfl
theorem i72_55 : insAt 72 55 = some (.ireturn, 1, (0, 0, 0, 0), 0) := rfl
theorem s72_55 {c : Nat → List AV → SS → Option Out} {l0 l1 l2 : Option AV} {x : Int32} {L2 : List (Nat × AV)} {St : List AV} {S : SS} : ev c 72 55 [l0, l1, l2] L2 [aI x] S = if x = 0 ∨ x = 1 then some (.inl (some (aI x)), S) else none := ev_rt i72_55 rfl
theorem m72 {d : Nat} {a0 : OId} {a1 : Int32} {S : SS} : evm (d + 1) 72 [aR a0, aI a1] S = ev (evm d) 72 0 [some (aR a0), some (aI a1), none] [] [] S := evm_s (n := 3) rfl (Nat.le_of_ble_eq_true rfl) rfl rfl
/-! FrequencyOffice$Search.chooseChannel()Z -/
theorem i73_0 : insAt 73 0 = some (.aload_n 0, 1, (0, 0, 0, 0), 0) := rfl
theorem s73_0 {c : Nat → List AV → SS → Option Out} {l1 l2 l3 l4 : Option AV} {o : OId} {L2 : List (Nat × AV)} {St : List AV} {S : SS} : ev c 73 0 [some (aR o), l1, l2, l3, l4] L2 St S = ev c 73 1 [some (aR o), l1, l2, l3, l4] L2 (aR o :: St) S := ev_go i73_0 rfl
theorem i73_1 : insAt 73 1 = some (.invokevirtual 137, 3, (74, 0, 2, 8), 0) := rfl
theorem s73_1 {c : Nat → List AV → SS → Option Out} {l0 l1 l2 l3 l4 : Option AV} {j t : Nat} {L2 : List (Nat × AV)} {S : SS} : ev c 73 1 [l0, l1, l2, l3, l4] L2 [aR (8, j, t)] S = ck (c 74 [aR (8, j, t)] S) (fun v S' => ev c 73 4 [l0, l1, l2, l3, l4] L2 (v.toList ++ []) S') := ev_call i73_1 rfl
theorem i73_4 : insAt 73 4 = some (.istore_n 1, 1, (0, 0, 0, 0), 0) := rfl
theorem s73_4 {c : Nat → List AV → SS → Option Out} {l0 l1 l2 l3 l4 : Option AV} {x : Int32} {L2 : List (Nat × AV)} {St : List AV} {S : SS} : ev c 73 4 [l0, l1, l2, l3, l4] L2 (aI x :: St) S = ev c 73 5 [l0, some (aI x), l2, l3, l4] (kil L2 1) St S := ev_go i73_4 rfl
theorem i73_5 : insAt 73 5 = some (.iconst 0, 1, (0, 0, 0, 0), 0) := rfl
theorem s73_5 {c : Nat → List AV → SS → Option Out} {l0 l1 l2 l3 l4 : Option AV} {L2 : List (Nat × AV)} {St : List AV} {S : SS} : ev c 73 5 [l0, l1, l2, l3, l4] L2 St S = ev c 73 6 [l0, l1, l2, l3, l4] L2 (aI 0 :: St) S := ev_go i73_5 rfl
theorem i73_6 : insAt 73 6 = some (.istore_n 2, 1, (0, 0, 0, 0), 0) := rfl
theorem s73_6 {c : Nat → List AV → SS → Option Out} {l0 l1 l2 l3 l4 : Option AV} {x : Int32} {L2 : List (Nat × AV)} {St : List AV} {S : SS} : ev c 73 6 [l0, l1, l2, l3, l4] L2 (aI x :: St) S = ev c 73 7 [l0, l1, some (aI x), l3, l4] (kil L2 2) St S := ev_go i73_6 rfl
theorem i73_7 : insAt 73 7 = some (.aload_n 0, 1, (0, 0, 0, 0), 0) := rfl
theorem s73_7 {c : Nat → List AV → SS → Option Out} {l1 l2 l3 l4 : Option AV} {o : OId} {L2 : List (Nat × AV)} {St : List AV} {S : SS} : ev c 73 7 [some (aR o), l1, l2, l3, l4] L2 St S = ev c 73 8 [some (aR o), l1, l2, l3, l4] L2 (aR o :: St) S := ev_go i73_7 rfl
theorem i73_8 : insAt 73 8 = some (.getfield 12, 3, (8, 1, 0, 0), 0) := rfl
theorem s73_8 {c : Nat → List AV → SS → Option Out} {l0 l1 l2 l3 l4 : Option AV} {j t : Nat} {L2 : List (Nat × AV)} {St : List AV} {S : SS} : ev c 73 8 [l0, l1, l2, l3, l4] L2 (aR (8, j, t) :: St) S = ev c 73 11 [l0, l1, l2, l3, l4] L2 (S.2.2.1 (8, j, t) 1 :: St) S := ev_go i73_8 rfl
theorem i73_11 : insAt 73 11 = some (.iconst (-1), 1, (0, 0, 0, 0), 0) := rfl
theorem s73_11 {c : Nat → List AV → SS → Option Out} {l0 l1 l2 l3 l4 : Option AV} {L2 : List (Nat × AV)} {St : List AV} {S : SS} : ev c 73 11 [l0, l1, l2, l3, l4] L2 St S = ev c 73 12 [l0, l1, l2, l3, l4] L2 (aI (-1) :: St) S := ev_go i73_11 rfl
theorem i73_12 : insAt 73 12 = some (.putfield 141, 3, (7, 1, 1, 0), 0) := rfl
theorem s73_12 {c : Nat → List AV → SS → Option Out} {l0 l1 l2 l3 l4 : Option AV} {j t : Nat} {x : Int32} {L2 : List (Nat × AV)} {St : List AV} {S : SS} : ev c 73 12 [l0, l1, l2, l3, l4] L2 (aI x :: aR (7, j, t) :: St) S = ev c 73 15 [l0, l1, l2, l3, l4] L2 St (setI S.1 (7, j, t) 1 x, S.2) := ev_go i73_12 rfl
theorem i73_15 : insAt 73 15 = some (.iconst 0, 1, (0, 0, 0, 0), 0) := rfl
theorem s73_15 {c : Nat → List AV → SS → Option Out} {l0 l1 l2 l3 l4 : Option AV} {L2 : List (Nat × AV)} {St : List AV} {S : SS} : ev c 73 15 [l0, l1, l2, l3, l4] L2 St S = ev c 73 16 [l0, l1, l2, l3, l4] L2 (aI 0 :: St) S := ev_go i73_15 rfl
theorem i73_16 : insAt 73 16 = some (.istore_n 3, 1, (0, 0, 0, 0), 0) := rfl
theorem s73_16 {c : Nat → List AV → SS → Option Out} {l0 l1 l2 l3 l4 : Option AV} {x : Int32} {L2 : List (Nat × AV)} {St : List AV} {S : SS} : ev c 73 16 [l0, l1, l2, l3, l4] L2 (aI x :: St) S = ev c 73 17 [l0, l1, l2, some (aI x), l4] (kil L2 3) St S := ev_go i73_16 rfl
theorem i73_17 : insAt 73 17 = some (.iload_n 3, 1, (0, 0, 0, 0), 0) := rfl
theorem s73_17 {c : Nat → List AV → SS → Option Out} {l0 l1 l2 l4 : Option AV} {x : Int32} {L2 : List (Nat × AV)} {St : List AV} {S : SS} : ev c 73 17 [l0, l1, l2, some (aI x), l4] L2 St S = ev c 73 18 [l0, l1, l2, some (aI x), l4] L2 (aI x :: St) S := ev_go i73_17 rfl
theorem i73_18 : insAt 73 18 = some (.bipush 8, 2, (0, 0, 0, 0), 0) := rfl
theorem s73_18 {c : Nat → List AV → SS → Option Out} {l0 l1 l2 l3 l4 : Option AV} {L2 : List (Nat × AV)} {St : List AV} {S : SS} : ev c 73 18 [l0, l1, l2, l3, l4] L2 St S = ev c 73 20 [l0, l1, l2, l3, l4] L2 (aI 8 :: St) S := ev_go i73_18 rfl
theorem i73_20 : insAt 73 20 = some (.if_icmp .ge 53, 3, (0, 0, 0, 0), 0) := rfl
theorem s73_20 {c : Nat → List AV → SS → Option Out} {l0 l1 l2 l3 l4 : Option AV} {x y : Int32} {L2 : List (Nat × AV)} {St : List AV} {S : SS} : ev c 73 20 [l0, l1, l2, l3, l4] L2 (aI y :: aI x :: St) S = if y ≤ x then ev c 73 73 [l0, l1, l2, l3, l4] L2 St S else ev c 73 23 [l0, l1, l2, l3, l4] L2 St S := ev_br i73_20 rfl
theorem i73_23 : insAt 73 23 = some (.iload_n 1, 1, (0, 0, 0, 0), 0) := rfl
theorem s73_23 {c : Nat → List AV → SS → Option Out} {l0 l2 l3 l4 : Option AV} {x : Int32} {L2 : List (Nat × AV)} {St : List AV} {S : SS} : ev c 73 23 [l0, some (aI x), l2, l3, l4] L2 St S = ev c 73 24 [l0, some (aI x), l2, l3, l4] L2 (aI x :: St) S := ev_go i73_23 rfl
theorem i73_24 : insAt 73 24 = some (.i2l, 1, (0, 0, 0, 0), 0) := rfl
theorem s73_24 {c : Nat → List AV → SS → Option Out} {l0 l1 l2 l3 l4 : Option AV} {x : Int32} {L2 : List (Nat × AV)} {St : List AV} {S : SS} : ev c 73 24 [l0, l1, l2, l3, l4] L2 (aI x :: St) S = ev c 73 25 [l0, l1, l2, l3, l4] L2 (aL x.toInt64 :: St) S := ev_go i73_24 rfl
theorem i73_25 : insAt 73 25 = some (.iload_n 3, 1, (0, 0, 0, 0), 0) := rfl
theorem s73_25 {c : Nat → List AV → SS → Option Out} {l0 l1 l2 l4 : Option AV} {x : Int32} {L2 : List (Nat × AV)} {St : List AV} {S : SS} : ev c 73 25 [l0, l1, l2, some (aI x), l4] L2 St S = ev c 73 26 [l0, l1, l2, some (aI x), l4] L2 (aI x :: St) S := ev_go i73_25 rfl
theorem i73_26 : insAt 73 26 = some (.invokestatic 129, 3, (43, 2, 1, 0), 0) := rfl
theorem s73_26 {c : Nat → List AV → SS → Option Out} {l0 l1 l2 l3 l4 : Option AV} {a0 : Int64} {a1 : Int32} {L2 : List (Nat × AV)} {S : SS} : ev c 73 26 [l0, l1, l2, l3, l4] L2 [aI a1, aL a0] S = ck (c 43 [aL a0, aI a1] S) (fun v S' => ev c 73 29 [l0, l1, l2, l3, l4] L2 (v.toList ++ []) S') := ev_call i73_26 rfl
theorem i73_29 : insAt 73 29 = some (.ifCond .eq 38, 3, (0, 0, 0, 0), 0) := rfl
theorem s73_29 {c : Nat → List AV → SS → Option Out} {l0 l1 l2 l3 l4 : Option AV} {x : Int32} {L2 : List (Nat × AV)} {St : List AV} {S : SS} : ev c 73 29 [l0, l1, l2, l3, l4] L2 (aI x :: St) S = if x = 0 then ev c 73 67 [l0, l1, l2, l3, l4] L2 St S else ev c 73 32 [l0, l1, l2, l3, l4] L2 St S := ev_br i73_29 rfl
theorem i73_32 : insAt 73 32 = some (.aload_n 0, 1, (0, 0, 0, 0), 0) := rfl
theorem s73_32 {c : Nat → List AV → SS → Option Out} {l1 l2 l3 l4 : Option AV} {o : OId} {L2 : List (Nat × AV)} {St : List AV} {S : SS} : ev c 73 32 [some (aR o), l1, l2, l3, l4] L2 St S = ev c 73 33 [some (aR o), l1, l2, l3, l4] L2 (aR o :: St) S := ev_go i73_32 rfl
theorem i73_33 : insAt 73 33 = some (.iload_n 3, 1, (0, 0, 0, 0), 0) := rfl
theorem s73_33 {c : Nat → List AV → SS → Option Out} {l0 l1 l2 l4 : Option AV} {x : Int32} {L2 : List (Nat × AV)} {St : List AV} {S : SS} : ev c 73 33 [l0, l1, l2, some (aI x), l4] L2 St S = ev c 73 34 [l0, l1, l2, some (aI x), l4] L2 (aI x :: St) S := ev_go i73_33 rfl
theorem i73_34 : insAt 73 34 = some (.invokevirtual 144, 3, (75, 1, 2, 8), 0) := rfl
theorem s73_34 {c : Nat → List AV → SS → Option Out} {l0 l1 l2 l3 l4 : Option AV} {a0 : Int32} {j t : Nat} {L2 : List (Nat × AV)} {S : SS} : ev c 73 34 [l0, l1, l2, l3, l4] L2 [aI a0, aR (8, j, t)] S = ck (c 75 [aR (8, j, t), aI a0] S) (fun v S' => ev c 73 37 [l0, l1, l2, l3, l4] L2 (v.toList ++ []) S') := ev_call i73_34 rfl
theorem i73_37 : insAt 73 37 = some (.istore 4, 2, (0, 0, 0, 0), 0) := rfl
theorem s73_37 {c : Nat → List AV → SS → Option Out} {l0 l1 l2 l3 l4 : Option AV} {x : Int32} {L2 : List (Nat × AV)} {St : List AV} {S : SS} : ev c 73 37 [l0, l1, l2, l3, l4] L2 (aI x :: St) S = ev c 73 39 [l0, l1, l2, l3, some (aI x)] (kil L2 4) St S := ev_go i73_37 rfl
theorem i73_39 : insAt 73 39 = some (.aload_n 0, 1, (0, 0, 0, 0), 0) := rfl
theorem s73_39 {c : Nat → List AV → SS → Option Out} {l1 l2 l3 l4 : Option AV} {o : OId} {L2 : List (Nat × AV)} {St : List AV} {S : SS} : ev c 73 39 [some (aR o), l1, l2, l3, l4] L2 St S = ev c 73 40 [some (aR o), l1, l2, l3, l4] L2 (aR o :: St) S := ev_go i73_39 rfl
theorem i73_40 : insAt 73 40 = some (.getfield 12, 3, (8, 1, 0, 0), 0) := rfl
theorem s73_40 {c : Nat → List AV → SS → Option Out} {l0 l1 l2 l3 l4 : Option AV} {j t : Nat} {L2 : List (Nat × AV)} {St : List AV} {S : SS} : ev c 73 40 [l0, l1, l2, l3, l4] L2 (aR (8, j, t) :: St) S = ev c 73 43 [l0, l1, l2, l3, l4] L2 (S.2.2.1 (8, j, t) 1 :: St) S := ev_go i73_40 rfl
theorem i73_43 : insAt 73 43 = some (.getfield 141, 3, (7, 1, 1, 0), 0) := rfl
theorem s73_43 {c : Nat → List AV → SS → Option Out} {l0 l1 l2 l3 l4 : Option AV} {j t : Nat} {L2 : List (Nat × AV)} {St : List AV} {S : SS} : ev c 73 43 [l0, l1, l2, l3, l4] L2 (aR (7, j, t) :: St) S = ev c 73 46 [l0, l1, l2, l3, l4] L2 (aI (S.1 (7, j, t) 1) :: St) S := ev_go i73_43 rfl
theorem i73_46 : insAt 73 46 = some (.iconst (-1), 1, (0, 0, 0, 0), 0) := rfl
theorem s73_46 {c : Nat → List AV → SS → Option Out} {l0 l1 l2 l3 l4 : Option AV} {L2 : List (Nat × AV)} {St : List AV} {S : SS} : ev c 73 46 [l0, l1, l2, l3, l4] L2 St S = ev c 73 47 [l0, l1, l2, l3, l4] L2 (aI (-1) :: St) S := ev_go i73_46 rfl
theorem i73_47 : insAt 73 47 = some (.if_icmp .eq 9, 3, (0, 0, 0, 0), 0) := rfl
theorem s73_47 {c : Nat → List AV → SS → Option Out} {l0 l1 l2 l3 l4 : Option AV} {x y : Int32} {L2 : List (Nat × AV)} {St : List AV} {S : SS} : ev c 73 47 [l0, l1, l2, l3, l4] L2 (aI y :: aI x :: St) S = if x = y then ev c 73 56 [l0, l1, l2, l3, l4] L2 St S else ev c 73 50 [l0, l1, l2, l3, l4] L2 St S := ev_br i73_47 rfl
theorem i73_50 : insAt 73 50 = some (.iload 4, 2, (0, 0, 0, 0), 0) := rfl
theorem s73_50 {c : Nat → List AV → SS → Option Out} {l0 l1 l2 l3 : Option AV} {x : Int32} {L2 : List (Nat × AV)} {St : List AV} {S : SS} : ev c 73 50 [l0, l1, l2, l3, some (aI x)] L2 St S = ev c 73 52 [l0, l1, l2, l3, some (aI x)] L2 (aI x :: St) S := ev_go i73_50 rfl
theorem i73_52 : insAt 73 52 = some (.iload_n 2, 1, (0, 0, 0, 0), 0) := rfl
theorem s73_52 {c : Nat → List AV → SS → Option Out} {l0 l1 l3 l4 : Option AV} {x : Int32} {L2 : List (Nat × AV)} {St : List AV} {S : SS} : ev c 73 52 [l0, l1, some (aI x), l3, l4] L2 St S = ev c 73 53 [l0, l1, some (aI x), l3, l4] L2 (aI x :: St) S := ev_go i73_52 rfl
theorem i73_53 : insAt 73 53 = some (.if_icmp .ge 14, 3, (0, 0, 0, 0), 0) := rfl
theorem s73_53 {c : Nat → List AV → SS → Option Out} {l0 l1 l2 l3 l4 : Option AV} {x y : Int32} {L2 : List (Nat × AV)} {St : List AV} {S : SS} : ev c 73 53 [l0, l1, l2, l3, l4] L2 (aI y :: aI x :: St) S = if y ≤ x then ev c 73 67 [l0, l1, l2, l3, l4] L2 St S else ev c 73 56 [l0, l1, l2, l3, l4] L2 St S := ev_br i73_53 rfl
theorem i73_56 : insAt 73 56 = some (.aload_n 0, 1, (0, 0, 0, 0), 0) := rfl
theorem s73_56 {c : Nat → List AV → SS → Option Out} {l1 l2 l3 l4 : Option AV} {o : OId} {L2 : List (Nat × AV)} {St : List AV} {S : SS} : ev c 73 56 [some (aR o), l1, l2, l3, l4] L2 St S = ev c 73 57 [some (aR o), l1, l2, l3, l4] L2 (aR o :: St) S := ev_go i73_56 rfl
theorem i73_57 : insAt 73 57 = some (.getfield 12, 3, (8, 1, 0, 0), 0) := rfl
theorem s73_57 {c : Nat → List AV → SS → Option Out} {l0 l1 l2 l3 l4 : Option AV} {j t : Nat} {L2 : List (Nat × AV)} {St : List AV} {S : SS} : ev c 73 57 [l0, l1, l2, l3, l4] L2 (aR (8, j, t) :: St) S = ev c 73 60 [l0, l1, l2, l3, l4] L2 (S.2.2.1 (8, j, t) 1 :: St) S := ev_go i73_57 rfl
theorem i73_60 : insAt 73 60 = some (.iload_n 3, 1, (0, 0, 0, 0), 0) := rfl
theorem s73_60 {c : Nat → List AV → SS → Option Out} {l0 l1 l2 l4 : Option AV} {x : Int32} {L2 : List (Nat × AV)} {St : List AV} {S : SS} : ev c 73 60 [l0, l1, l2, some (aI x), l4] L2 St S = ev c 73 61 [l0, l1, l2, some (aI x), l4] L2 (aI x :: St) S := ev_go i73_60 rfl
theorem i73_61 : insAt 73 61 = some (.putfield 141, 3, (7, 1, 1, 0), 0) := rfl
theorem s73_61 {c : Nat → List AV → SS → Option Out} {l0 l1 l2 l3 l4 : Option AV} {j t : Nat} {x : Int32} {L2 : List (Nat × AV)} {St : List AV} {S : SS} : ev c 73 61 [l0, l1, l2, l3, l4] L2 (aI x :: aR (7, j, t) :: St) S = ev c 73 64 [l0, l1, l2, l3, l4] L2 St (setI S.1 (7, j, t) 1 x, S.2) := ev_go i73_61 rfl
theorem i73_64 : insAt 73 64 = some (.iload 4, 2, (0, 0, 0, 0), 0) := rfl
theorem s73_64 {c : Nat → List AV → SS → Option Out} {l0 l1 l2 l3 : Option AV} {x : Int32} {L2 : List (Nat × AV)} {St : List AV} {S : SS} : ev c 73 64 [l0, l1, l2, l3, some (aI x)] L2 St S = ev c 73 66 [l0, l1, l2, l3, some (aI x)] L2 (aI x :: St) S := ev_go i73_64 rfl
theorem i73_66 : insAt 73 66 = some (.istore_n 2, 1, (0, 0, 0, 0), 0) := rfl
theorem s73_66 {c : Nat → List AV → SS → Option Out} {l0 l1 l2 l3 l4 : Option AV} {x : Int32} {L2 : List (Nat × AV)} {St : List AV} {S : SS} : ev c 73 66 [l0, l1, l2, l3, l4] L2 (aI x :: St) S = ev c 73 67 [l0, l1, some (aI x), l3, l4] (kil L2 2) St S := ev_go i73_66 rfl
theorem i73_67 : insAt 73 67 = some (.iinc 3 1, 3, (0, 0, 0, 0), 0) := rfl
theorem s73_67 {c : Nat → List AV → SS → Option Out} {l0 l1 l2 l4 : Option AV} {x : Int32} {L2 : List (Nat × AV)} {St : List AV} {S : SS} : ev c 73 67 [l0, l1, l2, some (aI x), l4] L2 St S = ev c 73 70 [l0, l1, l2, some (aI (x + 1)), l4] (kil L2 3) St S := ev_go i73_67 rfl
theorem i73_70 : insAt 73 70 = some (.goto (-53), 3, (0, 0, 0, 0), 0) := rfl
theorem s73_70 {c : Nat → List AV → SS → Option Out} {l0 l1 l2 l3 l4 : Option AV} {L2 : List (Nat × AV)} {St : List AV} {S : SS} : ev c 73 70 [l0, l1, l2, l3, l4] L2 St S = ev c 73 17 [l0, l1, l2, l3, l4] L2 St S := ev_go i73_70 rfl
theorem i73_73 : insAt 73 73 = some (.aload_n 0, 1, (0, 0, 0, 0), 0) := rfl
theorem s73_73 {c : Nat → List AV → SS → Option Out} {l1 l2 l3 l4 : Option AV} {o : OId} {L2 : List (Nat × AV)} {St : List AV} {S : SS} : ev c 73 73 [some (aR o), l1, l2, l3, l4] L2 St S = ev c 73 74 [some (aR o), l1, l2, l3, l4] L2 (aR o :: St) S := ev_go i73_73 rfl
theorem i73_74 : insAt 73 74 = some (.getfield 12, 3, (8, 1, 0, 0), 0) := rfl
theorem s73_74 {c : Nat → List AV → SS → Option Out} {l0 l1 l2 l3 l4 : Option AV} {j t : Nat} {L2 : List (Nat × AV)} {St : List AV} {S : SS} : ev c 73 74 [l0, l1, l2, l3, l4] L2 (aR (8, j, t) :: St) S = ev c 73 77 [l0, l1, l2, l3, l4] L2 (S.2.2.1 (8, j, t) 1 :: St) S := ev_go i73_74 rfl
theorem i73_77 : insAt 73 77 = some (.getfield 141, 3, (7, 1, 1, 0), 0) := rfl
theorem s73_77 {c : Nat → List AV → SS → Option Out} {l0 l1 l2 l3 l4 : Option AV} {j t : Nat} {L2 : List (Nat × AV)} {St : List AV} {S : SS} : ev c 73 77 [l0, l1, l2, l3, l4] L2 (aR (7, j, t) :: St) S = ev c 73 80 [l0, l1, l2, l3, l4] L2 (aI (S.1 (7, j, t) 1) :: St) S := ev_go i73_77 rfl
theorem i73_80 : insAt 73 80 = some (.iconst (-1), 1, (0, 0, 0, 0), 0) := rfl
theorem s73_80 {c : Nat → List AV → SS → Option Out} {l0 l1 l2 l3 l4 : Option AV} {L2 : List (Nat × AV)} {St : List AV} {S : SS} : ev c 73 80 [l0, l1, l2, l3, l4] L2 St S = ev c 73 81 [l0, l1, l2, l3, l4] L2 (aI (-1) :: St) S := ev_go i73_80 rfl
theorem i73_81 : insAt 73 81 = some (.if_icmp .eq 7, 3, (0, 0, 0, 0), 0) := rfl
theorem s73_81 {c : Nat → List AV → SS → Option Out} {l0 l1 l2 l3 l4 : Option AV} {x y : Int32} {L2 : List (Nat × AV)} {St : List AV} {S : SS} : ev c 73 81 [l0, l1, l2, l3, l4] L2 (aI y :: aI x :: St) S = if x = y then ev c 73 88 [l0, l1, l2, l3, l4] L2 St S else ev c 73 84 [l0, l1, l2, l3, l4] L2 St S := ev_br i73_81 rfl
theorem i73_84 : insAt 73 84 = some (.iconst 1, 1, (0, 0, 0, 0), 0) := rfl
theorem s73_84 {c : Nat → List AV → SS → Option Out} {l0 l1 l2 l3 l4 : Option AV} {L2 : List (Nat × AV)} {St : List AV} {S : SS} : ev c 73 84 [l0, l1, l2, l3, l4] L2 St S = ev c 73 85 [l0, l1, l2, l3, l4] L2 (aI 1 :: St) S := ev_go i73_84 rfl
theorem i73_85 : insAt 73 85 = some (.goto 4, 3, (0, 0, 0, 0), 0) := rfl
theorem s73_85 {c : Nat → List AV → SS → Option Out} {l0 l1 l2 l3 l4 : Option AV} {L2 : List (Nat × AV)} {St : List AV} {S : SS} : ev c 73 85 [l0, l1, l2, l3, l4] L2 St S = ev c 73 89 [l0, l1, l2, l3, l4] L2 St S := ev_go i73_85 rfl
theorem i73_88 : insAt 73 88 = some (.iconst 0, 1, (0, 0, 0, 0), 0) := rfl
theorem s73_88 {c : Nat → List AV → SS → Option Out} {l0 l1 l2 l3 l4 : Option AV} {L2 : List (Nat × AV)} {St : List AV} {S : SS} : ev c 73 88 [l0, l1, l2, l3, l4] L2 St S = ev c 73 89 [l0, l1, l2, l3, l4] L2 (aI 0 :: St) S := ev_go i73_88 rfl
theorem i73_89 : insAt 73 89 = some (.ireturn, 1, (0, 0, 0, 0), 0) := rfl
theorem s73_89 {c : Nat → List AV → SS → Option Out} {l0 l1 l2 l3 l4 : Option AV} {x : Int32} {L2 : List (Nat × AV)} {St : List AV} {S : SS} : ev c 73 89 [l0, l1, l2, l3, l4] L2 [aI x] S = if x = 0 ∨ x = 1 then some (.inl (some (aI x)), S) else none := ev_rt i73_89 rfl
theorem m73 {d : Nat} {o : OId} {S : SS} : evm (d + 1) 73 [aR o] S = ev (evm d) 73 0 [some (aR o), none, none, none, none] [] [] S := evm_s (n := 5) rfl (Nat.le_of_ble_eq_true rfl) rfl rfl
/-! FrequencyOffice$Search.openToServed()I -/
theorem i74_0 : insAt 74 0 = some (.lconst 0, 1, (0, 0, 0, 0), 0) := rfl
theorem s74_0 {c : Nat → List AV → SS → Option Out} {l0 l1 l2 l3 : Option AV} {L2 : List (Nat × AV)} {St : List AV} {S : SS} : ev c 74 0 [l0, l1, l2, l3] L2 St S = ev c 74 1 [l0, l1, l2, l3] L2 (aL 0 :: St) S := ev_go i74_0 rfl
theorem i74_1 : insAt 74 1 = some (.lstore_n 1, 1, (0, 0, 0, 0), 0) := rfl
theorem s74_1 {c : Nat → List AV → SS → Option Out} {l0 l1 l2 l3 : Option AV} {x : Int64} {L2 : List (Nat × AV)} {St : List AV} {S : SS} : ev c 74 1 [l0, l1, l2, l3] L2 (aL x :: St) S = ev c 74 2 [l0, none, none, l3] ((1, aL x) :: kil2 L2 1) St S := ev_go i74_1 rfl
theorem i74_2 : insAt 74 2 = some (.iconst 0, 1, (0, 0, 0, 0), 0) := rfl
theorem s74_2 {c : Nat → List AV → SS → Option Out} {l0 l1 l2 l3 : Option AV} {L2 : List (Nat × AV)} {St : List AV} {S : SS} : ev c 74 2 [l0, l1, l2, l3] L2 St S = ev c 74 3 [l0, l1, l2, l3] L2 (aI 0 :: St) S := ev_go i74_2 rfl
theorem i74_3 : insAt 74 3 = some (.istore_n 3, 1, (0, 0, 0, 0), 0) := rfl
theorem s74_3 {c : Nat → List AV → SS → Option Out} {l0 l1 l2 l3 : Option AV} {x : Int32} {L2 : List (Nat × AV)} {St : List AV} {S : SS} : ev c 74 3 [l0, l1, l2, l3] L2 (aI x :: St) S = ev c 74 4 [l0, l1, l2, some (aI x)] (kil L2 3) St S := ev_go i74_3 rfl
theorem i74_4 : insAt 74 4 = some (.iload_n 3, 1, (0, 0, 0, 0), 0) := rfl
theorem s74_4 {c : Nat → List AV → SS → Option Out} {l0 l1 l2 : Option AV} {x : Int32} {L2 : List (Nat × AV)} {St : List AV} {S : SS} : ev c 74 4 [l0, l1, l2, some (aI x)] L2 St S = ev c 74 5 [l0, l1, l2, some (aI x)] L2 (aI x :: St) S := ev_go i74_4 rfl
theorem i74_5 : insAt 74 5 = some (.aload_n 0, 1, (0, 0, 0, 0), 0) := rfl
theorem s74_5 {c : Nat → List AV → SS → Option Out} {l1 l2 l3 : Option AV} {o : OId} {L2 : List (Nat × AV)} {St : List AV} {S : SS} : ev c 74 5 [some (aR o), l1, l2, l3] L2 St S = ev c 74 6 [some (aR o), l1, l2, l3] L2 (aR o :: St) S := ev_go i74_5 rfl
theorem i74_6 : insAt 74 6 = some (.getfield 36, 3, (8, 0, 0, 0), 0) := rfl
theorem s74_6 {c : Nat → List AV → SS → Option Out} {l0 l1 l2 l3 : Option AV} {j t : Nat} {L2 : List (Nat × AV)} {St : List AV} {S : SS} : ev c 74 6 [l0, l1, l2, l3] L2 (aR (8, j, t) :: St) S = ev c 74 9 [l0, l1, l2, l3] L2 (S.2.2.1 (8, j, t) 0 :: St) S := ev_go i74_6 rfl
theorem i74_9 : insAt 74 9 = some (.getfield 46, 3, (6, 0, 1, 0), 0) := rfl
theorem s74_9 {c : Nat → List AV → SS → Option Out} {l0 l1 l2 l3 : Option AV} {j t : Nat} {L2 : List (Nat × AV)} {St : List AV} {S : SS} : ev c 74 9 [l0, l1, l2, l3] L2 (aR (6, j, t) :: St) S = ev c 74 12 [l0, l1, l2, l3] L2 (aI (S.1 (6, j, t) 0) :: St) S := ev_go i74_9 rfl
theorem i74_12 : insAt 74 12 = some (.if_icmp .ge 34, 3, (0, 0, 0, 0), 0) := rfl
theorem s74_12 {c : Nat → List AV → SS → Option Out} {l0 l1 l2 l3 : Option AV} {x y : Int32} {L2 : List (Nat × AV)} {St : List AV} {S : SS} : ev c 74 12 [l0, l1, l2, l3] L2 (aI y :: aI x :: St) S = if y ≤ x then ev c 74 46 [l0, l1, l2, l3] L2 St S else ev c 74 15 [l0, l1, l2, l3] L2 St S := ev_br i74_12 rfl
theorem i74_15 : insAt 74 15 = some (.lload_n 1, 1, (0, 0, 0, 0), 0) := rfl
theorem s74_15 {c : Nat → List AV → SS → Option Out} {l0 l1 l2 l3 : Option AV} {x : Int64} {L2 : List (Nat × AV)} {St : List AV} {S : SS} (h : ldL L2 1 = some x) : ev c 74 15 [l0, l1, l2, l3] L2 St S = ev c 74 16 [l0, l1, l2, l3] L2 (aL x :: St) S := ev_go i74_15 (by simp only [stepI]; exact (congrArg (fun q => match q with | some x => nx (15 + 1) [l0, l1, l2, l3] L2 (aL x :: St) S | none => none) h))
theorem i74_16 : insAt 74 16 = some (.aload_n 0, 1, (0, 0, 0, 0), 0) := rfl
theorem s74_16 {c : Nat → List AV → SS → Option Out} {l1 l2 l3 : Option AV} {o : OId} {L2 : List (Nat × AV)} {St : List AV} {S : SS} : ev c 74 16 [some (aR o), l1, l2, l3] L2 St S = ev c 74 17 [some (aR o), l1, l2, l3] L2 (aR o :: St) S := ev_go i74_16 rfl
theorem i74_17 : insAt 74 17 = some (.getfield 36, 3, (8, 0, 0, 0), 0) := rfl
theorem s74_17 {c : Nat → List AV → SS → Option Out} {l0 l1 l2 l3 : Option AV} {j t : Nat} {L2 : List (Nat × AV)} {St : List AV} {S : SS} : ev c 74 17 [l0, l1, l2, l3] L2 (aR (8, j, t) :: St) S = ev c 74 20 [l0, l1, l2, l3] L2 (S.2.2.1 (8, j, t) 0 :: St) S := ev_go i74_17 rfl
theorem i74_20 : insAt 74 20 = some (.getfield 95, 3, (6, 3, 1, 0), 0) := rfl
theorem s74_20 {c : Nat → List AV → SS → Option Out} {l0 l1 l2 l3 : Option AV} {j t : Nat} {L2 : List (Nat × AV)} {St : List AV} {S : SS} : ev c 74 20 [l0, l1, l2, l3] L2 (aR (6, j, t) :: St) S = ev c 74 23 [l0, l1, l2, l3] L2 (S.2.2.1 (6, j, t) 3 :: St) S := ev_go i74_20 rfl
theorem i74_23 : insAt 74 23 = some (.iload_n 3, 1, (0, 0, 0, 0), 0) := rfl
theorem s74_23 {c : Nat → List AV → SS → Option Out} {l0 l1 l2 : Option AV} {x : Int32} {L2 : List (Nat × AV)} {St : List AV} {S : SS} : ev c 74 23 [l0, l1, l2, some (aI x)] L2 St S = ev c 74 24 [l0, l1, l2, some (aI x)] L2 (aI x :: St) S := ev_go i74_23 rfl
theorem i74_24 : insAt 74 24 = some (.invokestatic 52, 3, (32, 2, 1, 0), 0) := rfl
theorem s74_24 {c : Nat → List AV → SS → Option Out} {l0 l1 l2 l3 : Option AV} {t0 : AV} {a0 : OId} {a1 : Int32} {L2 : List (Nat × AV)} {S : SS} : ev c 74 24 [l0, l1, l2, l3] L2 [aI a1, aR a0, t0] S = ck (c 32 [aR a0, aI a1] S) (fun v S' => ev c 74 27 [l0, l1, l2, l3] L2 (v.toList ++ [t0]) S') := ev_call i74_24 rfl
theorem i74_27 : insAt 74 27 = some (.aload_n 0, 1, (0, 0, 0, 0), 0) := rfl
theorem s74_27 {c : Nat → List AV → SS → Option Out} {l1 l2 l3 : Option AV} {o : OId} {L2 : List (Nat × AV)} {St : List AV} {S : SS} : ev c 74 27 [some (aR o), l1, l2, l3] L2 St S = ev c 74 28 [some (aR o), l1, l2, l3] L2 (aR o :: St) S := ev_go i74_27 rfl
theorem i74_28 : insAt 74 28 = some (.getfield 18, 3, (8, 2, 0, 0), 0) := rfl
theorem s74_28 {c : Nat → List AV → SS → Option Out} {l0 l1 l2 l3 : Option AV} {j t : Nat} {L2 : List (Nat × AV)} {St : List AV} {S : SS} : ev c 74 28 [l0, l1, l2, l3] L2 (aR (8, j, t) :: St) S = ev c 74 31 [l0, l1, l2, l3] L2 (S.2.2.1 (8, j, t) 2 :: St) S := ev_go i74_28 rfl
theorem i74_31 : insAt 74 31 = some (.iload_n 3, 1, (0, 0, 0, 0), 0) := rfl
theorem s74_31 {c : Nat → List AV → SS → Option Out} {l0 l1 l2 : Option AV} {x : Int32} {L2 : List (Nat × AV)} {St : List AV} {S : SS} : ev c 74 31 [l0, l1, l2, some (aI x)] L2 St S = ev c 74 32 [l0, l1, l2, some (aI x)] L2 (aI x :: St) S := ev_go i74_31 rfl
theorem i74_32 : insAt 74 32 = some (.invokestatic 52, 3, (32, 2, 1, 0), 0) := rfl
theorem s74_32 {c : Nat → List AV → SS → Option Out} {l0 l1 l2 l3 : Option AV} {t0 t1 : AV} {a0 : OId} {a1 : Int32} {L2 : List (Nat × AV)} {S : SS} : ev c 74 32 [l0, l1, l2, l3] L2 [aI a1, aR a0, t0, t1] S = ck (c 32 [aR a0, aI a1] S) (fun v S' => ev c 74 35 [l0, l1, l2, l3] L2 (v.toList ++ [t0, t1]) S') := ev_call i74_32 rfl
theorem i74_35 : insAt 74 35 = some (.invokestatic 98, 3, (45, 2, 1, 0), 0) := rfl
theorem s74_35 {c : Nat → List AV → SS → Option Out} {l0 l1 l2 l3 : Option AV} {t0 : AV} {a0 : Int32} {a1 : Int32} {L2 : List (Nat × AV)} {S : SS} : ev c 74 35 [l0, l1, l2, l3] L2 [aI a1, aI a0, t0] S = ck (c 45 [aI a0, aI a1] S) (fun v S' => ev c 74 38 [l0, l1, l2, l3] L2 (v.toList ++ [t0]) S') := ev_call i74_35 rfl
theorem i74_38 : insAt 74 38 = some (.lor, 1, (0, 0, 0, 0), 0) := rfl
theorem s74_38 {c : Nat → List AV → SS → Option Out} {l0 l1 l2 l3 : Option AV} {x y : Int64} {L2 : List (Nat × AV)} {St : List AV} {S : SS} : ev c 74 38 [l0, l1, l2, l3] L2 (aL y :: aL x :: St) S = ev c 74 39 [l0, l1, l2, l3] L2 (aL (x ||| y) :: St) S := ev_go i74_38 rfl
theorem i74_39 : insAt 74 39 = some (.lstore_n 1, 1, (0, 0, 0, 0), 0) := rfl
theorem s74_39 {c : Nat → List AV → SS → Option Out} {l0 l1 l2 l3 : Option AV} {x : Int64} {L2 : List (Nat × AV)} {St : List AV} {S : SS} : ev c 74 39 [l0, l1, l2, l3] L2 (aL x :: St) S = ev c 74 40 [l0, none, none, l3] ((1, aL x) :: kil2 L2 1) St S := ev_go i74_39 rfl
theorem i74_40 : insAt 74 40 = some (.iinc 3 1, 3, (0, 0, 0, 0), 0) := rfl
theorem s74_40 {c : Nat → List AV → SS → Option Out} {l0 l1 l2 : Option AV} {x : Int32} {L2 : List (Nat × AV)} {St : List AV} {S : SS} : ev c 74 40 [l0, l1, l2, some (aI x)] L2 St S = ev c 74 43 [l0, l1, l2, some (aI (x + 1))] (kil L2 3) St S := ev_go i74_40 rfl
theorem i74_43 : insAt 74 43 = some (.goto (-39), 3, (0, 0, 0, 0), 0) := rfl
theorem s74_43 {c : Nat → List AV → SS → Option Out} {l0 l1 l2 l3 : Option AV} {L2 : List (Nat × AV)} {St : List AV} {S : SS} : ev c 74 43 [l0, l1, l2, l3] L2 St S = ev c 74 4 [l0, l1, l2, l3] L2 St S := ev_go i74_43 rfl
theorem i74_46 : insAt 74 46 = some (.lload_n 1, 1, (0, 0, 0, 0), 0) := rfl
theorem s74_46 {c : Nat → List AV → SS → Option Out} {l0 l1 l2 l3 : Option AV} {x : Int64} {L2 : List (Nat × AV)} {St : List AV} {S : SS} (h : ldL L2 1 = some x) : ev c 74 46 [l0, l1, l2, l3] L2 St S = ev c 74 47 [l0, l1, l2, l3] L2 (aL x :: St) S := ev_go i74_46 (by simp only [stepI]; exact (congrArg (fun q => match q with | some x => nx (46 + 1) [l0, l1, l2, l3] L2 (aL x :: St) S | none => none) h))
theorem i74_47 : insAt 74 47 = some (.ldc2_w 102, 3, (0, 0, 0, 0), -1) := rfl
theorem s74_47 {c : Nat → List AV → SS → Option Out} {l0 l1 l2 l3 : Option AV} {L2 : List (Nat × AV)} {St : List AV} {S : SS} : ev c 74 47 [l0, l1, l2, l3] L2 St S = ev c 74 50 [l0, l1, l2, l3] L2 (aL (-1) :: St) S := ev_go i74_47 rfl
theorem i74_50 : insAt 74 50 = some (.lxor, 1, (0, 0, 0, 0), 0) := rfl
theorem s74_50 {c : Nat → List AV → SS → Option Out} {l0 l1 l2 l3 : Option AV} {x y : Int64} {L2 : List (Nat × AV)} {St : List AV} {S : SS} : ev c 74 50 [l0, l1, l2, l3] L2 (aL y :: aL x :: St) S = ev c 74 51 [l0, l1, l2, l3] L2 (aL (x ^^^ y) :: St) S := ev_go i74_50 rfl
theorem i74_51 : insAt 74 51 = some (.aload_n 0, 1, (0, 0, 0, 0), 0) := rfl
theorem s74_51 {c : Nat → List AV → SS → Option Out} {l1 l2 l3 : Option AV} {o : OId} {L2 : List (Nat × AV)} {St : List AV} {S : SS} : ev c 74 51 [some (aR o), l1, l2, l3] L2 St S = ev c 74 52 [some (aR o), l1, l2, l3] L2 (aR o :: St) S := ev_go i74_51 rfl
theorem i74_52 : insAt 74 52 = some (.getfield 29, 3, (8, 5, 0, 0), 0) := rfl
theorem s74_52 {c : Nat → List AV → SS → Option Out} {l0 l1 l2 l3 : Option AV} {j t : Nat} {L2 : List (Nat × AV)} {St : List AV} {S : SS} : ev c 74 52 [l0, l1, l2, l3] L2 (aR (8, j, t) :: St) S = ev c 74 55 [l0, l1, l2, l3] L2 (aI (S.1 (8, j, t) 5) :: St) S := ev_go i74_52 rfl
theorem i74_55 : insAt 74 55 = some (.i2l, 1, (0, 0, 0, 0), 0) := rfl
theorem s74_55 {c : Nat → List AV → SS → Option Out} {l0 l1 l2 l3 : Option AV} {x : Int32} {L2 : List (Nat × AV)} {St : List AV} {S : SS} : ev c 74 55 [l0, l1, l2, l3] L2 (aI x :: St) S = ev c 74 56 [l0, l1, l2, l3] L2 (aL x.toInt64 :: St) S := ev_go i74_55 rfl
theorem i74_56 : insAt 74 56 = some (.land, 1, (0, 0, 0, 0), 0) := rfl
theorem s74_56 {c : Nat → List AV → SS → Option Out} {l0 l1 l2 l3 : Option AV} {x y : Int64} {L2 : List (Nat × AV)} {St : List AV} {S : SS} : ev c 74 56 [l0, l1, l2, l3] L2 (aL y :: aL x :: St) S = ev c 74 57 [l0, l1, l2, l3] L2 (aL (x &&& y) :: St) S := ev_go i74_56 rfl
theorem i74_57 : insAt 74 57 = some (.l2i, 1, (0, 0, 0, 0), 0) := rfl
theorem s74_57 {c : Nat → List AV → SS → Option Out} {l0 l1 l2 l3 : Option AV} {x : Int64} {L2 : List (Nat × AV)} {St : List AV} {S : SS} : ev c 74 57 [l0, l1, l2, l3] L2 (aL x :: St) S = ev c 74 58 [l0, l1, l2, l3] L2 (aI x.toInt32 :: St) S := ev_go i74_57 rfl
theorem i74_58 : insAt 74 58 = some (.ireturn, 1, (0, 0, 0, 0), 0) := rfl
theorem s74_58 {c : Nat → List AV → SS → Option Out} {l0 l1 l2 l3 : Option AV} {x : Int32} {L2 : List (Nat × AV)} {St : List AV} {S : SS} : ev c 74 58 [l0, l1, l2, l3] L2 [aI x] S = some (.inl (some (aI x)), S) := ev_end i74_58 rfl
theorem m74 {d : Nat} {o : OId} {S : SS} : evm (d + 1) 74 [aR o] S = ev (evm d) 74 0 [some (aR o), none, none, none] [] [] S := evm_s (n := 4) rfl (Nat.le_of_ble_eq_true rfl) rfl rfl
/-! FrequencyOffice$Search.disturbanceOfServed(I)I -/
theorem i75_0 : insAt 75 0 = some (.iconst 0, 1, (0, 0, 0, 0), 0) := rfl
theorem s75_0 {c : Nat → List AV → SS → Option Out} {l0 l1 l2 l3 : Option AV} {L2 : List (Nat × AV)} {St : List AV} {S : SS} : ev c 75 0 [l0, l1, l2, l3] L2 St S = ev c 75 1 [l0, l1, l2, l3] L2 (aI 0 :: St) S := ev_go i75_0 rfl
theorem i75_1 : insAt 75 1 = some (.istore_n 2, 1, (0, 0, 0, 0), 0) := rfl
theorem s75_1 {c : Nat → List AV → SS → Option Out} {l0 l1 l2 l3 : Option AV} {x : Int32} {L2 : List (Nat × AV)} {St : List AV} {S : SS} : ev c 75 1 [l0, l1, l2, l3] L2 (aI x :: St) S = ev c 75 2 [l0, l1, some (aI x), l3] (kil L2 2) St S := ev_go i75_1 rfl
theorem i75_2 : insAt 75 2 = some (.iconst 0, 1, (0, 0, 0, 0), 0) := rfl
theorem s75_2 {c : Nat → List AV → SS → Option Out} {l0 l1 l2 l3 : Option AV} {L2 : List (Nat × AV)} {St : List AV} {S : SS} : ev c 75 2 [l0, l1, l2, l3] L2 St S = ev c 75 3 [l0, l1, l2, l3] L2 (aI 0 :: St) S := ev_go i75_2 rfl
theorem i75_3 : insAt 75 3 = some (.istore_n 3, 1, (0, 0, 0, 0), 0) := rfl
theorem s75_3 {c : Nat → List AV → SS → Option Out} {l0 l1 l2 l3 : Option AV} {x : Int32} {L2 : List (Nat × AV)} {St : List AV} {S : SS} : ev c 75 3 [l0, l1, l2, l3] L2 (aI x :: St) S = ev c 75 4 [l0, l1, l2, some (aI x)] (kil L2 3) St S := ev_go i75_3 rfl
theorem i75_4 : insAt 75 4 = some (.iload_n 3, 1, (0, 0, 0, 0), 0) := rfl
theorem s75_4 {c : Nat → List AV → SS → Option Out} {l0 l1 l2 : Option AV} {x : Int32} {L2 : List (Nat × AV)} {St : List AV} {S : SS} : ev c 75 4 [l0, l1, l2, some (aI x)] L2 St S = ev c 75 5 [l0, l1, l2, some (aI x)] L2 (aI x :: St) S := ev_go i75_4 rfl
theorem i75_5 : insAt 75 5 = some (.aload_n 0, 1, (0, 0, 0, 0), 0) := rfl
theorem s75_5 {c : Nat → List AV → SS → Option Out} {l1 l2 l3 : Option AV} {o : OId} {L2 : List (Nat × AV)} {St : List AV} {S : SS} : ev c 75 5 [some (aR o), l1, l2, l3] L2 St S = ev c 75 6 [some (aR o), l1, l2, l3] L2 (aR o :: St) S := ev_go i75_5 rfl
theorem i75_6 : insAt 75 6 = some (.getfield 36, 3, (8, 0, 0, 0), 0) := rfl
theorem s75_6 {c : Nat → List AV → SS → Option Out} {l0 l1 l2 l3 : Option AV} {j t : Nat} {L2 : List (Nat × AV)} {St : List AV} {S : SS} : ev c 75 6 [l0, l1, l2, l3] L2 (aR (8, j, t) :: St) S = ev c 75 9 [l0, l1, l2, l3] L2 (S.2.2.1 (8, j, t) 0 :: St) S := ev_go i75_6 rfl
theorem i75_9 : insAt 75 9 = some (.getfield 46, 3, (6, 0, 1, 0), 0) := rfl
theorem s75_9 {c : Nat → List AV → SS → Option Out} {l0 l1 l2 l3 : Option AV} {j t : Nat} {L2 : List (Nat × AV)} {St : List AV} {S : SS} : ev c 75 9 [l0, l1, l2, l3] L2 (aR (6, j, t) :: St) S = ev c 75 12 [l0, l1, l2, l3] L2 (aI (S.1 (6, j, t) 0) :: St) S := ev_go i75_9 rfl
theorem i75_12 : insAt 75 12 = some (.if_icmp .ge 39, 3, (0, 0, 0, 0), 0) := rfl
theorem s75_12 {c : Nat → List AV → SS → Option Out} {l0 l1 l2 l3 : Option AV} {x y : Int32} {L2 : List (Nat × AV)} {St : List AV} {S : SS} : ev c 75 12 [l0, l1, l2, l3] L2 (aI y :: aI x :: St) S = if y ≤ x then ev c 75 51 [l0, l1, l2, l3] L2 St S else ev c 75 15 [l0, l1, l2, l3] L2 St S := ev_br i75_12 rfl
theorem i75_15 : insAt 75 15 = some (.iload_n 2, 1, (0, 0, 0, 0), 0) := rfl
theorem s75_15 {c : Nat → List AV → SS → Option Out} {l0 l1 l3 : Option AV} {x : Int32} {L2 : List (Nat × AV)} {St : List AV} {S : SS} : ev c 75 15 [l0, l1, some (aI x), l3] L2 St S = ev c 75 16 [l0, l1, some (aI x), l3] L2 (aI x :: St) S := ev_go i75_15 rfl
theorem i75_16 : insAt 75 16 = some (.aload_n 0, 1, (0, 0, 0, 0), 0) := rfl
theorem s75_16 {c : Nat → List AV → SS → Option Out} {l1 l2 l3 : Option AV} {o : OId} {L2 : List (Nat × AV)} {St : List AV} {S : SS} : ev c 75 16 [some (aR o), l1, l2, l3] L2 St S = ev c 75 17 [some (aR o), l1, l2, l3] L2 (aR o :: St) S := ev_go i75_16 rfl
theorem i75_17 : insAt 75 17 = some (.iload_n 3, 1, (0, 0, 0, 0), 0) := rfl
theorem s75_17 {c : Nat → List AV → SS → Option Out} {l0 l1 l2 : Option AV} {x : Int32} {L2 : List (Nat × AV)} {St : List AV} {S : SS} : ev c 75 17 [l0, l1, l2, some (aI x)] L2 St S = ev c 75 18 [l0, l1, l2, some (aI x)] L2 (aI x :: St) S := ev_go i75_17 rfl
theorem i75_18 : insAt 75 18 = some (.invokevirtual 104, 3, (76, 1, 2, 8), 0) := rfl
theorem s75_18 {c : Nat → List AV → SS → Option Out} {l0 l1 l2 l3 : Option AV} {t0 : AV} {a0 : Int32} {j t : Nat} {L2 : List (Nat × AV)} {S : SS} : ev c 75 18 [l0, l1, l2, l3] L2 [aI a0, aR (8, j, t), t0] S = ck (c 76 [aR (8, j, t), aI a0] S) (fun v S' => ev c 75 21 [l0, l1, l2, l3] L2 (v.toList ++ [t0]) S') := ev_call i75_18 rfl
theorem i75_21 : insAt 75 21 = some (.ifCond .eq 21, 3, (0, 0, 0, 0), 0) := rfl
theorem s75_21 {c : Nat → List AV → SS → Option Out} {l0 l1 l2 l3 : Option AV} {x : Int32} {L2 : List (Nat × AV)} {St : List AV} {S : SS} : ev c 75 21 [l0, l1, l2, l3] L2 (aI x :: St) S = if x = 0 then ev c 75 42 [l0, l1, l2, l3] L2 St S else ev c 75 24 [l0, l1, l2, l3] L2 St S := ev_br i75_21 rfl
theorem i75_24 : insAt 75 24 = some (.aload_n 0, 1, (0, 0, 0, 0), 0) := rfl
theorem s75_24 {c : Nat → List AV → SS → Option Out} {l1 l2 l3 : Option AV} {o : OId} {L2 : List (Nat × AV)} {St : List AV} {S : SS} : ev c 75 24 [some (aR o), l1, l2, l3] L2 St S = ev c 75 25 [some (aR o), l1, l2, l3] L2 (aR o :: St) S := ev_go i75_24 rfl
theorem i75_25 : insAt 75 25 = some (.getfield 36, 3, (8, 0, 0, 0), 0) := rfl
theorem s75_25 {c : Nat → List AV → SS → Option Out} {l0 l1 l2 l3 : Option AV} {j t : Nat} {L2 : List (Nat × AV)} {St : List AV} {S : SS} : ev c 75 25 [l0, l1, l2, l3] L2 (aR (8, j, t) :: St) S = ev c 75 28 [l0, l1, l2, l3] L2 (S.2.2.1 (8, j, t) 0 :: St) S := ev_go i75_25 rfl
theorem i75_28 : insAt 75 28 = some (.getfield 95, 3, (6, 3, 1, 0), 0) := rfl
theorem s75_28 {c : Nat → List AV → SS → Option Out} {l0 l1 l2 l3 : Option AV} {j t : Nat} {L2 : List (Nat × AV)} {St : List AV} {S : SS} : ev c 75 28 [l0, l1, l2, l3] L2 (aR (6, j, t) :: St) S = ev c 75 31 [l0, l1, l2, l3] L2 (S.2.2.1 (6, j, t) 3 :: St) S := ev_go i75_28 rfl
theorem i75_31 : insAt 75 31 = some (.iload_n 3, 1, (0, 0, 0, 0), 0) := rfl
theorem s75_31 {c : Nat → List AV → SS → Option Out} {l0 l1 l2 : Option AV} {x : Int32} {L2 : List (Nat × AV)} {St : List AV} {S : SS} : ev c 75 31 [l0, l1, l2, some (aI x)] L2 St S = ev c 75 32 [l0, l1, l2, some (aI x)] L2 (aI x :: St) S := ev_go i75_31 rfl
theorem i75_32 : insAt 75 32 = some (.invokestatic 52, 3, (32, 2, 1, 0), 0) := rfl
theorem s75_32 {c : Nat → List AV → SS → Option Out} {l0 l1 l2 l3 : Option AV} {t0 : AV} {a0 : OId} {a1 : Int32} {L2 : List (Nat × AV)} {S : SS} : ev c 75 32 [l0, l1, l2, l3] L2 [aI a1, aR a0, t0] S = ck (c 32 [aR a0, aI a1] S) (fun v S' => ev c 75 35 [l0, l1, l2, l3] L2 (v.toList ++ [t0]) S') := ev_call i75_32 rfl
theorem i75_35 : insAt 75 35 = some (.iload_n 1, 1, (0, 0, 0, 0), 0) := rfl
theorem s75_35 {c : Nat → List AV → SS → Option Out} {l0 l2 l3 : Option AV} {x : Int32} {L2 : List (Nat × AV)} {St : List AV} {S : SS} : ev c 75 35 [l0, some (aI x), l2, l3] L2 St S = ev c 75 36 [l0, some (aI x), l2, l3] L2 (aI x :: St) S := ev_go i75_35 rfl
theorem i75_36 : insAt 75 36 = some (.invokestatic 108, 3, (77, 2, 1, 0), 0) := rfl
theorem s75_36 {c : Nat → List AV → SS → Option Out} {l0 l1 l2 l3 : Option AV} {t0 : AV} {a0 : Int32} {a1 : Int32} {L2 : List (Nat × AV)} {S : SS} : ev c 75 36 [l0, l1, l2, l3] L2 [aI a1, aI a0, t0] S = ck (c 77 [aI a0, aI a1] S) (fun v S' => ev c 75 39 [l0, l1, l2, l3] L2 (v.toList ++ [t0]) S') := ev_call i75_36 rfl
theorem i75_39 : insAt 75 39 = some (.goto 4, 3, (0, 0, 0, 0), 0) := rfl
theorem s75_39 {c : Nat → List AV → SS → Option Out} {l0 l1 l2 l3 : Option AV} {L2 : List (Nat × AV)} {St : List AV} {S : SS} : ev c 75 39 [l0, l1, l2, l3] L2 St S = ev c 75 43 [l0, l1, l2, l3] L2 St S := ev_go i75_39 rfl
theorem i75_42 : insAt 75 42 = some (.iconst 0, 1, (0, 0, 0, 0), 0) := rfl
theorem s75_42 {c : Nat → List AV → SS → Option Out} {l0 l1 l2 l3 : Option AV} {L2 : List (Nat × AV)} {St : List AV} {S : SS} : ev c 75 42 [l0, l1, l2, l3] L2 St S = ev c 75 43 [l0, l1, l2, l3] L2 (aI 0 :: St) S := ev_go i75_42 rfl
theorem i75_43 : insAt 75 43 = some (.iadd, 1, (0, 0, 0, 0), 0) := rfl
theorem s75_43 {c : Nat → List AV → SS → Option Out} {l0 l1 l2 l3 : Option AV} {x y : Int32} {L2 : List (Nat × AV)} {St : List AV} {S : SS} : ev c 75 43 [l0, l1, l2, l3] L2 (aI y :: aI x :: St) S = ev c 75 44 [l0, l1, l2, l3] L2 (aI (x + y) :: St) S := ev_go i75_43 rfl
theorem i75_44 : insAt 75 44 = some (.istore_n 2, 1, (0, 0, 0, 0), 0) := rfl
theorem s75_44 {c : Nat → List AV → SS → Option Out} {l0 l1 l2 l3 : Option AV} {x : Int32} {L2 : List (Nat × AV)} {St : List AV} {S : SS} : ev c 75 44 [l0, l1, l2, l3] L2 (aI x :: St) S = ev c 75 45 [l0, l1, some (aI x), l3] (kil L2 2) St S := ev_go i75_44 rfl
theorem i75_45 : insAt 75 45 = some (.iinc 3 1, 3, (0, 0, 0, 0), 0) := rfl
theorem s75_45 {c : Nat → List AV → SS → Option Out} {l0 l1 l2 : Option AV} {x : Int32} {L2 : List (Nat × AV)} {St : List AV} {S : SS} : ev c 75 45 [l0, l1, l2, some (aI x)] L2 St S = ev c 75 48 [l0, l1, l2, some (aI (x + 1))] (kil L2 3) St S := ev_go i75_45 rfl
theorem i75_48 : insAt 75 48 = some (.goto (-44), 3, (0, 0, 0, 0), 0) := rfl
theorem s75_48 {c : Nat → List AV → SS → Option Out} {l0 l1 l2 l3 : Option AV} {L2 : List (Nat × AV)} {St : List AV} {S : SS} : ev c 75 48 [l0, l1, l2, l3] L2 St S = ev c 75 4 [l0, l1, l2, l3] L2 St S := ev_go i75_48 rfl
theorem i75_51 : insAt 75 51 = some (.iload_n 2, 1, (0, 0, 0, 0), 0) := rfl
theorem s75_51 {c : Nat → List AV → SS → Option Out} {l0 l1 l3 : Option AV} {x : Int32} {L2 : List (Nat × AV)} {St : List AV} {S : SS} : ev c 75 51 [l0, l1, some (aI x), l3] L2 St S = ev c 75 52 [l0, l1, some (aI x), l3] L2 (aI x :: St) S := ev_go i75_51 rfl
theorem i75_52 : insAt 75 52 = some (.ireturn, 1, (0, 0, 0, 0), 0) := rfl
theorem s75_52 {c : Nat → List AV → SS → Option Out} {l0 l1 l2 l3 : Option AV} {x : Int32} {L2 : List (Nat × AV)} {St : List AV} {S : SS} : ev c 75 52 [l0, l1, l2, l3] L2 [aI x] S = some (.inl (some (aI x)), S) := ev_end i75_52 rfl
theorem m75 {d : Nat} {o : OId} {a0 : Int32} {S : SS} : evm (d + 1) 75 [aR o, aI a0] S = ev (evm d) 75 0 [some (aR o), some (aI a0), none, none] [] [] S := evm_s (n := 4) rfl (Nat.le_of_ble_eq_true rfl) rfl rfl
/-! FrequencyOffice$Search.hears(I)Z -/
theorem i76_0 : insAt 76 0 = some (.iload_n 1, 1, (0, 0, 0, 0), 0) := rfl
theorem s76_0 {c : Nat → List AV → SS → Option Out} {l0 : Option AV} {x : Int32} {L2 : List (Nat × AV)} {St : List AV} {S : SS} : ev c 76 0 [l0, some (aI x)] L2 St S = ev c 76 1 [l0, some (aI x)] L2 (aI x :: St) S := ev_go i76_0 rfl
theorem i76_1 : insAt 76 1 = some (.ifCond .lt 25, 3, (0, 0, 0, 0), 0) := rfl
theorem s76_1 {c : Nat → List AV → SS → Option Out} {l0 l1 : Option AV} {x : Int32} {L2 : List (Nat × AV)} {St : List AV} {S : SS} : ev c 76 1 [l0, l1] L2 (aI x :: St) S = if x < 0 then ev c 76 26 [l0, l1] L2 St S else ev c 76 4 [l0, l1] L2 St S := ev_br i76_1 rfl
theorem i76_4 : insAt 76 4 = some (.iload_n 1, 1, (0, 0, 0, 0), 0) := rfl
theorem s76_4 {c : Nat → List AV → SS → Option Out} {l0 : Option AV} {x : Int32} {L2 : List (Nat × AV)} {St : List AV} {S : SS} : ev c 76 4 [l0, some (aI x)] L2 St S = ev c 76 5 [l0, some (aI x)] L2 (aI x :: St) S := ev_go i76_4 rfl
theorem i76_5 : insAt 76 5 = some (.aload_n 0, 1, (0, 0, 0, 0), 0) := rfl
theorem s76_5 {c : Nat → List AV → SS → Option Out} {l1 : Option AV} {o : OId} {L2 : List (Nat × AV)} {St : List AV} {S : SS} : ev c 76 5 [some (aR o), l1] L2 St S = ev c 76 6 [some (aR o), l1] L2 (aR o :: St) S := ev_go i76_5 rfl
theorem i76_6 : insAt 76 6 = some (.getfield 22, 3, (8, 3, 0, 0), 0) := rfl
theorem s76_6 {c : Nat → List AV → SS → Option Out} {l0 l1 : Option AV} {j t : Nat} {L2 : List (Nat × AV)} {St : List AV} {S : SS} : ev c 76 6 [l0, l1] L2 (aR (8, j, t) :: St) S = ev c 76 9 [l0, l1] L2 (S.2.2.1 (8, j, t) 3 :: St) S := ev_go i76_6 rfl
theorem i76_9 : insAt 76 9 = some (.arraylength, 1, (0, 0, 0, 0), 0) := rfl
theorem s76_9 {c : Nat → List AV → SS → Option Out} {l0 l1 : Option AV} {o : OId} {L2 : List (Nat × AV)} {St : List AV} {S : SS} : ev c 76 9 [l0, l1] L2 (aR o :: St) S = kN o (fun x => ev c 76 10 [l0, l1] L2 (aI x :: St) S) := ev_alen i76_9
theorem i76_10 : insAt 76 10 = some (.if_icmp .ge 16, 3, (0, 0, 0, 0), 0) := rfl
theorem s76_10 {c : Nat → List AV → SS → Option Out} {l0 l1 : Option AV} {x y : Int32} {L2 : List (Nat × AV)} {St : List AV} {S : SS} : ev c 76 10 [l0, l1] L2 (aI y :: aI x :: St) S = if y ≤ x then ev c 76 26 [l0, l1] L2 St S else ev c 76 13 [l0, l1] L2 St S := ev_br i76_10 rfl
theorem i76_13 : insAt 76 13 = some (.aload_n 0, 1, (0, 0, 0, 0), 0) := rfl
theorem s76_13 {c : Nat → List AV → SS → Option Out} {l1 : Option AV} {o : OId} {L2 : List (Nat × AV)} {St : List AV} {S : SS} : ev c 76 13 [some (aR o), l1] L2 St S = ev c 76 14 [some (aR o), l1] L2 (aR o :: St) S := ev_go i76_13 rfl
theorem i76_14 : insAt 76 14 = some (.getfield 22, 3, (8, 3, 0, 0), 0) := rfl
theorem s76_14 {c : Nat → List AV → SS → Option Out} {l0 l1 : Option AV} {j t : Nat} {L2 : List (Nat × AV)} {St : List AV} {S : SS} : ev c 76 14 [l0, l1] L2 (aR (8, j, t) :: St) S = ev c 76 17 [l0, l1] L2 (S.2.2.1 (8, j, t) 3 :: St) S := ev_go i76_14 rfl
theorem i76_17 : insAt 76 17 = some (.iload_n 1, 1, (0, 0, 0, 0), 0) := rfl
theorem s76_17 {c : Nat → List AV → SS → Option Out} {l0 : Option AV} {x : Int32} {L2 : List (Nat × AV)} {St : List AV} {S : SS} : ev c 76 17 [l0, some (aI x)] L2 St S = ev c 76 18 [l0, some (aI x)] L2 (aI x :: St) S := ev_go i76_17 rfl
theorem i76_18 : insAt 76 18 = some (.baload, 1, (0, 0, 0, 0), 0) := rfl
theorem s76_18 {c : Nat → List AV → SS → Option Out} {l0 l1 : Option AV} {i : Int32} {o : OId} {L2 : List (Nat × AV)} {St : List AV} {S : SS} : ev c 76 18 [l0, l1] L2 (aI i :: aR o :: St) S = kB o i (ev c 76 19 [l0, l1] L2 (aI (agB S o i.toNatClampNeg) :: St) S) (ev c 76 19 [l0, l1] L2 (aI (bb (S.1 o i.toNatClampNeg)) :: St) S) := ev_baload i76_18
theorem i76_19 : insAt 76 19 = some (.ifCond .eq 7, 3, (0, 0, 0, 0), 0) := rfl
theorem s76_19 {c : Nat → List AV → SS → Option Out} {l0 l1 : Option AV} {x : Int32} {L2 : List (Nat × AV)} {St : List AV} {S : SS} : ev c 76 19 [l0, l1] L2 (aI x :: St) S = if x = 0 then ev c 76 26 [l0, l1] L2 St S else ev c 76 22 [l0, l1] L2 St S := ev_br i76_19 rfl
theorem i76_22 : insAt 76 22 = some (.iconst 1, 1, (0, 0, 0, 0), 0) := rfl
theorem s76_22 {c : Nat → List AV → SS → Option Out} {l0 l1 : Option AV} {L2 : List (Nat × AV)} {St : List AV} {S : SS} : ev c 76 22 [l0, l1] L2 St S = ev c 76 23 [l0, l1] L2 (aI 1 :: St) S := ev_go i76_22 rfl
theorem i76_23 : insAt 76 23 = some (.goto 4, 3, (0, 0, 0, 0), 0) := rfl
theorem s76_23 {c : Nat → List AV → SS → Option Out} {l0 l1 : Option AV} {L2 : List (Nat × AV)} {St : List AV} {S : SS} : ev c 76 23 [l0, l1] L2 St S = ev c 76 27 [l0, l1] L2 St S := ev_go i76_23 rfl
theorem i76_26 : insAt 76 26 = some (.iconst 0, 1, (0, 0, 0, 0), 0) := rfl
theorem s76_26 {c : Nat → List AV → SS → Option Out} {l0 l1 : Option AV} {L2 : List (Nat × AV)} {St : List AV} {S : SS} : ev c 76 26 [l0, l1] L2 St S = ev c 76 27 [l0, l1] L2 (aI 0 :: St) S := ev_go i76_26 rfl
theorem i76_27 : insAt 76 27 = some (.ireturn, 1, (0, 0, 0, 0), 0) := rfl
theorem s76_27 {c : Nat → List AV → SS → Option Out} {l0 l1 : Option AV} {x : Int32} {L2 : List (Nat × AV)} {St : List AV} {S : SS} : ev c 76 27 [l0, l1] L2 [aI x] S = if x = 0 ∨ x = 1 then some (.inl (some (aI x)), S) else none := ev_rt i76_27 rfl
theorem m76 {d : Nat} {o : OId} {a0 : Int32} {S : SS} : evm (d + 1) 76 [aR o, aI a0] S = ev (evm d) 76 0 [some (aR o), some (aI a0)] [] [] S := evm_s (n := 2) rfl (Nat.le_of_ble_eq_true rfl) rfl rfl
/-! FrequencyOffice$Search.tryMovesOf(LFrequencyOffice$Search;II)Z -/
theorem i78_0 : insAt 78 0 = some (.aload_n 0, 1, (0, 0, 0, 0), 0) := rfl
theorem s78_0 {c : Nat → List AV → SS → Option Out} {l1 l2 l3 l4 l5 l6 l7 : Option AV} {o : OId} {L2 : List (Nat × AV)} {St : List AV} {S : SS} : ev c 78 0 [some (aR o), l1, l2, l3, l4, l5, l6, l7] L2 St S = ev c 78 1 [some (aR o), l1, l2, l3, l4, l5, l6, l7] L2 (aR o :: St) S := ev_go i78_0 rfl
theorem i78_1 : insAt 78 1 = some (.getfield 36, 3, (8, 0, 0, 0), 0) := rfl
theorem s78_1 {c : Nat → List AV → SS → Option Out} {l0 l1 l2 l3 l4 l5 l6 l7 : Option AV} {j t : Nat} {L2 : List (Nat × AV)} {St : List AV} {S : SS} : ev c 78 1 [l0, l1, l2, l3, l4, l5, l6, l7] L2 (aR (8, j, t) :: St) S = ev c 78 4 [l0, l1, l2, l3, l4, l5, l6, l7] L2 (S.2.2.1 (8, j, t) 0 :: St) S := ev_go i78_1 rfl
theorem i78_4 : insAt 78 4 = some (.getfield 95, 3, (6, 3, 1, 0), 0) := rfl
theorem s78_4 {c : Nat → List AV → SS → Option Out} {l0 l1 l2 l3 l4 l5 l6 l7 : Option AV} {j t : Nat} {L2 : List (Nat × AV)} {St : List AV} {S : SS} : ev c 78 4 [l0, l1, l2, l3, l4, l5, l6, l7] L2 (aR (6, j, t) :: St) S = ev c 78 7 [l0, l1, l2, l3, l4, l5, l6, l7] L2 (S.2.2.1 (6, j, t) 3 :: St) S := ev_go i78_4 rfl
theorem i78_7 : insAt 78 7 = some (.astore_n 3, 1, (0, 0, 0, 0), 0) := rfl
theorem s78_7 {c : Nat → List AV → SS → Option Out} {l0 l1 l2 l3 l4 l5 l6 l7 : Option AV} {o : OId} {L2 : List (Nat × AV)} {St : List AV} {S : SS} : ev c 78 7 [l0, l1, l2, l3, l4, l5, l6, l7] L2 (aR o :: St) S = ev c 78 8 [l0, l1, l2, some (aR o), l4, l5, l6, l7] (kil L2 3) St S := ev_go i78_7 rfl
theorem i78_8 : insAt 78 8 = some (.aload_n 3, 1, (0, 0, 0, 0), 0) := rfl
theorem s78_8 {c : Nat → List AV → SS → Option Out} {l0 l1 l2 l4 l5 l6 l7 : Option AV} {o : OId} {L2 : List (Nat × AV)} {St : List AV} {S : SS} : ev c 78 8 [l0, l1, l2, some (aR o), l4, l5, l6, l7] L2 St S = ev c 78 9 [l0, l1, l2, some (aR o), l4, l5, l6, l7] L2 (aR o :: St) S := ev_go i78_8 rfl
theorem i78_9 : insAt 78 9 = some (.iload_n 1, 1, (0, 0, 0, 0), 0) := rfl
theorem s78_9 {c : Nat → List AV → SS → Option Out} {l0 l2 l3 l4 l5 l6 l7 : Option AV} {x : Int32} {L2 : List (Nat × AV)} {St : List AV} {S : SS} : ev c 78 9 [l0, some (aI x), l2, l3, l4, l5, l6, l7] L2 St S = ev c 78 10 [l0, some (aI x), l2, l3, l4, l5, l6, l7] L2 (aI x :: St) S := ev_go i78_9 rfl
theorem i78_10 : insAt 78 10 = some (.invokestatic 52, 3, (32, 2, 1, 0), 0) := rfl
theorem s78_10 {c : Nat → List AV → SS → Option Out} {l0 l1 l2 l3 l4 l5 l6 l7 : Option AV} {a0 : OId} {a1 : Int32} {L2 : List (Nat × AV)} {S : SS} : ev c 78 10 [l0, l1, l2, l3, l4, l5, l6, l7] L2 [aI a1, aR a0] S = ck (c 32 [aR a0, aI a1] S) (fun v S' => ev c 78 13 [l0, l1, l2, l3, l4, l5, l6, l7] L2 (v.toList ++ []) S') := ev_call i78_10 rfl
theorem i78_13 : insAt 78 13 = some (.istore 4, 2, (0, 0, 0, 0), 0) := rfl
theorem s78_13 {c : Nat → List AV → SS → Option Out} {l0 l1 l2 l3 l4 l5 l6 l7 : Option AV} {x : Int32} {L2 : List (Nat × AV)} {St : List AV} {S : SS} : ev c 78 13 [l0, l1, l2, l3, l4, l5, l6, l7] L2 (aI x :: St) S = ev c 78 15 [l0, l1, l2, l3, some (aI x), l5, l6, l7] (kil L2 4) St S := ev_go i78_13 rfl
theorem i78_15 : insAt 78 15 = some (.aload_n 0, 1, (0, 0, 0, 0), 0) := rfl
theorem s78_15 {c : Nat → List AV → SS → Option Out} {l1 l2 l3 l4 l5 l6 l7 : Option AV} {o : OId} {L2 : List (Nat × AV)} {St : List AV} {S : SS} : ev c 78 15 [some (aR o), l1, l2, l3, l4, l5, l6, l7] L2 St S = ev c 78 16 [some (aR o), l1, l2, l3, l4, l5, l6, l7] L2 (aR o :: St) S := ev_go i78_15 rfl
theorem i78_16 : insAt 78 16 = some (.getfield 36, 3, (8, 0, 0, 0), 0) := rfl
theorem s78_16 {c : Nat → List AV → SS → Option Out} {l0 l1 l2 l3 l4 l5 l6 l7 : Option AV} {j t : Nat} {L2 : List (Nat × AV)} {St : List AV} {S : SS} : ev c 78 16 [l0, l1, l2, l3, l4, l5, l6, l7] L2 (aR (8, j, t) :: St) S = ev c 78 19 [l0, l1, l2, l3, l4, l5, l6, l7] L2 (S.2.2.1 (8, j, t) 0 :: St) S := ev_go i78_16 rfl
theorem i78_19 : insAt 78 19 = some (.iload_n 1, 1, (0, 0, 0, 0), 0) := rfl
theorem s78_19 {c : Nat → List AV → SS → Option Out} {l0 l2 l3 l4 l5 l6 l7 : Option AV} {x : Int32} {L2 : List (Nat × AV)} {St : List AV} {S : SS} : ev c 78 19 [l0, some (aI x), l2, l3, l4, l5, l6, l7] L2 St S = ev c 78 20 [l0, some (aI x), l2, l3, l4, l5, l6, l7] L2 (aI x :: St) S := ev_go i78_19 rfl
theorem i78_20 : insAt 78 20 = some (.invokevirtual 126, 3, (79, 1, 3, 6), 0) := rfl
theorem s78_20 {c : Nat → List AV → SS → Option Out} {l0 l1 l2 l3 l4 l5 l6 l7 : Option AV} {a0 : Int32} {j t : Nat} {L2 : List (Nat × AV)} {S : SS} : ev c 78 20 [l0, l1, l2, l3, l4, l5, l6, l7] L2 [aI a0, aR (6, j, t)] S = ck (c 79 [aR (6, j, t), aI a0] S) (fun v S' => ev c 78 23 [l0, l1, l2, l3, l4, l5, l6, l7] L2 (v.toList ++ []) S') := ev_call i78_20 rfl
theorem i78_23 : insAt 78 23 = some (.iconst 1, 1, (0, 0, 0, 0), 0) := rfl
theorem s78_23 {c : Nat → List AV → SS → Option Out} {l0 l1 l2 l3 l4 l5 l6 l7 : Option AV} {L2 : List (Nat × AV)} {St : List AV} {S : SS} : ev c 78 23 [l0, l1, l2, l3, l4, l5, l6, l7] L2 St S = ev c 78 24 [l0, l1, l2, l3, l4, l5, l6, l7] L2 (aI 1 :: St) S := ev_go i78_23 rfl
theorem i78_24 : insAt 78 24 = some (.iload 4, 2, (0, 0, 0, 0), 0) := rfl
theorem s78_24 {c : Nat → List AV → SS → Option Out} {l0 l1 l2 l3 l5 l6 l7 : Option AV} {x : Int32} {L2 : List (Nat × AV)} {St : List AV} {S : SS} : ev c 78 24 [l0, l1, l2, l3, some (aI x), l5, l6, l7] L2 St S = ev c 78 26 [l0, l1, l2, l3, some (aI x), l5, l6, l7] L2 (aI x :: St) S := ev_go i78_24 rfl
theorem i78_26 : insAt 78 26 = some (.ishl, 1, (0, 0, 0, 0), 0) := rfl
theorem s78_26 {c : Nat → List AV → SS → Option Out} {l0 l1 l2 l3 l4 l5 l6 l7 : Option AV} {x y : Int32} {L2 : List (Nat × AV)} {St : List AV} {S : SS} : ev c 78 26 [l0, l1, l2, l3, l4, l5, l6, l7] L2 (aI y :: aI x :: St) S = ev c 78 27 [l0, l1, l2, l3, l4, l5, l6, l7] L2 (aI (x <<< (y &&& 31)) :: St) S := ev_go i78_26 rfl
theorem i78_27 : insAt 78 27 = some (.iconst (-1), 1, (0, 0, 0, 0), 0) := rfl
theorem s78_27 {c : Nat → List AV → SS → Option Out} {l0 l1 l2 l3 l4 l5 l6 l7 : Option AV} {L2 : List (Nat × AV)} {St : List AV} {S : SS} : ev c 78 27 [l0, l1, l2, l3, l4, l5, l6, l7] L2 St S = ev c 78 28 [l0, l1, l2, l3, l4, l5, l6, l7] L2 (aI (-1) :: St) S := ev_go i78_27 rfl
theorem i78_28 : insAt 78 28 = some (.ixor, 1, (0, 0, 0, 0), 0) := rfl
theorem s78_28 {c : Nat → List AV → SS → Option Out} {l0 l1 l2 l3 l4 l5 l6 l7 : Option AV} {x y : Int32} {L2 : List (Nat × AV)} {St : List AV} {S : SS} : ev c 78 28 [l0, l1, l2, l3, l4, l5, l6, l7] L2 (aI y :: aI x :: St) S = ev c 78 29 [l0, l1, l2, l3, l4, l5, l6, l7] L2 (aI (x ^^^ y) :: St) S := ev_go i78_28 rfl
theorem i78_29 : insAt 78 29 = some (.iand, 1, (0, 0, 0, 0), 0) := rfl
theorem s78_29 {c : Nat → List AV → SS → Option Out} {l0 l1 l2 l3 l4 l5 l6 l7 : Option AV} {x y : Int32} {L2 : List (Nat × AV)} {St : List AV} {S : SS} : ev c 78 29 [l0, l1, l2, l3, l4, l5, l6, l7] L2 (aI y :: aI x :: St) S = ev c 78 30 [l0, l1, l2, l3, l4, l5, l6, l7] L2 (aI (x &&& y) :: St) S := ev_go i78_29 rfl
theorem i78_30 : insAt 78 30 = some (.istore 5, 2, (0, 0, 0, 0), 0) := rfl
theorem s78_30 {c : Nat → List AV → SS → Option Out} {l0 l1 l2 l3 l4 l5 l6 l7 : Option AV} {x : Int32} {L2 : List (Nat × AV)} {St : List AV} {S : SS} : ev c 78 30 [l0, l1, l2, l3, l4, l5, l6, l7] L2 (aI x :: St) S = ev c 78 32 [l0, l1, l2, l3, l4, some (aI x), l6, l7] (kil L2 5) St S := ev_go i78_30 rfl
theorem i78_32 : insAt 78 32 = some (.iconst 0, 1, (0, 0, 0, 0), 0) := rfl
theorem s78_32 {c : Nat → List AV → SS → Option Out} {l0 l1 l2 l3 l4 l5 l6 l7 : Option AV} {L2 : List (Nat × AV)} {St : List AV} {S : SS} : ev c 78 32 [l0, l1, l2, l3, l4, l5, l6, l7] L2 St S = ev c 78 33 [l0, l1, l2, l3, l4, l5, l6, l7] L2 (aI 0 :: St) S := ev_go i78_32 rfl
theorem i78_33 : insAt 78 33 = some (.istore 6, 2, (0, 0, 0, 0), 0) := rfl
theorem s78_33 {c : Nat → List AV → SS → Option Out} {l0 l1 l2 l3 l4 l5 l6 l7 : Option AV} {x : Int32} {L2 : List (Nat × AV)} {St : List AV} {S : SS} : ev c 78 33 [l0, l1, l2, l3, l4, l5, l6, l7] L2 (aI x :: St) S = ev c 78 35 [l0, l1, l2, l3, l4, l5, some (aI x), l7] (kil L2 6) St S := ev_go i78_33 rfl
theorem i78_35 : insAt 78 35 = some (.iconst 0, 1, (0, 0, 0, 0), 0) := rfl
theorem s78_35 {c : Nat → List AV → SS → Option Out} {l0 l1 l2 l3 l4 l5 l6 l7 : Option AV} {L2 : List (Nat × AV)} {St : List AV} {S : SS} : ev c 78 35 [l0, l1, l2, l3, l4, l5, l6, l7] L2 St S = ev c 78 36 [l0, l1, l2, l3, l4, l5, l6, l7] L2 (aI 0 :: St) S := ev_go i78_35 rfl
theorem i78_36 : insAt 78 36 = some (.istore 7, 2, (0, 0, 0, 0), 0) := rfl
theorem s78_36 {c : Nat → List AV → SS → Option Out} {l0 l1 l2 l3 l4 l5 l6 l7 : Option AV} {x : Int32} {L2 : List (Nat × AV)} {St : List AV} {S : SS} : ev c 78 36 [l0, l1, l2, l3, l4, l5, l6, l7] L2 (aI x :: St) S = ev c 78 38 [l0, l1, l2, l3, l4, l5, l6, some (aI x)] (kil L2 7) St S := ev_go i78_36 rfl
theorem i78_38 : insAt 78 38 = some (.iload 7, 2, (0, 0, 0, 0), 0) := rfl
theorem s78_38 {c : Nat → List AV → SS → Option Out} {l0 l1 l2 l3 l4 l5 l6 : Option AV} {x : Int32} {L2 : List (Nat × AV)} {St : List AV} {S : SS} : ev c 78 38 [l0, l1, l2, l3, l4, l5, l6, some (aI x)] L2 St S = ev c 78 40 [l0, l1, l2, l3, l4, l5, l6, some (aI x)] L2 (aI x :: St) S := ev_go i78_38 rfl
theorem i78_40 : insAt 78 40 = some (.bipush 8, 2, (0, 0, 0, 0), 0) := rfl
theorem s78_40 {c : Nat → List AV → SS → Option Out} {l0 l1 l2 l3 l4 l5 l6 l7 : Option AV} {L2 : List (Nat × AV)} {St : List AV} {S : SS} : ev c 78 40 [l0, l1, l2, l3, l4, l5, l6, l7] L2 St S = ev c 78 42 [l0, l1, l2, l3, l4, l5, l6, l7] L2 (aI 8 :: St) S := ev_go i78_40 rfl
theorem i78_42 : insAt 78 42 = some (.if_icmp .ge 64, 3, (0, 0, 0, 0), 0) := rfl
theorem s78_42 {c : Nat → List AV → SS → Option Out} {l0 l1 l2 l3 l4 l5 l6 l7 : Option AV} {x y : Int32} {L2 : List (Nat × AV)} {St : List AV} {S : SS} : ev c 78 42 [l0, l1, l2, l3, l4, l5, l6, l7] L2 (aI y :: aI x :: St) S = if y ≤ x then ev c 78 106 [l0, l1, l2, l3, l4, l5, l6, l7] L2 St S else ev c 78 45 [l0, l1, l2, l3, l4, l5, l6, l7] L2 St S := ev_br i78_42 rfl
theorem i78_45 : insAt 78 45 = some (.iload 6, 2, (0, 0, 0, 0), 0) := rfl
theorem s78_45 {c : Nat → List AV → SS → Option Out} {l0 l1 l2 l3 l4 l5 l7 : Option AV} {x : Int32} {L2 : List (Nat × AV)} {St : List AV} {S : SS} : ev c 78 45 [l0, l1, l2, l3, l4, l5, some (aI x), l7] L2 St S = ev c 78 47 [l0, l1, l2, l3, l4, l5, some (aI x), l7] L2 (aI x :: St) S := ev_go i78_45 rfl
theorem i78_47 : insAt 78 47 = some (.ifCond .ne 59, 3, (0, 0, 0, 0), 0) := rfl
theorem s78_47 {c : Nat → List AV → SS → Option Out} {l0 l1 l2 l3 l4 l5 l6 l7 : Option AV} {x : Int32} {L2 : List (Nat × AV)} {St : List AV} {S : SS} : ev c 78 47 [l0, l1, l2, l3, l4, l5, l6, l7] L2 (aI x :: St) S = if x = 0 then ev c 78 50 [l0, l1, l2, l3, l4, l5, l6, l7] L2 St S else ev c 78 106 [l0, l1, l2, l3, l4, l5, l6, l7] L2 St S := (ev_br i78_47 rfl).trans (ite_not _ _ _)
theorem i78_50 : insAt 78 50 = some (.iload 5, 2, (0, 0, 0, 0), 0) := rfl
theorem s78_50 {c : Nat → List AV → SS → Option Out} {l0 l1 l2 l3 l4 l6 l7 : Option AV} {x : Int32} {L2 : List (Nat × AV)} {St : List AV} {S : SS} : ev c 78 50 [l0, l1, l2, l3, l4, some (aI x), l6, l7] L2 St S = ev c 78 52 [l0, l1, l2, l3, l4, some (aI x), l6, l7] L2 (aI x :: St) S := ev_go i78_50 rfl
theorem i78_52 : insAt 78 52 = some (.i2l, 1, (0, 0, 0, 0), 0) := rfl
theorem s78_52 {c : Nat → List AV → SS → Option Out} {l0 l1 l2 l3 l4 l5 l6 l7 : Option AV} {x : Int32} {L2 : List (Nat × AV)} {St : List AV} {S : SS} : ev c 78 52 [l0, l1, l2, l3, l4, l5, l6, l7] L2 (aI x :: St) S = ev c 78 53 [l0, l1, l2, l3, l4, l5, l6, l7] L2 (aL x.toInt64 :: St) S := ev_go i78_52 rfl
theorem i78_53 : insAt 78 53 = some (.iload 7, 2, (0, 0, 0, 0), 0) := rfl
theorem s78_53 {c : Nat → List AV → SS → Option Out} {l0 l1 l2 l3 l4 l5 l6 : Option AV} {x : Int32} {L2 : List (Nat × AV)} {St : List AV} {S : SS} : ev c 78 53 [l0, l1, l2, l3, l4, l5, l6, some (aI x)] L2 St S = ev c 78 55 [l0, l1, l2, l3, l4, l5, l6, some (aI x)] L2 (aI x :: St) S := ev_go i78_53 rfl
theorem i78_55 : insAt 78 55 = some (.invokestatic 129, 3, (43, 2, 1, 0), 0) := rfl
theorem s78_55 {c : Nat → List AV → SS → Option Out} {l0 l1 l2 l3 l4 l5 l6 l7 : Option AV} {a0 : Int64} {a1 : Int32} {L2 : List (Nat × AV)} {S : SS} : ev c 78 55 [l0, l1, l2, l3, l4, l5, l6, l7] L2 [aI a1, aL a0] S = ck (c 43 [aL a0, aI a1] S) (fun v S' => ev c 78 58 [l0, l1, l2, l3, l4, l5, l6, l7] L2 (v.toList ++ []) S') := ev_call i78_55 rfl
theorem i78_58 : insAt 78 58 = some (.ifCond .eq 42, 3, (0, 0, 0, 0), 0) := rfl
theorem s78_58 {c : Nat → List AV → SS → Option Out} {l0 l1 l2 l3 l4 l5 l6 l7 : Option AV} {x : Int32} {L2 : List (Nat × AV)} {St : List AV} {S : SS} : ev c 78 58 [l0, l1, l2, l3, l4, l5, l6, l7] L2 (aI x :: St) S = if x = 0 then ev c 78 100 [l0, l1, l2, l3, l4, l5, l6, l7] L2 St S else ev c 78 61 [l0, l1, l2, l3, l4, l5, l6, l7] L2 St S := ev_br i78_58 rfl
theorem i78_61 : insAt 78 61 = some (.aload_n 0, 1, (0, 0, 0, 0), 0) := rfl
theorem s78_61 {c : Nat → List AV → SS → Option Out} {l1 l2 l3 l4 l5 l6 l7 : Option AV} {o : OId} {L2 : List (Nat × AV)} {St : List AV} {S : SS} : ev c 78 61 [some (aR o), l1, l2, l3, l4, l5, l6, l7] L2 St S = ev c 78 62 [some (aR o), l1, l2, l3, l4, l5, l6, l7] L2 (aR o :: St) S := ev_go i78_61 rfl
theorem i78_62 : insAt 78 62 = some (.getfield 12, 3, (8, 1, 0, 0), 0) := rfl
theorem s78_62 {c : Nat → List AV → SS → Option Out} {l0 l1 l2 l3 l4 l5 l6 l7 : Option AV} {j t : Nat} {L2 : List (Nat × AV)} {St : List AV} {S : SS} : ev c 78 62 [l0, l1, l2, l3, l4, l5, l6, l7] L2 (aR (8, j, t) :: St) S = ev c 78 65 [l0, l1, l2, l3, l4, l5, l6, l7] L2 (S.2.2.1 (8, j, t) 1 :: St) S := ev_go i78_62 rfl
theorem i78_65 : insAt 78 65 = some (.iload_n 2, 1, (0, 0, 0, 0), 0) := rfl
theorem s78_65 {c : Nat → List AV → SS → Option Out} {l0 l1 l3 l4 l5 l6 l7 : Option AV} {x : Int32} {L2 : List (Nat × AV)} {St : List AV} {S : SS} : ev c 78 65 [l0, l1, some (aI x), l3, l4, l5, l6, l7] L2 St S = ev c 78 66 [l0, l1, some (aI x), l3, l4, l5, l6, l7] L2 (aI x :: St) S := ev_go i78_65 rfl
theorem i78_66 : insAt 78 66 = some (.aload_n 0, 1, (0, 0, 0, 0), 0) := rfl
theorem s78_66 {c : Nat → List AV → SS → Option Out} {l1 l2 l3 l4 l5 l6 l7 : Option AV} {o : OId} {L2 : List (Nat × AV)} {St : List AV} {S : SS} : ev c 78 66 [some (aR o), l1, l2, l3, l4, l5, l6, l7] L2 St S = ev c 78 67 [some (aR o), l1, l2, l3, l4, l5, l6, l7] L2 (aR o :: St) S := ev_go i78_66 rfl
theorem i78_67 : insAt 78 67 = some (.getfield 36, 3, (8, 0, 0, 0), 0) := rfl
theorem s78_67 {c : Nat → List AV → SS → Option Out} {l0 l1 l2 l3 l4 l5 l6 l7 : Option AV} {j t : Nat} {L2 : List (Nat × AV)} {St : List AV} {S : SS} : ev c 78 67 [l0, l1, l2, l3, l4, l5, l6, l7] L2 (aR (8, j, t) :: St) S = ev c 78 70 [l0, l1, l2, l3, l4, l5, l6, l7] L2 (S.2.2.1 (8, j, t) 0 :: St) S := ev_go i78_67 rfl
theorem i78_70 : insAt 78 70 = some (.getfield 82, 3, (6, 2, 1, 0), 0) := rfl
theorem s78_70 {c : Nat → List AV → SS → Option Out} {l0 l1 l2 l3 l4 l5 l6 l7 : Option AV} {j t : Nat} {L2 : List (Nat × AV)} {St : List AV} {S : SS} : ev c 78 70 [l0, l1, l2, l3, l4, l5, l6, l7] L2 (aR (6, j, t) :: St) S = ev c 78 73 [l0, l1, l2, l3, l4, l5, l6, l7] L2 (S.2.2.1 (6, j, t) 2 :: St) S := ev_go i78_70 rfl
theorem i78_73 : insAt 78 73 = some (.iload_n 1, 1, (0, 0, 0, 0), 0) := rfl
theorem s78_73 {c : Nat → List AV → SS → Option Out} {l0 l2 l3 l4 l5 l6 l7 : Option AV} {x : Int32} {L2 : List (Nat × AV)} {St : List AV} {S : SS} : ev c 78 73 [l0, some (aI x), l2, l3, l4, l5, l6, l7] L2 St S = ev c 78 74 [l0, some (aI x), l2, l3, l4, l5, l6, l7] L2 (aI x :: St) S := ev_go i78_73 rfl
theorem i78_74 : insAt 78 74 = some (.invokestatic 52, 3, (32, 2, 1, 0), 0) := rfl
theorem s78_74 {c : Nat → List AV → SS → Option Out} {l0 l1 l2 l3 l4 l5 l6 l7 : Option AV} {t0 t1 : AV} {a0 : OId} {a1 : Int32} {L2 : List (Nat × AV)} {S : SS} : ev c 78 74 [l0, l1, l2, l3, l4, l5, l6, l7] L2 [aI a1, aR a0, t0, t1] S = ck (c 32 [aR a0, aI a1] S) (fun v S' => ev c 78 77 [l0, l1, l2, l3, l4, l5, l6, l7] L2 (v.toList ++ [t0, t1]) S') := ev_call i78_74 rfl
theorem i78_77 : insAt 78 77 = some (.iload 4, 2, (0, 0, 0, 0), 0) := rfl
theorem s78_77 {c : Nat → List AV → SS → Option Out} {l0 l1 l2 l3 l5 l6 l7 : Option AV} {x : Int32} {L2 : List (Nat × AV)} {St : List AV} {S : SS} : ev c 78 77 [l0, l1, l2, l3, some (aI x), l5, l6, l7] L2 St S = ev c 78 79 [l0, l1, l2, l3, some (aI x), l5, l6, l7] L2 (aI x :: St) S := ev_go i78_77 rfl
theorem i78_79 : insAt 78 79 = some (.iload 7, 2, (0, 0, 0, 0), 0) := rfl
theorem s78_79 {c : Nat → List AV → SS → Option Out} {l0 l1 l2 l3 l4 l5 l6 : Option AV} {x : Int32} {L2 : List (Nat × AV)} {St : List AV} {S : SS} : ev c 78 79 [l0, l1, l2, l3, l4, l5, l6, some (aI x)] L2 St S = ev c 78 81 [l0, l1, l2, l3, l4, l5, l6, some (aI x)] L2 (aI x :: St) S := ev_go i78_79 rfl
theorem i78_81 : insAt 78 81 = some (.invokevirtual 133, 3, (80, 4, 3, 7), 0) := rfl
theorem s78_81 {c : Nat → List AV → SS → Option Out} {l0 l1 l2 l3 l4 l5 l6 l7 : Option AV} {a0 : Int32} {a1 : Int32} {a2 : Int32} {a3 : Int32} {j t : Nat} {L2 : List (Nat × AV)} {S : SS} : ev c 78 81 [l0, l1, l2, l3, l4, l5, l6, l7] L2 [aI a3, aI a2, aI a1, aI a0, aR (7, j, t)] S = ck (c 80 [aR (7, j, t), aI a0, aI a1, aI a2, aI a3] S) (fun v S' => ev c 78 84 [l0, l1, l2, l3, l4, l5, l6, l7] L2 (v.toList ++ []) S') := ev_call i78_81 rfl
theorem i78_84 : insAt 78 84 = some (.aload_n 3, 1, (0, 0, 0, 0), 0) := rfl
theorem s78_84 {c : Nat → List AV → SS → Option Out} {l0 l1 l2 l4 l5 l6 l7 : Option AV} {o : OId} {L2 : List (Nat × AV)} {St : List AV} {S : SS} : ev c 78 84 [l0, l1, l2, some (aR o), l4, l5, l6, l7] L2 St S = ev c 78 85 [l0, l1, l2, some (aR o), l4, l5, l6, l7] L2 (aR o :: St) S := ev_go i78_84 rfl
theorem i78_85 : insAt 78 85 = some (.iload_n 1, 1, (0, 0, 0, 0), 0) := rfl
theorem s78_85 {c : Nat → List AV → SS → Option Out} {l0 l2 l3 l4 l5 l6 l7 : Option AV} {x : Int32} {L2 : List (Nat × AV)} {St : List AV} {S : SS} : ev c 78 85 [l0, some (aI x), l2, l3, l4, l5, l6, l7] L2 St S = ev c 78 86 [l0, some (aI x), l2, l3, l4, l5, l6, l7] L2 (aI x :: St) S := ev_go i78_85 rfl
theorem i78_86 : insAt 78 86 = some (.iload 7, 2, (0, 0, 0, 0), 0) := rfl
theorem s78_86 {c : Nat → List AV → SS → Option Out} {l0 l1 l2 l3 l4 l5 l6 : Option AV} {x : Int32} {L2 : List (Nat × AV)} {St : List AV} {S : SS} : ev c 78 86 [l0, l1, l2, l3, l4, l5, l6, some (aI x)] L2 St S = ev c 78 88 [l0, l1, l2, l3, l4, l5, l6, some (aI x)] L2 (aI x :: St) S := ev_go i78_86 rfl
theorem i78_88 : insAt 78 88 = some (.invokestatic 85, 3, (36, 3, 1, 0), 0) := rfl
theorem s78_88 {c : Nat → List AV → SS → Option Out} {l0 l1 l2 l3 l4 l5 l6 l7 : Option AV} {a0 : OId} {a1 : Int32} {a2 : Int32} {L2 : List (Nat × AV)} {S : SS} : ev c 78 88 [l0, l1, l2, l3, l4, l5, l6, l7] L2 [aI a2, aI a1, aR a0] S = ck (c 36 [aR a0, aI a1, aI a2] S) (fun v S' => ev c 78 91 [l0, l1, l2, l3, l4, l5, l6, l7] L2 (v.toList ++ []) S') := ev_call i78_88 rfl
theorem i78_91 : insAt 78 91 = some (.aload_n 0, 1, (0, 0, 0, 0), 0) := rfl
theorem s78_91 {c : Nat → List AV → SS → Option Out} {l1 l2 l3 l4 l5 l6 l7 : Option AV} {o : OId} {L2 : List (Nat × AV)} {St : List AV} {S : SS} : ev c 78 91 [some (aR o), l1, l2, l3, l4, l5, l6, l7] L2 St S = ev c 78 92 [some (aR o), l1, l2, l3, l4, l5, l6, l7] L2 (aR o :: St) S := ev_go i78_91 rfl
theorem i78_92 : insAt 78 92 = some (.iload_n 2, 1, (0, 0, 0, 0), 0) := rfl
theorem s78_92 {c : Nat → List AV → SS → Option Out} {l0 l1 l3 l4 l5 l6 l7 : Option AV} {x : Int32} {L2 : List (Nat × AV)} {St : List AV} {S : SS} : ev c 78 92 [l0, l1, some (aI x), l3, l4, l5, l6, l7] L2 St S = ev c 78 93 [l0, l1, some (aI x), l3, l4, l5, l6, l7] L2 (aI x :: St) S := ev_go i78_92 rfl
theorem i78_93 : insAt 78 93 = some (.iconst 1, 1, (0, 0, 0, 0), 0) := rfl
theorem s78_93 {c : Nat → List AV → SS → Option Out} {l0 l1 l2 l3 l4 l5 l6 l7 : Option AV} {L2 : List (Nat × AV)} {St : List AV} {S : SS} : ev c 78 93 [l0, l1, l2, l3, l4, l5, l6, l7] L2 St S = ev c 78 94 [l0, l1, l2, l3, l4, l5, l6, l7] L2 (aI 1 :: St) S := ev_go i78_93 rfl
theorem i78_94 : insAt 78 94 = some (.iadd, 1, (0, 0, 0, 0), 0) := rfl
theorem s78_94 {c : Nat → List AV → SS → Option Out} {l0 l1 l2 l3 l4 l5 l6 l7 : Option AV} {x y : Int32} {L2 : List (Nat × AV)} {St : List AV} {S : SS} : ev c 78 94 [l0, l1, l2, l3, l4, l5, l6, l7] L2 (aI y :: aI x :: St) S = ev c 78 95 [l0, l1, l2, l3, l4, l5, l6, l7] L2 (aI (x + y) :: St) S := ev_go i78_94 rfl
theorem i78_95 : insAt 78 95 = some (.invokestatic 114, 3, (72, 2, 0, 0), 0) := rfl
theorem s78_95 {c : Nat → List AV → SS → Option Out} {l0 l1 l2 l3 l4 l5 l6 l7 : Option AV} {a0 : OId} {a1 : Int32} {L2 : List (Nat × AV)} {S : SS} : ev c 78 95 [l0, l1, l2, l3, l4, l5, l6, l7] L2 [aI a1, aR a0] S = ck (c 72 [aR a0, aI a1] S) (fun v S' => ev c 78 98 [l0, l1, l2, l3, l4, l5, l6, l7] L2 (v.toList ++ []) S') := ev_call i78_95 rfl
theorem i78_98 : insAt 78 98 = some (.istore 6, 2, (0, 0, 0, 0), 0) := rfl
theorem s78_98 {c : Nat → List AV → SS → Option Out} {l0 l1 l2 l3 l4 l5 l6 l7 : Option AV} {x : Int32} {L2 : List (Nat × AV)} {St : List AV} {S : SS} : ev c 78 98 [l0, l1, l2, l3, l4, l5, l6, l7] L2 (aI x :: St) S = ev c 78 100 [l0, l1, l2, l3, l4, l5, some (aI x), l7] (kil L2 6) St S := ev_go i78_98 rfl
theorem i78_100 : insAt 78 100 = some (.iinc 7 1, 3, (0, 0, 0, 0), 0) := rfl
theorem s78_100 {c : Nat → List AV → SS → Option Out} {l0 l1 l2 l3 l4 l5 l6 : Option AV} {x : Int32} {L2 : List (Nat × AV)} {St : List AV} {S : SS} : ev c 78 100 [l0, l1, l2, l3, l4, l5, l6, some (aI x)] L2 St S = ev c 78 103 [l0, l1, l2, l3, l4, l5, l6, some (aI (x + 1))] (kil L2 7) St S := ev_go i78_100 rfl
theorem i78_103 : insAt 78 103 = some (.goto (-65), 3, (0, 0, 0, 0), 0) := rfl
theorem s78_103 {c : Nat → List AV → SS → Option Out} {l0 l1 l2 l3 l4 l5 l6 l7 : Option AV} {L2 : List (Nat × AV)} {St : List AV} {S : SS} : ev c 78 103 [l0, l1, l2, l3, l4, l5, l6, l7] L2 St S = ev c 78 38 [l0, l1, l2, l3, l4, l5, l6, l7] L2 St S := ev_go i78_103 rfl
theorem i78_106 : insAt 78 106 = some (.aload_n 3, 1, (0, 0, 0, 0), 0) := rfl
theorem s78_106 {c : Nat → List AV → SS → Option Out} {l0 l1 l2 l4 l5 l6 l7 : Option AV} {o : OId} {L2 : List (Nat × AV)} {St : List AV} {S : SS} : ev c 78 106 [l0, l1, l2, some (aR o), l4, l5, l6, l7] L2 St S = ev c 78 107 [l0, l1, l2, some (aR o), l4, l5, l6, l7] L2 (aR o :: St) S := ev_go i78_106 rfl
theorem i78_107 : insAt 78 107 = some (.iload_n 1, 1, (0, 0, 0, 0), 0) := rfl
theorem s78_107 {c : Nat → List AV → SS → Option Out} {l0 l2 l3 l4 l5 l6 l7 : Option AV} {x : Int32} {L2 : List (Nat × AV)} {St : List AV} {S : SS} : ev c 78 107 [l0, some (aI x), l2, l3, l4, l5, l6, l7] L2 St S = ev c 78 108 [l0, some (aI x), l2, l3, l4, l5, l6, l7] L2 (aI x :: St) S := ev_go i78_107 rfl
theorem i78_108 : insAt 78 108 = some (.iload 4, 2, (0, 0, 0, 0), 0) := rfl
theorem s78_108 {c : Nat → List AV → SS → Option Out} {l0 l1 l2 l3 l5 l6 l7 : Option AV} {x : Int32} {L2 : List (Nat × AV)} {St : List AV} {S : SS} : ev c 78 108 [l0, l1, l2, l3, some (aI x), l5, l6, l7] L2 St S = ev c 78 110 [l0, l1, l2, l3, some (aI x), l5, l6, l7] L2 (aI x :: St) S := ev_go i78_108 rfl
theorem i78_110 : insAt 78 110 = some (.invokestatic 85, 3, (36, 3, 1, 0), 0) := rfl
theorem s78_110 {c : Nat → List AV → SS → Option Out} {l0 l1 l2 l3 l4 l5 l6 l7 : Option AV} {a0 : OId} {a1 : Int32} {a2 : Int32} {L2 : List (Nat × AV)} {S : SS} : ev c 78 110 [l0, l1, l2, l3, l4, l5, l6, l7] L2 [aI a2, aI a1, aR a0] S = ck (c 36 [aR a0, aI a1, aI a2] S) (fun v S' => ev c 78 113 [l0, l1, l2, l3, l4, l5, l6, l7] L2 (v.toList ++ []) S') := ev_call i78_110 rfl
theorem i78_113 : insAt 78 113 = some (.iload 6, 2, (0, 0, 0, 0), 0) := rfl
theorem s78_113 {c : Nat → List AV → SS → Option Out} {l0 l1 l2 l3 l4 l5 l7 : Option AV} {x : Int32} {L2 : List (Nat × AV)} {St : List AV} {S : SS} : ev c 78 113 [l0, l1, l2, l3, l4, l5, some (aI x), l7] L2 St S = ev c 78 115 [l0, l1, l2, l3, l4, l5, some (aI x), l7] L2 (aI x :: St) S := ev_go i78_113 rfl
theorem i78_115 : insAt 78 115 = some (.ireturn, 1, (0, 0, 0, 0), 0) := rfl
theorem s78_115 {c : Nat → List AV → SS → Option Out} {l0 l1 l2 l3 l4 l5 l6 l7 : Option AV} {x : Int32} {L2 : List (Nat × AV)} {St : List AV} {S : SS} : ev c 78 115 [l0, l1, l2, l3, l4, l5, l6, l7] L2 [aI x] S = if x = 0 ∨ x = 1 then some (.inl (some (aI x)), S) else none := ev_rt i78_115 rfl
theorem m78 {d : Nat} {a0 : OId} {a1 : Int32} {a2 : Int32} {S : SS} : evm (d + 1) 78 [aR a0, aI a1, aI a2] S = ev (evm d) 78 0 [some (aR a0), some (aI a1), some (aI a2), none, none, none, none, none] [] [] S := evm_s (n := 8) rfl (Nat.le_of_ble_eq_true rfl) rfl rfl
/-! FrequencyOffice$Net.openTo(I)I -/
theorem i79_0 : insAt 79 0 = some (.lconst 0, 1, (0, 0, 0, 0), 0) := rfl
theorem s79_0 {c : Nat → List AV → SS → Option Out} {l0 l1 l2 l3 l4 : Option AV} {L2 : List (Nat × AV)} {St : List AV} {S : SS} : ev c 79 0 [l0, l1, l2, l3, l4] L2 St S = ev c 79 1 [l0, l1, l2, l3, l4] L2 (aL 0 :: St) S := ev_go i79_0 rfl
theorem i79_1 : insAt 79 1 = some (.lstore_n 2, 1, (0, 0, 0, 0), 0) := rfl
theorem s79_1 {c : Nat → List AV → SS → Option Out} {l0 l1 l2 l3 l4 : Option AV} {x : Int64} {L2 : List (Nat × AV)} {St : List AV} {S : SS} : ev c 79 1 [l0, l1, l2, l3, l4] L2 (aL x :: St) S = ev c 79 2 [l0, l1, none, none, l4] ((2, aL x) :: kil2 L2 2) St S := ev_go i79_1 rfl
theorem i79_2 : insAt 79 2 = some (.iconst 0, 1, (0, 0, 0, 0), 0) := rfl
theorem s79_2 {c : Nat → List AV → SS → Option Out} {l0 l1 l2 l3 l4 : Option AV} {L2 : List (Nat × AV)} {St : List AV} {S : SS} : ev c 79 2 [l0, l1, l2, l3, l4] L2 St S = ev c 79 3 [l0, l1, l2, l3, l4] L2 (aI 0 :: St) S := ev_go i79_2 rfl
theorem i79_3 : insAt 79 3 = some (.istore 4, 2, (0, 0, 0, 0), 0) := rfl
theorem s79_3 {c : Nat → List AV → SS → Option Out} {l0 l1 l2 l3 l4 : Option AV} {x : Int32} {L2 : List (Nat × AV)} {St : List AV} {S : SS} : ev c 79 3 [l0, l1, l2, l3, l4] L2 (aI x :: St) S = ev c 79 5 [l0, l1, l2, l3, some (aI x)] (kil L2 4) St S := ev_go i79_3 rfl
theorem i79_5 : insAt 79 5 = some (.iload 4, 2, (0, 0, 0, 0), 0) := rfl
theorem s79_5 {c : Nat → List AV → SS → Option Out} {l0 l1 l2 l3 : Option AV} {x : Int32} {L2 : List (Nat × AV)} {St : List AV} {S : SS} : ev c 79 5 [l0, l1, l2, l3, some (aI x)] L2 St S = ev c 79 7 [l0, l1, l2, l3, some (aI x)] L2 (aI x :: St) S := ev_go i79_5 rfl
theorem i79_7 : insAt 79 7 = some (.aload_n 0, 1, (0, 0, 0, 0), 0) := rfl
theorem s79_7 {c : Nat → List AV → SS → Option Out} {l1 l2 l3 l4 : Option AV} {o : OId} {L2 : List (Nat × AV)} {St : List AV} {S : SS} : ev c 79 7 [some (aR o), l1, l2, l3, l4] L2 St S = ev c 79 8 [some (aR o), l1, l2, l3, l4] L2 (aR o :: St) S := ev_go i79_7 rfl
theorem i79_8 : insAt 79 8 = some (.getfield 9, 3, (6, 0, 0, 0), 0) := rfl
theorem s79_8 {c : Nat → List AV → SS → Option Out} {l0 l1 l2 l3 l4 : Option AV} {j t : Nat} {L2 : List (Nat × AV)} {St : List AV} {S : SS} : ev c 79 8 [l0, l1, l2, l3, l4] L2 (aR (6, j, t) :: St) S = ev c 79 11 [l0, l1, l2, l3, l4] L2 (aI (S.1 (6, j, t) 0) :: St) S := ev_go i79_8 rfl
theorem i79_11 : insAt 79 11 = some (.if_icmp .ge 37, 3, (0, 0, 0, 0), 0) := rfl
theorem s79_11 {c : Nat → List AV → SS → Option Out} {l0 l1 l2 l3 l4 : Option AV} {x y : Int32} {L2 : List (Nat × AV)} {St : List AV} {S : SS} : ev c 79 11 [l0, l1, l2, l3, l4] L2 (aI y :: aI x :: St) S = if y ≤ x then ev c 79 48 [l0, l1, l2, l3, l4] L2 St S else ev c 79 14 [l0, l1, l2, l3, l4] L2 St S := ev_br i79_11 rfl
theorem i79_14 : insAt 79 14 = some (.iload 4, 2, (0, 0, 0, 0), 0) := rfl
theorem s79_14 {c : Nat → List AV → SS → Option Out} {l0 l1 l2 l3 : Option AV} {x : Int32} {L2 : List (Nat × AV)} {St : List AV} {S : SS} : ev c 79 14 [l0, l1, l2, l3, some (aI x)] L2 St S = ev c 79 16 [l0, l1, l2, l3, some (aI x)] L2 (aI x :: St) S := ev_go i79_14 rfl
theorem i79_16 : insAt 79 16 = some (.iload_n 1, 1, (0, 0, 0, 0), 0) := rfl
theorem s79_16 {c : Nat → List AV → SS → Option Out} {l0 l2 l3 l4 : Option AV} {x : Int32} {L2 : List (Nat × AV)} {St : List AV} {S : SS} : ev c 79 16 [l0, some (aI x), l2, l3, l4] L2 St S = ev c 79 17 [l0, some (aI x), l2, l3, l4] L2 (aI x :: St) S := ev_go i79_16 rfl
theorem i79_17 : insAt 79 17 = some (.if_icmp .eq 25, 3, (0, 0, 0, 0), 0) := rfl
theorem s79_17 {c : Nat → List AV → SS → Option Out} {l0 l1 l2 l3 l4 : Option AV} {x y : Int32} {L2 : List (Nat × AV)} {St : List AV} {S : SS} : ev c 79 17 [l0, l1, l2, l3, l4] L2 (aI y :: aI x :: St) S = if x = y then ev c 79 42 [l0, l1, l2, l3, l4] L2 St S else ev c 79 20 [l0, l1, l2, l3, l4] L2 St S := ev_br i79_17 rfl
theorem i79_20 : insAt 79 20 = some (.lload_n 2, 1, (0, 0, 0, 0), 0) := rfl
theorem s79_20 {c : Nat → List AV → SS → Option Out} {l0 l1 l2 l3 l4 : Option AV} {x : Int64} {L2 : List (Nat × AV)} {St : List AV} {S : SS} (h : ldL L2 2 = some x) : ev c 79 20 [l0, l1, l2, l3, l4] L2 St S = ev c 79 21 [l0, l1, l2, l3, l4] L2 (aL x :: St) S := ev_go i79_20 (by simp only [stepI]; exact (congrArg (fun q => match q with | some x => nx (20 + 1) [l0, l1, l2, l3, l4] L2 (aL x :: St) S | none => none) h))
theorem i79_21 : insAt 79 21 = some (.aload_n 0, 1, (0, 0, 0, 0), 0) := rfl
theorem s79_21 {c : Nat → List AV → SS → Option Out} {l1 l2 l3 l4 : Option AV} {o : OId} {L2 : List (Nat × AV)} {St : List AV} {S : SS} : ev c 79 21 [some (aR o), l1, l2, l3, l4] L2 St S = ev c 79 22 [some (aR o), l1, l2, l3, l4] L2 (aR o :: St) S := ev_go i79_21 rfl
theorem i79_22 : insAt 79 22 = some (.getfield 22, 3, (6, 3, 0, 0), 0) := rfl
theorem s79_22 {c : Nat → List AV → SS → Option Out} {l0 l1 l2 l3 l4 : Option AV} {j t : Nat} {L2 : List (Nat × AV)} {St : List AV} {S : SS} : ev c 79 22 [l0, l1, l2, l3, l4] L2 (aR (6, j, t) :: St) S = ev c 79 25 [l0, l1, l2, l3, l4] L2 (S.2.2.1 (6, j, t) 3 :: St) S := ev_go i79_22 rfl
theorem i79_25 : insAt 79 25 = some (.iload 4, 2, (0, 0, 0, 0), 0) := rfl
theorem s79_25 {c : Nat → List AV → SS → Option Out} {l0 l1 l2 l3 : Option AV} {x : Int32} {L2 : List (Nat × AV)} {St : List AV} {S : SS} : ev c 79 25 [l0, l1, l2, l3, some (aI x)] L2 St S = ev c 79 27 [l0, l1, l2, l3, some (aI x)] L2 (aI x :: St) S := ev_go i79_25 rfl
theorem i79_27 : insAt 79 27 = some (.invokestatic 47, 3, (32, 2, 1, 0), 0) := rfl
theorem s79_27 {c : Nat → List AV → SS → Option Out} {l0 l1 l2 l3 l4 : Option AV} {t0 : AV} {a0 : OId} {a1 : Int32} {L2 : List (Nat × AV)} {S : SS} : ev c 79 27 [l0, l1, l2, l3, l4] L2 [aI a1, aR a0, t0] S = ck (c 32 [aR a0, aI a1] S) (fun v S' => ev c 79 30 [l0, l1, l2, l3, l4] L2 (v.toList ++ [t0]) S') := ev_call i79_27 rfl
theorem i79_30 : insAt 79 30 = some (.aload_n 0, 1, (0, 0, 0, 0), 0) := rfl
theorem s79_30 {c : Nat → List AV → SS → Option Out} {l1 l2 l3 l4 : Option AV} {o : OId} {L2 : List (Nat × AV)} {St : List AV} {S : SS} : ev c 79 30 [some (aR o), l1, l2, l3, l4] L2 St S = ev c 79 31 [some (aR o), l1, l2, l3, l4] L2 (aR o :: St) S := ev_go i79_30 rfl
theorem i79_31 : insAt 79 31 = some (.iload_n 1, 1, (0, 0, 0, 0), 0) := rfl
theorem s79_31 {c : Nat → List AV → SS → Option Out} {l0 l2 l3 l4 : Option AV} {x : Int32} {L2 : List (Nat × AV)} {St : List AV} {S : SS} : ev c 79 31 [l0, some (aI x), l2, l3, l4] L2 St S = ev c 79 32 [l0, some (aI x), l2, l3, l4] L2 (aI x :: St) S := ev_go i79_31 rfl
theorem i79_32 : insAt 79 32 = some (.iload 4, 2, (0, 0, 0, 0), 0) := rfl
theorem s79_32 {c : Nat → List AV → SS → Option Out} {l0 l1 l2 l3 : Option AV} {x : Int32} {L2 : List (Nat × AV)} {St : List AV} {S : SS} : ev c 79 32 [l0, l1, l2, l3, some (aI x)] L2 St S = ev c 79 34 [l0, l1, l2, l3, some (aI x)] L2 (aI x :: St) S := ev_go i79_32 rfl
theorem i79_34 : insAt 79 34 = some (.invokevirtual 68, 3, (40, 2, 2, 6), 0) := rfl
theorem s79_34 {c : Nat → List AV → SS → Option Out} {l0 l1 l2 l3 l4 : Option AV} {t0 t1 : AV} {a0 : Int32} {a1 : Int32} {j t : Nat} {L2 : List (Nat × AV)} {S : SS} : ev c 79 34 [l0, l1, l2, l3, l4] L2 [aI a1, aI a0, aR (6, j, t), t0, t1] S = ck (c 40 [aR (6, j, t), aI a0, aI a1] S) (fun v S' => ev c 79 37 [l0, l1, l2, l3, l4] L2 (v.toList ++ [t0, t1]) S') := ev_call i79_34 rfl
theorem i79_37 : insAt 79 37 = some (.invokestatic 71, 3, (45, 2, 1, 0), 0) := rfl
theorem s79_37 {c : Nat → List AV → SS → Option Out} {l0 l1 l2 l3 l4 : Option AV} {t0 : AV} {a0 : Int32} {a1 : Int32} {L2 : List (Nat × AV)} {S : SS} : ev c 79 37 [l0, l1, l2, l3, l4] L2 [aI a1, aI a0, t0] S = ck (c 45 [aI a0, aI a1] S) (fun v S' => ev c 79 40 [l0, l1, l2, l3, l4] L2 (v.toList ++ [t0]) S') := ev_call i79_37 rfl
theorem i79_40 : insAt 79 40 = some (.lor, 1, (0, 0, 0, 0), 0) := rfl
theorem s79_40 {c : Nat → List AV → SS → Option Out} {l0 l1 l2 l3 l4 : Option AV} {x y : Int64} {L2 : List (Nat × AV)} {St : List AV} {S : SS} : ev c 79 40 [l0, l1, l2, l3, l4] L2 (aL y :: aL x :: St) S = ev c 79 41 [l0, l1, l2, l3, l4] L2 (aL (x ||| y) :: St) S := ev_go i79_40 rfl
theorem i79_41 : insAt 79 41 = some (.lstore_n 2, 1, (0, 0, 0, 0), 0) := rfl
theorem s79_41 {c : Nat → List AV → SS → Option Out} {l0 l1 l2 l3 l4 : Option AV} {x : Int64} {L2 : List (Nat × AV)} {St : List AV} {S : SS} : ev c 79 41 [l0, l1, l2, l3, l4] L2 (aL x :: St) S = ev c 79 42 [l0, l1, none, none, l4] ((2, aL x) :: kil2 L2 2) St S := ev_go i79_41 rfl
theorem i79_42 : insAt 79 42 = some (.iinc 4 1, 3, (0, 0, 0, 0), 0) := rfl
theorem s79_42 {c : Nat → List AV → SS → Option Out} {l0 l1 l2 l3 : Option AV} {x : Int32} {L2 : List (Nat × AV)} {St : List AV} {S : SS} : ev c 79 42 [l0, l1, l2, l3, some (aI x)] L2 St S = ev c 79 45 [l0, l1, l2, l3, some (aI (x + 1))] (kil L2 4) St S := ev_go i79_42 rfl
theorem i79_45 : insAt 79 45 = some (.goto (-40), 3, (0, 0, 0, 0), 0) := rfl
theorem s79_45 {c : Nat → List AV → SS → Option Out} {l0 l1 l2 l3 l4 : Option AV} {L2 : List (Nat × AV)} {St : List AV} {S : SS} : ev c 79 45 [l0, l1, l2, l3, l4] L2 St S = ev c 79 5 [l0, l1, l2, l3, l4] L2 St S := ev_go i79_45 rfl
theorem i79_48 : insAt 79 48 = some (.lload_n 2, 1, (0, 0, 0, 0), 0) := rfl
theorem s79_48 {c : Nat → List AV → SS → Option Out} {l0 l1 l2 l3 l4 : Option AV} {x : Int64} {L2 : List (Nat × AV)} {St : List AV} {S : SS} (h : ldL L2 2 = some x) : ev c 79 48 [l0, l1, l2, l3, l4] L2 St S = ev c 79 49 [l0, l1, l2, l3, l4] L2 (aL x :: St) S := ev_go i79_48 (by simp only [stepI]; exact (congrArg (fun q => match q with | some x => nx (48 + 1) [l0, l1, l2, l3, l4] L2 (aL x :: St) S | none => none) h))
theorem i79_49 : insAt 79 49 = some (.ldc2_w 75, 3, (0, 0, 0, 0), -1) := rfl
theorem s79_49 {c : Nat → List AV → SS → Option Out} {l0 l1 l2 l3 l4 : Option AV} {L2 : List (Nat × AV)} {St : List AV} {S : SS} : ev c 79 49 [l0, l1, l2, l3, l4] L2 St S = ev c 79 52 [l0, l1, l2, l3, l4] L2 (aL (-1) :: St) S := ev_go i79_49 rfl
theorem i79_52 : insAt 79 52 = some (.lxor, 1, (0, 0, 0, 0), 0) := rfl
theorem s79_52 {c : Nat → List AV → SS → Option Out} {l0 l1 l2 l3 l4 : Option AV} {x y : Int64} {L2 : List (Nat × AV)} {St : List AV} {S : SS} : ev c 79 52 [l0, l1, l2, l3, l4] L2 (aL y :: aL x :: St) S = ev c 79 53 [l0, l1, l2, l3, l4] L2 (aL (x ^^^ y) :: St) S := ev_go i79_52 rfl
theorem i79_53 : insAt 79 53 = some (.ldc2_w 77, 3, (0, 0, 0, 0), 255) := rfl
theorem s79_53 {c : Nat → List AV → SS → Option Out} {l0 l1 l2 l3 l4 : Option AV} {L2 : List (Nat × AV)} {St : List AV} {S : SS} : ev c 79 53 [l0, l1, l2, l3, l4] L2 St S = ev c 79 56 [l0, l1, l2, l3, l4] L2 (aL 255 :: St) S := ev_go i79_53 rfl
theorem i79_56 : insAt 79 56 = some (.land, 1, (0, 0, 0, 0), 0) := rfl
theorem s79_56 {c : Nat → List AV → SS → Option Out} {l0 l1 l2 l3 l4 : Option AV} {x y : Int64} {L2 : List (Nat × AV)} {St : List AV} {S : SS} : ev c 79 56 [l0, l1, l2, l3, l4] L2 (aL y :: aL x :: St) S = ev c 79 57 [l0, l1, l2, l3, l4] L2 (aL (x &&& y) :: St) S := ev_go i79_56 rfl
theorem i79_57 : insAt 79 57 = some (.l2i, 1, (0, 0, 0, 0), 0) := rfl
theorem s79_57 {c : Nat → List AV → SS → Option Out} {l0 l1 l2 l3 l4 : Option AV} {x : Int64} {L2 : List (Nat × AV)} {St : List AV} {S : SS} : ev c 79 57 [l0, l1, l2, l3, l4] L2 (aL x :: St) S = ev c 79 58 [l0, l1, l2, l3, l4] L2 (aI x.toInt32 :: St) S := ev_go i79_57 rfl
theorem i79_58 : insAt 79 58 = some (.ireturn, 1, (0, 0, 0, 0), 0) := rfl
theorem s79_58 {c : Nat → List AV → SS → Option Out} {l0 l1 l2 l3 l4 : Option AV} {x : Int32} {L2 : List (Nat × AV)} {St : List AV} {S : SS} : ev c 79 58 [l0, l1, l2, l3, l4] L2 [aI x] S = some (.inl (some (aI x)), S) := ev_end i79_58 rfl
theorem m79 {d : Nat} {o : OId} {a0 : Int32} {S : SS} : evm (d + 1) 79 [aR o, aI a0] S = ev (evm d) 79 0 [some (aR o), some (aI a0), none, none, none] [] [] S := evm_s (n := 5) rfl (Nat.le_of_ble_eq_true rfl) rfl rfl
/-! FrequencyOffice$Plan.setMove(IIII)V -/
theorem i80_0 : insAt 80 0 = some (.aload_n 0, 1, (0, 0, 0, 0), 0) := rfl
theorem s80_0 {c : Nat → List AV → SS → Option Out} {l1 l2 l3 l4 : Option AV} {o : OId} {L2 : List (Nat × AV)} {St : List AV} {S : SS} : ev c 80 0 [some (aR o), l1, l2, l3, l4] L2 St S = ev c 80 1 [some (aR o), l1, l2, l3, l4] L2 (aR o :: St) S := ev_go i80_0 rfl
theorem i80_1 : insAt 80 1 = some (.getfield 18, 3, (7, 2, 0, 0), 0) := rfl
theorem s80_1 {c : Nat → List AV → SS → Option Out} {l0 l1 l2 l3 l4 : Option AV} {j t : Nat} {L2 : List (Nat × AV)} {St : List AV} {S : SS} : ev c 80 1 [l0, l1, l2, l3, l4] L2 (aR (7, j, t) :: St) S = ev c 80 4 [l0, l1, l2, l3, l4] L2 (S.2.2.1 (7, j, t) 2 :: St) S := ev_go i80_1 rfl
theorem i80_4 : insAt 80 4 = some (.iload_n 1, 1, (0, 0, 0, 0), 0) := rfl
theorem s80_4 {c : Nat → List AV → SS → Option Out} {l0 l2 l3 l4 : Option AV} {x : Int32} {L2 : List (Nat × AV)} {St : List AV} {S : SS} : ev c 80 4 [l0, some (aI x), l2, l3, l4] L2 St S = ev c 80 5 [l0, some (aI x), l2, l3, l4] L2 (aI x :: St) S := ev_go i80_4 rfl
theorem i80_5 : insAt 80 5 = some (.iload_n 2, 1, (0, 0, 0, 0), 0) := rfl
theorem s80_5 {c : Nat → List AV → SS → Option Out} {l0 l1 l3 l4 : Option AV} {x : Int32} {L2 : List (Nat × AV)} {St : List AV} {S : SS} : ev c 80 5 [l0, l1, some (aI x), l3, l4] L2 St S = ev c 80 6 [l0, l1, some (aI x), l3, l4] L2 (aI x :: St) S := ev_go i80_5 rfl
theorem i80_6 : insAt 80 6 = some (.invokestatic 34, 3, (36, 3, 1, 0), 0) := rfl
theorem s80_6 {c : Nat → List AV → SS → Option Out} {l0 l1 l2 l3 l4 : Option AV} {a0 : OId} {a1 : Int32} {a2 : Int32} {L2 : List (Nat × AV)} {S : SS} : ev c 80 6 [l0, l1, l2, l3, l4] L2 [aI a2, aI a1, aR a0] S = ck (c 36 [aR a0, aI a1, aI a2] S) (fun v S' => ev c 80 9 [l0, l1, l2, l3, l4] L2 (v.toList ++ []) S') := ev_call i80_6 rfl
theorem i80_9 : insAt 80 9 = some (.aload_n 0, 1, (0, 0, 0, 0), 0) := rfl
theorem s80_9 {c : Nat → List AV → SS → Option Out} {l1 l2 l3 l4 : Option AV} {o : OId} {L2 : List (Nat × AV)} {St : List AV} {S : SS} : ev c 80 9 [some (aR o), l1, l2, l3, l4] L2 St S = ev c 80 10 [some (aR o), l1, l2, l3, l4] L2 (aR o :: St) S := ev_go i80_9 rfl
theorem i80_10 : insAt 80 10 = some (.getfield 22, 3, (7, 3, 0, 0), 0) := rfl
theorem s80_10 {c : Nat → List AV → SS → Option Out} {l0 l1 l2 l3 l4 : Option AV} {j t : Nat} {L2 : List (Nat × AV)} {St : List AV} {S : SS} : ev c 80 10 [l0, l1, l2, l3, l4] L2 (aR (7, j, t) :: St) S = ev c 80 13 [l0, l1, l2, l3, l4] L2 (S.2.2.1 (7, j, t) 3 :: St) S := ev_go i80_10 rfl
theorem i80_13 : insAt 80 13 = some (.iload_n 1, 1, (0, 0, 0, 0), 0) := rfl
theorem s80_13 {c : Nat → List AV → SS → Option Out} {l0 l2 l3 l4 : Option AV} {x : Int32} {L2 : List (Nat × AV)} {St : List AV} {S : SS} : ev c 80 13 [l0, some (aI x), l2, l3, l4] L2 St S = ev c 80 14 [l0, some (aI x), l2, l3, l4] L2 (aI x :: St) S := ev_go i80_13 rfl
theorem i80_14 : insAt 80 14 = some (.iload_n 3, 1, (0, 0, 0, 0), 0) := rfl
theorem s80_14 {c : Nat → List AV → SS → Option Out} {l0 l1 l2 l4 : Option AV} {x : Int32} {L2 : List (Nat × AV)} {St : List AV} {S : SS} : ev c 80 14 [l0, l1, l2, some (aI x), l4] L2 St S = ev c 80 15 [l0, l1, l2, some (aI x), l4] L2 (aI x :: St) S := ev_go i80_14 rfl
theorem i80_15 : insAt 80 15 = some (.invokestatic 34, 3, (36, 3, 1, 0), 0) := rfl
theorem s80_15 {c : Nat → List AV → SS → Option Out} {l0 l1 l2 l3 l4 : Option AV} {a0 : OId} {a1 : Int32} {a2 : Int32} {L2 : List (Nat × AV)} {S : SS} : ev c 80 15 [l0, l1, l2, l3, l4] L2 [aI a2, aI a1, aR a0] S = ck (c 36 [aR a0, aI a1, aI a2] S) (fun v S' => ev c 80 18 [l0, l1, l2, l3, l4] L2 (v.toList ++ []) S') := ev_call i80_15 rfl
theorem i80_18 : insAt 80 18 = some (.aload_n 0, 1, (0, 0, 0, 0), 0) := rfl
theorem s80_18 {c : Nat → List AV → SS → Option Out} {l1 l2 l3 l4 : Option AV} {o : OId} {L2 : List (Nat × AV)} {St : List AV} {S : SS} : ev c 80 18 [some (aR o), l1, l2, l3, l4] L2 St S = ev c 80 19 [some (aR o), l1, l2, l3, l4] L2 (aR o :: St) S := ev_go i80_18 rfl
theorem i80_19 : insAt 80 19 = some (.getfield 25, 3, (7, 4, 0, 0), 0) := rfl
theorem s80_19 {c : Nat → List AV → SS → Option Out} {l0 l1 l2 l3 l4 : Option AV} {j t : Nat} {L2 : List (Nat × AV)} {St : List AV} {S : SS} : ev c 80 19 [l0, l1, l2, l3, l4] L2 (aR (7, j, t) :: St) S = ev c 80 22 [l0, l1, l2, l3, l4] L2 (S.2.2.1 (7, j, t) 4 :: St) S := ev_go i80_19 rfl
theorem i80_22 : insAt 80 22 = some (.iload_n 1, 1, (0, 0, 0, 0), 0) := rfl
theorem s80_22 {c : Nat → List AV → SS → Option Out} {l0 l2 l3 l4 : Option AV} {x : Int32} {L2 : List (Nat × AV)} {St : List AV} {S : SS} : ev c 80 22 [l0, some (aI x), l2, l3, l4] L2 St S = ev c 80 23 [l0, some (aI x), l2, l3, l4] L2 (aI x :: St) S := ev_go i80_22 rfl
theorem i80_23 : insAt 80 23 = some (.iload 4, 2, (0, 0, 0, 0), 0) := rfl
theorem s80_23 {c : Nat → List AV → SS → Option Out} {l0 l1 l2 l3 : Option AV} {x : Int32} {L2 : List (Nat × AV)} {St : List AV} {S : SS} : ev c 80 23 [l0, l1, l2, l3, some (aI x)] L2 St S = ev c 80 25 [l0, l1, l2, l3, some (aI x)] L2 (aI x :: St) S := ev_go i80_23 rfl
theorem i80_25 : insAt 80 25 = some (.invokestatic 34, 3, (36, 3, 1, 0), 0) := rfl
theorem s80_25 {c : Nat → List AV → SS → Option Out} {l0 l1 l2 l3 l4 : Option AV} {a0 : OId} {a1 : Int32} {a2 : Int32} {L2 : List (Nat × AV)} {S : SS} : ev c 80 25 [l0, l1, l2, l3, l4] L2 [aI a2, aI a1, aR a0] S = ck (c 36 [aR a0, aI a1, aI a2] S) (fun v S' => ev c 80 28 [l0, l1, l2, l3, l4] L2 (v.toList ++ []) S') := ev_call i80_25 rfl
theorem i80_28 : insAt 80 28 = some (.return_, 1, (0, 0, 0, 0), 0) := rfl
theorem s80_28 {c : Nat → List AV → SS → Option Out} {l0 l1 l2 l3 l4 : Option AV} {L2 : List (Nat × AV)} {St : List AV} {S : SS} : ev c 80 28 [l0, l1, l2, l3, l4] L2 [] S = some (.inl none, S) := ev_end i80_28 rfl
theorem m80 {d : Nat} {o : OId} {a0 : Int32} {a1 : Int32} {a2 : Int32} {a3 : Int32} {S : SS} : evm (d + 1) 80 [aR o, aI a0, aI a1, aI a2, aI a3] S = ev (evm d) 80 0 [some (aR o), some (aI a0), some (aI a1), some (aI a2), some (aI a3)] [] [] S := evm_s (n := 5) rfl (Nat.le_of_ble_eq_true rfl) rfl rfl
/-! FrequencyOffice$Books.append(IIIZ)I -/
theorem i81_0 : insAt 81 0 = some (.aload_n 0, 1, (0, 0, 0, 0), 0) := rfl
theorem s81_0 {c : Nat → List AV → SS → Option Out} {l1 l2 l3 l4 l5 l6 : Option AV} {o : OId} {L2 : List (Nat × AV)} {St : List AV} {S : SS} : ev c 81 0 [some (aR o), l1, l2, l3, l4, l5, l6] L2 St S = ev c 81 1 [some (aR o), l1, l2, l3, l4, l5, l6] L2 (aR o :: St) S := ev_go i81_0 rfl
theorem i81_1 : insAt 81 1 = some (.getfield 33, 3, (4, 7, 0, 0), 0) := rfl
theorem s81_1 {c : Nat → List AV → SS → Option Out} {l0 l1 l2 l3 l4 l5 l6 : Option AV} {j t : Nat} {L2 : List (Nat × AV)} {St : List AV} {S : SS} : ev c 81 1 [l0, l1, l2, l3, l4, l5, l6] L2 (aR (4, j, t) :: St) S = ev c 81 4 [l0, l1, l2, l3, l4, l5, l6] L2 (aI (S.1 (4, j, t) 7) :: St) S := ev_go i81_1 rfl
theorem i81_4 : insAt 81 4 = some (.istore 5, 2, (0, 0, 0, 0), 0) := rfl
theorem s81_4 {c : Nat → List AV → SS → Option Out} {l0 l1 l2 l3 l4 l5 l6 : Option AV} {x : Int32} {L2 : List (Nat × AV)} {St : List AV} {S : SS} : ev c 81 4 [l0, l1, l2, l3, l4, l5, l6] L2 (aI x :: St) S = ev c 81 6 [l0, l1, l2, l3, l4, some (aI x), l6] (kil L2 5) St S := ev_go i81_4 rfl
theorem i81_6 : insAt 81 6 = some (.aload_n 0, 1, (0, 0, 0, 0), 0) := rfl
theorem s81_6 {c : Nat → List AV → SS → Option Out} {l1 l2 l3 l4 l5 l6 : Option AV} {o : OId} {L2 : List (Nat × AV)} {St : List AV} {S : SS} : ev c 81 6 [some (aR o), l1, l2, l3, l4, l5, l6] L2 St S = ev c 81 7 [some (aR o), l1, l2, l3, l4, l5, l6] L2 (aR o :: St) S := ev_go i81_6 rfl
theorem i81_7 : insAt 81 7 = some (.dup, 1, (0, 0, 0, 0), 0) := rfl
theorem s81_7 {c : Nat → List AV → SS → Option Out} {l0 l1 l2 l3 l4 l5 l6 : Option AV} {x : OId} {L2 : List (Nat × AV)} {St : List AV} {S : SS} : ev c 81 7 [l0, l1, l2, l3, l4, l5, l6] L2 (aR x :: St) S = ev c 81 8 [l0, l1, l2, l3, l4, l5, l6] L2 (aR x :: aR x :: St) S := ev_go i81_7 rfl
theorem i81_8 : insAt 81 8 = some (.getfield 24, 3, (4, 4, 0, 0), 0) := rfl
theorem s81_8 {c : Nat → List AV → SS → Option Out} {l0 l1 l2 l3 l4 l5 l6 : Option AV} {j t : Nat} {L2 : List (Nat × AV)} {St : List AV} {S : SS} : ev c 81 8 [l0, l1, l2, l3, l4, l5, l6] L2 (aR (4, j, t) :: St) S = ev c 81 11 [l0, l1, l2, l3, l4, l5, l6] L2 (aI (S.1 (4, j, t) 4) :: St) S := ev_go i81_8 rfl
theorem i81_11 : insAt 81 11 = some (.iconst 1, 1, (0, 0, 0, 0), 0) := rfl
theorem s81_11 {c : Nat → List AV → SS → Option Out} {l0 l1 l2 l3 l4 l5 l6 : Option AV} {L2 : List (Nat × AV)} {St : List AV} {S : SS} : ev c 81 11 [l0, l1, l2, l3, l4, l5, l6] L2 St S = ev c 81 12 [l0, l1, l2, l3, l4, l5, l6] L2 (aI 1 :: St) S := ev_go i81_11 rfl
theorem i81_12 : insAt 81 12 = some (.iadd, 1, (0, 0, 0, 0), 0) := rfl
theorem s81_12 {c : Nat → List AV → SS → Option Out} {l0 l1 l2 l3 l4 l5 l6 : Option AV} {x y : Int32} {L2 : List (Nat × AV)} {St : List AV} {S : SS} : ev c 81 12 [l0, l1, l2, l3, l4, l5, l6] L2 (aI y :: aI x :: St) S = ev c 81 13 [l0, l1, l2, l3, l4, l5, l6] L2 (aI (x + y) :: St) S := ev_go i81_12 rfl
theorem i81_13 : insAt 81 13 = some (.putfield 24, 3, (4, 4, 0, 0), 0) := rfl
theorem s81_13 {c : Nat → List AV → SS → Option Out} {l0 l1 l2 l3 l4 l5 l6 : Option AV} {j t : Nat} {x : Int32} {L2 : List (Nat × AV)} {St : List AV} {S : SS} : ev c 81 13 [l0, l1, l2, l3, l4, l5, l6] L2 (aI x :: aR (4, j, t) :: St) S = ev c 81 16 [l0, l1, l2, l3, l4, l5, l6] L2 St (setI S.1 (4, j, t) 4 x, S.2) := ev_go i81_13 rfl
theorem i81_16 : insAt 81 16 = some (.aload_n 0, 1, (0, 0, 0, 0), 0) := rfl
theorem s81_16 {c : Nat → List AV → SS → Option Out} {l1 l2 l3 l4 l5 l6 : Option AV} {o : OId} {L2 : List (Nat × AV)} {St : List AV} {S : SS} : ev c 81 16 [some (aR o), l1, l2, l3, l4, l5, l6] L2 St S = ev c 81 17 [some (aR o), l1, l2, l3, l4, l5, l6] L2 (aR o :: St) S := ev_go i81_16 rfl
theorem i81_17 : insAt 81 17 = some (.iload 5, 2, (0, 0, 0, 0), 0) := rfl
theorem s81_17 {c : Nat → List AV → SS → Option Out} {l0 l1 l2 l3 l4 l6 : Option AV} {x : Int32} {L2 : List (Nat × AV)} {St : List AV} {S : SS} : ev c 81 17 [l0, l1, l2, l3, l4, some (aI x), l6] L2 St S = ev c 81 19 [l0, l1, l2, l3, l4, some (aI x), l6] L2 (aI x :: St) S := ev_go i81_17 rfl
theorem i81_19 : insAt 81 19 = some (.invokevirtual 58, 3, (17, 1, 2, 4), 0) := rfl
theorem s81_19 {c : Nat → List AV → SS → Option Out} {l0 l1 l2 l3 l4 l5 l6 : Option AV} {a0 : Int32} {j t : Nat} {L2 : List (Nat × AV)} {S : SS} : ev c 81 19 [l0, l1, l2, l3, l4, l5, l6] L2 [aI a0, aR (4, j, t)] S = ck (c 17 [aR (4, j, t), aI a0] S) (fun v S' => ev c 81 22 [l0, l1, l2, l3, l4, l5, l6] L2 (v.toList ++ []) S') := ev_call i81_19 rfl
theorem i81_22 : insAt 81 22 = some (.astore 6, 2, (0, 0, 0, 0), 0) := rfl
theorem s81_22 {c : Nat → List AV → SS → Option Out} {l0 l1 l2 l3 l4 l5 l6 : Option AV} {o : OId} {L2 : List (Nat × AV)} {St : List AV} {S : SS} : ev c 81 22 [l0, l1, l2, l3, l4, l5, l6] L2 (aR o :: St) S = ev c 81 24 [l0, l1, l2, l3, l4, l5, some (aR o)] (kil L2 6) St S := ev_go i81_22 rfl
theorem i81_24 : insAt 81 24 = some (.aload 6, 2, (0, 0, 0, 0), 0) := rfl
theorem s81_24 {c : Nat → List AV → SS → Option Out} {l0 l1 l2 l3 l4 l5 : Option AV} {o : OId} {L2 : List (Nat × AV)} {St : List AV} {S : SS} : ev c 81 24 [l0, l1, l2, l3, l4, l5, some (aR o)] L2 St S = ev c 81 26 [l0, l1, l2, l3, l4, l5, some (aR o)] L2 (aR o :: St) S := ev_go i81_24 rfl
theorem i81_26 : insAt 81 26 = some (.aload_n 0, 1, (0, 0, 0, 0), 0) := rfl
theorem s81_26 {c : Nat → List AV → SS → Option Out} {l1 l2 l3 l4 l5 l6 : Option AV} {o : OId} {L2 : List (Nat × AV)} {St : List AV} {S : SS} : ev c 81 26 [some (aR o), l1, l2, l3, l4, l5, l6] L2 St S = ev c 81 27 [some (aR o), l1, l2, l3, l4, l5, l6] L2 (aR o :: St) S := ev_go i81_26 rfl
theorem i81_27 : insAt 81 27 = some (.getfield 24, 3, (4, 4, 0, 0), 0) := rfl
theorem s81_27 {c : Nat → List AV → SS → Option Out} {l0 l1 l2 l3 l4 l5 l6 : Option AV} {j t : Nat} {L2 : List (Nat × AV)} {St : List AV} {S : SS} : ev c 81 27 [l0, l1, l2, l3, l4, l5, l6] L2 (aR (4, j, t) :: St) S = ev c 81 30 [l0, l1, l2, l3, l4, l5, l6] L2 (aI (S.1 (4, j, t) 4) :: St) S := ev_go i81_27 rfl
theorem i81_30 : insAt 81 30 = some (.putfield 75, 3, (10, 0, 1, 0), 0) := rfl
theorem s81_30 {c : Nat → List AV → SS → Option Out} {l0 l1 l2 l3 l4 l5 l6 : Option AV} {j t : Nat} {x : Int32} {L2 : List (Nat × AV)} {St : List AV} {S : SS} : ev c 81 30 [l0, l1, l2, l3, l4, l5, l6] L2 (aI x :: aR (10, j, t) :: St) S = ev c 81 33 [l0, l1, l2, l3, l4, l5, l6] L2 St (setI S.1 (10, j, t) 0 x, S.2) := ev_go i81_30 rfl
theorem i81_33 : insAt 81 33 = some (.aload 6, 2, (0, 0, 0, 0), 0) := rfl
theorem s81_33 {c : Nat → List AV → SS → Option Out} {l0 l1 l2 l3 l4 l5 : Option AV} {o : OId} {L2 : List (Nat × AV)} {St : List AV} {S : SS} : ev c 81 33 [l0, l1, l2, l3, l4, l5, some (aR o)] L2 St S = ev c 81 35 [l0, l1, l2, l3, l4, l5, some (aR o)] L2 (aR o :: St) S := ev_go i81_33 rfl
theorem i81_35 : insAt 81 35 = some (.iload_n 1, 1, (0, 0, 0, 0), 0) := rfl
theorem s81_35 {c : Nat → List AV → SS → Option Out} {l0 l2 l3 l4 l5 l6 : Option AV} {x : Int32} {L2 : List (Nat × AV)} {St : List AV} {S : SS} : ev c 81 35 [l0, some (aI x), l2, l3, l4, l5, l6] L2 St S = ev c 81 36 [l0, some (aI x), l2, l3, l4, l5, l6] L2 (aI x :: St) S := ev_go i81_35 rfl
theorem i81_36 : insAt 81 36 = some (.putfield 78, 3, (10, 1, 1, 0), 0) := rfl
theorem s81_36 {c : Nat → List AV → SS → Option Out} {l0 l1 l2 l3 l4 l5 l6 : Option AV} {j t : Nat} {x : Int32} {L2 : List (Nat × AV)} {St : List AV} {S : SS} : ev c 81 36 [l0, l1, l2, l3, l4, l5, l6] L2 (aI x :: aR (10, j, t) :: St) S = ev c 81 39 [l0, l1, l2, l3, l4, l5, l6] L2 St (setI S.1 (10, j, t) 1 x, S.2) := ev_go i81_36 rfl
theorem i81_39 : insAt 81 39 = some (.aload 6, 2, (0, 0, 0, 0), 0) := rfl
theorem s81_39 {c : Nat → List AV → SS → Option Out} {l0 l1 l2 l3 l4 l5 : Option AV} {o : OId} {L2 : List (Nat × AV)} {St : List AV} {S : SS} : ev c 81 39 [l0, l1, l2, l3, l4, l5, some (aR o)] L2 St S = ev c 81 41 [l0, l1, l2, l3, l4, l5, some (aR o)] L2 (aR o :: St) S := ev_go i81_39 rfl
theorem i81_41 : insAt 81 41 = some (.iload_n 2, 1, (0, 0, 0, 0), 0) := rfl
theorem s81_41 {c : Nat → List AV → SS → Option Out} {l0 l1 l3 l4 l5 l6 : Option AV} {x : Int32} {L2 : List (Nat × AV)} {St : List AV} {S : SS} : ev c 81 41 [l0, l1, some (aI x), l3, l4, l5, l6] L2 St S = ev c 81 42 [l0, l1, some (aI x), l3, l4, l5, l6] L2 (aI x :: St) S := ev_go i81_41 rfl
theorem i81_42 : insAt 81 42 = some (.putfield 81, 3, (10, 2, 1, 0), 0) := rfl
theorem s81_42 {c : Nat → List AV → SS → Option Out} {l0 l1 l2 l3 l4 l5 l6 : Option AV} {j t : Nat} {x : Int32} {L2 : List (Nat × AV)} {St : List AV} {S : SS} : ev c 81 42 [l0, l1, l2, l3, l4, l5, l6] L2 (aI x :: aR (10, j, t) :: St) S = ev c 81 45 [l0, l1, l2, l3, l4, l5, l6] L2 St (setI S.1 (10, j, t) 2 x, S.2) := ev_go i81_42 rfl
theorem i81_45 : insAt 81 45 = some (.aload 6, 2, (0, 0, 0, 0), 0) := rfl
theorem s81_45 {c : Nat → List AV → SS → Option Out} {l0 l1 l2 l3 l4 l5 : Option AV} {o : OId} {L2 : List (Nat × AV)} {St : List AV} {S : SS} : ev c 81 45 [l0, l1, l2, l3, l4, l5, some (aR o)] L2 St S = ev c 81 47 [l0, l1, l2, l3, l4, l5, some (aR o)] L2 (aR o :: St) S := ev_go i81_45 rfl
theorem i81_47 : insAt 81 47 = some (.iload_n 3, 1, (0, 0, 0, 0), 0) := rfl
theorem s81_47 {c : Nat → List AV → SS → Option Out} {l0 l1 l2 l4 l5 l6 : Option AV} {x : Int32} {L2 : List (Nat × AV)} {St : List AV} {S : SS} : ev c 81 47 [l0, l1, l2, some (aI x), l4, l5, l6] L2 St S = ev c 81 48 [l0, l1, l2, some (aI x), l4, l5, l6] L2 (aI x :: St) S := ev_go i81_47 rfl
theorem i81_48 : insAt 81 48 = some (.putfield 84, 3, (10, 4, 1, 0), 0) := rfl
theorem s81_48 {c : Nat → List AV → SS → Option Out} {l0 l1 l2 l3 l4 l5 l6 : Option AV} {j t : Nat} {x : Int32} {L2 : List (Nat × AV)} {St : List AV} {S : SS} : ev c 81 48 [l0, l1, l2, l3, l4, l5, l6] L2 (aI x :: aR (10, j, t) :: St) S = ev c 81 51 [l0, l1, l2, l3, l4, l5, l6] L2 St (setI S.1 (10, j, t) 4 x, S.2) := ev_go i81_48 rfl
theorem i81_51 : insAt 81 51 = some (.aload 6, 2, (0, 0, 0, 0), 0) := rfl
theorem s81_51 {c : Nat → List AV → SS → Option Out} {l0 l1 l2 l3 l4 l5 : Option AV} {o : OId} {L2 : List (Nat × AV)} {St : List AV} {S : SS} : ev c 81 51 [l0, l1, l2, l3, l4, l5, some (aR o)] L2 St S = ev c 81 53 [l0, l1, l2, l3, l4, l5, some (aR o)] L2 (aR o :: St) S := ev_go i81_51 rfl
theorem i81_53 : insAt 81 53 = some (.iload 4, 2, (0, 0, 0, 0), 0) := rfl
theorem s81_53 {c : Nat → List AV → SS → Option Out} {l0 l1 l2 l3 l5 l6 : Option AV} {x : Int32} {L2 : List (Nat × AV)} {St : List AV} {S : SS} : ev c 81 53 [l0, l1, l2, l3, some (aI x), l5, l6] L2 St S = ev c 81 55 [l0, l1, l2, l3, some (aI x), l5, l6] L2 (aI x :: St) S := ev_go i81_53 rfl
theorem i81_55 : insAt 81 55 = some (.putfield 87, 3, (10, 5, 1, 0), 0) := rfl
theorem s81_55 {c : Nat → List AV → SS → Option Out} {l0 l1 l2 l3 l4 l5 l6 : Option AV} {j t : Nat} {x : Int32} {L2 : List (Nat × AV)} {St : List AV} {S : SS} : ev c 81 55 [l0, l1, l2, l3, l4, l5, l6] L2 (aI x :: aR (10, j, t) :: St) S = if x = 0 ∨ x = 1 then ev c 81 58 [l0, l1, l2, l3, l4, l5, l6] L2 St (setI S.1 (10, j, t) 5 x, S.2) else none := ev_if i81_55 rfl
theorem i81_58 : insAt 81 58 = some (.aload_n 0, 1, (0, 0, 0, 0), 0) := rfl
theorem s81_58 {c : Nat → List AV → SS → Option Out} {l1 l2 l3 l4 l5 l6 : Option AV} {o : OId} {L2 : List (Nat × AV)} {St : List AV} {S : SS} : ev c 81 58 [some (aR o), l1, l2, l3, l4, l5, l6] L2 St S = ev c 81 59 [some (aR o), l1, l2, l3, l4, l5, l6] L2 (aR o :: St) S := ev_go i81_58 rfl
theorem i81_59 : insAt 81 59 = some (.dup, 1, (0, 0, 0, 0), 0) := rfl
theorem s81_59 {c : Nat → List AV → SS → Option Out} {l0 l1 l2 l3 l4 l5 l6 : Option AV} {x : OId} {L2 : List (Nat × AV)} {St : List AV} {S : SS} : ev c 81 59 [l0, l1, l2, l3, l4, l5, l6] L2 (aR x :: St) S = ev c 81 60 [l0, l1, l2, l3, l4, l5, l6] L2 (aR x :: aR x :: St) S := ev_go i81_59 rfl
theorem i81_60 : insAt 81 60 = some (.getfield 33, 3, (4, 7, 0, 0), 0) := rfl
theorem s81_60 {c : Nat → List AV → SS → Option Out} {l0 l1 l2 l3 l4 l5 l6 : Option AV} {j t : Nat} {L2 : List (Nat × AV)} {St : List AV} {S : SS} : ev c 81 60 [l0, l1, l2, l3, l4, l5, l6] L2 (aR (4, j, t) :: St) S = ev c 81 63 [l0, l1, l2, l3, l4, l5, l6] L2 (aI (S.1 (4, j, t) 7) :: St) S := ev_go i81_60 rfl
theorem i81_63 : insAt 81 63 = some (.iconst 1, 1, (0, 0, 0, 0), 0) := rfl
theorem s81_63 {c : Nat → List AV → SS → Option Out} {l0 l1 l2 l3 l4 l5 l6 : Option AV} {L2 : List (Nat × AV)} {St : List AV} {S : SS} : ev c 81 63 [l0, l1, l2, l3, l4, l5, l6] L2 St S = ev c 81 64 [l0, l1, l2, l3, l4, l5, l6] L2 (aI 1 :: St) S := ev_go i81_63 rfl
theorem i81_64 : insAt 81 64 = some (.iadd, 1, (0, 0, 0, 0), 0) := rfl
theorem s81_64 {c : Nat → List AV → SS → Option Out} {l0 l1 l2 l3 l4 l5 l6 : Option AV} {x y : Int32} {L2 : List (Nat × AV)} {St : List AV} {S : SS} : ev c 81 64 [l0, l1, l2, l3, l4, l5, l6] L2 (aI y :: aI x :: St) S = ev c 81 65 [l0, l1, l2, l3, l4, l5, l6] L2 (aI (x + y) :: St) S := ev_go i81_64 rfl
theorem i81_65 : insAt 81 65 = some (.putfield 33, 3, (4, 7, 0, 0), 0) := rfl
theorem s81_65 {c : Nat → List AV → SS → Option Out} {l0 l1 l2 l3 l4 l5 l6 : Option AV} {j t : Nat} {x : Int32} {L2 : List (Nat × AV)} {St : List AV} {S : SS} : ev c 81 65 [l0, l1, l2, l3, l4, l5, l6] L2 (aI x :: aR (4, j, t) :: St) S = ev c 81 68 [l0, l1, l2, l3, l4, l5, l6] L2 St (setI S.1 (4, j, t) 7 x, S.2) := ev_go i81_65 rfl
theorem i81_68 : insAt 81 68 = some (.iload 5, 2, (0, 0, 0, 0), 0) := rfl
theorem s81_68 {c : Nat → List AV → SS → Option Out} {l0 l1 l2 l3 l4 l6 : Option AV} {x : Int32} {L2 : List (Nat × AV)} {St : List AV} {S : SS} : ev c 81 68 [l0, l1, l2, l3, l4, some (aI x), l6] L2 St S = ev c 81 70 [l0, l1, l2, l3, l4, some (aI x), l6] L2 (aI x :: St) S := ev_go i81_68 rfl
theorem i81_70 : insAt 81 70 = some (.ireturn, 1, (0, 0, 0, 0), 0) := rfl
theorem s81_70 {c : Nat → List AV → SS → Option Out} {l0 l1 l2 l3 l4 l5 l6 : Option AV} {x : Int32} {L2 : List (Nat × AV)} {St : List AV} {S : SS} : ev c 81 70 [l0, l1, l2, l3, l4, l5, l6] L2 [aI x] S = some (.inl (some (aI x)), S) := ev_end i81_70 rfl
theorem m81 {d : Nat} {o : OId} {a0 : Int32} {a1 : Int32} {a2 : Int32} {a3 : Int32} {S : SS} : evm (d + 1) 81 [aR o, aI a0, aI a1, aI a2, aI a3] S = ev (evm d) 81 0 [some (aR o), some (aI a0), some (aI a1), some (aI a2), some (aI a3), none, none] [] [] S := evm_s (n := 7) rfl (Nat.le_of_ble_eq_true rfl) rfl rfl
/-! FrequencyOffice$Books.carryOut(LFrequencyOffice$Plan;I)V -/
theorem i82_0 : insAt 82 0 = some (.iconst 0, 1, (0, 0, 0, 0), 0) := rfl
theorem s82_0 {c : Nat → List AV → SS → Option Out} {l0 l1 l2 l3 : Option AV} {L2 : List (Nat × AV)} {St : List AV} {S : SS} : ev c 82 0 [l0, l1, l2, l3] L2 St S = ev c 82 1 [l0, l1, l2, l3] L2 (aI 0 :: St) S := ev_go i82_0 rfl
theorem i82_1 : insAt 82 1 = some (.istore_n 3, 1, (0, 0, 0, 0), 0) := rfl
theorem s82_1 {c : Nat → List AV → SS → Option Out} {l0 l1 l2 l3 : Option AV} {x : Int32} {L2 : List (Nat × AV)} {St : List AV} {S : SS} : ev c 82 1 [l0, l1, l2, l3] L2 (aI x :: St) S = ev c 82 2 [l0, l1, l2, some (aI x)] (kil L2 3) St S := ev_go i82_1 rfl
theorem i82_2 : insAt 82 2 = some (.iload_n 3, 1, (0, 0, 0, 0), 0) := rfl
theorem s82_2 {c : Nat → List AV → SS → Option Out} {l0 l1 l2 : Option AV} {x : Int32} {L2 : List (Nat × AV)} {St : List AV} {S : SS} : ev c 82 2 [l0, l1, l2, some (aI x)] L2 St S = ev c 82 3 [l0, l1, l2, some (aI x)] L2 (aI x :: St) S := ev_go i82_2 rfl
theorem i82_3 : insAt 82 3 = some (.aload_n 1, 1, (0, 0, 0, 0), 0) := rfl
theorem s82_3 {c : Nat → List AV → SS → Option Out} {l0 l2 l3 : Option AV} {o : OId} {L2 : List (Nat × AV)} {St : List AV} {S : SS} : ev c 82 3 [l0, some (aR o), l2, l3] L2 St S = ev c 82 4 [l0, some (aR o), l2, l3] L2 (aR o :: St) S := ev_go i82_3 rfl
theorem i82_4 : insAt 82 4 = some (.getfield 151, 3, (7, 0, 1, 0), 0) := rfl
theorem s82_4 {c : Nat → List AV → SS → Option Out} {l0 l1 l2 l3 : Option AV} {j t : Nat} {L2 : List (Nat × AV)} {St : List AV} {S : SS} : ev c 82 4 [l0, l1, l2, l3] L2 (aR (7, j, t) :: St) S = ev c 82 7 [l0, l1, l2, l3] L2 (aI (S.1 (7, j, t) 0) :: St) S := ev_go i82_4 rfl
theorem i82_7 : insAt 82 7 = some (.if_icmp .ge 36, 3, (0, 0, 0, 0), 0) := rfl
theorem s82_7 {c : Nat → List AV → SS → Option Out} {l0 l1 l2 l3 : Option AV} {x y : Int32} {L2 : List (Nat × AV)} {St : List AV} {S : SS} : ev c 82 7 [l0, l1, l2, l3] L2 (aI y :: aI x :: St) S = if y ≤ x then ev c 82 43 [l0, l1, l2, l3] L2 St S else ev c 82 10 [l0, l1, l2, l3] L2 St S := ev_br i82_7 rfl
theorem i82_10 : insAt 82 10 = some (.aload_n 0, 1, (0, 0, 0, 0), 0) := rfl
theorem s82_10 {c : Nat → List AV → SS → Option Out} {l1 l2 l3 : Option AV} {o : OId} {L2 : List (Nat × AV)} {St : List AV} {S : SS} : ev c 82 10 [some (aR o), l1, l2, l3] L2 St S = ev c 82 11 [some (aR o), l1, l2, l3] L2 (aR o :: St) S := ev_go i82_10 rfl
theorem i82_11 : insAt 82 11 = some (.aload_n 0, 1, (0, 0, 0, 0), 0) := rfl
theorem s82_11 {c : Nat → List AV → SS → Option Out} {l1 l2 l3 : Option AV} {o : OId} {L2 : List (Nat × AV)} {St : List AV} {S : SS} : ev c 82 11 [some (aR o), l1, l2, l3] L2 St S = ev c 82 12 [some (aR o), l1, l2, l3] L2 (aR o :: St) S := ev_go i82_11 rfl
theorem i82_12 : insAt 82 12 = some (.aload_n 1, 1, (0, 0, 0, 0), 0) := rfl
theorem s82_12 {c : Nat → List AV → SS → Option Out} {l0 l2 l3 : Option AV} {o : OId} {L2 : List (Nat × AV)} {St : List AV} {S : SS} : ev c 82 12 [l0, some (aR o), l2, l3] L2 St S = ev c 82 13 [l0, some (aR o), l2, l3] L2 (aR o :: St) S := ev_go i82_12 rfl
theorem i82_13 : insAt 82 13 = some (.getfield 154, 3, (7, 2, 1, 0), 0) := rfl
theorem s82_13 {c : Nat → List AV → SS → Option Out} {l0 l1 l2 l3 : Option AV} {j t : Nat} {L2 : List (Nat × AV)} {St : List AV} {S : SS} : ev c 82 13 [l0, l1, l2, l3] L2 (aR (7, j, t) :: St) S = ev c 82 16 [l0, l1, l2, l3] L2 (S.2.2.1 (7, j, t) 2 :: St) S := ev_go i82_13 rfl
theorem i82_16 : insAt 82 16 = some (.iload_n 3, 1, (0, 0, 0, 0), 0) := rfl
theorem s82_16 {c : Nat → List AV → SS → Option Out} {l0 l1 l2 : Option AV} {x : Int32} {L2 : List (Nat × AV)} {St : List AV} {S : SS} : ev c 82 16 [l0, l1, l2, some (aI x)] L2 St S = ev c 82 17 [l0, l1, l2, some (aI x)] L2 (aI x :: St) S := ev_go i82_16 rfl
theorem i82_17 : insAt 82 17 = some (.invokestatic 119, 3, (32, 2, 1, 0), 0) := rfl
theorem s82_17 {c : Nat → List AV → SS → Option Out} {l0 l1 l2 l3 : Option AV} {t0 t1 : AV} {a0 : OId} {a1 : Int32} {L2 : List (Nat × AV)} {S : SS} : ev c 82 17 [l0, l1, l2, l3] L2 [aI a1, aR a0, t0, t1] S = ck (c 32 [aR a0, aI a1] S) (fun v S' => ev c 82 20 [l0, l1, l2, l3] L2 (v.toList ++ [t0, t1]) S') := ev_call i82_17 rfl
theorem i82_20 : insAt 82 20 = some (.invokevirtual 157, 3, (19, 1, 2, 4), 0) := rfl
theorem s82_20 {c : Nat → List AV → SS → Option Out} {l0 l1 l2 l3 : Option AV} {t0 : AV} {a0 : Int32} {j t : Nat} {L2 : List (Nat × AV)} {S : SS} : ev c 82 20 [l0, l1, l2, l3] L2 [aI a0, aR (4, j, t), t0] S = ck (c 19 [aR (4, j, t), aI a0] S) (fun v S' => ev c 82 23 [l0, l1, l2, l3] L2 (v.toList ++ [t0]) S') := ev_call i82_20 rfl
theorem i82_23 : insAt 82 23 = some (.invokevirtual 58, 3, (17, 1, 2, 4), 0) := rfl
theorem s82_23 {c : Nat → List AV → SS → Option Out} {l0 l1 l2 l3 : Option AV} {a0 : Int32} {j t : Nat} {L2 : List (Nat × AV)} {S : SS} : ev c 82 23 [l0, l1, l2, l3] L2 [aI a0, aR (4, j, t)] S = ck (c 17 [aR (4, j, t), aI a0] S) (fun v S' => ev c 82 26 [l0, l1, l2, l3] L2 (v.toList ++ []) S') := ev_call i82_23 rfl
theorem i82_26 : insAt 82 26 = some (.aload_n 1, 1, (0, 0, 0, 0), 0) := rfl
theorem s82_26 {c : Nat → List AV → SS → Option Out} {l0 l2 l3 : Option AV} {o : OId} {L2 : List (Nat × AV)} {St : List AV} {S : SS} : ev c 82 26 [l0, some (aR o), l2, l3] L2 St S = ev c 82 27 [l0, some (aR o), l2, l3] L2 (aR o :: St) S := ev_go i82_26 rfl
theorem i82_27 : insAt 82 27 = some (.getfield 160, 3, (7, 4, 1, 0), 0) := rfl
theorem s82_27 {c : Nat → List AV → SS → Option Out} {l0 l1 l2 l3 : Option AV} {j t : Nat} {L2 : List (Nat × AV)} {St : List AV} {S : SS} : ev c 82 27 [l0, l1, l2, l3] L2 (aR (7, j, t) :: St) S = ev c 82 30 [l0, l1, l2, l3] L2 (S.2.2.1 (7, j, t) 4 :: St) S := ev_go i82_27 rfl
theorem i82_30 : insAt 82 30 = some (.iload_n 3, 1, (0, 0, 0, 0), 0) := rfl
theorem s82_30 {c : Nat → List AV → SS → Option Out} {l0 l1 l2 : Option AV} {x : Int32} {L2 : List (Nat × AV)} {St : List AV} {S : SS} : ev c 82 30 [l0, l1, l2, some (aI x)] L2 St S = ev c 82 31 [l0, l1, l2, some (aI x)] L2 (aI x :: St) S := ev_go i82_30 rfl
theorem i82_31 : insAt 82 31 = some (.invokestatic 119, 3, (32, 2, 1, 0), 0) := rfl
theorem s82_31 {c : Nat → List AV → SS → Option Out} {l0 l1 l2 l3 : Option AV} {t0 : AV} {a0 : OId} {a1 : Int32} {L2 : List (Nat × AV)} {S : SS} : ev c 82 31 [l0, l1, l2, l3] L2 [aI a1, aR a0, t0] S = ck (c 32 [aR a0, aI a1] S) (fun v S' => ev c 82 34 [l0, l1, l2, l3] L2 (v.toList ++ [t0]) S') := ev_call i82_31 rfl
theorem i82_34 : insAt 82 34 = some (.putfield 126, 3, (10, 3, 1, 0), 0) := rfl
theorem s82_34 {c : Nat → List AV → SS → Option Out} {l0 l1 l2 l3 : Option AV} {j t : Nat} {x : Int32} {L2 : List (Nat × AV)} {St : List AV} {S : SS} : ev c 82 34 [l0, l1, l2, l3] L2 (aI x :: aR (10, j, t) :: St) S = ev c 82 37 [l0, l1, l2, l3] L2 St (setI S.1 (10, j, t) 3 x, S.2) := ev_go i82_34 rfl
theorem i82_37 : insAt 82 37 = some (.iinc 3 1, 3, (0, 0, 0, 0), 0) := rfl
theorem s82_37 {c : Nat → List AV → SS → Option Out} {l0 l1 l2 : Option AV} {x : Int32} {L2 : List (Nat × AV)} {St : List AV} {S : SS} : ev c 82 37 [l0, l1, l2, some (aI x)] L2 St S = ev c 82 40 [l0, l1, l2, some (aI (x + 1))] (kil L2 3) St S := ev_go i82_37 rfl
theorem i82_40 : insAt 82 40 = some (.goto (-38), 3, (0, 0, 0, 0), 0) := rfl
theorem s82_40 {c : Nat → List AV → SS → Option Out} {l0 l1 l2 l3 : Option AV} {L2 : List (Nat × AV)} {St : List AV} {S : SS} : ev c 82 40 [l0, l1, l2, l3] L2 St S = ev c 82 2 [l0, l1, l2, l3] L2 St S := ev_go i82_40 rfl
theorem i82_43 : insAt 82 43 = some (.aload_n 0, 1, (0, 0, 0, 0), 0) := rfl
theorem s82_43 {c : Nat → List AV → SS → Option Out} {l1 l2 l3 : Option AV} {o : OId} {L2 : List (Nat × AV)} {St : List AV} {S : SS} : ev c 82 43 [some (aR o), l1, l2, l3] L2 St S = ev c 82 44 [some (aR o), l1, l2, l3] L2 (aR o :: St) S := ev_go i82_43 rfl
theorem i82_44 : insAt 82 44 = some (.iload_n 2, 1, (0, 0, 0, 0), 0) := rfl
theorem s82_44 {c : Nat → List AV → SS → Option Out} {l0 l1 l3 : Option AV} {x : Int32} {L2 : List (Nat × AV)} {St : List AV} {S : SS} : ev c 82 44 [l0, l1, some (aI x), l3] L2 St S = ev c 82 45 [l0, l1, some (aI x), l3] L2 (aI x :: St) S := ev_go i82_44 rfl
theorem i82_45 : insAt 82 45 = some (.invokevirtual 58, 3, (17, 1, 2, 4), 0) := rfl
theorem s82_45 {c : Nat → List AV → SS → Option Out} {l0 l1 l2 l3 : Option AV} {a0 : Int32} {j t : Nat} {L2 : List (Nat × AV)} {S : SS} : ev c 82 45 [l0, l1, l2, l3] L2 [aI a0, aR (4, j, t)] S = ck (c 17 [aR (4, j, t), aI a0] S) (fun v S' => ev c 82 48 [l0, l1, l2, l3] L2 (v.toList ++ []) S') := ev_call i82_45 rfl
theorem i82_48 : insAt 82 48 = some (.aload_n 1, 1, (0, 0, 0, 0), 0) := rfl
theorem s82_48 {c : Nat → List AV → SS → Option Out} {l0 l2 l3 : Option AV} {o : OId} {L2 : List (Nat × AV)} {St : List AV} {S : SS} : ev c 82 48 [l0, some (aR o), l2, l3] L2 St S = ev c 82 49 [l0, some (aR o), l2, l3] L2 (aR o :: St) S := ev_go i82_48 rfl
theorem i82_49 : insAt 82 49 = some (.getfield 163, 3, (7, 1, 1, 0), 0) := rfl
theorem s82_49 {c : Nat → List AV → SS → Option Out} {l0 l1 l2 l3 : Option AV} {j t : Nat} {L2 : List (Nat × AV)} {St : List AV} {S : SS} : ev c 82 49 [l0, l1, l2, l3] L2 (aR (7, j, t) :: St) S = ev c 82 52 [l0, l1, l2, l3] L2 (aI (S.1 (7, j, t) 1) :: St) S := ev_go i82_49 rfl
theorem i82_52 : insAt 82 52 = some (.putfield 126, 3, (10, 3, 1, 0), 0) := rfl
theorem s82_52 {c : Nat → List AV → SS → Option Out} {l0 l1 l2 l3 : Option AV} {j t : Nat} {x : Int32} {L2 : List (Nat × AV)} {St : List AV} {S : SS} : ev c 82 52 [l0, l1, l2, l3] L2 (aI x :: aR (10, j, t) :: St) S = ev c 82 55 [l0, l1, l2, l3] L2 St (setI S.1 (10, j, t) 3 x, S.2) := ev_go i82_52 rfl
theorem i82_55 : insAt 82 55 = some (.aload_n 0, 1, (0, 0, 0, 0), 0) := rfl
theorem s82_55 {c : Nat → List AV → SS → Option Out} {l1 l2 l3 : Option AV} {o : OId} {L2 : List (Nat × AV)} {St : List AV} {S : SS} : ev c 82 55 [some (aR o), l1, l2, l3] L2 St S = ev c 82 56 [some (aR o), l1, l2, l3] L2 (aR o :: St) S := ev_go i82_55 rfl
theorem i82_56 : insAt 82 56 = some (.getfield 54, 3, (4, 11, 0, 0), 0) := rfl
theorem s82_56 {c : Nat → List AV → SS → Option Out} {l0 l1 l2 l3 : Option AV} {j t : Nat} {L2 : List (Nat × AV)} {St : List AV} {S : SS} : ev c 82 56 [l0, l1, l2, l3] L2 (aR (4, j, t) :: St) S = ev c 82 59 [l0, l1, l2, l3] L2 (S.2.2.1 (4, j, t) 11 :: St) S := ev_go i82_56 rfl
theorem i82_59 : insAt 82 59 = some (.aload_n 1, 1, (0, 0, 0, 0), 0) := rfl
theorem s82_59 {c : Nat → List AV → SS → Option Out} {l0 l2 l3 : Option AV} {o : OId} {L2 : List (Nat × AV)} {St : List AV} {S : SS} : ev c 82 59 [l0, some (aR o), l2, l3] L2 St S = ev c 82 60 [l0, some (aR o), l2, l3] L2 (aR o :: St) S := ev_go i82_59 rfl
theorem i82_60 : insAt 82 60 = some (.invokevirtual 72, 3, (58, 1, 3, 7), 0) := rfl
theorem s82_60 {c : Nat → List AV → SS → Option Out} {l0 l1 l2 l3 : Option AV} {a0 : OId} {j t : Nat} {L2 : List (Nat × AV)} {S : SS} : ev c 82 60 [l0, l1, l2, l3] L2 [aR a0, aR (7, j, t)] S = ck (c 58 [aR (7, j, t), aR a0] S) (fun v S' => ev c 82 63 [l0, l1, l2, l3] L2 (v.toList ++ []) S') := ev_call i82_60 rfl
theorem i82_63 : insAt 82 63 = some (.aload_n 0, 1, (0, 0, 0, 0), 0) := rfl
theorem s82_63 {c : Nat → List AV → SS → Option Out} {l1 l2 l3 : Option AV} {o : OId} {L2 : List (Nat × AV)} {St : List AV} {S : SS} : ev c 82 63 [some (aR o), l1, l2, l3] L2 St S = ev c 82 64 [some (aR o), l1, l2, l3] L2 (aR o :: St) S := ev_go i82_63 rfl
theorem i82_64 : insAt 82 64 = some (.getfield 33, 3, (4, 7, 0, 0), 0) := rfl
theorem s82_64 {c : Nat → List AV → SS → Option Out} {l0 l1 l2 l3 : Option AV} {j t : Nat} {L2 : List (Nat × AV)} {St : List AV} {S : SS} : ev c 82 64 [l0, l1, l2, l3] L2 (aR (4, j, t) :: St) S = ev c 82 67 [l0, l1, l2, l3] L2 (aI (S.1 (4, j, t) 7) :: St) S := ev_go i82_64 rfl
theorem i82_67 : insAt 82 67 = some (.iconst 1, 1, (0, 0, 0, 0), 0) := rfl
theorem s82_67 {c : Nat → List AV → SS → Option Out} {l0 l1 l2 l3 : Option AV} {L2 : List (Nat × AV)} {St : List AV} {S : SS} : ev c 82 67 [l0, l1, l2, l3] L2 St S = ev c 82 68 [l0, l1, l2, l3] L2 (aI 1 :: St) S := ev_go i82_67 rfl
theorem i82_68 : insAt 82 68 = some (.isub, 1, (0, 0, 0, 0), 0) := rfl
theorem s82_68 {c : Nat → List AV → SS → Option Out} {l0 l1 l2 l3 : Option AV} {x y : Int32} {L2 : List (Nat × AV)} {St : List AV} {S : SS} : ev c 82 68 [l0, l1, l2, l3] L2 (aI y :: aI x :: St) S = ev c 82 69 [l0, l1, l2, l3] L2 (aI (x - y) :: St) S := ev_go i82_68 rfl
theorem i82_69 : insAt 82 69 = some (.istore_n 3, 1, (0, 0, 0, 0), 0) := rfl
theorem s82_69 {c : Nat → List AV → SS → Option Out} {l0 l1 l2 l3 : Option AV} {x : Int32} {L2 : List (Nat × AV)} {St : List AV} {S : SS} : ev c 82 69 [l0, l1, l2, l3] L2 (aI x :: St) S = ev c 82 70 [l0, l1, l2, some (aI x)] (kil L2 3) St S := ev_go i82_69 rfl
theorem i82_70 : insAt 82 70 = some (.iload_n 3, 1, (0, 0, 0, 0), 0) := rfl
theorem s82_70 {c : Nat → List AV → SS → Option Out} {l0 l1 l2 : Option AV} {x : Int32} {L2 : List (Nat × AV)} {St : List AV} {S : SS} : ev c 82 70 [l0, l1, l2, some (aI x)] L2 St S = ev c 82 71 [l0, l1, l2, some (aI x)] L2 (aI x :: St) S := ev_go i82_70 rfl
theorem i82_71 : insAt 82 71 = some (.ifCond .lt 43, 3, (0, 0, 0, 0), 0) := rfl
theorem s82_71 {c : Nat → List AV → SS → Option Out} {l0 l1 l2 l3 : Option AV} {x : Int32} {L2 : List (Nat × AV)} {St : List AV} {S : SS} : ev c 82 71 [l0, l1, l2, l3] L2 (aI x :: St) S = if x < 0 then ev c 82 114 [l0, l1, l2, l3] L2 St S else ev c 82 74 [l0, l1, l2, l3] L2 St S := ev_br i82_71 rfl
theorem i82_74 : insAt 82 74 = some (.aload_n 0, 1, (0, 0, 0, 0), 0) := rfl
theorem s82_74 {c : Nat → List AV → SS → Option Out} {l1 l2 l3 : Option AV} {o : OId} {L2 : List (Nat × AV)} {St : List AV} {S : SS} : ev c 82 74 [some (aR o), l1, l2, l3] L2 St S = ev c 82 75 [some (aR o), l1, l2, l3] L2 (aR o :: St) S := ev_go i82_74 rfl
theorem i82_75 : insAt 82 75 = some (.iload_n 3, 1, (0, 0, 0, 0), 0) := rfl
theorem s82_75 {c : Nat → List AV → SS → Option Out} {l0 l1 l2 : Option AV} {x : Int32} {L2 : List (Nat × AV)} {St : List AV} {S : SS} : ev c 82 75 [l0, l1, l2, some (aI x)] L2 St S = ev c 82 76 [l0, l1, l2, some (aI x)] L2 (aI x :: St) S := ev_go i82_75 rfl
theorem i82_76 : insAt 82 76 = some (.invokevirtual 58, 3, (17, 1, 2, 4), 0) := rfl
theorem s82_76 {c : Nat → List AV → SS → Option Out} {l0 l1 l2 l3 : Option AV} {a0 : Int32} {j t : Nat} {L2 : List (Nat × AV)} {S : SS} : ev c 82 76 [l0, l1, l2, l3] L2 [aI a0, aR (4, j, t)] S = ck (c 17 [aR (4, j, t), aI a0] S) (fun v S' => ev c 82 79 [l0, l1, l2, l3] L2 (v.toList ++ []) S') := ev_call i82_76 rfl
theorem i82_79 : insAt 82 79 = some (.getfield 87, 3, (10, 5, 1, 0), 0) := rfl
theorem s82_79 {c : Nat → List AV → SS → Option Out} {l0 l1 l2 l3 : Option AV} {j t : Nat} {L2 : List (Nat × AV)} {St : List AV} {S : SS} : ev c 82 79 [l0, l1, l2, l3] L2 (aR (10, j, t) :: St) S = ev c 82 82 [l0, l1, l2, l3] L2 (aI (bb (S.1 (10, j, t) 5)) :: St) S := ev_go i82_79 rfl
theorem i82_82 : insAt 82 82 = some (.ifCond .eq 26, 3, (0, 0, 0, 0), 0) := rfl
theorem s82_82 {c : Nat → List AV → SS → Option Out} {l0 l1 l2 l3 : Option AV} {x : Int32} {L2 : List (Nat × AV)} {St : List AV} {S : SS} : ev c 82 82 [l0, l1, l2, l3] L2 (aI x :: St) S = if x = 0 then ev c 82 108 [l0, l1, l2, l3] L2 St S else ev c 82 85 [l0, l1, l2, l3] L2 St S := ev_br i82_82 rfl
theorem i82_85 : insAt 82 85 = some (.aload_n 0, 1, (0, 0, 0, 0), 0) := rfl
theorem s82_85 {c : Nat → List AV → SS → Option Out} {l1 l2 l3 : Option AV} {o : OId} {L2 : List (Nat × AV)} {St : List AV} {S : SS} : ev c 82 85 [some (aR o), l1, l2, l3] L2 St S = ev c 82 86 [some (aR o), l1, l2, l3] L2 (aR o :: St) S := ev_go i82_85 rfl
theorem i82_86 : insAt 82 86 = some (.iload_n 3, 1, (0, 0, 0, 0), 0) := rfl
theorem s82_86 {c : Nat → List AV → SS → Option Out} {l0 l1 l2 : Option AV} {x : Int32} {L2 : List (Nat × AV)} {St : List AV} {S : SS} : ev c 82 86 [l0, l1, l2, some (aI x)] L2 St S = ev c 82 87 [l0, l1, l2, some (aI x)] L2 (aI x :: St) S := ev_go i82_86 rfl
theorem i82_87 : insAt 82 87 = some (.invokevirtual 164, 3, (83, 1, 2, 4), 0) := rfl
theorem s82_87 {c : Nat → List AV → SS → Option Out} {l0 l1 l2 l3 : Option AV} {a0 : Int32} {j t : Nat} {L2 : List (Nat × AV)} {S : SS} : ev c 82 87 [l0, l1, l2, l3] L2 [aI a0, aR (4, j, t)] S = ck (c 83 [aR (4, j, t), aI a0] S) (fun v S' => ev c 82 90 [l0, l1, l2, l3] L2 (v.toList ++ []) S') := ev_call i82_87 rfl
theorem i82_90 : insAt 82 90 = some (.ifCond .eq 18, 3, (0, 0, 0, 0), 0) := rfl
theorem s82_90 {c : Nat → List AV → SS → Option Out} {l0 l1 l2 l3 : Option AV} {x : Int32} {L2 : List (Nat × AV)} {St : List AV} {S : SS} : ev c 82 90 [l0, l1, l2, l3] L2 (aI x :: St) S = if x = 0 then ev c 82 108 [l0, l1, l2, l3] L2 St S else ev c 82 93 [l0, l1, l2, l3] L2 St S := ev_br i82_90 rfl
theorem i82_93 : insAt 82 93 = some (.aload_n 0, 1, (0, 0, 0, 0), 0) := rfl
theorem s82_93 {c : Nat → List AV → SS → Option Out} {l1 l2 l3 : Option AV} {o : OId} {L2 : List (Nat × AV)} {St : List AV} {S : SS} : ev c 82 93 [some (aR o), l1, l2, l3] L2 St S = ev c 82 94 [some (aR o), l1, l2, l3] L2 (aR o :: St) S := ev_go i82_93 rfl
theorem i82_94 : insAt 82 94 = some (.iload_n 3, 1, (0, 0, 0, 0), 0) := rfl
theorem s82_94 {c : Nat → List AV → SS → Option Out} {l0 l1 l2 : Option AV} {x : Int32} {L2 : List (Nat × AV)} {St : List AV} {S : SS} : ev c 82 94 [l0, l1, l2, some (aI x)] L2 St S = ev c 82 95 [l0, l1, l2, some (aI x)] L2 (aI x :: St) S := ev_go i82_94 rfl
theorem i82_95 : insAt 82 95 = some (.invokevirtual 106, 3, (84, 1, 2, 4), 0) := rfl
theorem s82_95 {c : Nat → List AV → SS → Option Out} {l0 l1 l2 l3 : Option AV} {a0 : Int32} {j t : Nat} {L2 : List (Nat × AV)} {S : SS} : ev c 82 95 [l0, l1, l2, l3] L2 [aI a0, aR (4, j, t)] S = ck (c 84 [aR (4, j, t), aI a0] S) (fun v S' => ev c 82 98 [l0, l1, l2, l3] L2 (v.toList ++ []) S') := ev_call i82_95 rfl
theorem i82_98 : insAt 82 98 = some (.aload_n 0, 1, (0, 0, 0, 0), 0) := rfl
theorem s82_98 {c : Nat → List AV → SS → Option Out} {l1 l2 l3 : Option AV} {o : OId} {L2 : List (Nat × AV)} {St : List AV} {S : SS} : ev c 82 98 [some (aR o), l1, l2, l3] L2 St S = ev c 82 99 [some (aR o), l1, l2, l3] L2 (aR o :: St) S := ev_go i82_98 rfl
theorem i82_99 : insAt 82 99 = some (.dup, 1, (0, 0, 0, 0), 0) := rfl
theorem s82_99 {c : Nat → List AV → SS → Option Out} {l0 l1 l2 l3 : Option AV} {x : OId} {L2 : List (Nat × AV)} {St : List AV} {S : SS} : ev c 82 99 [l0, l1, l2, l3] L2 (aR x :: St) S = ev c 82 100 [l0, l1, l2, l3] L2 (aR x :: aR x :: St) S := ev_go i82_99 rfl
theorem i82_100 : insAt 82 100 = some (.getfield 30, 3, (4, 6, 0, 0), 0) := rfl
theorem s82_100 {c : Nat → List AV → SS → Option Out} {l0 l1 l2 l3 : Option AV} {j t : Nat} {L2 : List (Nat × AV)} {St : List AV} {S : SS} : ev c 82 100 [l0, l1, l2, l3] L2 (aR (4, j, t) :: St) S = ev c 82 103 [l0, l1, l2, l3] L2 (aI (S.1 (4, j, t) 6) :: St) S := ev_go i82_100 rfl
theorem i82_103 : insAt 82 103 = some (.iconst 1, 1, (0, 0, 0, 0), 0) := rfl
theorem s82_103 {c : Nat → List AV → SS → Option Out} {l0 l1 l2 l3 : Option AV} {L2 : List (Nat × AV)} {St : List AV} {S : SS} : ev c 82 103 [l0, l1, l2, l3] L2 St S = ev c 82 104 [l0, l1, l2, l3] L2 (aI 1 :: St) S := ev_go i82_103 rfl
theorem i82_104 : insAt 82 104 = some (.iadd, 1, (0, 0, 0, 0), 0) := rfl
theorem s82_104 {c : Nat → List AV → SS → Option Out} {l0 l1 l2 l3 : Option AV} {x y : Int32} {L2 : List (Nat × AV)} {St : List AV} {S : SS} : ev c 82 104 [l0, l1, l2, l3] L2 (aI y :: aI x :: St) S = ev c 82 105 [l0, l1, l2, l3] L2 (aI (x + y) :: St) S := ev_go i82_104 rfl
theorem i82_105 : insAt 82 105 = some (.putfield 30, 3, (4, 6, 0, 0), 0) := rfl
theorem s82_105 {c : Nat → List AV → SS → Option Out} {l0 l1 l2 l3 : Option AV} {j t : Nat} {x : Int32} {L2 : List (Nat × AV)} {St : List AV} {S : SS} : ev c 82 105 [l0, l1, l2, l3] L2 (aI x :: aR (4, j, t) :: St) S = ev c 82 108 [l0, l1, l2, l3] L2 St (setI S.1 (4, j, t) 6 x, S.2) := ev_go i82_105 rfl
theorem i82_108 : insAt 82 108 = some (.iinc 3 (-1), 3, (0, 0, 0, 0), 0) := rfl
theorem s82_108 {c : Nat → List AV → SS → Option Out} {l0 l1 l2 : Option AV} {x : Int32} {L2 : List (Nat × AV)} {St : List AV} {S : SS} : ev c 82 108 [l0, l1, l2, some (aI x)] L2 St S = ev c 82 111 [l0, l1, l2, some (aI (x + (-1)))] (kil L2 3) St S := ev_go i82_108 rfl
theorem i82_111 : insAt 82 111 = some (.goto (-41), 3, (0, 0, 0, 0), 0) := rfl
theorem s82_111 {c : Nat → List AV → SS → Option Out} {l0 l1 l2 l3 : Option AV} {L2 : List (Nat × AV)} {St : List AV} {S : SS} : ev c 82 111 [l0, l1, l2, l3] L2 St S = ev c 82 70 [l0, l1, l2, l3] L2 St S := ev_go i82_111 rfl
theorem i82_114 : insAt 82 114 = some (.return_, 1, (0, 0, 0, 0), 0) := rfl
theorem s82_114 {c : Nat → List AV → SS → Option Out} {l0 l1 l2 l3 : Option AV} {L2 : List (Nat × AV)} {St : List AV} {S : SS} : ev c 82 114 [l0, l1, l2, l3] L2 [] S = some (.inl none, S) := ev_end i82_114 rfl
theorem m82 {d : Nat} {o : OId} {a0 : OId} {a1 : Int32} {S : SS} : evm (d + 1) 82 [aR o, aR a0, aI a1] S = ev (evm d) 82 0 [some (aR o), some (aR a0), some (aI a1), none] [] [] S := evm_s (n := 4) rfl (Nat.le_of_ble_eq_true rfl) rfl rfl
/-! FrequencyOffice$Books.conflictsWithLicensed(I)Z -/
theorem i83_0 : insAt 83 0 = some (.iconst 0, 1, (0, 0, 0, 0), 0) := rfl
theorem s83_0 {c : Nat → List AV → SS → Option Out} {l0 l1 l2 : Option AV} {L2 : List (Nat × AV)} {St : List AV} {S : SS} : ev c 83 0 [l0, l1, l2] L2 St S = ev c 83 1 [l0, l1, l2] L2 (aI 0 :: St) S := ev_go i83_0 rfl
theorem i83_1 : insAt 83 1 = some (.istore_n 2, 1, (0, 0, 0, 0), 0) := rfl
theorem s83_1 {c : Nat → List AV → SS → Option Out} {l0 l1 l2 : Option AV} {x : Int32} {L2 : List (Nat × AV)} {St : List AV} {S : SS} : ev c 83 1 [l0, l1, l2] L2 (aI x :: St) S = ev c 83 2 [l0, l1, some (aI x)] (kil L2 2) St S := ev_go i83_1 rfl
theorem i83_2 : insAt 83 2 = some (.iload_n 2, 1, (0, 0, 0, 0), 0) := rfl
theorem s83_2 {c : Nat → List AV → SS → Option Out} {l0 l1 : Option AV} {x : Int32} {L2 : List (Nat × AV)} {St : List AV} {S : SS} : ev c 83 2 [l0, l1, some (aI x)] L2 St S = ev c 83 3 [l0, l1, some (aI x)] L2 (aI x :: St) S := ev_go i83_2 rfl
theorem i83_3 : insAt 83 3 = some (.aload_n 0, 1, (0, 0, 0, 0), 0) := rfl
theorem s83_3 {c : Nat → List AV → SS → Option Out} {l1 l2 : Option AV} {o : OId} {L2 : List (Nat × AV)} {St : List AV} {S : SS} : ev c 83 3 [some (aR o), l1, l2] L2 St S = ev c 83 4 [some (aR o), l1, l2] L2 (aR o :: St) S := ev_go i83_3 rfl
theorem i83_4 : insAt 83 4 = some (.getfield 33, 3, (4, 7, 0, 0), 0) := rfl
theorem s83_4 {c : Nat → List AV → SS → Option Out} {l0 l1 l2 : Option AV} {j t : Nat} {L2 : List (Nat × AV)} {St : List AV} {S : SS} : ev c 83 4 [l0, l1, l2] L2 (aR (4, j, t) :: St) S = ev c 83 7 [l0, l1, l2] L2 (aI (S.1 (4, j, t) 7) :: St) S := ev_go i83_4 rfl
theorem i83_7 : insAt 83 7 = some (.if_icmp .ge 36, 3, (0, 0, 0, 0), 0) := rfl
theorem s83_7 {c : Nat → List AV → SS → Option Out} {l0 l1 l2 : Option AV} {x y : Int32} {L2 : List (Nat × AV)} {St : List AV} {S : SS} : ev c 83 7 [l0, l1, l2] L2 (aI y :: aI x :: St) S = if y ≤ x then ev c 83 43 [l0, l1, l2] L2 St S else ev c 83 10 [l0, l1, l2] L2 St S := ev_br i83_7 rfl
theorem i83_10 : insAt 83 10 = some (.iload_n 2, 1, (0, 0, 0, 0), 0) := rfl
theorem s83_10 {c : Nat → List AV → SS → Option Out} {l0 l1 : Option AV} {x : Int32} {L2 : List (Nat × AV)} {St : List AV} {S : SS} : ev c 83 10 [l0, l1, some (aI x)] L2 St S = ev c 83 11 [l0, l1, some (aI x)] L2 (aI x :: St) S := ev_go i83_10 rfl
theorem i83_11 : insAt 83 11 = some (.iload_n 1, 1, (0, 0, 0, 0), 0) := rfl
theorem s83_11 {c : Nat → List AV → SS → Option Out} {l0 l2 : Option AV} {x : Int32} {L2 : List (Nat × AV)} {St : List AV} {S : SS} : ev c 83 11 [l0, some (aI x), l2] L2 St S = ev c 83 12 [l0, some (aI x), l2] L2 (aI x :: St) S := ev_go i83_11 rfl
theorem i83_12 : insAt 83 12 = some (.if_icmp .eq 25, 3, (0, 0, 0, 0), 0) := rfl
theorem s83_12 {c : Nat → List AV → SS → Option Out} {l0 l1 l2 : Option AV} {x y : Int32} {L2 : List (Nat × AV)} {St : List AV} {S : SS} : ev c 83 12 [l0, l1, l2] L2 (aI y :: aI x :: St) S = if x = y then ev c 83 37 [l0, l1, l2] L2 St S else ev c 83 15 [l0, l1, l2] L2 St S := ev_br i83_12 rfl
theorem i83_15 : insAt 83 15 = some (.aload_n 0, 1, (0, 0, 0, 0), 0) := rfl
theorem s83_15 {c : Nat → List AV → SS → Option Out} {l1 l2 : Option AV} {o : OId} {L2 : List (Nat × AV)} {St : List AV} {S : SS} : ev c 83 15 [some (aR o), l1, l2] L2 St S = ev c 83 16 [some (aR o), l1, l2] L2 (aR o :: St) S := ev_go i83_15 rfl
theorem i83_16 : insAt 83 16 = some (.iload_n 2, 1, (0, 0, 0, 0), 0) := rfl
theorem s83_16 {c : Nat → List AV → SS → Option Out} {l0 l1 : Option AV} {x : Int32} {L2 : List (Nat × AV)} {St : List AV} {S : SS} : ev c 83 16 [l0, l1, some (aI x)] L2 St S = ev c 83 17 [l0, l1, some (aI x)] L2 (aI x :: St) S := ev_go i83_16 rfl
theorem i83_17 : insAt 83 17 = some (.invokevirtual 58, 3, (17, 1, 2, 4), 0) := rfl
theorem s83_17 {c : Nat → List AV → SS → Option Out} {l0 l1 l2 : Option AV} {a0 : Int32} {j t : Nat} {L2 : List (Nat × AV)} {S : SS} : ev c 83 17 [l0, l1, l2] L2 [aI a0, aR (4, j, t)] S = ck (c 17 [aR (4, j, t), aI a0] S) (fun v S' => ev c 83 20 [l0, l1, l2] L2 (v.toList ++ []) S') := ev_call i83_17 rfl
theorem i83_20 : insAt 83 20 = some (.getfield 87, 3, (10, 5, 1, 0), 0) := rfl
theorem s83_20 {c : Nat → List AV → SS → Option Out} {l0 l1 l2 : Option AV} {j t : Nat} {L2 : List (Nat × AV)} {St : List AV} {S : SS} : ev c 83 20 [l0, l1, l2] L2 (aR (10, j, t) :: St) S = ev c 83 23 [l0, l1, l2] L2 (aI (bb (S.1 (10, j, t) 5)) :: St) S := ev_go i83_20 rfl
theorem i83_23 : insAt 83 23 = some (.ifCond .ne 14, 3, (0, 0, 0, 0), 0) := rfl
theorem s83_23 {c : Nat → List AV → SS → Option Out} {l0 l1 l2 : Option AV} {x : Int32} {L2 : List (Nat × AV)} {St : List AV} {S : SS} : ev c 83 23 [l0, l1, l2] L2 (aI x :: St) S = if x = 0 then ev c 83 26 [l0, l1, l2] L2 St S else ev c 83 37 [l0, l1, l2] L2 St S := (ev_br i83_23 rfl).trans (ite_not _ _ _)
theorem i83_26 : insAt 83 26 = some (.aload_n 0, 1, (0, 0, 0, 0), 0) := rfl
theorem s83_26 {c : Nat → List AV → SS → Option Out} {l1 l2 : Option AV} {o : OId} {L2 : List (Nat × AV)} {St : List AV} {S : SS} : ev c 83 26 [some (aR o), l1, l2] L2 St S = ev c 83 27 [some (aR o), l1, l2] L2 (aR o :: St) S := ev_go i83_26 rfl
theorem i83_27 : insAt 83 27 = some (.iload_n 2, 1, (0, 0, 0, 0), 0) := rfl
theorem s83_27 {c : Nat → List AV → SS → Option Out} {l0 l1 : Option AV} {x : Int32} {L2 : List (Nat × AV)} {St : List AV} {S : SS} : ev c 83 27 [l0, l1, some (aI x)] L2 St S = ev c 83 28 [l0, l1, some (aI x)] L2 (aI x :: St) S := ev_go i83_27 rfl
theorem i83_28 : insAt 83 28 = some (.iload_n 1, 1, (0, 0, 0, 0), 0) := rfl
theorem s83_28 {c : Nat → List AV → SS → Option Out} {l0 l2 : Option AV} {x : Int32} {L2 : List (Nat × AV)} {St : List AV} {S : SS} : ev c 83 28 [l0, some (aI x), l2] L2 St S = ev c 83 29 [l0, some (aI x), l2] L2 (aI x :: St) S := ev_go i83_28 rfl
theorem i83_29 : insAt 83 29 = some (.invokevirtual 137, 3, (24, 2, 2, 4), 0) := rfl
theorem s83_29 {c : Nat → List AV → SS → Option Out} {l0 l1 l2 : Option AV} {a0 : Int32} {a1 : Int32} {j t : Nat} {L2 : List (Nat × AV)} {S : SS} : ev c 83 29 [l0, l1, l2] L2 [aI a1, aI a0, aR (4, j, t)] S = ck (c 24 [aR (4, j, t), aI a0, aI a1] S) (fun v S' => ev c 83 32 [l0, l1, l2] L2 (v.toList ++ []) S') := ev_call i83_29 rfl
theorem i83_32 : insAt 83 32 = some (.ifCond .ge 5, 3, (0, 0, 0, 0), 0) := rfl
theorem s83_32 {c : Nat → List AV → SS → Option Out} {l0 l1 l2 : Option AV} {x : Int32} {L2 : List (Nat × AV)} {St : List AV} {S : SS} : ev c 83 32 [l0, l1, l2] L2 (aI x :: St) S = if 0 ≤ x then ev c 83 37 [l0, l1, l2] L2 St S else ev c 83 35 [l0, l1, l2] L2 St S := ev_br i83_32 rfl
theorem i83_35 : insAt 83 35 = some (.iconst 1, 1, (0, 0, 0, 0), 0) := rfl
theorem s83_35 {c : Nat → List AV → SS → Option Out} {l0 l1 l2 : Option AV} {L2 : List (Nat × AV)} {St : List AV} {S : SS} : ev c 83 35 [l0, l1, l2] L2 St S = ev c 83 36 [l0, l1, l2] L2 (aI 1 :: St) S := ev_go i83_35 rfl
theorem i83_36 : insAt 83 36 = some (.ireturn, 1, (0, 0, 0, 0), 0) := rfl
theorem s83_36 {c : Nat → List AV → SS → Option Out} {l0 l1 l2 : Option AV} {x : Int32} {L2 : List (Nat × AV)} {St : List AV} {S : SS} : ev c 83 36 [l0, l1, l2] L2 [aI x] S = if x = 0 ∨ x = 1 then some (.inl (some (aI x)), S) else none := ev_rt i83_36 rfl
theorem i83_37 : insAt 83 37 = some (.iinc 2 1, 3, (0, 0, 0, 0), 0) := rfl
theorem s83_37 {c : Nat → List AV → SS → Option Out} {l0 l1 : Option AV} {x : Int32} {L2 : List (Nat × AV)} {St : List AV} {S : SS} : ev c 83 37 [l0, l1, some (aI x)] L2 St S = ev c 83 40 [l0, l1, some (aI (x + 1))] (kil L2 2) St S := ev_go i83_37 rfl
theorem i83_40 : insAt 83 40 = some (.goto (-38), 3, (0, 0, 0, 0), 0) := rfl
theorem s83_40 {c : Nat → List AV → SS → Option Out} {l0 l1 l2 : Option AV} {L2 : List (Nat × AV)} {St : List AV} {S : SS} : ev c 83 40 [l0, l1, l2] L2 St S = ev c 83 2 [l0, l1, l2] L2 St S := ev_go i83_40 rfl
theorem i83_43 : insAt 83 43 = some (.iconst 0, 1, (0, 0, 0, 0), 0) := rfl
theorem s83_43 {c : Nat → List AV → SS → Option Out} {l0 l1 l2 : Option AV} {L2 : List (Nat × AV)} {St : List AV} {S : SS} : ev c 83 43 [l0, l1, l2] L2 St S = ev c 83 44 [l0, l1, l2] L2 (aI 0 :: St) S := ev_go i83_43 rfl
theorem i83_44 : insAt 83 44 = some (.ireturn, 1, (0, 0, 0, 0), 0) := rfl
theorem s83_44 {c : Nat → List AV → SS → Option Out} {l0 l1 l2 : Option AV} {x : Int32} {L2 : List (Nat × AV)} {St : List AV} {S : SS} : ev c 83 44 [l0, l1, l2] L2 [aI x] S = if x = 0 ∨ x = 1 then some (.inl (some (aI x)), S) else none := ev_rt i83_44 rfl
theorem m83 {d : Nat} {o : OId} {a0 : Int32} {S : SS} : evm (d + 1) 83 [aR o, aI a0] S = ev (evm d) 83 0 [some (aR o), some (aI a0), none] [] [] S := evm_s (n := 3) rfl (Nat.le_of_ble_eq_true rfl) rfl rfl
/-! FrequencyOffice$Books.remove(I)V -/
theorem i84_0 : insAt 84 0 = some (.iload_n 1, 1, (0, 0, 0, 0), 0) := rfl
theorem s84_0 {c : Nat → List AV → SS → Option Out} {l0 l2 : Option AV} {x : Int32} {L2 : List (Nat × AV)} {St : List AV} {S : SS} : ev c 84 0 [l0, some (aI x), l2] L2 St S = ev c 84 1 [l0, some (aI x), l2] L2 (aI x :: St) S := ev_go i84_0 rfl
theorem i84_1 : insAt 84 1 = some (.istore_n 2, 1, (0, 0, 0, 0), 0) := rfl
theorem s84_1 {c : Nat → List AV → SS → Option Out} {l0 l1 l2 : Option AV} {x : Int32} {L2 : List (Nat × AV)} {St : List AV} {S : SS} : ev c 84 1 [l0, l1, l2] L2 (aI x :: St) S = ev c 84 2 [l0, l1, some (aI x)] (kil L2 2) St S := ev_go i84_1 rfl
theorem i84_2 : insAt 84 2 = some (.iload_n 2, 1, (0, 0, 0, 0), 0) := rfl
theorem s84_2 {c : Nat → List AV → SS → Option Out} {l0 l1 : Option AV} {x : Int32} {L2 : List (Nat × AV)} {St : List AV} {S : SS} : ev c 84 2 [l0, l1, some (aI x)] L2 St S = ev c 84 3 [l0, l1, some (aI x)] L2 (aI x :: St) S := ev_go i84_2 rfl
theorem i84_3 : insAt 84 3 = some (.aload_n 0, 1, (0, 0, 0, 0), 0) := rfl
theorem s84_3 {c : Nat → List AV → SS → Option Out} {l1 l2 : Option AV} {o : OId} {L2 : List (Nat × AV)} {St : List AV} {S : SS} : ev c 84 3 [some (aR o), l1, l2] L2 St S = ev c 84 4 [some (aR o), l1, l2] L2 (aR o :: St) S := ev_go i84_3 rfl
theorem i84_4 : insAt 84 4 = some (.getfield 33, 3, (4, 7, 0, 0), 0) := rfl
theorem s84_4 {c : Nat → List AV → SS → Option Out} {l0 l1 l2 : Option AV} {j t : Nat} {L2 : List (Nat × AV)} {St : List AV} {S : SS} : ev c 84 4 [l0, l1, l2] L2 (aR (4, j, t) :: St) S = ev c 84 7 [l0, l1, l2] L2 (aI (S.1 (4, j, t) 7) :: St) S := ev_go i84_4 rfl
theorem i84_7 : insAt 84 7 = some (.iconst 1, 1, (0, 0, 0, 0), 0) := rfl
theorem s84_7 {c : Nat → List AV → SS → Option Out} {l0 l1 l2 : Option AV} {L2 : List (Nat × AV)} {St : List AV} {S : SS} : ev c 84 7 [l0, l1, l2] L2 St S = ev c 84 8 [l0, l1, l2] L2 (aI 1 :: St) S := ev_go i84_7 rfl
theorem i84_8 : insAt 84 8 = some (.isub, 1, (0, 0, 0, 0), 0) := rfl
theorem s84_8 {c : Nat → List AV → SS → Option Out} {l0 l1 l2 : Option AV} {x y : Int32} {L2 : List (Nat × AV)} {St : List AV} {S : SS} : ev c 84 8 [l0, l1, l2] L2 (aI y :: aI x :: St) S = ev c 84 9 [l0, l1, l2] L2 (aI (x - y) :: St) S := ev_go i84_8 rfl
theorem i84_9 : insAt 84 9 = some (.if_icmp .ge 24, 3, (0, 0, 0, 0), 0) := rfl
theorem s84_9 {c : Nat → List AV → SS → Option Out} {l0 l1 l2 : Option AV} {x y : Int32} {L2 : List (Nat × AV)} {St : List AV} {S : SS} : ev c 84 9 [l0, l1, l2] L2 (aI y :: aI x :: St) S = if y ≤ x then ev c 84 33 [l0, l1, l2] L2 St S else ev c 84 12 [l0, l1, l2] L2 St S := ev_br i84_9 rfl
theorem i84_12 : insAt 84 12 = some (.aload_n 0, 1, (0, 0, 0, 0), 0) := rfl
theorem s84_12 {c : Nat → List AV → SS → Option Out} {l1 l2 : Option AV} {o : OId} {L2 : List (Nat × AV)} {St : List AV} {S : SS} : ev c 84 12 [some (aR o), l1, l2] L2 St S = ev c 84 13 [some (aR o), l1, l2] L2 (aR o :: St) S := ev_go i84_12 rfl
theorem i84_13 : insAt 84 13 = some (.iload_n 2, 1, (0, 0, 0, 0), 0) := rfl
theorem s84_13 {c : Nat → List AV → SS → Option Out} {l0 l1 : Option AV} {x : Int32} {L2 : List (Nat × AV)} {St : List AV} {S : SS} : ev c 84 13 [l0, l1, some (aI x)] L2 St S = ev c 84 14 [l0, l1, some (aI x)] L2 (aI x :: St) S := ev_go i84_13 rfl
theorem i84_14 : insAt 84 14 = some (.invokevirtual 58, 3, (17, 1, 2, 4), 0) := rfl
theorem s84_14 {c : Nat → List AV → SS → Option Out} {l0 l1 l2 : Option AV} {a0 : Int32} {j t : Nat} {L2 : List (Nat × AV)} {S : SS} : ev c 84 14 [l0, l1, l2] L2 [aI a0, aR (4, j, t)] S = ck (c 17 [aR (4, j, t), aI a0] S) (fun v S' => ev c 84 17 [l0, l1, l2] L2 (v.toList ++ []) S') := ev_call i84_14 rfl
theorem i84_17 : insAt 84 17 = some (.aload_n 0, 1, (0, 0, 0, 0), 0) := rfl
theorem s84_17 {c : Nat → List AV → SS → Option Out} {l1 l2 : Option AV} {o : OId} {L2 : List (Nat × AV)} {St : List AV} {S : SS} : ev c 84 17 [some (aR o), l1, l2] L2 St S = ev c 84 18 [some (aR o), l1, l2] L2 (aR o :: St) S := ev_go i84_17 rfl
theorem i84_18 : insAt 84 18 = some (.iload_n 2, 1, (0, 0, 0, 0), 0) := rfl
theorem s84_18 {c : Nat → List AV → SS → Option Out} {l0 l1 : Option AV} {x : Int32} {L2 : List (Nat × AV)} {St : List AV} {S : SS} : ev c 84 18 [l0, l1, some (aI x)] L2 St S = ev c 84 19 [l0, l1, some (aI x)] L2 (aI x :: St) S := ev_go i84_18 rfl
theorem i84_19 : insAt 84 19 = some (.iconst 1, 1, (0, 0, 0, 0), 0) := rfl
theorem s84_19 {c : Nat → List AV → SS → Option Out} {l0 l1 l2 : Option AV} {L2 : List (Nat × AV)} {St : List AV} {S : SS} : ev c 84 19 [l0, l1, l2] L2 St S = ev c 84 20 [l0, l1, l2] L2 (aI 1 :: St) S := ev_go i84_19 rfl
theorem i84_20 : insAt 84 20 = some (.iadd, 1, (0, 0, 0, 0), 0) := rfl
theorem s84_20 {c : Nat → List AV → SS → Option Out} {l0 l1 l2 : Option AV} {x y : Int32} {L2 : List (Nat × AV)} {St : List AV} {S : SS} : ev c 84 20 [l0, l1, l2] L2 (aI y :: aI x :: St) S = ev c 84 21 [l0, l1, l2] L2 (aI (x + y) :: St) S := ev_go i84_20 rfl
theorem i84_21 : insAt 84 21 = some (.invokevirtual 58, 3, (17, 1, 2, 4), 0) := rfl
theorem s84_21 {c : Nat → List AV → SS → Option Out} {l0 l1 l2 : Option AV} {t0 : AV} {a0 : Int32} {j t : Nat} {L2 : List (Nat × AV)} {S : SS} : ev c 84 21 [l0, l1, l2] L2 [aI a0, aR (4, j, t), t0] S = ck (c 17 [aR (4, j, t), aI a0] S) (fun v S' => ev c 84 24 [l0, l1, l2] L2 (v.toList ++ [t0]) S') := ev_call i84_21 rfl
theorem i84_24 : insAt 84 24 = some (.invokevirtual 62, 3, (57, 1, 3, 10), 0) := rfl
theorem s84_24 {c : Nat → List AV → SS → Option Out} {l0 l1 l2 : Option AV} {a0 : OId} {j t : Nat} {L2 : List (Nat × AV)} {S : SS} : ev c 84 24 [l0, l1, l2] L2 [aR a0, aR (10, j, t)] S = ck (c 57 [aR (10, j, t), aR a0] S) (fun v S' => ev c 84 27 [l0, l1, l2] L2 (v.toList ++ []) S') := ev_call i84_24 rfl
theorem i84_27 : insAt 84 27 = some (.iinc 2 1, 3, (0, 0, 0, 0), 0) := rfl
theorem s84_27 {c : Nat → List AV → SS → Option Out} {l0 l1 : Option AV} {x : Int32} {L2 : List (Nat × AV)} {St : List AV} {S : SS} : ev c 84 27 [l0, l1, some (aI x)] L2 St S = ev c 84 30 [l0, l1, some (aI (x + 1))] (kil L2 2) St S := ev_go i84_27 rfl
theorem i84_30 : insAt 84 30 = some (.goto (-28), 3, (0, 0, 0, 0), 0) := rfl
theorem s84_30 {c : Nat → List AV → SS → Option Out} {l0 l1 l2 : Option AV} {L2 : List (Nat × AV)} {St : List AV} {S : SS} : ev c 84 30 [l0, l1, l2] L2 St S = ev c 84 2 [l0, l1, l2] L2 St S := ev_go i84_30 rfl
theorem i84_33 : insAt 84 33 = some (.aload_n 0, 1, (0, 0, 0, 0), 0) := rfl
theorem s84_33 {c : Nat → List AV → SS → Option Out} {l1 l2 : Option AV} {o : OId} {L2 : List (Nat × AV)} {St : List AV} {S : SS} : ev c 84 33 [some (aR o), l1, l2] L2 St S = ev c 84 34 [some (aR o), l1, l2] L2 (aR o :: St) S := ev_go i84_33 rfl
theorem i84_34 : insAt 84 34 = some (.iload_n 1, 1, (0, 0, 0, 0), 0) := rfl
theorem s84_34 {c : Nat → List AV → SS → Option Out} {l0 l2 : Option AV} {x : Int32} {L2 : List (Nat × AV)} {St : List AV} {S : SS} : ev c 84 34 [l0, some (aI x), l2] L2 St S = ev c 84 35 [l0, some (aI x), l2] L2 (aI x :: St) S := ev_go i84_34 rfl
theorem i84_35 : insAt 84 35 = some (.invokevirtual 91, 3, (85, 1, 2, 4), 0) := rfl
theorem s84_35 {c : Nat → List AV → SS → Option Out} {l0 l1 l2 : Option AV} {a0 : Int32} {j t : Nat} {L2 : List (Nat × AV)} {S : SS} : ev c 84 35 [l0, l1, l2] L2 [aI a0, aR (4, j, t)] S = ck (c 85 [aR (4, j, t), aI a0] S) (fun v S' => ev c 84 38 [l0, l1, l2] L2 (v.toList ++ []) S') := ev_call i84_35 rfl
theorem i84_38 : insAt 84 38 = some (.aload_n 0, 1, (0, 0, 0, 0), 0) := rfl
theorem s84_38 {c : Nat → List AV → SS → Option Out} {l1 l2 : Option AV} {o : OId} {L2 : List (Nat × AV)} {St : List AV} {S : SS} : ev c 84 38 [some (aR o), l1, l2] L2 St S = ev c 84 39 [some (aR o), l1, l2] L2 (aR o :: St) S := ev_go i84_38 rfl
theorem i84_39 : insAt 84 39 = some (.dup, 1, (0, 0, 0, 0), 0) := rfl
theorem s84_39 {c : Nat → List AV → SS → Option Out} {l0 l1 l2 : Option AV} {x : OId} {L2 : List (Nat × AV)} {St : List AV} {S : SS} : ev c 84 39 [l0, l1, l2] L2 (aR x :: St) S = ev c 84 40 [l0, l1, l2] L2 (aR x :: aR x :: St) S := ev_go i84_39 rfl
theorem i84_40 : insAt 84 40 = some (.getfield 33, 3, (4, 7, 0, 0), 0) := rfl
theorem s84_40 {c : Nat → List AV → SS → Option Out} {l0 l1 l2 : Option AV} {j t : Nat} {L2 : List (Nat × AV)} {St : List AV} {S : SS} : ev c 84 40 [l0, l1, l2] L2 (aR (4, j, t) :: St) S = ev c 84 43 [l0, l1, l2] L2 (aI (S.1 (4, j, t) 7) :: St) S := ev_go i84_40 rfl
theorem i84_43 : insAt 84 43 = some (.iconst 1, 1, (0, 0, 0, 0), 0) := rfl
theorem s84_43 {c : Nat → List AV → SS → Option Out} {l0 l1 l2 : Option AV} {L2 : List (Nat × AV)} {St : List AV} {S : SS} : ev c 84 43 [l0, l1, l2] L2 St S = ev c 84 44 [l0, l1, l2] L2 (aI 1 :: St) S := ev_go i84_43 rfl
theorem i84_44 : insAt 84 44 = some (.isub, 1, (0, 0, 0, 0), 0) := rfl
theorem s84_44 {c : Nat → List AV → SS → Option Out} {l0 l1 l2 : Option AV} {x y : Int32} {L2 : List (Nat × AV)} {St : List AV} {S : SS} : ev c 84 44 [l0, l1, l2] L2 (aI y :: aI x :: St) S = ev c 84 45 [l0, l1, l2] L2 (aI (x - y) :: St) S := ev_go i84_44 rfl
theorem i84_45 : insAt 84 45 = some (.putfield 33, 3, (4, 7, 0, 0), 0) := rfl
theorem s84_45 {c : Nat → List AV → SS → Option Out} {l0 l1 l2 : Option AV} {j t : Nat} {x : Int32} {L2 : List (Nat × AV)} {St : List AV} {S : SS} : ev c 84 45 [l0, l1, l2] L2 (aI x :: aR (4, j, t) :: St) S = ev c 84 48 [l0, l1, l2] L2 St (setI S.1 (4, j, t) 7 x, S.2) := ev_go i84_45 rfl
theorem i84_48 : insAt 84 48 = some (.return_, 1, (0, 0, 0, 0), 0) := rfl
theorem s84_48 {c : Nat → List AV → SS → Option Out} {l0 l1 l2 : Option AV} {L2 : List (Nat × AV)} {St : List AV} {S : SS} : ev c 84 48 [l0, l1, l2] L2 [] S = some (.inl none, S) := ev_end i84_48 rfl
theorem m84 {d : Nat} {o : OId} {a0 : Int32} {S : SS} : evm (d + 1) 84 [aR o, aI a0] S = ev (evm d) 84 0 [some (aR o), some (aI a0), none] [] [] S := evm_s (n := 3) rfl (Nat.le_of_ble_eq_true rfl) rfl rfl
/-! FrequencyOffice$Books.removeComplaints(I)V -/
theorem i85_0 : insAt 85 0 = some (.iconst 0, 1, (0, 0, 0, 0), 0) := rfl
theorem s85_0 {c : Nat → List AV → SS → Option Out} {l0 l1 l2 l3 l4 : Option AV} {L2 : List (Nat × AV)} {St : List AV} {S : SS} : ev c 85 0 [l0, l1, l2, l3, l4] L2 St S = ev c 85 1 [l0, l1, l2, l3, l4] L2 (aI 0 :: St) S := ev_go i85_0 rfl
theorem i85_1 : insAt 85 1 = some (.istore_n 2, 1, (0, 0, 0, 0), 0) := rfl
theorem s85_1 {c : Nat → List AV → SS → Option Out} {l0 l1 l2 l3 l4 : Option AV} {x : Int32} {L2 : List (Nat × AV)} {St : List AV} {S : SS} : ev c 85 1 [l0, l1, l2, l3, l4] L2 (aI x :: St) S = ev c 85 2 [l0, l1, some (aI x), l3, l4] (kil L2 2) St S := ev_go i85_1 rfl
theorem i85_2 : insAt 85 2 = some (.iload_n 2, 1, (0, 0, 0, 0), 0) := rfl
theorem s85_2 {c : Nat → List AV → SS → Option Out} {l0 l1 l3 l4 : Option AV} {x : Int32} {L2 : List (Nat × AV)} {St : List AV} {S : SS} : ev c 85 2 [l0, l1, some (aI x), l3, l4] L2 St S = ev c 85 3 [l0, l1, some (aI x), l3, l4] L2 (aI x :: St) S := ev_go i85_2 rfl
theorem i85_3 : insAt 85 3 = some (.bipush 7, 2, (0, 0, 0, 0), 0) := rfl
theorem s85_3 {c : Nat → List AV → SS → Option Out} {l0 l1 l2 l3 l4 : Option AV} {L2 : List (Nat × AV)} {St : List AV} {S : SS} : ev c 85 3 [l0, l1, l2, l3, l4] L2 St S = ev c 85 5 [l0, l1, l2, l3, l4] L2 (aI 7 :: St) S := ev_go i85_3 rfl
theorem i85_5 : insAt 85 5 = some (.if_icmp .ge 67, 3, (0, 0, 0, 0), 0) := rfl
theorem s85_5 {c : Nat → List AV → SS → Option Out} {l0 l1 l2 l3 l4 : Option AV} {x y : Int32} {L2 : List (Nat × AV)} {St : List AV} {S : SS} : ev c 85 5 [l0, l1, l2, l3, l4] L2 (aI y :: aI x :: St) S = if y ≤ x then ev c 85 72 [l0, l1, l2, l3, l4] L2 St S else ev c 85 8 [l0, l1, l2, l3, l4] L2 St S := ev_br i85_5 rfl
theorem i85_8 : insAt 85 8 = some (.iconst 0, 1, (0, 0, 0, 0), 0) := rfl
theorem s85_8 {c : Nat → List AV → SS → Option Out} {l0 l1 l2 l3 l4 : Option AV} {L2 : List (Nat × AV)} {St : List AV} {S : SS} : ev c 85 8 [l0, l1, l2, l3, l4] L2 St S = ev c 85 9 [l0, l1, l2, l3, l4] L2 (aI 0 :: St) S := ev_go i85_8 rfl
theorem i85_9 : insAt 85 9 = some (.istore_n 3, 1, (0, 0, 0, 0), 0) := rfl
theorem s85_9 {c : Nat → List AV → SS → Option Out} {l0 l1 l2 l3 l4 : Option AV} {x : Int32} {L2 : List (Nat × AV)} {St : List AV} {S : SS} : ev c 85 9 [l0, l1, l2, l3, l4] L2 (aI x :: St) S = ev c 85 10 [l0, l1, l2, some (aI x), l4] (kil L2 3) St S := ev_go i85_9 rfl
theorem i85_10 : insAt 85 10 = some (.iload_n 3, 1, (0, 0, 0, 0), 0) := rfl
theorem s85_10 {c : Nat → List AV → SS → Option Out} {l0 l1 l2 l4 : Option AV} {x : Int32} {L2 : List (Nat × AV)} {St : List AV} {S : SS} : ev c 85 10 [l0, l1, l2, some (aI x), l4] L2 St S = ev c 85 11 [l0, l1, l2, some (aI x), l4] L2 (aI x :: St) S := ev_go i85_10 rfl
theorem i85_11 : insAt 85 11 = some (.bipush 7, 2, (0, 0, 0, 0), 0) := rfl
theorem s85_11 {c : Nat → List AV → SS → Option Out} {l0 l1 l2 l3 l4 : Option AV} {L2 : List (Nat × AV)} {St : List AV} {S : SS} : ev c 85 11 [l0, l1, l2, l3, l4] L2 St S = ev c 85 13 [l0, l1, l2, l3, l4] L2 (aI 7 :: St) S := ev_go i85_11 rfl
theorem i85_13 : insAt 85 13 = some (.if_icmp .ge 53, 3, (0, 0, 0, 0), 0) := rfl
theorem s85_13 {c : Nat → List AV → SS → Option Out} {l0 l1 l2 l3 l4 : Option AV} {x y : Int32} {L2 : List (Nat × AV)} {St : List AV} {S : SS} : ev c 85 13 [l0, l1, l2, l3, l4] L2 (aI y :: aI x :: St) S = if y ≤ x then ev c 85 66 [l0, l1, l2, l3, l4] L2 St S else ev c 85 16 [l0, l1, l2, l3, l4] L2 St S := ev_br i85_13 rfl
theorem i85_16 : insAt 85 16 = some (.aload_n 0, 1, (0, 0, 0, 0), 0) := rfl
theorem s85_16 {c : Nat → List AV → SS → Option Out} {l1 l2 l3 l4 : Option AV} {o : OId} {L2 : List (Nat × AV)} {St : List AV} {S : SS} : ev c 85 16 [some (aR o), l1, l2, l3, l4] L2 St S = ev c 85 17 [some (aR o), l1, l2, l3, l4] L2 (aR o :: St) S := ev_go i85_16 rfl
theorem i85_17 : insAt 85 17 = some (.iload_n 2, 1, (0, 0, 0, 0), 0) := rfl
theorem s85_17 {c : Nat → List AV → SS → Option Out} {l0 l1 l3 l4 : Option AV} {x : Int32} {L2 : List (Nat × AV)} {St : List AV} {S : SS} : ev c 85 17 [l0, l1, some (aI x), l3, l4] L2 St S = ev c 85 18 [l0, l1, some (aI x), l3, l4] L2 (aI x :: St) S := ev_go i85_17 rfl
theorem i85_18 : insAt 85 18 = some (.iload_n 1, 1, (0, 0, 0, 0), 0) := rfl
theorem s85_18 {c : Nat → List AV → SS → Option Out} {l0 l2 l3 l4 : Option AV} {x : Int32} {L2 : List (Nat × AV)} {St : List AV} {S : SS} : ev c 85 18 [l0, some (aI x), l2, l3, l4] L2 St S = ev c 85 19 [l0, some (aI x), l2, l3, l4] L2 (aI x :: St) S := ev_go i85_18 rfl
theorem i85_19 : insAt 85 19 = some (.if_icmp .ge 7, 3, (0, 0, 0, 0), 0) := rfl
theorem s85_19 {c : Nat → List AV → SS → Option Out} {l0 l1 l2 l3 l4 : Option AV} {x y : Int32} {L2 : List (Nat × AV)} {St : List AV} {S : SS} : ev c 85 19 [l0, l1, l2, l3, l4] L2 (aI y :: aI x :: St) S = if y ≤ x then ev c 85 26 [l0, l1, l2, l3, l4] L2 St S else ev c 85 22 [l0, l1, l2, l3, l4] L2 St S := ev_br i85_19 rfl
theorem i85_22 : insAt 85 22 = some (.iload_n 2, 1, (0, 0, 0, 0), 0) := rfl
theorem s85_22 {c : Nat → List AV → SS → Option Out} {l0 l1 l3 l4 : Option AV} {x : Int32} {L2 : List (Nat × AV)} {St : List AV} {S : SS} : ev c 85 22 [l0, l1, some (aI x), l3, l4] L2 St S = ev c 85 23 [l0, l1, some (aI x), l3, l4] L2 (aI x :: St) S := ev_go i85_22 rfl
theorem i85_23 : insAt 85 23 = some (.goto 6, 3, (0, 0, 0, 0), 0) := rfl
theorem s85_23 {c : Nat → List AV → SS → Option Out} {l0 l1 l2 l3 l4 : Option AV} {L2 : List (Nat × AV)} {St : List AV} {S : SS} : ev c 85 23 [l0, l1, l2, l3, l4] L2 St S = ev c 85 29 [l0, l1, l2, l3, l4] L2 St S := ev_go i85_23 rfl
theorem i85_26 : insAt 85 26 = some (.iload_n 2, 1, (0, 0, 0, 0), 0) := rfl
theorem s85_26 {c : Nat → List AV → SS → Option Out} {l0 l1 l3 l4 : Option AV} {x : Int32} {L2 : List (Nat × AV)} {St : List AV} {S : SS} : ev c 85 26 [l0, l1, some (aI x), l3, l4] L2 St S = ev c 85 27 [l0, l1, some (aI x), l3, l4] L2 (aI x :: St) S := ev_go i85_26 rfl
theorem i85_27 : insAt 85 27 = some (.iconst 1, 1, (0, 0, 0, 0), 0) := rfl
theorem s85_27 {c : Nat → List AV → SS → Option Out} {l0 l1 l2 l3 l4 : Option AV} {L2 : List (Nat × AV)} {St : List AV} {S : SS} : ev c 85 27 [l0, l1, l2, l3, l4] L2 St S = ev c 85 28 [l0, l1, l2, l3, l4] L2 (aI 1 :: St) S := ev_go i85_27 rfl
theorem i85_28 : insAt 85 28 = some (.iadd, 1, (0, 0, 0, 0), 0) := rfl
theorem s85_28 {c : Nat → List AV → SS → Option Out} {l0 l1 l2 l3 l4 : Option AV} {x y : Int32} {L2 : List (Nat × AV)} {St : List AV} {S : SS} : ev c 85 28 [l0, l1, l2, l3, l4] L2 (aI y :: aI x :: St) S = ev c 85 29 [l0, l1, l2, l3, l4] L2 (aI (x + y) :: St) S := ev_go i85_28 rfl
theorem i85_29 : insAt 85 29 = some (.iload_n 3, 1, (0, 0, 0, 0), 0) := rfl
theorem s85_29 {c : Nat → List AV → SS → Option Out} {l0 l1 l2 l4 : Option AV} {x : Int32} {L2 : List (Nat × AV)} {St : List AV} {S : SS} : ev c 85 29 [l0, l1, l2, some (aI x), l4] L2 St S = ev c 85 30 [l0, l1, l2, some (aI x), l4] L2 (aI x :: St) S := ev_go i85_29 rfl
theorem i85_30 : insAt 85 30 = some (.iload_n 1, 1, (0, 0, 0, 0), 0) := rfl
theorem s85_30 {c : Nat → List AV → SS → Option Out} {l0 l2 l3 l4 : Option AV} {x : Int32} {L2 : List (Nat × AV)} {St : List AV} {S : SS} : ev c 85 30 [l0, some (aI x), l2, l3, l4] L2 St S = ev c 85 31 [l0, some (aI x), l2, l3, l4] L2 (aI x :: St) S := ev_go i85_30 rfl
theorem i85_31 : insAt 85 31 = some (.if_icmp .ge 7, 3, (0, 0, 0, 0), 0) := rfl
theorem s85_31 {c : Nat → List AV → SS → Option Out} {l0 l1 l2 l3 l4 : Option AV} {x y : Int32} {L2 : List (Nat × AV)} {St : List AV} {S : SS} : ev c 85 31 [l0, l1, l2, l3, l4] L2 (aI y :: aI x :: St) S = if y ≤ x then ev c 85 38 [l0, l1, l2, l3, l4] L2 St S else ev c 85 34 [l0, l1, l2, l3, l4] L2 St S := ev_br i85_31 rfl
theorem i85_34 : insAt 85 34 = some (.iload_n 3, 1, (0, 0, 0, 0), 0) := rfl
theorem s85_34 {c : Nat → List AV → SS → Option Out} {l0 l1 l2 l4 : Option AV} {x : Int32} {L2 : List (Nat × AV)} {St : List AV} {S : SS} : ev c 85 34 [l0, l1, l2, some (aI x), l4] L2 St S = ev c 85 35 [l0, l1, l2, some (aI x), l4] L2 (aI x :: St) S := ev_go i85_34 rfl
theorem i85_35 : insAt 85 35 = some (.goto 6, 3, (0, 0, 0, 0), 0) := rfl
theorem s85_35 {c : Nat → List AV → SS → Option Out} {l0 l1 l2 l3 l4 : Option AV} {L2 : List (Nat × AV)} {St : List AV} {S : SS} : ev c 85 35 [l0, l1, l2, l3, l4] L2 St S = ev c 85 41 [l0, l1, l2, l3, l4] L2 St S := ev_go i85_35 rfl
theorem i85_38 : insAt 85 38 = some (.iload_n 3, 1, (0, 0, 0, 0), 0) := rfl
theorem s85_38 {c : Nat → List AV → SS → Option Out} {l0 l1 l2 l4 : Option AV} {x : Int32} {L2 : List (Nat × AV)} {St : List AV} {S : SS} : ev c 85 38 [l0, l1, l2, some (aI x), l4] L2 St S = ev c 85 39 [l0, l1, l2, some (aI x), l4] L2 (aI x :: St) S := ev_go i85_38 rfl
theorem i85_39 : insAt 85 39 = some (.iconst 1, 1, (0, 0, 0, 0), 0) := rfl
theorem s85_39 {c : Nat → List AV → SS → Option Out} {l0 l1 l2 l3 l4 : Option AV} {L2 : List (Nat × AV)} {St : List AV} {S : SS} : ev c 85 39 [l0, l1, l2, l3, l4] L2 St S = ev c 85 40 [l0, l1, l2, l3, l4] L2 (aI 1 :: St) S := ev_go i85_39 rfl
theorem i85_40 : insAt 85 40 = some (.iadd, 1, (0, 0, 0, 0), 0) := rfl
theorem s85_40 {c : Nat → List AV → SS → Option Out} {l0 l1 l2 l3 l4 : Option AV} {x y : Int32} {L2 : List (Nat × AV)} {St : List AV} {S : SS} : ev c 85 40 [l0, l1, l2, l3, l4] L2 (aI y :: aI x :: St) S = ev c 85 41 [l0, l1, l2, l3, l4] L2 (aI (x + y) :: St) S := ev_go i85_40 rfl
theorem i85_41 : insAt 85 41 = some (.invokevirtual 95, 3, (30, 2, 2, 4), 0) := rfl
theorem s85_41 {c : Nat → List AV → SS → Option Out} {l0 l1 l2 l3 l4 : Option AV} {a0 : Int32} {a1 : Int32} {j t : Nat} {L2 : List (Nat × AV)} {S : SS} : ev c 85 41 [l0, l1, l2, l3, l4] L2 [aI a1, aI a0, aR (4, j, t)] S = ck (c 30 [aR (4, j, t), aI a0, aI a1] S) (fun v S' => ev c 85 44 [l0, l1, l2, l3, l4] L2 (v.toList ++ []) S') := ev_call i85_41 rfl
theorem i85_44 : insAt 85 44 = some (.istore 4, 2, (0, 0, 0, 0), 0) := rfl
theorem s85_44 {c : Nat → List AV → SS → Option Out} {l0 l1 l2 l3 l4 : Option AV} {x : Int32} {L2 : List (Nat × AV)} {St : List AV} {S : SS} : ev c 85 44 [l0, l1, l2, l3, l4] L2 (aI x :: St) S = ev c 85 46 [l0, l1, l2, l3, some (aI x)] (kil L2 4) St S := ev_go i85_44 rfl
theorem i85_46 : insAt 85 46 = some (.aload_n 0, 1, (0, 0, 0, 0), 0) := rfl
theorem s85_46 {c : Nat → List AV → SS → Option Out} {l1 l2 l3 l4 : Option AV} {o : OId} {L2 : List (Nat × AV)} {St : List AV} {S : SS} : ev c 85 46 [some (aR o), l1, l2, l3, l4] L2 St S = ev c 85 47 [some (aR o), l1, l2, l3, l4] L2 (aR o :: St) S := ev_go i85_46 rfl
theorem i85_47 : insAt 85 47 = some (.getfield 47, 3, (4, 10, 0, 0), 0) := rfl
theorem s85_47 {c : Nat → List AV → SS → Option Out} {l0 l1 l2 l3 l4 : Option AV} {j t : Nat} {L2 : List (Nat × AV)} {St : List AV} {S : SS} : ev c 85 47 [l0, l1, l2, l3, l4] L2 (aR (4, j, t) :: St) S = ev c 85 50 [l0, l1, l2, l3, l4] L2 (S.2.2.1 (4, j, t) 10 :: St) S := ev_go i85_47 rfl
theorem i85_50 : insAt 85 50 = some (.iload_n 2, 1, (0, 0, 0, 0), 0) := rfl
theorem s85_50 {c : Nat → List AV → SS → Option Out} {l0 l1 l3 l4 : Option AV} {x : Int32} {L2 : List (Nat × AV)} {St : List AV} {S : SS} : ev c 85 50 [l0, l1, some (aI x), l3, l4] L2 St S = ev c 85 51 [l0, l1, some (aI x), l3, l4] L2 (aI x :: St) S := ev_go i85_50 rfl
theorem i85_51 : insAt 85 51 = some (.iload_n 3, 1, (0, 0, 0, 0), 0) := rfl
theorem s85_51 {c : Nat → List AV → SS → Option Out} {l0 l1 l2 l4 : Option AV} {x : Int32} {L2 : List (Nat × AV)} {St : List AV} {S : SS} : ev c 85 51 [l0, l1, l2, some (aI x), l4] L2 St S = ev c 85 52 [l0, l1, l2, some (aI x), l4] L2 (aI x :: St) S := ev_go i85_51 rfl
theorem i85_52 : insAt 85 52 = some (.invokestatic 99, 3, (31, 2, 1, 0), 0) := rfl
theorem s85_52 {c : Nat → List AV → SS → Option Out} {l0 l1 l2 l3 l4 : Option AV} {t0 : AV} {a0 : Int32} {a1 : Int32} {L2 : List (Nat × AV)} {S : SS} : ev c 85 52 [l0, l1, l2, l3, l4] L2 [aI a1, aI a0, t0] S = ck (c 31 [aI a0, aI a1] S) (fun v S' => ev c 85 55 [l0, l1, l2, l3, l4] L2 (v.toList ++ [t0]) S') := ev_call i85_52 rfl
theorem i85_55 : insAt 85 55 = some (.iload 4, 2, (0, 0, 0, 0), 0) := rfl
theorem s85_55 {c : Nat → List AV → SS → Option Out} {l0 l1 l2 l3 : Option AV} {x : Int32} {L2 : List (Nat × AV)} {St : List AV} {S : SS} : ev c 85 55 [l0, l1, l2, l3, some (aI x)] L2 St S = ev c 85 57 [l0, l1, l2, l3, some (aI x)] L2 (aI x :: St) S := ev_go i85_55 rfl
theorem i85_57 : insAt 85 57 = some (.invokestatic 102, 3, (36, 3, 1, 0), 0) := rfl
theorem s85_57 {c : Nat → List AV → SS → Option Out} {l0 l1 l2 l3 l4 : Option AV} {a0 : OId} {a1 : Int32} {a2 : Int32} {L2 : List (Nat × AV)} {S : SS} : ev c 85 57 [l0, l1, l2, l3, l4] L2 [aI a2, aI a1, aR a0] S = ck (c 36 [aR a0, aI a1, aI a2] S) (fun v S' => ev c 85 60 [l0, l1, l2, l3, l4] L2 (v.toList ++ []) S') := ev_call i85_57 rfl
theorem i85_60 : insAt 85 60 = some (.iinc 3 1, 3, (0, 0, 0, 0), 0) := rfl
theorem s85_60 {c : Nat → List AV → SS → Option Out} {l0 l1 l2 l4 : Option AV} {x : Int32} {L2 : List (Nat × AV)} {St : List AV} {S : SS} : ev c 85 60 [l0, l1, l2, some (aI x), l4] L2 St S = ev c 85 63 [l0, l1, l2, some (aI (x + 1)), l4] (kil L2 3) St S := ev_go i85_60 rfl
theorem i85_63 : insAt 85 63 = some (.goto (-53), 3, (0, 0, 0, 0), 0) := rfl
theorem s85_63 {c : Nat → List AV → SS → Option Out} {l0 l1 l2 l3 l4 : Option AV} {L2 : List (Nat × AV)} {St : List AV} {S : SS} : ev c 85 63 [l0, l1, l2, l3, l4] L2 St S = ev c 85 10 [l0, l1, l2, l3, l4] L2 St S := ev_go i85_63 rfl
theorem i85_66 : insAt 85 66 = some (.iinc 2 1, 3, (0, 0, 0, 0), 0) := rfl
theorem s85_66 {c : Nat → List AV → SS → Option Out} {l0 l1 l3 l4 : Option AV} {x : Int32} {L2 : List (Nat × AV)} {St : List AV} {S : SS} : ev c 85 66 [l0, l1, some (aI x), l3, l4] L2 St S = ev c 85 69 [l0, l1, some (aI (x + 1)), l3, l4] (kil L2 2) St S := ev_go i85_66 rfl
theorem i85_69 : insAt 85 69 = some (.goto (-67), 3, (0, 0, 0, 0), 0) := rfl
theorem s85_69 {c : Nat → List AV → SS → Option Out} {l0 l1 l2 l3 l4 : Option AV} {L2 : List (Nat × AV)} {St : List AV} {S : SS} : ev c 85 69 [l0, l1, l2, l3, l4] L2 St S = ev c 85 2 [l0, l1, l2, l3, l4] L2 St S := ev_go i85_69 rfl
theorem i85_72 : insAt 85 72 = some (.return_, 1, (0, 0, 0, 0), 0) := rfl
theorem s85_72 {c : Nat → List AV → SS → Option Out} {l0 l1 l2 l3 l4 : Option AV} {L2 : List (Nat × AV)} {St : List AV} {S : SS} : ev c 85 72 [l0, l1, l2, l3, l4] L2 [] S = some (.inl none, S) := ev_end i85_72 rfl
theorem m85 {d : Nat} {o : OId} {a0 : Int32} {S : SS} : evm (d + 1) 85 [aR o, aI a0] S = ev (evm d) 85 0 [some (aR o), some (aI a0), none, none, none] [] [] S := evm_s (n := 5) rfl (Nat.le_of_ble_eq_true rfl) rfl rfl
/-! FrequencyOffice$Books.quietestFree(II)I -/
theorem i88_0 : insAt 88 0 = some (.iconst (-1), 1, (0, 0, 0, 0), 0) := rfl
theorem s88_0 {c : Nat → List AV → SS → Option Out} {l0 l1 l2 l3 l4 l5 l6 l7 : Option AV} {L2 : List (Nat × AV)} {St : List AV} {S : SS} : ev c 88 0 [l0, l1, l2, l3, l4, l5, l6, l7] L2 St S = ev c 88 1 [l0, l1, l2, l3, l4, l5, l6, l7] L2 (aI (-1) :: St) S := ev_go i88_0 rfl
theorem i88_1 : insAt 88 1 = some (.istore_n 3, 1, (0, 0, 0, 0), 0) := rfl
theorem s88_1 {c : Nat → List AV → SS → Option Out} {l0 l1 l2 l3 l4 l5 l6 l7 : Option AV} {x : Int32} {L2 : List (Nat × AV)} {St : List AV} {S : SS} : ev c 88 1 [l0, l1, l2, l3, l4, l5, l6, l7] L2 (aI x :: St) S = ev c 88 2 [l0, l1, l2, some (aI x), l4, l5, l6, l7] (kil L2 3) St S := ev_go i88_1 rfl
theorem i88_2 : insAt 88 2 = some (.iconst 0, 1, (0, 0, 0, 0), 0) := rfl
theorem s88_2 {c : Nat → List AV → SS → Option Out} {l0 l1 l2 l3 l4 l5 l6 l7 : Option AV} {L2 : List (Nat × AV)} {St : List AV} {S : SS} : ev c 88 2 [l0, l1, l2, l3, l4, l5, l6, l7] L2 St S = ev c 88 3 [l0, l1, l2, l3, l4, l5, l6, l7] L2 (aI 0 :: St) S := ev_go i88_2 rfl
theorem i88_3 : insAt 88 3 = some (.istore 4, 2, (0, 0, 0, 0), 0) := rfl
theorem s88_3 {c : Nat → List AV → SS → Option Out} {l0 l1 l2 l3 l4 l5 l6 l7 : Option AV} {x : Int32} {L2 : List (Nat × AV)} {St : List AV} {S : SS} : ev c 88 3 [l0, l1, l2, l3, l4, l5, l6, l7] L2 (aI x :: St) S = ev c 88 5 [l0, l1, l2, l3, some (aI x), l5, l6, l7] (kil L2 4) St S := ev_go i88_3 rfl
theorem i88_5 : insAt 88 5 = some (.iconst 0, 1, (0, 0, 0, 0), 0) := rfl
theorem s88_5 {c : Nat → List AV → SS → Option Out} {l0 l1 l2 l3 l4 l5 l6 l7 : Option AV} {L2 : List (Nat × AV)} {St : List AV} {S : SS} : ev c 88 5 [l0, l1, l2, l3, l4, l5, l6, l7] L2 St S = ev c 88 6 [l0, l1, l2, l3, l4, l5, l6, l7] L2 (aI 0 :: St) S := ev_go i88_5 rfl
theorem i88_6 : insAt 88 6 = some (.istore 5, 2, (0, 0, 0, 0), 0) := rfl
theorem s88_6 {c : Nat → List AV → SS → Option Out} {l0 l1 l2 l3 l4 l5 l6 l7 : Option AV} {x : Int32} {L2 : List (Nat × AV)} {St : List AV} {S : SS} : ev c 88 6 [l0, l1, l2, l3, l4, l5, l6, l7] L2 (aI x :: St) S = ev c 88 8 [l0, l1, l2, l3, l4, some (aI x), l6, l7] (kil L2 5) St S := ev_go i88_6 rfl
theorem i88_8 : insAt 88 8 = some (.iload 5, 2, (0, 0, 0, 0), 0) := rfl
theorem s88_8 {c : Nat → List AV → SS → Option Out} {l0 l1 l2 l3 l4 l6 l7 : Option AV} {x : Int32} {L2 : List (Nat × AV)} {St : List AV} {S : SS} : ev c 88 8 [l0, l1, l2, l3, l4, some (aI x), l6, l7] L2 St S = ev c 88 10 [l0, l1, l2, l3, l4, some (aI x), l6, l7] L2 (aI x :: St) S := ev_go i88_8 rfl
theorem i88_10 : insAt 88 10 = some (.bipush 8, 2, (0, 0, 0, 0), 0) := rfl
theorem s88_10 {c : Nat → List AV → SS → Option Out} {l0 l1 l2 l3 l4 l5 l6 l7 : Option AV} {L2 : List (Nat × AV)} {St : List AV} {S : SS} : ev c 88 10 [l0, l1, l2, l3, l4, l5, l6, l7] L2 St S = ev c 88 12 [l0, l1, l2, l3, l4, l5, l6, l7] L2 (aI 8 :: St) S := ev_go i88_10 rfl
theorem i88_12 : insAt 88 12 = some (.if_icmp .ge 62, 3, (0, 0, 0, 0), 0) := rfl
theorem s88_12 {c : Nat → List AV → SS → Option Out} {l0 l1 l2 l3 l4 l5 l6 l7 : Option AV} {x y : Int32} {L2 : List (Nat × AV)} {St : List AV} {S : SS} : ev c 88 12 [l0, l1, l2, l3, l4, l5, l6, l7] L2 (aI y :: aI x :: St) S = if y ≤ x then ev c 88 74 [l0, l1, l2, l3, l4, l5, l6, l7] L2 St S else ev c 88 15 [l0, l1, l2, l3, l4, l5, l6, l7] L2 St S := ev_br i88_12 rfl
theorem i88_15 : insAt 88 15 = some (.aload_n 0, 1, (0, 0, 0, 0), 0) := rfl
theorem s88_15 {c : Nat → List AV → SS → Option Out} {l1 l2 l3 l4 l5 l6 l7 : Option AV} {o : OId} {L2 : List (Nat × AV)} {St : List AV} {S : SS} : ev c 88 15 [some (aR o), l1, l2, l3, l4, l5, l6, l7] L2 St S = ev c 88 16 [some (aR o), l1, l2, l3, l4, l5, l6, l7] L2 (aR o :: St) S := ev_go i88_15 rfl
theorem i88_16 : insAt 88 16 = some (.iload_n 1, 1, (0, 0, 0, 0), 0) := rfl
theorem s88_16 {c : Nat → List AV → SS → Option Out} {l0 l2 l3 l4 l5 l6 l7 : Option AV} {x : Int32} {L2 : List (Nat × AV)} {St : List AV} {S : SS} : ev c 88 16 [l0, some (aI x), l2, l3, l4, l5, l6, l7] L2 St S = ev c 88 17 [l0, some (aI x), l2, l3, l4, l5, l6, l7] L2 (aI x :: St) S := ev_go i88_16 rfl
theorem i88_17 : insAt 88 17 = some (.iload_n 2, 1, (0, 0, 0, 0), 0) := rfl
theorem s88_17 {c : Nat → List AV → SS → Option Out} {l0 l1 l3 l4 l5 l6 l7 : Option AV} {x : Int32} {L2 : List (Nat × AV)} {St : List AV} {S : SS} : ev c 88 17 [l0, l1, some (aI x), l3, l4, l5, l6, l7] L2 St S = ev c 88 18 [l0, l1, some (aI x), l3, l4, l5, l6, l7] L2 (aI x :: St) S := ev_go i88_17 rfl
theorem i88_18 : insAt 88 18 = some (.iload 5, 2, (0, 0, 0, 0), 0) := rfl
theorem s88_18 {c : Nat → List AV → SS → Option Out} {l0 l1 l2 l3 l4 l6 l7 : Option AV} {x : Int32} {L2 : List (Nat × AV)} {St : List AV} {S : SS} : ev c 88 18 [l0, l1, l2, l3, l4, some (aI x), l6, l7] L2 St S = ev c 88 20 [l0, l1, l2, l3, l4, some (aI x), l6, l7] L2 (aI x :: St) S := ev_go i88_18 rfl
theorem i88_20 : insAt 88 20 = some (.iconst (-1), 1, (0, 0, 0, 0), 0) := rfl
theorem s88_20 {c : Nat → List AV → SS → Option Out} {l0 l1 l2 l3 l4 l5 l6 l7 : Option AV} {L2 : List (Nat × AV)} {St : List AV} {S : SS} : ev c 88 20 [l0, l1, l2, l3, l4, l5, l6, l7] L2 St S = ev c 88 21 [l0, l1, l2, l3, l4, l5, l6, l7] L2 (aI (-1) :: St) S := ev_go i88_20 rfl
theorem i88_21 : insAt 88 21 = some (.invokevirtual 143, 3, (89, 4, 2, 4), 0) := rfl
theorem s88_21 {c : Nat → List AV → SS → Option Out} {l0 l1 l2 l3 l4 l5 l6 l7 : Option AV} {a0 : Int32} {a1 : Int32} {a2 : Int32} {a3 : Int32} {j t : Nat} {L2 : List (Nat × AV)} {S : SS} : ev c 88 21 [l0, l1, l2, l3, l4, l5, l6, l7] L2 [aI a3, aI a2, aI a1, aI a0, aR (4, j, t)] S = ck (c 89 [aR (4, j, t), aI a0, aI a1, aI a2, aI a3] S) (fun v S' => ev c 88 24 [l0, l1, l2, l3, l4, l5, l6, l7] L2 (v.toList ++ []) S') := ev_call i88_21 rfl
theorem i88_24 : insAt 88 24 = some (.istore 6, 2, (0, 0, 0, 0), 0) := rfl
theorem s88_24 {c : Nat → List AV → SS → Option Out} {l0 l1 l2 l3 l4 l5 l6 l7 : Option AV} {x : Int32} {L2 : List (Nat × AV)} {St : List AV} {S : SS} : ev c 88 24 [l0, l1, l2, l3, l4, l5, l6, l7] L2 (aI x :: St) S = ev c 88 26 [l0, l1, l2, l3, l4, l5, some (aI x), l7] (kil L2 6) St S := ev_go i88_24 rfl
theorem i88_26 : insAt 88 26 = some (.iload_n 3, 1, (0, 0, 0, 0), 0) := rfl
theorem s88_26 {c : Nat → List AV → SS → Option Out} {l0 l1 l2 l4 l5 l6 l7 : Option AV} {x : Int32} {L2 : List (Nat × AV)} {St : List AV} {S : SS} : ev c 88 26 [l0, l1, l2, some (aI x), l4, l5, l6, l7] L2 St S = ev c 88 27 [l0, l1, l2, some (aI x), l4, l5, l6, l7] L2 (aI x :: St) S := ev_go i88_26 rfl
theorem i88_27 : insAt 88 27 = some (.iconst (-1), 1, (0, 0, 0, 0), 0) := rfl
theorem s88_27 {c : Nat → List AV → SS → Option Out} {l0 l1 l2 l3 l4 l5 l6 l7 : Option AV} {L2 : List (Nat × AV)} {St : List AV} {S : SS} : ev c 88 27 [l0, l1, l2, l3, l4, l5, l6, l7] L2 St S = ev c 88 28 [l0, l1, l2, l3, l4, l5, l6, l7] L2 (aI (-1) :: St) S := ev_go i88_27 rfl
theorem i88_28 : insAt 88 28 = some (.if_icmp .eq 10, 3, (0, 0, 0, 0), 0) := rfl
theorem s88_28 {c : Nat → List AV → SS → Option Out} {l0 l1 l2 l3 l4 l5 l6 l7 : Option AV} {x y : Int32} {L2 : List (Nat × AV)} {St : List AV} {S : SS} : ev c 88 28 [l0, l1, l2, l3, l4, l5, l6, l7] L2 (aI y :: aI x :: St) S = if x = y then ev c 88 38 [l0, l1, l2, l3, l4, l5, l6, l7] L2 St S else ev c 88 31 [l0, l1, l2, l3, l4, l5, l6, l7] L2 St S := ev_br i88_28 rfl
theorem i88_31 : insAt 88 31 = some (.iload 6, 2, (0, 0, 0, 0), 0) := rfl
theorem s88_31 {c : Nat → List AV → SS → Option Out} {l0 l1 l2 l3 l4 l5 l7 : Option AV} {x : Int32} {L2 : List (Nat × AV)} {St : List AV} {S : SS} : ev c 88 31 [l0, l1, l2, l3, l4, l5, some (aI x), l7] L2 St S = ev c 88 33 [l0, l1, l2, l3, l4, l5, some (aI x), l7] L2 (aI x :: St) S := ev_go i88_31 rfl
theorem i88_33 : insAt 88 33 = some (.iload 4, 2, (0, 0, 0, 0), 0) := rfl
theorem s88_33 {c : Nat → List AV → SS → Option Out} {l0 l1 l2 l3 l5 l6 l7 : Option AV} {x : Int32} {L2 : List (Nat × AV)} {St : List AV} {S : SS} : ev c 88 33 [l0, l1, l2, l3, some (aI x), l5, l6, l7] L2 St S = ev c 88 35 [l0, l1, l2, l3, some (aI x), l5, l6, l7] L2 (aI x :: St) S := ev_go i88_33 rfl
theorem i88_35 : insAt 88 35 = some (.if_icmp .ge 7, 3, (0, 0, 0, 0), 0) := rfl
theorem s88_35 {c : Nat → List AV → SS → Option Out} {l0 l1 l2 l3 l4 l5 l6 l7 : Option AV} {x y : Int32} {L2 : List (Nat × AV)} {St : List AV} {S : SS} : ev c 88 35 [l0, l1, l2, l3, l4, l5, l6, l7] L2 (aI y :: aI x :: St) S = if y ≤ x then ev c 88 42 [l0, l1, l2, l3, l4, l5, l6, l7] L2 St S else ev c 88 38 [l0, l1, l2, l3, l4, l5, l6, l7] L2 St S := ev_br i88_35 rfl
theorem i88_38 : insAt 88 38 = some (.iconst 1, 1, (0, 0, 0, 0), 0) := rfl
theorem s88_38 {c : Nat → List AV → SS → Option Out} {l0 l1 l2 l3 l4 l5 l6 l7 : Option AV} {L2 : List (Nat × AV)} {St : List AV} {S : SS} : ev c 88 38 [l0, l1, l2, l3, l4, l5, l6, l7] L2 St S = ev c 88 39 [l0, l1, l2, l3, l4, l5, l6, l7] L2 (aI 1 :: St) S := ev_go i88_38 rfl
theorem i88_39 : insAt 88 39 = some (.goto 4, 3, (0, 0, 0, 0), 0) := rfl
theorem s88_39 {c : Nat → List AV → SS → Option Out} {l0 l1 l2 l3 l4 l5 l6 l7 : Option AV} {L2 : List (Nat × AV)} {St : List AV} {S : SS} : ev c 88 39 [l0, l1, l2, l3, l4, l5, l6, l7] L2 St S = ev c 88 43 [l0, l1, l2, l3, l4, l5, l6, l7] L2 St S := ev_go i88_39 rfl
theorem i88_42 : insAt 88 42 = some (.iconst 0, 1, (0, 0, 0, 0), 0) := rfl
theorem s88_42 {c : Nat → List AV → SS → Option Out} {l0 l1 l2 l3 l4 l5 l6 l7 : Option AV} {L2 : List (Nat × AV)} {St : List AV} {S : SS} : ev c 88 42 [l0, l1, l2, l3, l4, l5, l6, l7] L2 St S = ev c 88 43 [l0, l1, l2, l3, l4, l5, l6, l7] L2 (aI 0 :: St) S := ev_go i88_42 rfl
theorem i88_43 : insAt 88 43 = some (.istore 7, 2, (0, 0, 0, 0), 0) := rfl
theorem s88_43 {c : Nat → List AV → SS → Option Out} {l0 l1 l2 l3 l4 l5 l6 l7 : Option AV} {x : Int32} {L2 : List (Nat × AV)} {St : List AV} {S : SS} : ev c 88 43 [l0, l1, l2, l3, l4, l5, l6, l7] L2 (aI x :: St) S = ev c 88 45 [l0, l1, l2, l3, l4, l5, l6, some (aI x)] (kil L2 7) St S := ev_go i88_43 rfl
theorem i88_45 : insAt 88 45 = some (.iload 7, 2, (0, 0, 0, 0), 0) := rfl
theorem s88_45 {c : Nat → List AV → SS → Option Out} {l0 l1 l2 l3 l4 l5 l6 : Option AV} {x : Int32} {L2 : List (Nat × AV)} {St : List AV} {S : SS} : ev c 88 45 [l0, l1, l2, l3, l4, l5, l6, some (aI x)] L2 St S = ev c 88 47 [l0, l1, l2, l3, l4, l5, l6, some (aI x)] L2 (aI x :: St) S := ev_go i88_45 rfl
theorem i88_47 : insAt 88 47 = some (.ifCond .eq 21, 3, (0, 0, 0, 0), 0) := rfl
theorem s88_47 {c : Nat → List AV → SS → Option Out} {l0 l1 l2 l3 l4 l5 l6 l7 : Option AV} {x : Int32} {L2 : List (Nat × AV)} {St : List AV} {S : SS} : ev c 88 47 [l0, l1, l2, l3, l4, l5, l6, l7] L2 (aI x :: St) S = if x = 0 then ev c 88 68 [l0, l1, l2, l3, l4, l5, l6, l7] L2 St S else ev c 88 50 [l0, l1, l2, l3, l4, l5, l6, l7] L2 St S := ev_br i88_47 rfl
theorem i88_50 : insAt 88 50 = some (.aload_n 0, 1, (0, 0, 0, 0), 0) := rfl
theorem s88_50 {c : Nat → List AV → SS → Option Out} {l1 l2 l3 l4 l5 l6 l7 : Option AV} {o : OId} {L2 : List (Nat × AV)} {St : List AV} {S : SS} : ev c 88 50 [some (aR o), l1, l2, l3, l4, l5, l6, l7] L2 St S = ev c 88 51 [some (aR o), l1, l2, l3, l4, l5, l6, l7] L2 (aR o :: St) S := ev_go i88_50 rfl
theorem i88_51 : insAt 88 51 = some (.iload_n 1, 1, (0, 0, 0, 0), 0) := rfl
theorem s88_51 {c : Nat → List AV → SS → Option Out} {l0 l2 l3 l4 l5 l6 l7 : Option AV} {x : Int32} {L2 : List (Nat × AV)} {St : List AV} {S : SS} : ev c 88 51 [l0, some (aI x), l2, l3, l4, l5, l6, l7] L2 St S = ev c 88 52 [l0, some (aI x), l2, l3, l4, l5, l6, l7] L2 (aI x :: St) S := ev_go i88_51 rfl
theorem i88_52 : insAt 88 52 = some (.iload_n 2, 1, (0, 0, 0, 0), 0) := rfl
theorem s88_52 {c : Nat → List AV → SS → Option Out} {l0 l1 l3 l4 l5 l6 l7 : Option AV} {x : Int32} {L2 : List (Nat × AV)} {St : List AV} {S : SS} : ev c 88 52 [l0, l1, some (aI x), l3, l4, l5, l6, l7] L2 St S = ev c 88 53 [l0, l1, some (aI x), l3, l4, l5, l6, l7] L2 (aI x :: St) S := ev_go i88_52 rfl
theorem i88_53 : insAt 88 53 = some (.iload 5, 2, (0, 0, 0, 0), 0) := rfl
theorem s88_53 {c : Nat → List AV → SS → Option Out} {l0 l1 l2 l3 l4 l6 l7 : Option AV} {x : Int32} {L2 : List (Nat × AV)} {St : List AV} {S : SS} : ev c 88 53 [l0, l1, l2, l3, l4, some (aI x), l6, l7] L2 St S = ev c 88 55 [l0, l1, l2, l3, l4, some (aI x), l6, l7] L2 (aI x :: St) S := ev_go i88_53 rfl
theorem i88_55 : insAt 88 55 = some (.invokevirtual 147, 3, (90, 3, 2, 4), 0) := rfl
theorem s88_55 {c : Nat → List AV → SS → Option Out} {l0 l1 l2 l3 l4 l5 l6 l7 : Option AV} {a0 : Int32} {a1 : Int32} {a2 : Int32} {j t : Nat} {L2 : List (Nat × AV)} {S : SS} : ev c 88 55 [l0, l1, l2, l3, l4, l5, l6, l7] L2 [aI a2, aI a1, aI a0, aR (4, j, t)] S = ck (c 90 [aR (4, j, t), aI a0, aI a1, aI a2] S) (fun v S' => ev c 88 58 [l0, l1, l2, l3, l4, l5, l6, l7] L2 (v.toList ++ []) S') := ev_call i88_55 rfl
theorem i88_58 : insAt 88 58 = some (.ifCond .ne 10, 3, (0, 0, 0, 0), 0) := rfl
theorem s88_58 {c : Nat → List AV → SS → Option Out} {l0 l1 l2 l3 l4 l5 l6 l7 : Option AV} {x : Int32} {L2 : List (Nat × AV)} {St : List AV} {S : SS} : ev c 88 58 [l0, l1, l2, l3, l4, l5, l6, l7] L2 (aI x :: St) S = if x = 0 then ev c 88 61 [l0, l1, l2, l3, l4, l5, l6, l7] L2 St S else ev c 88 68 [l0, l1, l2, l3, l4, l5, l6, l7] L2 St S := (ev_br i88_58 rfl).trans (ite_not _ _ _)
theorem i88_61 : insAt 88 61 = some (.iload 5, 2, (0, 0, 0, 0), 0) := rfl
theorem s88_61 {c : Nat → List AV → SS → Option Out} {l0 l1 l2 l3 l4 l6 l7 : Option AV} {x : Int32} {L2 : List (Nat × AV)} {St : List AV} {S : SS} : ev c 88 61 [l0, l1, l2, l3, l4, some (aI x), l6, l7] L2 St S = ev c 88 63 [l0, l1, l2, l3, l4, some (aI x), l6, l7] L2 (aI x :: St) S := ev_go i88_61 rfl
theorem i88_63 : insAt 88 63 = some (.istore_n 3, 1, (0, 0, 0, 0), 0) := rfl
theorem s88_63 {c : Nat → List AV → SS → Option Out} {l0 l1 l2 l3 l4 l5 l6 l7 : Option AV} {x : Int32} {L2 : List (Nat × AV)} {St : List AV} {S : SS} : ev c 88 63 [l0, l1, l2, l3, l4, l5, l6, l7] L2 (aI x :: St) S = ev c 88 64 [l0, l1, l2, some (aI x), l4, l5, l6, l7] (kil L2 3) St S := ev_go i88_63 rfl
theorem i88_64 : insAt 88 64 = some (.iload 6, 2, (0, 0, 0, 0), 0) := rfl
theorem s88_64 {c : Nat → List AV → SS → Option Out} {l0 l1 l2 l3 l4 l5 l7 : Option AV} {x : Int32} {L2 : List (Nat × AV)} {St : List AV} {S : SS} : ev c 88 64 [l0, l1, l2, l3, l4, l5, some (aI x), l7] L2 St S = ev c 88 66 [l0, l1, l2, l3, l4, l5, some (aI x), l7] L2 (aI x :: St) S := ev_go i88_64 rfl
theorem i88_66 : insAt 88 66 = some (.istore 4, 2, (0, 0, 0, 0), 0) := rfl
theorem s88_66 {c : Nat → List AV → SS → Option Out} {l0 l1 l2 l3 l4 l5 l6 l7 : Option AV} {x : Int32} {L2 : List (Nat × AV)} {St : List AV} {S : SS} : ev c 88 66 [l0, l1, l2, l3, l4, l5, l6, l7] L2 (aI x :: St) S = ev c 88 68 [l0, l1, l2, l3, some (aI x), l5, l6, l7] (kil L2 4) St S := ev_go i88_66 rfl
theorem i88_68 : insAt 88 68 = some (.iinc 5 1, 3, (0, 0, 0, 0), 0) := rfl
theorem s88_68 {c : Nat → List AV → SS → Option Out} {l0 l1 l2 l3 l4 l6 l7 : Option AV} {x : Int32} {L2 : List (Nat × AV)} {St : List AV} {S : SS} : ev c 88 68 [l0, l1, l2, l3, l4, some (aI x), l6, l7] L2 St S = ev c 88 71 [l0, l1, l2, l3, l4, some (aI (x + 1)), l6, l7] (kil L2 5) St S := ev_go i88_68 rfl
theorem i88_71 : insAt 88 71 = some (.goto (-63), 3, (0, 0, 0, 0), 0) := rfl
theorem s88_71 {c : Nat → List AV → SS → Option Out} {l0 l1 l2 l3 l4 l5 l6 l7 : Option AV} {L2 : List (Nat × AV)} {St : List AV} {S : SS} : ev c 88 71 [l0, l1, l2, l3, l4, l5, l6, l7] L2 St S = ev c 88 8 [l0, l1, l2, l3, l4, l5, l6, l7] L2 St S := ev_go i88_71 rfl
theorem i88_74 : insAt 88 74 = some (.iload_n 3, 1, (0, 0, 0, 0), 0) := rfl
theorem s88_74 {c : Nat → List AV → SS → Option Out} {l0 l1 l2 l4 l5 l6 l7 : Option AV} {x : Int32} {L2 : List (Nat × AV)} {St : List AV} {S : SS} : ev c 88 74 [l0, l1, l2, some (aI x), l4, l5, l6, l7] L2 St S = ev c 88 75 [l0, l1, l2, some (aI x), l4, l5, l6, l7] L2 (aI x :: St) S := ev_go i88_74 rfl
theorem i88_75 : insAt 88 75 = some (.ireturn, 1, (0, 0, 0, 0), 0) := rfl
theorem s88_75 {c : Nat → List AV → SS → Option Out} {l0 l1 l2 l3 l4 l5 l6 l7 : Option AV} {x : Int32} {L2 : List (Nat × AV)} {St : List AV} {S : SS} : ev c 88 75 [l0, l1, l2, l3, l4, l5, l6, l7] L2 [aI x] S = some (.inl (some (aI x)), S) := ev_end i88_75 rfl
theorem m88 {d : Nat} {o : OId} {a0 : Int32} {a1 : Int32} {S : SS} : evm (d + 1) 88 [aR o, aI a0, aI a1] S = ev (evm d) 88 0 [some (aR o), some (aI a0), some (aI a1), none, none, none, none, none] [] [] S := evm_s (n := 8) rfl (Nat.le_of_ble_eq_true rfl) rfl rfl
/-! FrequencyOffice$Books.disturbance(IIII)I -/
theorem i89_0 : insAt 89 0 = some (.iconst 0, 1, (0, 0, 0, 0), 0) := rfl
theorem s89_0 {c : Nat → List AV → SS → Option Out} {l0 l1 l2 l3 l4 l5 l6 l7 : Option AV} {L2 : List (Nat × AV)} {St : List AV} {S : SS} : ev c 89 0 [l0, l1, l2, l3, l4, l5, l6, l7] L2 St S = ev c 89 1 [l0, l1, l2, l3, l4, l5, l6, l7] L2 (aI 0 :: St) S := ev_go i89_0 rfl
theorem i89_1 : insAt 89 1 = some (.istore 5, 2, (0, 0, 0, 0), 0) := rfl
theorem s89_1 {c : Nat → List AV → SS → Option Out} {l0 l1 l2 l3 l4 l5 l6 l7 : Option AV} {x : Int32} {L2 : List (Nat × AV)} {St : List AV} {S : SS} : ev c 89 1 [l0, l1, l2, l3, l4, l5, l6, l7] L2 (aI x :: St) S = ev c 89 3 [l0, l1, l2, l3, l4, some (aI x), l6, l7] (kil L2 5) St S := ev_go i89_1 rfl
theorem i89_3 : insAt 89 3 = some (.iconst 0, 1, (0, 0, 0, 0), 0) := rfl
theorem s89_3 {c : Nat → List AV → SS → Option Out} {l0 l1 l2 l3 l4 l5 l6 l7 : Option AV} {L2 : List (Nat × AV)} {St : List AV} {S : SS} : ev c 89 3 [l0, l1, l2, l3, l4, l5, l6, l7] L2 St S = ev c 89 4 [l0, l1, l2, l3, l4, l5, l6, l7] L2 (aI 0 :: St) S := ev_go i89_3 rfl
theorem i89_4 : insAt 89 4 = some (.istore 6, 2, (0, 0, 0, 0), 0) := rfl
theorem s89_4 {c : Nat → List AV → SS → Option Out} {l0 l1 l2 l3 l4 l5 l6 l7 : Option AV} {x : Int32} {L2 : List (Nat × AV)} {St : List AV} {S : SS} : ev c 89 4 [l0, l1, l2, l3, l4, l5, l6, l7] L2 (aI x :: St) S = ev c 89 6 [l0, l1, l2, l3, l4, l5, some (aI x), l7] (kil L2 6) St S := ev_go i89_4 rfl
theorem i89_6 : insAt 89 6 = some (.iload 6, 2, (0, 0, 0, 0), 0) := rfl
theorem s89_6 {c : Nat → List AV → SS → Option Out} {l0 l1 l2 l3 l4 l5 l7 : Option AV} {x : Int32} {L2 : List (Nat × AV)} {St : List AV} {S : SS} : ev c 89 6 [l0, l1, l2, l3, l4, l5, some (aI x), l7] L2 St S = ev c 89 8 [l0, l1, l2, l3, l4, l5, some (aI x), l7] L2 (aI x :: St) S := ev_go i89_6 rfl
theorem i89_8 : insAt 89 8 = some (.aload_n 0, 1, (0, 0, 0, 0), 0) := rfl
theorem s89_8 {c : Nat → List AV → SS → Option Out} {l1 l2 l3 l4 l5 l6 l7 : Option AV} {o : OId} {L2 : List (Nat × AV)} {St : List AV} {S : SS} : ev c 89 8 [some (aR o), l1, l2, l3, l4, l5, l6, l7] L2 St S = ev c 89 9 [some (aR o), l1, l2, l3, l4, l5, l6, l7] L2 (aR o :: St) S := ev_go i89_8 rfl
theorem i89_9 : insAt 89 9 = some (.getfield 33, 3, (4, 7, 0, 0), 0) := rfl
theorem s89_9 {c : Nat → List AV → SS → Option Out} {l0 l1 l2 l3 l4 l5 l6 l7 : Option AV} {j t : Nat} {L2 : List (Nat × AV)} {St : List AV} {S : SS} : ev c 89 9 [l0, l1, l2, l3, l4, l5, l6, l7] L2 (aR (4, j, t) :: St) S = ev c 89 12 [l0, l1, l2, l3, l4, l5, l6, l7] L2 (aI (S.1 (4, j, t) 7) :: St) S := ev_go i89_9 rfl
theorem i89_12 : insAt 89 12 = some (.if_icmp .ge 65, 3, (0, 0, 0, 0), 0) := rfl
theorem s89_12 {c : Nat → List AV → SS → Option Out} {l0 l1 l2 l3 l4 l5 l6 l7 : Option AV} {x y : Int32} {L2 : List (Nat × AV)} {St : List AV} {S : SS} : ev c 89 12 [l0, l1, l2, l3, l4, l5, l6, l7] L2 (aI y :: aI x :: St) S = if y ≤ x then ev c 89 77 [l0, l1, l2, l3, l4, l5, l6, l7] L2 St S else ev c 89 15 [l0, l1, l2, l3, l4, l5, l6, l7] L2 St S := ev_br i89_12 rfl
theorem i89_15 : insAt 89 15 = some (.aload_n 0, 1, (0, 0, 0, 0), 0) := rfl
theorem s89_15 {c : Nat → List AV → SS → Option Out} {l1 l2 l3 l4 l5 l6 l7 : Option AV} {o : OId} {L2 : List (Nat × AV)} {St : List AV} {S : SS} : ev c 89 15 [some (aR o), l1, l2, l3, l4, l5, l6, l7] L2 St S = ev c 89 16 [some (aR o), l1, l2, l3, l4, l5, l6, l7] L2 (aR o :: St) S := ev_go i89_15 rfl
theorem i89_16 : insAt 89 16 = some (.iload 6, 2, (0, 0, 0, 0), 0) := rfl
theorem s89_16 {c : Nat → List AV → SS → Option Out} {l0 l1 l2 l3 l4 l5 l7 : Option AV} {x : Int32} {L2 : List (Nat × AV)} {St : List AV} {S : SS} : ev c 89 16 [l0, l1, l2, l3, l4, l5, some (aI x), l7] L2 St S = ev c 89 18 [l0, l1, l2, l3, l4, l5, some (aI x), l7] L2 (aI x :: St) S := ev_go i89_16 rfl
theorem i89_18 : insAt 89 18 = some (.invokevirtual 58, 3, (17, 1, 2, 4), 0) := rfl
theorem s89_18 {c : Nat → List AV → SS → Option Out} {l0 l1 l2 l3 l4 l5 l6 l7 : Option AV} {a0 : Int32} {j t : Nat} {L2 : List (Nat × AV)} {S : SS} : ev c 89 18 [l0, l1, l2, l3, l4, l5, l6, l7] L2 [aI a0, aR (4, j, t)] S = ck (c 17 [aR (4, j, t), aI a0] S) (fun v S' => ev c 89 21 [l0, l1, l2, l3, l4, l5, l6, l7] L2 (v.toList ++ []) S') := ev_call i89_18 rfl
theorem i89_21 : insAt 89 21 = some (.astore 7, 2, (0, 0, 0, 0), 0) := rfl
theorem s89_21 {c : Nat → List AV → SS → Option Out} {l0 l1 l2 l3 l4 l5 l6 l7 : Option AV} {o : OId} {L2 : List (Nat × AV)} {St : List AV} {S : SS} : ev c 89 21 [l0, l1, l2, l3, l4, l5, l6, l7] L2 (aR o :: St) S = ev c 89 23 [l0, l1, l2, l3, l4, l5, l6, some (aR o)] (kil L2 7) St S := ev_go i89_21 rfl
theorem i89_23 : insAt 89 23 = some (.iload 6, 2, (0, 0, 0, 0), 0) := rfl
theorem s89_23 {c : Nat → List AV → SS → Option Out} {l0 l1 l2 l3 l4 l5 l7 : Option AV} {x : Int32} {L2 : List (Nat × AV)} {St : List AV} {S : SS} : ev c 89 23 [l0, l1, l2, l3, l4, l5, some (aI x), l7] L2 St S = ev c 89 25 [l0, l1, l2, l3, l4, l5, some (aI x), l7] L2 (aI x :: St) S := ev_go i89_23 rfl
theorem i89_25 : insAt 89 25 = some (.iload 4, 2, (0, 0, 0, 0), 0) := rfl
theorem s89_25 {c : Nat → List AV → SS → Option Out} {l0 l1 l2 l3 l5 l6 l7 : Option AV} {x : Int32} {L2 : List (Nat × AV)} {St : List AV} {S : SS} : ev c 89 25 [l0, l1, l2, l3, some (aI x), l5, l6, l7] L2 St S = ev c 89 27 [l0, l1, l2, l3, some (aI x), l5, l6, l7] L2 (aI x :: St) S := ev_go i89_25 rfl
theorem i89_27 : insAt 89 27 = some (.if_icmp .eq 44, 3, (0, 0, 0, 0), 0) := rfl
theorem s89_27 {c : Nat → List AV → SS → Option Out} {l0 l1 l2 l3 l4 l5 l6 l7 : Option AV} {x y : Int32} {L2 : List (Nat × AV)} {St : List AV} {S : SS} : ev c 89 27 [l0, l1, l2, l3, l4, l5, l6, l7] L2 (aI y :: aI x :: St) S = if x = y then ev c 89 71 [l0, l1, l2, l3, l4, l5, l6, l7] L2 St S else ev c 89 30 [l0, l1, l2, l3, l4, l5, l6, l7] L2 St S := ev_br i89_27 rfl
theorem i89_30 : insAt 89 30 = some (.aload 7, 2, (0, 0, 0, 0), 0) := rfl
theorem s89_30 {c : Nat → List AV → SS → Option Out} {l0 l1 l2 l3 l4 l5 l6 : Option AV} {o : OId} {L2 : List (Nat × AV)} {St : List AV} {S : SS} : ev c 89 30 [l0, l1, l2, l3, l4, l5, l6, some (aR o)] L2 St S = ev c 89 32 [l0, l1, l2, l3, l4, l5, l6, some (aR o)] L2 (aR o :: St) S := ev_go i89_30 rfl
theorem i89_32 : insAt 89 32 = some (.getfield 87, 3, (10, 5, 1, 0), 0) := rfl
theorem s89_32 {c : Nat → List AV → SS → Option Out} {l0 l1 l2 l3 l4 l5 l6 l7 : Option AV} {j t : Nat} {L2 : List (Nat × AV)} {St : List AV} {S : SS} : ev c 89 32 [l0, l1, l2, l3, l4, l5, l6, l7] L2 (aR (10, j, t) :: St) S = ev c 89 35 [l0, l1, l2, l3, l4, l5, l6, l7] L2 (aI (bb (S.1 (10, j, t) 5)) :: St) S := ev_go i89_32 rfl
theorem i89_35 : insAt 89 35 = some (.ifCond .ne 36, 3, (0, 0, 0, 0), 0) := rfl
theorem s89_35 {c : Nat → List AV → SS → Option Out} {l0 l1 l2 l3 l4 l5 l6 l7 : Option AV} {x : Int32} {L2 : List (Nat × AV)} {St : List AV} {S : SS} : ev c 89 35 [l0, l1, l2, l3, l4, l5, l6, l7] L2 (aI x :: St) S = if x = 0 then ev c 89 38 [l0, l1, l2, l3, l4, l5, l6, l7] L2 St S else ev c 89 71 [l0, l1, l2, l3, l4, l5, l6, l7] L2 St S := (ev_br i89_35 rfl).trans (ite_not _ _ _)
theorem i89_38 : insAt 89 38 = some (.aload 7, 2, (0, 0, 0, 0), 0) := rfl
theorem s89_38 {c : Nat → List AV → SS → Option Out} {l0 l1 l2 l3 l4 l5 l6 : Option AV} {o : OId} {L2 : List (Nat × AV)} {St : List AV} {S : SS} : ev c 89 38 [l0, l1, l2, l3, l4, l5, l6, some (aR o)] L2 St S = ev c 89 40 [l0, l1, l2, l3, l4, l5, l6, some (aR o)] L2 (aR o :: St) S := ev_go i89_38 rfl
theorem i89_40 : insAt 89 40 = some (.iload_n 1, 1, (0, 0, 0, 0), 0) := rfl
theorem s89_40 {c : Nat → List AV → SS → Option Out} {l0 l2 l3 l4 l5 l6 l7 : Option AV} {x : Int32} {L2 : List (Nat × AV)} {St : List AV} {S : SS} : ev c 89 40 [l0, some (aI x), l2, l3, l4, l5, l6, l7] L2 St S = ev c 89 41 [l0, some (aI x), l2, l3, l4, l5, l6, l7] L2 (aI x :: St) S := ev_go i89_40 rfl
theorem i89_41 : insAt 89 41 = some (.iload_n 2, 1, (0, 0, 0, 0), 0) := rfl
theorem s89_41 {c : Nat → List AV → SS → Option Out} {l0 l1 l3 l4 l5 l6 l7 : Option AV} {x : Int32} {L2 : List (Nat × AV)} {St : List AV} {S : SS} : ev c 89 41 [l0, l1, some (aI x), l3, l4, l5, l6, l7] L2 St S = ev c 89 42 [l0, l1, some (aI x), l3, l4, l5, l6, l7] L2 (aI x :: St) S := ev_go i89_41 rfl
theorem i89_42 : insAt 89 42 = some (.invokevirtual 113, 3, (28, 2, 3, 10), 0) := rfl
theorem s89_42 {c : Nat → List AV → SS → Option Out} {l0 l1 l2 l3 l4 l5 l6 l7 : Option AV} {a0 : Int32} {a1 : Int32} {j t : Nat} {L2 : List (Nat × AV)} {S : SS} : ev c 89 42 [l0, l1, l2, l3, l4, l5, l6, l7] L2 [aI a1, aI a0, aR (10, j, t)] S = ck (c 28 [aR (10, j, t), aI a0, aI a1] S) (fun v S' => ev c 89 45 [l0, l1, l2, l3, l4, l5, l6, l7] L2 (v.toList ++ []) S') := ev_call i89_42 rfl
theorem i89_45 : insAt 89 45 = some (.aload_n 0, 1, (0, 0, 0, 0), 0) := rfl
theorem s89_45 {c : Nat → List AV → SS → Option Out} {l1 l2 l3 l4 l5 l6 l7 : Option AV} {o : OId} {L2 : List (Nat × AV)} {St : List AV} {S : SS} : ev c 89 45 [some (aR o), l1, l2, l3, l4, l5, l6, l7] L2 St S = ev c 89 46 [some (aR o), l1, l2, l3, l4, l5, l6, l7] L2 (aR o :: St) S := ev_go i89_45 rfl
theorem i89_46 : insAt 89 46 = some (.getfield 18, 3, (4, 2, 0, 0), 0) := rfl
theorem s89_46 {c : Nat → List AV → SS → Option Out} {l0 l1 l2 l3 l4 l5 l6 l7 : Option AV} {j t : Nat} {L2 : List (Nat × AV)} {St : List AV} {S : SS} : ev c 89 46 [l0, l1, l2, l3, l4, l5, l6, l7] L2 (aR (4, j, t) :: St) S = ev c 89 49 [l0, l1, l2, l3, l4, l5, l6, l7] L2 (aI (S.1 (4, j, t) 2) :: St) S := ev_go i89_46 rfl
theorem i89_49 : insAt 89 49 = some (.aload_n 0, 1, (0, 0, 0, 0), 0) := rfl
theorem s89_49 {c : Nat → List AV → SS → Option Out} {l1 l2 l3 l4 l5 l6 l7 : Option AV} {o : OId} {L2 : List (Nat × AV)} {St : List AV} {S : SS} : ev c 89 49 [some (aR o), l1, l2, l3, l4, l5, l6, l7] L2 St S = ev c 89 50 [some (aR o), l1, l2, l3, l4, l5, l6, l7] L2 (aR o :: St) S := ev_go i89_49 rfl
theorem i89_50 : insAt 89 50 = some (.getfield 18, 3, (4, 2, 0, 0), 0) := rfl
theorem s89_50 {c : Nat → List AV → SS → Option Out} {l0 l1 l2 l3 l4 l5 l6 l7 : Option AV} {j t : Nat} {L2 : List (Nat × AV)} {St : List AV} {S : SS} : ev c 89 50 [l0, l1, l2, l3, l4, l5, l6, l7] L2 (aR (4, j, t) :: St) S = ev c 89 53 [l0, l1, l2, l3, l4, l5, l6, l7] L2 (aI (S.1 (4, j, t) 2) :: St) S := ev_go i89_50 rfl
theorem i89_53 : insAt 89 53 = some (.imul, 1, (0, 0, 0, 0), 0) := rfl
theorem s89_53 {c : Nat → List AV → SS → Option Out} {l0 l1 l2 l3 l4 l5 l6 l7 : Option AV} {x y : Int32} {L2 : List (Nat × AV)} {St : List AV} {S : SS} : ev c 89 53 [l0, l1, l2, l3, l4, l5, l6, l7] L2 (aI y :: aI x :: St) S = ev c 89 54 [l0, l1, l2, l3, l4, l5, l6, l7] L2 (aI (x * y) :: St) S := ev_go i89_53 rfl
theorem i89_54 : insAt 89 54 = some (.if_icmp .ge 17, 3, (0, 0, 0, 0), 0) := rfl
theorem s89_54 {c : Nat → List AV → SS → Option Out} {l0 l1 l2 l3 l4 l5 l6 l7 : Option AV} {x y : Int32} {L2 : List (Nat × AV)} {St : List AV} {S : SS} : ev c 89 54 [l0, l1, l2, l3, l4, l5, l6, l7] L2 (aI y :: aI x :: St) S = if y ≤ x then ev c 89 71 [l0, l1, l2, l3, l4, l5, l6, l7] L2 St S else ev c 89 57 [l0, l1, l2, l3, l4, l5, l6, l7] L2 St S := ev_br i89_54 rfl
theorem i89_57 : insAt 89 57 = some (.iload 5, 2, (0, 0, 0, 0), 0) := rfl
theorem s89_57 {c : Nat → List AV → SS → Option Out} {l0 l1 l2 l3 l4 l6 l7 : Option AV} {x : Int32} {L2 : List (Nat × AV)} {St : List AV} {S : SS} : ev c 89 57 [l0, l1, l2, l3, l4, some (aI x), l6, l7] L2 St S = ev c 89 59 [l0, l1, l2, l3, l4, some (aI x), l6, l7] L2 (aI x :: St) S := ev_go i89_57 rfl
theorem i89_59 : insAt 89 59 = some (.aload 7, 2, (0, 0, 0, 0), 0) := rfl
theorem s89_59 {c : Nat → List AV → SS → Option Out} {l0 l1 l2 l3 l4 l5 l6 : Option AV} {o : OId} {L2 : List (Nat × AV)} {St : List AV} {S : SS} : ev c 89 59 [l0, l1, l2, l3, l4, l5, l6, some (aR o)] L2 St S = ev c 89 61 [l0, l1, l2, l3, l4, l5, l6, some (aR o)] L2 (aR o :: St) S := ev_go i89_59 rfl
theorem i89_61 : insAt 89 61 = some (.getfield 126, 3, (10, 3, 1, 0), 0) := rfl
theorem s89_61 {c : Nat → List AV → SS → Option Out} {l0 l1 l2 l3 l4 l5 l6 l7 : Option AV} {j t : Nat} {L2 : List (Nat × AV)} {St : List AV} {S : SS} : ev c 89 61 [l0, l1, l2, l3, l4, l5, l6, l7] L2 (aR (10, j, t) :: St) S = ev c 89 64 [l0, l1, l2, l3, l4, l5, l6, l7] L2 (aI (S.1 (10, j, t) 3) :: St) S := ev_go i89_61 rfl
theorem i89_64 : insAt 89 64 = some (.iload_n 3, 1, (0, 0, 0, 0), 0) := rfl
theorem s89_64 {c : Nat → List AV → SS → Option Out} {l0 l1 l2 l4 l5 l6 l7 : Option AV} {x : Int32} {L2 : List (Nat × AV)} {St : List AV} {S : SS} : ev c 89 64 [l0, l1, l2, some (aI x), l4, l5, l6, l7] L2 St S = ev c 89 65 [l0, l1, l2, some (aI x), l4, l5, l6, l7] L2 (aI x :: St) S := ev_go i89_64 rfl
theorem i89_65 : insAt 89 65 = some (.invokestatic 140, 3, (77, 2, 1, 0), 0) := rfl
theorem s89_65 {c : Nat → List AV → SS → Option Out} {l0 l1 l2 l3 l4 l5 l6 l7 : Option AV} {t0 : AV} {a0 : Int32} {a1 : Int32} {L2 : List (Nat × AV)} {S : SS} : ev c 89 65 [l0, l1, l2, l3, l4, l5, l6, l7] L2 [aI a1, aI a0, t0] S = ck (c 77 [aI a0, aI a1] S) (fun v S' => ev c 89 68 [l0, l1, l2, l3, l4, l5, l6, l7] L2 (v.toList ++ [t0]) S') := ev_call i89_65 rfl
theorem i89_68 : insAt 89 68 = some (.iadd, 1, (0, 0, 0, 0), 0) := rfl
theorem s89_68 {c : Nat → List AV → SS → Option Out} {l0 l1 l2 l3 l4 l5 l6 l7 : Option AV} {x y : Int32} {L2 : List (Nat × AV)} {St : List AV} {S : SS} : ev c 89 68 [l0, l1, l2, l3, l4, l5, l6, l7] L2 (aI y :: aI x :: St) S = ev c 89 69 [l0, l1, l2, l3, l4, l5, l6, l7] L2 (aI (x + y) :: St) S := ev_go i89_68 rfl
theorem i89_69 : insAt 89 69 = some (.istore 5, 2, (0, 0, 0, 0), 0) := rfl
theorem s89_69 {c : Nat → List AV → SS → Option Out} {l0 l1 l2 l3 l4 l5 l6 l7 : Option AV} {x : Int32} {L2 : List (Nat × AV)} {St : List AV} {S : SS} : ev c 89 69 [l0, l1, l2, l3, l4, l5, l6, l7] L2 (aI x :: St) S = ev c 89 71 [l0, l1, l2, l3, l4, some (aI x), l6, l7] (kil L2 5) St S := ev_go i89_69 rfl
theorem i89_71 : insAt 89 71 = some (.iinc 6 1, 3, (0, 0, 0, 0), 0) := rfl
theorem s89_71 {c : Nat → List AV → SS → Option Out} {l0 l1 l2 l3 l4 l5 l7 : Option AV} {x : Int32} {L2 : List (Nat × AV)} {St : List AV} {S : SS} : ev c 89 71 [l0, l1, l2, l3, l4, l5, some (aI x), l7] L2 St S = ev c 89 74 [l0, l1, l2, l3, l4, l5, some (aI (x + 1)), l7] (kil L2 6) St S := ev_go i89_71 rfl
theorem i89_74 : insAt 89 74 = some (.goto (-68), 3, (0, 0, 0, 0), 0) := rfl
theorem s89_74 {c : Nat → List AV → SS → Option Out} {l0 l1 l2 l3 l4 l5 l6 l7 : Option AV} {L2 : List (Nat × AV)} {St : List AV} {S : SS} : ev c 89 74 [l0, l1, l2, l3, l4, l5, l6, l7] L2 St S = ev c 89 6 [l0, l1, l2, l3, l4, l5, l6, l7] L2 St S := ev_go i89_74 rfl
theorem i89_77 : insAt 89 77 = some (.iload 5, 2, (0, 0, 0, 0), 0) := rfl
theorem s89_77 {c : Nat → List AV → SS → Option Out} {l0 l1 l2 l3 l4 l6 l7 : Option AV} {x : Int32} {L2 : List (Nat × AV)} {St : List AV} {S : SS} : ev c 89 77 [l0, l1, l2, l3, l4, some (aI x), l6, l7] L2 St S = ev c 89 79 [l0, l1, l2, l3, l4, some (aI x), l6, l7] L2 (aI x :: St) S := ev_go i89_77 rfl
theorem i89_79 : insAt 89 79 = some (.ireturn, 1, (0, 0, 0, 0), 0) := rfl
theorem s89_79 {c : Nat → List AV → SS → Option Out} {l0 l1 l2 l3 l4 l5 l6 l7 : Option AV} {x : Int32} {L2 : List (Nat × AV)} {St : List AV} {S : SS} : ev c 89 79 [l0, l1, l2, l3, l4, l5, l6, l7] L2 [aI x] S = some (.inl (some (aI x)), S) := ev_end i89_79 rfl
theorem m89 {d : Nat} {o : OId} {a0 : Int32} {a1 : Int32} {a2 : Int32} {a3 : Int32} {S : SS} : evm (d + 1) 89 [aR o, aI a0, aI a1, aI a2, aI a3] S = ev (evm d) 89 0 [some (aR o), some (aI a0), some (aI a1), some (aI a2), some (aI a3), none, none, none] [] [] S := evm_s (n := 8) rfl (Nat.le_of_ble_eq_true rfl) rfl rfl
/-! FrequencyOffice$Books.countConflicts(III)I -/
theorem i90_0 : insAt 90 0 = some (.iconst 0, 1, (0, 0, 0, 0), 0) := rfl
theorem s90_0 {c : Nat → List AV → SS → Option Out} {l0 l1 l2 l3 l4 l5 l6 : Option AV} {L2 : List (Nat × AV)} {St : List AV} {S : SS} : ev c 90 0 [l0, l1, l2, l3, l4, l5, l6] L2 St S = ev c 90 1 [l0, l1, l2, l3, l4, l5, l6] L2 (aI 0 :: St) S := ev_go i90_0 rfl
theorem i90_1 : insAt 90 1 = some (.istore 4, 2, (0, 0, 0, 0), 0) := rfl
theorem s90_1 {c : Nat → List AV → SS → Option Out} {l0 l1 l2 l3 l4 l5 l6 : Option AV} {x : Int32} {L2 : List (Nat × AV)} {St : List AV} {S : SS} : ev c 90 1 [l0, l1, l2, l3, l4, l5, l6] L2 (aI x :: St) S = ev c 90 3 [l0, l1, l2, l3, some (aI x), l5, l6] (kil L2 4) St S := ev_go i90_1 rfl
theorem i90_3 : insAt 90 3 = some (.iconst 0, 1, (0, 0, 0, 0), 0) := rfl
theorem s90_3 {c : Nat → List AV → SS → Option Out} {l0 l1 l2 l3 l4 l5 l6 : Option AV} {L2 : List (Nat × AV)} {St : List AV} {S : SS} : ev c 90 3 [l0, l1, l2, l3, l4, l5, l6] L2 St S = ev c 90 4 [l0, l1, l2, l3, l4, l5, l6] L2 (aI 0 :: St) S := ev_go i90_3 rfl
theorem i90_4 : insAt 90 4 = some (.istore 5, 2, (0, 0, 0, 0), 0) := rfl
theorem s90_4 {c : Nat → List AV → SS → Option Out} {l0 l1 l2 l3 l4 l5 l6 : Option AV} {x : Int32} {L2 : List (Nat × AV)} {St : List AV} {S : SS} : ev c 90 4 [l0, l1, l2, l3, l4, l5, l6] L2 (aI x :: St) S = ev c 90 6 [l0, l1, l2, l3, l4, some (aI x), l6] (kil L2 5) St S := ev_go i90_4 rfl
theorem i90_6 : insAt 90 6 = some (.iload 5, 2, (0, 0, 0, 0), 0) := rfl
theorem s90_6 {c : Nat → List AV → SS → Option Out} {l0 l1 l2 l3 l4 l6 : Option AV} {x : Int32} {L2 : List (Nat × AV)} {St : List AV} {S : SS} : ev c 90 6 [l0, l1, l2, l3, l4, some (aI x), l6] L2 St S = ev c 90 8 [l0, l1, l2, l3, l4, some (aI x), l6] L2 (aI x :: St) S := ev_go i90_6 rfl
theorem i90_8 : insAt 90 8 = some (.aload_n 0, 1, (0, 0, 0, 0), 0) := rfl
theorem s90_8 {c : Nat → List AV → SS → Option Out} {l1 l2 l3 l4 l5 l6 : Option AV} {o : OId} {L2 : List (Nat × AV)} {St : List AV} {S : SS} : ev c 90 8 [some (aR o), l1, l2, l3, l4, l5, l6] L2 St S = ev c 90 9 [some (aR o), l1, l2, l3, l4, l5, l6] L2 (aR o :: St) S := ev_go i90_8 rfl
theorem i90_9 : insAt 90 9 = some (.getfield 33, 3, (4, 7, 0, 0), 0) := rfl
theorem s90_9 {c : Nat → List AV → SS → Option Out} {l0 l1 l2 l3 l4 l5 l6 : Option AV} {j t : Nat} {L2 : List (Nat × AV)} {St : List AV} {S : SS} : ev c 90 9 [l0, l1, l2, l3, l4, l5, l6] L2 (aR (4, j, t) :: St) S = ev c 90 12 [l0, l1, l2, l3, l4, l5, l6] L2 (aI (S.1 (4, j, t) 7) :: St) S := ev_go i90_9 rfl
theorem i90_12 : insAt 90 12 = some (.if_icmp .ge 55, 3, (0, 0, 0, 0), 0) := rfl
theorem s90_12 {c : Nat → List AV → SS → Option Out} {l0 l1 l2 l3 l4 l5 l6 : Option AV} {x y : Int32} {L2 : List (Nat × AV)} {St : List AV} {S : SS} : ev c 90 12 [l0, l1, l2, l3, l4, l5, l6] L2 (aI y :: aI x :: St) S = if y ≤ x then ev c 90 67 [l0, l1, l2, l3, l4, l5, l6] L2 St S else ev c 90 15 [l0, l1, l2, l3, l4, l5, l6] L2 St S := ev_br i90_12 rfl
theorem i90_15 : insAt 90 15 = some (.aload_n 0, 1, (0, 0, 0, 0), 0) := rfl
theorem s90_15 {c : Nat → List AV → SS → Option Out} {l1 l2 l3 l4 l5 l6 : Option AV} {o : OId} {L2 : List (Nat × AV)} {St : List AV} {S : SS} : ev c 90 15 [some (aR o), l1, l2, l3, l4, l5, l6] L2 St S = ev c 90 16 [some (aR o), l1, l2, l3, l4, l5, l6] L2 (aR o :: St) S := ev_go i90_15 rfl
theorem i90_16 : insAt 90 16 = some (.aload_n 0, 1, (0, 0, 0, 0), 0) := rfl
theorem s90_16 {c : Nat → List AV → SS → Option Out} {l1 l2 l3 l4 l5 l6 : Option AV} {o : OId} {L2 : List (Nat × AV)} {St : List AV} {S : SS} : ev c 90 16 [some (aR o), l1, l2, l3, l4, l5, l6] L2 St S = ev c 90 17 [some (aR o), l1, l2, l3, l4, l5, l6] L2 (aR o :: St) S := ev_go i90_16 rfl
theorem i90_17 : insAt 90 17 = some (.iload 5, 2, (0, 0, 0, 0), 0) := rfl
theorem s90_17 {c : Nat → List AV → SS → Option Out} {l0 l1 l2 l3 l4 l6 : Option AV} {x : Int32} {L2 : List (Nat × AV)} {St : List AV} {S : SS} : ev c 90 17 [l0, l1, l2, l3, l4, some (aI x), l6] L2 St S = ev c 90 19 [l0, l1, l2, l3, l4, some (aI x), l6] L2 (aI x :: St) S := ev_go i90_17 rfl
theorem i90_19 : insAt 90 19 = some (.invokevirtual 58, 3, (17, 1, 2, 4), 0) := rfl
theorem s90_19 {c : Nat → List AV → SS → Option Out} {l0 l1 l2 l3 l4 l5 l6 : Option AV} {t0 : AV} {a0 : Int32} {j t : Nat} {L2 : List (Nat × AV)} {S : SS} : ev c 90 19 [l0, l1, l2, l3, l4, l5, l6] L2 [aI a0, aR (4, j, t), t0] S = ck (c 17 [aR (4, j, t), aI a0] S) (fun v S' => ev c 90 22 [l0, l1, l2, l3, l4, l5, l6] L2 (v.toList ++ [t0]) S') := ev_call i90_19 rfl
theorem i90_22 : insAt 90 22 = some (.iload_n 1, 1, (0, 0, 0, 0), 0) := rfl
theorem s90_22 {c : Nat → List AV → SS → Option Out} {l0 l2 l3 l4 l5 l6 : Option AV} {x : Int32} {L2 : List (Nat × AV)} {St : List AV} {S : SS} : ev c 90 22 [l0, some (aI x), l2, l3, l4, l5, l6] L2 St S = ev c 90 23 [l0, some (aI x), l2, l3, l4, l5, l6] L2 (aI x :: St) S := ev_go i90_22 rfl
theorem i90_23 : insAt 90 23 = some (.iload_n 2, 1, (0, 0, 0, 0), 0) := rfl
theorem s90_23 {c : Nat → List AV → SS → Option Out} {l0 l1 l3 l4 l5 l6 : Option AV} {x : Int32} {L2 : List (Nat × AV)} {St : List AV} {S : SS} : ev c 90 23 [l0, l1, some (aI x), l3, l4, l5, l6] L2 St S = ev c 90 24 [l0, l1, some (aI x), l3, l4, l5, l6] L2 (aI x :: St) S := ev_go i90_23 rfl
theorem i90_24 : insAt 90 24 = some (.invokevirtual 113, 3, (28, 2, 3, 10), 0) := rfl
theorem s90_24 {c : Nat → List AV → SS → Option Out} {l0 l1 l2 l3 l4 l5 l6 : Option AV} {t0 : AV} {a0 : Int32} {a1 : Int32} {j t : Nat} {L2 : List (Nat × AV)} {S : SS} : ev c 90 24 [l0, l1, l2, l3, l4, l5, l6] L2 [aI a1, aI a0, aR (10, j, t), t0] S = ck (c 28 [aR (10, j, t), aI a0, aI a1] S) (fun v S' => ev c 90 27 [l0, l1, l2, l3, l4, l5, l6] L2 (v.toList ++ [t0]) S') := ev_call i90_24 rfl
theorem i90_27 : insAt 90 27 = some (.invokevirtual 116, 3, (29, 1, 2, 4), 0) := rfl
theorem s90_27 {c : Nat → List AV → SS → Option Out} {l0 l1 l2 l3 l4 l5 l6 : Option AV} {a0 : Int32} {j t : Nat} {L2 : List (Nat × AV)} {S : SS} : ev c 90 27 [l0, l1, l2, l3, l4, l5, l6] L2 [aI a0, aR (4, j, t)] S = ck (c 29 [aR (4, j, t), aI a0] S) (fun v S' => ev c 90 30 [l0, l1, l2, l3, l4, l5, l6] L2 (v.toList ++ []) S') := ev_call i90_27 rfl
theorem i90_30 : insAt 90 30 = some (.istore 6, 2, (0, 0, 0, 0), 0) := rfl
theorem s90_30 {c : Nat → List AV → SS → Option Out} {l0 l1 l2 l3 l4 l5 l6 : Option AV} {x : Int32} {L2 : List (Nat × AV)} {St : List AV} {S : SS} : ev c 90 30 [l0, l1, l2, l3, l4, l5, l6] L2 (aI x :: St) S = ev c 90 32 [l0, l1, l2, l3, l4, l5, some (aI x)] (kil L2 6) St S := ev_go i90_30 rfl
theorem i90_32 : insAt 90 32 = some (.iload 4, 2, (0, 0, 0, 0), 0) := rfl
theorem s90_32 {c : Nat → List AV → SS → Option Out} {l0 l1 l2 l3 l5 l6 : Option AV} {x : Int32} {L2 : List (Nat × AV)} {St : List AV} {S : SS} : ev c 90 32 [l0, l1, l2, l3, some (aI x), l5, l6] L2 St S = ev c 90 34 [l0, l1, l2, l3, some (aI x), l5, l6] L2 (aI x :: St) S := ev_go i90_32 rfl
theorem i90_34 : insAt 90 34 = some (.aload_n 0, 1, (0, 0, 0, 0), 0) := rfl
theorem s90_34 {c : Nat → List AV → SS → Option Out} {l1 l2 l3 l4 l5 l6 : Option AV} {o : OId} {L2 : List (Nat × AV)} {St : List AV} {S : SS} : ev c 90 34 [some (aR o), l1, l2, l3, l4, l5, l6] L2 St S = ev c 90 35 [some (aR o), l1, l2, l3, l4, l5, l6] L2 (aR o :: St) S := ev_go i90_34 rfl
theorem i90_35 : insAt 90 35 = some (.iload 5, 2, (0, 0, 0, 0), 0) := rfl
theorem s90_35 {c : Nat → List AV → SS → Option Out} {l0 l1 l2 l3 l4 l6 : Option AV} {x : Int32} {L2 : List (Nat × AV)} {St : List AV} {S : SS} : ev c 90 35 [l0, l1, l2, l3, l4, some (aI x), l6] L2 St S = ev c 90 37 [l0, l1, l2, l3, l4, some (aI x), l6] L2 (aI x :: St) S := ev_go i90_35 rfl
theorem i90_37 : insAt 90 37 = some (.invokevirtual 58, 3, (17, 1, 2, 4), 0) := rfl
theorem s90_37 {c : Nat → List AV → SS → Option Out} {l0 l1 l2 l3 l4 l5 l6 : Option AV} {t0 : AV} {a0 : Int32} {j t : Nat} {L2 : List (Nat × AV)} {S : SS} : ev c 90 37 [l0, l1, l2, l3, l4, l5, l6] L2 [aI a0, aR (4, j, t), t0] S = ck (c 17 [aR (4, j, t), aI a0] S) (fun v S' => ev c 90 40 [l0, l1, l2, l3, l4, l5, l6] L2 (v.toList ++ [t0]) S') := ev_call i90_37 rfl
theorem i90_40 : insAt 90 40 = some (.getfield 126, 3, (10, 3, 1, 0), 0) := rfl
theorem s90_40 {c : Nat → List AV → SS → Option Out} {l0 l1 l2 l3 l4 l5 l6 : Option AV} {j t : Nat} {L2 : List (Nat × AV)} {St : List AV} {S : SS} : ev c 90 40 [l0, l1, l2, l3, l4, l5, l6] L2 (aR (10, j, t) :: St) S = ev c 90 43 [l0, l1, l2, l3, l4, l5, l6] L2 (aI (S.1 (10, j, t) 3) :: St) S := ev_go i90_40 rfl
theorem i90_43 : insAt 90 43 = some (.iload_n 3, 1, (0, 0, 0, 0), 0) := rfl
theorem s90_43 {c : Nat → List AV → SS → Option Out} {l0 l1 l2 l4 l5 l6 : Option AV} {x : Int32} {L2 : List (Nat × AV)} {St : List AV} {S : SS} : ev c 90 43 [l0, l1, l2, some (aI x), l4, l5, l6] L2 St S = ev c 90 44 [l0, l1, l2, some (aI x), l4, l5, l6] L2 (aI x :: St) S := ev_go i90_43 rfl
theorem i90_44 : insAt 90 44 = some (.isub, 1, (0, 0, 0, 0), 0) := rfl
theorem s90_44 {c : Nat → List AV → SS → Option Out} {l0 l1 l2 l3 l4 l5 l6 : Option AV} {x y : Int32} {L2 : List (Nat × AV)} {St : List AV} {S : SS} : ev c 90 44 [l0, l1, l2, l3, l4, l5, l6] L2 (aI y :: aI x :: St) S = ev c 90 45 [l0, l1, l2, l3, l4, l5, l6] L2 (aI (x - y) :: St) S := ev_go i90_44 rfl
theorem i90_45 : insAt 90 45 = some (.invokestatic 129, 3, (25, 1, 0, 0), 0) := rfl
theorem s90_45 {c : Nat → List AV → SS → Option Out} {l0 l1 l2 l3 l4 l5 l6 : Option AV} {t0 : AV} {a0 : Int32} {L2 : List (Nat × AV)} {S : SS} : ev c 90 45 [l0, l1, l2, l3, l4, l5, l6] L2 [aI a0, t0] S = ck (c 25 [aI a0] S) (fun v S' => ev c 90 48 [l0, l1, l2, l3, l4, l5, l6] L2 (v.toList ++ [t0]) S') := ev_call i90_45 rfl
theorem i90_48 : insAt 90 48 = some (.iload 6, 2, (0, 0, 0, 0), 0) := rfl
theorem s90_48 {c : Nat → List AV → SS → Option Out} {l0 l1 l2 l3 l4 l5 : Option AV} {x : Int32} {L2 : List (Nat × AV)} {St : List AV} {S : SS} : ev c 90 48 [l0, l1, l2, l3, l4, l5, some (aI x)] L2 St S = ev c 90 50 [l0, l1, l2, l3, l4, l5, some (aI x)] L2 (aI x :: St) S := ev_go i90_48 rfl
theorem i90_50 : insAt 90 50 = some (.if_icmp .ge 7, 3, (0, 0, 0, 0), 0) := rfl
theorem s90_50 {c : Nat → List AV → SS → Option Out} {l0 l1 l2 l3 l4 l5 l6 : Option AV} {x y : Int32} {L2 : List (Nat × AV)} {St : List AV} {S : SS} : ev c 90 50 [l0, l1, l2, l3, l4, l5, l6] L2 (aI y :: aI x :: St) S = if y ≤ x then ev c 90 57 [l0, l1, l2, l3, l4, l5, l6] L2 St S else ev c 90 53 [l0, l1, l2, l3, l4, l5, l6] L2 St S := ev_br i90_50 rfl
theorem i90_53 : insAt 90 53 = some (.iconst 1, 1, (0, 0, 0, 0), 0) := rfl
theorem s90_53 {c : Nat → List AV → SS → Option Out} {l0 l1 l2 l3 l4 l5 l6 : Option AV} {L2 : List (Nat × AV)} {St : List AV} {S : SS} : ev c 90 53 [l0, l1, l2, l3, l4, l5, l6] L2 St S = ev c 90 54 [l0, l1, l2, l3, l4, l5, l6] L2 (aI 1 :: St) S := ev_go i90_53 rfl
theorem i90_54 : insAt 90 54 = some (.goto 4, 3, (0, 0, 0, 0), 0) := rfl
theorem s90_54 {c : Nat → List AV → SS → Option Out} {l0 l1 l2 l3 l4 l5 l6 : Option AV} {L2 : List (Nat × AV)} {St : List AV} {S : SS} : ev c 90 54 [l0, l1, l2, l3, l4, l5, l6] L2 St S = ev c 90 58 [l0, l1, l2, l3, l4, l5, l6] L2 St S := ev_go i90_54 rfl
theorem i90_57 : insAt 90 57 = some (.iconst 0, 1, (0, 0, 0, 0), 0) := rfl
theorem s90_57 {c : Nat → List AV → SS → Option Out} {l0 l1 l2 l3 l4 l5 l6 : Option AV} {L2 : List (Nat × AV)} {St : List AV} {S : SS} : ev c 90 57 [l0, l1, l2, l3, l4, l5, l6] L2 St S = ev c 90 58 [l0, l1, l2, l3, l4, l5, l6] L2 (aI 0 :: St) S := ev_go i90_57 rfl
theorem i90_58 : insAt 90 58 = some (.iadd, 1, (0, 0, 0, 0), 0) := rfl
theorem s90_58 {c : Nat → List AV → SS → Option Out} {l0 l1 l2 l3 l4 l5 l6 : Option AV} {x y : Int32} {L2 : List (Nat × AV)} {St : List AV} {S : SS} : ev c 90 58 [l0, l1, l2, l3, l4, l5, l6] L2 (aI y :: aI x :: St) S = ev c 90 59 [l0, l1, l2, l3, l4, l5, l6] L2 (aI (x + y) :: St) S := ev_go i90_58 rfl
theorem i90_59 : insAt 90 59 = some (.istore 4, 2, (0, 0, 0, 0), 0) := rfl
theorem s90_59 {c : Nat → List AV → SS → Option Out} {l0 l1 l2 l3 l4 l5 l6 : Option AV} {x : Int32} {L2 : List (Nat × AV)} {St : List AV} {S : SS} : ev c 90 59 [l0, l1, l2, l3, l4, l5, l6] L2 (aI x :: St) S = ev c 90 61 [l0, l1, l2, l3, some (aI x), l5, l6] (kil L2 4) St S := ev_go i90_59 rfl
theorem i90_61 : insAt 90 61 = some (.iinc 5 1, 3, (0, 0, 0, 0), 0) := rfl
theorem s90_61 {c : Nat → List AV → SS → Option Out} {l0 l1 l2 l3 l4 l6 : Option AV} {x : Int32} {L2 : List (Nat × AV)} {St : List AV} {S : SS} : ev c 90 61 [l0, l1, l2, l3, l4, some (aI x), l6] L2 St S = ev c 90 64 [l0, l1, l2, l3, l4, some (aI (x + 1)), l6] (kil L2 5) St S := ev_go i90_61 rfl
theorem i90_64 : insAt 90 64 = some (.goto (-58), 3, (0, 0, 0, 0), 0) := rfl
theorem s90_64 {c : Nat → List AV → SS → Option Out} {l0 l1 l2 l3 l4 l5 l6 : Option AV} {L2 : List (Nat × AV)} {St : List AV} {S : SS} : ev c 90 64 [l0, l1, l2, l3, l4, l5, l6] L2 St S = ev c 90 6 [l0, l1, l2, l3, l4, l5, l6] L2 St S := ev_go i90_64 rfl
theorem i90_67 : insAt 90 67 = some (.iload 4, 2, (0, 0, 0, 0), 0) := rfl
theorem s90_67 {c : Nat → List AV → SS → Option Out} {l0 l1 l2 l3 l5 l6 : Option AV} {x : Int32} {L2 : List (Nat × AV)} {St : List AV} {S : SS} : ev c 90 67 [l0, l1, l2, l3, some (aI x), l5, l6] L2 St S = ev c 90 69 [l0, l1, l2, l3, some (aI x), l5, l6] L2 (aI x :: St) S := ev_go i90_67 rfl
theorem i90_69 : insAt 90 69 = some (.ireturn, 1, (0, 0, 0, 0), 0) := rfl
theorem s90_69 {c : Nat → List AV → SS → Option Out} {l0 l1 l2 l3 l4 l5 l6 : Option AV} {x : Int32} {L2 : List (Nat × AV)} {St : List AV} {S : SS} : ev c 90 69 [l0, l1, l2, l3, l4, l5, l6] L2 [aI x] S = some (.inl (some (aI x)), S) := ev_end i90_69 rfl
theorem m90 {d : Nat} {o : OId} {a0 : Int32} {a1 : Int32} {a2 : Int32} {S : SS} : evm (d + 1) 90 [aR o, aI a0, aI a1, aI a2] S = ev (evm d) 90 0 [some (aR o), some (aI a0), some (aI a1), some (aI a2), none, none, none] [] [] S := evm_s (n := 7) rfl (Nat.le_of_ble_eq_true rfl) rfl rfl
/-! FrequencyOffice$Books.nextDay()V -/
theorem i101_0 : insAt 101 0 = some (.aload_n 0, 1, (0, 0, 0, 0), 0) := rfl
theorem s101_0 {c : Nat → List AV → SS → Option Out} {l1 : Option AV} {o : OId} {L2 : List (Nat × AV)} {St : List AV} {S : SS} : ev c 101 0 [some (aR o), l1] L2 St S = ev c 101 1 [some (aR o), l1] L2 (aR o :: St) S := ev_go i101_0 rfl
theorem i101_1 : insAt 101 1 = some (.dup, 1, (0, 0, 0, 0), 0) := rfl
theorem s101_1 {c : Nat → List AV → SS → Option Out} {l0 l1 : Option AV} {x : OId} {L2 : List (Nat × AV)} {St : List AV} {S : SS} : ev c 101 1 [l0, l1] L2 (aR x :: St) S = ev c 101 2 [l0, l1] L2 (aR x :: aR x :: St) S := ev_go i101_1 rfl
theorem i101_2 : insAt 101 2 = some (.getfield 21, 3, (4, 3, 0, 0), 0) := rfl
theorem s101_2 {c : Nat → List AV → SS → Option Out} {l0 l1 : Option AV} {j t : Nat} {L2 : List (Nat × AV)} {St : List AV} {S : SS} : ev c 101 2 [l0, l1] L2 (aR (4, j, t) :: St) S = ev c 101 5 [l0, l1] L2 (aI (S.1 (4, j, t) 3) :: St) S := ev_go i101_2 rfl
theorem i101_5 : insAt 101 5 = some (.iconst 1, 1, (0, 0, 0, 0), 0) := rfl
theorem s101_5 {c : Nat → List AV → SS → Option Out} {l0 l1 : Option AV} {L2 : List (Nat × AV)} {St : List AV} {S : SS} : ev c 101 5 [l0, l1] L2 St S = ev c 101 6 [l0, l1] L2 (aI 1 :: St) S := ev_go i101_5 rfl
theorem i101_6 : insAt 101 6 = some (.iadd, 1, (0, 0, 0, 0), 0) := rfl
theorem s101_6 {c : Nat → List AV → SS → Option Out} {l0 l1 : Option AV} {x y : Int32} {L2 : List (Nat × AV)} {St : List AV} {S : SS} : ev c 101 6 [l0, l1] L2 (aI y :: aI x :: St) S = ev c 101 7 [l0, l1] L2 (aI (x + y) :: St) S := ev_go i101_6 rfl
theorem i101_7 : insAt 101 7 = some (.putfield 21, 3, (4, 3, 0, 0), 0) := rfl
theorem s101_7 {c : Nat → List AV → SS → Option Out} {l0 l1 : Option AV} {j t : Nat} {x : Int32} {L2 : List (Nat × AV)} {St : List AV} {S : SS} : ev c 101 7 [l0, l1] L2 (aI x :: aR (4, j, t) :: St) S = ev c 101 10 [l0, l1] L2 St (setI S.1 (4, j, t) 3 x, S.2) := ev_go i101_7 rfl
theorem i101_10 : insAt 101 10 = some (.aload_n 0, 1, (0, 0, 0, 0), 0) := rfl
theorem s101_10 {c : Nat → List AV → SS → Option Out} {l1 : Option AV} {o : OId} {L2 : List (Nat × AV)} {St : List AV} {S : SS} : ev c 101 10 [some (aR o), l1] L2 St S = ev c 101 11 [some (aR o), l1] L2 (aR o :: St) S := ev_go i101_10 rfl
theorem i101_11 : insAt 101 11 = some (.getfield 33, 3, (4, 7, 0, 0), 0) := rfl
theorem s101_11 {c : Nat → List AV → SS → Option Out} {l0 l1 : Option AV} {j t : Nat} {L2 : List (Nat × AV)} {St : List AV} {S : SS} : ev c 101 11 [l0, l1] L2 (aR (4, j, t) :: St) S = ev c 101 14 [l0, l1] L2 (aI (S.1 (4, j, t) 7) :: St) S := ev_go i101_11 rfl
theorem i101_14 : insAt 101 14 = some (.iconst 1, 1, (0, 0, 0, 0), 0) := rfl
theorem s101_14 {c : Nat → List AV → SS → Option Out} {l0 l1 : Option AV} {L2 : List (Nat × AV)} {St : List AV} {S : SS} : ev c 101 14 [l0, l1] L2 St S = ev c 101 15 [l0, l1] L2 (aI 1 :: St) S := ev_go i101_14 rfl
theorem i101_15 : insAt 101 15 = some (.isub, 1, (0, 0, 0, 0), 0) := rfl
theorem s101_15 {c : Nat → List AV → SS → Option Out} {l0 l1 : Option AV} {x y : Int32} {L2 : List (Nat × AV)} {St : List AV} {S : SS} : ev c 101 15 [l0, l1] L2 (aI y :: aI x :: St) S = ev c 101 16 [l0, l1] L2 (aI (x - y) :: St) S := ev_go i101_15 rfl
theorem i101_16 : insAt 101 16 = some (.istore_n 1, 1, (0, 0, 0, 0), 0) := rfl
theorem s101_16 {c : Nat → List AV → SS → Option Out} {l0 l1 : Option AV} {x : Int32} {L2 : List (Nat × AV)} {St : List AV} {S : SS} : ev c 101 16 [l0, l1] L2 (aI x :: St) S = ev c 101 17 [l0, some (aI x)] (kil L2 1) St S := ev_go i101_16 rfl
theorem i101_17 : insAt 101 17 = some (.iload_n 1, 1, (0, 0, 0, 0), 0) := rfl
theorem s101_17 {c : Nat → List AV → SS → Option Out} {l0 : Option AV} {x : Int32} {L2 : List (Nat × AV)} {St : List AV} {S : SS} : ev c 101 17 [l0, some (aI x)] L2 St S = ev c 101 18 [l0, some (aI x)] L2 (aI x :: St) S := ev_go i101_17 rfl
theorem i101_18 : insAt 101 18 = some (.ifCond .lt 39, 3, (0, 0, 0, 0), 0) := rfl
theorem s101_18 {c : Nat → List AV → SS → Option Out} {l0 l1 : Option AV} {x : Int32} {L2 : List (Nat × AV)} {St : List AV} {S : SS} : ev c 101 18 [l0, l1] L2 (aI x :: St) S = if x < 0 then ev c 101 57 [l0, l1] L2 St S else ev c 101 21 [l0, l1] L2 St S := ev_br i101_18 rfl
theorem i101_21 : insAt 101 21 = some (.aload_n 0, 1, (0, 0, 0, 0), 0) := rfl
theorem s101_21 {c : Nat → List AV → SS → Option Out} {l1 : Option AV} {o : OId} {L2 : List (Nat × AV)} {St : List AV} {S : SS} : ev c 101 21 [some (aR o), l1] L2 St S = ev c 101 22 [some (aR o), l1] L2 (aR o :: St) S := ev_go i101_21 rfl
theorem i101_22 : insAt 101 22 = some (.iload_n 1, 1, (0, 0, 0, 0), 0) := rfl
theorem s101_22 {c : Nat → List AV → SS → Option Out} {l0 : Option AV} {x : Int32} {L2 : List (Nat × AV)} {St : List AV} {S : SS} : ev c 101 22 [l0, some (aI x)] L2 St S = ev c 101 23 [l0, some (aI x)] L2 (aI x :: St) S := ev_go i101_22 rfl
theorem i101_23 : insAt 101 23 = some (.invokevirtual 58, 3, (17, 1, 2, 4), 0) := rfl
theorem s101_23 {c : Nat → List AV → SS → Option Out} {l0 l1 : Option AV} {a0 : Int32} {j t : Nat} {L2 : List (Nat × AV)} {S : SS} : ev c 101 23 [l0, l1] L2 [aI a0, aR (4, j, t)] S = ck (c 17 [aR (4, j, t), aI a0] S) (fun v S' => ev c 101 26 [l0, l1] L2 (v.toList ++ []) S') := ev_call i101_23 rfl
theorem i101_26 : insAt 101 26 = some (.getfield 84, 3, (10, 4, 1, 0), 0) := rfl
theorem s101_26 {c : Nat → List AV → SS → Option Out} {l0 l1 : Option AV} {j t : Nat} {L2 : List (Nat × AV)} {St : List AV} {S : SS} : ev c 101 26 [l0, l1] L2 (aR (10, j, t) :: St) S = ev c 101 29 [l0, l1] L2 (aI (S.1 (10, j, t) 4) :: St) S := ev_go i101_26 rfl
theorem i101_29 : insAt 101 29 = some (.aload_n 0, 1, (0, 0, 0, 0), 0) := rfl
theorem s101_29 {c : Nat → List AV → SS → Option Out} {l1 : Option AV} {o : OId} {L2 : List (Nat × AV)} {St : List AV} {S : SS} : ev c 101 29 [some (aR o), l1] L2 St S = ev c 101 30 [some (aR o), l1] L2 (aR o :: St) S := ev_go i101_29 rfl
theorem i101_30 : insAt 101 30 = some (.getfield 21, 3, (4, 3, 0, 0), 0) := rfl
theorem s101_30 {c : Nat → List AV → SS → Option Out} {l0 l1 : Option AV} {j t : Nat} {L2 : List (Nat × AV)} {St : List AV} {S : SS} : ev c 101 30 [l0, l1] L2 (aR (4, j, t) :: St) S = ev c 101 33 [l0, l1] L2 (aI (S.1 (4, j, t) 3) :: St) S := ev_go i101_30 rfl
theorem i101_33 : insAt 101 33 = some (.if_icmp .ne 18, 3, (0, 0, 0, 0), 0) := rfl
theorem s101_33 {c : Nat → List AV → SS → Option Out} {l0 l1 : Option AV} {x y : Int32} {L2 : List (Nat × AV)} {St : List AV} {S : SS} : ev c 101 33 [l0, l1] L2 (aI y :: aI x :: St) S = if x = y then ev c 101 36 [l0, l1] L2 St S else ev c 101 51 [l0, l1] L2 St S := (ev_br i101_33 rfl).trans (ite_not _ _ _)
theorem i101_36 : insAt 101 36 = some (.aload_n 0, 1, (0, 0, 0, 0), 0) := rfl
theorem s101_36 {c : Nat → List AV → SS → Option Out} {l1 : Option AV} {o : OId} {L2 : List (Nat × AV)} {St : List AV} {S : SS} : ev c 101 36 [some (aR o), l1] L2 St S = ev c 101 37 [some (aR o), l1] L2 (aR o :: St) S := ev_go i101_36 rfl
theorem i101_37 : insAt 101 37 = some (.iload_n 1, 1, (0, 0, 0, 0), 0) := rfl
theorem s101_37 {c : Nat → List AV → SS → Option Out} {l0 : Option AV} {x : Int32} {L2 : List (Nat × AV)} {St : List AV} {S : SS} : ev c 101 37 [l0, some (aI x)] L2 St S = ev c 101 38 [l0, some (aI x)] L2 (aI x :: St) S := ev_go i101_37 rfl
theorem i101_38 : insAt 101 38 = some (.invokevirtual 106, 3, (84, 1, 2, 4), 0) := rfl
theorem s101_38 {c : Nat → List AV → SS → Option Out} {l0 l1 : Option AV} {a0 : Int32} {j t : Nat} {L2 : List (Nat × AV)} {S : SS} : ev c 101 38 [l0, l1] L2 [aI a0, aR (4, j, t)] S = ck (c 84 [aR (4, j, t), aI a0] S) (fun v S' => ev c 101 41 [l0, l1] L2 (v.toList ++ []) S') := ev_call i101_38 rfl
theorem i101_41 : insAt 101 41 = some (.aload_n 0, 1, (0, 0, 0, 0), 0) := rfl
theorem s101_41 {c : Nat → List AV → SS → Option Out} {l1 : Option AV} {o : OId} {L2 : List (Nat × AV)} {St : List AV} {S : SS} : ev c 101 41 [some (aR o), l1] L2 St S = ev c 101 42 [some (aR o), l1] L2 (aR o :: St) S := ev_go i101_41 rfl
theorem i101_42 : insAt 101 42 = some (.dup, 1, (0, 0, 0, 0), 0) := rfl
theorem s101_42 {c : Nat → List AV → SS → Option Out} {l0 l1 : Option AV} {x : OId} {L2 : List (Nat × AV)} {St : List AV} {S : SS} : ev c 101 42 [l0, l1] L2 (aR x :: St) S = ev c 101 43 [l0, l1] L2 (aR x :: aR x :: St) S := ev_go i101_42 rfl
theorem i101_43 : insAt 101 43 = some (.getfield 27, 3, (4, 5, 0, 0), 0) := rfl
theorem s101_43 {c : Nat → List AV → SS → Option Out} {l0 l1 : Option AV} {j t : Nat} {L2 : List (Nat × AV)} {St : List AV} {S : SS} : ev c 101 43 [l0, l1] L2 (aR (4, j, t) :: St) S = ev c 101 46 [l0, l1] L2 (aI (S.1 (4, j, t) 5) :: St) S := ev_go i101_43 rfl
theorem i101_46 : insAt 101 46 = some (.iconst 1, 1, (0, 0, 0, 0), 0) := rfl
theorem s101_46 {c : Nat → List AV → SS → Option Out} {l0 l1 : Option AV} {L2 : List (Nat × AV)} {St : List AV} {S : SS} : ev c 101 46 [l0, l1] L2 St S = ev c 101 47 [l0, l1] L2 (aI 1 :: St) S := ev_go i101_46 rfl
theorem i101_47 : insAt 101 47 = some (.iadd, 1, (0, 0, 0, 0), 0) := rfl
theorem s101_47 {c : Nat → List AV → SS → Option Out} {l0 l1 : Option AV} {x y : Int32} {L2 : List (Nat × AV)} {St : List AV} {S : SS} : ev c 101 47 [l0, l1] L2 (aI y :: aI x :: St) S = ev c 101 48 [l0, l1] L2 (aI (x + y) :: St) S := ev_go i101_47 rfl
theorem i101_48 : insAt 101 48 = some (.putfield 27, 3, (4, 5, 0, 0), 0) := rfl
theorem s101_48 {c : Nat → List AV → SS → Option Out} {l0 l1 : Option AV} {j t : Nat} {x : Int32} {L2 : List (Nat × AV)} {St : List AV} {S : SS} : ev c 101 48 [l0, l1] L2 (aI x :: aR (4, j, t) :: St) S = ev c 101 51 [l0, l1] L2 St (setI S.1 (4, j, t) 5 x, S.2) := ev_go i101_48 rfl
theorem i101_51 : insAt 101 51 = some (.iinc 1 (-1), 3, (0, 0, 0, 0), 0) := rfl
theorem s101_51 {c : Nat → List AV → SS → Option Out} {l0 : Option AV} {x : Int32} {L2 : List (Nat × AV)} {St : List AV} {S : SS} : ev c 101 51 [l0, some (aI x)] L2 St S = ev c 101 54 [l0, some (aI (x + (-1)))] (kil L2 1) St S := ev_go i101_51 rfl
theorem i101_54 : insAt 101 54 = some (.goto (-37), 3, (0, 0, 0, 0), 0) := rfl
theorem s101_54 {c : Nat → List AV → SS → Option Out} {l0 l1 : Option AV} {L2 : List (Nat × AV)} {St : List AV} {S : SS} : ev c 101 54 [l0, l1] L2 St S = ev c 101 17 [l0, l1] L2 St S := ev_go i101_54 rfl
theorem i101_57 : insAt 101 57 = some (.return_, 1, (0, 0, 0, 0), 0) := rfl
theorem s101_57 {c : Nat → List AV → SS → Option Out} {l0 l1 : Option AV} {L2 : List (Nat × AV)} {St : List AV} {S : SS} : ev c 101 57 [l0, l1] L2 [] S = some (.inl none, S) := ev_end i101_57 rfl
theorem m101 {d : Nat} {o : OId} {S : SS} : evm (d + 1) 101 [aR o] S = ev (evm d) 101 0 [some (aR o), none] [] [] S := evm_s (n := 2) rfl (Nat.le_of_ble_eq_true rfl) rfl rfl
/-! FrequencyOffice$Books.placeByExpiry(I)I -/
theorem i107_0 : insAt 107 0 = some (.iconst 0, 1, (0, 0, 0, 0), 0) := rfl
theorem s107_0 {c : Nat → List AV → SS → Option Out} {l0 l1 l2 : Option AV} {L2 : List (Nat × AV)} {St : List AV} {S : SS} : ev c 107 0 [l0, l1, l2] L2 St S = ev c 107 1 [l0, l1, l2] L2 (aI 0 :: St) S := ev_go i107_0 rfl
theorem i107_1 : insAt 107 1 = some (.istore_n 2, 1, (0, 0, 0, 0), 0) := rfl
theorem s107_1 {c : Nat → List AV → SS → Option Out} {l0 l1 l2 : Option AV} {x : Int32} {L2 : List (Nat × AV)} {St : List AV} {S : SS} : ev c 107 1 [l0, l1, l2] L2 (aI x :: St) S = ev c 107 2 [l0, l1, some (aI x)] (kil L2 2) St S := ev_go i107_1 rfl
theorem i107_2 : insAt 107 2 = some (.iload_n 2, 1, (0, 0, 0, 0), 0) := rfl
theorem s107_2 {c : Nat → List AV → SS → Option Out} {l0 l1 : Option AV} {x : Int32} {L2 : List (Nat × AV)} {St : List AV} {S : SS} : ev c 107 2 [l0, l1, some (aI x)] L2 St S = ev c 107 3 [l0, l1, some (aI x)] L2 (aI x :: St) S := ev_go i107_2 rfl
theorem i107_3 : insAt 107 3 = some (.aload_n 0, 1, (0, 0, 0, 0), 0) := rfl
theorem s107_3 {c : Nat → List AV → SS → Option Out} {l1 l2 : Option AV} {o : OId} {L2 : List (Nat × AV)} {St : List AV} {S : SS} : ev c 107 3 [some (aR o), l1, l2] L2 St S = ev c 107 4 [some (aR o), l1, l2] L2 (aR o :: St) S := ev_go i107_3 rfl
theorem i107_4 : insAt 107 4 = some (.getfield 33, 3, (4, 7, 0, 0), 0) := rfl
theorem s107_4 {c : Nat → List AV → SS → Option Out} {l0 l1 l2 : Option AV} {j t : Nat} {L2 : List (Nat × AV)} {St : List AV} {S : SS} : ev c 107 4 [l0, l1, l2] L2 (aR (4, j, t) :: St) S = ev c 107 7 [l0, l1, l2] L2 (aI (S.1 (4, j, t) 7) :: St) S := ev_go i107_4 rfl
theorem i107_7 : insAt 107 7 = some (.if_icmp .ge 20, 3, (0, 0, 0, 0), 0) := rfl
theorem s107_7 {c : Nat → List AV → SS → Option Out} {l0 l1 l2 : Option AV} {x y : Int32} {L2 : List (Nat × AV)} {St : List AV} {S : SS} : ev c 107 7 [l0, l1, l2] L2 (aI y :: aI x :: St) S = if y ≤ x then ev c 107 27 [l0, l1, l2] L2 St S else ev c 107 10 [l0, l1, l2] L2 St S := ev_br i107_7 rfl
theorem i107_10 : insAt 107 10 = some (.aload_n 0, 1, (0, 0, 0, 0), 0) := rfl
theorem s107_10 {c : Nat → List AV → SS → Option Out} {l1 l2 : Option AV} {o : OId} {L2 : List (Nat × AV)} {St : List AV} {S : SS} : ev c 107 10 [some (aR o), l1, l2] L2 St S = ev c 107 11 [some (aR o), l1, l2] L2 (aR o :: St) S := ev_go i107_10 rfl
theorem i107_11 : insAt 107 11 = some (.iload_n 2, 1, (0, 0, 0, 0), 0) := rfl
theorem s107_11 {c : Nat → List AV → SS → Option Out} {l0 l1 : Option AV} {x : Int32} {L2 : List (Nat × AV)} {St : List AV} {S : SS} : ev c 107 11 [l0, l1, some (aI x)] L2 St S = ev c 107 12 [l0, l1, some (aI x)] L2 (aI x :: St) S := ev_go i107_11 rfl
theorem i107_12 : insAt 107 12 = some (.invokevirtual 109, 3, (108, 1, 2, 4), 0) := rfl
theorem s107_12 {c : Nat → List AV → SS → Option Out} {l0 l1 l2 : Option AV} {a0 : Int32} {j t : Nat} {L2 : List (Nat × AV)} {S : SS} : ev c 107 12 [l0, l1, l2] L2 [aI a0, aR (4, j, t)] S = ck (c 108 [aR (4, j, t), aI a0] S) (fun v S' => ev c 107 15 [l0, l1, l2] L2 (v.toList ++ []) S') := ev_call i107_12 rfl
theorem i107_15 : insAt 107 15 = some (.iload_n 1, 1, (0, 0, 0, 0), 0) := rfl
theorem s107_15 {c : Nat → List AV → SS → Option Out} {l0 l2 : Option AV} {x : Int32} {L2 : List (Nat × AV)} {St : List AV} {S : SS} : ev c 107 15 [l0, some (aI x), l2] L2 St S = ev c 107 16 [l0, some (aI x), l2] L2 (aI x :: St) S := ev_go i107_15 rfl
theorem i107_16 : insAt 107 16 = some (.if_icmp .ne 5, 3, (0, 0, 0, 0), 0) := rfl
theorem s107_16 {c : Nat → List AV → SS → Option Out} {l0 l1 l2 : Option AV} {x y : Int32} {L2 : List (Nat × AV)} {St : List AV} {S : SS} : ev c 107 16 [l0, l1, l2] L2 (aI y :: aI x :: St) S = if x = y then ev c 107 19 [l0, l1, l2] L2 St S else ev c 107 21 [l0, l1, l2] L2 St S := (ev_br i107_16 rfl).trans (ite_not _ _ _)
theorem i107_19 : insAt 107 19 = some (.iload_n 2, 1, (0, 0, 0, 0), 0) := rfl
theorem s107_19 {c : Nat → List AV → SS → Option Out} {l0 l1 : Option AV} {x : Int32} {L2 : List (Nat × AV)} {St : List AV} {S : SS} : ev c 107 19 [l0, l1, some (aI x)] L2 St S = ev c 107 20 [l0, l1, some (aI x)] L2 (aI x :: St) S := ev_go i107_19 rfl
theorem i107_20 : insAt 107 20 = some (.ireturn, 1, (0, 0, 0, 0), 0) := rfl
theorem s107_20 {c : Nat → List AV → SS → Option Out} {l0 l1 l2 : Option AV} {x : Int32} {L2 : List (Nat × AV)} {St : List AV} {S : SS} : ev c 107 20 [l0, l1, l2] L2 [aI x] S = some (.inl (some (aI x)), S) := ev_end i107_20 rfl
theorem i107_21 : insAt 107 21 = some (.iinc 2 1, 3, (0, 0, 0, 0), 0) := rfl
theorem s107_21 {c : Nat → List AV → SS → Option Out} {l0 l1 : Option AV} {x : Int32} {L2 : List (Nat × AV)} {St : List AV} {S : SS} : ev c 107 21 [l0, l1, some (aI x)] L2 St S = ev c 107 24 [l0, l1, some (aI (x + 1))] (kil L2 2) St S := ev_go i107_21 rfl
theorem i107_24 : insAt 107 24 = some (.goto (-22), 3, (0, 0, 0, 0), 0) := rfl
theorem s107_24 {c : Nat → List AV → SS → Option Out} {l0 l1 l2 : Option AV} {L2 : List (Nat × AV)} {St : List AV} {S : SS} : ev c 107 24 [l0, l1, l2] L2 St S = ev c 107 2 [l0, l1, l2] L2 St S := ev_go i107_24 rfl
theorem i107_27 : insAt 107 27 = some (.iconst (-1), 1, (0, 0, 0, 0), 0) := rfl
theorem s107_27 {c : Nat → List AV → SS → Option Out} {l0 l1 l2 : Option AV} {L2 : List (Nat × AV)} {St : List AV} {S : SS} : ev c 107 27 [l0, l1, l2] L2 St S = ev c 107 28 [l0, l1, l2] L2 (aI (-1) :: St) S := ev_go i107_27 rfl
theorem i107_28 : insAt 107 28 = some (.ireturn, 1, (0, 0, 0, 0), 0) := rfl
theorem s107_28 {c : Nat → List AV → SS → Option Out} {l0 l1 l2 : Option AV} {x : Int32} {L2 : List (Nat × AV)} {St : List AV} {S : SS} : ev c 107 28 [l0, l1, l2] L2 [aI x] S = some (.inl (some (aI x)), S) := ev_end i107_28 rfl
theorem m107 {d : Nat} {o : OId} {a0 : Int32} {S : SS} : evm (d + 1) 107 [aR o, aI a0] S = ev (evm d) 107 0 [some (aR o), some (aI a0), none] [] [] S := evm_s (n := 3) rfl (Nat.le_of_ble_eq_true rfl) rfl rfl
/-! FrequencyOffice$Books.countEarlier(I)I -/
theorem i108_0 : insAt 108 0 = some (.aload_n 0, 1, (0, 0, 0, 0), 0) := rfl
theorem s108_0 {c : Nat → List AV → SS → Option Out} {l1 l2 l3 l4 l5 : Option AV} {o : OId} {L2 : List (Nat × AV)} {St : List AV} {S : SS} : ev c 108 0 [some (aR o), l1, l2, l3, l4, l5] L2 St S = ev c 108 1 [some (aR o), l1, l2, l3, l4, l5] L2 (aR o :: St) S := ev_go i108_0 rfl
theorem i108_1 : insAt 108 1 = some (.iload_n 1, 1, (0, 0, 0, 0), 0) := rfl
theorem s108_1 {c : Nat → List AV → SS → Option Out} {l0 l2 l3 l4 l5 : Option AV} {x : Int32} {L2 : List (Nat × AV)} {St : List AV} {S : SS} : ev c 108 1 [l0, some (aI x), l2, l3, l4, l5] L2 St S = ev c 108 2 [l0, some (aI x), l2, l3, l4, l5] L2 (aI x :: St) S := ev_go i108_1 rfl
theorem i108_2 : insAt 108 2 = some (.invokevirtual 58, 3, (17, 1, 2, 4), 0) := rfl
theorem s108_2 {c : Nat → List AV → SS → Option Out} {l0 l1 l2 l3 l4 l5 : Option AV} {a0 : Int32} {j t : Nat} {L2 : List (Nat × AV)} {S : SS} : ev c 108 2 [l0, l1, l2, l3, l4, l5] L2 [aI a0, aR (4, j, t)] S = ck (c 17 [aR (4, j, t), aI a0] S) (fun v S' => ev c 108 5 [l0, l1, l2, l3, l4, l5] L2 (v.toList ++ []) S') := ev_call i108_2 rfl
theorem i108_5 : insAt 108 5 = some (.getfield 84, 3, (10, 4, 1, 0), 0) := rfl
theorem s108_5 {c : Nat → List AV → SS → Option Out} {l0 l1 l2 l3 l4 l5 : Option AV} {j t : Nat} {L2 : List (Nat × AV)} {St : List AV} {S : SS} : ev c 108 5 [l0, l1, l2, l3, l4, l5] L2 (aR (10, j, t) :: St) S = ev c 108 8 [l0, l1, l2, l3, l4, l5] L2 (aI (S.1 (10, j, t) 4) :: St) S := ev_go i108_5 rfl
theorem i108_8 : insAt 108 8 = some (.istore_n 2, 1, (0, 0, 0, 0), 0) := rfl
theorem s108_8 {c : Nat → List AV → SS → Option Out} {l0 l1 l2 l3 l4 l5 : Option AV} {x : Int32} {L2 : List (Nat × AV)} {St : List AV} {S : SS} : ev c 108 8 [l0, l1, l2, l3, l4, l5] L2 (aI x :: St) S = ev c 108 9 [l0, l1, some (aI x), l3, l4, l5] (kil L2 2) St S := ev_go i108_8 rfl
theorem i108_9 : insAt 108 9 = some (.iconst 0, 1, (0, 0, 0, 0), 0) := rfl
theorem s108_9 {c : Nat → List AV → SS → Option Out} {l0 l1 l2 l3 l4 l5 : Option AV} {L2 : List (Nat × AV)} {St : List AV} {S : SS} : ev c 108 9 [l0, l1, l2, l3, l4, l5] L2 St S = ev c 108 10 [l0, l1, l2, l3, l4, l5] L2 (aI 0 :: St) S := ev_go i108_9 rfl
theorem i108_10 : insAt 108 10 = some (.istore_n 3, 1, (0, 0, 0, 0), 0) := rfl
theorem s108_10 {c : Nat → List AV → SS → Option Out} {l0 l1 l2 l3 l4 l5 : Option AV} {x : Int32} {L2 : List (Nat × AV)} {St : List AV} {S : SS} : ev c 108 10 [l0, l1, l2, l3, l4, l5] L2 (aI x :: St) S = ev c 108 11 [l0, l1, l2, some (aI x), l4, l5] (kil L2 3) St S := ev_go i108_10 rfl
theorem i108_11 : insAt 108 11 = some (.iconst 0, 1, (0, 0, 0, 0), 0) := rfl
theorem s108_11 {c : Nat → List AV → SS → Option Out} {l0 l1 l2 l3 l4 l5 : Option AV} {L2 : List (Nat × AV)} {St : List AV} {S : SS} : ev c 108 11 [l0, l1, l2, l3, l4, l5] L2 St S = ev c 108 12 [l0, l1, l2, l3, l4, l5] L2 (aI 0 :: St) S := ev_go i108_11 rfl
theorem i108_12 : insAt 108 12 = some (.istore 4, 2, (0, 0, 0, 0), 0) := rfl
theorem s108_12 {c : Nat → List AV → SS → Option Out} {l0 l1 l2 l3 l4 l5 : Option AV} {x : Int32} {L2 : List (Nat × AV)} {St : List AV} {S : SS} : ev c 108 12 [l0, l1, l2, l3, l4, l5] L2 (aI x :: St) S = ev c 108 14 [l0, l1, l2, l3, some (aI x), l5] (kil L2 4) St S := ev_go i108_12 rfl
theorem i108_14 : insAt 108 14 = some (.iload 4, 2, (0, 0, 0, 0), 0) := rfl
theorem s108_14 {c : Nat → List AV → SS → Option Out} {l0 l1 l2 l3 l5 : Option AV} {x : Int32} {L2 : List (Nat × AV)} {St : List AV} {S : SS} : ev c 108 14 [l0, l1, l2, l3, some (aI x), l5] L2 St S = ev c 108 16 [l0, l1, l2, l3, some (aI x), l5] L2 (aI x :: St) S := ev_go i108_14 rfl
theorem i108_16 : insAt 108 16 = some (.aload_n 0, 1, (0, 0, 0, 0), 0) := rfl
theorem s108_16 {c : Nat → List AV → SS → Option Out} {l1 l2 l3 l4 l5 : Option AV} {o : OId} {L2 : List (Nat × AV)} {St : List AV} {S : SS} : ev c 108 16 [some (aR o), l1, l2, l3, l4, l5] L2 St S = ev c 108 17 [some (aR o), l1, l2, l3, l4, l5] L2 (aR o :: St) S := ev_go i108_16 rfl
theorem i108_17 : insAt 108 17 = some (.getfield 33, 3, (4, 7, 0, 0), 0) := rfl
theorem s108_17 {c : Nat → List AV → SS → Option Out} {l0 l1 l2 l3 l4 l5 : Option AV} {j t : Nat} {L2 : List (Nat × AV)} {St : List AV} {S : SS} : ev c 108 17 [l0, l1, l2, l3, l4, l5] L2 (aR (4, j, t) :: St) S = ev c 108 20 [l0, l1, l2, l3, l4, l5] L2 (aI (S.1 (4, j, t) 7) :: St) S := ev_go i108_17 rfl
theorem i108_20 : insAt 108 20 = some (.if_icmp .ge 61, 3, (0, 0, 0, 0), 0) := rfl
theorem s108_20 {c : Nat → List AV → SS → Option Out} {l0 l1 l2 l3 l4 l5 : Option AV} {x y : Int32} {L2 : List (Nat × AV)} {St : List AV} {S : SS} : ev c 108 20 [l0, l1, l2, l3, l4, l5] L2 (aI y :: aI x :: St) S = if y ≤ x then ev c 108 81 [l0, l1, l2, l3, l4, l5] L2 St S else ev c 108 23 [l0, l1, l2, l3, l4, l5] L2 St S := ev_br i108_20 rfl
theorem i108_23 : insAt 108 23 = some (.aload_n 0, 1, (0, 0, 0, 0), 0) := rfl
theorem s108_23 {c : Nat → List AV → SS → Option Out} {l1 l2 l3 l4 l5 : Option AV} {o : OId} {L2 : List (Nat × AV)} {St : List AV} {S : SS} : ev c 108 23 [some (aR o), l1, l2, l3, l4, l5] L2 St S = ev c 108 24 [some (aR o), l1, l2, l3, l4, l5] L2 (aR o :: St) S := ev_go i108_23 rfl
theorem i108_24 : insAt 108 24 = some (.iload 4, 2, (0, 0, 0, 0), 0) := rfl
theorem s108_24 {c : Nat → List AV → SS → Option Out} {l0 l1 l2 l3 l5 : Option AV} {x : Int32} {L2 : List (Nat × AV)} {St : List AV} {S : SS} : ev c 108 24 [l0, l1, l2, l3, some (aI x), l5] L2 St S = ev c 108 26 [l0, l1, l2, l3, some (aI x), l5] L2 (aI x :: St) S := ev_go i108_24 rfl
theorem i108_26 : insAt 108 26 = some (.invokevirtual 58, 3, (17, 1, 2, 4), 0) := rfl
theorem s108_26 {c : Nat → List AV → SS → Option Out} {l0 l1 l2 l3 l4 l5 : Option AV} {a0 : Int32} {j t : Nat} {L2 : List (Nat × AV)} {S : SS} : ev c 108 26 [l0, l1, l2, l3, l4, l5] L2 [aI a0, aR (4, j, t)] S = ck (c 17 [aR (4, j, t), aI a0] S) (fun v S' => ev c 108 29 [l0, l1, l2, l3, l4, l5] L2 (v.toList ++ []) S') := ev_call i108_26 rfl
theorem i108_29 : insAt 108 29 = some (.getfield 84, 3, (10, 4, 1, 0), 0) := rfl
theorem s108_29 {c : Nat → List AV → SS → Option Out} {l0 l1 l2 l3 l4 l5 : Option AV} {j t : Nat} {L2 : List (Nat × AV)} {St : List AV} {S : SS} : ev c 108 29 [l0, l1, l2, l3, l4, l5] L2 (aR (10, j, t) :: St) S = ev c 108 32 [l0, l1, l2, l3, l4, l5] L2 (aI (S.1 (10, j, t) 4) :: St) S := ev_go i108_29 rfl
theorem i108_32 : insAt 108 32 = some (.iload_n 2, 1, (0, 0, 0, 0), 0) := rfl
theorem s108_32 {c : Nat → List AV → SS → Option Out} {l0 l1 l3 l4 l5 : Option AV} {x : Int32} {L2 : List (Nat × AV)} {St : List AV} {S : SS} : ev c 108 32 [l0, l1, some (aI x), l3, l4, l5] L2 St S = ev c 108 33 [l0, l1, some (aI x), l3, l4, l5] L2 (aI x :: St) S := ev_go i108_32 rfl
theorem i108_33 : insAt 108 33 = some (.if_icmp .lt 22, 3, (0, 0, 0, 0), 0) := rfl
theorem s108_33 {c : Nat → List AV → SS → Option Out} {l0 l1 l2 l3 l4 l5 : Option AV} {x y : Int32} {L2 : List (Nat × AV)} {St : List AV} {S : SS} : ev c 108 33 [l0, l1, l2, l3, l4, l5] L2 (aI y :: aI x :: St) S = if x < y then ev c 108 55 [l0, l1, l2, l3, l4, l5] L2 St S else ev c 108 36 [l0, l1, l2, l3, l4, l5] L2 St S := ev_br i108_33 rfl
theorem i108_36 : insAt 108 36 = some (.aload_n 0, 1, (0, 0, 0, 0), 0) := rfl
theorem s108_36 {c : Nat → List AV → SS → Option Out} {l1 l2 l3 l4 l5 : Option AV} {o : OId} {L2 : List (Nat × AV)} {St : List AV} {S : SS} : ev c 108 36 [some (aR o), l1, l2, l3, l4, l5] L2 St S = ev c 108 37 [some (aR o), l1, l2, l3, l4, l5] L2 (aR o :: St) S := ev_go i108_36 rfl
theorem i108_37 : insAt 108 37 = some (.iload 4, 2, (0, 0, 0, 0), 0) := rfl
theorem s108_37 {c : Nat → List AV → SS → Option Out} {l0 l1 l2 l3 l5 : Option AV} {x : Int32} {L2 : List (Nat × AV)} {St : List AV} {S : SS} : ev c 108 37 [l0, l1, l2, l3, some (aI x), l5] L2 St S = ev c 108 39 [l0, l1, l2, l3, some (aI x), l5] L2 (aI x :: St) S := ev_go i108_37 rfl
theorem i108_39 : insAt 108 39 = some (.invokevirtual 58, 3, (17, 1, 2, 4), 0) := rfl
theorem s108_39 {c : Nat → List AV → SS → Option Out} {l0 l1 l2 l3 l4 l5 : Option AV} {a0 : Int32} {j t : Nat} {L2 : List (Nat × AV)} {S : SS} : ev c 108 39 [l0, l1, l2, l3, l4, l5] L2 [aI a0, aR (4, j, t)] S = ck (c 17 [aR (4, j, t), aI a0] S) (fun v S' => ev c 108 42 [l0, l1, l2, l3, l4, l5] L2 (v.toList ++ []) S') := ev_call i108_39 rfl
theorem i108_42 : insAt 108 42 = some (.getfield 84, 3, (10, 4, 1, 0), 0) := rfl
theorem s108_42 {c : Nat → List AV → SS → Option Out} {l0 l1 l2 l3 l4 l5 : Option AV} {j t : Nat} {L2 : List (Nat × AV)} {St : List AV} {S : SS} : ev c 108 42 [l0, l1, l2, l3, l4, l5] L2 (aR (10, j, t) :: St) S = ev c 108 45 [l0, l1, l2, l3, l4, l5] L2 (aI (S.1 (10, j, t) 4) :: St) S := ev_go i108_42 rfl
theorem i108_45 : insAt 108 45 = some (.iload_n 2, 1, (0, 0, 0, 0), 0) := rfl
theorem s108_45 {c : Nat → List AV → SS → Option Out} {l0 l1 l3 l4 l5 : Option AV} {x : Int32} {L2 : List (Nat × AV)} {St : List AV} {S : SS} : ev c 108 45 [l0, l1, some (aI x), l3, l4, l5] L2 St S = ev c 108 46 [l0, l1, some (aI x), l3, l4, l5] L2 (aI x :: St) S := ev_go i108_45 rfl
theorem i108_46 : insAt 108 46 = some (.if_icmp .ne 13, 3, (0, 0, 0, 0), 0) := rfl
theorem s108_46 {c : Nat → List AV → SS → Option Out} {l0 l1 l2 l3 l4 l5 : Option AV} {x y : Int32} {L2 : List (Nat × AV)} {St : List AV} {S : SS} : ev c 108 46 [l0, l1, l2, l3, l4, l5] L2 (aI y :: aI x :: St) S = if x = y then ev c 108 49 [l0, l1, l2, l3, l4, l5] L2 St S else ev c 108 59 [l0, l1, l2, l3, l4, l5] L2 St S := (ev_br i108_46 rfl).trans (ite_not _ _ _)
theorem i108_49 : insAt 108 49 = some (.iload 4, 2, (0, 0, 0, 0), 0) := rfl
theorem s108_49 {c : Nat → List AV → SS → Option Out} {l0 l1 l2 l3 l5 : Option AV} {x : Int32} {L2 : List (Nat × AV)} {St : List AV} {S : SS} : ev c 108 49 [l0, l1, l2, l3, some (aI x), l5] L2 St S = ev c 108 51 [l0, l1, l2, l3, some (aI x), l5] L2 (aI x :: St) S := ev_go i108_49 rfl
theorem i108_51 : insAt 108 51 = some (.iload_n 1, 1, (0, 0, 0, 0), 0) := rfl
theorem s108_51 {c : Nat → List AV → SS → Option Out} {l0 l2 l3 l4 l5 : Option AV} {x : Int32} {L2 : List (Nat × AV)} {St : List AV} {S : SS} : ev c 108 51 [l0, some (aI x), l2, l3, l4, l5] L2 St S = ev c 108 52 [l0, some (aI x), l2, l3, l4, l5] L2 (aI x :: St) S := ev_go i108_51 rfl
theorem i108_52 : insAt 108 52 = some (.if_icmp .ge 7, 3, (0, 0, 0, 0), 0) := rfl
theorem s108_52 {c : Nat → List AV → SS → Option Out} {l0 l1 l2 l3 l4 l5 : Option AV} {x y : Int32} {L2 : List (Nat × AV)} {St : List AV} {S : SS} : ev c 108 52 [l0, l1, l2, l3, l4, l5] L2 (aI y :: aI x :: St) S = if y ≤ x then ev c 108 59 [l0, l1, l2, l3, l4, l5] L2 St S else ev c 108 55 [l0, l1, l2, l3, l4, l5] L2 St S := ev_br i108_52 rfl
theorem i108_55 : insAt 108 55 = some (.iconst 1, 1, (0, 0, 0, 0), 0) := rfl
theorem s108_55 {c : Nat → List AV → SS → Option Out} {l0 l1 l2 l3 l4 l5 : Option AV} {L2 : List (Nat × AV)} {St : List AV} {S : SS} : ev c 108 55 [l0, l1, l2, l3, l4, l5] L2 St S = ev c 108 56 [l0, l1, l2, l3, l4, l5] L2 (aI 1 :: St) S := ev_go i108_55 rfl
theorem i108_56 : insAt 108 56 = some (.goto 4, 3, (0, 0, 0, 0), 0) := rfl
theorem s108_56 {c : Nat → List AV → SS → Option Out} {l0 l1 l2 l3 l4 l5 : Option AV} {L2 : List (Nat × AV)} {St : List AV} {S : SS} : ev c 108 56 [l0, l1, l2, l3, l4, l5] L2 St S = ev c 108 60 [l0, l1, l2, l3, l4, l5] L2 St S := ev_go i108_56 rfl
theorem i108_59 : insAt 108 59 = some (.iconst 0, 1, (0, 0, 0, 0), 0) := rfl
theorem s108_59 {c : Nat → List AV → SS → Option Out} {l0 l1 l2 l3 l4 l5 : Option AV} {L2 : List (Nat × AV)} {St : List AV} {S : SS} : ev c 108 59 [l0, l1, l2, l3, l4, l5] L2 St S = ev c 108 60 [l0, l1, l2, l3, l4, l5] L2 (aI 0 :: St) S := ev_go i108_59 rfl
theorem i108_60 : insAt 108 60 = some (.istore 5, 2, (0, 0, 0, 0), 0) := rfl
theorem s108_60 {c : Nat → List AV → SS → Option Out} {l0 l1 l2 l3 l4 l5 : Option AV} {x : Int32} {L2 : List (Nat × AV)} {St : List AV} {S : SS} : ev c 108 60 [l0, l1, l2, l3, l4, l5] L2 (aI x :: St) S = ev c 108 62 [l0, l1, l2, l3, l4, some (aI x)] (kil L2 5) St S := ev_go i108_60 rfl
theorem i108_62 : insAt 108 62 = some (.iload_n 3, 1, (0, 0, 0, 0), 0) := rfl
theorem s108_62 {c : Nat → List AV → SS → Option Out} {l0 l1 l2 l4 l5 : Option AV} {x : Int32} {L2 : List (Nat × AV)} {St : List AV} {S : SS} : ev c 108 62 [l0, l1, l2, some (aI x), l4, l5] L2 St S = ev c 108 63 [l0, l1, l2, some (aI x), l4, l5] L2 (aI x :: St) S := ev_go i108_62 rfl
theorem i108_63 : insAt 108 63 = some (.iload 5, 2, (0, 0, 0, 0), 0) := rfl
theorem s108_63 {c : Nat → List AV → SS → Option Out} {l0 l1 l2 l3 l4 : Option AV} {x : Int32} {L2 : List (Nat × AV)} {St : List AV} {S : SS} : ev c 108 63 [l0, l1, l2, l3, l4, some (aI x)] L2 St S = ev c 108 65 [l0, l1, l2, l3, l4, some (aI x)] L2 (aI x :: St) S := ev_go i108_63 rfl
theorem i108_65 : insAt 108 65 = some (.ifCond .eq 7, 3, (0, 0, 0, 0), 0) := rfl
theorem s108_65 {c : Nat → List AV → SS → Option Out} {l0 l1 l2 l3 l4 l5 : Option AV} {x : Int32} {L2 : List (Nat × AV)} {St : List AV} {S : SS} : ev c 108 65 [l0, l1, l2, l3, l4, l5] L2 (aI x :: St) S = if x = 0 then ev c 108 72 [l0, l1, l2, l3, l4, l5] L2 St S else ev c 108 68 [l0, l1, l2, l3, l4, l5] L2 St S := ev_br i108_65 rfl
theorem i108_68 : insAt 108 68 = some (.iconst 1, 1, (0, 0, 0, 0), 0) := rfl
theorem s108_68 {c : Nat → List AV → SS → Option Out} {l0 l1 l2 l3 l4 l5 : Option AV} {L2 : List (Nat × AV)} {St : List AV} {S : SS} : ev c 108 68 [l0, l1, l2, l3, l4, l5] L2 St S = ev c 108 69 [l0, l1, l2, l3, l4, l5] L2 (aI 1 :: St) S := ev_go i108_68 rfl
theorem i108_69 : insAt 108 69 = some (.goto 4, 3, (0, 0, 0, 0), 0) := rfl
theorem s108_69 {c : Nat → List AV → SS → Option Out} {l0 l1 l2 l3 l4 l5 : Option AV} {L2 : List (Nat × AV)} {St : List AV} {S : SS} : ev c 108 69 [l0, l1, l2, l3, l4, l5] L2 St S = ev c 108 73 [l0, l1, l2, l3, l4, l5] L2 St S := ev_go i108_69 rfl
theorem i108_72 : insAt 108 72 = some (.iconst 0, 1, (0, 0, 0, 0), 0) := rfl
theorem s108_72 {c : Nat → List AV → SS → Option Out} {l0 l1 l2 l3 l4 l5 : Option AV} {L2 : List (Nat × AV)} {St : List AV} {S : SS} : ev c 108 72 [l0, l1, l2, l3, l4, l5] L2 St S = ev c 108 73 [l0, l1, l2, l3, l4, l5] L2 (aI 0 :: St) S := ev_go i108_72 rfl
theorem i108_73 : insAt 108 73 = some (.iadd, 1, (0, 0, 0, 0), 0) := rfl
theorem s108_73 {c : Nat → List AV → SS → Option Out} {l0 l1 l2 l3 l4 l5 : Option AV} {x y : Int32} {L2 : List (Nat × AV)} {St : List AV} {S : SS} : ev c 108 73 [l0, l1, l2, l3, l4, l5] L2 (aI y :: aI x :: St) S = ev c 108 74 [l0, l1, l2, l3, l4, l5] L2 (aI (x + y) :: St) S := ev_go i108_73 rfl
theorem i108_74 : insAt 108 74 = some (.istore_n 3, 1, (0, 0, 0, 0), 0) := rfl
theorem s108_74 {c : Nat → List AV → SS → Option Out} {l0 l1 l2 l3 l4 l5 : Option AV} {x : Int32} {L2 : List (Nat × AV)} {St : List AV} {S : SS} : ev c 108 74 [l0, l1, l2, l3, l4, l5] L2 (aI x :: St) S = ev c 108 75 [l0, l1, l2, some (aI x), l4, l5] (kil L2 3) St S := ev_go i108_74 rfl
theorem i108_75 : insAt 108 75 = some (.iinc 4 1, 3, (0, 0, 0, 0), 0) := rfl
theorem s108_75 {c : Nat → List AV → SS → Option Out} {l0 l1 l2 l3 l5 : Option AV} {x : Int32} {L2 : List (Nat × AV)} {St : List AV} {S : SS} : ev c 108 75 [l0, l1, l2, l3, some (aI x), l5] L2 St S = ev c 108 78 [l0, l1, l2, l3, some (aI (x + 1)), l5] (kil L2 4) St S := ev_go i108_75 rfl
theorem i108_78 : insAt 108 78 = some (.goto (-64), 3, (0, 0, 0, 0), 0) := rfl
theorem s108_78 {c : Nat → List AV → SS → Option Out} {l0 l1 l2 l3 l4 l5 : Option AV} {L2 : List (Nat × AV)} {St : List AV} {S : SS} : ev c 108 78 [l0, l1, l2, l3, l4, l5] L2 St S = ev c 108 14 [l0, l1, l2, l3, l4, l5] L2 St S := ev_go i108_78 rfl
theorem i108_81 : insAt 108 81 = some (.iload_n 3, 1, (0, 0, 0, 0), 0) := rfl
theorem s108_81 {c : Nat → List AV → SS → Option Out} {l0 l1 l2 l4 l5 : Option AV} {x : Int32} {L2 : List (Nat × AV)} {St : List AV} {S : SS} : ev c 108 81 [l0, l1, l2, some (aI x), l4, l5] L2 St S = ev c 108 82 [l0, l1, l2, some (aI x), l4, l5] L2 (aI x :: St) S := ev_go i108_81 rfl
theorem i108_82 : insAt 108 82 = some (.ireturn, 1, (0, 0, 0, 0), 0) := rfl
theorem s108_82 {c : Nat → List AV → SS → Option Out} {l0 l1 l2 l3 l4 l5 : Option AV} {x : Int32} {L2 : List (Nat × AV)} {St : List AV} {S : SS} : ev c 108 82 [l0, l1, l2, l3, l4, l5] L2 [aI x] S = some (.inl (some (aI x)), S) := ev_end i108_82 rfl
theorem m108 {d : Nat} {o : OId} {a0 : Int32} {S : SS} : evm (d + 1) 108 [aR o, aI a0] S = ev (evm d) 108 0 [some (aR o), some (aI a0), none, none, none, none] [] [] S := evm_s (n := 6) rfl (Nat.le_of_ble_eq_true rfl) rfl rfl
/-! FrequencyOffice$Books.squaredBetween(II)I -/
theorem i122_0 : insAt 122 0 = some (.aload_n 0, 1, (0, 0, 0, 0), 0) := rfl
theorem s122_0 {c : Nat → List AV → SS → Option Out} {l1 l2 : Option AV} {o : OId} {L2 : List (Nat × AV)} {St : List AV} {S : SS} : ev c 122 0 [some (aR o), l1, l2] L2 St S = ev c 122 1 [some (aR o), l1, l2] L2 (aR o :: St) S := ev_go i122_0 rfl
theorem i122_1 : insAt 122 1 = some (.iload_n 1, 1, (0, 0, 0, 0), 0) := rfl
theorem s122_1 {c : Nat → List AV → SS → Option Out} {l0 l2 : Option AV} {x : Int32} {L2 : List (Nat × AV)} {St : List AV} {S : SS} : ev c 122 1 [l0, some (aI x), l2] L2 St S = ev c 122 2 [l0, some (aI x), l2] L2 (aI x :: St) S := ev_go i122_1 rfl
theorem i122_2 : insAt 122 2 = some (.invokevirtual 58, 3, (17, 1, 2, 4), 0) := rfl
theorem s122_2 {c : Nat → List AV → SS → Option Out} {l0 l1 l2 : Option AV} {a0 : Int32} {j t : Nat} {L2 : List (Nat × AV)} {S : SS} : ev c 122 2 [l0, l1, l2] L2 [aI a0, aR (4, j, t)] S = ck (c 17 [aR (4, j, t), aI a0] S) (fun v S' => ev c 122 5 [l0, l1, l2] L2 (v.toList ++ []) S') := ev_call i122_2 rfl
theorem i122_5 : insAt 122 5 = some (.aload_n 0, 1, (0, 0, 0, 0), 0) := rfl
theorem s122_5 {c : Nat → List AV → SS → Option Out} {l1 l2 : Option AV} {o : OId} {L2 : List (Nat × AV)} {St : List AV} {S : SS} : ev c 122 5 [some (aR o), l1, l2] L2 St S = ev c 122 6 [some (aR o), l1, l2] L2 (aR o :: St) S := ev_go i122_5 rfl
theorem i122_6 : insAt 122 6 = some (.iload_n 2, 1, (0, 0, 0, 0), 0) := rfl
theorem s122_6 {c : Nat → List AV → SS → Option Out} {l0 l1 : Option AV} {x : Int32} {L2 : List (Nat × AV)} {St : List AV} {S : SS} : ev c 122 6 [l0, l1, some (aI x)] L2 St S = ev c 122 7 [l0, l1, some (aI x)] L2 (aI x :: St) S := ev_go i122_6 rfl
theorem i122_7 : insAt 122 7 = some (.invokevirtual 58, 3, (17, 1, 2, 4), 0) := rfl
theorem s122_7 {c : Nat → List AV → SS → Option Out} {l0 l1 l2 : Option AV} {t0 : AV} {a0 : Int32} {j t : Nat} {L2 : List (Nat × AV)} {S : SS} : ev c 122 7 [l0, l1, l2] L2 [aI a0, aR (4, j, t), t0] S = ck (c 17 [aR (4, j, t), aI a0] S) (fun v S' => ev c 122 10 [l0, l1, l2] L2 (v.toList ++ [t0]) S') := ev_call i122_7 rfl
theorem i122_10 : insAt 122 10 = some (.getfield 78, 3, (10, 1, 1, 0), 0) := rfl
theorem s122_10 {c : Nat → List AV → SS → Option Out} {l0 l1 l2 : Option AV} {j t : Nat} {L2 : List (Nat × AV)} {St : List AV} {S : SS} : ev c 122 10 [l0, l1, l2] L2 (aR (10, j, t) :: St) S = ev c 122 13 [l0, l1, l2] L2 (aI (S.1 (10, j, t) 1) :: St) S := ev_go i122_10 rfl
theorem i122_13 : insAt 122 13 = some (.aload_n 0, 1, (0, 0, 0, 0), 0) := rfl
theorem s122_13 {c : Nat → List AV → SS → Option Out} {l1 l2 : Option AV} {o : OId} {L2 : List (Nat × AV)} {St : List AV} {S : SS} : ev c 122 13 [some (aR o), l1, l2] L2 St S = ev c 122 14 [some (aR o), l1, l2] L2 (aR o :: St) S := ev_go i122_13 rfl
theorem i122_14 : insAt 122 14 = some (.iload_n 2, 1, (0, 0, 0, 0), 0) := rfl
theorem s122_14 {c : Nat → List AV → SS → Option Out} {l0 l1 : Option AV} {x : Int32} {L2 : List (Nat × AV)} {St : List AV} {S : SS} : ev c 122 14 [l0, l1, some (aI x)] L2 St S = ev c 122 15 [l0, l1, some (aI x)] L2 (aI x :: St) S := ev_go i122_14 rfl
theorem i122_15 : insAt 122 15 = some (.invokevirtual 58, 3, (17, 1, 2, 4), 0) := rfl
theorem s122_15 {c : Nat → List AV → SS → Option Out} {l0 l1 l2 : Option AV} {t0 t1 : AV} {a0 : Int32} {j t : Nat} {L2 : List (Nat × AV)} {S : SS} : ev c 122 15 [l0, l1, l2] L2 [aI a0, aR (4, j, t), t0, t1] S = ck (c 17 [aR (4, j, t), aI a0] S) (fun v S' => ev c 122 18 [l0, l1, l2] L2 (v.toList ++ [t0, t1]) S') := ev_call i122_15 rfl
theorem i122_18 : insAt 122 18 = some (.getfield 81, 3, (10, 2, 1, 0), 0) := rfl
theorem s122_18 {c : Nat → List AV → SS → Option Out} {l0 l1 l2 : Option AV} {j t : Nat} {L2 : List (Nat × AV)} {St : List AV} {S : SS} : ev c 122 18 [l0, l1, l2] L2 (aR (10, j, t) :: St) S = ev c 122 21 [l0, l1, l2] L2 (aI (S.1 (10, j, t) 2) :: St) S := ev_go i122_18 rfl
theorem i122_21 : insAt 122 21 = some (.invokevirtual 113, 3, (28, 2, 3, 10), 0) := rfl
theorem s122_21 {c : Nat → List AV → SS → Option Out} {l0 l1 l2 : Option AV} {a0 : Int32} {a1 : Int32} {j t : Nat} {L2 : List (Nat × AV)} {S : SS} : ev c 122 21 [l0, l1, l2] L2 [aI a1, aI a0, aR (10, j, t)] S = ck (c 28 [aR (10, j, t), aI a0, aI a1] S) (fun v S' => ev c 122 24 [l0, l1, l2] L2 (v.toList ++ []) S') := ev_call i122_21 rfl
theorem i122_24 : insAt 122 24 = some (.ireturn, 1, (0, 0, 0, 0), 0) := rfl
theorem s122_24 {c : Nat → List AV → SS → Option Out} {l0 l1 l2 : Option AV} {x : Int32} {L2 : List (Nat × AV)} {St : List AV} {S : SS} : ev c 122 24 [l0, l1, l2] L2 [aI x] S = some (.inl (some (aI x)), S) := ev_end i122_24 rfl
theorem m122 {d : Nat} {o : OId} {a0 : Int32} {a1 : Int32} {S : SS} : evm (d + 1) 122 [aR o, aI a0, aI a1] S = ev (evm d) 122 0 [some (aR o), some (aI a0), some (aI a1)] [] [] S := evm_s (n := 3) rfl (Nat.le_of_ble_eq_true rfl) rfl rfl
/-! FrequencyOffice$Books.sumOfDisturbances()I -/
theorem i138_0 : insAt 138 0 = some (.iconst 0, 1, (0, 0, 0, 0), 0) := rfl
theorem s138_0 {c : Nat → List AV → SS → Option Out} {l0 l1 l2 l3 : Option AV} {L2 : List (Nat × AV)} {St : List AV} {S : SS} : ev c 138 0 [l0, l1, l2, l3] L2 St S = ev c 138 1 [l0, l1, l2, l3] L2 (aI 0 :: St) S := ev_go i138_0 rfl
theorem i138_1 : insAt 138 1 = some (.istore_n 1, 1, (0, 0, 0, 0), 0) := rfl
theorem s138_1 {c : Nat → List AV → SS → Option Out} {l0 l1 l2 l3 : Option AV} {x : Int32} {L2 : List (Nat × AV)} {St : List AV} {S : SS} : ev c 138 1 [l0, l1, l2, l3] L2 (aI x :: St) S = ev c 138 2 [l0, some (aI x), l2, l3] (kil L2 1) St S := ev_go i138_1 rfl
theorem i138_2 : insAt 138 2 = some (.iconst 0, 1, (0, 0, 0, 0), 0) := rfl
theorem s138_2 {c : Nat → List AV → SS → Option Out} {l0 l1 l2 l3 : Option AV} {L2 : List (Nat × AV)} {St : List AV} {S : SS} : ev c 138 2 [l0, l1, l2, l3] L2 St S = ev c 138 3 [l0, l1, l2, l3] L2 (aI 0 :: St) S := ev_go i138_2 rfl
theorem i138_3 : insAt 138 3 = some (.istore_n 2, 1, (0, 0, 0, 0), 0) := rfl
theorem s138_3 {c : Nat → List AV → SS → Option Out} {l0 l1 l2 l3 : Option AV} {x : Int32} {L2 : List (Nat × AV)} {St : List AV} {S : SS} : ev c 138 3 [l0, l1, l2, l3] L2 (aI x :: St) S = ev c 138 4 [l0, l1, some (aI x), l3] (kil L2 2) St S := ev_go i138_3 rfl
theorem i138_4 : insAt 138 4 = some (.iload_n 2, 1, (0, 0, 0, 0), 0) := rfl
theorem s138_4 {c : Nat → List AV → SS → Option Out} {l0 l1 l3 : Option AV} {x : Int32} {L2 : List (Nat × AV)} {St : List AV} {S : SS} : ev c 138 4 [l0, l1, some (aI x), l3] L2 St S = ev c 138 5 [l0, l1, some (aI x), l3] L2 (aI x :: St) S := ev_go i138_4 rfl
theorem i138_5 : insAt 138 5 = some (.aload_n 0, 1, (0, 0, 0, 0), 0) := rfl
theorem s138_5 {c : Nat → List AV → SS → Option Out} {l1 l2 l3 : Option AV} {o : OId} {L2 : List (Nat × AV)} {St : List AV} {S : SS} : ev c 138 5 [some (aR o), l1, l2, l3] L2 St S = ev c 138 6 [some (aR o), l1, l2, l3] L2 (aR o :: St) S := ev_go i138_5 rfl
theorem i138_6 : insAt 138 6 = some (.getfield 33, 3, (4, 7, 0, 0), 0) := rfl
theorem s138_6 {c : Nat → List AV → SS → Option Out} {l0 l1 l2 l3 : Option AV} {j t : Nat} {L2 : List (Nat × AV)} {St : List AV} {S : SS} : ev c 138 6 [l0, l1, l2, l3] L2 (aR (4, j, t) :: St) S = ev c 138 9 [l0, l1, l2, l3] L2 (aI (S.1 (4, j, t) 7) :: St) S := ev_go i138_6 rfl
theorem i138_9 : insAt 138 9 = some (.if_icmp .ge 42, 3, (0, 0, 0, 0), 0) := rfl
theorem s138_9 {c : Nat → List AV → SS → Option Out} {l0 l1 l2 l3 : Option AV} {x y : Int32} {L2 : List (Nat × AV)} {St : List AV} {S : SS} : ev c 138 9 [l0, l1, l2, l3] L2 (aI y :: aI x :: St) S = if y ≤ x then ev c 138 51 [l0, l1, l2, l3] L2 St S else ev c 138 12 [l0, l1, l2, l3] L2 St S := ev_br i138_9 rfl
theorem i138_12 : insAt 138 12 = some (.aload_n 0, 1, (0, 0, 0, 0), 0) := rfl
theorem s138_12 {c : Nat → List AV → SS → Option Out} {l1 l2 l3 : Option AV} {o : OId} {L2 : List (Nat × AV)} {St : List AV} {S : SS} : ev c 138 12 [some (aR o), l1, l2, l3] L2 St S = ev c 138 13 [some (aR o), l1, l2, l3] L2 (aR o :: St) S := ev_go i138_12 rfl
theorem i138_13 : insAt 138 13 = some (.iload_n 2, 1, (0, 0, 0, 0), 0) := rfl
theorem s138_13 {c : Nat → List AV → SS → Option Out} {l0 l1 l3 : Option AV} {x : Int32} {L2 : List (Nat × AV)} {St : List AV} {S : SS} : ev c 138 13 [l0, l1, some (aI x), l3] L2 St S = ev c 138 14 [l0, l1, some (aI x), l3] L2 (aI x :: St) S := ev_go i138_13 rfl
theorem i138_14 : insAt 138 14 = some (.invokevirtual 58, 3, (17, 1, 2, 4), 0) := rfl
theorem s138_14 {c : Nat → List AV → SS → Option Out} {l0 l1 l2 l3 : Option AV} {a0 : Int32} {j t : Nat} {L2 : List (Nat × AV)} {S : SS} : ev c 138 14 [l0, l1, l2, l3] L2 [aI a0, aR (4, j, t)] S = ck (c 17 [aR (4, j, t), aI a0] S) (fun v S' => ev c 138 17 [l0, l1, l2, l3] L2 (v.toList ++ []) S') := ev_call i138_14 rfl
theorem i138_17 : insAt 138 17 = some (.astore_n 3, 1, (0, 0, 0, 0), 0) := rfl
theorem s138_17 {c : Nat → List AV → SS → Option Out} {l0 l1 l2 l3 : Option AV} {o : OId} {L2 : List (Nat × AV)} {St : List AV} {S : SS} : ev c 138 17 [l0, l1, l2, l3] L2 (aR o :: St) S = ev c 138 18 [l0, l1, l2, some (aR o)] (kil L2 3) St S := ev_go i138_17 rfl
theorem i138_18 : insAt 138 18 = some (.aload_n 3, 1, (0, 0, 0, 0), 0) := rfl
theorem s138_18 {c : Nat → List AV → SS → Option Out} {l0 l1 l2 : Option AV} {o : OId} {L2 : List (Nat × AV)} {St : List AV} {S : SS} : ev c 138 18 [l0, l1, l2, some (aR o)] L2 St S = ev c 138 19 [l0, l1, l2, some (aR o)] L2 (aR o :: St) S := ev_go i138_18 rfl
theorem i138_19 : insAt 138 19 = some (.getfield 87, 3, (10, 5, 1, 0), 0) := rfl
theorem s138_19 {c : Nat → List AV → SS → Option Out} {l0 l1 l2 l3 : Option AV} {j t : Nat} {L2 : List (Nat × AV)} {St : List AV} {S : SS} : ev c 138 19 [l0, l1, l2, l3] L2 (aR (10, j, t) :: St) S = ev c 138 22 [l0, l1, l2, l3] L2 (aI (bb (S.1 (10, j, t) 5)) :: St) S := ev_go i138_19 rfl
theorem i138_22 : insAt 138 22 = some (.ifCond .ne 23, 3, (0, 0, 0, 0), 0) := rfl
theorem s138_22 {c : Nat → List AV → SS → Option Out} {l0 l1 l2 l3 : Option AV} {x : Int32} {L2 : List (Nat × AV)} {St : List AV} {S : SS} : ev c 138 22 [l0, l1, l2, l3] L2 (aI x :: St) S = if x = 0 then ev c 138 25 [l0, l1, l2, l3] L2 St S else ev c 138 45 [l0, l1, l2, l3] L2 St S := (ev_br i138_22 rfl).trans (ite_not _ _ _)
theorem i138_25 : insAt 138 25 = some (.iload_n 1, 1, (0, 0, 0, 0), 0) := rfl
theorem s138_25 {c : Nat → List AV → SS → Option Out} {l0 l2 l3 : Option AV} {x : Int32} {L2 : List (Nat × AV)} {St : List AV} {S : SS} : ev c 138 25 [l0, some (aI x), l2, l3] L2 St S = ev c 138 26 [l0, some (aI x), l2, l3] L2 (aI x :: St) S := ev_go i138_25 rfl
theorem i138_26 : insAt 138 26 = some (.aload_n 0, 1, (0, 0, 0, 0), 0) := rfl
theorem s138_26 {c : Nat → List AV → SS → Option Out} {l1 l2 l3 : Option AV} {o : OId} {L2 : List (Nat × AV)} {St : List AV} {S : SS} : ev c 138 26 [some (aR o), l1, l2, l3] L2 St S = ev c 138 27 [some (aR o), l1, l2, l3] L2 (aR o :: St) S := ev_go i138_26 rfl
theorem i138_27 : insAt 138 27 = some (.aload_n 3, 1, (0, 0, 0, 0), 0) := rfl
theorem s138_27 {c : Nat → List AV → SS → Option Out} {l0 l1 l2 : Option AV} {o : OId} {L2 : List (Nat × AV)} {St : List AV} {S : SS} : ev c 138 27 [l0, l1, l2, some (aR o)] L2 St S = ev c 138 28 [l0, l1, l2, some (aR o)] L2 (aR o :: St) S := ev_go i138_27 rfl
theorem i138_28 : insAt 138 28 = some (.getfield 78, 3, (10, 1, 1, 0), 0) := rfl
theorem s138_28 {c : Nat → List AV → SS → Option Out} {l0 l1 l2 l3 : Option AV} {j t : Nat} {L2 : List (Nat × AV)} {St : List AV} {S : SS} : ev c 138 28 [l0, l1, l2, l3] L2 (aR (10, j, t) :: St) S = ev c 138 31 [l0, l1, l2, l3] L2 (aI (S.1 (10, j, t) 1) :: St) S := ev_go i138_28 rfl
theorem i138_31 : insAt 138 31 = some (.aload_n 3, 1, (0, 0, 0, 0), 0) := rfl
theorem s138_31 {c : Nat → List AV → SS → Option Out} {l0 l1 l2 : Option AV} {o : OId} {L2 : List (Nat × AV)} {St : List AV} {S : SS} : ev c 138 31 [l0, l1, l2, some (aR o)] L2 St S = ev c 138 32 [l0, l1, l2, some (aR o)] L2 (aR o :: St) S := ev_go i138_31 rfl
theorem i138_32 : insAt 138 32 = some (.getfield 81, 3, (10, 2, 1, 0), 0) := rfl
theorem s138_32 {c : Nat → List AV → SS → Option Out} {l0 l1 l2 l3 : Option AV} {j t : Nat} {L2 : List (Nat × AV)} {St : List AV} {S : SS} : ev c 138 32 [l0, l1, l2, l3] L2 (aR (10, j, t) :: St) S = ev c 138 35 [l0, l1, l2, l3] L2 (aI (S.1 (10, j, t) 2) :: St) S := ev_go i138_32 rfl
theorem i138_35 : insAt 138 35 = some (.aload_n 3, 1, (0, 0, 0, 0), 0) := rfl
theorem s138_35 {c : Nat → List AV → SS → Option Out} {l0 l1 l2 : Option AV} {o : OId} {L2 : List (Nat × AV)} {St : List AV} {S : SS} : ev c 138 35 [l0, l1, l2, some (aR o)] L2 St S = ev c 138 36 [l0, l1, l2, some (aR o)] L2 (aR o :: St) S := ev_go i138_35 rfl
theorem i138_36 : insAt 138 36 = some (.getfield 126, 3, (10, 3, 1, 0), 0) := rfl
theorem s138_36 {c : Nat → List AV → SS → Option Out} {l0 l1 l2 l3 : Option AV} {j t : Nat} {L2 : List (Nat × AV)} {St : List AV} {S : SS} : ev c 138 36 [l0, l1, l2, l3] L2 (aR (10, j, t) :: St) S = ev c 138 39 [l0, l1, l2, l3] L2 (aI (S.1 (10, j, t) 3) :: St) S := ev_go i138_36 rfl
theorem i138_39 : insAt 138 39 = some (.iload_n 2, 1, (0, 0, 0, 0), 0) := rfl
theorem s138_39 {c : Nat → List AV → SS → Option Out} {l0 l1 l3 : Option AV} {x : Int32} {L2 : List (Nat × AV)} {St : List AV} {S : SS} : ev c 138 39 [l0, l1, some (aI x), l3] L2 St S = ev c 138 40 [l0, l1, some (aI x), l3] L2 (aI x :: St) S := ev_go i138_39 rfl
theorem i138_40 : insAt 138 40 = some (.invokevirtual 143, 3, (89, 4, 2, 4), 0) := rfl
theorem s138_40 {c : Nat → List AV → SS → Option Out} {l0 l1 l2 l3 : Option AV} {t0 : AV} {a0 : Int32} {a1 : Int32} {a2 : Int32} {a3 : Int32} {j t : Nat} {L2 : List (Nat × AV)} {S : SS} : ev c 138 40 [l0, l1, l2, l3] L2 [aI a3, aI a2, aI a1, aI a0, aR (4, j, t), t0] S = ck (c 89 [aR (4, j, t), aI a0, aI a1, aI a2, aI a3] S) (fun v S' => ev c 138 43 [l0, l1, l2, l3] L2 (v.toList ++ [t0]) S') := ev_call i138_40 rfl
theorem i138_43 : insAt 138 43 = some (.iadd, 1, (0, 0, 0, 0), 0) := rfl
theorem s138_43 {c : Nat → List AV → SS → Option Out} {l0 l1 l2 l3 : Option AV} {x y : Int32} {L2 : List (Nat × AV)} {St : List AV} {S : SS} : ev c 138 43 [l0, l1, l2, l3] L2 (aI y :: aI x :: St) S = ev c 138 44 [l0, l1, l2, l3] L2 (aI (x + y) :: St) S := ev_go i138_43 rfl
theorem i138_44 : insAt 138 44 = some (.istore_n 1, 1, (0, 0, 0, 0), 0) := rfl
theorem s138_44 {c : Nat → List AV → SS → Option Out} {l0 l1 l2 l3 : Option AV} {x : Int32} {L2 : List (Nat × AV)} {St : List AV} {S : SS} : ev c 138 44 [l0, l1, l2, l3] L2 (aI x :: St) S = ev c 138 45 [l0, some (aI x), l2, l3] (kil L2 1) St S := ev_go i138_44 rfl
theorem i138_45 : insAt 138 45 = some (.iinc 2 1, 3, (0, 0, 0, 0), 0) := rfl
theorem s138_45 {c : Nat → List AV → SS → Option Out} {l0 l1 l3 : Option AV} {x : Int32} {L2 : List (Nat × AV)} {St : List AV} {S : SS} : ev c 138 45 [l0, l1, some (aI x), l3] L2 St S = ev c 138 48 [l0, l1, some (aI (x + 1)), l3] (kil L2 2) St S := ev_go i138_45 rfl
theorem i138_48 : insAt 138 48 = some (.goto (-44), 3, (0, 0, 0, 0), 0) := rfl
theorem s138_48 {c : Nat → List AV → SS → Option Out} {l0 l1 l2 l3 : Option AV} {L2 : List (Nat × AV)} {St : List AV} {S : SS} : ev c 138 48 [l0, l1, l2, l3] L2 St S = ev c 138 4 [l0, l1, l2, l3] L2 St S := ev_go i138_48 rfl
theorem i138_51 : insAt 138 51 = some (.iload_n 1, 1, (0, 0, 0, 0), 0) := rfl
theorem s138_51 {c : Nat → List AV → SS → Option Out} {l0 l2 l3 : Option AV} {x : Int32} {L2 : List (Nat × AV)} {St : List AV} {S : SS} : ev c 138 51 [l0, some (aI x), l2, l3] L2 St S = ev c 138 52 [l0, some (aI x), l2, l3] L2 (aI x :: St) S := ev_go i138_51 rfl
theorem i138_52 : insAt 138 52 = some (.ireturn, 1, (0, 0, 0, 0), 0) := rfl
theorem s138_52 {c : Nat → List AV → SS → Option Out} {l0 l1 l2 l3 : Option AV} {x : Int32} {L2 : List (Nat × AV)} {St : List AV} {S : SS} : ev c 138 52 [l0, l1, l2, l3] L2 [aI x] S = some (.inl (some (aI x)), S) := ev_end i138_52 rfl
theorem m138 {d : Nat} {o : OId} {S : SS} : evm (d + 1) 138 [aR o] S = ev (evm d) 138 0 [some (aR o), none, none, none] [] [] S := evm_s (n := 4) rfl (Nat.le_of_ble_eq_true rfl) rfl rfl
/-! FrequencyOffice$Search.leastByQueue()I -/
theorem i146_0 : insAt 146 0 = some (.aload_n 0, 1, (0, 0, 0, 0), 0) := rfl
theorem s146_0 {c : Nat → List AV → SS → Option Out} {l1 l2 l3 l4 : Option AV} {o : OId} {L2 : List (Nat × AV)} {St : List AV} {S : SS} : ev c 146 0 [some (aR o), l1, l2, l3, l4] L2 St S = ev c 146 1 [some (aR o), l1, l2, l3, l4] L2 (aR o :: St) S := ev_go i146_0 rfl
theorem i146_1 : insAt 146 1 = some (.getfield 26, 3, (8, 4, 0, 0), 0) := rfl
theorem s146_1 {c : Nat → List AV → SS → Option Out} {l0 l1 l2 l3 l4 : Option AV} {j t : Nat} {L2 : List (Nat × AV)} {St : List AV} {S : SS} : ev c 146 1 [l0, l1, l2, l3, l4] L2 (aR (8, j, t) :: St) S = ev c 146 4 [l0, l1, l2, l3, l4] L2 (S.2.2.1 (8, j, t) 4 :: St) S := ev_go i146_1 rfl
theorem i146_4 : insAt 146 4 = some (.iconst 0, 1, (0, 0, 0, 0), 0) := rfl
theorem s146_4 {c : Nat → List AV → SS → Option Out} {l0 l1 l2 l3 l4 : Option AV} {L2 : List (Nat × AV)} {St : List AV} {S : SS} : ev c 146 4 [l0, l1, l2, l3, l4] L2 St S = ev c 146 5 [l0, l1, l2, l3, l4] L2 (aI 0 :: St) S := ev_go i146_4 rfl
theorem i146_5 : insAt 146 5 = some (.aload_n 0, 1, (0, 0, 0, 0), 0) := rfl
theorem s146_5 {c : Nat → List AV → SS → Option Out} {l1 l2 l3 l4 : Option AV} {o : OId} {L2 : List (Nat × AV)} {St : List AV} {S : SS} : ev c 146 5 [some (aR o), l1, l2, l3, l4] L2 St S = ev c 146 6 [some (aR o), l1, l2, l3, l4] L2 (aR o :: St) S := ev_go i146_5 rfl
theorem i146_6 : insAt 146 6 = some (.invokevirtual 147, 3, (147, 0, 2, 8), 0) := rfl
theorem s146_6 {c : Nat → List AV → SS → Option Out} {l0 l1 l2 l3 l4 : Option AV} {t0 t1 : AV} {j t : Nat} {L2 : List (Nat × AV)} {S : SS} : ev c 146 6 [l0, l1, l2, l3, l4] L2 [aR (8, j, t), t0, t1] S = ck (c 147 [aR (8, j, t)] S) (fun v S' => ev c 146 9 [l0, l1, l2, l3, l4] L2 (v.toList ++ [t0, t1]) S') := ev_call i146_6 rfl
theorem i146_9 : insAt 146 9 = some (.invokestatic 85, 3, (36, 3, 1, 0), 0) := rfl
theorem s146_9 {c : Nat → List AV → SS → Option Out} {l0 l1 l2 l3 l4 : Option AV} {a0 : OId} {a1 : Int32} {a2 : Int32} {L2 : List (Nat × AV)} {S : SS} : ev c 146 9 [l0, l1, l2, l3, l4] L2 [aI a2, aI a1, aR a0] S = ck (c 36 [aR a0, aI a1, aI a2] S) (fun v S' => ev c 146 12 [l0, l1, l2, l3, l4] L2 (v.toList ++ []) S') := ev_call i146_9 rfl
theorem i146_12 : insAt 146 12 = some (.iconst 1, 1, (0, 0, 0, 0), 0) := rfl
theorem s146_12 {c : Nat → List AV → SS → Option Out} {l0 l1 l2 l3 l4 : Option AV} {L2 : List (Nat × AV)} {St : List AV} {S : SS} : ev c 146 12 [l0, l1, l2, l3, l4] L2 St S = ev c 146 13 [l0, l1, l2, l3, l4] L2 (aI 1 :: St) S := ev_go i146_12 rfl
theorem i146_13 : insAt 146 13 = some (.istore_n 1, 1, (0, 0, 0, 0), 0) := rfl
theorem s146_13 {c : Nat → List AV → SS → Option Out} {l0 l1 l2 l3 l4 : Option AV} {x : Int32} {L2 : List (Nat × AV)} {St : List AV} {S : SS} : ev c 146 13 [l0, l1, l2, l3, l4] L2 (aI x :: St) S = ev c 146 14 [l0, some (aI x), l2, l3, l4] (kil L2 1) St S := ev_go i146_13 rfl
theorem i146_14 : insAt 146 14 = some (.iconst 0, 1, (0, 0, 0, 0), 0) := rfl
theorem s146_14 {c : Nat → List AV → SS → Option Out} {l0 l1 l2 l3 l4 : Option AV} {L2 : List (Nat × AV)} {St : List AV} {S : SS} : ev c 146 14 [l0, l1, l2, l3, l4] L2 St S = ev c 146 15 [l0, l1, l2, l3, l4] L2 (aI 0 :: St) S := ev_go i146_14 rfl
theorem i146_15 : insAt 146 15 = some (.istore_n 2, 1, (0, 0, 0, 0), 0) := rfl
theorem s146_15 {c : Nat → List AV → SS → Option Out} {l0 l1 l2 l3 l4 : Option AV} {x : Int32} {L2 : List (Nat × AV)} {St : List AV} {S : SS} : ev c 146 15 [l0, l1, l2, l3, l4] L2 (aI x :: St) S = ev c 146 16 [l0, l1, some (aI x), l3, l4] (kil L2 2) St S := ev_go i146_15 rfl
theorem i146_16 : insAt 146 16 = some (.iconst 1, 1, (0, 0, 0, 0), 0) := rfl
theorem s146_16 {c : Nat → List AV → SS → Option Out} {l0 l1 l2 l3 l4 : Option AV} {L2 : List (Nat × AV)} {St : List AV} {S : SS} : ev c 146 16 [l0, l1, l2, l3, l4] L2 St S = ev c 146 17 [l0, l1, l2, l3, l4] L2 (aI 1 :: St) S := ev_go i146_16 rfl
theorem i146_17 : insAt 146 17 = some (.istore_n 3, 1, (0, 0, 0, 0), 0) := rfl
theorem s146_17 {c : Nat → List AV → SS → Option Out} {l0 l1 l2 l3 l4 : Option AV} {x : Int32} {L2 : List (Nat × AV)} {St : List AV} {S : SS} : ev c 146 17 [l0, l1, l2, l3, l4] L2 (aI x :: St) S = ev c 146 18 [l0, l1, l2, some (aI x), l4] (kil L2 3) St S := ev_go i146_17 rfl
theorem i146_18 : insAt 146 18 = some (.iconst 0, 1, (0, 0, 0, 0), 0) := rfl
theorem s146_18 {c : Nat → List AV → SS → Option Out} {l0 l1 l2 l3 l4 : Option AV} {L2 : List (Nat × AV)} {St : List AV} {S : SS} : ev c 146 18 [l0, l1, l2, l3, l4] L2 St S = ev c 146 19 [l0, l1, l2, l3, l4] L2 (aI 0 :: St) S := ev_go i146_18 rfl
theorem i146_19 : insAt 146 19 = some (.istore 4, 2, (0, 0, 0, 0), 0) := rfl
theorem s146_19 {c : Nat → List AV → SS → Option Out} {l0 l1 l2 l3 l4 : Option AV} {x : Int32} {L2 : List (Nat × AV)} {St : List AV} {S : SS} : ev c 146 19 [l0, l1, l2, l3, l4] L2 (aI x :: St) S = ev c 146 21 [l0, l1, l2, l3, some (aI x)] (kil L2 4) St S := ev_go i146_19 rfl
theorem i146_21 : insAt 146 21 = some (.iload 4, 2, (0, 0, 0, 0), 0) := rfl
theorem s146_21 {c : Nat → List AV → SS → Option Out} {l0 l1 l2 l3 : Option AV} {x : Int32} {L2 : List (Nat × AV)} {St : List AV} {S : SS} : ev c 146 21 [l0, l1, l2, l3, some (aI x)] L2 St S = ev c 146 23 [l0, l1, l2, l3, some (aI x)] L2 (aI x :: St) S := ev_go i146_21 rfl
theorem i146_23 : insAt 146 23 = some (.aload_n 0, 1, (0, 0, 0, 0), 0) := rfl
theorem s146_23 {c : Nat → List AV → SS → Option Out} {l1 l2 l3 l4 : Option AV} {o : OId} {L2 : List (Nat × AV)} {St : List AV} {S : SS} : ev c 146 23 [some (aR o), l1, l2, l3, l4] L2 St S = ev c 146 24 [some (aR o), l1, l2, l3, l4] L2 (aR o :: St) S := ev_go i146_23 rfl
theorem i146_24 : insAt 146 24 = some (.getfield 26, 3, (8, 4, 0, 0), 0) := rfl
theorem s146_24 {c : Nat → List AV → SS → Option Out} {l0 l1 l2 l3 l4 : Option AV} {j t : Nat} {L2 : List (Nat × AV)} {St : List AV} {S : SS} : ev c 146 24 [l0, l1, l2, l3, l4] L2 (aR (8, j, t) :: St) S = ev c 146 27 [l0, l1, l2, l3, l4] L2 (S.2.2.1 (8, j, t) 4 :: St) S := ev_go i146_24 rfl
theorem i146_27 : insAt 146 27 = some (.arraylength, 1, (0, 0, 0, 0), 0) := rfl
theorem s146_27 {c : Nat → List AV → SS → Option Out} {l0 l1 l2 l3 l4 : Option AV} {o : OId} {L2 : List (Nat × AV)} {St : List AV} {S : SS} : ev c 146 27 [l0, l1, l2, l3, l4] L2 (aR o :: St) S = kN o (fun x => ev c 146 28 [l0, l1, l2, l3, l4] L2 (aI x :: St) S) := ev_alen i146_27
theorem i146_28 : insAt 146 28 = some (.if_icmp .ge 59, 3, (0, 0, 0, 0), 0) := rfl
theorem s146_28 {c : Nat → List AV → SS → Option Out} {l0 l1 l2 l3 l4 : Option AV} {x y : Int32} {L2 : List (Nat × AV)} {St : List AV} {S : SS} : ev c 146 28 [l0, l1, l2, l3, l4] L2 (aI y :: aI x :: St) S = if y ≤ x then ev c 146 87 [l0, l1, l2, l3, l4] L2 St S else ev c 146 31 [l0, l1, l2, l3, l4] L2 St S := ev_br i146_28 rfl
theorem i146_31 : insAt 146 31 = some (.iload 4, 2, (0, 0, 0, 0), 0) := rfl
theorem s146_31 {c : Nat → List AV → SS → Option Out} {l0 l1 l2 l3 : Option AV} {x : Int32} {L2 : List (Nat × AV)} {St : List AV} {S : SS} : ev c 146 31 [l0, l1, l2, l3, some (aI x)] L2 St S = ev c 146 33 [l0, l1, l2, l3, some (aI x)] L2 (aI x :: St) S := ev_go i146_31 rfl
theorem i146_33 : insAt 146 33 = some (.iload_n 1, 1, (0, 0, 0, 0), 0) := rfl
theorem s146_33 {c : Nat → List AV → SS → Option Out} {l0 l2 l3 l4 : Option AV} {x : Int32} {L2 : List (Nat × AV)} {St : List AV} {S : SS} : ev c 146 33 [l0, some (aI x), l2, l3, l4] L2 St S = ev c 146 34 [l0, some (aI x), l2, l3, l4] L2 (aI x :: St) S := ev_go i146_33 rfl
theorem i146_34 : insAt 146 34 = some (.if_icmp .ge 53, 3, (0, 0, 0, 0), 0) := rfl
theorem s146_34 {c : Nat → List AV → SS → Option Out} {l0 l1 l2 l3 l4 : Option AV} {x y : Int32} {L2 : List (Nat × AV)} {St : List AV} {S : SS} : ev c 146 34 [l0, l1, l2, l3, l4] L2 (aI y :: aI x :: St) S = if y ≤ x then ev c 146 87 [l0, l1, l2, l3, l4] L2 St S else ev c 146 37 [l0, l1, l2, l3, l4] L2 St S := ev_br i146_34 rfl
theorem i146_37 : insAt 146 37 = some (.iload 4, 2, (0, 0, 0, 0), 0) := rfl
theorem s146_37 {c : Nat → List AV → SS → Option Out} {l0 l1 l2 l3 : Option AV} {x : Int32} {L2 : List (Nat × AV)} {St : List AV} {S : SS} : ev c 146 37 [l0, l1, l2, l3, some (aI x)] L2 St S = ev c 146 39 [l0, l1, l2, l3, some (aI x)] L2 (aI x :: St) S := ev_go i146_37 rfl
theorem i146_39 : insAt 146 39 = some (.iload_n 3, 1, (0, 0, 0, 0), 0) := rfl
theorem s146_39 {c : Nat → List AV → SS → Option Out} {l0 l1 l2 l4 : Option AV} {x : Int32} {L2 : List (Nat × AV)} {St : List AV} {S : SS} : ev c 146 39 [l0, l1, l2, some (aI x), l4] L2 St S = ev c 146 40 [l0, l1, l2, some (aI x), l4] L2 (aI x :: St) S := ev_go i146_39 rfl
theorem i146_40 : insAt 146 40 = some (.if_icmp .ne 8, 3, (0, 0, 0, 0), 0) := rfl
theorem s146_40 {c : Nat → List AV → SS → Option Out} {l0 l1 l2 l3 l4 : Option AV} {x y : Int32} {L2 : List (Nat × AV)} {St : List AV} {S : SS} : ev c 146 40 [l0, l1, l2, l3, l4] L2 (aI y :: aI x :: St) S = if x = y then ev c 146 43 [l0, l1, l2, l3, l4] L2 St S else ev c 146 48 [l0, l1, l2, l3, l4] L2 St S := (ev_br i146_40 rfl).trans (ite_not _ _ _)
theorem i146_43 : insAt 146 43 = some (.iinc 2 1, 3, (0, 0, 0, 0), 0) := rfl
theorem s146_43 {c : Nat → List AV → SS → Option Out} {l0 l1 l3 l4 : Option AV} {x : Int32} {L2 : List (Nat × AV)} {St : List AV} {S : SS} : ev c 146 43 [l0, l1, some (aI x), l3, l4] L2 St S = ev c 146 46 [l0, l1, some (aI (x + 1)), l3, l4] (kil L2 2) St S := ev_go i146_43 rfl
theorem i146_46 : insAt 146 46 = some (.iload_n 1, 1, (0, 0, 0, 0), 0) := rfl
theorem s146_46 {c : Nat → List AV → SS → Option Out} {l0 l2 l3 l4 : Option AV} {x : Int32} {L2 : List (Nat × AV)} {St : List AV} {S : SS} : ev c 146 46 [l0, some (aI x), l2, l3, l4] L2 St S = ev c 146 47 [l0, some (aI x), l2, l3, l4] L2 (aI x :: St) S := ev_go i146_46 rfl
theorem i146_47 : insAt 146 47 = some (.istore_n 3, 1, (0, 0, 0, 0), 0) := rfl
theorem s146_47 {c : Nat → List AV → SS → Option Out} {l0 l1 l2 l3 l4 : Option AV} {x : Int32} {L2 : List (Nat × AV)} {St : List AV} {S : SS} : ev c 146 47 [l0, l1, l2, l3, l4] L2 (aI x :: St) S = ev c 146 48 [l0, l1, l2, some (aI x), l4] (kil L2 3) St S := ev_go i146_47 rfl
theorem i146_48 : insAt 146 48 = some (.aload_n 0, 1, (0, 0, 0, 0), 0) := rfl
theorem s146_48 {c : Nat → List AV → SS → Option Out} {l1 l2 l3 l4 : Option AV} {o : OId} {L2 : List (Nat × AV)} {St : List AV} {S : SS} : ev c 146 48 [some (aR o), l1, l2, l3, l4] L2 St S = ev c 146 49 [some (aR o), l1, l2, l3, l4] L2 (aR o :: St) S := ev_go i146_48 rfl
theorem i146_49 : insAt 146 49 = some (.aload_n 0, 1, (0, 0, 0, 0), 0) := rfl
theorem s146_49 {c : Nat → List AV → SS → Option Out} {l1 l2 l3 l4 : Option AV} {o : OId} {L2 : List (Nat × AV)} {St : List AV} {S : SS} : ev c 146 49 [some (aR o), l1, l2, l3, l4] L2 St S = ev c 146 50 [some (aR o), l1, l2, l3, l4] L2 (aR o :: St) S := ev_go i146_49 rfl
theorem i146_50 : insAt 146 50 = some (.getfield 26, 3, (8, 4, 0, 0), 0) := rfl
theorem s146_50 {c : Nat → List AV → SS → Option Out} {l0 l1 l2 l3 l4 : Option AV} {j t : Nat} {L2 : List (Nat × AV)} {St : List AV} {S : SS} : ev c 146 50 [l0, l1, l2, l3, l4] L2 (aR (8, j, t) :: St) S = ev c 146 53 [l0, l1, l2, l3, l4] L2 (S.2.2.1 (8, j, t) 4 :: St) S := ev_go i146_50 rfl
theorem i146_53 : insAt 146 53 = some (.iload 4, 2, (0, 0, 0, 0), 0) := rfl
theorem s146_53 {c : Nat → List AV → SS → Option Out} {l0 l1 l2 l3 : Option AV} {x : Int32} {L2 : List (Nat × AV)} {St : List AV} {S : SS} : ev c 146 53 [l0, l1, l2, l3, some (aI x)] L2 St S = ev c 146 55 [l0, l1, l2, l3, some (aI x)] L2 (aI x :: St) S := ev_go i146_53 rfl
theorem i146_55 : insAt 146 55 = some (.invokestatic 52, 3, (32, 2, 1, 0), 0) := rfl
theorem s146_55 {c : Nat → List AV → SS → Option Out} {l0 l1 l2 l3 l4 : Option AV} {t0 : AV} {a0 : OId} {a1 : Int32} {L2 : List (Nat × AV)} {S : SS} : ev c 146 55 [l0, l1, l2, l3, l4] L2 [aI a1, aR a0, t0] S = ck (c 32 [aR a0, aI a1] S) (fun v S' => ev c 146 58 [l0, l1, l2, l3, l4] L2 (v.toList ++ [t0]) S') := ev_call i146_55 rfl
theorem i146_58 : insAt 146 58 = some (.invokevirtual 150, 3, (148, 1, 2, 8), 0) := rfl
theorem s146_58 {c : Nat → List AV → SS → Option Out} {l0 l1 l2 l3 l4 : Option AV} {a0 : Int32} {j t : Nat} {L2 : List (Nat × AV)} {S : SS} : ev c 146 58 [l0, l1, l2, l3, l4] L2 [aI a0, aR (8, j, t)] S = ck (c 148 [aR (8, j, t), aI a0] S) (fun v S' => ev c 146 61 [l0, l1, l2, l3, l4] L2 (v.toList ++ []) S') := ev_call i146_58 rfl
theorem i146_61 : insAt 146 61 = some (.aload_n 0, 1, (0, 0, 0, 0), 0) := rfl
theorem s146_61 {c : Nat → List AV → SS → Option Out} {l1 l2 l3 l4 : Option AV} {o : OId} {L2 : List (Nat × AV)} {St : List AV} {S : SS} : ev c 146 61 [some (aR o), l1, l2, l3, l4] L2 St S = ev c 146 62 [some (aR o), l1, l2, l3, l4] L2 (aR o :: St) S := ev_go i146_61 rfl
theorem i146_62 : insAt 146 62 = some (.invokevirtual 137, 3, (74, 0, 2, 8), 0) := rfl
theorem s146_62 {c : Nat → List AV → SS → Option Out} {l0 l1 l2 l3 l4 : Option AV} {j t : Nat} {L2 : List (Nat × AV)} {S : SS} : ev c 146 62 [l0, l1, l2, l3, l4] L2 [aR (8, j, t)] S = ck (c 74 [aR (8, j, t)] S) (fun v S' => ev c 146 65 [l0, l1, l2, l3, l4] L2 (v.toList ++ []) S') := ev_call i146_62 rfl
theorem i146_65 : insAt 146 65 = some (.ifCond .eq 5, 3, (0, 0, 0, 0), 0) := rfl
theorem s146_65 {c : Nat → List AV → SS → Option Out} {l0 l1 l2 l3 l4 : Option AV} {x : Int32} {L2 : List (Nat × AV)} {St : List AV} {S : SS} : ev c 146 65 [l0, l1, l2, l3, l4] L2 (aI x :: St) S = if x = 0 then ev c 146 70 [l0, l1, l2, l3, l4] L2 St S else ev c 146 68 [l0, l1, l2, l3, l4] L2 St S := ev_br i146_65 rfl
theorem i146_68 : insAt 146 68 = some (.iload_n 2, 1, (0, 0, 0, 0), 0) := rfl
theorem s146_68 {c : Nat → List AV → SS → Option Out} {l0 l1 l3 l4 : Option AV} {x : Int32} {L2 : List (Nat × AV)} {St : List AV} {S : SS} : ev c 146 68 [l0, l1, some (aI x), l3, l4] L2 St S = ev c 146 69 [l0, l1, some (aI x), l3, l4] L2 (aI x :: St) S := ev_go i146_68 rfl
theorem i146_69 : insAt 146 69 = some (.ireturn, 1, (0, 0, 0, 0), 0) := rfl
theorem s146_69 {c : Nat → List AV → SS → Option Out} {l0 l1 l2 l3 l4 : Option AV} {x : Int32} {L2 : List (Nat × AV)} {St : List AV} {S : SS} : ev c 146 69 [l0, l1, l2, l3, l4] L2 [aI x] S = some (.inl (some (aI x)), S) := ev_end i146_69 rfl
theorem i146_70 : insAt 146 70 = some (.iload_n 2, 1, (0, 0, 0, 0), 0) := rfl
theorem s146_70 {c : Nat → List AV → SS → Option Out} {l0 l1 l3 l4 : Option AV} {x : Int32} {L2 : List (Nat × AV)} {St : List AV} {S : SS} : ev c 146 70 [l0, l1, some (aI x), l3, l4] L2 St S = ev c 146 71 [l0, l1, some (aI x), l3, l4] L2 (aI x :: St) S := ev_go i146_70 rfl
theorem i146_71 : insAt 146 71 = some (.iconst 2, 1, (0, 0, 0, 0), 0) := rfl
theorem s146_71 {c : Nat → List AV → SS → Option Out} {l0 l1 l2 l3 l4 : Option AV} {L2 : List (Nat × AV)} {St : List AV} {S : SS} : ev c 146 71 [l0, l1, l2, l3, l4] L2 St S = ev c 146 72 [l0, l1, l2, l3, l4] L2 (aI 2 :: St) S := ev_go i146_71 rfl
theorem i146_72 : insAt 146 72 = some (.if_icmp .ge 9, 3, (0, 0, 0, 0), 0) := rfl
theorem s146_72 {c : Nat → List AV → SS → Option Out} {l0 l1 l2 l3 l4 : Option AV} {x y : Int32} {L2 : List (Nat × AV)} {St : List AV} {S : SS} : ev c 146 72 [l0, l1, l2, l3, l4] L2 (aI y :: aI x :: St) S = if y ≤ x then ev c 146 81 [l0, l1, l2, l3, l4] L2 St S else ev c 146 75 [l0, l1, l2, l3, l4] L2 St S := ev_br i146_72 rfl
theorem i146_75 : insAt 146 75 = some (.aload_n 0, 1, (0, 0, 0, 0), 0) := rfl
theorem s146_75 {c : Nat → List AV → SS → Option Out} {l1 l2 l3 l4 : Option AV} {o : OId} {L2 : List (Nat × AV)} {St : List AV} {S : SS} : ev c 146 75 [some (aR o), l1, l2, l3, l4] L2 St S = ev c 146 76 [some (aR o), l1, l2, l3, l4] L2 (aR o :: St) S := ev_go i146_75 rfl
theorem i146_76 : insAt 146 76 = some (.iload_n 1, 1, (0, 0, 0, 0), 0) := rfl
theorem s146_76 {c : Nat → List AV → SS → Option Out} {l0 l2 l3 l4 : Option AV} {x : Int32} {L2 : List (Nat × AV)} {St : List AV} {S : SS} : ev c 146 76 [l0, some (aI x), l2, l3, l4] L2 St S = ev c 146 77 [l0, some (aI x), l2, l3, l4] L2 (aI x :: St) S := ev_go i146_76 rfl
theorem i146_77 : insAt 146 77 = some (.invokevirtual 154, 3, (149, 1, 2, 8), 0) := rfl
theorem s146_77 {c : Nat → List AV → SS → Option Out} {l0 l1 l2 l3 l4 : Option AV} {a0 : Int32} {j t : Nat} {L2 : List (Nat × AV)} {S : SS} : ev c 146 77 [l0, l1, l2, l3, l4] L2 [aI a0, aR (8, j, t)] S = ck (c 149 [aR (8, j, t), aI a0] S) (fun v S' => ev c 146 80 [l0, l1, l2, l3, l4] L2 (v.toList ++ []) S') := ev_call i146_77 rfl
theorem i146_80 : insAt 146 80 = some (.istore_n 1, 1, (0, 0, 0, 0), 0) := rfl
theorem s146_80 {c : Nat → List AV → SS → Option Out} {l0 l1 l2 l3 l4 : Option AV} {x : Int32} {L2 : List (Nat × AV)} {St : List AV} {S : SS} : ev c 146 80 [l0, l1, l2, l3, l4] L2 (aI x :: St) S = ev c 146 81 [l0, some (aI x), l2, l3, l4] (kil L2 1) St S := ev_go i146_80 rfl
theorem i146_81 : insAt 146 81 = some (.iinc 4 1, 3, (0, 0, 0, 0), 0) := rfl
theorem s146_81 {c : Nat → List AV → SS → Option Out} {l0 l1 l2 l3 : Option AV} {x : Int32} {L2 : List (Nat × AV)} {St : List AV} {S : SS} : ev c 146 81 [l0, l1, l2, l3, some (aI x)] L2 St S = ev c 146 84 [l0, l1, l2, l3, some (aI (x + 1))] (kil L2 4) St S := ev_go i146_81 rfl
theorem i146_84 : insAt 146 84 = some (.goto (-63), 3, (0, 0, 0, 0), 0) := rfl
theorem s146_84 {c : Nat → List AV → SS → Option Out} {l0 l1 l2 l3 l4 : Option AV} {L2 : List (Nat × AV)} {St : List AV} {S : SS} : ev c 146 84 [l0, l1, l2, l3, l4] L2 St S = ev c 146 21 [l0, l1, l2, l3, l4] L2 St S := ev_go i146_84 rfl
theorem i146_87 : insAt 146 87 = some (.iconst (-1), 1, (0, 0, 0, 0), 0) := rfl
theorem s146_87 {c : Nat → List AV → SS → Option Out} {l0 l1 l2 l3 l4 : Option AV} {L2 : List (Nat × AV)} {St : List AV} {S : SS} : ev c 146 87 [l0, l1, l2, l3, l4] L2 St S = ev c 146 88 [l0, l1, l2, l3, l4] L2 (aI (-1) :: St) S := ev_go i146_87 rfl
theorem i146_88 : insAt 146 88 = some (.ireturn, 1, (0, 0, 0, 0), 0) := rfl
theorem s146_88 {c : Nat → List AV → SS → Option Out} {l0 l1 l2 l3 l4 : Option AV} {x : Int32} {L2 : List (Nat × AV)} {St : List AV} {S : SS} : ev c 146 88 [l0, l1, l2, l3, l4] L2 [aI x] S = some (.inl (some (aI x)), S) := ev_end i146_88 rfl
theorem m146 {d : Nat} {o : OId} {S : SS} : evm (d + 1) 146 [aR o] S = ev (evm d) 146 0 [some (aR o), none, none, none, none] [] [] S := evm_s (n := 5) rfl (Nat.le_of_ble_eq_true rfl) rfl rfl
/-! FrequencyOffice$Search.pack()I -/
theorem i147_0 : insAt 147 0 = some (.iconst 0, 1, (0, 0, 0, 0), 0) := rfl
theorem s147_0 {c : Nat → List AV → SS → Option Out} {l0 l1 l2 : Option AV} {L2 : List (Nat × AV)} {St : List AV} {S : SS} : ev c 147 0 [l0, l1, l2] L2 St S = ev c 147 1 [l0, l1, l2] L2 (aI 0 :: St) S := ev_go i147_0 rfl
theorem i147_1 : insAt 147 1 = some (.istore_n 1, 1, (0, 0, 0, 0), 0) := rfl
theorem s147_1 {c : Nat → List AV → SS → Option Out} {l0 l1 l2 : Option AV} {x : Int32} {L2 : List (Nat × AV)} {St : List AV} {S : SS} : ev c 147 1 [l0, l1, l2] L2 (aI x :: St) S = ev c 147 2 [l0, some (aI x), l2] (kil L2 1) St S := ev_go i147_1 rfl
theorem i147_2 : insAt 147 2 = some (.iconst 0, 1, (0, 0, 0, 0), 0) := rfl
theorem s147_2 {c : Nat → List AV → SS → Option Out} {l0 l1 l2 : Option AV} {L2 : List (Nat × AV)} {St : List AV} {S : SS} : ev c 147 2 [l0, l1, l2] L2 St S = ev c 147 3 [l0, l1, l2] L2 (aI 0 :: St) S := ev_go i147_2 rfl
theorem i147_3 : insAt 147 3 = some (.istore_n 2, 1, (0, 0, 0, 0), 0) := rfl
theorem s147_3 {c : Nat → List AV → SS → Option Out} {l0 l1 l2 : Option AV} {x : Int32} {L2 : List (Nat × AV)} {St : List AV} {S : SS} : ev c 147 3 [l0, l1, l2] L2 (aI x :: St) S = ev c 147 4 [l0, l1, some (aI x)] (kil L2 2) St S := ev_go i147_3 rfl
theorem i147_4 : insAt 147 4 = some (.iload_n 2, 1, (0, 0, 0, 0), 0) := rfl
theorem s147_4 {c : Nat → List AV → SS → Option Out} {l0 l1 : Option AV} {x : Int32} {L2 : List (Nat × AV)} {St : List AV} {S : SS} : ev c 147 4 [l0, l1, some (aI x)] L2 St S = ev c 147 5 [l0, l1, some (aI x)] L2 (aI x :: St) S := ev_go i147_4 rfl
theorem i147_5 : insAt 147 5 = some (.aload_n 0, 1, (0, 0, 0, 0), 0) := rfl
theorem s147_5 {c : Nat → List AV → SS → Option Out} {l1 l2 : Option AV} {o : OId} {L2 : List (Nat × AV)} {St : List AV} {S : SS} : ev c 147 5 [some (aR o), l1, l2] L2 St S = ev c 147 6 [some (aR o), l1, l2] L2 (aR o :: St) S := ev_go i147_5 rfl
theorem i147_6 : insAt 147 6 = some (.getfield 36, 3, (8, 0, 0, 0), 0) := rfl
theorem s147_6 {c : Nat → List AV → SS → Option Out} {l0 l1 l2 : Option AV} {j t : Nat} {L2 : List (Nat × AV)} {St : List AV} {S : SS} : ev c 147 6 [l0, l1, l2] L2 (aR (8, j, t) :: St) S = ev c 147 9 [l0, l1, l2] L2 (S.2.2.1 (8, j, t) 0 :: St) S := ev_go i147_6 rfl
theorem i147_9 : insAt 147 9 = some (.getfield 46, 3, (6, 0, 1, 0), 0) := rfl
theorem s147_9 {c : Nat → List AV → SS → Option Out} {l0 l1 l2 : Option AV} {j t : Nat} {L2 : List (Nat × AV)} {St : List AV} {S : SS} : ev c 147 9 [l0, l1, l2] L2 (aR (6, j, t) :: St) S = ev c 147 12 [l0, l1, l2] L2 (aI (S.1 (6, j, t) 0) :: St) S := ev_go i147_9 rfl
theorem i147_12 : insAt 147 12 = some (.if_icmp .ge 26, 3, (0, 0, 0, 0), 0) := rfl
theorem s147_12 {c : Nat → List AV → SS → Option Out} {l0 l1 l2 : Option AV} {x y : Int32} {L2 : List (Nat × AV)} {St : List AV} {S : SS} : ev c 147 12 [l0, l1, l2] L2 (aI y :: aI x :: St) S = if y ≤ x then ev c 147 38 [l0, l1, l2] L2 St S else ev c 147 15 [l0, l1, l2] L2 St S := ev_br i147_12 rfl
theorem i147_15 : insAt 147 15 = some (.iload_n 1, 1, (0, 0, 0, 0), 0) := rfl
theorem s147_15 {c : Nat → List AV → SS → Option Out} {l0 l2 : Option AV} {x : Int32} {L2 : List (Nat × AV)} {St : List AV} {S : SS} : ev c 147 15 [l0, some (aI x), l2] L2 St S = ev c 147 16 [l0, some (aI x), l2] L2 (aI x :: St) S := ev_go i147_15 rfl
theorem i147_16 : insAt 147 16 = some (.bipush 8, 2, (0, 0, 0, 0), 0) := rfl
theorem s147_16 {c : Nat → List AV → SS → Option Out} {l0 l1 l2 : Option AV} {L2 : List (Nat × AV)} {St : List AV} {S : SS} : ev c 147 16 [l0, l1, l2] L2 St S = ev c 147 18 [l0, l1, l2] L2 (aI 8 :: St) S := ev_go i147_16 rfl
theorem i147_18 : insAt 147 18 = some (.imul, 1, (0, 0, 0, 0), 0) := rfl
theorem s147_18 {c : Nat → List AV → SS → Option Out} {l0 l1 l2 : Option AV} {x y : Int32} {L2 : List (Nat × AV)} {St : List AV} {S : SS} : ev c 147 18 [l0, l1, l2] L2 (aI y :: aI x :: St) S = ev c 147 19 [l0, l1, l2] L2 (aI (x * y) :: St) S := ev_go i147_18 rfl
theorem i147_19 : insAt 147 19 = some (.aload_n 0, 1, (0, 0, 0, 0), 0) := rfl
theorem s147_19 {c : Nat → List AV → SS → Option Out} {l1 l2 : Option AV} {o : OId} {L2 : List (Nat × AV)} {St : List AV} {S : SS} : ev c 147 19 [some (aR o), l1, l2] L2 St S = ev c 147 20 [some (aR o), l1, l2] L2 (aR o :: St) S := ev_go i147_19 rfl
theorem i147_20 : insAt 147 20 = some (.getfield 36, 3, (8, 0, 0, 0), 0) := rfl
theorem s147_20 {c : Nat → List AV → SS → Option Out} {l0 l1 l2 : Option AV} {j t : Nat} {L2 : List (Nat × AV)} {St : List AV} {S : SS} : ev c 147 20 [l0, l1, l2] L2 (aR (8, j, t) :: St) S = ev c 147 23 [l0, l1, l2] L2 (S.2.2.1 (8, j, t) 0 :: St) S := ev_go i147_20 rfl
theorem i147_23 : insAt 147 23 = some (.getfield 95, 3, (6, 3, 1, 0), 0) := rfl
theorem s147_23 {c : Nat → List AV → SS → Option Out} {l0 l1 l2 : Option AV} {j t : Nat} {L2 : List (Nat × AV)} {St : List AV} {S : SS} : ev c 147 23 [l0, l1, l2] L2 (aR (6, j, t) :: St) S = ev c 147 26 [l0, l1, l2] L2 (S.2.2.1 (6, j, t) 3 :: St) S := ev_go i147_23 rfl
theorem i147_26 : insAt 147 26 = some (.iload_n 2, 1, (0, 0, 0, 0), 0) := rfl
theorem s147_26 {c : Nat → List AV → SS → Option Out} {l0 l1 : Option AV} {x : Int32} {L2 : List (Nat × AV)} {St : List AV} {S : SS} : ev c 147 26 [l0, l1, some (aI x)] L2 St S = ev c 147 27 [l0, l1, some (aI x)] L2 (aI x :: St) S := ev_go i147_26 rfl
theorem i147_27 : insAt 147 27 = some (.invokestatic 52, 3, (32, 2, 1, 0), 0) := rfl
theorem s147_27 {c : Nat → List AV → SS → Option Out} {l0 l1 l2 : Option AV} {t0 : AV} {a0 : OId} {a1 : Int32} {L2 : List (Nat × AV)} {S : SS} : ev c 147 27 [l0, l1, l2] L2 [aI a1, aR a0, t0] S = ck (c 32 [aR a0, aI a1] S) (fun v S' => ev c 147 30 [l0, l1, l2] L2 (v.toList ++ [t0]) S') := ev_call i147_27 rfl
theorem i147_30 : insAt 147 30 = some (.iadd, 1, (0, 0, 0, 0), 0) := rfl
theorem s147_30 {c : Nat → List AV → SS → Option Out} {l0 l1 l2 : Option AV} {x y : Int32} {L2 : List (Nat × AV)} {St : List AV} {S : SS} : ev c 147 30 [l0, l1, l2] L2 (aI y :: aI x :: St) S = ev c 147 31 [l0, l1, l2] L2 (aI (x + y) :: St) S := ev_go i147_30 rfl
theorem i147_31 : insAt 147 31 = some (.istore_n 1, 1, (0, 0, 0, 0), 0) := rfl
theorem s147_31 {c : Nat → List AV → SS → Option Out} {l0 l1 l2 : Option AV} {x : Int32} {L2 : List (Nat × AV)} {St : List AV} {S : SS} : ev c 147 31 [l0, l1, l2] L2 (aI x :: St) S = ev c 147 32 [l0, some (aI x), l2] (kil L2 1) St S := ev_go i147_31 rfl
theorem i147_32 : insAt 147 32 = some (.iinc 2 1, 3, (0, 0, 0, 0), 0) := rfl
theorem s147_32 {c : Nat → List AV → SS → Option Out} {l0 l1 : Option AV} {x : Int32} {L2 : List (Nat × AV)} {St : List AV} {S : SS} : ev c 147 32 [l0, l1, some (aI x)] L2 St S = ev c 147 35 [l0, l1, some (aI (x + 1))] (kil L2 2) St S := ev_go i147_32 rfl
theorem i147_35 : insAt 147 35 = some (.goto (-31), 3, (0, 0, 0, 0), 0) := rfl
theorem s147_35 {c : Nat → List AV → SS → Option Out} {l0 l1 l2 : Option AV} {L2 : List (Nat × AV)} {St : List AV} {S : SS} : ev c 147 35 [l0, l1, l2] L2 St S = ev c 147 4 [l0, l1, l2] L2 St S := ev_go i147_35 rfl
theorem i147_38 : insAt 147 38 = some (.iload_n 1, 1, (0, 0, 0, 0), 0) := rfl
theorem s147_38 {c : Nat → List AV → SS → Option Out} {l0 l2 : Option AV} {x : Int32} {L2 : List (Nat × AV)} {St : List AV} {S : SS} : ev c 147 38 [l0, some (aI x), l2] L2 St S = ev c 147 39 [l0, some (aI x), l2] L2 (aI x :: St) S := ev_go i147_38 rfl
theorem i147_39 : insAt 147 39 = some (.ireturn, 1, (0, 0, 0, 0), 0) := rfl
theorem s147_39 {c : Nat → List AV → SS → Option Out} {l0 l1 l2 : Option AV} {x : Int32} {L2 : List (Nat × AV)} {St : List AV} {S : SS} : ev c 147 39 [l0, l1, l2] L2 [aI x] S = some (.inl (some (aI x)), S) := ev_end i147_39 rfl
theorem m147 {d : Nat} {o : OId} {S : SS} : evm (d + 1) 147 [aR o] S = ev (evm d) 147 0 [some (aR o), none, none] [] [] S := evm_s (n := 3) rfl (Nat.le_of_ble_eq_true rfl) rfl rfl
/-! FrequencyOffice$Search.unpack(I)V -/
theorem i148_0 : insAt 148 0 = some (.iload_n 1, 1, (0, 0, 0, 0), 0) := rfl
theorem s148_0 {c : Nat → List AV → SS → Option Out} {l0 l2 l3 : Option AV} {x : Int32} {L2 : List (Nat × AV)} {St : List AV} {S : SS} : ev c 148 0 [l0, some (aI x), l2, l3] L2 St S = ev c 148 1 [l0, some (aI x), l2, l3] L2 (aI x :: St) S := ev_go i148_0 rfl
theorem i148_1 : insAt 148 1 = some (.istore_n 2, 1, (0, 0, 0, 0), 0) := rfl
theorem s148_1 {c : Nat → List AV → SS → Option Out} {l0 l1 l2 l3 : Option AV} {x : Int32} {L2 : List (Nat × AV)} {St : List AV} {S : SS} : ev c 148 1 [l0, l1, l2, l3] L2 (aI x :: St) S = ev c 148 2 [l0, l1, some (aI x), l3] (kil L2 2) St S := ev_go i148_1 rfl
theorem i148_2 : insAt 148 2 = some (.aload_n 0, 1, (0, 0, 0, 0), 0) := rfl
theorem s148_2 {c : Nat → List AV → SS → Option Out} {l1 l2 l3 : Option AV} {o : OId} {L2 : List (Nat × AV)} {St : List AV} {S : SS} : ev c 148 2 [some (aR o), l1, l2, l3] L2 St S = ev c 148 3 [some (aR o), l1, l2, l3] L2 (aR o :: St) S := ev_go i148_2 rfl
theorem i148_3 : insAt 148 3 = some (.getfield 36, 3, (8, 0, 0, 0), 0) := rfl
theorem s148_3 {c : Nat → List AV → SS → Option Out} {l0 l1 l2 l3 : Option AV} {j t : Nat} {L2 : List (Nat × AV)} {St : List AV} {S : SS} : ev c 148 3 [l0, l1, l2, l3] L2 (aR (8, j, t) :: St) S = ev c 148 6 [l0, l1, l2, l3] L2 (S.2.2.1 (8, j, t) 0 :: St) S := ev_go i148_3 rfl
theorem i148_6 : insAt 148 6 = some (.getfield 46, 3, (6, 0, 1, 0), 0) := rfl
theorem s148_6 {c : Nat → List AV → SS → Option Out} {l0 l1 l2 l3 : Option AV} {j t : Nat} {L2 : List (Nat × AV)} {St : List AV} {S : SS} : ev c 148 6 [l0, l1, l2, l3] L2 (aR (6, j, t) :: St) S = ev c 148 9 [l0, l1, l2, l3] L2 (aI (S.1 (6, j, t) 0) :: St) S := ev_go i148_6 rfl
theorem i148_9 : insAt 148 9 = some (.iconst 1, 1, (0, 0, 0, 0), 0) := rfl
theorem s148_9 {c : Nat → List AV → SS → Option Out} {l0 l1 l2 l3 : Option AV} {L2 : List (Nat × AV)} {St : List AV} {S : SS} : ev c 148 9 [l0, l1, l2, l3] L2 St S = ev c 148 10 [l0, l1, l2, l3] L2 (aI 1 :: St) S := ev_go i148_9 rfl
theorem i148_10 : insAt 148 10 = some (.isub, 1, (0, 0, 0, 0), 0) := rfl
theorem s148_10 {c : Nat → List AV → SS → Option Out} {l0 l1 l2 l3 : Option AV} {x y : Int32} {L2 : List (Nat × AV)} {St : List AV} {S : SS} : ev c 148 10 [l0, l1, l2, l3] L2 (aI y :: aI x :: St) S = ev c 148 11 [l0, l1, l2, l3] L2 (aI (x - y) :: St) S := ev_go i148_10 rfl
theorem i148_11 : insAt 148 11 = some (.istore_n 3, 1, (0, 0, 0, 0), 0) := rfl
theorem s148_11 {c : Nat → List AV → SS → Option Out} {l0 l1 l2 l3 : Option AV} {x : Int32} {L2 : List (Nat × AV)} {St : List AV} {S : SS} : ev c 148 11 [l0, l1, l2, l3] L2 (aI x :: St) S = ev c 148 12 [l0, l1, l2, some (aI x)] (kil L2 3) St S := ev_go i148_11 rfl
theorem i148_12 : insAt 148 12 = some (.iload_n 3, 1, (0, 0, 0, 0), 0) := rfl
theorem s148_12 {c : Nat → List AV → SS → Option Out} {l0 l1 l2 : Option AV} {x : Int32} {L2 : List (Nat × AV)} {St : List AV} {S : SS} : ev c 148 12 [l0, l1, l2, some (aI x)] L2 St S = ev c 148 13 [l0, l1, l2, some (aI x)] L2 (aI x :: St) S := ev_go i148_12 rfl
theorem i148_13 : insAt 148 13 = some (.ifCond .lt 29, 3, (0, 0, 0, 0), 0) := rfl
theorem s148_13 {c : Nat → List AV → SS → Option Out} {l0 l1 l2 l3 : Option AV} {x : Int32} {L2 : List (Nat × AV)} {St : List AV} {S : SS} : ev c 148 13 [l0, l1, l2, l3] L2 (aI x :: St) S = if x < 0 then ev c 148 42 [l0, l1, l2, l3] L2 St S else ev c 148 16 [l0, l1, l2, l3] L2 St S := ev_br i148_13 rfl
theorem i148_16 : insAt 148 16 = some (.aload_n 0, 1, (0, 0, 0, 0), 0) := rfl
theorem s148_16 {c : Nat → List AV → SS → Option Out} {l1 l2 l3 : Option AV} {o : OId} {L2 : List (Nat × AV)} {St : List AV} {S : SS} : ev c 148 16 [some (aR o), l1, l2, l3] L2 St S = ev c 148 17 [some (aR o), l1, l2, l3] L2 (aR o :: St) S := ev_go i148_16 rfl
theorem i148_17 : insAt 148 17 = some (.getfield 36, 3, (8, 0, 0, 0), 0) := rfl
theorem s148_17 {c : Nat → List AV → SS → Option Out} {l0 l1 l2 l3 : Option AV} {j t : Nat} {L2 : List (Nat × AV)} {St : List AV} {S : SS} : ev c 148 17 [l0, l1, l2, l3] L2 (aR (8, j, t) :: St) S = ev c 148 20 [l0, l1, l2, l3] L2 (S.2.2.1 (8, j, t) 0 :: St) S := ev_go i148_17 rfl
theorem i148_20 : insAt 148 20 = some (.getfield 95, 3, (6, 3, 1, 0), 0) := rfl
theorem s148_20 {c : Nat → List AV → SS → Option Out} {l0 l1 l2 l3 : Option AV} {j t : Nat} {L2 : List (Nat × AV)} {St : List AV} {S : SS} : ev c 148 20 [l0, l1, l2, l3] L2 (aR (6, j, t) :: St) S = ev c 148 23 [l0, l1, l2, l3] L2 (S.2.2.1 (6, j, t) 3 :: St) S := ev_go i148_20 rfl
theorem i148_23 : insAt 148 23 = some (.iload_n 3, 1, (0, 0, 0, 0), 0) := rfl
theorem s148_23 {c : Nat → List AV → SS → Option Out} {l0 l1 l2 : Option AV} {x : Int32} {L2 : List (Nat × AV)} {St : List AV} {S : SS} : ev c 148 23 [l0, l1, l2, some (aI x)] L2 St S = ev c 148 24 [l0, l1, l2, some (aI x)] L2 (aI x :: St) S := ev_go i148_23 rfl
theorem i148_24 : insAt 148 24 = some (.iload_n 2, 1, (0, 0, 0, 0), 0) := rfl
theorem s148_24 {c : Nat → List AV → SS → Option Out} {l0 l1 l3 : Option AV} {x : Int32} {L2 : List (Nat × AV)} {St : List AV} {S : SS} : ev c 148 24 [l0, l1, some (aI x), l3] L2 St S = ev c 148 25 [l0, l1, some (aI x), l3] L2 (aI x :: St) S := ev_go i148_24 rfl
theorem i148_25 : insAt 148 25 = some (.bipush 8, 2, (0, 0, 0, 0), 0) := rfl
theorem s148_25 {c : Nat → List AV → SS → Option Out} {l0 l1 l2 l3 : Option AV} {L2 : List (Nat × AV)} {St : List AV} {S : SS} : ev c 148 25 [l0, l1, l2, l3] L2 St S = ev c 148 27 [l0, l1, l2, l3] L2 (aI 8 :: St) S := ev_go i148_25 rfl
theorem i148_27 : insAt 148 27 = some (.irem, 1, (0, 0, 0, 0), 0) := rfl
theorem s148_27 {c : Nat → List AV → SS → Option Out} {l0 l1 l2 l3 : Option AV} {x y : Int32} {L2 : List (Nat × AV)} {St : List AV} {S : SS} (h : ¬ y = 0) : ev c 148 27 [l0, l1, l2, l3] L2 (aI y :: aI x :: St) S = ev c 148 28 [l0, l1, l2, l3] L2 (aI (x - x / y * y) :: St) S := ev_go i148_27 (if_neg h)
theorem i148_28 : insAt 148 28 = some (.invokestatic 85, 3, (36, 3, 1, 0), 0) := rfl
theorem s148_28 {c : Nat → List AV → SS → Option Out} {l0 l1 l2 l3 : Option AV} {a0 : OId} {a1 : Int32} {a2 : Int32} {L2 : List (Nat × AV)} {S : SS} : ev c 148 28 [l0, l1, l2, l3] L2 [aI a2, aI a1, aR a0] S = ck (c 36 [aR a0, aI a1, aI a2] S) (fun v S' => ev c 148 31 [l0, l1, l2, l3] L2 (v.toList ++ []) S') := ev_call i148_28 rfl
theorem i148_31 : insAt 148 31 = some (.iload_n 2, 1, (0, 0, 0, 0), 0) := rfl
theorem s148_31 {c : Nat → List AV → SS → Option Out} {l0 l1 l3 : Option AV} {x : Int32} {L2 : List (Nat × AV)} {St : List AV} {S : SS} : ev c 148 31 [l0, l1, some (aI x), l3] L2 St S = ev c 148 32 [l0, l1, some (aI x), l3] L2 (aI x :: St) S := ev_go i148_31 rfl
theorem i148_32 : insAt 148 32 = some (.bipush 8, 2, (0, 0, 0, 0), 0) := rfl
theorem s148_32 {c : Nat → List AV → SS → Option Out} {l0 l1 l2 l3 : Option AV} {L2 : List (Nat × AV)} {St : List AV} {S : SS} : ev c 148 32 [l0, l1, l2, l3] L2 St S = ev c 148 34 [l0, l1, l2, l3] L2 (aI 8 :: St) S := ev_go i148_32 rfl
theorem i148_34 : insAt 148 34 = some (.idiv, 1, (0, 0, 0, 0), 0) := rfl
theorem s148_34 {c : Nat → List AV → SS → Option Out} {l0 l1 l2 l3 : Option AV} {x y : Int32} {L2 : List (Nat × AV)} {St : List AV} {S : SS} (h : ¬ y = 0) : ev c 148 34 [l0, l1, l2, l3] L2 (aI y :: aI x :: St) S = ev c 148 35 [l0, l1, l2, l3] L2 (aI (x / y) :: St) S := ev_go i148_34 (if_neg h)
theorem i148_35 : insAt 148 35 = some (.istore_n 2, 1, (0, 0, 0, 0), 0) := rfl
theorem s148_35 {c : Nat → List AV → SS → Option Out} {l0 l1 l2 l3 : Option AV} {x : Int32} {L2 : List (Nat × AV)} {St : List AV} {S : SS} : ev c 148 35 [l0, l1, l2, l3] L2 (aI x :: St) S = ev c 148 36 [l0, l1, some (aI x), l3] (kil L2 2) St S := ev_go i148_35 rfl
theorem i148_36 : insAt 148 36 = some (.iinc 3 (-1), 3, (0, 0, 0, 0), 0) := rfl
theorem s148_36 {c : Nat → List AV → SS → Option Out} {l0 l1 l2 : Option AV} {x : Int32} {L2 : List (Nat × AV)} {St : List AV} {S : SS} : ev c 148 36 [l0, l1, l2, some (aI x)] L2 St S = ev c 148 39 [l0, l1, l2, some (aI (x + (-1)))] (kil L2 3) St S := ev_go i148_36 rfl
theorem i148_39 : insAt 148 39 = some (.goto (-27), 3, (0, 0, 0, 0), 0) := rfl
theorem s148_39 {c : Nat → List AV → SS → Option Out} {l0 l1 l2 l3 : Option AV} {L2 : List (Nat × AV)} {St : List AV} {S : SS} : ev c 148 39 [l0, l1, l2, l3] L2 St S = ev c 148 12 [l0, l1, l2, l3] L2 St S := ev_go i148_39 rfl
theorem i148_42 : insAt 148 42 = some (.return_, 1, (0, 0, 0, 0), 0) := rfl
theorem s148_42 {c : Nat → List AV → SS → Option Out} {l0 l1 l2 l3 : Option AV} {L2 : List (Nat × AV)} {St : List AV} {S : SS} : ev c 148 42 [l0, l1, l2, l3] L2 [] S = some (.inl none, S) := ev_end i148_42 rfl
theorem m148 {d : Nat} {o : OId} {a0 : Int32} {S : SS} : evm (d + 1) 148 [aR o, aI a0] S = ev (evm d) 148 0 [some (aR o), some (aI a0), none, none] [] [] S := evm_s (n := 4) rfl (Nat.le_of_ble_eq_true rfl) rfl rfl
/-! FrequencyOffice$Search.enqueueMoves(I)I -/
theorem i149_0 : insAt 149 0 = some (.iload_n 1, 1, (0, 0, 0, 0), 0) := rfl
theorem s149_0 {c : Nat → List AV → SS → Option Out} {l0 l2 l3 l4 l5 l6 : Option AV} {x : Int32} {L2 : List (Nat × AV)} {St : List AV} {S : SS} : ev c 149 0 [l0, some (aI x), l2, l3, l4, l5, l6] L2 St S = ev c 149 1 [l0, some (aI x), l2, l3, l4, l5, l6] L2 (aI x :: St) S := ev_go i149_0 rfl
theorem i149_1 : insAt 149 1 = some (.istore_n 2, 1, (0, 0, 0, 0), 0) := rfl
theorem s149_1 {c : Nat → List AV → SS → Option Out} {l0 l1 l2 l3 l4 l5 l6 : Option AV} {x : Int32} {L2 : List (Nat × AV)} {St : List AV} {S : SS} : ev c 149 1 [l0, l1, l2, l3, l4, l5, l6] L2 (aI x :: St) S = ev c 149 2 [l0, l1, some (aI x), l3, l4, l5, l6] (kil L2 2) St S := ev_go i149_1 rfl
theorem i149_2 : insAt 149 2 = some (.iconst 0, 1, (0, 0, 0, 0), 0) := rfl
theorem s149_2 {c : Nat → List AV → SS → Option Out} {l0 l1 l2 l3 l4 l5 l6 : Option AV} {L2 : List (Nat × AV)} {St : List AV} {S : SS} : ev c 149 2 [l0, l1, l2, l3, l4, l5, l6] L2 St S = ev c 149 3 [l0, l1, l2, l3, l4, l5, l6] L2 (aI 0 :: St) S := ev_go i149_2 rfl
theorem i149_3 : insAt 149 3 = some (.istore_n 3, 1, (0, 0, 0, 0), 0) := rfl
theorem s149_3 {c : Nat → List AV → SS → Option Out} {l0 l1 l2 l3 l4 l5 l6 : Option AV} {x : Int32} {L2 : List (Nat × AV)} {St : List AV} {S : SS} : ev c 149 3 [l0, l1, l2, l3, l4, l5, l6] L2 (aI x :: St) S = ev c 149 4 [l0, l1, l2, some (aI x), l4, l5, l6] (kil L2 3) St S := ev_go i149_3 rfl
theorem i149_4 : insAt 149 4 = some (.iload_n 3, 1, (0, 0, 0, 0), 0) := rfl
theorem s149_4 {c : Nat → List AV → SS → Option Out} {l0 l1 l2 l4 l5 l6 : Option AV} {x : Int32} {L2 : List (Nat × AV)} {St : List AV} {S : SS} : ev c 149 4 [l0, l1, l2, some (aI x), l4, l5, l6] L2 St S = ev c 149 5 [l0, l1, l2, some (aI x), l4, l5, l6] L2 (aI x :: St) S := ev_go i149_4 rfl
theorem i149_5 : insAt 149 5 = some (.aload_n 0, 1, (0, 0, 0, 0), 0) := rfl
theorem s149_5 {c : Nat → List AV → SS → Option Out} {l1 l2 l3 l4 l5 l6 : Option AV} {o : OId} {L2 : List (Nat × AV)} {St : List AV} {S : SS} : ev c 149 5 [some (aR o), l1, l2, l3, l4, l5, l6] L2 St S = ev c 149 6 [some (aR o), l1, l2, l3, l4, l5, l6] L2 (aR o :: St) S := ev_go i149_5 rfl
theorem i149_6 : insAt 149 6 = some (.getfield 36, 3, (8, 0, 0, 0), 0) := rfl
theorem s149_6 {c : Nat → List AV → SS → Option Out} {l0 l1 l2 l3 l4 l5 l6 : Option AV} {j t : Nat} {L2 : List (Nat × AV)} {St : List AV} {S : SS} : ev c 149 6 [l0, l1, l2, l3, l4, l5, l6] L2 (aR (8, j, t) :: St) S = ev c 149 9 [l0, l1, l2, l3, l4, l5, l6] L2 (S.2.2.1 (8, j, t) 0 :: St) S := ev_go i149_6 rfl
theorem i149_9 : insAt 149 9 = some (.getfield 46, 3, (6, 0, 1, 0), 0) := rfl
theorem s149_9 {c : Nat → List AV → SS → Option Out} {l0 l1 l2 l3 l4 l5 l6 : Option AV} {j t : Nat} {L2 : List (Nat × AV)} {St : List AV} {S : SS} : ev c 149 9 [l0, l1, l2, l3, l4, l5, l6] L2 (aR (6, j, t) :: St) S = ev c 149 12 [l0, l1, l2, l3, l4, l5, l6] L2 (aI (S.1 (6, j, t) 0) :: St) S := ev_go i149_9 rfl
theorem i149_12 : insAt 149 12 = some (.if_icmp .ge 119, 3, (0, 0, 0, 0), 0) := rfl
theorem s149_12 {c : Nat → List AV → SS → Option Out} {l0 l1 l2 l3 l4 l5 l6 : Option AV} {x y : Int32} {L2 : List (Nat × AV)} {St : List AV} {S : SS} : ev c 149 12 [l0, l1, l2, l3, l4, l5, l6] L2 (aI y :: aI x :: St) S = if y ≤ x then ev c 149 131 [l0, l1, l2, l3, l4, l5, l6] L2 St S else ev c 149 15 [l0, l1, l2, l3, l4, l5, l6] L2 St S := ev_br i149_12 rfl
theorem i149_15 : insAt 149 15 = some (.aload_n 0, 1, (0, 0, 0, 0), 0) := rfl
theorem s149_15 {c : Nat → List AV → SS → Option Out} {l1 l2 l3 l4 l5 l6 : Option AV} {o : OId} {L2 : List (Nat × AV)} {St : List AV} {S : SS} : ev c 149 15 [some (aR o), l1, l2, l3, l4, l5, l6] L2 St S = ev c 149 16 [some (aR o), l1, l2, l3, l4, l5, l6] L2 (aR o :: St) S := ev_go i149_15 rfl
theorem i149_16 : insAt 149 16 = some (.getfield 36, 3, (8, 0, 0, 0), 0) := rfl
theorem s149_16 {c : Nat → List AV → SS → Option Out} {l0 l1 l2 l3 l4 l5 l6 : Option AV} {j t : Nat} {L2 : List (Nat × AV)} {St : List AV} {S : SS} : ev c 149 16 [l0, l1, l2, l3, l4, l5, l6] L2 (aR (8, j, t) :: St) S = ev c 149 19 [l0, l1, l2, l3, l4, l5, l6] L2 (S.2.2.1 (8, j, t) 0 :: St) S := ev_go i149_16 rfl
theorem i149_19 : insAt 149 19 = some (.getfield 95, 3, (6, 3, 1, 0), 0) := rfl
theorem s149_19 {c : Nat → List AV → SS → Option Out} {l0 l1 l2 l3 l4 l5 l6 : Option AV} {j t : Nat} {L2 : List (Nat × AV)} {St : List AV} {S : SS} : ev c 149 19 [l0, l1, l2, l3, l4, l5, l6] L2 (aR (6, j, t) :: St) S = ev c 149 22 [l0, l1, l2, l3, l4, l5, l6] L2 (S.2.2.1 (6, j, t) 3 :: St) S := ev_go i149_19 rfl
theorem i149_22 : insAt 149 22 = some (.iload_n 3, 1, (0, 0, 0, 0), 0) := rfl
theorem s149_22 {c : Nat → List AV → SS → Option Out} {l0 l1 l2 l4 l5 l6 : Option AV} {x : Int32} {L2 : List (Nat × AV)} {St : List AV} {S : SS} : ev c 149 22 [l0, l1, l2, some (aI x), l4, l5, l6] L2 St S = ev c 149 23 [l0, l1, l2, some (aI x), l4, l5, l6] L2 (aI x :: St) S := ev_go i149_22 rfl
theorem i149_23 : insAt 149 23 = some (.invokestatic 52, 3, (32, 2, 1, 0), 0) := rfl
theorem s149_23 {c : Nat → List AV → SS → Option Out} {l0 l1 l2 l3 l4 l5 l6 : Option AV} {a0 : OId} {a1 : Int32} {L2 : List (Nat × AV)} {S : SS} : ev c 149 23 [l0, l1, l2, l3, l4, l5, l6] L2 [aI a1, aR a0] S = ck (c 32 [aR a0, aI a1] S) (fun v S' => ev c 149 26 [l0, l1, l2, l3, l4, l5, l6] L2 (v.toList ++ []) S') := ev_call i149_23 rfl
theorem i149_26 : insAt 149 26 = some (.istore 4, 2, (0, 0, 0, 0), 0) := rfl
theorem s149_26 {c : Nat → List AV → SS → Option Out} {l0 l1 l2 l3 l4 l5 l6 : Option AV} {x : Int32} {L2 : List (Nat × AV)} {St : List AV} {S : SS} : ev c 149 26 [l0, l1, l2, l3, l4, l5, l6] L2 (aI x :: St) S = ev c 149 28 [l0, l1, l2, l3, some (aI x), l5, l6] (kil L2 4) St S := ev_go i149_26 rfl
theorem i149_28 : insAt 149 28 = some (.iload_n 3, 1, (0, 0, 0, 0), 0) := rfl
theorem s149_28 {c : Nat → List AV → SS → Option Out} {l0 l1 l2 l4 l5 l6 : Option AV} {x : Int32} {L2 : List (Nat × AV)} {St : List AV} {S : SS} : ev c 149 28 [l0, l1, l2, some (aI x), l4, l5, l6] L2 St S = ev c 149 29 [l0, l1, l2, some (aI x), l4, l5, l6] L2 (aI x :: St) S := ev_go i149_28 rfl
theorem i149_29 : insAt 149 29 = some (.aload_n 0, 1, (0, 0, 0, 0), 0) := rfl
theorem s149_29 {c : Nat → List AV → SS → Option Out} {l1 l2 l3 l4 l5 l6 : Option AV} {o : OId} {L2 : List (Nat × AV)} {St : List AV} {S : SS} : ev c 149 29 [some (aR o), l1, l2, l3, l4, l5, l6] L2 St S = ev c 149 30 [some (aR o), l1, l2, l3, l4, l5, l6] L2 (aR o :: St) S := ev_go i149_29 rfl
theorem i149_30 : insAt 149 30 = some (.getfield 33, 3, (8, 6, 0, 0), 0) := rfl
theorem s149_30 {c : Nat → List AV → SS → Option Out} {l0 l1 l2 l3 l4 l5 l6 : Option AV} {j t : Nat} {L2 : List (Nat × AV)} {St : List AV} {S : SS} : ev c 149 30 [l0, l1, l2, l3, l4, l5, l6] L2 (aR (8, j, t) :: St) S = ev c 149 33 [l0, l1, l2, l3, l4, l5, l6] L2 (aI (S.1 (8, j, t) 6) :: St) S := ev_go i149_30 rfl
theorem i149_33 : insAt 149 33 = some (.if_icmp .ne 7, 3, (0, 0, 0, 0), 0) := rfl
theorem s149_33 {c : Nat → List AV → SS → Option Out} {l0 l1 l2 l3 l4 l5 l6 : Option AV} {x y : Int32} {L2 : List (Nat × AV)} {St : List AV} {S : SS} : ev c 149 33 [l0, l1, l2, l3, l4, l5, l6] L2 (aI y :: aI x :: St) S = if x = y then ev c 149 36 [l0, l1, l2, l3, l4, l5, l6] L2 St S else ev c 149 40 [l0, l1, l2, l3, l4, l5, l6] L2 St S := (ev_br i149_33 rfl).trans (ite_not _ _ _)
theorem i149_36 : insAt 149 36 = some (.iconst 0, 1, (0, 0, 0, 0), 0) := rfl
theorem s149_36 {c : Nat → List AV → SS → Option Out} {l0 l1 l2 l3 l4 l5 l6 : Option AV} {L2 : List (Nat × AV)} {St : List AV} {S : SS} : ev c 149 36 [l0, l1, l2, l3, l4, l5, l6] L2 St S = ev c 149 37 [l0, l1, l2, l3, l4, l5, l6] L2 (aI 0 :: St) S := ev_go i149_36 rfl
theorem i149_37 : insAt 149 37 = some (.goto 18, 3, (0, 0, 0, 0), 0) := rfl
theorem s149_37 {c : Nat → List AV → SS → Option Out} {l0 l1 l2 l3 l4 l5 l6 : Option AV} {L2 : List (Nat × AV)} {St : List AV} {S : SS} : ev c 149 37 [l0, l1, l2, l3, l4, l5, l6] L2 St S = ev c 149 55 [l0, l1, l2, l3, l4, l5, l6] L2 St S := ev_go i149_37 rfl
theorem i149_40 : insAt 149 40 = some (.aload_n 0, 1, (0, 0, 0, 0), 0) := rfl
theorem s149_40 {c : Nat → List AV → SS → Option Out} {l1 l2 l3 l4 l5 l6 : Option AV} {o : OId} {L2 : List (Nat × AV)} {St : List AV} {S : SS} : ev c 149 40 [some (aR o), l1, l2, l3, l4, l5, l6] L2 St S = ev c 149 41 [some (aR o), l1, l2, l3, l4, l5, l6] L2 (aR o :: St) S := ev_go i149_40 rfl
theorem i149_41 : insAt 149 41 = some (.getfield 36, 3, (8, 0, 0, 0), 0) := rfl
theorem s149_41 {c : Nat → List AV → SS → Option Out} {l0 l1 l2 l3 l4 l5 l6 : Option AV} {j t : Nat} {L2 : List (Nat × AV)} {St : List AV} {S : SS} : ev c 149 41 [l0, l1, l2, l3, l4, l5, l6] L2 (aR (8, j, t) :: St) S = ev c 149 44 [l0, l1, l2, l3, l4, l5, l6] L2 (S.2.2.1 (8, j, t) 0 :: St) S := ev_go i149_41 rfl
theorem i149_44 : insAt 149 44 = some (.iload_n 3, 1, (0, 0, 0, 0), 0) := rfl
theorem s149_44 {c : Nat → List AV → SS → Option Out} {l0 l1 l2 l4 l5 l6 : Option AV} {x : Int32} {L2 : List (Nat × AV)} {St : List AV} {S : SS} : ev c 149 44 [l0, l1, l2, some (aI x), l4, l5, l6] L2 St S = ev c 149 45 [l0, l1, l2, some (aI x), l4, l5, l6] L2 (aI x :: St) S := ev_go i149_44 rfl
theorem i149_45 : insAt 149 45 = some (.invokevirtual 126, 3, (79, 1, 3, 6), 0) := rfl
theorem s149_45 {c : Nat → List AV → SS → Option Out} {l0 l1 l2 l3 l4 l5 l6 : Option AV} {a0 : Int32} {j t : Nat} {L2 : List (Nat × AV)} {S : SS} : ev c 149 45 [l0, l1, l2, l3, l4, l5, l6] L2 [aI a0, aR (6, j, t)] S = ck (c 79 [aR (6, j, t), aI a0] S) (fun v S' => ev c 149 48 [l0, l1, l2, l3, l4, l5, l6] L2 (v.toList ++ []) S') := ev_call i149_45 rfl
theorem i149_48 : insAt 149 48 = some (.iconst 1, 1, (0, 0, 0, 0), 0) := rfl
theorem s149_48 {c : Nat → List AV → SS → Option Out} {l0 l1 l2 l3 l4 l5 l6 : Option AV} {L2 : List (Nat × AV)} {St : List AV} {S : SS} : ev c 149 48 [l0, l1, l2, l3, l4, l5, l6] L2 St S = ev c 149 49 [l0, l1, l2, l3, l4, l5, l6] L2 (aI 1 :: St) S := ev_go i149_48 rfl
theorem i149_49 : insAt 149 49 = some (.iload 4, 2, (0, 0, 0, 0), 0) := rfl
theorem s149_49 {c : Nat → List AV → SS → Option Out} {l0 l1 l2 l3 l5 l6 : Option AV} {x : Int32} {L2 : List (Nat × AV)} {St : List AV} {S : SS} : ev c 149 49 [l0, l1, l2, l3, some (aI x), l5, l6] L2 St S = ev c 149 51 [l0, l1, l2, l3, some (aI x), l5, l6] L2 (aI x :: St) S := ev_go i149_49 rfl
theorem i149_51 : insAt 149 51 = some (.ishl, 1, (0, 0, 0, 0), 0) := rfl
theorem s149_51 {c : Nat → List AV → SS → Option Out} {l0 l1 l2 l3 l4 l5 l6 : Option AV} {x y : Int32} {L2 : List (Nat × AV)} {St : List AV} {S : SS} : ev c 149 51 [l0, l1, l2, l3, l4, l5, l6] L2 (aI y :: aI x :: St) S = ev c 149 52 [l0, l1, l2, l3, l4, l5, l6] L2 (aI (x <<< (y &&& 31)) :: St) S := ev_go i149_51 rfl
theorem i149_52 : insAt 149 52 = some (.iconst (-1), 1, (0, 0, 0, 0), 0) := rfl
theorem s149_52 {c : Nat → List AV → SS → Option Out} {l0 l1 l2 l3 l4 l5 l6 : Option AV} {L2 : List (Nat × AV)} {St : List AV} {S : SS} : ev c 149 52 [l0, l1, l2, l3, l4, l5, l6] L2 St S = ev c 149 53 [l0, l1, l2, l3, l4, l5, l6] L2 (aI (-1) :: St) S := ev_go i149_52 rfl
theorem i149_53 : insAt 149 53 = some (.ixor, 1, (0, 0, 0, 0), 0) := rfl
theorem s149_53 {c : Nat → List AV → SS → Option Out} {l0 l1 l2 l3 l4 l5 l6 : Option AV} {x y : Int32} {L2 : List (Nat × AV)} {St : List AV} {S : SS} : ev c 149 53 [l0, l1, l2, l3, l4, l5, l6] L2 (aI y :: aI x :: St) S = ev c 149 54 [l0, l1, l2, l3, l4, l5, l6] L2 (aI (x ^^^ y) :: St) S := ev_go i149_53 rfl
theorem i149_54 : insAt 149 54 = some (.iand, 1, (0, 0, 0, 0), 0) := rfl
theorem s149_54 {c : Nat → List AV → SS → Option Out} {l0 l1 l2 l3 l4 l5 l6 : Option AV} {x y : Int32} {L2 : List (Nat × AV)} {St : List AV} {S : SS} : ev c 149 54 [l0, l1, l2, l3, l4, l5, l6] L2 (aI y :: aI x :: St) S = ev c 149 55 [l0, l1, l2, l3, l4, l5, l6] L2 (aI (x &&& y) :: St) S := ev_go i149_54 rfl
theorem i149_55 : insAt 149 55 = some (.istore 5, 2, (0, 0, 0, 0), 0) := rfl
theorem s149_55 {c : Nat → List AV → SS → Option Out} {l0 l1 l2 l3 l4 l5 l6 : Option AV} {x : Int32} {L2 : List (Nat × AV)} {St : List AV} {S : SS} : ev c 149 55 [l0, l1, l2, l3, l4, l5, l6] L2 (aI x :: St) S = ev c 149 57 [l0, l1, l2, l3, l4, some (aI x), l6] (kil L2 5) St S := ev_go i149_55 rfl
theorem i149_57 : insAt 149 57 = some (.iconst 0, 1, (0, 0, 0, 0), 0) := rfl
theorem s149_57 {c : Nat → List AV → SS → Option Out} {l0 l1 l2 l3 l4 l5 l6 : Option AV} {L2 : List (Nat × AV)} {St : List AV} {S : SS} : ev c 149 57 [l0, l1, l2, l3, l4, l5, l6] L2 St S = ev c 149 58 [l0, l1, l2, l3, l4, l5, l6] L2 (aI 0 :: St) S := ev_go i149_57 rfl
theorem i149_58 : insAt 149 58 = some (.istore 6, 2, (0, 0, 0, 0), 0) := rfl
theorem s149_58 {c : Nat → List AV → SS → Option Out} {l0 l1 l2 l3 l4 l5 l6 : Option AV} {x : Int32} {L2 : List (Nat × AV)} {St : List AV} {S : SS} : ev c 149 58 [l0, l1, l2, l3, l4, l5, l6] L2 (aI x :: St) S = ev c 149 60 [l0, l1, l2, l3, l4, l5, some (aI x)] (kil L2 6) St S := ev_go i149_58 rfl
theorem i149_60 : insAt 149 60 = some (.iload 6, 2, (0, 0, 0, 0), 0) := rfl
theorem s149_60 {c : Nat → List AV → SS → Option Out} {l0 l1 l2 l3 l4 l5 : Option AV} {x : Int32} {L2 : List (Nat × AV)} {St : List AV} {S : SS} : ev c 149 60 [l0, l1, l2, l3, l4, l5, some (aI x)] L2 St S = ev c 149 62 [l0, l1, l2, l3, l4, l5, some (aI x)] L2 (aI x :: St) S := ev_go i149_60 rfl
theorem i149_62 : insAt 149 62 = some (.bipush 8, 2, (0, 0, 0, 0), 0) := rfl
theorem s149_62 {c : Nat → List AV → SS → Option Out} {l0 l1 l2 l3 l4 l5 l6 : Option AV} {L2 : List (Nat × AV)} {St : List AV} {S : SS} : ev c 149 62 [l0, l1, l2, l3, l4, l5, l6] L2 St S = ev c 149 64 [l0, l1, l2, l3, l4, l5, l6] L2 (aI 8 :: St) S := ev_go i149_62 rfl
theorem i149_64 : insAt 149 64 = some (.if_icmp .ge 48, 3, (0, 0, 0, 0), 0) := rfl
theorem s149_64 {c : Nat → List AV → SS → Option Out} {l0 l1 l2 l3 l4 l5 l6 : Option AV} {x y : Int32} {L2 : List (Nat × AV)} {St : List AV} {S : SS} : ev c 149 64 [l0, l1, l2, l3, l4, l5, l6] L2 (aI y :: aI x :: St) S = if y ≤ x then ev c 149 112 [l0, l1, l2, l3, l4, l5, l6] L2 St S else ev c 149 67 [l0, l1, l2, l3, l4, l5, l6] L2 St S := ev_br i149_64 rfl
theorem i149_67 : insAt 149 67 = some (.iload 5, 2, (0, 0, 0, 0), 0) := rfl
theorem s149_67 {c : Nat → List AV → SS → Option Out} {l0 l1 l2 l3 l4 l6 : Option AV} {x : Int32} {L2 : List (Nat × AV)} {St : List AV} {S : SS} : ev c 149 67 [l0, l1, l2, l3, l4, some (aI x), l6] L2 St S = ev c 149 69 [l0, l1, l2, l3, l4, some (aI x), l6] L2 (aI x :: St) S := ev_go i149_67 rfl
theorem i149_69 : insAt 149 69 = some (.i2l, 1, (0, 0, 0, 0), 0) := rfl
theorem s149_69 {c : Nat → List AV → SS → Option Out} {l0 l1 l2 l3 l4 l5 l6 : Option AV} {x : Int32} {L2 : List (Nat × AV)} {St : List AV} {S : SS} : ev c 149 69 [l0, l1, l2, l3, l4, l5, l6] L2 (aI x :: St) S = ev c 149 70 [l0, l1, l2, l3, l4, l5, l6] L2 (aL x.toInt64 :: St) S := ev_go i149_69 rfl
theorem i149_70 : insAt 149 70 = some (.iload 6, 2, (0, 0, 0, 0), 0) := rfl
theorem s149_70 {c : Nat → List AV → SS → Option Out} {l0 l1 l2 l3 l4 l5 : Option AV} {x : Int32} {L2 : List (Nat × AV)} {St : List AV} {S : SS} : ev c 149 70 [l0, l1, l2, l3, l4, l5, some (aI x)] L2 St S = ev c 149 72 [l0, l1, l2, l3, l4, l5, some (aI x)] L2 (aI x :: St) S := ev_go i149_70 rfl
theorem i149_72 : insAt 149 72 = some (.invokestatic 129, 3, (43, 2, 1, 0), 0) := rfl
theorem s149_72 {c : Nat → List AV → SS → Option Out} {l0 l1 l2 l3 l4 l5 l6 : Option AV} {a0 : Int64} {a1 : Int32} {L2 : List (Nat × AV)} {S : SS} : ev c 149 72 [l0, l1, l2, l3, l4, l5, l6] L2 [aI a1, aL a0] S = ck (c 43 [aL a0, aI a1] S) (fun v S' => ev c 149 75 [l0, l1, l2, l3, l4, l5, l6] L2 (v.toList ++ []) S') := ev_call i149_72 rfl
theorem i149_75 : insAt 149 75 = some (.ifCond .eq 31, 3, (0, 0, 0, 0), 0) := rfl
theorem s149_75 {c : Nat → List AV → SS → Option Out} {l0 l1 l2 l3 l4 l5 l6 : Option AV} {x : Int32} {L2 : List (Nat × AV)} {St : List AV} {S : SS} : ev c 149 75 [l0, l1, l2, l3, l4, l5, l6] L2 (aI x :: St) S = if x = 0 then ev c 149 106 [l0, l1, l2, l3, l4, l5, l6] L2 St S else ev c 149 78 [l0, l1, l2, l3, l4, l5, l6] L2 St S := ev_br i149_75 rfl
theorem i149_78 : insAt 149 78 = some (.aload_n 0, 1, (0, 0, 0, 0), 0) := rfl
theorem s149_78 {c : Nat → List AV → SS → Option Out} {l1 l2 l3 l4 l5 l6 : Option AV} {o : OId} {L2 : List (Nat × AV)} {St : List AV} {S : SS} : ev c 149 78 [some (aR o), l1, l2, l3, l4, l5, l6] L2 St S = ev c 149 79 [some (aR o), l1, l2, l3, l4, l5, l6] L2 (aR o :: St) S := ev_go i149_78 rfl
theorem i149_79 : insAt 149 79 = some (.getfield 36, 3, (8, 0, 0, 0), 0) := rfl
theorem s149_79 {c : Nat → List AV → SS → Option Out} {l0 l1 l2 l3 l4 l5 l6 : Option AV} {j t : Nat} {L2 : List (Nat × AV)} {St : List AV} {S : SS} : ev c 149 79 [l0, l1, l2, l3, l4, l5, l6] L2 (aR (8, j, t) :: St) S = ev c 149 82 [l0, l1, l2, l3, l4, l5, l6] L2 (S.2.2.1 (8, j, t) 0 :: St) S := ev_go i149_79 rfl
theorem i149_82 : insAt 149 82 = some (.getfield 95, 3, (6, 3, 1, 0), 0) := rfl
theorem s149_82 {c : Nat → List AV → SS → Option Out} {l0 l1 l2 l3 l4 l5 l6 : Option AV} {j t : Nat} {L2 : List (Nat × AV)} {St : List AV} {S : SS} : ev c 149 82 [l0, l1, l2, l3, l4, l5, l6] L2 (aR (6, j, t) :: St) S = ev c 149 85 [l0, l1, l2, l3, l4, l5, l6] L2 (S.2.2.1 (6, j, t) 3 :: St) S := ev_go i149_82 rfl
theorem i149_85 : insAt 149 85 = some (.iload_n 3, 1, (0, 0, 0, 0), 0) := rfl
theorem s149_85 {c : Nat → List AV → SS → Option Out} {l0 l1 l2 l4 l5 l6 : Option AV} {x : Int32} {L2 : List (Nat × AV)} {St : List AV} {S : SS} : ev c 149 85 [l0, l1, l2, some (aI x), l4, l5, l6] L2 St S = ev c 149 86 [l0, l1, l2, some (aI x), l4, l5, l6] L2 (aI x :: St) S := ev_go i149_85 rfl
theorem i149_86 : insAt 149 86 = some (.iload 6, 2, (0, 0, 0, 0), 0) := rfl
theorem s149_86 {c : Nat → List AV → SS → Option Out} {l0 l1 l2 l3 l4 l5 : Option AV} {x : Int32} {L2 : List (Nat × AV)} {St : List AV} {S : SS} : ev c 149 86 [l0, l1, l2, l3, l4, l5, some (aI x)] L2 St S = ev c 149 88 [l0, l1, l2, l3, l4, l5, some (aI x)] L2 (aI x :: St) S := ev_go i149_86 rfl
theorem i149_88 : insAt 149 88 = some (.invokestatic 85, 3, (36, 3, 1, 0), 0) := rfl
theorem s149_88 {c : Nat → List AV → SS → Option Out} {l0 l1 l2 l3 l4 l5 l6 : Option AV} {a0 : OId} {a1 : Int32} {a2 : Int32} {L2 : List (Nat × AV)} {S : SS} : ev c 149 88 [l0, l1, l2, l3, l4, l5, l6] L2 [aI a2, aI a1, aR a0] S = ck (c 36 [aR a0, aI a1, aI a2] S) (fun v S' => ev c 149 91 [l0, l1, l2, l3, l4, l5, l6] L2 (v.toList ++ []) S') := ev_call i149_88 rfl
theorem i149_91 : insAt 149 91 = some (.aload_n 0, 1, (0, 0, 0, 0), 0) := rfl
theorem s149_91 {c : Nat → List AV → SS → Option Out} {l1 l2 l3 l4 l5 l6 : Option AV} {o : OId} {L2 : List (Nat × AV)} {St : List AV} {S : SS} : ev c 149 91 [some (aR o), l1, l2, l3, l4, l5, l6] L2 St S = ev c 149 92 [some (aR o), l1, l2, l3, l4, l5, l6] L2 (aR o :: St) S := ev_go i149_91 rfl
theorem i149_92 : insAt 149 92 = some (.getfield 26, 3, (8, 4, 0, 0), 0) := rfl
theorem s149_92 {c : Nat → List AV → SS → Option Out} {l0 l1 l2 l3 l4 l5 l6 : Option AV} {j t : Nat} {L2 : List (Nat × AV)} {St : List AV} {S : SS} : ev c 149 92 [l0, l1, l2, l3, l4, l5, l6] L2 (aR (8, j, t) :: St) S = ev c 149 95 [l0, l1, l2, l3, l4, l5, l6] L2 (S.2.2.1 (8, j, t) 4 :: St) S := ev_go i149_92 rfl
theorem i149_95 : insAt 149 95 = some (.iload_n 2, 1, (0, 0, 0, 0), 0) := rfl
theorem s149_95 {c : Nat → List AV → SS → Option Out} {l0 l1 l3 l4 l5 l6 : Option AV} {x : Int32} {L2 : List (Nat × AV)} {St : List AV} {S : SS} : ev c 149 95 [l0, l1, some (aI x), l3, l4, l5, l6] L2 St S = ev c 149 96 [l0, l1, some (aI x), l3, l4, l5, l6] L2 (aI x :: St) S := ev_go i149_95 rfl
theorem i149_96 : insAt 149 96 = some (.aload_n 0, 1, (0, 0, 0, 0), 0) := rfl
theorem s149_96 {c : Nat → List AV → SS → Option Out} {l1 l2 l3 l4 l5 l6 : Option AV} {o : OId} {L2 : List (Nat × AV)} {St : List AV} {S : SS} : ev c 149 96 [some (aR o), l1, l2, l3, l4, l5, l6] L2 St S = ev c 149 97 [some (aR o), l1, l2, l3, l4, l5, l6] L2 (aR o :: St) S := ev_go i149_96 rfl
theorem i149_97 : insAt 149 97 = some (.invokevirtual 147, 3, (147, 0, 2, 8), 0) := rfl
theorem s149_97 {c : Nat → List AV → SS → Option Out} {l0 l1 l2 l3 l4 l5 l6 : Option AV} {t0 t1 : AV} {j t : Nat} {L2 : List (Nat × AV)} {S : SS} : ev c 149 97 [l0, l1, l2, l3, l4, l5, l6] L2 [aR (8, j, t), t0, t1] S = ck (c 147 [aR (8, j, t)] S) (fun v S' => ev c 149 100 [l0, l1, l2, l3, l4, l5, l6] L2 (v.toList ++ [t0, t1]) S') := ev_call i149_97 rfl
theorem i149_100 : insAt 149 100 = some (.invokestatic 85, 3, (36, 3, 1, 0), 0) := rfl
theorem s149_100 {c : Nat → List AV → SS → Option Out} {l0 l1 l2 l3 l4 l5 l6 : Option AV} {a0 : OId} {a1 : Int32} {a2 : Int32} {L2 : List (Nat × AV)} {S : SS} : ev c 149 100 [l0, l1, l2, l3, l4, l5, l6] L2 [aI a2, aI a1, aR a0] S = ck (c 36 [aR a0, aI a1, aI a2] S) (fun v S' => ev c 149 103 [l0, l1, l2, l3, l4, l5, l6] L2 (v.toList ++ []) S') := ev_call i149_100 rfl
theorem i149_103 : insAt 149 103 = some (.iinc 2 1, 3, (0, 0, 0, 0), 0) := rfl
theorem s149_103 {c : Nat → List AV → SS → Option Out} {l0 l1 l3 l4 l5 l6 : Option AV} {x : Int32} {L2 : List (Nat × AV)} {St : List AV} {S : SS} : ev c 149 103 [l0, l1, some (aI x), l3, l4, l5, l6] L2 St S = ev c 149 106 [l0, l1, some (aI (x + 1)), l3, l4, l5, l6] (kil L2 2) St S := ev_go i149_103 rfl
theorem i149_106 : insAt 149 106 = some (.iinc 6 1, 3, (0, 0, 0, 0), 0) := rfl
theorem s149_106 {c : Nat → List AV → SS → Option Out} {l0 l1 l2 l3 l4 l5 : Option AV} {x : Int32} {L2 : List (Nat × AV)} {St : List AV} {S : SS} : ev c 149 106 [l0, l1, l2, l3, l4, l5, some (aI x)] L2 St S = ev c 149 109 [l0, l1, l2, l3, l4, l5, some (aI (x + 1))] (kil L2 6) St S := ev_go i149_106 rfl
theorem i149_109 : insAt 149 109 = some (.goto (-49), 3, (0, 0, 0, 0), 0) := rfl
theorem s149_109 {c : Nat → List AV → SS → Option Out} {l0 l1 l2 l3 l4 l5 l6 : Option AV} {L2 : List (Nat × AV)} {St : List AV} {S : SS} : ev c 149 109 [l0, l1, l2, l3, l4, l5, l6] L2 St S = ev c 149 60 [l0, l1, l2, l3, l4, l5, l6] L2 St S := ev_go i149_109 rfl
theorem i149_112 : insAt 149 112 = some (.aload_n 0, 1, (0, 0, 0, 0), 0) := rfl
theorem s149_112 {c : Nat → List AV → SS → Option Out} {l1 l2 l3 l4 l5 l6 : Option AV} {o : OId} {L2 : List (Nat × AV)} {St : List AV} {S : SS} : ev c 149 112 [some (aR o), l1, l2, l3, l4, l5, l6] L2 St S = ev c 149 113 [some (aR o), l1, l2, l3, l4, l5, l6] L2 (aR o :: St) S := ev_go i149_112 rfl
theorem i149_113 : insAt 149 113 = some (.getfield 36, 3, (8, 0, 0, 0), 0) := rfl
theorem s149_113 {c : Nat → List AV → SS → Option Out} {l0 l1 l2 l3 l4 l5 l6 : Option AV} {j t : Nat} {L2 : List (Nat × AV)} {St : List AV} {S : SS} : ev c 149 113 [l0, l1, l2, l3, l4, l5, l6] L2 (aR (8, j, t) :: St) S = ev c 149 116 [l0, l1, l2, l3, l4, l5, l6] L2 (S.2.2.1 (8, j, t) 0 :: St) S := ev_go i149_113 rfl
theorem i149_116 : insAt 149 116 = some (.getfield 95, 3, (6, 3, 1, 0), 0) := rfl
theorem s149_116 {c : Nat → List AV → SS → Option Out} {l0 l1 l2 l3 l4 l5 l6 : Option AV} {j t : Nat} {L2 : List (Nat × AV)} {St : List AV} {S : SS} : ev c 149 116 [l0, l1, l2, l3, l4, l5, l6] L2 (aR (6, j, t) :: St) S = ev c 149 119 [l0, l1, l2, l3, l4, l5, l6] L2 (S.2.2.1 (6, j, t) 3 :: St) S := ev_go i149_116 rfl
theorem i149_119 : insAt 149 119 = some (.iload_n 3, 1, (0, 0, 0, 0), 0) := rfl
theorem s149_119 {c : Nat → List AV → SS → Option Out} {l0 l1 l2 l4 l5 l6 : Option AV} {x : Int32} {L2 : List (Nat × AV)} {St : List AV} {S : SS} : ev c 149 119 [l0, l1, l2, some (aI x), l4, l5, l6] L2 St S = ev c 149 120 [l0, l1, l2, some (aI x), l4, l5, l6] L2 (aI x :: St) S := ev_go i149_119 rfl
theorem i149_120 : insAt 149 120 = some (.iload 4, 2, (0, 0, 0, 0), 0) := rfl
theorem s149_120 {c : Nat → List AV → SS → Option Out} {l0 l1 l2 l3 l5 l6 : Option AV} {x : Int32} {L2 : List (Nat × AV)} {St : List AV} {S : SS} : ev c 149 120 [l0, l1, l2, l3, some (aI x), l5, l6] L2 St S = ev c 149 122 [l0, l1, l2, l3, some (aI x), l5, l6] L2 (aI x :: St) S := ev_go i149_120 rfl
theorem i149_122 : insAt 149 122 = some (.invokestatic 85, 3, (36, 3, 1, 0), 0) := rfl
theorem s149_122 {c : Nat → List AV → SS → Option Out} {l0 l1 l2 l3 l4 l5 l6 : Option AV} {a0 : OId} {a1 : Int32} {a2 : Int32} {L2 : List (Nat × AV)} {S : SS} : ev c 149 122 [l0, l1, l2, l3, l4, l5, l6] L2 [aI a2, aI a1, aR a0] S = ck (c 36 [aR a0, aI a1, aI a2] S) (fun v S' => ev c 149 125 [l0, l1, l2, l3, l4, l5, l6] L2 (v.toList ++ []) S') := ev_call i149_122 rfl
theorem i149_125 : insAt 149 125 = some (.iinc 3 1, 3, (0, 0, 0, 0), 0) := rfl
theorem s149_125 {c : Nat → List AV → SS → Option Out} {l0 l1 l2 l4 l5 l6 : Option AV} {x : Int32} {L2 : List (Nat × AV)} {St : List AV} {S : SS} : ev c 149 125 [l0, l1, l2, some (aI x), l4, l5, l6] L2 St S = ev c 149 128 [l0, l1, l2, some (aI (x + 1)), l4, l5, l6] (kil L2 3) St S := ev_go i149_125 rfl
theorem i149_128 : insAt 149 128 = some (.goto (-124), 3, (0, 0, 0, 0), 0) := rfl
theorem s149_128 {c : Nat → List AV → SS → Option Out} {l0 l1 l2 l3 l4 l5 l6 : Option AV} {L2 : List (Nat × AV)} {St : List AV} {S : SS} : ev c 149 128 [l0, l1, l2, l3, l4, l5, l6] L2 St S = ev c 149 4 [l0, l1, l2, l3, l4, l5, l6] L2 St S := ev_go i149_128 rfl
theorem i149_131 : insAt 149 131 = some (.iload_n 2, 1, (0, 0, 0, 0), 0) := rfl
theorem s149_131 {c : Nat → List AV → SS → Option Out} {l0 l1 l3 l4 l5 l6 : Option AV} {x : Int32} {L2 : List (Nat × AV)} {St : List AV} {S : SS} : ev c 149 131 [l0, l1, some (aI x), l3, l4, l5, l6] L2 St S = ev c 149 132 [l0, l1, some (aI x), l3, l4, l5, l6] L2 (aI x :: St) S := ev_go i149_131 rfl
theorem i149_132 : insAt 149 132 = some (.ireturn, 1, (0, 0, 0, 0), 0) := rfl
theorem s149_132 {c : Nat → List AV → SS → Option Out} {l0 l1 l2 l3 l4 l5 l6 : Option AV} {x : Int32} {L2 : List (Nat × AV)} {St : List AV} {S : SS} : ev c 149 132 [l0, l1, l2, l3, l4, l5, l6] L2 [aI x] S = some (.inl (some (aI x)), S) := ev_end i149_132 rfl
theorem m149 {d : Nat} {o : OId} {a0 : Int32} {S : SS} : evm (d + 1) 149 [aR o, aI a0] S = ev (evm d) 149 0 [some (aR o), some (aI a0), none, none, none, none, none] [] [] S := evm_s (n := 7) rfl (Nat.le_of_ble_eq_true rfl) rfl rfl
/-! FrequencyOffice$Search.serveChange(LFrequencyOffice$Books;II)V -/
theorem i153_0 : insAt 153 0 = some (.aload_n 0, 1, (0, 0, 0, 0), 0) := rfl
theorem s153_0 {c : Nat → List AV → SS → Option Out} {l1 l2 l3 : Option AV} {o : OId} {L2 : List (Nat × AV)} {St : List AV} {S : SS} : ev c 153 0 [some (aR o), l1, l2, l3] L2 St S = ev c 153 1 [some (aR o), l1, l2, l3] L2 (aR o :: St) S := ev_go i153_0 rfl
theorem i153_1 : insAt 153 1 = some (.getfield 36, 3, (8, 0, 0, 0), 0) := rfl
theorem s153_1 {c : Nat → List AV → SS → Option Out} {l0 l1 l2 l3 : Option AV} {j t : Nat} {L2 : List (Nat × AV)} {St : List AV} {S : SS} : ev c 153 1 [l0, l1, l2, l3] L2 (aR (8, j, t) :: St) S = ev c 153 4 [l0, l1, l2, l3] L2 (S.2.2.1 (8, j, t) 0 :: St) S := ev_go i153_1 rfl
theorem i153_4 : insAt 153 4 = some (.aload_n 1, 1, (0, 0, 0, 0), 0) := rfl
theorem s153_4 {c : Nat → List AV → SS → Option Out} {l0 l2 l3 : Option AV} {o : OId} {L2 : List (Nat × AV)} {St : List AV} {S : SS} : ev c 153 4 [l0, some (aR o), l2, l3] L2 St S = ev c 153 5 [l0, some (aR o), l2, l3] L2 (aR o :: St) S := ev_go i153_4 rfl
theorem i153_5 : insAt 153 5 = some (.iload_n 2, 1, (0, 0, 0, 0), 0) := rfl
theorem s153_5 {c : Nat → List AV → SS → Option Out} {l0 l1 l3 : Option AV} {x : Int32} {L2 : List (Nat × AV)} {St : List AV} {S : SS} : ev c 153 5 [l0, l1, some (aI x), l3] L2 St S = ev c 153 6 [l0, l1, some (aI x), l3] L2 (aI x :: St) S := ev_go i153_5 rfl
theorem i153_6 : insAt 153 6 = some (.invokevirtual 40, 3, (34, 2, 3, 6), 0) := rfl
theorem s153_6 {c : Nat → List AV → SS → Option Out} {l0 l1 l2 l3 : Option AV} {a0 : OId} {a1 : Int32} {j t : Nat} {L2 : List (Nat × AV)} {S : SS} : ev c 153 6 [l0, l1, l2, l3] L2 [aI a1, aR a0, aR (6, j, t)] S = ck (c 34 [aR (6, j, t), aR a0, aI a1] S) (fun v S' => ev c 153 9 [l0, l1, l2, l3] L2 (v.toList ++ []) S') := ev_call i153_6 rfl
theorem i153_9 : insAt 153 9 = some (.aload_n 0, 1, (0, 0, 0, 0), 0) := rfl
theorem s153_9 {c : Nat → List AV → SS → Option Out} {l1 l2 l3 : Option AV} {o : OId} {L2 : List (Nat × AV)} {St : List AV} {S : SS} : ev c 153 9 [some (aR o), l1, l2, l3] L2 St S = ev c 153 10 [some (aR o), l1, l2, l3] L2 (aR o :: St) S := ev_go i153_9 rfl
theorem i153_10 : insAt 153 10 = some (.aload_n 1, 1, (0, 0, 0, 0), 0) := rfl
theorem s153_10 {c : Nat → List AV → SS → Option Out} {l0 l2 l3 : Option AV} {o : OId} {L2 : List (Nat × AV)} {St : List AV} {S : SS} : ev c 153 10 [l0, some (aR o), l2, l3] L2 St S = ev c 153 11 [l0, some (aR o), l2, l3] L2 (aR o :: St) S := ev_go i153_10 rfl
theorem i153_11 : insAt 153 11 = some (.iload_n 2, 1, (0, 0, 0, 0), 0) := rfl
theorem s153_11 {c : Nat → List AV → SS → Option Out} {l0 l1 l3 : Option AV} {x : Int32} {L2 : List (Nat × AV)} {St : List AV} {S : SS} : ev c 153 11 [l0, l1, some (aI x), l3] L2 St S = ev c 153 12 [l0, l1, some (aI x), l3] L2 (aI x :: St) S := ev_go i153_11 rfl
theorem i153_12 : insAt 153 12 = some (.invokevirtual 79, 3, (154, 2, 2, 8), 0) := rfl
theorem s153_12 {c : Nat → List AV → SS → Option Out} {l0 l1 l2 l3 : Option AV} {a0 : OId} {a1 : Int32} {j t : Nat} {L2 : List (Nat × AV)} {S : SS} : ev c 153 12 [l0, l1, l2, l3] L2 [aI a1, aR a0, aR (8, j, t)] S = ck (c 154 [aR (8, j, t), aR a0, aI a1] S) (fun v S' => ev c 153 15 [l0, l1, l2, l3] L2 (v.toList ++ []) S') := ev_call i153_12 rfl
theorem i153_15 : insAt 153 15 = some (.aload_n 0, 1, (0, 0, 0, 0), 0) := rfl
theorem s153_15 {c : Nat → List AV → SS → Option Out} {l1 l2 l3 : Option AV} {o : OId} {L2 : List (Nat × AV)} {St : List AV} {S : SS} : ev c 153 15 [some (aR o), l1, l2, l3] L2 St S = ev c 153 16 [some (aR o), l1, l2, l3] L2 (aR o :: St) S := ev_go i153_15 rfl
theorem i153_16 : insAt 153 16 = some (.iconst 1, 1, (0, 0, 0, 0), 0) := rfl
theorem s153_16 {c : Nat → List AV → SS → Option Out} {l0 l1 l2 l3 : Option AV} {L2 : List (Nat × AV)} {St : List AV} {S : SS} : ev c 153 16 [l0, l1, l2, l3] L2 St S = ev c 153 17 [l0, l1, l2, l3] L2 (aI 1 :: St) S := ev_go i153_16 rfl
theorem i153_17 : insAt 153 17 = some (.iload_n 3, 1, (0, 0, 0, 0), 0) := rfl
theorem s153_17 {c : Nat → List AV → SS → Option Out} {l0 l1 l2 : Option AV} {x : Int32} {L2 : List (Nat × AV)} {St : List AV} {S : SS} : ev c 153 17 [l0, l1, l2, some (aI x)] L2 St S = ev c 153 18 [l0, l1, l2, some (aI x)] L2 (aI x :: St) S := ev_go i153_17 rfl
theorem i153_18 : insAt 153 18 = some (.ishl, 1, (0, 0, 0, 0), 0) := rfl
theorem s153_18 {c : Nat → List AV → SS → Option Out} {l0 l1 l2 l3 : Option AV} {x y : Int32} {L2 : List (Nat × AV)} {St : List AV} {S : SS} : ev c 153 18 [l0, l1, l2, l3] L2 (aI y :: aI x :: St) S = ev c 153 19 [l0, l1, l2, l3] L2 (aI (x <<< (y &&& 31)) :: St) S := ev_go i153_18 rfl
theorem i153_19 : insAt 153 19 = some (.putfield 29, 3, (8, 5, 0, 0), 0) := rfl
theorem s153_19 {c : Nat → List AV → SS → Option Out} {l0 l1 l2 l3 : Option AV} {j t : Nat} {x : Int32} {L2 : List (Nat × AV)} {St : List AV} {S : SS} : ev c 153 19 [l0, l1, l2, l3] L2 (aI x :: aR (8, j, t) :: St) S = ev c 153 22 [l0, l1, l2, l3] L2 St (setI S.1 (8, j, t) 5 x, S.2) := ev_go i153_19 rfl
theorem i153_22 : insAt 153 22 = some (.return_, 1, (0, 0, 0, 0), 0) := rfl
theorem s153_22 {c : Nat → List AV → SS → Option Out} {l0 l1 l2 l3 : Option AV} {L2 : List (Nat × AV)} {St : List AV} {S : SS} : ev c 153 22 [l0, l1, l2, l3] L2 [] S = some (.inl none, S) := ev_end i153_22 rfl
theorem m153 {d : Nat} {o : OId} {a0 : OId} {a1 : Int32} {a2 : Int32} {S : SS} : evm (d + 1) 153 [aR o, aR a0, aI a1, aI a2] S = ev (evm d) 153 0 [some (aR o), some (aR a0), some (aI a1), some (aI a2)] [] [] S := evm_s (n := 4) rfl (Nat.le_of_ble_eq_true rfl) rfl rfl
/-! FrequencyOffice$Search.serveLicensed(LFrequencyOffice$Books;I)V -/
theorem i154_0 : insAt 154 0 = some (.aload_n 0, 1, (0, 0, 0, 0), 0) := rfl
theorem s154_0 {c : Nat → List AV → SS → Option Out} {l1 l2 l3 l4 l5 : Option AV} {o : OId} {L2 : List (Nat × AV)} {St : List AV} {S : SS} : ev c 154 0 [some (aR o), l1, l2, l3, l4, l5] L2 St S = ev c 154 1 [some (aR o), l1, l2, l3, l4, l5] L2 (aR o :: St) S := ev_go i154_0 rfl
theorem i154_1 : insAt 154 1 = some (.sipush 255, 3, (0, 0, 0, 0), 0) := rfl
theorem s154_1 {c : Nat → List AV → SS → Option Out} {l0 l1 l2 l3 l4 l5 : Option AV} {L2 : List (Nat × AV)} {St : List AV} {S : SS} : ev c 154 1 [l0, l1, l2, l3, l4, l5] L2 St S = ev c 154 4 [l0, l1, l2, l3, l4, l5] L2 (aI 255 :: St) S := ev_go i154_1 rfl
theorem i154_4 : insAt 154 4 = some (.putfield 29, 3, (8, 5, 0, 0), 0) := rfl
theorem s154_4 {c : Nat → List AV → SS → Option Out} {l0 l1 l2 l3 l4 l5 : Option AV} {j t : Nat} {x : Int32} {L2 : List (Nat × AV)} {St : List AV} {S : SS} : ev c 154 4 [l0, l1, l2, l3, l4, l5] L2 (aI x :: aR (8, j, t) :: St) S = ev c 154 7 [l0, l1, l2, l3, l4, l5] L2 St (setI S.1 (8, j, t) 5 x, S.2) := ev_go i154_4 rfl
theorem i154_7 : insAt 154 7 = some (.aload_n 0, 1, (0, 0, 0, 0), 0) := rfl
theorem s154_7 {c : Nat → List AV → SS → Option Out} {l1 l2 l3 l4 l5 : Option AV} {o : OId} {L2 : List (Nat × AV)} {St : List AV} {S : SS} : ev c 154 7 [some (aR o), l1, l2, l3, l4, l5] L2 St S = ev c 154 8 [some (aR o), l1, l2, l3, l4, l5] L2 (aR o :: St) S := ev_go i154_7 rfl
theorem i154_8 : insAt 154 8 = some (.iconst (-1), 1, (0, 0, 0, 0), 0) := rfl
theorem s154_8 {c : Nat → List AV → SS → Option Out} {l0 l1 l2 l3 l4 l5 : Option AV} {L2 : List (Nat × AV)} {St : List AV} {S : SS} : ev c 154 8 [l0, l1, l2, l3, l4, l5] L2 St S = ev c 154 9 [l0, l1, l2, l3, l4, l5] L2 (aI (-1) :: St) S := ev_go i154_8 rfl
theorem i154_9 : insAt 154 9 = some (.putfield 33, 3, (8, 6, 0, 0), 0) := rfl
theorem s154_9 {c : Nat → List AV → SS → Option Out} {l0 l1 l2 l3 l4 l5 : Option AV} {j t : Nat} {x : Int32} {L2 : List (Nat × AV)} {St : List AV} {S : SS} : ev c 154 9 [l0, l1, l2, l3, l4, l5] L2 (aI x :: aR (8, j, t) :: St) S = ev c 154 12 [l0, l1, l2, l3, l4, l5] L2 St (setI S.1 (8, j, t) 6 x, S.2) := ev_go i154_9 rfl
theorem i154_12 : insAt 154 12 = some (.iconst 0, 1, (0, 0, 0, 0), 0) := rfl
theorem s154_12 {c : Nat → List AV → SS → Option Out} {l0 l1 l2 l3 l4 l5 : Option AV} {L2 : List (Nat × AV)} {St : List AV} {S : SS} : ev c 154 12 [l0, l1, l2, l3, l4, l5] L2 St S = ev c 154 13 [l0, l1, l2, l3, l4, l5] L2 (aI 0 :: St) S := ev_go i154_12 rfl
theorem i154_13 : insAt 154 13 = some (.istore_n 3, 1, (0, 0, 0, 0), 0) := rfl
theorem s154_13 {c : Nat → List AV → SS → Option Out} {l0 l1 l2 l3 l4 l5 : Option AV} {x : Int32} {L2 : List (Nat × AV)} {St : List AV} {S : SS} : ev c 154 13 [l0, l1, l2, l3, l4, l5] L2 (aI x :: St) S = ev c 154 14 [l0, l1, l2, some (aI x), l4, l5] (kil L2 3) St S := ev_go i154_13 rfl
theorem i154_14 : insAt 154 14 = some (.iload_n 3, 1, (0, 0, 0, 0), 0) := rfl
theorem s154_14 {c : Nat → List AV → SS → Option Out} {l0 l1 l2 l4 l5 : Option AV} {x : Int32} {L2 : List (Nat × AV)} {St : List AV} {S : SS} : ev c 154 14 [l0, l1, l2, some (aI x), l4, l5] L2 St S = ev c 154 15 [l0, l1, l2, some (aI x), l4, l5] L2 (aI x :: St) S := ev_go i154_14 rfl
theorem i154_15 : insAt 154 15 = some (.aload_n 0, 1, (0, 0, 0, 0), 0) := rfl
theorem s154_15 {c : Nat → List AV → SS → Option Out} {l1 l2 l3 l4 l5 : Option AV} {o : OId} {L2 : List (Nat × AV)} {St : List AV} {S : SS} : ev c 154 15 [some (aR o), l1, l2, l3, l4, l5] L2 St S = ev c 154 16 [some (aR o), l1, l2, l3, l4, l5] L2 (aR o :: St) S := ev_go i154_15 rfl
theorem i154_16 : insAt 154 16 = some (.getfield 36, 3, (8, 0, 0, 0), 0) := rfl
theorem s154_16 {c : Nat → List AV → SS → Option Out} {l0 l1 l2 l3 l4 l5 : Option AV} {j t : Nat} {L2 : List (Nat × AV)} {St : List AV} {S : SS} : ev c 154 16 [l0, l1, l2, l3, l4, l5] L2 (aR (8, j, t) :: St) S = ev c 154 19 [l0, l1, l2, l3, l4, l5] L2 (S.2.2.1 (8, j, t) 0 :: St) S := ev_go i154_16 rfl
theorem i154_19 : insAt 154 19 = some (.getfield 46, 3, (6, 0, 1, 0), 0) := rfl
theorem s154_19 {c : Nat → List AV → SS → Option Out} {l0 l1 l2 l3 l4 l5 : Option AV} {j t : Nat} {L2 : List (Nat × AV)} {St : List AV} {S : SS} : ev c 154 19 [l0, l1, l2, l3, l4, l5] L2 (aR (6, j, t) :: St) S = ev c 154 22 [l0, l1, l2, l3, l4, l5] L2 (aI (S.1 (6, j, t) 0) :: St) S := ev_go i154_19 rfl
theorem i154_22 : insAt 154 22 = some (.if_icmp .ge 62, 3, (0, 0, 0, 0), 0) := rfl
theorem s154_22 {c : Nat → List AV → SS → Option Out} {l0 l1 l2 l3 l4 l5 : Option AV} {x y : Int32} {L2 : List (Nat × AV)} {St : List AV} {S : SS} : ev c 154 22 [l0, l1, l2, l3, l4, l5] L2 (aI y :: aI x :: St) S = if y ≤ x then ev c 154 84 [l0, l1, l2, l3, l4, l5] L2 St S else ev c 154 25 [l0, l1, l2, l3, l4, l5] L2 St S := ev_br i154_22 rfl
theorem i154_25 : insAt 154 25 = some (.aload_n 0, 1, (0, 0, 0, 0), 0) := rfl
theorem s154_25 {c : Nat → List AV → SS → Option Out} {l1 l2 l3 l4 l5 : Option AV} {o : OId} {L2 : List (Nat × AV)} {St : List AV} {S : SS} : ev c 154 25 [some (aR o), l1, l2, l3, l4, l5] L2 St S = ev c 154 26 [some (aR o), l1, l2, l3, l4, l5] L2 (aR o :: St) S := ev_go i154_25 rfl
theorem i154_26 : insAt 154 26 = some (.getfield 36, 3, (8, 0, 0, 0), 0) := rfl
theorem s154_26 {c : Nat → List AV → SS → Option Out} {l0 l1 l2 l3 l4 l5 : Option AV} {j t : Nat} {L2 : List (Nat × AV)} {St : List AV} {S : SS} : ev c 154 26 [l0, l1, l2, l3, l4, l5] L2 (aR (8, j, t) :: St) S = ev c 154 29 [l0, l1, l2, l3, l4, l5] L2 (S.2.2.1 (8, j, t) 0 :: St) S := ev_go i154_26 rfl
theorem i154_29 : insAt 154 29 = some (.getfield 49, 3, (6, 1, 1, 0), 0) := rfl
theorem s154_29 {c : Nat → List AV → SS → Option Out} {l0 l1 l2 l3 l4 l5 : Option AV} {j t : Nat} {L2 : List (Nat × AV)} {St : List AV} {S : SS} : ev c 154 29 [l0, l1, l2, l3, l4, l5] L2 (aR (6, j, t) :: St) S = ev c 154 32 [l0, l1, l2, l3, l4, l5] L2 (S.2.2.1 (6, j, t) 1 :: St) S := ev_go i154_29 rfl
theorem i154_32 : insAt 154 32 = some (.iload_n 3, 1, (0, 0, 0, 0), 0) := rfl
theorem s154_32 {c : Nat → List AV → SS → Option Out} {l0 l1 l2 l4 l5 : Option AV} {x : Int32} {L2 : List (Nat × AV)} {St : List AV} {S : SS} : ev c 154 32 [l0, l1, l2, some (aI x), l4, l5] L2 St S = ev c 154 33 [l0, l1, l2, some (aI x), l4, l5] L2 (aI x :: St) S := ev_go i154_32 rfl
theorem i154_33 : insAt 154 33 = some (.invokestatic 52, 3, (32, 2, 1, 0), 0) := rfl
theorem s154_33 {c : Nat → List AV → SS → Option Out} {l0 l1 l2 l3 l4 l5 : Option AV} {a0 : OId} {a1 : Int32} {L2 : List (Nat × AV)} {S : SS} : ev c 154 33 [l0, l1, l2, l3, l4, l5] L2 [aI a1, aR a0] S = ck (c 32 [aR a0, aI a1] S) (fun v S' => ev c 154 36 [l0, l1, l2, l3, l4, l5] L2 (v.toList ++ []) S') := ev_call i154_33 rfl
theorem i154_36 : insAt 154 36 = some (.istore 4, 2, (0, 0, 0, 0), 0) := rfl
theorem s154_36 {c : Nat → List AV → SS → Option Out} {l0 l1 l2 l3 l4 l5 : Option AV} {x : Int32} {L2 : List (Nat × AV)} {St : List AV} {S : SS} : ev c 154 36 [l0, l1, l2, l3, l4, l5] L2 (aI x :: St) S = ev c 154 38 [l0, l1, l2, l3, some (aI x), l5] (kil L2 4) St S := ev_go i154_36 rfl
theorem i154_38 : insAt 154 38 = some (.aload_n 1, 1, (0, 0, 0, 0), 0) := rfl
theorem s154_38 {c : Nat → List AV → SS → Option Out} {l0 l2 l3 l4 l5 : Option AV} {o : OId} {L2 : List (Nat × AV)} {St : List AV} {S : SS} : ev c 154 38 [l0, some (aR o), l2, l3, l4, l5] L2 St S = ev c 154 39 [l0, some (aR o), l2, l3, l4, l5] L2 (aR o :: St) S := ev_go i154_38 rfl
theorem i154_39 : insAt 154 39 = some (.iload 4, 2, (0, 0, 0, 0), 0) := rfl
theorem s154_39 {c : Nat → List AV → SS → Option Out} {l0 l1 l2 l3 l5 : Option AV} {x : Int32} {L2 : List (Nat × AV)} {St : List AV} {S : SS} : ev c 154 39 [l0, l1, l2, l3, some (aI x), l5] L2 St S = ev c 154 41 [l0, l1, l2, l3, some (aI x), l5] L2 (aI x :: St) S := ev_go i154_39 rfl
theorem i154_41 : insAt 154 41 = some (.iload_n 2, 1, (0, 0, 0, 0), 0) := rfl
theorem s154_41 {c : Nat → List AV → SS → Option Out} {l0 l1 l3 l4 l5 : Option AV} {x : Int32} {L2 : List (Nat × AV)} {St : List AV} {S : SS} : ev c 154 41 [l0, l1, some (aI x), l3, l4, l5] L2 St S = ev c 154 42 [l0, l1, some (aI x), l3, l4, l5] L2 (aI x :: St) S := ev_go i154_41 rfl
theorem i154_42 : insAt 154 42 = some (.invokevirtual 89, 3, (122, 2, 3, 4), 0) := rfl
theorem s154_42 {c : Nat → List AV → SS → Option Out} {l0 l1 l2 l3 l4 l5 : Option AV} {a0 : Int32} {a1 : Int32} {j t : Nat} {L2 : List (Nat × AV)} {S : SS} : ev c 154 42 [l0, l1, l2, l3, l4, l5] L2 [aI a1, aI a0, aR (4, j, t)] S = ck (c 122 [aR (4, j, t), aI a0, aI a1] S) (fun v S' => ev c 154 45 [l0, l1, l2, l3, l4, l5] L2 (v.toList ++ []) S') := ev_call i154_42 rfl
theorem i154_45 : insAt 154 45 = some (.aload_n 1, 1, (0, 0, 0, 0), 0) := rfl
theorem s154_45 {c : Nat → List AV → SS → Option Out} {l0 l2 l3 l4 l5 : Option AV} {o : OId} {L2 : List (Nat × AV)} {St : List AV} {S : SS} : ev c 154 45 [l0, some (aR o), l2, l3, l4, l5] L2 St S = ev c 154 46 [l0, some (aR o), l2, l3, l4, l5] L2 (aR o :: St) S := ev_go i154_45 rfl
theorem i154_46 : insAt 154 46 = some (.getfield 72, 3, (4, 2, 1, 0), 0) := rfl
theorem s154_46 {c : Nat → List AV → SS → Option Out} {l0 l1 l2 l3 l4 l5 : Option AV} {j t : Nat} {L2 : List (Nat × AV)} {St : List AV} {S : SS} : ev c 154 46 [l0, l1, l2, l3, l4, l5] L2 (aR (4, j, t) :: St) S = ev c 154 49 [l0, l1, l2, l3, l4, l5] L2 (aI (S.1 (4, j, t) 2) :: St) S := ev_go i154_46 rfl
theorem i154_49 : insAt 154 49 = some (.aload_n 1, 1, (0, 0, 0, 0), 0) := rfl
theorem s154_49 {c : Nat → List AV → SS → Option Out} {l0 l2 l3 l4 l5 : Option AV} {o : OId} {L2 : List (Nat × AV)} {St : List AV} {S : SS} : ev c 154 49 [l0, some (aR o), l2, l3, l4, l5] L2 St S = ev c 154 50 [l0, some (aR o), l2, l3, l4, l5] L2 (aR o :: St) S := ev_go i154_49 rfl
theorem i154_50 : insAt 154 50 = some (.getfield 72, 3, (4, 2, 1, 0), 0) := rfl
theorem s154_50 {c : Nat → List AV → SS → Option Out} {l0 l1 l2 l3 l4 l5 : Option AV} {j t : Nat} {L2 : List (Nat × AV)} {St : List AV} {S : SS} : ev c 154 50 [l0, l1, l2, l3, l4, l5] L2 (aR (4, j, t) :: St) S = ev c 154 53 [l0, l1, l2, l3, l4, l5] L2 (aI (S.1 (4, j, t) 2) :: St) S := ev_go i154_50 rfl
theorem i154_53 : insAt 154 53 = some (.imul, 1, (0, 0, 0, 0), 0) := rfl
theorem s154_53 {c : Nat → List AV → SS → Option Out} {l0 l1 l2 l3 l4 l5 : Option AV} {x y : Int32} {L2 : List (Nat × AV)} {St : List AV} {S : SS} : ev c 154 53 [l0, l1, l2, l3, l4, l5] L2 (aI y :: aI x :: St) S = ev c 154 54 [l0, l1, l2, l3, l4, l5] L2 (aI (x * y) :: St) S := ev_go i154_53 rfl
theorem i154_54 : insAt 154 54 = some (.if_icmp .ge 7, 3, (0, 0, 0, 0), 0) := rfl
theorem s154_54 {c : Nat → List AV → SS → Option Out} {l0 l1 l2 l3 l4 l5 : Option AV} {x y : Int32} {L2 : List (Nat × AV)} {St : List AV} {S : SS} : ev c 154 54 [l0, l1, l2, l3, l4, l5] L2 (aI y :: aI x :: St) S = if y ≤ x then ev c 154 61 [l0, l1, l2, l3, l4, l5] L2 St S else ev c 154 57 [l0, l1, l2, l3, l4, l5] L2 St S := ev_br i154_54 rfl
theorem i154_57 : insAt 154 57 = some (.iconst 1, 1, (0, 0, 0, 0), 0) := rfl
theorem s154_57 {c : Nat → List AV → SS → Option Out} {l0 l1 l2 l3 l4 l5 : Option AV} {L2 : List (Nat × AV)} {St : List AV} {S : SS} : ev c 154 57 [l0, l1, l2, l3, l4, l5] L2 St S = ev c 154 58 [l0, l1, l2, l3, l4, l5] L2 (aI 1 :: St) S := ev_go i154_57 rfl
theorem i154_58 : insAt 154 58 = some (.goto 4, 3, (0, 0, 0, 0), 0) := rfl
theorem s154_58 {c : Nat → List AV → SS → Option Out} {l0 l1 l2 l3 l4 l5 : Option AV} {L2 : List (Nat × AV)} {St : List AV} {S : SS} : ev c 154 58 [l0, l1, l2, l3, l4, l5] L2 St S = ev c 154 62 [l0, l1, l2, l3, l4, l5] L2 St S := ev_go i154_58 rfl
theorem i154_61 : insAt 154 61 = some (.iconst 0, 1, (0, 0, 0, 0), 0) := rfl
theorem s154_61 {c : Nat → List AV → SS → Option Out} {l0 l1 l2 l3 l4 l5 : Option AV} {L2 : List (Nat × AV)} {St : List AV} {S : SS} : ev c 154 61 [l0, l1, l2, l3, l4, l5] L2 St S = ev c 154 62 [l0, l1, l2, l3, l4, l5] L2 (aI 0 :: St) S := ev_go i154_61 rfl
theorem i154_62 : insAt 154 62 = some (.istore 5, 2, (0, 0, 0, 0), 0) := rfl
theorem s154_62 {c : Nat → List AV → SS → Option Out} {l0 l1 l2 l3 l4 l5 : Option AV} {x : Int32} {L2 : List (Nat × AV)} {St : List AV} {S : SS} : ev c 154 62 [l0, l1, l2, l3, l4, l5] L2 (aI x :: St) S = ev c 154 64 [l0, l1, l2, l3, l4, some (aI x)] (kil L2 5) St S := ev_go i154_62 rfl
theorem i154_64 : insAt 154 64 = some (.aload_n 0, 1, (0, 0, 0, 0), 0) := rfl
theorem s154_64 {c : Nat → List AV → SS → Option Out} {l1 l2 l3 l4 l5 : Option AV} {o : OId} {L2 : List (Nat × AV)} {St : List AV} {S : SS} : ev c 154 64 [some (aR o), l1, l2, l3, l4, l5] L2 St S = ev c 154 65 [some (aR o), l1, l2, l3, l4, l5] L2 (aR o :: St) S := ev_go i154_64 rfl
theorem i154_65 : insAt 154 65 = some (.iload_n 3, 1, (0, 0, 0, 0), 0) := rfl
theorem s154_65 {c : Nat → List AV → SS → Option Out} {l0 l1 l2 l4 l5 : Option AV} {x : Int32} {L2 : List (Nat × AV)} {St : List AV} {S : SS} : ev c 154 65 [l0, l1, l2, some (aI x), l4, l5] L2 St S = ev c 154 66 [l0, l1, l2, some (aI x), l4, l5] L2 (aI x :: St) S := ev_go i154_65 rfl
theorem i154_66 : insAt 154 66 = some (.aload_n 1, 1, (0, 0, 0, 0), 0) := rfl
theorem s154_66 {c : Nat → List AV → SS → Option Out} {l0 l2 l3 l4 l5 : Option AV} {o : OId} {L2 : List (Nat × AV)} {St : List AV} {S : SS} : ev c 154 66 [l0, some (aR o), l2, l3, l4, l5] L2 St S = ev c 154 67 [l0, some (aR o), l2, l3, l4, l5] L2 (aR o :: St) S := ev_go i154_66 rfl
theorem i154_67 : insAt 154 67 = some (.iload 4, 2, (0, 0, 0, 0), 0) := rfl
theorem s154_67 {c : Nat → List AV → SS → Option Out} {l0 l1 l2 l3 l5 : Option AV} {x : Int32} {L2 : List (Nat × AV)} {St : List AV} {S : SS} : ev c 154 67 [l0, l1, l2, l3, some (aI x), l5] L2 St S = ev c 154 69 [l0, l1, l2, l3, some (aI x), l5] L2 (aI x :: St) S := ev_go i154_67 rfl
theorem i154_69 : insAt 154 69 = some (.iload_n 2, 1, (0, 0, 0, 0), 0) := rfl
theorem s154_69 {c : Nat → List AV → SS → Option Out} {l0 l1 l3 l4 l5 : Option AV} {x : Int32} {L2 : List (Nat × AV)} {St : List AV} {S : SS} : ev c 154 69 [l0, l1, some (aI x), l3, l4, l5] L2 St S = ev c 154 70 [l0, l1, some (aI x), l3, l4, l5] L2 (aI x :: St) S := ev_go i154_69 rfl
theorem i154_70 : insAt 154 70 = some (.invokevirtual 92, 3, (26, 2, 3, 4), 0) := rfl
theorem s154_70 {c : Nat → List AV → SS → Option Out} {l0 l1 l2 l3 l4 l5 : Option AV} {t0 t1 : AV} {a0 : Int32} {a1 : Int32} {j t : Nat} {L2 : List (Nat × AV)} {S : SS} : ev c 154 70 [l0, l1, l2, l3, l4, l5] L2 [aI a1, aI a0, aR (4, j, t), t0, t1] S = ck (c 26 [aR (4, j, t), aI a0, aI a1] S) (fun v S' => ev c 154 73 [l0, l1, l2, l3, l4, l5] L2 (v.toList ++ [t0, t1]) S') := ev_call i154_70 rfl
theorem i154_73 : insAt 154 73 = some (.iload 5, 2, (0, 0, 0, 0), 0) := rfl
theorem s154_73 {c : Nat → List AV → SS → Option Out} {l0 l1 l2 l3 l4 : Option AV} {x : Int32} {L2 : List (Nat × AV)} {St : List AV} {S : SS} : ev c 154 73 [l0, l1, l2, l3, l4, some (aI x)] L2 St S = ev c 154 75 [l0, l1, l2, l3, l4, some (aI x)] L2 (aI x :: St) S := ev_go i154_73 rfl
theorem i154_75 : insAt 154 75 = some (.invokevirtual 75, 3, (69, 3, 2, 8), 0) := rfl
theorem s154_75 {c : Nat → List AV → SS → Option Out} {l0 l1 l2 l3 l4 l5 : Option AV} {a0 : Int32} {a1 : Int32} {a2 : Int32} {j t : Nat} {L2 : List (Nat × AV)} {S : SS} : ev c 154 75 [l0, l1, l2, l3, l4, l5] L2 [aI a2, aI a1, aI a0, aR (8, j, t)] S = ck (c 69 [aR (8, j, t), aI a0, aI a1, aI a2] S) (fun v S' => ev c 154 78 [l0, l1, l2, l3, l4, l5] L2 (v.toList ++ []) S') := ev_call i154_75 rfl
theorem i154_78 : insAt 154 78 = some (.iinc 3 1, 3, (0, 0, 0, 0), 0) := rfl
theorem s154_78 {c : Nat → List AV → SS → Option Out} {l0 l1 l2 l4 l5 : Option AV} {x : Int32} {L2 : List (Nat × AV)} {St : List AV} {S : SS} : ev c 154 78 [l0, l1, l2, some (aI x), l4, l5] L2 St S = ev c 154 81 [l0, l1, l2, some (aI (x + 1)), l4, l5] (kil L2 3) St S := ev_go i154_78 rfl
theorem i154_81 : insAt 154 81 = some (.goto (-67), 3, (0, 0, 0, 0), 0) := rfl
theorem s154_81 {c : Nat → List AV → SS → Option Out} {l0 l1 l2 l3 l4 l5 : Option AV} {L2 : List (Nat × AV)} {St : List AV} {S : SS} : ev c 154 81 [l0, l1, l2, l3, l4, l5] L2 St S = ev c 154 14 [l0, l1, l2, l3, l4, l5] L2 St S := ev_go i154_81 rfl
theorem i154_84 : insAt 154 84 = some (.return_, 1, (0, 0, 0, 0), 0) := rfl
theorem s154_84 {c : Nat → List AV → SS → Option Out} {l0 l1 l2 l3 l4 l5 : Option AV} {L2 : List (Nat × AV)} {St : List AV} {S : SS} : ev c 154 84 [l0, l1, l2, l3, l4, l5] L2 [] S = some (.inl none, S) := ev_end i154_84 rfl
theorem m154 {d : Nat} {o : OId} {a0 : OId} {a1 : Int32} {S : SS} : evm (d + 1) 154 [aR o, aR a0, aI a1] S = ev (evm d) 154 0 [some (aR o), some (aR a0), some (aI a1), none, none, none] [] [] S := evm_s (n := 6) rfl (Nat.le_of_ble_eq_true rfl) rfl rfl
/-! FrequencyOffice$Books.addComplaint(II)V -/
theorem i162_0 : insAt 162 0 = some (.aload_n 0, 1, (0, 0, 0, 0), 0) := rfl
theorem s162_0 {c : Nat → List AV → SS → Option Out} {l1 l2 l3 : Option AV} {o : OId} {L2 : List (Nat × AV)} {St : List AV} {S : SS} : ev c 162 0 [some (aR o), l1, l2, l3] L2 St S = ev c 162 1 [some (aR o), l1, l2, l3] L2 (aR o :: St) S := ev_go i162_0 rfl
theorem i162_1 : insAt 162 1 = some (.iload_n 1, 1, (0, 0, 0, 0), 0) := rfl
theorem s162_1 {c : Nat → List AV → SS → Option Out} {l0 l2 l3 : Option AV} {x : Int32} {L2 : List (Nat × AV)} {St : List AV} {S : SS} : ev c 162 1 [l0, some (aI x), l2, l3] L2 St S = ev c 162 2 [l0, some (aI x), l2, l3] L2 (aI x :: St) S := ev_go i162_1 rfl
theorem i162_2 : insAt 162 2 = some (.iload_n 2, 1, (0, 0, 0, 0), 0) := rfl
theorem s162_2 {c : Nat → List AV → SS → Option Out} {l0 l1 l3 : Option AV} {x : Int32} {L2 : List (Nat × AV)} {St : List AV} {S : SS} : ev c 162 2 [l0, l1, some (aI x), l3] L2 St S = ev c 162 3 [l0, l1, some (aI x), l3] L2 (aI x :: St) S := ev_go i162_2 rfl
theorem i162_3 : insAt 162 3 = some (.invokevirtual 95, 3, (30, 2, 2, 4), 0) := rfl
theorem s162_3 {c : Nat → List AV → SS → Option Out} {l0 l1 l2 l3 : Option AV} {a0 : Int32} {a1 : Int32} {j t : Nat} {L2 : List (Nat × AV)} {S : SS} : ev c 162 3 [l0, l1, l2, l3] L2 [aI a1, aI a0, aR (4, j, t)] S = ck (c 30 [aR (4, j, t), aI a0, aI a1] S) (fun v S' => ev c 162 6 [l0, l1, l2, l3] L2 (v.toList ++ []) S') := ev_call i162_3 rfl
theorem i162_6 : insAt 162 6 = some (.iconst 1, 1, (0, 0, 0, 0), 0) := rfl
theorem s162_6 {c : Nat → List AV → SS → Option Out} {l0 l1 l2 l3 : Option AV} {L2 : List (Nat × AV)} {St : List AV} {S : SS} : ev c 162 6 [l0, l1, l2, l3] L2 St S = ev c 162 7 [l0, l1, l2, l3] L2 (aI 1 :: St) S := ev_go i162_6 rfl
theorem i162_7 : insAt 162 7 = some (.iadd, 1, (0, 0, 0, 0), 0) := rfl
theorem s162_7 {c : Nat → List AV → SS → Option Out} {l0 l1 l2 l3 : Option AV} {x y : Int32} {L2 : List (Nat × AV)} {St : List AV} {S : SS} : ev c 162 7 [l0, l1, l2, l3] L2 (aI y :: aI x :: St) S = ev c 162 8 [l0, l1, l2, l3] L2 (aI (x + y) :: St) S := ev_go i162_7 rfl
theorem i162_8 : insAt 162 8 = some (.istore_n 3, 1, (0, 0, 0, 0), 0) := rfl
theorem s162_8 {c : Nat → List AV → SS → Option Out} {l0 l1 l2 l3 : Option AV} {x : Int32} {L2 : List (Nat × AV)} {St : List AV} {S : SS} : ev c 162 8 [l0, l1, l2, l3] L2 (aI x :: St) S = ev c 162 9 [l0, l1, l2, some (aI x)] (kil L2 3) St S := ev_go i162_8 rfl
theorem i162_9 : insAt 162 9 = some (.aload_n 0, 1, (0, 0, 0, 0), 0) := rfl
theorem s162_9 {c : Nat → List AV → SS → Option Out} {l1 l2 l3 : Option AV} {o : OId} {L2 : List (Nat × AV)} {St : List AV} {S : SS} : ev c 162 9 [some (aR o), l1, l2, l3] L2 St S = ev c 162 10 [some (aR o), l1, l2, l3] L2 (aR o :: St) S := ev_go i162_9 rfl
theorem i162_10 : insAt 162 10 = some (.getfield 47, 3, (4, 10, 0, 0), 0) := rfl
theorem s162_10 {c : Nat → List AV → SS → Option Out} {l0 l1 l2 l3 : Option AV} {j t : Nat} {L2 : List (Nat × AV)} {St : List AV} {S : SS} : ev c 162 10 [l0, l1, l2, l3] L2 (aR (4, j, t) :: St) S = ev c 162 13 [l0, l1, l2, l3] L2 (S.2.2.1 (4, j, t) 10 :: St) S := ev_go i162_10 rfl
theorem i162_13 : insAt 162 13 = some (.iload_n 1, 1, (0, 0, 0, 0), 0) := rfl
theorem s162_13 {c : Nat → List AV → SS → Option Out} {l0 l2 l3 : Option AV} {x : Int32} {L2 : List (Nat × AV)} {St : List AV} {S : SS} : ev c 162 13 [l0, some (aI x), l2, l3] L2 St S = ev c 162 14 [l0, some (aI x), l2, l3] L2 (aI x :: St) S := ev_go i162_13 rfl
theorem i162_14 : insAt 162 14 = some (.iload_n 2, 1, (0, 0, 0, 0), 0) := rfl
theorem s162_14 {c : Nat → List AV → SS → Option Out} {l0 l1 l3 : Option AV} {x : Int32} {L2 : List (Nat × AV)} {St : List AV} {S : SS} : ev c 162 14 [l0, l1, some (aI x), l3] L2 St S = ev c 162 15 [l0, l1, some (aI x), l3] L2 (aI x :: St) S := ev_go i162_14 rfl
theorem i162_15 : insAt 162 15 = some (.invokestatic 99, 3, (31, 2, 1, 0), 0) := rfl
theorem s162_15 {c : Nat → List AV → SS → Option Out} {l0 l1 l2 l3 : Option AV} {t0 : AV} {a0 : Int32} {a1 : Int32} {L2 : List (Nat × AV)} {S : SS} : ev c 162 15 [l0, l1, l2, l3] L2 [aI a1, aI a0, t0] S = ck (c 31 [aI a0, aI a1] S) (fun v S' => ev c 162 18 [l0, l1, l2, l3] L2 (v.toList ++ [t0]) S') := ev_call i162_15 rfl
theorem i162_18 : insAt 162 18 = some (.iload_n 3, 1, (0, 0, 0, 0), 0) := rfl
theorem s162_18 {c : Nat → List AV → SS → Option Out} {l0 l1 l2 : Option AV} {x : Int32} {L2 : List (Nat × AV)} {St : List AV} {S : SS} : ev c 162 18 [l0, l1, l2, some (aI x)] L2 St S = ev c 162 19 [l0, l1, l2, some (aI x)] L2 (aI x :: St) S := ev_go i162_18 rfl
theorem i162_19 : insAt 162 19 = some (.invokestatic 102, 3, (36, 3, 1, 0), 0) := rfl
theorem s162_19 {c : Nat → List AV → SS → Option Out} {l0 l1 l2 l3 : Option AV} {a0 : OId} {a1 : Int32} {a2 : Int32} {L2 : List (Nat × AV)} {S : SS} : ev c 162 19 [l0, l1, l2, l3] L2 [aI a2, aI a1, aR a0] S = ck (c 36 [aR a0, aI a1, aI a2] S) (fun v S' => ev c 162 22 [l0, l1, l2, l3] L2 (v.toList ++ []) S') := ev_call i162_19 rfl
theorem i162_22 : insAt 162 22 = some (.aload_n 0, 1, (0, 0, 0, 0), 0) := rfl
theorem s162_22 {c : Nat → List AV → SS → Option Out} {l1 l2 l3 : Option AV} {o : OId} {L2 : List (Nat × AV)} {St : List AV} {S : SS} : ev c 162 22 [some (aR o), l1, l2, l3] L2 St S = ev c 162 23 [some (aR o), l1, l2, l3] L2 (aR o :: St) S := ev_go i162_22 rfl
theorem i162_23 : insAt 162 23 = some (.getfield 47, 3, (4, 10, 0, 0), 0) := rfl
theorem s162_23 {c : Nat → List AV → SS → Option Out} {l0 l1 l2 l3 : Option AV} {j t : Nat} {L2 : List (Nat × AV)} {St : List AV} {S : SS} : ev c 162 23 [l0, l1, l2, l3] L2 (aR (4, j, t) :: St) S = ev c 162 26 [l0, l1, l2, l3] L2 (S.2.2.1 (4, j, t) 10 :: St) S := ev_go i162_23 rfl
theorem i162_26 : insAt 162 26 = some (.iload_n 2, 1, (0, 0, 0, 0), 0) := rfl
theorem s162_26 {c : Nat → List AV → SS → Option Out} {l0 l1 l3 : Option AV} {x : Int32} {L2 : List (Nat × AV)} {St : List AV} {S : SS} : ev c 162 26 [l0, l1, some (aI x), l3] L2 St S = ev c 162 27 [l0, l1, some (aI x), l3] L2 (aI x :: St) S := ev_go i162_26 rfl
theorem i162_27 : insAt 162 27 = some (.iload_n 1, 1, (0, 0, 0, 0), 0) := rfl
theorem s162_27 {c : Nat → List AV → SS → Option Out} {l0 l2 l3 : Option AV} {x : Int32} {L2 : List (Nat × AV)} {St : List AV} {S : SS} : ev c 162 27 [l0, some (aI x), l2, l3] L2 St S = ev c 162 28 [l0, some (aI x), l2, l3] L2 (aI x :: St) S := ev_go i162_27 rfl
theorem i162_28 : insAt 162 28 = some (.invokestatic 99, 3, (31, 2, 1, 0), 0) := rfl
theorem s162_28 {c : Nat → List AV → SS → Option Out} {l0 l1 l2 l3 : Option AV} {t0 : AV} {a0 : Int32} {a1 : Int32} {L2 : List (Nat × AV)} {S : SS} : ev c 162 28 [l0, l1, l2, l3] L2 [aI a1, aI a0, t0] S = ck (c 31 [aI a0, aI a1] S) (fun v S' => ev c 162 31 [l0, l1, l2, l3] L2 (v.toList ++ [t0]) S') := ev_call i162_28 rfl
theorem i162_31 : insAt 162 31 = some (.iload_n 3, 1, (0, 0, 0, 0), 0) := rfl
theorem s162_31 {c : Nat → List AV → SS → Option Out} {l0 l1 l2 : Option AV} {x : Int32} {L2 : List (Nat × AV)} {St : List AV} {S : SS} : ev c 162 31 [l0, l1, l2, some (aI x)] L2 St S = ev c 162 32 [l0, l1, l2, some (aI x)] L2 (aI x :: St) S := ev_go i162_31 rfl
theorem i162_32 : insAt 162 32 = some (.invokestatic 102, 3, (36, 3, 1, 0), 0) := rfl
theorem s162_32 {c : Nat → List AV → SS → Option Out} {l0 l1 l2 l3 : Option AV} {a0 : OId} {a1 : Int32} {a2 : Int32} {L2 : List (Nat × AV)} {S : SS} : ev c 162 32 [l0, l1, l2, l3] L2 [aI a2, aI a1, aR a0] S = ck (c 36 [aR a0, aI a1, aI a2] S) (fun v S' => ev c 162 35 [l0, l1, l2, l3] L2 (v.toList ++ []) S') := ev_call i162_32 rfl
theorem i162_35 : insAt 162 35 = some (.return_, 1, (0, 0, 0, 0), 0) := rfl
theorem s162_35 {c : Nat → List AV → SS → Option Out} {l0 l1 l2 l3 : Option AV} {L2 : List (Nat × AV)} {St : List AV} {S : SS} : ev c 162 35 [l0, l1, l2, l3] L2 [] S = some (.inl none, S) := ev_end i162_35 rfl
theorem m162 {d : Nat} {o : OId} {a0 : Int32} {a1 : Int32} {S : SS} : evm (d + 1) 162 [aR o, aI a0, aI a1] S = ev (evm d) 162 0 [some (aR o), some (aI a0), some (aI a1), none] [] [] S := evm_s (n := 4) rfl (Nat.le_of_ble_eq_true rfl) rfl rfl
/-! FrequencyOffice$Search.serveComplaint(LFrequencyOffice$Books;II)V -/
theorem i163_0 : insAt 163 0 = some (.aload_n 0, 1, (0, 0, 0, 0), 0) := rfl
theorem s163_0 {c : Nat → List AV → SS → Option Out} {l1 l2 l3 l4 : Option AV} {o : OId} {L2 : List (Nat × AV)} {St : List AV} {S : SS} : ev c 163 0 [some (aR o), l1, l2, l3, l4] L2 St S = ev c 163 1 [some (aR o), l1, l2, l3, l4] L2 (aR o :: St) S := ev_go i163_0 rfl
theorem i163_1 : insAt 163 1 = some (.getfield 36, 3, (8, 0, 0, 0), 0) := rfl
theorem s163_1 {c : Nat → List AV → SS → Option Out} {l0 l1 l2 l3 l4 : Option AV} {j t : Nat} {L2 : List (Nat × AV)} {St : List AV} {S : SS} : ev c 163 1 [l0, l1, l2, l3, l4] L2 (aR (8, j, t) :: St) S = ev c 163 4 [l0, l1, l2, l3, l4] L2 (S.2.2.1 (8, j, t) 0 :: St) S := ev_go i163_1 rfl
theorem i163_4 : insAt 163 4 = some (.aload_n 1, 1, (0, 0, 0, 0), 0) := rfl
theorem s163_4 {c : Nat → List AV → SS → Option Out} {l0 l2 l3 l4 : Option AV} {o : OId} {L2 : List (Nat × AV)} {St : List AV} {S : SS} : ev c 163 4 [l0, some (aR o), l2, l3, l4] L2 St S = ev c 163 5 [l0, some (aR o), l2, l3, l4] L2 (aR o :: St) S := ev_go i163_4 rfl
theorem i163_5 : insAt 163 5 = some (.iload_n 3, 1, (0, 0, 0, 0), 0) := rfl
theorem s163_5 {c : Nat → List AV → SS → Option Out} {l0 l1 l2 l4 : Option AV} {x : Int32} {L2 : List (Nat × AV)} {St : List AV} {S : SS} : ev c 163 5 [l0, l1, l2, some (aI x), l4] L2 St S = ev c 163 6 [l0, l1, l2, some (aI x), l4] L2 (aI x :: St) S := ev_go i163_5 rfl
theorem i163_6 : insAt 163 6 = some (.invokevirtual 40, 3, (34, 2, 3, 6), 0) := rfl
theorem s163_6 {c : Nat → List AV → SS → Option Out} {l0 l1 l2 l3 l4 : Option AV} {a0 : OId} {a1 : Int32} {j t : Nat} {L2 : List (Nat × AV)} {S : SS} : ev c 163 6 [l0, l1, l2, l3, l4] L2 [aI a1, aR a0, aR (6, j, t)] S = ck (c 34 [aR (6, j, t), aR a0, aI a1] S) (fun v S' => ev c 163 9 [l0, l1, l2, l3, l4] L2 (v.toList ++ []) S') := ev_call i163_6 rfl
theorem i163_9 : insAt 163 9 = some (.aload_n 0, 1, (0, 0, 0, 0), 0) := rfl
theorem s163_9 {c : Nat → List AV → SS → Option Out} {l1 l2 l3 l4 : Option AV} {o : OId} {L2 : List (Nat × AV)} {St : List AV} {S : SS} : ev c 163 9 [some (aR o), l1, l2, l3, l4] L2 St S = ev c 163 10 [some (aR o), l1, l2, l3, l4] L2 (aR o :: St) S := ev_go i163_9 rfl
theorem i163_10 : insAt 163 10 = some (.aload_n 1, 1, (0, 0, 0, 0), 0) := rfl
theorem s163_10 {c : Nat → List AV → SS → Option Out} {l0 l2 l3 l4 : Option AV} {o : OId} {L2 : List (Nat × AV)} {St : List AV} {S : SS} : ev c 163 10 [l0, some (aR o), l2, l3, l4] L2 St S = ev c 163 11 [l0, some (aR o), l2, l3, l4] L2 (aR o :: St) S := ev_go i163_10 rfl
theorem i163_11 : insAt 163 11 = some (.iload_n 3, 1, (0, 0, 0, 0), 0) := rfl
theorem s163_11 {c : Nat → List AV → SS → Option Out} {l0 l1 l2 l4 : Option AV} {x : Int32} {L2 : List (Nat × AV)} {St : List AV} {S : SS} : ev c 163 11 [l0, l1, l2, some (aI x), l4] L2 St S = ev c 163 12 [l0, l1, l2, some (aI x), l4] L2 (aI x :: St) S := ev_go i163_11 rfl
theorem i163_12 : insAt 163 12 = some (.invokevirtual 79, 3, (154, 2, 2, 8), 0) := rfl
theorem s163_12 {c : Nat → List AV → SS → Option Out} {l0 l1 l2 l3 l4 : Option AV} {a0 : OId} {a1 : Int32} {j t : Nat} {L2 : List (Nat × AV)} {S : SS} : ev c 163 12 [l0, l1, l2, l3, l4] L2 [aI a1, aR a0, aR (8, j, t)] S = ck (c 154 [aR (8, j, t), aR a0, aI a1] S) (fun v S' => ev c 163 15 [l0, l1, l2, l3, l4] L2 (v.toList ++ []) S') := ev_call i163_12 rfl
theorem i163_15 : insAt 163 15 = some (.iconst 0, 1, (0, 0, 0, 0), 0) := rfl
theorem s163_15 {c : Nat → List AV → SS → Option Out} {l0 l1 l2 l3 l4 : Option AV} {L2 : List (Nat × AV)} {St : List AV} {S : SS} : ev c 163 15 [l0, l1, l2, l3, l4] L2 St S = ev c 163 16 [l0, l1, l2, l3, l4] L2 (aI 0 :: St) S := ev_go i163_15 rfl
theorem i163_16 : insAt 163 16 = some (.istore 4, 2, (0, 0, 0, 0), 0) := rfl
theorem s163_16 {c : Nat → List AV → SS → Option Out} {l0 l1 l2 l3 l4 : Option AV} {x : Int32} {L2 : List (Nat × AV)} {St : List AV} {S : SS} : ev c 163 16 [l0, l1, l2, l3, l4] L2 (aI x :: St) S = ev c 163 18 [l0, l1, l2, l3, some (aI x)] (kil L2 4) St S := ev_go i163_16 rfl
theorem i163_18 : insAt 163 18 = some (.iload 4, 2, (0, 0, 0, 0), 0) := rfl
theorem s163_18 {c : Nat → List AV → SS → Option Out} {l0 l1 l2 l3 : Option AV} {x : Int32} {L2 : List (Nat × AV)} {St : List AV} {S : SS} : ev c 163 18 [l0, l1, l2, l3, some (aI x)] L2 St S = ev c 163 20 [l0, l1, l2, l3, some (aI x)] L2 (aI x :: St) S := ev_go i163_18 rfl
theorem i163_20 : insAt 163 20 = some (.aload_n 0, 1, (0, 0, 0, 0), 0) := rfl
theorem s163_20 {c : Nat → List AV → SS → Option Out} {l1 l2 l3 l4 : Option AV} {o : OId} {L2 : List (Nat × AV)} {St : List AV} {S : SS} : ev c 163 20 [some (aR o), l1, l2, l3, l4] L2 St S = ev c 163 21 [some (aR o), l1, l2, l3, l4] L2 (aR o :: St) S := ev_go i163_20 rfl
theorem i163_21 : insAt 163 21 = some (.getfield 36, 3, (8, 0, 0, 0), 0) := rfl
theorem s163_21 {c : Nat → List AV → SS → Option Out} {l0 l1 l2 l3 l4 : Option AV} {j t : Nat} {L2 : List (Nat × AV)} {St : List AV} {S : SS} : ev c 163 21 [l0, l1, l2, l3, l4] L2 (aR (8, j, t) :: St) S = ev c 163 24 [l0, l1, l2, l3, l4] L2 (S.2.2.1 (8, j, t) 0 :: St) S := ev_go i163_21 rfl
theorem i163_24 : insAt 163 24 = some (.getfield 46, 3, (6, 0, 1, 0), 0) := rfl
theorem s163_24 {c : Nat → List AV → SS → Option Out} {l0 l1 l2 l3 l4 : Option AV} {j t : Nat} {L2 : List (Nat × AV)} {St : List AV} {S : SS} : ev c 163 24 [l0, l1, l2, l3, l4] L2 (aR (6, j, t) :: St) S = ev c 163 27 [l0, l1, l2, l3, l4] L2 (aI (S.1 (6, j, t) 0) :: St) S := ev_go i163_24 rfl
theorem i163_27 : insAt 163 27 = some (.if_icmp .ge 51, 3, (0, 0, 0, 0), 0) := rfl
theorem s163_27 {c : Nat → List AV → SS → Option Out} {l0 l1 l2 l3 l4 : Option AV} {x y : Int32} {L2 : List (Nat × AV)} {St : List AV} {S : SS} : ev c 163 27 [l0, l1, l2, l3, l4] L2 (aI y :: aI x :: St) S = if y ≤ x then ev c 163 78 [l0, l1, l2, l3, l4] L2 St S else ev c 163 30 [l0, l1, l2, l3, l4] L2 St S := ev_br i163_27 rfl
theorem i163_30 : insAt 163 30 = some (.aload_n 0, 1, (0, 0, 0, 0), 0) := rfl
theorem s163_30 {c : Nat → List AV → SS → Option Out} {l1 l2 l3 l4 : Option AV} {o : OId} {L2 : List (Nat × AV)} {St : List AV} {S : SS} : ev c 163 30 [some (aR o), l1, l2, l3, l4] L2 St S = ev c 163 31 [some (aR o), l1, l2, l3, l4] L2 (aR o :: St) S := ev_go i163_30 rfl
theorem i163_31 : insAt 163 31 = some (.getfield 36, 3, (8, 0, 0, 0), 0) := rfl
theorem s163_31 {c : Nat → List AV → SS → Option Out} {l0 l1 l2 l3 l4 : Option AV} {j t : Nat} {L2 : List (Nat × AV)} {St : List AV} {S : SS} : ev c 163 31 [l0, l1, l2, l3, l4] L2 (aR (8, j, t) :: St) S = ev c 163 34 [l0, l1, l2, l3, l4] L2 (S.2.2.1 (8, j, t) 0 :: St) S := ev_go i163_31 rfl
theorem i163_34 : insAt 163 34 = some (.getfield 82, 3, (6, 2, 1, 0), 0) := rfl
theorem s163_34 {c : Nat → List AV → SS → Option Out} {l0 l1 l2 l3 l4 : Option AV} {j t : Nat} {L2 : List (Nat × AV)} {St : List AV} {S : SS} : ev c 163 34 [l0, l1, l2, l3, l4] L2 (aR (6, j, t) :: St) S = ev c 163 37 [l0, l1, l2, l3, l4] L2 (S.2.2.1 (6, j, t) 2 :: St) S := ev_go i163_34 rfl
theorem i163_37 : insAt 163 37 = some (.iload 4, 2, (0, 0, 0, 0), 0) := rfl
theorem s163_37 {c : Nat → List AV → SS → Option Out} {l0 l1 l2 l3 : Option AV} {x : Int32} {L2 : List (Nat × AV)} {St : List AV} {S : SS} : ev c 163 37 [l0, l1, l2, l3, some (aI x)] L2 St S = ev c 163 39 [l0, l1, l2, l3, some (aI x)] L2 (aI x :: St) S := ev_go i163_37 rfl
theorem i163_39 : insAt 163 39 = some (.invokestatic 52, 3, (32, 2, 1, 0), 0) := rfl
theorem s163_39 {c : Nat → List AV → SS → Option Out} {l0 l1 l2 l3 l4 : Option AV} {a0 : OId} {a1 : Int32} {L2 : List (Nat × AV)} {S : SS} : ev c 163 39 [l0, l1, l2, l3, l4] L2 [aI a1, aR a0] S = ck (c 32 [aR a0, aI a1] S) (fun v S' => ev c 163 42 [l0, l1, l2, l3, l4] L2 (v.toList ++ []) S') := ev_call i163_39 rfl
theorem i163_42 : insAt 163 42 = some (.iload_n 2, 1, (0, 0, 0, 0), 0) := rfl
theorem s163_42 {c : Nat → List AV → SS → Option Out} {l0 l1 l3 l4 : Option AV} {x : Int32} {L2 : List (Nat × AV)} {St : List AV} {S : SS} : ev c 163 42 [l0, l1, some (aI x), l3, l4] L2 St S = ev c 163 43 [l0, l1, some (aI x), l3, l4] L2 (aI x :: St) S := ev_go i163_42 rfl
theorem i163_43 : insAt 163 43 = some (.if_icmp .ne 29, 3, (0, 0, 0, 0), 0) := rfl
theorem s163_43 {c : Nat → List AV → SS → Option Out} {l0 l1 l2 l3 l4 : Option AV} {x y : Int32} {L2 : List (Nat × AV)} {St : List AV} {S : SS} : ev c 163 43 [l0, l1, l2, l3, l4] L2 (aI y :: aI x :: St) S = if x = y then ev c 163 46 [l0, l1, l2, l3, l4] L2 St S else ev c 163 72 [l0, l1, l2, l3, l4] L2 St S := (ev_br i163_43 rfl).trans (ite_not _ _ _)
theorem i163_46 : insAt 163 46 = some (.aload_n 0, 1, (0, 0, 0, 0), 0) := rfl
theorem s163_46 {c : Nat → List AV → SS → Option Out} {l1 l2 l3 l4 : Option AV} {o : OId} {L2 : List (Nat × AV)} {St : List AV} {S : SS} : ev c 163 46 [some (aR o), l1, l2, l3, l4] L2 St S = ev c 163 47 [some (aR o), l1, l2, l3, l4] L2 (aR o :: St) S := ev_go i163_46 rfl
theorem i163_47 : insAt 163 47 = some (.iload 4, 2, (0, 0, 0, 0), 0) := rfl
theorem s163_47 {c : Nat → List AV → SS → Option Out} {l0 l1 l2 l3 : Option AV} {x : Int32} {L2 : List (Nat × AV)} {St : List AV} {S : SS} : ev c 163 47 [l0, l1, l2, l3, some (aI x)] L2 St S = ev c 163 49 [l0, l1, l2, l3, some (aI x)] L2 (aI x :: St) S := ev_go i163_47 rfl
theorem i163_49 : insAt 163 49 = some (.putfield 33, 3, (8, 6, 0, 0), 0) := rfl
theorem s163_49 {c : Nat → List AV → SS → Option Out} {l0 l1 l2 l3 l4 : Option AV} {j t : Nat} {x : Int32} {L2 : List (Nat × AV)} {St : List AV} {S : SS} : ev c 163 49 [l0, l1, l2, l3, l4] L2 (aI x :: aR (8, j, t) :: St) S = ev c 163 52 [l0, l1, l2, l3, l4] L2 St (setI S.1 (8, j, t) 6 x, S.2) := ev_go i163_49 rfl
theorem i163_52 : insAt 163 52 = some (.aload_n 0, 1, (0, 0, 0, 0), 0) := rfl
theorem s163_52 {c : Nat → List AV → SS → Option Out} {l1 l2 l3 l4 : Option AV} {o : OId} {L2 : List (Nat × AV)} {St : List AV} {S : SS} : ev c 163 52 [some (aR o), l1, l2, l3, l4] L2 St S = ev c 163 53 [some (aR o), l1, l2, l3, l4] L2 (aR o :: St) S := ev_go i163_52 rfl
theorem i163_53 : insAt 163 53 = some (.getfield 18, 3, (8, 2, 0, 0), 0) := rfl
theorem s163_53 {c : Nat → List AV → SS → Option Out} {l0 l1 l2 l3 l4 : Option AV} {j t : Nat} {L2 : List (Nat × AV)} {St : List AV} {S : SS} : ev c 163 53 [l0, l1, l2, l3, l4] L2 (aR (8, j, t) :: St) S = ev c 163 56 [l0, l1, l2, l3, l4] L2 (S.2.2.1 (8, j, t) 2 :: St) S := ev_go i163_53 rfl
theorem i163_56 : insAt 163 56 = some (.iload 4, 2, (0, 0, 0, 0), 0) := rfl
theorem s163_56 {c : Nat → List AV → SS → Option Out} {l0 l1 l2 l3 : Option AV} {x : Int32} {L2 : List (Nat × AV)} {St : List AV} {S : SS} : ev c 163 56 [l0, l1, l2, l3, some (aI x)] L2 St S = ev c 163 58 [l0, l1, l2, l3, some (aI x)] L2 (aI x :: St) S := ev_go i163_56 rfl
theorem i163_58 : insAt 163 58 = some (.aload_n 0, 1, (0, 0, 0, 0), 0) := rfl
theorem s163_58 {c : Nat → List AV → SS → Option Out} {l1 l2 l3 l4 : Option AV} {o : OId} {L2 : List (Nat × AV)} {St : List AV} {S : SS} : ev c 163 58 [some (aR o), l1, l2, l3, l4] L2 St S = ev c 163 59 [some (aR o), l1, l2, l3, l4] L2 (aR o :: St) S := ev_go i163_58 rfl
theorem i163_59 : insAt 163 59 = some (.getfield 18, 3, (8, 2, 0, 0), 0) := rfl
theorem s163_59 {c : Nat → List AV → SS → Option Out} {l0 l1 l2 l3 l4 : Option AV} {j t : Nat} {L2 : List (Nat × AV)} {St : List AV} {S : SS} : ev c 163 59 [l0, l1, l2, l3, l4] L2 (aR (8, j, t) :: St) S = ev c 163 62 [l0, l1, l2, l3, l4] L2 (S.2.2.1 (8, j, t) 2 :: St) S := ev_go i163_59 rfl
theorem i163_62 : insAt 163 62 = some (.iload 4, 2, (0, 0, 0, 0), 0) := rfl
theorem s163_62 {c : Nat → List AV → SS → Option Out} {l0 l1 l2 l3 : Option AV} {x : Int32} {L2 : List (Nat × AV)} {St : List AV} {S : SS} : ev c 163 62 [l0, l1, l2, l3, some (aI x)] L2 St S = ev c 163 64 [l0, l1, l2, l3, some (aI x)] L2 (aI x :: St) S := ev_go i163_62 rfl
theorem i163_64 : insAt 163 64 = some (.invokestatic 52, 3, (32, 2, 1, 0), 0) := rfl
theorem s163_64 {c : Nat → List AV → SS → Option Out} {l0 l1 l2 l3 l4 : Option AV} {t0 t1 : AV} {a0 : OId} {a1 : Int32} {L2 : List (Nat × AV)} {S : SS} : ev c 163 64 [l0, l1, l2, l3, l4] L2 [aI a1, aR a0, t0, t1] S = ck (c 32 [aR a0, aI a1] S) (fun v S' => ev c 163 67 [l0, l1, l2, l3, l4] L2 (v.toList ++ [t0, t1]) S') := ev_call i163_64 rfl
theorem i163_67 : insAt 163 67 = some (.iconst 1, 1, (0, 0, 0, 0), 0) := rfl
theorem s163_67 {c : Nat → List AV → SS → Option Out} {l0 l1 l2 l3 l4 : Option AV} {L2 : List (Nat × AV)} {St : List AV} {S : SS} : ev c 163 67 [l0, l1, l2, l3, l4] L2 St S = ev c 163 68 [l0, l1, l2, l3, l4] L2 (aI 1 :: St) S := ev_go i163_67 rfl
theorem i163_68 : insAt 163 68 = some (.iadd, 1, (0, 0, 0, 0), 0) := rfl
theorem s163_68 {c : Nat → List AV → SS → Option Out} {l0 l1 l2 l3 l4 : Option AV} {x y : Int32} {L2 : List (Nat × AV)} {St : List AV} {S : SS} : ev c 163 68 [l0, l1, l2, l3, l4] L2 (aI y :: aI x :: St) S = ev c 163 69 [l0, l1, l2, l3, l4] L2 (aI (x + y) :: St) S := ev_go i163_68 rfl
theorem i163_69 : insAt 163 69 = some (.invokestatic 85, 3, (36, 3, 1, 0), 0) := rfl
theorem s163_69 {c : Nat → List AV → SS → Option Out} {l0 l1 l2 l3 l4 : Option AV} {a0 : OId} {a1 : Int32} {a2 : Int32} {L2 : List (Nat × AV)} {S : SS} : ev c 163 69 [l0, l1, l2, l3, l4] L2 [aI a2, aI a1, aR a0] S = ck (c 36 [aR a0, aI a1, aI a2] S) (fun v S' => ev c 163 72 [l0, l1, l2, l3, l4] L2 (v.toList ++ []) S') := ev_call i163_69 rfl
theorem i163_72 : insAt 163 72 = some (.iinc 4 1, 3, (0, 0, 0, 0), 0) := rfl
theorem s163_72 {c : Nat → List AV → SS → Option Out} {l0 l1 l2 l3 : Option AV} {x : Int32} {L2 : List (Nat × AV)} {St : List AV} {S : SS} : ev c 163 72 [l0, l1, l2, l3, some (aI x)] L2 St S = ev c 163 75 [l0, l1, l2, l3, some (aI (x + 1))] (kil L2 4) St S := ev_go i163_72 rfl
theorem i163_75 : insAt 163 75 = some (.goto (-57), 3, (0, 0, 0, 0), 0) := rfl
theorem s163_75 {c : Nat → List AV → SS → Option Out} {l0 l1 l2 l3 l4 : Option AV} {L2 : List (Nat × AV)} {St : List AV} {S : SS} : ev c 163 75 [l0, l1, l2, l3, l4] L2 St S = ev c 163 18 [l0, l1, l2, l3, l4] L2 St S := ev_go i163_75 rfl
theorem i163_78 : insAt 163 78 = some (.return_, 1, (0, 0, 0, 0), 0) := rfl
theorem s163_78 {c : Nat → List AV → SS → Option Out} {l0 l1 l2 l3 l4 : Option AV} {L2 : List (Nat × AV)} {St : List AV} {S : SS} : ev c 163 78 [l0, l1, l2, l3, l4] L2 [] S = some (.inl none, S) := ev_end i163_78 rfl
theorem m163 {d : Nat} {o : OId} {a0 : OId} {a1 : Int32} {a2 : Int32} {S : SS} : evm (d + 1) 163 [aR o, aR a0, aI a1, aI a2] S = ev (evm d) 163 0 [some (aR o), some (aR a0), some (aI a1), some (aI a2), none] [] [] S := evm_s (n := 5) rfl (Nat.le_of_ble_eq_true rfl) rfl rfl
/-! FrequencyOffice$History.giveBack(LFrequencyOffice$Books;)V -/
theorem i213_0 : insAt 213 0 = some (.aload_n 0, 1, (0, 0, 0, 0), 0) := rfl
theorem s213_0 {c : Nat → List AV → SS → Option Out} {l1 l2 : Option AV} {o : OId} {L2 : List (Nat × AV)} {St : List AV} {S : SS} : ev c 213 0 [some (aR o), l1, l2] L2 St S = ev c 213 1 [some (aR o), l1, l2] L2 (aR o :: St) S := ev_go i213_0 rfl
theorem i213_1 : insAt 213 1 = some (.aload_n 0, 1, (0, 0, 0, 0), 0) := rfl
theorem s213_1 {c : Nat → List AV → SS → Option Out} {l1 l2 : Option AV} {o : OId} {L2 : List (Nat × AV)} {St : List AV} {S : SS} : ev c 213 1 [some (aR o), l1, l2] L2 St S = ev c 213 2 [some (aR o), l1, l2] L2 (aR o :: St) S := ev_go i213_1 rfl
theorem i213_2 : insAt 213 2 = some (.getfield 17, 3, (5, 1, 0, 0), 0) := rfl
theorem s213_2 {c : Nat → List AV → SS → Option Out} {l0 l1 l2 : Option AV} {j t : Nat} {L2 : List (Nat × AV)} {St : List AV} {S : SS} : ev c 213 2 [l0, l1, l2] L2 (aR (5, j, t) :: St) S = ev c 213 5 [l0, l1, l2] L2 (aI (S.1 (5, j, t) 1) :: St) S := ev_go i213_2 rfl
theorem i213_5 : insAt 213 5 = some (.ifCond .gt 7, 3, (0, 0, 0, 0), 0) := rfl
theorem s213_5 {c : Nat → List AV → SS → Option Out} {l0 l1 l2 : Option AV} {x : Int32} {L2 : List (Nat × AV)} {St : List AV} {S : SS} : ev c 213 5 [l0, l1, l2] L2 (aI x :: St) S = if 0 < x then ev c 213 12 [l0, l1, l2] L2 St S else ev c 213 8 [l0, l1, l2] L2 St S := ev_br i213_5 rfl
theorem i213_8 : insAt 213 8 = some (.iconst 5, 1, (0, 0, 0, 0), 0) := rfl
theorem s213_8 {c : Nat → List AV → SS → Option Out} {l0 l1 l2 : Option AV} {L2 : List (Nat × AV)} {St : List AV} {S : SS} : ev c 213 8 [l0, l1, l2] L2 St S = ev c 213 9 [l0, l1, l2] L2 (aI 5 :: St) S := ev_go i213_8 rfl
theorem i213_9 : insAt 213 9 = some (.goto 9, 3, (0, 0, 0, 0), 0) := rfl
theorem s213_9 {c : Nat → List AV → SS → Option Out} {l0 l1 l2 : Option AV} {L2 : List (Nat × AV)} {St : List AV} {S : SS} : ev c 213 9 [l0, l1, l2] L2 St S = ev c 213 18 [l0, l1, l2] L2 St S := ev_go i213_9 rfl
theorem i213_12 : insAt 213 12 = some (.aload_n 0, 1, (0, 0, 0, 0), 0) := rfl
theorem s213_12 {c : Nat → List AV → SS → Option Out} {l1 l2 : Option AV} {o : OId} {L2 : List (Nat × AV)} {St : List AV} {S : SS} : ev c 213 12 [some (aR o), l1, l2] L2 St S = ev c 213 13 [some (aR o), l1, l2] L2 (aR o :: St) S := ev_go i213_12 rfl
theorem i213_13 : insAt 213 13 = some (.getfield 17, 3, (5, 1, 0, 0), 0) := rfl
theorem s213_13 {c : Nat → List AV → SS → Option Out} {l0 l1 l2 : Option AV} {j t : Nat} {L2 : List (Nat × AV)} {St : List AV} {S : SS} : ev c 213 13 [l0, l1, l2] L2 (aR (5, j, t) :: St) S = ev c 213 16 [l0, l1, l2] L2 (aI (S.1 (5, j, t) 1) :: St) S := ev_go i213_13 rfl
theorem i213_16 : insAt 213 16 = some (.iconst 1, 1, (0, 0, 0, 0), 0) := rfl
theorem s213_16 {c : Nat → List AV → SS → Option Out} {l0 l1 l2 : Option AV} {L2 : List (Nat × AV)} {St : List AV} {S : SS} : ev c 213 16 [l0, l1, l2] L2 St S = ev c 213 17 [l0, l1, l2] L2 (aI 1 :: St) S := ev_go i213_16 rfl
theorem i213_17 : insAt 213 17 = some (.isub, 1, (0, 0, 0, 0), 0) := rfl
theorem s213_17 {c : Nat → List AV → SS → Option Out} {l0 l1 l2 : Option AV} {x y : Int32} {L2 : List (Nat × AV)} {St : List AV} {S : SS} : ev c 213 17 [l0, l1, l2] L2 (aI y :: aI x :: St) S = ev c 213 18 [l0, l1, l2] L2 (aI (x - y) :: St) S := ev_go i213_17 rfl
theorem i213_18 : insAt 213 18 = some (.putfield 17, 3, (5, 1, 0, 0), 0) := rfl
theorem s213_18 {c : Nat → List AV → SS → Option Out} {l0 l1 l2 : Option AV} {j t : Nat} {x : Int32} {L2 : List (Nat × AV)} {St : List AV} {S : SS} : ev c 213 18 [l0, l1, l2] L2 (aI x :: aR (5, j, t) :: St) S = ev c 213 21 [l0, l1, l2] L2 St (setI S.1 (5, j, t) 1 x, S.2) := ev_go i213_18 rfl
theorem i213_21 : insAt 213 21 = some (.aload_n 0, 1, (0, 0, 0, 0), 0) := rfl
theorem s213_21 {c : Nat → List AV → SS → Option Out} {l1 l2 : Option AV} {o : OId} {L2 : List (Nat × AV)} {St : List AV} {S : SS} : ev c 213 21 [some (aR o), l1, l2] L2 St S = ev c 213 22 [some (aR o), l1, l2] L2 (aR o :: St) S := ev_go i213_21 rfl
theorem i213_22 : insAt 213 22 = some (.dup, 1, (0, 0, 0, 0), 0) := rfl
theorem s213_22 {c : Nat → List AV → SS → Option Out} {l0 l1 l2 : Option AV} {x : OId} {L2 : List (Nat × AV)} {St : List AV} {S : SS} : ev c 213 22 [l0, l1, l2] L2 (aR x :: St) S = ev c 213 23 [l0, l1, l2] L2 (aR x :: aR x :: St) S := ev_go i213_22 rfl
theorem i213_23 : insAt 213 23 = some (.getfield 21, 3, (5, 2, 0, 0), 0) := rfl
theorem s213_23 {c : Nat → List AV → SS → Option Out} {l0 l1 l2 : Option AV} {j t : Nat} {L2 : List (Nat × AV)} {St : List AV} {S : SS} : ev c 213 23 [l0, l1, l2] L2 (aR (5, j, t) :: St) S = ev c 213 26 [l0, l1, l2] L2 (aI (S.1 (5, j, t) 2) :: St) S := ev_go i213_23 rfl
theorem i213_26 : insAt 213 26 = some (.iconst 1, 1, (0, 0, 0, 0), 0) := rfl
theorem s213_26 {c : Nat → List AV → SS → Option Out} {l0 l1 l2 : Option AV} {L2 : List (Nat × AV)} {St : List AV} {S : SS} : ev c 213 26 [l0, l1, l2] L2 St S = ev c 213 27 [l0, l1, l2] L2 (aI 1 :: St) S := ev_go i213_26 rfl
theorem i213_27 : insAt 213 27 = some (.isub, 1, (0, 0, 0, 0), 0) := rfl
theorem s213_27 {c : Nat → List AV → SS → Option Out} {l0 l1 l2 : Option AV} {x y : Int32} {L2 : List (Nat × AV)} {St : List AV} {S : SS} : ev c 213 27 [l0, l1, l2] L2 (aI y :: aI x :: St) S = ev c 213 28 [l0, l1, l2] L2 (aI (x - y) :: St) S := ev_go i213_27 rfl
theorem i213_28 : insAt 213 28 = some (.putfield 21, 3, (5, 2, 0, 0), 0) := rfl
theorem s213_28 {c : Nat → List AV → SS → Option Out} {l0 l1 l2 : Option AV} {j t : Nat} {x : Int32} {L2 : List (Nat × AV)} {St : List AV} {S : SS} : ev c 213 28 [l0, l1, l2] L2 (aI x :: aR (5, j, t) :: St) S = ev c 213 31 [l0, l1, l2] L2 St (setI S.1 (5, j, t) 2 x, S.2) := ev_go i213_28 rfl
theorem i213_31 : insAt 213 31 = some (.aload_n 0, 1, (0, 0, 0, 0), 0) := rfl
theorem s213_31 {c : Nat → List AV → SS → Option Out} {l1 l2 : Option AV} {o : OId} {L2 : List (Nat × AV)} {St : List AV} {S : SS} : ev c 213 31 [some (aR o), l1, l2] L2 St S = ev c 213 32 [some (aR o), l1, l2] L2 (aR o :: St) S := ev_go i213_31 rfl
theorem i213_32 : insAt 213 32 = some (.aload_n 0, 1, (0, 0, 0, 0), 0) := rfl
theorem s213_32 {c : Nat → List AV → SS → Option Out} {l1 l2 : Option AV} {o : OId} {L2 : List (Nat × AV)} {St : List AV} {S : SS} : ev c 213 32 [some (aR o), l1, l2] L2 St S = ev c 213 33 [some (aR o), l1, l2] L2 (aR o :: St) S := ev_go i213_32 rfl
theorem i213_33 : insAt 213 33 = some (.getfield 17, 3, (5, 1, 0, 0), 0) := rfl
theorem s213_33 {c : Nat → List AV → SS → Option Out} {l0 l1 l2 : Option AV} {j t : Nat} {L2 : List (Nat × AV)} {St : List AV} {S : SS} : ev c 213 33 [l0, l1, l2] L2 (aR (5, j, t) :: St) S = ev c 213 36 [l0, l1, l2] L2 (aI (S.1 (5, j, t) 1) :: St) S := ev_go i213_33 rfl
theorem i213_36 : insAt 213 36 = some (.invokevirtual 25, 3, (63, 1, 2, 5), 0) := rfl
theorem s213_36 {c : Nat → List AV → SS → Option Out} {l0 l1 l2 : Option AV} {a0 : Int32} {j t : Nat} {L2 : List (Nat × AV)} {S : SS} : ev c 213 36 [l0, l1, l2] L2 [aI a0, aR (5, j, t)] S = ck (c 63 [aR (5, j, t), aI a0] S) (fun v S' => ev c 213 39 [l0, l1, l2] L2 (v.toList ++ []) S') := ev_call i213_36 rfl
theorem i213_39 : insAt 213 39 = some (.astore_n 2, 1, (0, 0, 0, 0), 0) := rfl
theorem s213_39 {c : Nat → List AV → SS → Option Out} {l0 l1 l2 : Option AV} {o : OId} {L2 : List (Nat × AV)} {St : List AV} {S : SS} : ev c 213 39 [l0, l1, l2] L2 (aR o :: St) S = ev c 213 40 [l0, l1, some (aR o)] (kil L2 2) St S := ev_go i213_39 rfl
theorem i213_40 : insAt 213 40 = some (.aload_n 2, 1, (0, 0, 0, 0), 0) := rfl
theorem s213_40 {c : Nat → List AV → SS → Option Out} {l0 l1 : Option AV} {o : OId} {L2 : List (Nat × AV)} {St : List AV} {S : SS} : ev c 213 40 [l0, l1, some (aR o)] L2 St S = ev c 213 41 [l0, l1, some (aR o)] L2 (aR o :: St) S := ev_go i213_40 rfl
theorem i213_41 : insAt 213 41 = some (.ifnull 8, 3, (0, 0, 0, 0), 0) := rfl
theorem s213_41 {c : Nat → List AV → SS → Option Out} {l0 l1 l2 : Option AV} {j t : Nat} {L2 : List (Nat × AV)} {St : List AV} {S : SS} : ev c 213 41 [l0, l1, l2] L2 (aR (4, j, t) :: St) S = ev c 213 44 [l0, l1, l2] L2 St S := ev_go i213_41 rfl
theorem s213_41N {c : Nat → List AV → SS → Option Out} {l0 l1 l2 : Option AV} {L2 : List (Nat × AV)} {St : List AV} {S : SS} : ev c 213 41 [l0, l1, l2] L2 (aN :: St) S = ev c 213 49 [l0, l1, l2] L2 St S := ev_go i213_41 rfl
theorem i213_44 : insAt 213 44 = some (.aload_n 1, 1, (0, 0, 0, 0), 0) := rfl
theorem s213_44 {c : Nat → List AV → SS → Option Out} {l0 l2 : Option AV} {o : OId} {L2 : List (Nat × AV)} {St : List AV} {S : SS} : ev c 213 44 [l0, some (aR o), l2] L2 St S = ev c 213 45 [l0, some (aR o), l2] L2 (aR o :: St) S := ev_go i213_44 rfl
theorem i213_45 : insAt 213 45 = some (.aload_n 2, 1, (0, 0, 0, 0), 0) := rfl
theorem s213_45 {c : Nat → List AV → SS → Option Out} {l0 l1 : Option AV} {o : OId} {L2 : List (Nat × AV)} {St : List AV} {S : SS} : ev c 213 45 [l0, l1, some (aR o)] L2 St S = ev c 213 46 [l0, l1, some (aR o)] L2 (aR o :: St) S := ev_go i213_45 rfl
theorem i213_46 : insAt 213 46 = some (.invokevirtual 29, 3, (56, 1, 3, 4), 0) := rfl
theorem s213_46 {c : Nat → List AV → SS → Option Out} {l0 l1 l2 : Option AV} {a0 : OId} {j t : Nat} {L2 : List (Nat × AV)} {S : SS} : ev c 213 46 [l0, l1, l2] L2 [aR a0, aR (4, j, t)] S = ck (c 56 [aR (4, j, t), aR a0] S) (fun v S' => ev c 213 49 [l0, l1, l2] L2 (v.toList ++ []) S') := ev_call i213_46 rfl
theorem i213_49 : insAt 213 49 = some (.return_, 1, (0, 0, 0, 0), 0) := rfl
theorem s213_49 {c : Nat → List AV → SS → Option Out} {l0 l1 l2 : Option AV} {L2 : List (Nat × AV)} {St : List AV} {S : SS} : ev c 213 49 [l0, l1, l2] L2 [] S = some (.inl none, S) := ev_end i213_49 rfl
theorem m213 {d : Nat} {o : OId} {a0 : OId} {S : SS} : evm (d + 1) 213 [aR o, aR a0] S = ev (evm d) 213 0 [some (aR o), some (aR a0), none] [] [] S := evm_s (n := 3) rfl (Nat.le_of_ble_eq_true rfl) rfl rfl
/-! FrequencyOffice$History.forget()V -/
theorem i216_0 : insAt 216 0 = some (.aload_n 0, 1, (0, 0, 0, 0), 0) := rfl
theorem s216_0 {c : Nat → List AV → SS → Option Out} {o : OId} {L2 : List (Nat × AV)} {St : List AV} {S : SS} : ev c 216 0 [some (aR o)] L2 St S = ev c 216 1 [some (aR o)] L2 (aR o :: St) S := ev_go i216_0 rfl
theorem i216_1 : insAt 216 1 = some (.iconst 0, 1, (0, 0, 0, 0), 0) := rfl
theorem s216_1 {c : Nat → List AV → SS → Option Out} {l0 : Option AV} {L2 : List (Nat × AV)} {St : List AV} {S : SS} : ev c 216 1 [l0] L2 St S = ev c 216 2 [l0] L2 (aI 0 :: St) S := ev_go i216_1 rfl
theorem i216_2 : insAt 216 2 = some (.putfield 21, 3, (5, 2, 0, 0), 0) := rfl
theorem s216_2 {c : Nat → List AV → SS → Option Out} {l0 : Option AV} {j t : Nat} {x : Int32} {L2 : List (Nat × AV)} {St : List AV} {S : SS} : ev c 216 2 [l0] L2 (aI x :: aR (5, j, t) :: St) S = ev c 216 5 [l0] L2 St (setI S.1 (5, j, t) 2 x, S.2) := ev_go i216_2 rfl
theorem i216_5 : insAt 216 5 = some (.return_, 1, (0, 0, 0, 0), 0) := rfl
theorem s216_5 {c : Nat → List AV → SS → Option Out} {l0 : Option AV} {L2 : List (Nat × AV)} {St : List AV} {S : SS} : ev c 216 5 [l0] L2 [] S = some (.inl none, S) := ev_end i216_5 rfl
theorem m216 {d : Nat} {o : OId} {S : SS} : evm (d + 1) 216 [aR o] S = ev (evm d) 216 0 [some (aR o)] [] [] S := evm_s (n := 1) rfl (Nat.le_of_ble_eq_true rfl) rfl rfl
