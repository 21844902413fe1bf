/-! FrequencyOffice.<init>()V -/
theorem i0_0 : insAt 0 0 = some (.aload_n 0, 1, (0, 0, 0, 0), 0) := rfl
theorem s0_0 {c : Nat → List AV → SS → Option Out} {l1 : Option AV} {o : OId} {L2 : List (Nat × AV)} {St : List AV} {S : SS} : ev c 0 0 [some (aR o), l1] L2 St S = ev c 0 1 [some (aR o), l1] L2 (aR o :: St) S := ev_go i0_0 rfl
theorem i0_1 : insAt 0 1 = some (.invokespecial 1, 3, (0, 0, 20, 0), 0) := rfl
theorem s0_1 {c : Nat → List AV → SS → Option Out} {l0 l1 : Option AV} {o : OId} {L2 : List (Nat × AV)} {St : List AV} {S : SS} : ev c 0 1 [l0, l1] L2 (aR o :: St) S = ev c 0 4 [l0, l1] L2 St S := ev_go i0_1 rfl
theorem i0_4 : insAt 0 4 = some (.aload_n 0, 1, (0, 0, 0, 0), 0) := rfl
theorem s0_4 {c : Nat → List AV → SS → Option Out} {l1 : Option AV} {o : OId} {L2 : List (Nat × AV)} {St : List AV} {S : SS} : ev c 0 4 [some (aR o), l1] L2 St S = ev c 0 5 [some (aR o), l1] L2 (aR o :: St) S := ev_go i0_4 rfl
theorem i0_5 : insAt 0 5 = some (.new 7, 3, (4, 0, 0, 0), 0) := rfl
theorem i0_8 : insAt 0 8 = some (.dup, 1, (0, 0, 0, 0), 0) := rfl
theorem s0_8 {c : Nat → List AV → SS → Option Out} {l0 l1 : Option AV} {x : OId} {L2 : List (Nat × AV)} {St : List AV} {S : SS} : ev c 0 8 [l0, l1] L2 (aR x :: St) S = ev c 0 9 [l0, l1] L2 (aR x :: aR x :: St) S := ev_go i0_8 rfl
theorem i0_9 : insAt 0 9 = some (.invokespecial 9, 3, (1, 0, 6, 4), 0) := rfl
theorem s0_9 {c : Nat → List AV → SS → Option Out} {l0 l1 : Option AV} {t0 t1 : AV} {j t : Nat} {L2 : List (Nat × AV)} {S : SS} : ev c 0 9 [l0, l1] L2 [aR (4, j, t), t0, t1] S = ck (c 1 [aR (4, j, t)] S) (fun v S' => ev c 0 12 [l0, l1] L2 (v.toList ++ [t0, t1]) S') := ev_call i0_9 rfl
theorem i0_12 : insAt 0 12 = some (.putfield 10, 3, (11, 0, 0, 0), 0) := rfl
theorem s0_12 {c : Nat → List AV → SS → Option Out} {l0 l1 : Option AV} {j t : Nat} {p : OId} {L2 : List (Nat × AV)} {St : List AV} {S : SS} : ev c 0 12 [l0, l1] L2 (aR p :: aR (11, j, t) :: St) S = ev c 0 15 [l0, l1] L2 St (S.1, S.2.1, setV S.2.2.1 (11, j, t) 0 (aR p), S.2.2.2) := ev_go i0_12 rfl
theorem i0_15 : insAt 0 15 = some (.aload_n 0, 1, (0, 0, 0, 0), 0) := rfl
theorem s0_15 {c : Nat → List AV → SS → Option Out} {l1 : Option AV} {o : OId} {L2 : List (Nat × AV)} {St : List AV} {S : SS} : ev c 0 15 [some (aR o), l1] L2 St S = ev c 0 16 [some (aR o), l1] L2 (aR o :: St) S := ev_go i0_15 rfl
theorem i0_16 : insAt 0 16 = some (.new 16, 3, (5, 0, 0, 0), 0) := rfl
theorem i0_19 : insAt 0 19 = some (.dup, 1, (0, 0, 0, 0), 0) := rfl
theorem s0_19 {c : Nat → List AV → SS → Option Out} {l0 l1 : Option AV} {x : OId} {L2 : List (Nat × AV)} {St : List AV} {S : SS} : ev c 0 19 [l0, l1] L2 (aR x :: St) S = ev c 0 20 [l0, l1] L2 (aR x :: aR x :: St) S := ev_go i0_19 rfl
theorem i0_20 : insAt 0 20 = some (.invokespecial 18, 3, (4, 0, 6, 5), 0) := rfl
theorem s0_20 {c : Nat → List AV → SS → Option Out} {l0 l1 : Option AV} {t0 t1 : AV} {j t : Nat} {L2 : List (Nat × AV)} {S : SS} : ev c 0 20 [l0, l1] L2 [aR (5, j, t), t0, t1] S = ck (c 4 [aR (5, j, t)] S) (fun v S' => ev c 0 23 [l0, l1] L2 (v.toList ++ [t0, t1]) S') := ev_call i0_20 rfl
theorem i0_23 : insAt 0 23 = some (.putfield 19, 3, (11, 1, 0, 0), 0) := rfl
theorem s0_23 {c : Nat → List AV → SS → Option Out} {l0 l1 : Option AV} {j t : Nat} {p : OId} {L2 : List (Nat × AV)} {St : List AV} {S : SS} : ev c 0 23 [l0, l1] L2 (aR p :: aR (11, j, t) :: St) S = ev c 0 26 [l0, l1] L2 St (S.1, S.2.1, setV S.2.2.1 (11, j, t) 1 (aR p), S.2.2.2) := ev_go i0_23 rfl
theorem i0_26 : insAt 0 26 = some (.aload_n 0, 1, (0, 0, 0, 0), 0) := rfl
theorem s0_26 {c : Nat → List AV → SS → Option Out} {l1 : Option AV} {o : OId} {L2 : List (Nat × AV)} {St : List AV} {S : SS} : ev c 0 26 [some (aR o), l1] L2 St S = ev c 0 27 [some (aR o), l1] L2 (aR o :: St) S := ev_go i0_26 rfl
theorem i0_27 : insAt 0 27 = some (.new 7, 3, (4, 0, 0, 0), 0) := rfl
theorem i0_30 : insAt 0 30 = some (.dup, 1, (0, 0, 0, 0), 0) := rfl
theorem s0_30 {c : Nat → List AV → SS → Option Out} {l0 l1 : Option AV} {x : OId} {L2 : List (Nat × AV)} {St : List AV} {S : SS} : ev c 0 30 [l0, l1] L2 (aR x :: St) S = ev c 0 31 [l0, l1] L2 (aR x :: aR x :: St) S := ev_go i0_30 rfl
theorem i0_31 : insAt 0 31 = some (.invokespecial 9, 3, (1, 0, 6, 4), 0) := rfl
theorem s0_31 {c : Nat → List AV → SS → Option Out} {l0 l1 : Option AV} {t0 t1 : AV} {j t : Nat} {L2 : List (Nat × AV)} {S : SS} : ev c 0 31 [l0, l1] L2 [aR (4, j, t), t0, t1] S = ck (c 1 [aR (4, j, t)] S) (fun v S' => ev c 0 34 [l0, l1] L2 (v.toList ++ [t0, t1]) S') := ev_call i0_31 rfl
theorem i0_34 : insAt 0 34 = some (.putfield 23, 3, (11, 2, 0, 0), 0) := rfl
theorem s0_34 {c : Nat → List AV → SS → Option Out} {l0 l1 : Option AV} {j t : Nat} {p : OId} {L2 : List (Nat × AV)} {St : List AV} {S : SS} : ev c 0 34 [l0, l1] L2 (aR p :: aR (11, j, t) :: St) S = ev c 0 37 [l0, l1] L2 St (S.1, S.2.1, setV S.2.2.1 (11, j, t) 2 (aR p), S.2.2.2) := ev_go i0_34 rfl
theorem i0_37 : insAt 0 37 = some (.aload_n 0, 1, (0, 0, 0, 0), 0) := rfl
theorem s0_37 {c : Nat → List AV → SS → Option Out} {l1 : Option AV} {o : OId} {L2 : List (Nat × AV)} {St : List AV} {S : SS} : ev c 0 37 [some (aR o), l1] L2 St S = ev c 0 38 [some (aR o), l1] L2 (aR o :: St) S := ev_go i0_37 rfl
theorem i0_38 : insAt 0 38 = some (.iconst 0, 1, (0, 0, 0, 0), 0) := rfl
theorem s0_38 {c : Nat → List AV → SS → Option Out} {l0 l1 : Option AV} {L2 : List (Nat × AV)} {St : List AV} {S : SS} : ev c 0 38 [l0, l1] L2 St S = ev c 0 39 [l0, l1] L2 (aI 0 :: St) S := ev_go i0_38 rfl
theorem i0_39 : insAt 0 39 = some (.putfield 26, 3, (11, 3, 0, 0), 0) := rfl
theorem s0_39 {c : Nat → List AV → SS → Option Out} {l0 l1 : Option AV} {j t : Nat} {x : Int32} {L2 : List (Nat × AV)} {St : List AV} {S : SS} : ev c 0 39 [l0, l1] L2 (aI x :: aR (11, j, t) :: St) S = if x = 0 ∨ x = 1 then ev c 0 42 [l0, l1] L2 St (setI S.1 (11, j, t) 3 x, S.2) else none := ev_if i0_39 rfl
theorem i0_42 : insAt 0 42 = some (.new 30, 3, (6, 0, 0, 0), 0) := rfl
theorem i0_45 : insAt 0 45 = some (.dup, 1, (0, 0, 0, 0), 0) := rfl
theorem s0_45 {c : Nat → List AV → SS → Option Out} {l0 l1 : Option AV} {x : OId} {L2 : List (Nat × AV)} {St : List AV} {S : SS} : ev c 0 45 [l0, l1] L2 (aR x :: St) S = ev c 0 46 [l0, l1] L2 (aR x :: aR x :: St) S := ev_go i0_45 rfl
theorem i0_46 : insAt 0 46 = some (.invokespecial 32, 3, (5, 0, 6, 6), 0) := rfl
theorem s0_46 {c : Nat → List AV → SS → Option Out} {l0 l1 : Option AV} {t0 : AV} {j t : Nat} {L2 : List (Nat × AV)} {S : SS} : ev c 0 46 [l0, l1] L2 [aR (6, j, t), t0] S = ck (c 5 [aR (6, j, t)] S) (fun v S' => ev c 0 49 [l0, l1] L2 (v.toList ++ [t0]) S') := ev_call i0_46 rfl
theorem i0_49 : insAt 0 49 = some (.astore_n 1, 1, (0, 0, 0, 0), 0) := rfl
theorem s0_49 {c : Nat → List AV → SS → Option Out} {l0 l1 : Option AV} {o : OId} {L2 : List (Nat × AV)} {St : List AV} {S : SS} : ev c 0 49 [l0, l1] L2 (aR o :: St) S = ev c 0 50 [l0, some (aR o)] (kil L2 1) St S := ev_go i0_49 rfl
theorem i0_50 : insAt 0 50 = some (.aload_n 0, 1, (0, 0, 0, 0), 0) := rfl
theorem s0_50 {c : Nat → List AV → SS → Option Out} {l1 : Option AV} {o : OId} {L2 : List (Nat × AV)} {St : List AV} {S : SS} : ev c 0 50 [some (aR o), l1] L2 St S = ev c 0 51 [some (aR o), l1] L2 (aR o :: St) S := ev_go i0_50 rfl
theorem i0_51 : insAt 0 51 = some (.new 33, 3, (8, 0, 0, 0), 0) := rfl
theorem i0_54 : insAt 0 54 = some (.dup, 1, (0, 0, 0, 0), 0) := rfl
theorem s0_54 {c : Nat → List AV → SS → Option Out} {l0 l1 : Option AV} {x : OId} {L2 : List (Nat × AV)} {St : List AV} {S : SS} : ev c 0 54 [l0, l1] L2 (aR x :: St) S = ev c 0 55 [l0, l1] L2 (aR x :: aR x :: St) S := ev_go i0_54 rfl
theorem i0_55 : insAt 0 55 = some (.aload_n 1, 1, (0, 0, 0, 0), 0) := rfl
theorem s0_55 {c : Nat → List AV → SS → Option Out} {l0 : Option AV} {o : OId} {L2 : List (Nat × AV)} {St : List AV} {S : SS} : ev c 0 55 [l0, some (aR o)] L2 St S = ev c 0 56 [l0, some (aR o)] L2 (aR o :: St) S := ev_go i0_55 rfl
theorem i0_56 : insAt 0 56 = some (.invokespecial 35, 3, (6, 1, 6, 8), 0) := rfl
theorem s0_56 {c : Nat → List AV → SS → Option Out} {l0 l1 : Option AV} {t0 t1 : AV} {a0 : OId} {j t : Nat} {L2 : List (Nat × AV)} {S : SS} : ev c 0 56 [l0, l1] L2 [aR a0, aR (8, j, t), t0, t1] S = ck (c 6 [aR (8, j, t), aR a0] S) (fun v S' => ev c 0 59 [l0, l1] L2 (v.toList ++ [t0, t1]) S') := ev_call i0_56 rfl
theorem i0_59 : insAt 0 59 = some (.putfield 38, 3, (11, 4, 0, 0), 0) := rfl
theorem s0_59 {c : Nat → List AV → SS → Option Out} {l0 l1 : Option AV} {j t : Nat} {p : OId} {L2 : List (Nat × AV)} {St : List AV} {S : SS} : ev c 0 59 [l0, l1] L2 (aR p :: aR (11, j, t) :: St) S = ev c 0 62 [l0, l1] L2 St (S.1, S.2.1, setV S.2.2.1 (11, j, t) 4 (aR p), S.2.2.2) := ev_go i0_59 rfl
theorem i0_62 : insAt 0 62 = some (.aload_n 0, 1, (0, 0, 0, 0), 0) := rfl
theorem s0_62 {c : Nat → List AV → SS → Option Out} {l1 : Option AV} {o : OId} {L2 : List (Nat × AV)} {St : List AV} {S : SS} : ev c 0 62 [some (aR o), l1] L2 St S = ev c 0 63 [some (aR o), l1] L2 (aR o :: St) S := ev_go i0_62 rfl
theorem i0_63 : insAt 0 63 = some (.new 42, 3, (9, 0, 0, 0), 0) := rfl
theorem i0_66 : insAt 0 66 = some (.dup, 1, (0, 0, 0, 0), 0) := rfl
theorem s0_66 {c : Nat → List AV → SS → Option Out} {l0 l1 : Option AV} {x : OId} {L2 : List (Nat × AV)} {St : List AV} {S : SS} : ev c 0 66 [l0, l1] L2 (aR x :: St) S = ev c 0 67 [l0, l1] L2 (aR x :: aR x :: St) S := ev_go i0_66 rfl
theorem i0_67 : insAt 0 67 = some (.aload_n 1, 1, (0, 0, 0, 0), 0) := rfl
theorem s0_67 {c : Nat → List AV → SS → Option Out} {l0 : Option AV} {o : OId} {L2 : List (Nat × AV)} {St : List AV} {S : SS} : ev c 0 67 [l0, some (aR o)] L2 St S = ev c 0 68 [l0, some (aR o)] L2 (aR o :: St) S := ev_go i0_67 rfl
theorem i0_68 : insAt 0 68 = some (.invokespecial 44, 3, (7, 1, 6, 9), 0) := rfl
theorem s0_68 {c : Nat → List AV → SS → Option Out} {l0 l1 : Option AV} {t0 t1 : AV} {a0 : OId} {j t : Nat} {L2 : List (Nat × AV)} {S : SS} : ev c 0 68 [l0, l1] L2 [aR a0, aR (9, j, t), t0, t1] S = ck (c 7 [aR (9, j, t), aR a0] S) (fun v S' => ev c 0 71 [l0, l1] L2 (v.toList ++ [t0, t1]) S') := ev_call i0_68 rfl
theorem i0_71 : insAt 0 71 = some (.putfield 45, 3, (11, 5, 0, 0), 0) := rfl
theorem s0_71 {c : Nat → List AV → SS → Option Out} {l0 l1 : Option AV} {j t : Nat} {p : OId} {L2 : List (Nat × AV)} {St : List AV} {S : SS} : ev c 0 71 [l0, l1] L2 (aR p :: aR (11, j, t) :: St) S = ev c 0 74 [l0, l1] L2 St (S.1, S.2.1, setV S.2.2.1 (11, j, t) 5 (aR p), S.2.2.2) := ev_go i0_71 rfl
theorem i0_74 : insAt 0 74 = some (.aload_n 0, 1, (0, 0, 0, 0), 0) := rfl
theorem s0_74 {c : Nat → List AV → SS → Option Out} {l1 : Option AV} {o : OId} {L2 : List (Nat × AV)} {St : List AV} {S : SS} : ev c 0 74 [some (aR o), l1] L2 St S = ev c 0 75 [some (aR o), l1] L2 (aR o :: St) S := ev_go i0_74 rfl
theorem i0_75 : insAt 0 75 = some (.new 49, 3, (1, 0, 0, 0), 0) := rfl
theorem i0_78 : insAt 0 78 = some (.dup, 1, (0, 0, 0, 0), 0) := rfl
theorem s0_78 {c : Nat → List AV → SS → Option Out} {l0 l1 : Option AV} {x : OId} {L2 : List (Nat × AV)} {St : List AV} {S : SS} : ev c 0 78 [l0, l1] L2 (aR x :: St) S = ev c 0 79 [l0, l1] L2 (aR x :: aR x :: St) S := ev_go i0_78 rfl
theorem i0_79 : insAt 0 79 = some (.invokespecial 51, 3, (8, 0, 5, 1), 0) := rfl
theorem s0_79 {c : Nat → List AV → SS → Option Out} {l0 l1 : Option AV} {t0 t1 : AV} {j t : Nat} {L2 : List (Nat × AV)} {S : SS} : ev c 0 79 [l0, l1] L2 [aR (1, j, t), t0, t1] S = ck (c 8 [aR (1, j, t)] S) (fun v S' => ev c 0 82 [l0, l1] L2 (v.toList ++ [t0, t1]) S') := ev_call i0_79 rfl
theorem i0_82 : insAt 0 82 = some (.putfield 52, 3, (11, 6, 0, 0), 0) := rfl
theorem s0_82 {c : Nat → List AV → SS → Option Out} {l0 l1 : Option AV} {j t : Nat} {p : OId} {L2 : List (Nat × AV)} {St : List AV} {S : SS} : ev c 0 82 [l0, l1] L2 (aR p :: aR (11, j, t) :: St) S = ev c 0 85 [l0, l1] L2 St (S.1, S.2.1, setV S.2.2.1 (11, j, t) 6 (aR p), S.2.2.2) := ev_go i0_82 rfl
theorem i0_85 : insAt 0 85 = some (.return_, 1, (0, 0, 0, 0), 0) := rfl
theorem s0_85 {c : Nat → List AV → SS → Option Out} {l0 l1 : Option AV} {L2 : List (Nat × AV)} {St : List AV} {S : SS} : ev c 0 85 [l0, l1] L2 [] S = some (.inl none, S) := ev_end i0_85 rfl
theorem m0 {d : Nat} {o : OId} {S : SS} : evm (d + 1) 0 [aR o] S = ev (evm d) 0 0 [some (aR o), none] [] [] S := evm_s (n := 2) rfl (Nat.le_of_ble_eq_true rfl) rfl rfl
/-! FrequencyOffice.nearRadius()I -/
theorem i10_0 : insAt 10 0 = some (.aload_n 0, 1, (0, 0, 0, 0), 0) := rfl
theorem s10_0 {c : Nat → List AV → SS → Option Out} {o : OId} {L2 : List (Nat × AV)} {St : List AV} {S : SS} : ev c 10 0 [some (aR o)] L2 St S = ev c 10 1 [some (aR o)] L2 (aR o :: St) S := ev_go i10_0 rfl
theorem i10_1 : insAt 10 1 = some (.getfield 10, 3, (11, 0, 0, 0), 0) := rfl
theorem s10_1 {c : Nat → List AV → SS → Option Out} {l0 : Option AV} {j t : Nat} {L2 : List (Nat × AV)} {St : List AV} {S : SS} : ev c 10 1 [l0] L2 (aR (11, j, t) :: St) S = ev c 10 4 [l0] L2 (S.2.2.1 (11, j, t) 0 :: St) S := ev_go i10_1 rfl
theorem i10_4 : insAt 10 4 = some (.getfield 78, 3, (4, 0, 1, 0), 0) := rfl
theorem s10_4 {c : Nat → List AV → SS → Option Out} {l0 : Option AV} {j t : Nat} {L2 : List (Nat × AV)} {St : List AV} {S : SS} : ev c 10 4 [l0] L2 (aR (4, j, t) :: St) S = ev c 10 7 [l0] L2 (aI (S.1 (4, j, t) 0) :: St) S := ev_go i10_4 rfl
theorem i10_7 : insAt 10 7 = some (.ireturn, 1, (0, 0, 0, 0), 0) := rfl
theorem s10_7 {c : Nat → List AV → SS → Option Out} {l0 : Option AV} {x : Int32} {L2 : List (Nat × AV)} {St : List AV} {S : SS} : ev c 10 7 [l0] L2 [aI x] S = some (.inl (some (aI x)), S) := ev_end i10_7 rfl
theorem m10 {d : Nat} {o : OId} {S : SS} : evm (d + 1) 10 [aR o] S = ev (evm d) 10 0 [some (aR o)] [] [] S := evm_s (n := 1) rfl (Nat.le_of_ble_eq_true rfl) rfl rfl
/-! FrequencyOffice.middleRadius()I -/
theorem i11_0 : insAt 11 0 = some (.aload_n 0, 1, (0, 0, 0, 0), 0) := rfl
theorem s11_0 {c : Nat → List AV → SS → Option Out} {o : OId} {L2 : List (Nat × AV)} {St : List AV} {S : SS} : ev c 11 0 [some (aR o)] L2 St S = ev c 11 1 [some (aR o)] L2 (aR o :: St) S := ev_go i11_0 rfl
theorem i11_1 : insAt 11 1 = some (.getfield 10, 3, (11, 0, 0, 0), 0) := rfl
theorem s11_1 {c : Nat → List AV → SS → Option Out} {l0 : Option AV} {j t : Nat} {L2 : List (Nat × AV)} {St : List AV} {S : SS} : ev c 11 1 [l0] L2 (aR (11, j, t) :: St) S = ev c 11 4 [l0] L2 (S.2.2.1 (11, j, t) 0 :: St) S := ev_go i11_1 rfl
theorem i11_4 : insAt 11 4 = some (.getfield 81, 3, (4, 1, 1, 0), 0) := rfl
theorem s11_4 {c : Nat → List AV → SS → Option Out} {l0 : Option AV} {j t : Nat} {L2 : List (Nat × AV)} {St : List AV} {S : SS} : ev c 11 4 [l0] L2 (aR (4, j, t) :: St) S = ev c 11 7 [l0] L2 (aI (S.1 (4, j, t) 1) :: St) S := ev_go i11_4 rfl
theorem i11_7 : insAt 11 7 = some (.ireturn, 1, (0, 0, 0, 0), 0) := rfl
theorem s11_7 {c : Nat → List AV → SS → Option Out} {l0 : Option AV} {x : Int32} {L2 : List (Nat × AV)} {St : List AV} {S : SS} : ev c 11 7 [l0] L2 [aI x] S = some (.inl (some (aI x)), S) := ev_end i11_7 rfl
theorem m11 {d : Nat} {o : OId} {S : SS} : evm (d + 1) 11 [aR o] S = ev (evm d) 11 0 [some (aR o)] [] [] S := evm_s (n := 1) rfl (Nat.le_of_ble_eq_true rfl) rfl rfl
/-! FrequencyOffice.farRadius()I -/
theorem i12_0 : insAt 12 0 = some (.aload_n 0, 1, (0, 0, 0, 0), 0) := rfl
theorem s12_0 {c : Nat → List AV → SS → Option Out} {o : OId} {L2 : List (Nat × AV)} {St : List AV} {S : SS} : ev c 12 0 [some (aR o)] L2 St S = ev c 12 1 [some (aR o)] L2 (aR o :: St) S := ev_go i12_0 rfl
theorem i12_1 : insAt 12 1 = some (.getfield 10, 3, (11, 0, 0, 0), 0) := rfl
theorem s12_1 {c : Nat → List AV → SS → Option Out} {l0 : Option AV} {j t : Nat} {L2 : List (Nat × AV)} {St : List AV} {S : SS} : ev c 12 1 [l0] L2 (aR (11, j, t) :: St) S = ev c 12 4 [l0] L2 (S.2.2.1 (11, j, t) 0 :: St) S := ev_go i12_1 rfl
theorem i12_4 : insAt 12 4 = some (.getfield 75, 3, (4, 2, 1, 0), 0) := rfl
theorem s12_4 {c : Nat → List AV → SS → Option Out} {l0 : Option AV} {j t : Nat} {L2 : List (Nat × AV)} {St : List AV} {S : SS} : ev c 12 4 [l0] L2 (aR (4, j, t) :: St) S = ev c 12 7 [l0] L2 (aI (S.1 (4, j, t) 2) :: St) S := ev_go i12_4 rfl
theorem i12_7 : insAt 12 7 = some (.ireturn, 1, (0, 0, 0, 0), 0) := rfl
theorem s12_7 {c : Nat → List AV → SS → Option Out} {l0 : Option AV} {x : Int32} {L2 : List (Nat × AV)} {St : List AV} {S : SS} : ev c 12 7 [l0] L2 [aI x] S = some (.inl (some (aI x)), S) := ev_end i12_7 rfl
theorem m12 {d : Nat} {o : OId} {S : SS} : evm (d + 1) 12 [aR o] S = ev (evm d) 12 0 [some (aR o)] [] [] S := evm_s (n := 1) rfl (Nat.le_of_ble_eq_true rfl) rfl rfl
/-! FrequencyOffice.today()I -/
theorem i13_0 : insAt 13 0 = some (.aload_n 0, 1, (0, 0, 0, 0), 0) := rfl
theorem s13_0 {c : Nat → List AV → SS → Option Out} {o : OId} {L2 : List (Nat × AV)} {St : List AV} {S : SS} : ev c 13 0 [some (aR o)] L2 St S = ev c 13 1 [some (aR o)] L2 (aR o :: St) S := ev_go i13_0 rfl
theorem i13_1 : insAt 13 1 = some (.getfield 10, 3, (11, 0, 0, 0), 0) := rfl
theorem s13_1 {c : Nat → List AV → SS → Option Out} {l0 : Option AV} {j t : Nat} {L2 : List (Nat × AV)} {St : List AV} {S : SS} : ev c 13 1 [l0] L2 (aR (11, j, t) :: St) S = ev c 13 4 [l0] L2 (S.2.2.1 (11, j, t) 0 :: St) S := ev_go i13_1 rfl
theorem i13_4 : insAt 13 4 = some (.getfield 98, 3, (4, 3, 1, 0), 0) := rfl
theorem s13_4 {c : Nat → List AV → SS → Option Out} {l0 : Option AV} {j t : Nat} {L2 : List (Nat × AV)} {St : List AV} {S : SS} : ev c 13 4 [l0] L2 (aR (4, j, t) :: St) S = ev c 13 7 [l0] L2 (aI (S.1 (4, j, t) 3) :: St) S := ev_go i13_4 rfl
theorem i13_7 : insAt 13 7 = some (.ireturn, 1, (0, 0, 0, 0), 0) := rfl
theorem s13_7 {c : Nat → List AV → SS → Option Out} {l0 : Option AV} {x : Int32} {L2 : List (Nat × AV)} {St : List AV} {S : SS} : ev c 13 7 [l0] L2 [aI x] S = some (.inl (some (aI x)), S) := ev_end i13_7 rfl
theorem m13 {d : Nat} {o : OId} {S : SS} : evm (d + 1) 13 [aR o] S = ev (evm d) 13 0 [some (aR o)] [] [] S := evm_s (n := 1) rfl (Nat.le_of_ble_eq_true rfl) rfl rfl
/-! FrequencyOffice.stationCount()I -/
theorem i14_0 : insAt 14 0 = some (.aload_n 0, 1, (0, 0, 0, 0), 0) := rfl
theorem s14_0 {c : Nat → List AV → SS → Option Out} {o : OId} {L2 : List (Nat × AV)} {St : List AV} {S : SS} : ev c 14 0 [some (aR o)] L2 St S = ev c 14 1 [some (aR o)] L2 (aR o :: St) S := ev_go i14_0 rfl
theorem i14_1 : insAt 14 1 = some (.getfield 10, 3, (11, 0, 0, 0), 0) := rfl
theorem s14_1 {c : Nat → List AV → SS → Option Out} {l0 : Option AV} {j t : Nat} {L2 : List (Nat × AV)} {St : List AV} {S : SS} : ev c 14 1 [l0] L2 (aR (11, j, t) :: St) S = ev c 14 4 [l0] L2 (S.2.2.1 (11, j, t) 0 :: St) S := ev_go i14_1 rfl
theorem i14_4 : insAt 14 4 = some (.getfield 60, 3, (4, 7, 1, 0), 0) := rfl
theorem s14_4 {c : Nat → List AV → SS → Option Out} {l0 : Option AV} {j t : Nat} {L2 : List (Nat × AV)} {St : List AV} {S : SS} : ev c 14 4 [l0] L2 (aR (4, j, t) :: St) S = ev c 14 7 [l0] L2 (aI (S.1 (4, j, t) 7) :: St) S := ev_go i14_4 rfl
theorem i14_7 : insAt 14 7 = some (.ireturn, 1, (0, 0, 0, 0), 0) := rfl
theorem s14_7 {c : Nat → List AV → SS → Option Out} {l0 : Option AV} {x : Int32} {L2 : List (Nat × AV)} {St : List AV} {S : SS} : ev c 14 7 [l0] L2 [aI x] S = some (.inl (some (aI x)), S) := ev_end i14_7 rfl
theorem m14 {d : Nat} {o : OId} {S : SS} : evm (d + 1) 14 [aR o] S = ev (evm d) 14 0 [some (aR o)] [] [] S := evm_s (n := 1) rfl (Nat.le_of_ble_eq_true rfl) rfl rfl
/-! FrequencyOffice.licensedCount()I -/
theorem i15_0 : insAt 15 0 = some (.aload_n 0, 1, (0, 0, 0, 0), 0) := rfl
theorem s15_0 {c : Nat → List AV → SS → Option Out} {o : OId} {L2 : List (Nat × AV)} {St : List AV} {S : SS} : ev c 15 0 [some (aR o)] L2 St S = ev c 15 1 [some (aR o)] L2 (aR o :: St) S := ev_go i15_0 rfl
theorem i15_1 : insAt 15 1 = some (.getfield 10, 3, (11, 0, 0, 0), 0) := rfl
theorem s15_1 {c : Nat → List AV → SS → Option Out} {l0 : Option AV} {j t : Nat} {L2 : List (Nat × AV)} {St : List AV} {S : SS} : ev c 15 1 [l0] L2 (aR (11, j, t) :: St) S = ev c 15 4 [l0] L2 (S.2.2.1 (11, j, t) 0 :: St) S := ev_go i15_1 rfl
theorem i15_4 : insAt 15 4 = some (.invokevirtual 164, 3, (16, 0, 3, 4), 0) := rfl
theorem s15_4 {c : Nat → List AV → SS → Option Out} {l0 : Option AV} {j t : Nat} {L2 : List (Nat × AV)} {S : SS} : ev c 15 4 [l0] L2 [aR (4, j, t)] S = ck (c 16 [aR (4, j, t)] S) (fun v S' => ev c 15 7 [l0] L2 (v.toList ++ []) S') := ev_call i15_4 rfl
theorem i15_7 : insAt 15 7 = some (.ireturn, 1, (0, 0, 0, 0), 0) := rfl
theorem s15_7 {c : Nat → List AV → SS → Option Out} {l0 : Option AV} {x : Int32} {L2 : List (Nat × AV)} {St : List AV} {S : SS} : ev c 15 7 [l0] L2 [aI x] S = some (.inl (some (aI x)), S) := ev_end i15_7 rfl
theorem m15 {d : Nat} {o : OId} {S : SS} : evm (d + 1) 15 [aR o] S = ev (evm d) 15 0 [some (aR o)] [] [] S := evm_s (n := 1) rfl (Nat.le_of_ble_eq_true rfl) rfl rfl
/-! FrequencyOffice.exists(I)Z -/
theorem i18_0 : insAt 18 0 = some (.aload_n 0, 1, (0, 0, 0, 0), 0) := rfl
theorem s18_0 {c : Nat → List AV → SS → Option Out} {l1 : Option AV} {o : OId} {L2 : List (Nat × AV)} {St : List AV} {S : SS} : ev c 18 0 [some (aR o), l1] L2 St S = ev c 18 1 [some (aR o), l1] L2 (aR o :: St) S := ev_go i18_0 rfl
theorem i18_1 : insAt 18 1 = some (.getfield 10, 3, (11, 0, 0, 0), 0) := rfl
theorem s18_1 {c : Nat → List AV → SS → Option Out} {l0 l1 : Option AV} {j t : Nat} {L2 : List (Nat × AV)} {St : List AV} {S : SS} : ev c 18 1 [l0, l1] L2 (aR (11, j, t) :: St) S = ev c 18 4 [l0, l1] L2 (S.2.2.1 (11, j, t) 0 :: St) S := ev_go i18_1 rfl
theorem i18_4 : insAt 18 4 = some (.iload_n 1, 1, (0, 0, 0, 0), 0) := rfl
theorem s18_4 {c : Nat → List AV → SS → Option Out} {l0 : Option AV} {x : Int32} {L2 : List (Nat × AV)} {St : List AV} {S : SS} : ev c 18 4 [l0, some (aI x)] L2 St S = ev c 18 5 [l0, some (aI x)] L2 (aI x :: St) S := ev_go i18_4 rfl
theorem i18_5 : insAt 18 5 = some (.invokevirtual 168, 3, (19, 1, 3, 4), 0) := rfl
theorem s18_5 {c : Nat → List AV → SS → Option Out} {l0 l1 : Option AV} {a0 : Int32} {j t : Nat} {L2 : List (Nat × AV)} {S : SS} : ev c 18 5 [l0, l1] L2 [aI a0, aR (4, j, t)] S = ck (c 19 [aR (4, j, t), aI a0] S) (fun v S' => ev c 18 8 [l0, l1] L2 (v.toList ++ []) S') := ev_call i18_5 rfl
theorem i18_8 : insAt 18 8 = some (.iconst (-1), 1, (0, 0, 0, 0), 0) := rfl
theorem s18_8 {c : Nat → List AV → SS → Option Out} {l0 l1 : Option AV} {L2 : List (Nat × AV)} {St : List AV} {S : SS} : ev c 18 8 [l0, l1] L2 St S = ev c 18 9 [l0, l1] L2 (aI (-1) :: St) S := ev_go i18_8 rfl
theorem i18_9 : insAt 18 9 = some (.if_icmp .eq 7, 3, (0, 0, 0, 0), 0) := rfl
theorem s18_9 {c : Nat → List AV → SS → Option Out} {l0 l1 : Option AV} {x y : Int32} {L2 : List (Nat × AV)} {St : List AV} {S : SS} : ev c 18 9 [l0, l1] L2 (aI y :: aI x :: St) S = if x = y then ev c 18 16 [l0, l1] L2 St S else ev c 18 12 [l0, l1] L2 St S := ev_br i18_9 rfl
theorem i18_12 : insAt 18 12 = some (.iconst 1, 1, (0, 0, 0, 0), 0) := rfl
theorem s18_12 {c : Nat → List AV → SS → Option Out} {l0 l1 : Option AV} {L2 : List (Nat × AV)} {St : List AV} {S : SS} : ev c 18 12 [l0, l1] L2 St S = ev c 18 13 [l0, l1] L2 (aI 1 :: St) S := ev_go i18_12 rfl
theorem i18_13 : insAt 18 13 = some (.goto 4, 3, (0, 0, 0, 0), 0) := rfl
theorem s18_13 {c : Nat → List AV → SS → Option Out} {l0 l1 : Option AV} {L2 : List (Nat × AV)} {St : List AV} {S : SS} : ev c 18 13 [l0, l1] L2 St S = ev c 18 17 [l0, l1] L2 St S := ev_go i18_13 rfl
theorem i18_16 : insAt 18 16 = some (.iconst 0, 1, (0, 0, 0, 0), 0) := rfl
theorem s18_16 {c : Nat → List AV → SS → Option Out} {l0 l1 : Option AV} {L2 : List (Nat × AV)} {St : List AV} {S : SS} : ev c 18 16 [l0, l1] L2 St S = ev c 18 17 [l0, l1] L2 (aI 0 :: St) S := ev_go i18_16 rfl
theorem i18_17 : insAt 18 17 = some (.ireturn, 1, (0, 0, 0, 0), 0) := rfl
theorem s18_17 {c : Nat → List AV → SS → Option Out} {l0 l1 : Option AV} {x : Int32} {L2 : List (Nat × AV)} {St : List AV} {S : SS} : ev c 18 17 [l0, l1] L2 [aI x] S = if x = 0 ∨ x = 1 then some (.inl (some (aI x)), S) else none := ev_rt i18_17 rfl
theorem m18 {d : Nat} {o : OId} {a0 : Int32} {S : SS} : evm (d + 1) 18 [aR o, aI a0] S = ev (evm d) 18 0 [some (aR o), some (aI a0)] [] [] S := evm_s (n := 2) rfl (Nat.le_of_ble_eq_true rfl) rfl rfl
/-! FrequencyOffice.expiredTotal()I -/
theorem i20_0 : insAt 20 0 = some (.aload_n 0, 1, (0, 0, 0, 0), 0) := rfl
theorem s20_0 {c : Nat → List AV → SS → Option Out} {o : OId} {L2 : List (Nat × AV)} {St : List AV} {S : SS} : ev c 20 0 [some (aR o)] L2 St S = ev c 20 1 [some (aR o)] L2 (aR o :: St) S := ev_go i20_0 rfl
theorem i20_1 : insAt 20 1 = some (.getfield 10, 3, (11, 0, 0, 0), 0) := rfl
theorem s20_1 {c : Nat → List AV → SS → Option Out} {l0 : Option AV} {j t : Nat} {L2 : List (Nat × AV)} {St : List AV} {S : SS} : ev c 20 1 [l0] L2 (aR (11, j, t) :: St) S = ev c 20 4 [l0] L2 (S.2.2.1 (11, j, t) 0 :: St) S := ev_go i20_1 rfl
theorem i20_4 : insAt 20 4 = some (.getfield 158, 3, (4, 5, 1, 0), 0) := rfl
theorem s20_4 {c : Nat → List AV → SS → Option Out} {l0 : Option AV} {j t : Nat} {L2 : List (Nat × AV)} {St : List AV} {S : SS} : ev c 20 4 [l0] L2 (aR (4, j, t) :: St) S = ev c 20 7 [l0] L2 (aI (S.1 (4, j, t) 5) :: St) S := ev_go i20_4 rfl
theorem i20_7 : insAt 20 7 = some (.ireturn, 1, (0, 0, 0, 0), 0) := rfl
theorem s20_7 {c : Nat → List AV → SS → Option Out} {l0 : Option AV} {x : Int32} {L2 : List (Nat × AV)} {St : List AV} {S : SS} : ev c 20 7 [l0] L2 [aI x] S = some (.inl (some (aI x)), S) := ev_end i20_7 rfl
theorem m20 {d : Nat} {o : OId} {S : SS} : evm (d + 1) 20 [aR o] S = ev (evm d) 20 0 [some (aR o)] [] [] S := evm_s (n := 1) rfl (Nat.le_of_ble_eq_true rfl) rfl rfl
/-! FrequencyOffice.endedTrials()I -/
theorem i21_0 : insAt 21 0 = some (.aload_n 0, 1, (0, 0, 0, 0), 0) := rfl
theorem s21_0 {c : Nat → List AV → SS → Option Out} {o : OId} {L2 : List (Nat × AV)} {St : List AV} {S : SS} : ev c 21 0 [some (aR o)] L2 St S = ev c 21 1 [some (aR o)] L2 (aR o :: St) S := ev_go i21_0 rfl
theorem i21_1 : insAt 21 1 = some (.getfield 10, 3, (11, 0, 0, 0), 0) := rfl
theorem s21_1 {c : Nat → List AV → SS → Option Out} {l0 : Option AV} {j t : Nat} {L2 : List (Nat × AV)} {St : List AV} {S : SS} : ev c 21 1 [l0] L2 (aR (11, j, t) :: St) S = ev c 21 4 [l0] L2 (S.2.2.1 (11, j, t) 0 :: St) S := ev_go i21_1 rfl
theorem i21_4 : insAt 21 4 = some (.getfield 186, 3, (4, 6, 1, 0), 0) := rfl
theorem s21_4 {c : Nat → List AV → SS → Option Out} {l0 : Option AV} {j t : Nat} {L2 : List (Nat × AV)} {St : List AV} {S : SS} : ev c 21 4 [l0] L2 (aR (4, j, t) :: St) S = ev c 21 7 [l0] L2 (aI (S.1 (4, j, t) 6) :: St) S := ev_go i21_4 rfl
theorem i21_7 : insAt 21 7 = some (.ireturn, 1, (0, 0, 0, 0), 0) := rfl
theorem s21_7 {c : Nat → List AV → SS → Option Out} {l0 : Option AV} {x : Int32} {L2 : List (Nat × AV)} {St : List AV} {S : SS} : ev c 21 7 [l0] L2 [aI x] S = some (.inl (some (aI x)), S) := ev_end i21_7 rfl
theorem m21 {d : Nat} {o : OId} {S : SS} : evm (d + 1) 21 [aR o] S = ev (evm d) 21 0 [some (aR o)] [] [] S := evm_s (n := 1) rfl (Nat.le_of_ble_eq_true rfl) rfl rfl
/-! FrequencyOffice.isConsistent()Z -/
theorem i22_0 : insAt 22 0 = some (.iconst 0, 1, (0, 0, 0, 0), 0) := rfl
theorem s22_0 {c : Nat → List AV → SS → Option Out} {l0 l1 : Option AV} {L2 : List (Nat × AV)} {St : List AV} {S : SS} : ev c 22 0 [l0, l1] L2 St S = ev c 22 1 [l0, l1] L2 (aI 0 :: St) S := ev_go i22_0 rfl
theorem i22_1 : insAt 22 1 = some (.istore_n 1, 1, (0, 0, 0, 0), 0) := rfl
theorem s22_1 {c : Nat → List AV → SS → Option Out} {l0 l1 : Option AV} {x : Int32} {L2 : List (Nat × AV)} {St : List AV} {S : SS} : ev c 22 1 [l0, l1] L2 (aI x :: St) S = ev c 22 2 [l0, some (aI x)] (kil L2 1) St S := ev_go i22_1 rfl
theorem i22_2 : insAt 22 2 = some (.iload_n 1, 1, (0, 0, 0, 0), 0) := rfl
theorem s22_2 {c : Nat → List AV → SS → Option Out} {l0 : Option AV} {x : Int32} {L2 : List (Nat × AV)} {St : List AV} {S : SS} : ev c 22 2 [l0, some (aI x)] L2 St S = ev c 22 3 [l0, some (aI x)] L2 (aI x :: St) S := ev_go i22_2 rfl
theorem i22_3 : insAt 22 3 = some (.aload_n 0, 1, (0, 0, 0, 0), 0) := rfl
theorem s22_3 {c : Nat → List AV → SS → Option Out} {l1 : Option AV} {o : OId} {L2 : List (Nat × AV)} {St : List AV} {S : SS} : ev c 22 3 [some (aR o), l1] L2 St S = ev c 22 4 [some (aR o), l1] L2 (aR o :: St) S := ev_go i22_3 rfl
theorem i22_4 : insAt 22 4 = some (.getfield 10, 3, (11, 0, 0, 0), 0) := rfl
theorem s22_4 {c : Nat → List AV → SS → Option Out} {l0 l1 : Option AV} {j t : Nat} {L2 : List (Nat × AV)} {St : List AV} {S : SS} : ev c 22 4 [l0, l1] L2 (aR (11, j, t) :: St) S = ev c 22 7 [l0, l1] L2 (S.2.2.1 (11, j, t) 0 :: St) S := ev_go i22_4 rfl
theorem i22_7 : insAt 22 7 = some (.getfield 60, 3, (4, 7, 1, 0), 0) := rfl
theorem s22_7 {c : Nat → List AV → SS → Option Out} {l0 l1 : Option AV} {j t : Nat} {L2 : List (Nat × AV)} {St : List AV} {S : SS} : ev c 22 7 [l0, l1] L2 (aR (4, j, t) :: St) S = ev c 22 10 [l0, l1] L2 (aI (S.1 (4, j, t) 7) :: St) S := ev_go i22_7 rfl
theorem i22_10 : insAt 22 10 = some (.if_icmp .ge 43, 3, (0, 0, 0, 0), 0) := rfl
theorem s22_10 {c : Nat → List AV → SS → Option Out} {l0 l1 : Option AV} {x y : Int32} {L2 : List (Nat × AV)} {St : List AV} {S : SS} : ev c 22 10 [l0, l1] L2 (aI y :: aI x :: St) S = if y ≤ x then ev c 22 53 [l0, l1] L2 St S else ev c 22 13 [l0, l1] L2 St S := ev_br i22_10 rfl
theorem i22_13 : insAt 22 13 = some (.aload_n 0, 1, (0, 0, 0, 0), 0) := rfl
theorem s22_13 {c : Nat → List AV → SS → Option Out} {l1 : Option AV} {o : OId} {L2 : List (Nat × AV)} {St : List AV} {S : SS} : ev c 22 13 [some (aR o), l1] L2 St S = ev c 22 14 [some (aR o), l1] L2 (aR o :: St) S := ev_go i22_13 rfl
theorem i22_14 : insAt 22 14 = some (.getfield 10, 3, (11, 0, 0, 0), 0) := rfl
theorem s22_14 {c : Nat → List AV → SS → Option Out} {l0 l1 : Option AV} {j t : Nat} {L2 : List (Nat × AV)} {St : List AV} {S : SS} : ev c 22 14 [l0, l1] L2 (aR (11, j, t) :: St) S = ev c 22 17 [l0, l1] L2 (S.2.2.1 (11, j, t) 0 :: St) S := ev_go i22_14 rfl
theorem i22_17 : insAt 22 17 = some (.iload_n 1, 1, (0, 0, 0, 0), 0) := rfl
theorem s22_17 {c : Nat → List AV → SS → Option Out} {l0 : Option AV} {x : Int32} {L2 : List (Nat × AV)} {St : List AV} {S : SS} : ev c 22 17 [l0, some (aI x)] L2 St S = ev c 22 18 [l0, some (aI x)] L2 (aI x :: St) S := ev_go i22_17 rfl
theorem i22_18 : insAt 22 18 = some (.invokevirtual 125, 3, (17, 1, 3, 4), 0) := rfl
theorem s22_18 {c : Nat → List AV → SS → Option Out} {l0 l1 : Option AV} {a0 : Int32} {j t : Nat} {L2 : List (Nat × AV)} {S : SS} : ev c 22 18 [l0, l1] L2 [aI a0, aR (4, j, t)] S = ck (c 17 [aR (4, j, t), aI a0] S) (fun v S' => ev c 22 21 [l0, l1] L2 (v.toList ++ []) S') := ev_call i22_18 rfl
theorem i22_21 : insAt 22 21 = some (.getfield 143, 3, (10, 4, 1, 0), 0) := rfl
theorem s22_21 {c : Nat → List AV → SS → Option Out} {l0 l1 : Option AV} {j t : Nat} {L2 : List (Nat × AV)} {St : List AV} {S : SS} : ev c 22 21 [l0, l1] L2 (aR (10, j, t) :: St) S = ev c 22 24 [l0, l1] L2 (aI (S.1 (10, j, t) 4) :: St) S := ev_go i22_21 rfl
theorem i22_24 : insAt 22 24 = some (.aload_n 0, 1, (0, 0, 0, 0), 0) := rfl
theorem s22_24 {c : Nat → List AV → SS → Option Out} {l1 : Option AV} {o : OId} {L2 : List (Nat × AV)} {St : List AV} {S : SS} : ev c 22 24 [some (aR o), l1] L2 St S = ev c 22 25 [some (aR o), l1] L2 (aR o :: St) S := ev_go i22_24 rfl
theorem i22_25 : insAt 22 25 = some (.getfield 10, 3, (11, 0, 0, 0), 0) := rfl
theorem s22_25 {c : Nat → List AV → SS → Option Out} {l0 l1 : Option AV} {j t : Nat} {L2 : List (Nat × AV)} {St : List AV} {S : SS} : ev c 22 25 [l0, l1] L2 (aR (11, j, t) :: St) S = ev c 22 28 [l0, l1] L2 (S.2.2.1 (11, j, t) 0 :: St) S := ev_go i22_25 rfl
theorem i22_28 : insAt 22 28 = some (.getfield 98, 3, (4, 3, 1, 0), 0) := rfl
theorem s22_28 {c : Nat → List AV → SS → Option Out} {l0 l1 : Option AV} {j t : Nat} {L2 : List (Nat × AV)} {St : List AV} {S : SS} : ev c 22 28 [l0, l1] L2 (aR (4, j, t) :: St) S = ev c 22 31 [l0, l1] L2 (aI (S.1 (4, j, t) 3) :: St) S := ev_go i22_28 rfl
theorem i22_31 : insAt 22 31 = some (.if_icmp .le 14, 3, (0, 0, 0, 0), 0) := rfl
theorem s22_31 {c : Nat → List AV → SS → Option Out} {l0 l1 : Option AV} {x y : Int32} {L2 : List (Nat × AV)} {St : List AV} {S : SS} : ev c 22 31 [l0, l1] L2 (aI y :: aI x :: St) S = if x ≤ y then ev c 22 45 [l0, l1] L2 St S else ev c 22 34 [l0, l1] L2 St S := ev_br i22_31 rfl
theorem i22_34 : insAt 22 34 = some (.aload_n 0, 1, (0, 0, 0, 0), 0) := rfl
theorem s22_34 {c : Nat → List AV → SS → Option Out} {l1 : Option AV} {o : OId} {L2 : List (Nat × AV)} {St : List AV} {S : SS} : ev c 22 34 [some (aR o), l1] L2 St S = ev c 22 35 [some (aR o), l1] L2 (aR o :: St) S := ev_go i22_34 rfl
theorem i22_35 : insAt 22 35 = some (.getfield 10, 3, (11, 0, 0, 0), 0) := rfl
theorem s22_35 {c : Nat → List AV → SS → Option Out} {l0 l1 : Option AV} {j t : Nat} {L2 : List (Nat × AV)} {St : List AV} {S : SS} : ev c 22 35 [l0, l1] L2 (aR (11, j, t) :: St) S = ev c 22 38 [l0, l1] L2 (S.2.2.1 (11, j, t) 0 :: St) S := ev_go i22_35 rfl
theorem i22_38 : insAt 22 38 = some (.iload_n 1, 1, (0, 0, 0, 0), 0) := rfl
theorem s22_38 {c : Nat → List AV → SS → Option Out} {l0 : Option AV} {x : Int32} {L2 : List (Nat × AV)} {St : List AV} {S : SS} : ev c 22 38 [l0, some (aI x)] L2 St S = ev c 22 39 [l0, some (aI x)] L2 (aI x :: St) S := ev_go i22_38 rfl
theorem i22_39 : insAt 22 39 = some (.invokevirtual 226, 3, (23, 1, 3, 4), 0) := rfl
theorem s22_39 {c : Nat → List AV → SS → Option Out} {l0 l1 : Option AV} {a0 : Int32} {j t : Nat} {L2 : List (Nat × AV)} {S : SS} : ev c 22 39 [l0, l1] L2 [aI a0, aR (4, j, t)] S = ck (c 23 [aR (4, j, t), aI a0] S) (fun v S' => ev c 22 42 [l0, l1] L2 (v.toList ++ []) S') := ev_call i22_39 rfl
theorem i22_42 : insAt 22 42 = some (.ifCond .eq 5, 3, (0, 0, 0, 0), 0) := rfl
theorem s22_42 {c : Nat → List AV → SS → Option Out} {l0 l1 : Option AV} {x : Int32} {L2 : List (Nat × AV)} {St : List AV} {S : SS} : ev c 22 42 [l0, l1] L2 (aI x :: St) S = if x = 0 then ev c 22 47 [l0, l1] L2 St S else ev c 22 45 [l0, l1] L2 St S := ev_br i22_42 rfl
theorem i22_45 : insAt 22 45 = some (.iconst 0, 1, (0, 0, 0, 0), 0) := rfl
theorem s22_45 {c : Nat → List AV → SS → Option Out} {l0 l1 : Option AV} {L2 : List (Nat × AV)} {St : List AV} {S : SS} : ev c 22 45 [l0, l1] L2 St S = ev c 22 46 [l0, l1] L2 (aI 0 :: St) S := ev_go i22_45 rfl
theorem i22_46 : insAt 22 46 = some (.ireturn, 1, (0, 0, 0, 0), 0) := rfl
theorem s22_46 {c : Nat → List AV → SS → Option Out} {l0 l1 : Option AV} {x : Int32} {L2 : List (Nat × AV)} {St : List AV} {S : SS} : ev c 22 46 [l0, l1] L2 [aI x] S = if x = 0 ∨ x = 1 then some (.inl (some (aI x)), S) else none := ev_rt i22_46 rfl
theorem i22_47 : insAt 22 47 = some (.iinc 1 1, 3, (0, 0, 0, 0), 0) := rfl
theorem s22_47 {c : Nat → List AV → SS → Option Out} {l0 : Option AV} {x : Int32} {L2 : List (Nat × AV)} {St : List AV} {S : SS} : ev c 22 47 [l0, some (aI x)] L2 St S = ev c 22 50 [l0, some (aI (x + 1))] (kil L2 1) St S := ev_go i22_47 rfl
theorem i22_50 : insAt 22 50 = some (.goto (-48), 3, (0, 0, 0, 0), 0) := rfl
theorem s22_50 {c : Nat → List AV → SS → Option Out} {l0 l1 : Option AV} {L2 : List (Nat × AV)} {St : List AV} {S : SS} : ev c 22 50 [l0, l1] L2 St S = ev c 22 2 [l0, l1] L2 St S := ev_go i22_50 rfl
theorem i22_53 : insAt 22 53 = some (.iconst 1, 1, (0, 0, 0, 0), 0) := rfl
theorem s22_53 {c : Nat → List AV → SS → Option Out} {l0 l1 : Option AV} {L2 : List (Nat × AV)} {St : List AV} {S : SS} : ev c 22 53 [l0, l1] L2 St S = ev c 22 54 [l0, l1] L2 (aI 1 :: St) S := ev_go i22_53 rfl
theorem i22_54 : insAt 22 54 = some (.ireturn, 1, (0, 0, 0, 0), 0) := rfl
theorem s22_54 {c : Nat → List AV → SS → Option Out} {l0 l1 : Option AV} {x : Int32} {L2 : List (Nat × AV)} {St : List AV} {S : SS} : ev c 22 54 [l0, l1] L2 [aI x] S = if x = 0 ∨ x = 1 then some (.inl (some (aI x)), S) else none := ev_rt i22_54 rfl
theorem m22 {d : Nat} {o : OId} {S : SS} : evm (d + 1) 22 [aR o] S = ev (evm d) 22 0 [some (aR o), none] [] [] S := evm_s (n := 2) rfl (Nat.le_of_ble_eq_true rfl) rfl rfl
/-! FrequencyOffice.pair(II)I -/
theorem i31_0 : insAt 31 0 = some (.iload_n 0, 1, (0, 0, 0, 0), 0) := rfl
theorem s31_0 {c : Nat → List AV → SS → Option Out} {l1 l2 : Option AV} {x : Int32} {L2 : List (Nat × AV)} {St : List AV} {S : SS} : ev c 31 0 [some (aI x), l1, l2] L2 St S = ev c 31 1 [some (aI x), l1, l2] L2 (aI x :: St) S := ev_go i31_0 rfl
theorem i31_1 : insAt 31 1 = some (.ifCond .lt 23, 3, (0, 0, 0, 0), 0) := rfl
theorem s31_1 {c : Nat → List AV → SS → Option Out} {l0 l1 l2 : Option AV} {x : Int32} {L2 : List (Nat × AV)} {St : List AV} {S : SS} : ev c 31 1 [l0, l1, l2] L2 (aI x :: St) S = if x < 0 then ev c 31 24 [l0, l1, l2] L2 St S else ev c 31 4 [l0, l1, l2] L2 St S := ev_br i31_1 rfl
theorem i31_4 : insAt 31 4 = some (.iload_n 0, 1, (0, 0, 0, 0), 0) := rfl
theorem s31_4 {c : Nat → List AV → SS → Option Out} {l1 l2 : Option AV} {x : Int32} {L2 : List (Nat × AV)} {St : List AV} {S : SS} : ev c 31 4 [some (aI x), l1, l2] L2 St S = ev c 31 5 [some (aI x), l1, l2] L2 (aI x :: St) S := ev_go i31_4 rfl
theorem i31_5 : insAt 31 5 = some (.bipush 7, 2, (0, 0, 0, 0), 0) := rfl
theorem s31_5 {c : Nat → List AV → SS → Option Out} {l0 l1 l2 : Option AV} {L2 : List (Nat × AV)} {St : List AV} {S : SS} : ev c 31 5 [l0, l1, l2] L2 St S = ev c 31 7 [l0, l1, l2] L2 (aI 7 :: St) S := ev_go i31_5 rfl
theorem i31_7 : insAt 31 7 = some (.if_icmp .ge 17, 3, (0, 0, 0, 0), 0) := rfl
theorem s31_7 {c : Nat → List AV → SS → Option Out} {l0 l1 l2 : Option AV} {x y : Int32} {L2 : List (Nat × AV)} {St : List AV} {S : SS} : ev c 31 7 [l0, l1, l2] L2 (aI y :: aI x :: St) S = if y ≤ x then ev c 31 24 [l0, l1, l2] L2 St S else ev c 31 10 [l0, l1, l2] L2 St S := ev_br i31_7 rfl
theorem i31_10 : insAt 31 10 = some (.iload_n 1, 1, (0, 0, 0, 0), 0) := rfl
theorem s31_10 {c : Nat → List AV → SS → Option Out} {l0 l2 : Option AV} {x : Int32} {L2 : List (Nat × AV)} {St : List AV} {S : SS} : ev c 31 10 [l0, some (aI x), l2] L2 St S = ev c 31 11 [l0, some (aI x), l2] L2 (aI x :: St) S := ev_go i31_10 rfl
theorem i31_11 : insAt 31 11 = some (.ifCond .lt 13, 3, (0, 0, 0, 0), 0) := rfl
theorem s31_11 {c : Nat → List AV → SS → Option Out} {l0 l1 l2 : Option AV} {x : Int32} {L2 : List (Nat × AV)} {St : List AV} {S : SS} : ev c 31 11 [l0, l1, l2] L2 (aI x :: St) S = if x < 0 then ev c 31 24 [l0, l1, l2] L2 St S else ev c 31 14 [l0, l1, l2] L2 St S := ev_br i31_11 rfl
theorem i31_14 : insAt 31 14 = some (.iload_n 1, 1, (0, 0, 0, 0), 0) := rfl
theorem s31_14 {c : Nat → List AV → SS → Option Out} {l0 l2 : Option AV} {x : Int32} {L2 : List (Nat × AV)} {St : List AV} {S : SS} : ev c 31 14 [l0, some (aI x), l2] L2 St S = ev c 31 15 [l0, some (aI x), l2] L2 (aI x :: St) S := ev_go i31_14 rfl
theorem i31_15 : insAt 31 15 = some (.bipush 7, 2, (0, 0, 0, 0), 0) := rfl
theorem s31_15 {c : Nat → List AV → SS → Option Out} {l0 l1 l2 : Option AV} {L2 : List (Nat × AV)} {St : List AV} {S : SS} : ev c 31 15 [l0, l1, l2] L2 St S = ev c 31 17 [l0, l1, l2] L2 (aI 7 :: St) S := ev_go i31_15 rfl
theorem i31_17 : insAt 31 17 = some (.if_icmp .ge 7, 3, (0, 0, 0, 0), 0) := rfl
theorem s31_17 {c : Nat → List AV → SS → Option Out} {l0 l1 l2 : Option AV} {x y : Int32} {L2 : List (Nat × AV)} {St : List AV} {S : SS} : ev c 31 17 [l0, l1, l2] L2 (aI y :: aI x :: St) S = if y ≤ x then ev c 31 24 [l0, l1, l2] L2 St S else ev c 31 20 [l0, l1, l2] L2 St S := ev_br i31_17 rfl
theorem i31_20 : insAt 31 20 = some (.iconst 1, 1, (0, 0, 0, 0), 0) := rfl
theorem s31_20 {c : Nat → List AV → SS → Option Out} {l0 l1 l2 : Option AV} {L2 : List (Nat × AV)} {St : List AV} {S : SS} : ev c 31 20 [l0, l1, l2] L2 St S = ev c 31 21 [l0, l1, l2] L2 (aI 1 :: St) S := ev_go i31_20 rfl
theorem i31_21 : insAt 31 21 = some (.goto 4, 3, (0, 0, 0, 0), 0) := rfl
theorem s31_21 {c : Nat → List AV → SS → Option Out} {l0 l1 l2 : Option AV} {L2 : List (Nat × AV)} {St : List AV} {S : SS} : ev c 31 21 [l0, l1, l2] L2 St S = ev c 31 25 [l0, l1, l2] L2 St S := ev_go i31_21 rfl
theorem i31_24 : insAt 31 24 = some (.iconst 0, 1, (0, 0, 0, 0), 0) := rfl
theorem s31_24 {c : Nat → List AV → SS → Option Out} {l0 l1 l2 : Option AV} {L2 : List (Nat × AV)} {St : List AV} {S : SS} : ev c 31 24 [l0, l1, l2] L2 St S = ev c 31 25 [l0, l1, l2] L2 (aI 0 :: St) S := ev_go i31_24 rfl
theorem i31_25 : insAt 31 25 = some (.istore_n 2, 1, (0, 0, 0, 0), 0) := rfl
theorem s31_25 {c : Nat → List AV → SS → Option Out} {l0 l1 l2 : Option AV} {x : Int32} {L2 : List (Nat × AV)} {St : List AV} {S : SS} : ev c 31 25 [l0, l1, l2] L2 (aI x :: St) S = ev c 31 26 [l0, l1, some (aI x)] (kil L2 2) St S := ev_go i31_25 rfl
theorem i31_26 : insAt 31 26 = some (.iload_n 2, 1, (0, 0, 0, 0), 0) := rfl
theorem s31_26 {c : Nat → List AV → SS → Option Out} {l0 l1 : Option AV} {x : Int32} {L2 : List (Nat × AV)} {St : List AV} {S : SS} : ev c 31 26 [l0, l1, some (aI x)] L2 St S = ev c 31 27 [l0, l1, some (aI x)] L2 (aI x :: St) S := ev_go i31_26 rfl
theorem i31_27 : insAt 31 27 = some (.ifCond .eq 12, 3, (0, 0, 0, 0), 0) := rfl
theorem s31_27 {c : Nat → List AV → SS → Option Out} {l0 l1 l2 : Option AV} {x : Int32} {L2 : List (Nat × AV)} {St : List AV} {S : SS} : ev c 31 27 [l0, l1, l2] L2 (aI x :: St) S = if x = 0 then ev c 31 39 [l0, l1, l2] L2 St S else ev c 31 30 [l0, l1, l2] L2 St S := ev_br i31_27 rfl
theorem i31_30 : insAt 31 30 = some (.iload_n 0, 1, (0, 0, 0, 0), 0) := rfl
theorem s31_30 {c : Nat → List AV → SS → Option Out} {l1 l2 : Option AV} {x : Int32} {L2 : List (Nat × AV)} {St : List AV} {S : SS} : ev c 31 30 [some (aI x), l1, l2] L2 St S = ev c 31 31 [some (aI x), l1, l2] L2 (aI x :: St) S := ev_go i31_30 rfl
theorem i31_31 : insAt 31 31 = some (.bipush 7, 2, (0, 0, 0, 0), 0) := rfl
theorem s31_31 {c : Nat → List AV → SS → Option Out} {l0 l1 l2 : Option AV} {L2 : List (Nat × AV)} {St : List AV} {S : SS} : ev c 31 31 [l0, l1, l2] L2 St S = ev c 31 33 [l0, l1, l2] L2 (aI 7 :: St) S := ev_go i31_31 rfl
theorem i31_33 : insAt 31 33 = some (.imul, 1, (0, 0, 0, 0), 0) := rfl
theorem s31_33 {c : Nat → List AV → SS → Option Out} {l0 l1 l2 : Option AV} {x y : Int32} {L2 : List (Nat × AV)} {St : List AV} {S : SS} : ev c 31 33 [l0, l1, l2] L2 (aI y :: aI x :: St) S = ev c 31 34 [l0, l1, l2] L2 (aI (x * y) :: St) S := ev_go i31_33 rfl
theorem i31_34 : insAt 31 34 = some (.iload_n 1, 1, (0, 0, 0, 0), 0) := rfl
theorem s31_34 {c : Nat → List AV → SS → Option Out} {l0 l2 : Option AV} {x : Int32} {L2 : List (Nat × AV)} {St : List AV} {S : SS} : ev c 31 34 [l0, some (aI x), l2] L2 St S = ev c 31 35 [l0, some (aI x), l2] L2 (aI x :: St) S := ev_go i31_34 rfl
theorem i31_35 : insAt 31 35 = some (.iadd, 1, (0, 0, 0, 0), 0) := rfl
theorem s31_35 {c : Nat → List AV → SS → Option Out} {l0 l1 l2 : Option AV} {x y : Int32} {L2 : List (Nat × AV)} {St : List AV} {S : SS} : ev c 31 35 [l0, l1, l2] L2 (aI y :: aI x :: St) S = ev c 31 36 [l0, l1, l2] L2 (aI (x + y) :: St) S := ev_go i31_35 rfl
theorem i31_36 : insAt 31 36 = some (.goto 4, 3, (0, 0, 0, 0), 0) := rfl
theorem s31_36 {c : Nat → List AV → SS → Option Out} {l0 l1 l2 : Option AV} {L2 : List (Nat × AV)} {St : List AV} {S : SS} : ev c 31 36 [l0, l1, l2] L2 St S = ev c 31 40 [l0, l1, l2] L2 St S := ev_go i31_36 rfl
theorem i31_39 : insAt 31 39 = some (.iconst (-1), 1, (0, 0, 0, 0), 0) := rfl
theorem s31_39 {c : Nat → List AV → SS → Option Out} {l0 l1 l2 : Option AV} {L2 : List (Nat × AV)} {St : List AV} {S : SS} : ev c 31 39 [l0, l1, l2] L2 St S = ev c 31 40 [l0, l1, l2] L2 (aI (-1) :: St) S := ev_go i31_39 rfl
theorem i31_40 : insAt 31 40 = some (.ireturn, 1, (0, 0, 0, 0), 0) := rfl
theorem s31_40 {c : Nat → List AV → SS → Option Out} {l0 l1 l2 : Option AV} {x : Int32} {L2 : List (Nat × AV)} {St : List AV} {S : SS} : ev c 31 40 [l0, l1, l2] L2 [aI x] S = some (.inl (some (aI x)), S) := ev_end i31_40 rfl
theorem m31 {d : Nat} {a0 : Int32} {a1 : Int32} {S : SS} : evm (d + 1) 31 [aI a0, aI a1] S = ev (evm d) 31 0 [some (aI a0), some (aI a1), none] [] [] S := evm_s (n := 3) rfl (Nat.le_of_ble_eq_true rfl) rfl rfl
/-! FrequencyOffice.get([II)I -/
theorem i32_0 : insAt 32 0 = some (.iload_n 1, 1, (0, 0, 0, 0), 0) := rfl
theorem s32_0 {c : Nat → List AV → SS → Option Out} {l0 : Option AV} {x : Int32} {L2 : List (Nat × AV)} {St : List AV} {S : SS} : ev c 32 0 [l0, some (aI x)] L2 St S = ev c 32 1 [l0, some (aI x)] L2 (aI x :: St) S := ev_go i32_0 rfl
theorem i32_1 : insAt 32 1 = some (.ifCond .lt 15, 3, (0, 0, 0, 0), 0) := rfl
theorem s32_1 {c : Nat → List AV → SS → Option Out} {l0 l1 : Option AV} {x : Int32} {L2 : List (Nat × AV)} {St : List AV} {S : SS} : ev c 32 1 [l0, l1] L2 (aI x :: St) S = if x < 0 then ev c 32 16 [l0, l1] L2 St S else ev c 32 4 [l0, l1] L2 St S := ev_br i32_1 rfl
theorem i32_4 : insAt 32 4 = some (.iload_n 1, 1, (0, 0, 0, 0), 0) := rfl
theorem s32_4 {c : Nat → List AV → SS → Option Out} {l0 : Option AV} {x : Int32} {L2 : List (Nat × AV)} {St : List AV} {S : SS} : ev c 32 4 [l0, some (aI x)] L2 St S = ev c 32 5 [l0, some (aI x)] L2 (aI x :: St) S := ev_go i32_4 rfl
theorem i32_5 : insAt 32 5 = some (.aload_n 0, 1, (0, 0, 0, 0), 0) := rfl
theorem s32_5 {c : Nat → List AV → SS → Option Out} {l1 : Option AV} {o : OId} {L2 : List (Nat × AV)} {St : List AV} {S : SS} : ev c 32 5 [some (aR o), l1] L2 St S = ev c 32 6 [some (aR o), l1] L2 (aR o :: St) S := ev_go i32_5 rfl
theorem i32_6 : insAt 32 6 = some (.arraylength, 1, (0, 0, 0, 0), 0) := rfl
theorem s32_6 {c : Nat → List AV → SS → Option Out} {l0 l1 : Option AV} {o : OId} {L2 : List (Nat × AV)} {St : List AV} {S : SS} : ev c 32 6 [l0, l1] L2 (aR o :: St) S = kN o (fun x => ev c 32 7 [l0, l1] L2 (aI x :: St) S) := ev_alen i32_6
theorem i32_7 : insAt 32 7 = some (.if_icmp .ge 9, 3, (0, 0, 0, 0), 0) := rfl
theorem s32_7 {c : Nat → List AV → SS → Option Out} {l0 l1 : Option AV} {x y : Int32} {L2 : List (Nat × AV)} {St : List AV} {S : SS} : ev c 32 7 [l0, l1] L2 (aI y :: aI x :: St) S = if y ≤ x then ev c 32 16 [l0, l1] L2 St S else ev c 32 10 [l0, l1] L2 St S := ev_br i32_7 rfl
theorem i32_10 : insAt 32 10 = some (.aload_n 0, 1, (0, 0, 0, 0), 0) := rfl
theorem s32_10 {c : Nat → List AV → SS → Option Out} {l1 : Option AV} {o : OId} {L2 : List (Nat × AV)} {St : List AV} {S : SS} : ev c 32 10 [some (aR o), l1] L2 St S = ev c 32 11 [some (aR o), l1] L2 (aR o :: St) S := ev_go i32_10 rfl
theorem i32_11 : insAt 32 11 = some (.iload_n 1, 1, (0, 0, 0, 0), 0) := rfl
theorem s32_11 {c : Nat → List AV → SS → Option Out} {l0 : Option AV} {x : Int32} {L2 : List (Nat × AV)} {St : List AV} {S : SS} : ev c 32 11 [l0, some (aI x)] L2 St S = ev c 32 12 [l0, some (aI x)] L2 (aI x :: St) S := ev_go i32_11 rfl
theorem i32_12 : insAt 32 12 = some (.iaload, 1, (0, 0, 0, 0), 0) := rfl
theorem s32_12 {c : Nat → List AV → SS → Option Out} {l0 l1 : Option AV} {i : Int32} {o : OId} {L2 : List (Nat × AV)} {St : List AV} {S : SS} : ev c 32 12 [l0, l1] L2 (aI i :: aR o :: St) S = kI o i (ev c 32 13 [l0, l1] L2 (aI (agI S o i.toNatClampNeg) :: St) S) := ev_iaload i32_12
theorem i32_13 : insAt 32 13 = some (.goto 4, 3, (0, 0, 0, 0), 0) := rfl
theorem s32_13 {c : Nat → List AV → SS → Option Out} {l0 l1 : Option AV} {L2 : List (Nat × AV)} {St : List AV} {S : SS} : ev c 32 13 [l0, l1] L2 St S = ev c 32 17 [l0, l1] L2 St S := ev_go i32_13 rfl
theorem i32_16 : insAt 32 16 = some (.iconst 0, 1, (0, 0, 0, 0), 0) := rfl
theorem s32_16 {c : Nat → List AV → SS → Option Out} {l0 l1 : Option AV} {L2 : List (Nat × AV)} {St : List AV} {S : SS} : ev c 32 16 [l0, l1] L2 St S = ev c 32 17 [l0, l1] L2 (aI 0 :: St) S := ev_go i32_16 rfl
theorem i32_17 : insAt 32 17 = some (.ireturn, 1, (0, 0, 0, 0), 0) := rfl
theorem s32_17 {c : Nat → List AV → SS → Option Out} {l0 l1 : Option AV} {x : Int32} {L2 : List (Nat × AV)} {St : List AV} {S : SS} : ev c 32 17 [l0, l1] L2 [aI x] S = some (.inl (some (aI x)), S) := ev_end i32_17 rfl
theorem m32 {d : Nat} {a0 : OId} {a1 : Int32} {S : SS} : evm (d + 1) 32 [aR a0, aI a1] S = ev (evm d) 32 0 [some (aR a0), some (aI a1)] [] [] S := evm_s (n := 2) rfl (Nat.le_of_ble_eq_true rfl) rfl rfl
/-! FrequencyOffice.leastSpan()I -/
theorem i33_0 : insAt 33 0 = some (.aload_n 0, 1, (0, 0, 0, 0), 0) := rfl
theorem s33_0 {c : Nat → List AV → SS → Option Out} {o : OId} {L2 : List (Nat × AV)} {St : List AV} {S : SS} : ev c 33 0 [some (aR o)] L2 St S = ev c 33 1 [some (aR o)] L2 (aR o :: St) S := ev_go i33_0 rfl
theorem i33_1 : insAt 33 1 = some (.getfield 45, 3, (11, 5, 0, 0), 0) := rfl
theorem s33_1 {c : Nat → List AV → SS → Option Out} {l0 : Option AV} {j t : Nat} {L2 : List (Nat × AV)} {St : List AV} {S : SS} : ev c 33 1 [l0] L2 (aR (11, j, t) :: St) S = ev c 33 4 [l0] L2 (S.2.2.1 (11, j, t) 5 :: St) S := ev_go i33_1 rfl
theorem i33_4 : insAt 33 4 = some (.getfield 281, 3, (9, 0, 1, 0), 0) := rfl
theorem s33_4 {c : Nat → List AV → SS → Option Out} {l0 : Option AV} {j t : Nat} {L2 : List (Nat × AV)} {St : List AV} {S : SS} : ev c 33 4 [l0] L2 (aR (9, j, t) :: St) S = ev c 33 7 [l0] L2 (S.2.2.1 (9, j, t) 0 :: St) S := ev_go i33_4 rfl
theorem i33_7 : insAt 33 7 = some (.aload_n 0, 1, (0, 0, 0, 0), 0) := rfl
theorem s33_7 {c : Nat → List AV → SS → Option Out} {o : OId} {L2 : List (Nat × AV)} {St : List AV} {S : SS} : ev c 33 7 [some (aR o)] L2 St S = ev c 33 8 [some (aR o)] L2 (aR o :: St) S := ev_go i33_7 rfl
theorem i33_8 : insAt 33 8 = some (.getfield 10, 3, (11, 0, 0, 0), 0) := rfl
theorem s33_8 {c : Nat → List AV → SS → Option Out} {l0 : Option AV} {j t : Nat} {L2 : List (Nat × AV)} {St : List AV} {S : SS} : ev c 33 8 [l0] L2 (aR (11, j, t) :: St) S = ev c 33 11 [l0] L2 (S.2.2.1 (11, j, t) 0 :: St) S := ev_go i33_8 rfl
theorem i33_11 : insAt 33 11 = some (.iconst (-1), 1, (0, 0, 0, 0), 0) := rfl
theorem s33_11 {c : Nat → List AV → SS → Option Out} {l0 : Option AV} {L2 : List (Nat × AV)} {St : List AV} {S : SS} : ev c 33 11 [l0] L2 St S = ev c 33 12 [l0] L2 (aI (-1) :: St) S := ev_go i33_11 rfl
theorem i33_12 : insAt 33 12 = some (.invokevirtual 285, 3, (34, 2, 3, 6), 0) := rfl
theorem s33_12 {c : Nat → List AV → SS → Option Out} {l0 : Option AV} {a0 : OId} {a1 : Int32} {j t : Nat} {L2 : List (Nat × AV)} {S : SS} : ev c 33 12 [l0] L2 [aI a1, aR a0, aR (6, j, t)] S = ck (c 34 [aR (6, j, t), aR a0, aI a1] S) (fun v S' => ev c 33 15 [l0] L2 (v.toList ++ []) S') := ev_call i33_12 rfl
theorem i33_15 : insAt 33 15 = some (.aload_n 0, 1, (0, 0, 0, 0), 0) := rfl
theorem s33_15 {c : Nat → List AV → SS → Option Out} {o : OId} {L2 : List (Nat × AV)} {St : List AV} {S : SS} : ev c 33 15 [some (aR o)] L2 St S = ev c 33 16 [some (aR o)] L2 (aR o :: St) S := ev_go i33_15 rfl
theorem i33_16 : insAt 33 16 = some (.getfield 45, 3, (11, 5, 0, 0), 0) := rfl
theorem s33_16 {c : Nat → List AV → SS → Option Out} {l0 : Option AV} {j t : Nat} {L2 : List (Nat × AV)} {St : List AV} {S : SS} : ev c 33 16 [l0] L2 (aR (11, j, t) :: St) S = ev c 33 19 [l0] L2 (S.2.2.1 (11, j, t) 5 :: St) S := ev_go i33_16 rfl
theorem i33_19 : insAt 33 19 = some (.invokevirtual 289, 3, (37, 0, 3, 9), 0) := rfl
theorem s33_19 {c : Nat → List AV → SS → Option Out} {l0 : Option AV} {j t : Nat} {L2 : List (Nat × AV)} {S : SS} : ev c 33 19 [l0] L2 [aR (9, j, t)] S = ck (c 37 [aR (9, j, t)] S) (fun v S' => ev c 33 22 [l0] L2 (v.toList ++ []) S') := ev_call i33_19 rfl
theorem i33_22 : insAt 33 22 = some (.ireturn, 1, (0, 0, 0, 0), 0) := rfl
theorem s33_22 {c : Nat → List AV → SS → Option Out} {l0 : Option AV} {x : Int32} {L2 : List (Nat × AV)} {St : List AV} {S : SS} : ev c 33 22 [l0] L2 [aI x] S = some (.inl (some (aI x)), S) := ev_end i33_22 rfl
theorem m33 {d : Nat} {o : OId} {S : SS} : evm (d + 1) 33 [aR o] S = ev (evm d) 33 0 [some (aR o)] [] [] S := evm_s (n := 1) rfl (Nat.le_of_ble_eq_true rfl) rfl rfl
/-! FrequencyOffice.put([III)V -/
theorem i36_0 : insAt 36 0 = some (.iload_n 1, 1, (0, 0, 0, 0), 0) := rfl
theorem s36_0 {c : Nat → List AV → SS → Option Out} {l0 l2 : Option AV} {x : Int32} {L2 : List (Nat × AV)} {St : List AV} {S : SS} : ev c 36 0 [l0, some (aI x), l2] L2 St S = ev c 36 1 [l0, some (aI x), l2] L2 (aI x :: St) S := ev_go i36_0 rfl
theorem i36_1 : insAt 36 1 = some (.ifCond .lt 13, 3, (0, 0, 0, 0), 0) := rfl
theorem s36_1 {c : Nat → List AV → SS → Option Out} {l0 l1 l2 : Option AV} {x : Int32} {L2 : List (Nat × AV)} {St : List AV} {S : SS} : ev c 36 1 [l0, l1, l2] L2 (aI x :: St) S = if x < 0 then ev c 36 14 [l0, l1, l2] L2 St S else ev c 36 4 [l0, l1, l2] L2 St S := ev_br i36_1 rfl
theorem i36_4 : insAt 36 4 = some (.iload_n 1, 1, (0, 0, 0, 0), 0) := rfl
theorem s36_4 {c : Nat → List AV → SS → Option Out} {l0 l2 : Option AV} {x : Int32} {L2 : List (Nat × AV)} {St : List AV} {S : SS} : ev c 36 4 [l0, some (aI x), l2] L2 St S = ev c 36 5 [l0, some (aI x), l2] L2 (aI x :: St) S := ev_go i36_4 rfl
theorem i36_5 : insAt 36 5 = some (.aload_n 0, 1, (0, 0, 0, 0), 0) := rfl
theorem s36_5 {c : Nat → List AV → SS → Option Out} {l1 l2 : Option AV} {o : OId} {L2 : List (Nat × AV)} {St : List AV} {S : SS} : ev c 36 5 [some (aR o), l1, l2] L2 St S = ev c 36 6 [some (aR o), l1, l2] L2 (aR o :: St) S := ev_go i36_5 rfl
theorem i36_6 : insAt 36 6 = some (.arraylength, 1, (0, 0, 0, 0), 0) := rfl
theorem s36_6 {c : Nat → List AV → SS → Option Out} {l0 l1 l2 : Option AV} {o : OId} {L2 : List (Nat × AV)} {St : List AV} {S : SS} : ev c 36 6 [l0, l1, l2] L2 (aR o :: St) S = kN o (fun x => ev c 36 7 [l0, l1, l2] L2 (aI x :: St) S) := ev_alen i36_6
theorem i36_7 : insAt 36 7 = some (.if_icmp .ge 7, 3, (0, 0, 0, 0), 0) := rfl
theorem s36_7 {c : Nat → List AV → SS → Option Out} {l0 l1 l2 : Option AV} {x y : Int32} {L2 : List (Nat × AV)} {St : List AV} {S : SS} : ev c 36 7 [l0, l1, l2] L2 (aI y :: aI x :: St) S = if y ≤ x then ev c 36 14 [l0, l1, l2] L2 St S else ev c 36 10 [l0, l1, l2] L2 St S := ev_br i36_7 rfl
theorem i36_10 : insAt 36 10 = some (.aload_n 0, 1, (0, 0, 0, 0), 0) := rfl
theorem s36_10 {c : Nat → List AV → SS → Option Out} {l1 l2 : Option AV} {o : OId} {L2 : List (Nat × AV)} {St : List AV} {S : SS} : ev c 36 10 [some (aR o), l1, l2] L2 St S = ev c 36 11 [some (aR o), l1, l2] L2 (aR o :: St) S := ev_go i36_10 rfl
theorem i36_11 : insAt 36 11 = some (.iload_n 1, 1, (0, 0, 0, 0), 0) := rfl
theorem s36_11 {c : Nat → List AV → SS → Option Out} {l0 l2 : Option AV} {x : Int32} {L2 : List (Nat × AV)} {St : List AV} {S : SS} : ev c 36 11 [l0, some (aI x), l2] L2 St S = ev c 36 12 [l0, some (aI x), l2] L2 (aI x :: St) S := ev_go i36_11 rfl
theorem i36_12 : insAt 36 12 = some (.iload_n 2, 1, (0, 0, 0, 0), 0) := rfl
theorem s36_12 {c : Nat → List AV → SS → Option Out} {l0 l1 : Option AV} {x : Int32} {L2 : List (Nat × AV)} {St : List AV} {S : SS} : ev c 36 12 [l0, l1, some (aI x)] L2 St S = ev c 36 13 [l0, l1, some (aI x)] L2 (aI x :: St) S := ev_go i36_12 rfl
theorem i36_13 : insAt 36 13 = some (.iastore, 1, (0, 0, 0, 0), 0) := rfl
theorem s36_13 {c : Nat → List AV → SS → Option Out} {l0 l1 l2 : Option AV} {x i : Int32} {o : OId} {L2 : List (Nat × AV)} {St : List AV} {S : SS} : ev c 36 13 [l0, l1, l2] L2 (aI x :: aI i :: aR o :: St) S = kIw o i (ev c 36 14 [l0, l1, l2] L2 St (setI S.1 o i.toNatClampNeg x, S.2)) := ev_iastore i36_13
theorem i36_14 : insAt 36 14 = some (.return_, 1, (0, 0, 0, 0), 0) := rfl
theorem s36_14 {c : Nat → List AV → SS → Option Out} {l0 l1 l2 : Option AV} {L2 : List (Nat × AV)} {St : List AV} {S : SS} : ev c 36 14 [l0, l1, l2] L2 [] S = some (.inl none, S) := ev_end i36_14 rfl
theorem m36 {d : Nat} {a0 : OId} {a1 : Int32} {a2 : Int32} {S : SS} : evm (d + 1) 36 [aR a0, aI a1, aI a2] S = ev (evm d) 36 0 [some (aR a0), some (aI a1), some (aI a2)] [] [] S := evm_s (n := 3) rfl (Nat.le_of_ble_eq_true rfl) rfl rfl
/-! FrequencyOffice.contains(JI)Z -/
theorem i43_0 : insAt 43 0 = some (.lload_n 0, 1, (0, 0, 0, 0), 0) := rfl
theorem s43_0 {c : Nat → List AV → SS → Option Out} {l0 l1 l2 : Option AV} {x : Int64} {L2 : List (Nat × AV)} {St : List AV} {S : SS} (h : ldL L2 0 = some x) : ev c 43 0 [l0, l1, l2] L2 St S = ev c 43 1 [l0, l1, l2] L2 (aL x :: St) S := ev_go i43_0 (by simp only [stepI]; exact (congrArg (fun q => match q with | some x => nx (0 + 1) [l0, l1, l2] L2 (aL x :: St) S | none => none) h))
theorem i43_1 : insAt 43 1 = some (.iload_n 2, 1, (0, 0, 0, 0), 0) := rfl
theorem s43_1 {c : Nat → List AV → SS → Option Out} {l0 l1 : Option AV} {x : Int32} {L2 : List (Nat × AV)} {St : List AV} {S : SS} : ev c 43 1 [l0, l1, some (aI x)] L2 St S = ev c 43 2 [l0, l1, some (aI x)] L2 (aI x :: St) S := ev_go i43_1 rfl
theorem i43_2 : insAt 43 2 = some (.lshr, 1, (0, 0, 0, 0), 0) := rfl
theorem s43_2 {c : Nat → List AV → SS → Option Out} {l0 l1 l2 : Option AV} {x : Int64} {y : Int32} {L2 : List (Nat × AV)} {St : List AV} {S : SS} : ev c 43 2 [l0, l1, l2] L2 (aI y :: aL x :: St) S = ev c 43 3 [l0, l1, l2] L2 (aL (x >>> (y.toInt64 &&& 63)) :: St) S := ev_go i43_2 rfl
theorem i43_3 : insAt 43 3 = some (.lconst 1, 1, (0, 0, 0, 0), 0) := rfl
theorem s43_3 {c : Nat → List AV → SS → Option Out} {l0 l1 l2 : Option AV} {L2 : List (Nat × AV)} {St : List AV} {S : SS} : ev c 43 3 [l0, l1, l2] L2 St S = ev c 43 4 [l0, l1, l2] L2 (aL 1 :: St) S := ev_go i43_3 rfl
theorem i43_4 : insAt 43 4 = some (.land, 1, (0, 0, 0, 0), 0) := rfl
theorem s43_4 {c : Nat → List AV → SS → Option Out} {l0 l1 l2 : Option AV} {x y : Int64} {L2 : List (Nat × AV)} {St : List AV} {S : SS} : ev c 43 4 [l0, l1, l2] L2 (aL y :: aL x :: St) S = ev c 43 5 [l0, l1, l2] L2 (aL (x &&& y) :: St) S := ev_go i43_4 rfl
theorem i43_5 : insAt 43 5 = some (.lconst 1, 1, (0, 0, 0, 0), 0) := rfl
theorem s43_5 {c : Nat → List AV → SS → Option Out} {l0 l1 l2 : Option AV} {L2 : List (Nat × AV)} {St : List AV} {S : SS} : ev c 43 5 [l0, l1, l2] L2 St S = ev c 43 6 [l0, l1, l2] L2 (aL 1 :: St) S := ev_go i43_5 rfl
theorem i43_6 : insAt 43 6 = some (.lcmp, 1, (0, 0, 0, 0), 0) := rfl
theorem s43_6 {c : Nat → List AV → SS → Option Out} {l0 l1 l2 : Option AV} {x y : Int64} {L2 : List (Nat × AV)} {St : List AV} {S : SS} : ev c 43 6 [l0, l1, l2] L2 (aL y :: aL x :: St) S = ev c 43 7 [l0, l1, l2] L2 (aI (if x < y then -1 else if x = y then 0 else 1) :: St) S := ev_go i43_6 rfl
theorem i43_7 : insAt 43 7 = some (.ifCond .ne 7, 3, (0, 0, 0, 0), 0) := rfl
theorem s43_7 {c : Nat → List AV → SS → Option Out} {l0 l1 l2 : Option AV} {x : Int32} {L2 : List (Nat × AV)} {St : List AV} {S : SS} : ev c 43 7 [l0, l1, l2] L2 (aI x :: St) S = if x = 0 then ev c 43 10 [l0, l1, l2] L2 St S else ev c 43 14 [l0, l1, l2] L2 St S := (ev_br i43_7 rfl).trans (ite_not _ _ _)
theorem i43_10 : insAt 43 10 = some (.iconst 1, 1, (0, 0, 0, 0), 0) := rfl
theorem s43_10 {c : Nat → List AV → SS → Option Out} {l0 l1 l2 : Option AV} {L2 : List (Nat × AV)} {St : List AV} {S : SS} : ev c 43 10 [l0, l1, l2] L2 St S = ev c 43 11 [l0, l1, l2] L2 (aI 1 :: St) S := ev_go i43_10 rfl
theorem i43_11 : insAt 43 11 = some (.goto 4, 3, (0, 0, 0, 0), 0) := rfl
theorem s43_11 {c : Nat → List AV → SS → Option Out} {l0 l1 l2 : Option AV} {L2 : List (Nat × AV)} {St : List AV} {S : SS} : ev c 43 11 [l0, l1, l2] L2 St S = ev c 43 15 [l0, l1, l2] L2 St S := ev_go i43_11 rfl
theorem i43_14 : insAt 43 14 = some (.iconst 0, 1, (0, 0, 0, 0), 0) := rfl
theorem s43_14 {c : Nat → List AV → SS → Option Out} {l0 l1 l2 : Option AV} {L2 : List (Nat × AV)} {St : List AV} {S : SS} : ev c 43 14 [l0, l1, l2] L2 St S = ev c 43 15 [l0, l1, l2] L2 (aI 0 :: St) S := ev_go i43_14 rfl
theorem i43_15 : insAt 43 15 = some (.ireturn, 1, (0, 0, 0, 0), 0) := rfl
theorem s43_15 {c : Nat → List AV → SS → Option Out} {l0 l1 l2 : Option AV} {x : Int32} {L2 : List (Nat × AV)} {St : List AV} {S : SS} : ev c 43 15 [l0, l1, l2] L2 [aI x] S = if x = 0 ∨ x = 1 then some (.inl (some (aI x)), S) else none := ev_rt i43_15 rfl
theorem m43 {d : Nat} {a0 : Int64} {a1 : Int32} {S : SS} : evm (d + 1) 43 [aL a0, aI a1] S = ev (evm d) 43 0 [none, none, some (aI a1)] [(0, aL a0)] [] S := evm_s (n := 3) rfl (Nat.le_of_ble_eq_true rfl) rfl rfl
/-! FrequencyOffice.shutBy(II)J -/
theorem i45_0 : insAt 45 0 = some (.iload_n 1, 1, (0, 0, 0, 0), 0) := rfl
theorem s45_0 {c : Nat → List AV → SS → Option Out} {l0 l2 l3 : Option AV} {x : Int32} {L2 : List (Nat × AV)} {St : List AV} {S : SS} : ev c 45 0 [l0, some (aI x), l2, l3] L2 St S = ev c 45 1 [l0, some (aI x), l2, l3] L2 (aI x :: St) S := ev_go i45_0 rfl
theorem i45_1 : insAt 45 1 = some (.ifCond .gt 5, 3, (0, 0, 0, 0), 0) := rfl
theorem s45_1 {c : Nat → List AV → SS → Option Out} {l0 l1 l2 l3 : Option AV} {x : Int32} {L2 : List (Nat × AV)} {St : List AV} {S : SS} : ev c 45 1 [l0, l1, l2, l3] L2 (aI x :: St) S = if 0 < x then ev c 45 6 [l0, l1, l2, l3] L2 St S else ev c 45 4 [l0, l1, l2, l3] L2 St S := ev_br i45_1 rfl
theorem i45_4 : insAt 45 4 = some (.lconst 0, 1, (0, 0, 0, 0), 0) := rfl
theorem s45_4 {c : Nat → List AV → SS → Option Out} {l0 l1 l2 l3 : Option AV} {L2 : List (Nat × AV)} {St : List AV} {S : SS} : ev c 45 4 [l0, l1, l2, l3] L2 St S = ev c 45 5 [l0, l1, l2, l3] L2 (aL 0 :: St) S := ev_go i45_4 rfl
theorem i45_5 : insAt 45 5 = some (.lreturn, 1, (0, 0, 0, 0), 0) := rfl
theorem s45_5 {c : Nat → List AV → SS → Option Out} {l0 l1 l2 l3 : Option AV} {x : Int64} {L2 : List (Nat × AV)} {St : List AV} {S : SS} : ev c 45 5 [l0, l1, l2, l3] L2 [aL x] S = some (.inl (some (aL x)), S) := ev_end i45_5 rfl
theorem i45_6 : insAt 45 6 = some (.iconst 0, 1, (0, 0, 0, 0), 0) := rfl
theorem s45_6 {c : Nat → List AV → SS → Option Out} {l0 l1 l2 l3 : Option AV} {L2 : List (Nat × AV)} {St : List AV} {S : SS} : ev c 45 6 [l0, l1, l2, l3] L2 St S = ev c 45 7 [l0, l1, l2, l3] L2 (aI 0 :: St) S := ev_go i45_6 rfl
theorem i45_7 : insAt 45 7 = some (.iload_n 0, 1, (0, 0, 0, 0), 0) := rfl
theorem s45_7 {c : Nat → List AV → SS → Option Out} {l1 l2 l3 : Option AV} {x : Int32} {L2 : List (Nat × AV)} {St : List AV} {S : SS} : ev c 45 7 [some (aI x), l1, l2, l3] L2 St S = ev c 45 8 [some (aI x), l1, l2, l3] L2 (aI x :: St) S := ev_go i45_7 rfl
theorem i45_8 : insAt 45 8 = some (.iload_n 1, 1, (0, 0, 0, 0), 0) := rfl
theorem s45_8 {c : Nat → List AV → SS → Option Out} {l0 l2 l3 : Option AV} {x : Int32} {L2 : List (Nat × AV)} {St : List AV} {S : SS} : ev c 45 8 [l0, some (aI x), l2, l3] L2 St S = ev c 45 9 [l0, some (aI x), l2, l3] L2 (aI x :: St) S := ev_go i45_8 rfl
theorem i45_9 : insAt 45 9 = some (.isub, 1, (0, 0, 0, 0), 0) := rfl
theorem s45_9 {c : Nat → List AV → SS → Option Out} {l0 l1 l2 l3 : Option AV} {x y : Int32} {L2 : List (Nat × AV)} {St : List AV} {S : SS} : ev c 45 9 [l0, l1, l2, l3] L2 (aI y :: aI x :: St) S = ev c 45 10 [l0, l1, l2, l3] L2 (aI (x - y) :: St) S := ev_go i45_9 rfl
theorem i45_10 : insAt 45 10 = some (.iconst 1, 1, (0, 0, 0, 0), 0) := rfl
theorem s45_10 {c : Nat → List AV → SS → Option Out} {l0 l1 l2 l3 : Option AV} {L2 : List (Nat × AV)} {St : List AV} {S : SS} : ev c 45 10 [l0, l1, l2, l3] L2 St S = ev c 45 11 [l0, l1, l2, l3] L2 (aI 1 :: St) S := ev_go i45_10 rfl
theorem i45_11 : insAt 45 11 = some (.iadd, 1, (0, 0, 0, 0), 0) := rfl
theorem s45_11 {c : Nat → List AV → SS → Option Out} {l0 l1 l2 l3 : Option AV} {x y : Int32} {L2 : List (Nat × AV)} {St : List AV} {S : SS} : ev c 45 11 [l0, l1, l2, l3] L2 (aI y :: aI x :: St) S = ev c 45 12 [l0, l1, l2, l3] L2 (aI (x + y) :: St) S := ev_go i45_11 rfl
theorem i45_12 : insAt 45 12 = some (.invokestatic 300, 3, (46, 2, 0, 0), 0) := rfl
theorem s45_12 {c : Nat → List AV → SS → Option Out} {l0 l1 l2 l3 : Option AV} {a0 : Int32} {a1 : Int32} {L2 : List (Nat × AV)} {S : SS} : ev c 45 12 [l0, l1, l2, l3] L2 [aI a1, aI a0] S = ck (c 46 [aI a0, aI a1] S) (fun v S' => ev c 45 15 [l0, l1, l2, l3] L2 (v.toList ++ []) S') := ev_call i45_12 rfl
theorem i45_15 : insAt 45 15 = some (.istore_n 2, 1, (0, 0, 0, 0), 0) := rfl
theorem s45_15 {c : Nat → List AV → SS → Option Out} {l0 l1 l2 l3 : Option AV} {x : Int32} {L2 : List (Nat × AV)} {St : List AV} {S : SS} : ev c 45 15 [l0, l1, l2, l3] L2 (aI x :: St) S = ev c 45 16 [l0, l1, some (aI x), l3] (kil L2 2) St S := ev_go i45_15 rfl
theorem i45_16 : insAt 45 16 = some (.iload_n 0, 1, (0, 0, 0, 0), 0) := rfl
theorem s45_16 {c : Nat → List AV → SS → Option Out} {l1 l2 l3 : Option AV} {x : Int32} {L2 : List (Nat × AV)} {St : List AV} {S : SS} : ev c 45 16 [some (aI x), l1, l2, l3] L2 St S = ev c 45 17 [some (aI x), l1, l2, l3] L2 (aI x :: St) S := ev_go i45_16 rfl
theorem i45_17 : insAt 45 17 = some (.iload_n 1, 1, (0, 0, 0, 0), 0) := rfl
theorem s45_17 {c : Nat → List AV → SS → Option Out} {l0 l2 l3 : Option AV} {x : Int32} {L2 : List (Nat × AV)} {St : List AV} {S : SS} : ev c 45 17 [l0, some (aI x), l2, l3] L2 St S = ev c 45 18 [l0, some (aI x), l2, l3] L2 (aI x :: St) S := ev_go i45_17 rfl
theorem i45_18 : insAt 45 18 = some (.iadd, 1, (0, 0, 0, 0), 0) := rfl
theorem s45_18 {c : Nat → List AV → SS → Option Out} {l0 l1 l2 l3 : Option AV} {x y : Int32} {L2 : List (Nat × AV)} {St : List AV} {S : SS} : ev c 45 18 [l0, l1, l2, l3] L2 (aI y :: aI x :: St) S = ev c 45 19 [l0, l1, l2, l3] L2 (aI (x + y) :: St) S := ev_go i45_18 rfl
theorem i45_19 : insAt 45 19 = some (.iconst 1, 1, (0, 0, 0, 0), 0) := rfl
theorem s45_19 {c : Nat → List AV → SS → Option Out} {l0 l1 l2 l3 : Option AV} {L2 : List (Nat × AV)} {St : List AV} {S : SS} : ev c 45 19 [l0, l1, l2, l3] L2 St S = ev c 45 20 [l0, l1, l2, l3] L2 (aI 1 :: St) S := ev_go i45_19 rfl
theorem i45_20 : insAt 45 20 = some (.isub, 1, (0, 0, 0, 0), 0) := rfl
theorem s45_20 {c : Nat → List AV → SS → Option Out} {l0 l1 l2 l3 : Option AV} {x y : Int32} {L2 : List (Nat × AV)} {St : List AV} {S : SS} : ev c 45 20 [l0, l1, l2, l3] L2 (aI y :: aI x :: St) S = ev c 45 21 [l0, l1, l2, l3] L2 (aI (x - y) :: St) S := ev_go i45_20 rfl
theorem i45_21 : insAt 45 21 = some (.istore_n 3, 1, (0, 0, 0, 0), 0) := rfl
theorem s45_21 {c : Nat → List AV → SS → Option Out} {l0 l1 l2 l3 : Option AV} {x : Int32} {L2 : List (Nat × AV)} {St : List AV} {S : SS} : ev c 45 21 [l0, l1, l2, l3] L2 (aI x :: St) S = ev c 45 22 [l0, l1, l2, some (aI x)] (kil L2 3) St S := ev_go i45_21 rfl
theorem i45_22 : insAt 45 22 = some (.lconst 1, 1, (0, 0, 0, 0), 0) := rfl
theorem s45_22 {c : Nat → List AV → SS → Option Out} {l0 l1 l2 l3 : Option AV} {L2 : List (Nat × AV)} {St : List AV} {S : SS} : ev c 45 22 [l0, l1, l2, l3] L2 St S = ev c 45 23 [l0, l1, l2, l3] L2 (aL 1 :: St) S := ev_go i45_22 rfl
theorem i45_23 : insAt 45 23 = some (.iload_n 3, 1, (0, 0, 0, 0), 0) := rfl
theorem s45_23 {c : Nat → List AV → SS → Option Out} {l0 l1 l2 : Option AV} {x : Int32} {L2 : List (Nat × AV)} {St : List AV} {S : SS} : ev c 45 23 [l0, l1, l2, some (aI x)] L2 St S = ev c 45 24 [l0, l1, l2, some (aI x)] L2 (aI x :: St) S := ev_go i45_23 rfl
theorem i45_24 : insAt 45 24 = some (.iload_n 2, 1, (0, 0, 0, 0), 0) := rfl
theorem s45_24 {c : Nat → List AV → SS → Option Out} {l0 l1 l3 : Option AV} {x : Int32} {L2 : List (Nat × AV)} {St : List AV} {S : SS} : ev c 45 24 [l0, l1, some (aI x), l3] L2 St S = ev c 45 25 [l0, l1, some (aI x), l3] L2 (aI x :: St) S := ev_go i45_24 rfl
theorem i45_25 : insAt 45 25 = some (.isub, 1, (0, 0, 0, 0), 0) := rfl
theorem s45_25 {c : Nat → List AV → SS → Option Out} {l0 l1 l2 l3 : Option AV} {x y : Int32} {L2 : List (Nat × AV)} {St : List AV} {S : SS} : ev c 45 25 [l0, l1, l2, l3] L2 (aI y :: aI x :: St) S = ev c 45 26 [l0, l1, l2, l3] L2 (aI (x - y) :: St) S := ev_go i45_25 rfl
theorem i45_26 : insAt 45 26 = some (.iconst 1, 1, (0, 0, 0, 0), 0) := rfl
theorem s45_26 {c : Nat → List AV → SS → Option Out} {l0 l1 l2 l3 : Option AV} {L2 : List (Nat × AV)} {St : List AV} {S : SS} : ev c 45 26 [l0, l1, l2, l3] L2 St S = ev c 45 27 [l0, l1, l2, l3] L2 (aI 1 :: St) S := ev_go i45_26 rfl
theorem i45_27 : insAt 45 27 = some (.iadd, 1, (0, 0, 0, 0), 0) := rfl
theorem s45_27 {c : Nat → List AV → SS → Option Out} {l0 l1 l2 l3 : Option AV} {x y : Int32} {L2 : List (Nat × AV)} {St : List AV} {S : SS} : ev c 45 27 [l0, l1, l2, l3] L2 (aI y :: aI x :: St) S = ev c 45 28 [l0, l1, l2, l3] L2 (aI (x + y) :: St) S := ev_go i45_27 rfl
theorem i45_28 : insAt 45 28 = some (.lshl, 1, (0, 0, 0, 0), 0) := rfl
theorem s45_28 {c : Nat → List AV → SS → Option Out} {l0 l1 l2 l3 : Option AV} {x : Int64} {y : Int32} {L2 : List (Nat × AV)} {St : List AV} {S : SS} : ev c 45 28 [l0, l1, l2, l3] L2 (aI y :: aL x :: St) S = ev c 45 29 [l0, l1, l2, l3] L2 (aL (x <<< (y.toInt64 &&& 63)) :: St) S := ev_go i45_28 rfl
theorem i45_29 : insAt 45 29 = some (.lconst 1, 1, (0, 0, 0, 0), 0) := rfl
theorem s45_29 {c : Nat → List AV → SS → Option Out} {l0 l1 l2 l3 : Option AV} {L2 : List (Nat × AV)} {St : List AV} {S : SS} : ev c 45 29 [l0, l1, l2, l3] L2 St S = ev c 45 30 [l0, l1, l2, l3] L2 (aL 1 :: St) S := ev_go i45_29 rfl
theorem i45_30 : insAt 45 30 = some (.lsub, 1, (0, 0, 0, 0), 0) := rfl
theorem s45_30 {c : Nat → List AV → SS → Option Out} {l0 l1 l2 l3 : Option AV} {x y : Int64} {L2 : List (Nat × AV)} {St : List AV} {S : SS} : ev c 45 30 [l0, l1, l2, l3] L2 (aL y :: aL x :: St) S = ev c 45 31 [l0, l1, l2, l3] L2 (aL (x - y) :: St) S := ev_go i45_30 rfl
theorem i45_31 : insAt 45 31 = some (.iload_n 2, 1, (0, 0, 0, 0), 0) := rfl
theorem s45_31 {c : Nat → List AV → SS → Option Out} {l0 l1 l3 : Option AV} {x : Int32} {L2 : List (Nat × AV)} {St : List AV} {S : SS} : ev c 45 31 [l0, l1, some (aI x), l3] L2 St S = ev c 45 32 [l0, l1, some (aI x), l3] L2 (aI x :: St) S := ev_go i45_31 rfl
theorem i45_32 : insAt 45 32 = some (.lshl, 1, (0, 0, 0, 0), 0) := rfl
theorem s45_32 {c : Nat → List AV → SS → Option Out} {l0 l1 l2 l3 : Option AV} {x : Int64} {y : Int32} {L2 : List (Nat × AV)} {St : List AV} {S : SS} : ev c 45 32 [l0, l1, l2, l3] L2 (aI y :: aL x :: St) S = ev c 45 33 [l0, l1, l2, l3] L2 (aL (x <<< (y.toInt64 &&& 63)) :: St) S := ev_go i45_32 rfl
theorem i45_33 : insAt 45 33 = some (.lreturn, 1, (0, 0, 0, 0), 0) := rfl
theorem s45_33 {c : Nat → List AV → SS → Option Out} {l0 l1 l2 l3 : Option AV} {x : Int64} {L2 : List (Nat × AV)} {St : List AV} {S : SS} : ev c 45 33 [l0, l1, l2, l3] L2 [aL x] S = some (.inl (some (aL x)), S) := ev_end i45_33 rfl
theorem m45 {d : Nat} {a0 : Int32} {a1 : Int32} {S : SS} : evm (d + 1) 45 [aI a0, aI a1] S = ev (evm d) 45 0 [some (aI a0), some (aI a1), none, none] [] [] S := evm_s (n := 4) rfl (Nat.le_of_ble_eq_true rfl) rfl rfl
/-! FrequencyOffice.leastSpanByOrders()I -/
theorem i48_0 : insAt 48 0 = some (.aload_n 0, 1, (0, 0, 0, 0), 0) := rfl
theorem s48_0 {c : Nat → List AV → SS → Option Out} {o : OId} {L2 : List (Nat × AV)} {St : List AV} {S : SS} : ev c 48 0 [some (aR o)] L2 St S = ev c 48 1 [some (aR o)] L2 (aR o :: St) S := ev_go i48_0 rfl
theorem i48_1 : insAt 48 1 = some (.getfield 45, 3, (11, 5, 0, 0), 0) := rfl
theorem s48_1 {c : Nat → List AV → SS → Option Out} {l0 : Option AV} {j t : Nat} {L2 : List (Nat × AV)} {St : List AV} {S : SS} : ev c 48 1 [l0] L2 (aR (11, j, t) :: St) S = ev c 48 4 [l0] L2 (S.2.2.1 (11, j, t) 5 :: St) S := ev_go i48_1 rfl
theorem i48_4 : insAt 48 4 = some (.getfield 281, 3, (9, 0, 1, 0), 0) := rfl
theorem s48_4 {c : Nat → List AV → SS → Option Out} {l0 : Option AV} {j t : Nat} {L2 : List (Nat × AV)} {St : List AV} {S : SS} : ev c 48 4 [l0] L2 (aR (9, j, t) :: St) S = ev c 48 7 [l0] L2 (S.2.2.1 (9, j, t) 0 :: St) S := ev_go i48_4 rfl
theorem i48_7 : insAt 48 7 = some (.aload_n 0, 1, (0, 0, 0, 0), 0) := rfl
theorem s48_7 {c : Nat → List AV → SS → Option Out} {o : OId} {L2 : List (Nat × AV)} {St : List AV} {S : SS} : ev c 48 7 [some (aR o)] L2 St S = ev c 48 8 [some (aR o)] L2 (aR o :: St) S := ev_go i48_7 rfl
theorem i48_8 : insAt 48 8 = some (.getfield 10, 3, (11, 0, 0, 0), 0) := rfl
theorem s48_8 {c : Nat → List AV → SS → Option Out} {l0 : Option AV} {j t : Nat} {L2 : List (Nat × AV)} {St : List AV} {S : SS} : ev c 48 8 [l0] L2 (aR (11, j, t) :: St) S = ev c 48 11 [l0] L2 (S.2.2.1 (11, j, t) 0 :: St) S := ev_go i48_8 rfl
theorem i48_11 : insAt 48 11 = some (.iconst (-1), 1, (0, 0, 0, 0), 0) := rfl
theorem s48_11 {c : Nat → List AV → SS → Option Out} {l0 : Option AV} {L2 : List (Nat × AV)} {St : List AV} {S : SS} : ev c 48 11 [l0] L2 St S = ev c 48 12 [l0] L2 (aI (-1) :: St) S := ev_go i48_11 rfl
theorem i48_12 : insAt 48 12 = some (.invokevirtual 285, 3, (34, 2, 3, 6), 0) := rfl
theorem s48_12 {c : Nat → List AV → SS → Option Out} {l0 : Option AV} {a0 : OId} {a1 : Int32} {j t : Nat} {L2 : List (Nat × AV)} {S : SS} : ev c 48 12 [l0] L2 [aI a1, aR a0, aR (6, j, t)] S = ck (c 34 [aR (6, j, t), aR a0, aI a1] S) (fun v S' => ev c 48 15 [l0] L2 (v.toList ++ []) S') := ev_call i48_12 rfl
theorem i48_15 : insAt 48 15 = some (.aload_n 0, 1, (0, 0, 0, 0), 0) := rfl
theorem s48_15 {c : Nat → List AV → SS → Option Out} {o : OId} {L2 : List (Nat × AV)} {St : List AV} {S : SS} : ev c 48 15 [some (aR o)] L2 St S = ev c 48 16 [some (aR o)] L2 (aR o :: St) S := ev_go i48_15 rfl
theorem i48_16 : insAt 48 16 = some (.getfield 45, 3, (11, 5, 0, 0), 0) := rfl
theorem s48_16 {c : Nat → List AV → SS → Option Out} {l0 : Option AV} {j t : Nat} {L2 : List (Nat × AV)} {St : List AV} {S : SS} : ev c 48 16 [l0] L2 (aR (11, j, t) :: St) S = ev c 48 19 [l0] L2 (S.2.2.1 (11, j, t) 5 :: St) S := ev_go i48_16 rfl
theorem i48_19 : insAt 48 19 = some (.invokevirtual 292, 3, (49, 0, 3, 9), 0) := rfl
theorem s48_19 {c : Nat → List AV → SS → Option Out} {l0 : Option AV} {j t : Nat} {L2 : List (Nat × AV)} {S : SS} : ev c 48 19 [l0] L2 [aR (9, j, t)] S = ck (c 49 [aR (9, j, t)] S) (fun v S' => ev c 48 22 [l0] L2 (v.toList ++ []) S') := ev_call i48_19 rfl
theorem i48_22 : insAt 48 22 = some (.ireturn, 1, (0, 0, 0, 0), 0) := rfl
theorem s48_22 {c : Nat → List AV → SS → Option Out} {l0 : Option AV} {x : Int32} {L2 : List (Nat × AV)} {St : List AV} {S : SS} : ev c 48 22 [l0] L2 [aI x] S = some (.inl (some (aI x)), S) := ev_end i48_22 rfl
theorem m48 {d : Nat} {o : OId} {S : SS} : evm (d + 1) 48 [aR o] S = ev (evm d) 48 0 [some (aR o)] [] [] S := evm_s (n := 1) rfl (Nat.le_of_ble_eq_true rfl) rfl rfl
/-! FrequencyOffice.usedSpan()I -/
theorem i54_0 : insAt 54 0 = some (.bipush 8, 2, (0, 0, 0, 0), 0) := rfl
theorem s54_0 {c : Nat → List AV → SS → Option Out} {l0 l1 l2 l3 l4 : Option AV} {L2 : List (Nat × AV)} {St : List AV} {S : SS} : ev c 54 0 [l0, l1, l2, l3, l4] L2 St S = ev c 54 2 [l0, l1, l2, l3, l4] L2 (aI 8 :: St) S := ev_go i54_0 rfl
theorem i54_2 : insAt 54 2 = some (.istore_n 1, 1, (0, 0, 0, 0), 0) := rfl
theorem s54_2 {c : Nat → List AV → SS → Option Out} {l0 l1 l2 l3 l4 : Option AV} {x : Int32} {L2 : List (Nat × AV)} {St : List AV} {S : SS} : ev c 54 2 [l0, l1, l2, l3, l4] L2 (aI x :: St) S = ev c 54 3 [l0, some (aI x), l2, l3, l4] (kil L2 1) St S := ev_go i54_2 rfl
theorem i54_3 : insAt 54 3 = some (.iconst (-1), 1, (0, 0, 0, 0), 0) := rfl
theorem s54_3 {c : Nat → List AV → SS → Option Out} {l0 l1 l2 l3 l4 : Option AV} {L2 : List (Nat × AV)} {St : List AV} {S : SS} : ev c 54 3 [l0, l1, l2, l3, l4] L2 St S = ev c 54 4 [l0, l1, l2, l3, l4] L2 (aI (-1) :: St) S := ev_go i54_3 rfl
theorem i54_4 : insAt 54 4 = some (.istore_n 2, 1, (0, 0, 0, 0), 0) := rfl
theorem s54_4 {c : Nat → List AV → SS → Option Out} {l0 l1 l2 l3 l4 : Option AV} {x : Int32} {L2 : List (Nat × AV)} {St : List AV} {S : SS} : ev c 54 4 [l0, l1, l2, l3, l4] L2 (aI x :: St) S = ev c 54 5 [l0, l1, some (aI x), l3, l4] (kil L2 2) St S := ev_go i54_4 rfl
theorem i54_5 : insAt 54 5 = some (.iconst 0, 1, (0, 0, 0, 0), 0) := rfl
theorem s54_5 {c : Nat → List AV → SS → Option Out} {l0 l1 l2 l3 l4 : Option AV} {L2 : List (Nat × AV)} {St : List AV} {S : SS} : ev c 54 5 [l0, l1, l2, l3, l4] L2 St S = ev c 54 6 [l0, l1, l2, l3, l4] L2 (aI 0 :: St) S := ev_go i54_5 rfl
theorem i54_6 : insAt 54 6 = some (.istore_n 3, 1, (0, 0, 0, 0), 0) := rfl
theorem s54_6 {c : Nat → List AV → SS → Option Out} {l0 l1 l2 l3 l4 : Option AV} {x : Int32} {L2 : List (Nat × AV)} {St : List AV} {S : SS} : ev c 54 6 [l0, l1, l2, l3, l4] L2 (aI x :: St) S = ev c 54 7 [l0, l1, l2, some (aI x), l4] (kil L2 3) St S := ev_go i54_6 rfl
theorem i54_7 : insAt 54 7 = some (.iload_n 3, 1, (0, 0, 0, 0), 0) := rfl
theorem s54_7 {c : Nat → List AV → SS → Option Out} {l0 l1 l2 l4 : Option AV} {x : Int32} {L2 : List (Nat × AV)} {St : List AV} {S : SS} : ev c 54 7 [l0, l1, l2, some (aI x), l4] L2 St S = ev c 54 8 [l0, l1, l2, some (aI x), l4] L2 (aI x :: St) S := ev_go i54_7 rfl
theorem i54_8 : insAt 54 8 = some (.aload_n 0, 1, (0, 0, 0, 0), 0) := rfl
theorem s54_8 {c : Nat → List AV → SS → Option Out} {l1 l2 l3 l4 : Option AV} {o : OId} {L2 : List (Nat × AV)} {St : List AV} {S : SS} : ev c 54 8 [some (aR o), l1, l2, l3, l4] L2 St S = ev c 54 9 [some (aR o), l1, l2, l3, l4] L2 (aR o :: St) S := ev_go i54_8 rfl
theorem i54_9 : insAt 54 9 = some (.getfield 10, 3, (11, 0, 0, 0), 0) := rfl
theorem s54_9 {c : Nat → List AV → SS → Option Out} {l0 l1 l2 l3 l4 : Option AV} {j t : Nat} {L2 : List (Nat × AV)} {St : List AV} {S : SS} : ev c 54 9 [l0, l1, l2, l3, l4] L2 (aR (11, j, t) :: St) S = ev c 54 12 [l0, l1, l2, l3, l4] L2 (S.2.2.1 (11, j, t) 0 :: St) S := ev_go i54_9 rfl
theorem i54_12 : insAt 54 12 = some (.getfield 60, 3, (4, 7, 1, 0), 0) := rfl
theorem s54_12 {c : Nat → List AV → SS → Option Out} {l0 l1 l2 l3 l4 : Option AV} {j t : Nat} {L2 : List (Nat × AV)} {St : List AV} {S : SS} : ev c 54 12 [l0, l1, l2, l3, l4] L2 (aR (4, j, t) :: St) S = ev c 54 15 [l0, l1, l2, l3, l4] L2 (aI (S.1 (4, j, t) 7) :: St) S := ev_go i54_12 rfl
theorem i54_15 : insAt 54 15 = some (.if_icmp .ge 47, 3, (0, 0, 0, 0), 0) := rfl
theorem s54_15 {c : Nat → List AV → SS → Option Out} {l0 l1 l2 l3 l4 : Option AV} {x y : Int32} {L2 : List (Nat × AV)} {St : List AV} {S : SS} : ev c 54 15 [l0, l1, l2, l3, l4] L2 (aI y :: aI x :: St) S = if y ≤ x then ev c 54 62 [l0, l1, l2, l3, l4] L2 St S else ev c 54 18 [l0, l1, l2, l3, l4] L2 St S := ev_br i54_15 rfl
theorem i54_18 : insAt 54 18 = some (.aload_n 0, 1, (0, 0, 0, 0), 0) := rfl
theorem s54_18 {c : Nat → List AV → SS → Option Out} {l1 l2 l3 l4 : Option AV} {o : OId} {L2 : List (Nat × AV)} {St : List AV} {S : SS} : ev c 54 18 [some (aR o), l1, l2, l3, l4] L2 St S = ev c 54 19 [some (aR o), l1, l2, l3, l4] L2 (aR o :: St) S := ev_go i54_18 rfl
theorem i54_19 : insAt 54 19 = some (.getfield 10, 3, (11, 0, 0, 0), 0) := rfl
theorem s54_19 {c : Nat → List AV → SS → Option Out} {l0 l1 l2 l3 l4 : Option AV} {j t : Nat} {L2 : List (Nat × AV)} {St : List AV} {S : SS} : ev c 54 19 [l0, l1, l2, l3, l4] L2 (aR (11, j, t) :: St) S = ev c 54 22 [l0, l1, l2, l3, l4] L2 (S.2.2.1 (11, j, t) 0 :: St) S := ev_go i54_19 rfl
theorem i54_22 : insAt 54 22 = some (.iload_n 3, 1, (0, 0, 0, 0), 0) := rfl
theorem s54_22 {c : Nat → List AV → SS → Option Out} {l0 l1 l2 l4 : Option AV} {x : Int32} {L2 : List (Nat × AV)} {St : List AV} {S : SS} : ev c 54 22 [l0, l1, l2, some (aI x), l4] L2 St S = ev c 54 23 [l0, l1, l2, some (aI x), l4] L2 (aI x :: St) S := ev_go i54_22 rfl
theorem i54_23 : insAt 54 23 = some (.invokevirtual 125, 3, (17, 1, 3, 4), 0) := rfl
theorem s54_23 {c : Nat → List AV → SS → Option Out} {l0 l1 l2 l3 l4 : Option AV} {a0 : Int32} {j t : Nat} {L2 : List (Nat × AV)} {S : SS} : ev c 54 23 [l0, l1, l2, l3, l4] L2 [aI a0, aR (4, j, t)] S = ck (c 17 [aR (4, j, t), aI a0] S) (fun v S' => ev c 54 26 [l0, l1, l2, l3, l4] L2 (v.toList ++ []) S') := ev_call i54_23 rfl
theorem i54_26 : insAt 54 26 = some (.astore 4, 2, (0, 0, 0, 0), 0) := rfl
theorem s54_26 {c : Nat → List AV → SS → Option Out} {l0 l1 l2 l3 l4 : Option AV} {o : OId} {L2 : List (Nat × AV)} {St : List AV} {S : SS} : ev c 54 26 [l0, l1, l2, l3, l4] L2 (aR o :: St) S = ev c 54 28 [l0, l1, l2, l3, some (aR o)] (kil L2 4) St S := ev_go i54_26 rfl
theorem i54_28 : insAt 54 28 = some (.aload 4, 2, (0, 0, 0, 0), 0) := rfl
theorem s54_28 {c : Nat → List AV → SS → Option Out} {l0 l1 l2 l3 : Option AV} {o : OId} {L2 : List (Nat × AV)} {St : List AV} {S : SS} : ev c 54 28 [l0, l1, l2, l3, some (aR o)] L2 St S = ev c 54 30 [l0, l1, l2, l3, some (aR o)] L2 (aR o :: St) S := ev_go i54_28 rfl
theorem i54_30 : insAt 54 30 = some (.getfield 138, 3, (10, 5, 1, 0), 0) := rfl
theorem s54_30 {c : Nat → List AV → SS → Option Out} {l0 l1 l2 l3 l4 : Option AV} {j t : Nat} {L2 : List (Nat × AV)} {St : List AV} {S : SS} : ev c 54 30 [l0, l1, l2, l3, l4] L2 (aR (10, j, t) :: St) S = ev c 54 33 [l0, l1, l2, l3, l4] L2 (aI (bb (S.1 (10, j, t) 5)) :: St) S := ev_go i54_30 rfl
theorem i54_33 : insAt 54 33 = some (.ifCond .ne 23, 3, (0, 0, 0, 0), 0) := rfl
theorem s54_33 {c : Nat → List AV → SS → Option Out} {l0 l1 l2 l3 l4 : Option AV} {x : Int32} {L2 : List (Nat × AV)} {St : List AV} {S : SS} : ev c 54 33 [l0, l1, l2, l3, l4] L2 (aI x :: St) S = if x = 0 then ev c 54 36 [l0, l1, l2, l3, l4] L2 St S else ev c 54 56 [l0, l1, l2, l3, l4] L2 St S := (ev_br i54_33 rfl).trans (ite_not _ _ _)
theorem i54_36 : insAt 54 36 = some (.iload_n 1, 1, (0, 0, 0, 0), 0) := rfl
theorem s54_36 {c : Nat → List AV → SS → Option Out} {l0 l2 l3 l4 : Option AV} {x : Int32} {L2 : List (Nat × AV)} {St : List AV} {S : SS} : ev c 54 36 [l0, some (aI x), l2, l3, l4] L2 St S = ev c 54 37 [l0, some (aI x), l2, l3, l4] L2 (aI x :: St) S := ev_go i54_36 rfl
theorem i54_37 : insAt 54 37 = some (.aload 4, 2, (0, 0, 0, 0), 0) := rfl
theorem s54_37 {c : Nat → List AV → SS → Option Out} {l0 l1 l2 l3 : Option AV} {o : OId} {L2 : List (Nat × AV)} {St : List AV} {S : SS} : ev c 54 37 [l0, l1, l2, l3, some (aR o)] L2 St S = ev c 54 39 [l0, l1, l2, l3, some (aR o)] L2 (aR o :: St) S := ev_go i54_37 rfl
theorem i54_39 : insAt 54 39 = some (.getfield 129, 3, (10, 3, 1, 0), 0) := rfl
theorem s54_39 {c : Nat → List AV → SS → Option Out} {l0 l1 l2 l3 l4 : Option AV} {j t : Nat} {L2 : List (Nat × AV)} {St : List AV} {S : SS} : ev c 54 39 [l0, l1, l2, l3, l4] L2 (aR (10, j, t) :: St) S = ev c 54 42 [l0, l1, l2, l3, l4] L2 (aI (S.1 (10, j, t) 3) :: St) S := ev_go i54_39 rfl
theorem i54_42 : insAt 54 42 = some (.invokestatic 295, 3, (53, 2, 0, 0), 0) := rfl
theorem s54_42 {c : Nat → List AV → SS → Option Out} {l0 l1 l2 l3 l4 : Option AV} {a0 : Int32} {a1 : Int32} {L2 : List (Nat × AV)} {S : SS} : ev c 54 42 [l0, l1, l2, l3, l4] L2 [aI a1, aI a0] S = ck (c 53 [aI a0, aI a1] S) (fun v S' => ev c 54 45 [l0, l1, l2, l3, l4] L2 (v.toList ++ []) S') := ev_call i54_42 rfl
theorem i54_45 : insAt 54 45 = some (.istore_n 1, 1, (0, 0, 0, 0), 0) := rfl
theorem s54_45 {c : Nat → List AV → SS → Option Out} {l0 l1 l2 l3 l4 : Option AV} {x : Int32} {L2 : List (Nat × AV)} {St : List AV} {S : SS} : ev c 54 45 [l0, l1, l2, l3, l4] L2 (aI x :: St) S = ev c 54 46 [l0, some (aI x), l2, l3, l4] (kil L2 1) St S := ev_go i54_45 rfl
theorem i54_46 : insAt 54 46 = some (.iload_n 2, 1, (0, 0, 0, 0), 0) := rfl
theorem s54_46 {c : Nat → List AV → SS → Option Out} {l0 l1 l3 l4 : Option AV} {x : Int32} {L2 : List (Nat × AV)} {St : List AV} {S : SS} : ev c 54 46 [l0, l1, some (aI x), l3, l4] L2 St S = ev c 54 47 [l0, l1, some (aI x), l3, l4] L2 (aI x :: St) S := ev_go i54_46 rfl
theorem i54_47 : insAt 54 47 = some (.aload 4, 2, (0, 0, 0, 0), 0) := rfl
theorem s54_47 {c : Nat → List AV → SS → Option Out} {l0 l1 l2 l3 : Option AV} {o : OId} {L2 : List (Nat × AV)} {St : List AV} {S : SS} : ev c 54 47 [l0, l1, l2, l3, some (aR o)] L2 St S = ev c 54 49 [l0, l1, l2, l3, some (aR o)] L2 (aR o :: St) S := ev_go i54_47 rfl
theorem i54_49 : insAt 54 49 = some (.getfield 129, 3, (10, 3, 1, 0), 0) := rfl
theorem s54_49 {c : Nat → List AV → SS → Option Out} {l0 l1 l2 l3 l4 : Option AV} {j t : Nat} {L2 : List (Nat × AV)} {St : List AV} {S : SS} : ev c 54 49 [l0, l1, l2, l3, l4] L2 (aR (10, j, t) :: St) S = ev c 54 52 [l0, l1, l2, l3, l4] L2 (aI (S.1 (10, j, t) 3) :: St) S := ev_go i54_49 rfl
theorem i54_52 : insAt 54 52 = some (.invokestatic 300, 3, (46, 2, 0, 0), 0) := rfl
theorem s54_52 {c : Nat → List AV → SS → Option Out} {l0 l1 l2 l3 l4 : Option AV} {a0 : Int32} {a1 : Int32} {L2 : List (Nat × AV)} {S : SS} : ev c 54 52 [l0, l1, l2, l3, l4] L2 [aI a1, aI a0] S = ck (c 46 [aI a0, aI a1] S) (fun v S' => ev c 54 55 [l0, l1, l2, l3, l4] L2 (v.toList ++ []) S') := ev_call i54_52 rfl
theorem i54_55 : insAt 54 55 = some (.istore_n 2, 1, (0, 0, 0, 0), 0) := rfl
theorem s54_55 {c : Nat → List AV → SS → Option Out} {l0 l1 l2 l3 l4 : Option AV} {x : Int32} {L2 : List (Nat × AV)} {St : List AV} {S : SS} : ev c 54 55 [l0, l1, l2, l3, l4] L2 (aI x :: St) S = ev c 54 56 [l0, l1, some (aI x), l3, l4] (kil L2 2) St S := ev_go i54_55 rfl
theorem i54_56 : insAt 54 56 = some (.iinc 3 1, 3, (0, 0, 0, 0), 0) := rfl
theorem s54_56 {c : Nat → List AV → SS → Option Out} {l0 l1 l2 l4 : Option AV} {x : Int32} {L2 : List (Nat × AV)} {St : List AV} {S : SS} : ev c 54 56 [l0, l1, l2, some (aI x), l4] L2 St S = ev c 54 59 [l0, l1, l2, some (aI (x + 1)), l4] (kil L2 3) St S := ev_go i54_56 rfl
theorem i54_59 : insAt 54 59 = some (.goto (-52), 3, (0, 0, 0, 0), 0) := rfl
theorem s54_59 {c : Nat → List AV → SS → Option Out} {l0 l1 l2 l3 l4 : Option AV} {L2 : List (Nat × AV)} {St : List AV} {S : SS} : ev c 54 59 [l0, l1, l2, l3, l4] L2 St S = ev c 54 7 [l0, l1, l2, l3, l4] L2 St S := ev_go i54_59 rfl
theorem i54_62 : insAt 54 62 = some (.iload_n 2, 1, (0, 0, 0, 0), 0) := rfl
theorem s54_62 {c : Nat → List AV → SS → Option Out} {l0 l1 l3 l4 : Option AV} {x : Int32} {L2 : List (Nat × AV)} {St : List AV} {S : SS} : ev c 54 62 [l0, l1, some (aI x), l3, l4] L2 St S = ev c 54 63 [l0, l1, some (aI x), l3, l4] L2 (aI x :: St) S := ev_go i54_62 rfl
theorem i54_63 : insAt 54 63 = some (.iconst (-1), 1, (0, 0, 0, 0), 0) := rfl
theorem s54_63 {c : Nat → List AV → SS → Option Out} {l0 l1 l2 l3 l4 : Option AV} {L2 : List (Nat × AV)} {St : List AV} {S : SS} : ev c 54 63 [l0, l1, l2, l3, l4] L2 St S = ev c 54 64 [l0, l1, l2, l3, l4] L2 (aI (-1) :: St) S := ev_go i54_63 rfl
theorem i54_64 : insAt 54 64 = some (.if_icmp .ne 7, 3, (0, 0, 0, 0), 0) := rfl
theorem s54_64 {c : Nat → List AV → SS → Option Out} {l0 l1 l2 l3 l4 : Option AV} {x y : Int32} {L2 : List (Nat × AV)} {St : List AV} {S : SS} : ev c 54 64 [l0, l1, l2, l3, l4] L2 (aI y :: aI x :: St) S = if x = y then ev c 54 67 [l0, l1, l2, l3, l4] L2 St S else ev c 54 71 [l0, l1, l2, l3, l4] L2 St S := (ev_br i54_64 rfl).trans (ite_not _ _ _)
theorem i54_67 : insAt 54 67 = some (.iconst 0, 1, (0, 0, 0, 0), 0) := rfl
theorem s54_67 {c : Nat → List AV → SS → Option Out} {l0 l1 l2 l3 l4 : Option AV} {L2 : List (Nat × AV)} {St : List AV} {S : SS} : ev c 54 67 [l0, l1, l2, l3, l4] L2 St S = ev c 54 68 [l0, l1, l2, l3, l4] L2 (aI 0 :: St) S := ev_go i54_67 rfl
theorem i54_68 : insAt 54 68 = some (.goto 8, 3, (0, 0, 0, 0), 0) := rfl
theorem s54_68 {c : Nat → List AV → SS → Option Out} {l0 l1 l2 l3 l4 : Option AV} {L2 : List (Nat × AV)} {St : List AV} {S : SS} : ev c 54 68 [l0, l1, l2, l3, l4] L2 St S = ev c 54 76 [l0, l1, l2, l3, l4] L2 St S := ev_go i54_68 rfl
theorem i54_71 : insAt 54 71 = some (.iload_n 2, 1, (0, 0, 0, 0), 0) := rfl
theorem s54_71 {c : Nat → List AV → SS → Option Out} {l0 l1 l3 l4 : Option AV} {x : Int32} {L2 : List (Nat × AV)} {St : List AV} {S : SS} : ev c 54 71 [l0, l1, some (aI x), l3, l4] L2 St S = ev c 54 72 [l0, l1, some (aI x), l3, l4] L2 (aI x :: St) S := ev_go i54_71 rfl
theorem i54_72 : insAt 54 72 = some (.iload_n 1, 1, (0, 0, 0, 0), 0) := rfl
theorem s54_72 {c : Nat → List AV → SS → Option Out} {l0 l2 l3 l4 : Option AV} {x : Int32} {L2 : List (Nat × AV)} {St : List AV} {S : SS} : ev c 54 72 [l0, some (aI x), l2, l3, l4] L2 St S = ev c 54 73 [l0, some (aI x), l2, l3, l4] L2 (aI x :: St) S := ev_go i54_72 rfl
theorem i54_73 : insAt 54 73 = some (.isub, 1, (0, 0, 0, 0), 0) := rfl
theorem s54_73 {c : Nat → List AV → SS → Option Out} {l0 l1 l2 l3 l4 : Option AV} {x y : Int32} {L2 : List (Nat × AV)} {St : List AV} {S : SS} : ev c 54 73 [l0, l1, l2, l3, l4] L2 (aI y :: aI x :: St) S = ev c 54 74 [l0, l1, l2, l3, l4] L2 (aI (x - y) :: St) S := ev_go i54_73 rfl
theorem i54_74 : insAt 54 74 = some (.iconst 1, 1, (0, 0, 0, 0), 0) := rfl
theorem s54_74 {c : Nat → List AV → SS → Option Out} {l0 l1 l2 l3 l4 : Option AV} {L2 : List (Nat × AV)} {St : List AV} {S : SS} : ev c 54 74 [l0, l1, l2, l3, l4] L2 St S = ev c 54 75 [l0, l1, l2, l3, l4] L2 (aI 1 :: St) S := ev_go i54_74 rfl
theorem i54_75 : insAt 54 75 = some (.iadd, 1, (0, 0, 0, 0), 0) := rfl
theorem s54_75 {c : Nat → List AV → SS → Option Out} {l0 l1 l2 l3 l4 : Option AV} {x y : Int32} {L2 : List (Nat × AV)} {St : List AV} {S : SS} : ev c 54 75 [l0, l1, l2, l3, l4] L2 (aI y :: aI x :: St) S = ev c 54 76 [l0, l1, l2, l3, l4] L2 (aI (x + y) :: St) S := ev_go i54_75 rfl
theorem i54_76 : insAt 54 76 = some (.ireturn, 1, (0, 0, 0, 0), 0) := rfl
theorem s54_76 {c : Nat → List AV → SS → Option Out} {l0 l1 l2 l3 l4 : Option AV} {x : Int32} {L2 : List (Nat × AV)} {St : List AV} {S : SS} : ev c 54 76 [l0, l1, l2, l3, l4] L2 [aI x] S = some (.inl (some (aI x)), S) := ev_end i54_76 rfl
theorem m54 {d : Nat} {o : OId} {S : SS} : evm (d + 1) 54 [aR o] S = ev (evm d) 54 0 [some (aR o), none, none, none, none] [] [] S := evm_s (n := 5) rfl (Nat.le_of_ble_eq_true rfl) rfl rfl
/-! FrequencyOffice.save()I -/
theorem i55_0 : insAt 55 0 = some (.aload_n 0, 1, (0, 0, 0, 0), 0) := rfl
theorem s55_0 {c : Nat → List AV → SS → Option Out} {o : OId} {L2 : List (Nat × AV)} {St : List AV} {S : SS} : ev c 55 0 [some (aR o)] L2 St S = ev c 55 1 [some (aR o)] L2 (aR o :: St) S := ev_go i55_0 rfl
theorem i55_1 : insAt 55 1 = some (.getfield 23, 3, (11, 2, 0, 0), 0) := rfl
theorem s55_1 {c : Nat → List AV → SS → Option Out} {l0 : Option AV} {j t : Nat} {L2 : List (Nat × AV)} {St : List AV} {S : SS} : ev c 55 1 [l0] L2 (aR (11, j, t) :: St) S = ev c 55 4 [l0] L2 (S.2.2.1 (11, j, t) 2 :: St) S := ev_go i55_1 rfl
theorem i55_4 : insAt 55 4 = some (.aload_n 0, 1, (0, 0, 0, 0), 0) := rfl
theorem s55_4 {c : Nat → List AV → SS → Option Out} {o : OId} {L2 : List (Nat × AV)} {St : List AV} {S : SS} : ev c 55 4 [some (aR o)] L2 St S = ev c 55 5 [some (aR o)] L2 (aR o :: St) S := ev_go i55_4 rfl
theorem i55_5 : insAt 55 5 = some (.getfield 10, 3, (11, 0, 0, 0), 0) := rfl
theorem s55_5 {c : Nat → List AV → SS → Option Out} {l0 : Option AV} {j t : Nat} {L2 : List (Nat × AV)} {St : List AV} {S : SS} : ev c 55 5 [l0] L2 (aR (11, j, t) :: St) S = ev c 55 8 [l0] L2 (S.2.2.1 (11, j, t) 0 :: St) S := ev_go i55_5 rfl
theorem i55_8 : insAt 55 8 = some (.invokevirtual 341, 3, (56, 1, 3, 4), 0) := rfl
theorem s55_8 {c : Nat → List AV → SS → Option Out} {l0 : Option AV} {a0 : OId} {j t : Nat} {L2 : List (Nat × AV)} {S : SS} : ev c 55 8 [l0] L2 [aR a0, aR (4, j, t)] S = ck (c 56 [aR (4, j, t), aR a0] S) (fun v S' => ev c 55 11 [l0] L2 (v.toList ++ []) S') := ev_call i55_8 rfl
theorem i55_11 : insAt 55 11 = some (.aload_n 0, 1, (0, 0, 0, 0), 0) := rfl
theorem s55_11 {c : Nat → List AV → SS → Option Out} {o : OId} {L2 : List (Nat × AV)} {St : List AV} {S : SS} : ev c 55 11 [some (aR o)] L2 St S = ev c 55 12 [some (aR o)] L2 (aR o :: St) S := ev_go i55_11 rfl
theorem i55_12 : insAt 55 12 = some (.iconst 1, 1, (0, 0, 0, 0), 0) := rfl
theorem s55_12 {c : Nat → List AV → SS → Option Out} {l0 : Option AV} {L2 : List (Nat × AV)} {St : List AV} {S : SS} : ev c 55 12 [l0] L2 St S = ev c 55 13 [l0] L2 (aI 1 :: St) S := ev_go i55_12 rfl
theorem i55_13 : insAt 55 13 = some (.putfield 26, 3, (11, 3, 0, 0), 0) := rfl
theorem s55_13 {c : Nat → List AV → SS → Option Out} {l0 : Option AV} {j t : Nat} {x : Int32} {L2 : List (Nat × AV)} {St : List AV} {S : SS} : ev c 55 13 [l0] L2 (aI x :: aR (11, j, t) :: St) S = if x = 0 ∨ x = 1 then ev c 55 16 [l0] L2 St (setI S.1 (11, j, t) 3 x, S.2) else none := ev_if i55_13 rfl
theorem i55_16 : insAt 55 16 = some (.aload_n 0, 1, (0, 0, 0, 0), 0) := rfl
theorem s55_16 {c : Nat → List AV → SS → Option Out} {o : OId} {L2 : List (Nat × AV)} {St : List AV} {S : SS} : ev c 55 16 [some (aR o)] L2 St S = ev c 55 17 [some (aR o)] L2 (aR o :: St) S := ev_go i55_16 rfl
theorem i55_17 : insAt 55 17 = some (.getfield 10, 3, (11, 0, 0, 0), 0) := rfl
theorem s55_17 {c : Nat → List AV → SS → Option Out} {l0 : Option AV} {j t : Nat} {L2 : List (Nat × AV)} {St : List AV} {S : SS} : ev c 55 17 [l0] L2 (aR (11, j, t) :: St) S = ev c 55 20 [l0] L2 (S.2.2.1 (11, j, t) 0 :: St) S := ev_go i55_17 rfl
theorem i55_20 : insAt 55 20 = some (.getfield 60, 3, (4, 7, 1, 0), 0) := rfl
theorem s55_20 {c : Nat → List AV → SS → Option Out} {l0 : Option AV} {j t : Nat} {L2 : List (Nat × AV)} {St : List AV} {S : SS} : ev c 55 20 [l0] L2 (aR (4, j, t) :: St) S = ev c 55 23 [l0] L2 (aI (S.1 (4, j, t) 7) :: St) S := ev_go i55_20 rfl
theorem i55_23 : insAt 55 23 = some (.ireturn, 1, (0, 0, 0, 0), 0) := rfl
theorem s55_23 {c : Nat → List AV → SS → Option Out} {l0 : Option AV} {x : Int32} {L2 : List (Nat × AV)} {St : List AV} {S : SS} : ev c 55 23 [l0] L2 [aI x] S = some (.inl (some (aI x)), S) := ev_end i55_23 rfl
theorem m55 {d : Nat} {o : OId} {S : SS} : evm (d + 1) 55 [aR o] S = ev (evm d) 55 0 [some (aR o)] [] [] S := evm_s (n := 1) rfl (Nat.le_of_ble_eq_true rfl) rfl rfl
/-! FrequencyOffice.setRadii(III)I -/
theorem i60_0 : insAt 60 0 = some (.iload_n 3, 1, (0, 0, 0, 0), 0) := rfl
theorem s60_0 {c : Nat → List AV → SS → Option Out} {l0 l1 l2 l4 : Option AV} {x : Int32} {L2 : List (Nat × AV)} {St : List AV} {S : SS} : ev c 60 0 [l0, l1, l2, some (aI x), l4] L2 St S = ev c 60 1 [l0, l1, l2, some (aI x), l4] L2 (aI x :: St) S := ev_go i60_0 rfl
theorem i60_1 : insAt 60 1 = some (.iconst 0, 1, (0, 0, 0, 0), 0) := rfl
theorem s60_1 {c : Nat → List AV → SS → Option Out} {l0 l1 l2 l3 l4 : Option AV} {L2 : List (Nat × AV)} {St : List AV} {S : SS} : ev c 60 1 [l0, l1, l2, l3, l4] L2 St S = ev c 60 2 [l0, l1, l2, l3, l4] L2 (aI 0 :: St) S := ev_go i60_1 rfl
theorem i60_2 : insAt 60 2 = some (.sipush 200, 3, (0, 0, 0, 0), 0) := rfl
theorem s60_2 {c : Nat → List AV → SS → Option Out} {l0 l1 l2 l3 l4 : Option AV} {L2 : List (Nat × AV)} {St : List AV} {S : SS} : ev c 60 2 [l0, l1, l2, l3, l4] L2 St S = ev c 60 5 [l0, l1, l2, l3, l4] L2 (aI 200 :: St) S := ev_go i60_2 rfl
theorem i60_5 : insAt 60 5 = some (.invokestatic 56, 3, (61, 3, 0, 0), 0) := rfl
theorem s60_5 {c : Nat → List AV → SS → Option Out} {l0 l1 l2 l3 l4 : Option AV} {a0 : Int32} {a1 : Int32} {a2 : Int32} {L2 : List (Nat × AV)} {S : SS} : ev c 60 5 [l0, l1, l2, l3, l4] L2 [aI a2, aI a1, aI a0] S = ck (c 61 [aI a0, aI a1, aI a2] S) (fun v S' => ev c 60 8 [l0, l1, l2, l3, l4] L2 (v.toList ++ []) S') := ev_call i60_5 rfl
theorem i60_8 : insAt 60 8 = some (.iload_n 2, 1, (0, 0, 0, 0), 0) := rfl
theorem s60_8 {c : Nat → List AV → SS → Option Out} {l0 l1 l3 l4 : Option AV} {x : Int32} {L2 : List (Nat × AV)} {St : List AV} {S : SS} : ev c 60 8 [l0, l1, some (aI x), l3, l4] L2 St S = ev c 60 9 [l0, l1, some (aI x), l3, l4] L2 (aI x :: St) S := ev_go i60_8 rfl
theorem i60_9 : insAt 60 9 = some (.iconst 0, 1, (0, 0, 0, 0), 0) := rfl
theorem s60_9 {c : Nat → List AV → SS → Option Out} {l0 l1 l2 l3 l4 : Option AV} {L2 : List (Nat × AV)} {St : List AV} {S : SS} : ev c 60 9 [l0, l1, l2, l3, l4] L2 St S = ev c 60 10 [l0, l1, l2, l3, l4] L2 (aI 0 :: St) S := ev_go i60_9 rfl
theorem i60_10 : insAt 60 10 = some (.iload_n 3, 1, (0, 0, 0, 0), 0) := rfl
theorem s60_10 {c : Nat → List AV → SS → Option Out} {l0 l1 l2 l4 : Option AV} {x : Int32} {L2 : List (Nat × AV)} {St : List AV} {S : SS} : ev c 60 10 [l0, l1, l2, some (aI x), l4] L2 St S = ev c 60 11 [l0, l1, l2, some (aI x), l4] L2 (aI x :: St) S := ev_go i60_10 rfl
theorem i60_11 : insAt 60 11 = some (.invokestatic 56, 3, (61, 3, 0, 0), 0) := rfl
theorem s60_11 {c : Nat → List AV → SS → Option Out} {l0 l1 l2 l3 l4 : Option AV} {a0 : Int32} {a1 : Int32} {a2 : Int32} {L2 : List (Nat × AV)} {S : SS} : ev c 60 11 [l0, l1, l2, l3, l4] L2 [aI a2, aI a1, aI a0] S = ck (c 61 [aI a0, aI a1, aI a2] S) (fun v S' => ev c 60 14 [l0, l1, l2, l3, l4] L2 (v.toList ++ []) S') := ev_call i60_11 rfl
theorem i60_14 : insAt 60 14 = some (.iload_n 1, 1, (0, 0, 0, 0), 0) := rfl
theorem s60_14 {c : Nat → List AV → SS → Option Out} {l0 l2 l3 l4 : Option AV} {x : Int32} {L2 : List (Nat × AV)} {St : List AV} {S : SS} : ev c 60 14 [l0, some (aI x), l2, l3, l4] L2 St S = ev c 60 15 [l0, some (aI x), l2, l3, l4] L2 (aI x :: St) S := ev_go i60_14 rfl
theorem i60_15 : insAt 60 15 = some (.iconst 0, 1, (0, 0, 0, 0), 0) := rfl
theorem s60_15 {c : Nat → List AV → SS → Option Out} {l0 l1 l2 l3 l4 : Option AV} {L2 : List (Nat × AV)} {St : List AV} {S : SS} : ev c 60 15 [l0, l1, l2, l3, l4] L2 St S = ev c 60 16 [l0, l1, l2, l3, l4] L2 (aI 0 :: St) S := ev_go i60_15 rfl
theorem i60_16 : insAt 60 16 = some (.iload_n 2, 1, (0, 0, 0, 0), 0) := rfl
theorem s60_16 {c : Nat → List AV → SS → Option Out} {l0 l1 l3 l4 : Option AV} {x : Int32} {L2 : List (Nat × AV)} {St : List AV} {S : SS} : ev c 60 16 [l0, l1, some (aI x), l3, l4] L2 St S = ev c 60 17 [l0, l1, some (aI x), l3, l4] L2 (aI x :: St) S := ev_go i60_16 rfl
theorem i60_17 : insAt 60 17 = some (.invokestatic 56, 3, (61, 3, 0, 0), 0) := rfl
theorem s60_17 {c : Nat → List AV → SS → Option Out} {l0 l1 l2 l3 l4 : Option AV} {a0 : Int32} {a1 : Int32} {a2 : Int32} {L2 : List (Nat × AV)} {S : SS} : ev c 60 17 [l0, l1, l2, l3, l4] L2 [aI a2, aI a1, aI a0] S = ck (c 61 [aI a0, aI a1, aI a2] S) (fun v S' => ev c 60 20 [l0, l1, l2, l3, l4] L2 (v.toList ++ []) S') := ev_call i60_17 rfl
theorem i60_20 : insAt 60 20 = some (.aload_n 0, 1, (0, 0, 0, 0), 0) := rfl
theorem s60_20 {c : Nat → List AV → SS → Option Out} {l1 l2 l3 l4 : Option AV} {o : OId} {L2 : List (Nat × AV)} {St : List AV} {S : SS} : ev c 60 20 [some (aR o), l1, l2, l3, l4] L2 St S = ev c 60 21 [some (aR o), l1, l2, l3, l4] L2 (aR o :: St) S := ev_go i60_20 rfl
theorem i60_21 : insAt 60 21 = some (.getfield 10, 3, (11, 0, 0, 0), 0) := rfl
theorem s60_21 {c : Nat → List AV → SS → Option Out} {l0 l1 l2 l3 l4 : Option AV} {j t : Nat} {L2 : List (Nat × AV)} {St : List AV} {S : SS} : ev c 60 21 [l0, l1, l2, l3, l4] L2 (aR (11, j, t) :: St) S = ev c 60 24 [l0, l1, l2, l3, l4] L2 (S.2.2.1 (11, j, t) 0 :: St) S := ev_go i60_21 rfl
theorem i60_24 : insAt 60 24 = some (.getfield 60, 3, (4, 7, 1, 0), 0) := rfl
theorem s60_24 {c : Nat → List AV → SS → Option Out} {l0 l1 l2 l3 l4 : Option AV} {j t : Nat} {L2 : List (Nat × AV)} {St : List AV} {S : SS} : ev c 60 24 [l0, l1, l2, l3, l4] L2 (aR (4, j, t) :: St) S = ev c 60 27 [l0, l1, l2, l3, l4] L2 (aI (S.1 (4, j, t) 7) :: St) S := ev_go i60_24 rfl
theorem i60_27 : insAt 60 27 = some (.ifCond .le 13, 3, (0, 0, 0, 0), 0) := rfl
theorem s60_27 {c : Nat → List AV → SS → Option Out} {l0 l1 l2 l3 l4 : Option AV} {x : Int32} {L2 : List (Nat × AV)} {St : List AV} {S : SS} : ev c 60 27 [l0, l1, l2, l3, l4] L2 (aI x :: St) S = if x ≤ 0 then ev c 60 40 [l0, l1, l2, l3, l4] L2 St S else ev c 60 30 [l0, l1, l2, l3, l4] L2 St S := ev_br i60_27 rfl
theorem i60_30 : insAt 60 30 = some (.new 64, 3, (1, 0, 1, 0), 0) := rfl
theorem s60_30 {c : Nat → List AV → SS → Option Out} {l0 l1 l2 l3 l4 : Option AV} {L2 : List (Nat × AV)} {S : SS} : ev c 60 30 [l0, l1, l2, l3, l4] L2 [] S = some (.inr "java/lang/IllegalStateException", bump S 1 6) := ev_end i60_30 rfl
theorem i60_33 : insAt 60 33 = some (.dup, 1, (0, 0, 0, 0), 0) := rfl
theorem s60_33 {c : Nat → List AV → SS → Option Out} {l0 l1 l2 l3 l4 : Option AV} {x : OId} {L2 : List (Nat × AV)} {St : List AV} {S : SS} : ev c 60 33 [l0, l1, l2, l3, l4] L2 (aR x :: St) S = ev c 60 34 [l0, l1, l2, l3, l4] L2 (aR x :: aR x :: St) S := ev_go i60_33 rfl
theorem i60_40 : insAt 60 40 = some (.aload_n 0, 1, (0, 0, 0, 0), 0) := rfl
theorem s60_40 {c : Nat → List AV → SS → Option Out} {l1 l2 l3 l4 : Option AV} {o : OId} {L2 : List (Nat × AV)} {St : List AV} {S : SS} : ev c 60 40 [some (aR o), l1, l2, l3, l4] L2 St S = ev c 60 41 [some (aR o), l1, l2, l3, l4] L2 (aR o :: St) S := ev_go i60_40 rfl
theorem i60_41 : insAt 60 41 = some (.getfield 19, 3, (11, 1, 0, 0), 0) := rfl
theorem s60_41 {c : Nat → List AV → SS → Option Out} {l0 l1 l2 l3 l4 : Option AV} {j t : Nat} {L2 : List (Nat × AV)} {St : List AV} {S : SS} : ev c 60 41 [l0, l1, l2, l3, l4] L2 (aR (11, j, t) :: St) S = ev c 60 44 [l0, l1, l2, l3, l4] L2 (S.2.2.1 (11, j, t) 1 :: St) S := ev_go i60_41 rfl
theorem i60_44 : insAt 60 44 = some (.aload_n 0, 1, (0, 0, 0, 0), 0) := rfl
theorem s60_44 {c : Nat → List AV → SS → Option Out} {l1 l2 l3 l4 : Option AV} {o : OId} {L2 : List (Nat × AV)} {St : List AV} {S : SS} : ev c 60 44 [some (aR o), l1, l2, l3, l4] L2 St S = ev c 60 45 [some (aR o), l1, l2, l3, l4] L2 (aR o :: St) S := ev_go i60_44 rfl
theorem i60_45 : insAt 60 45 = some (.getfield 10, 3, (11, 0, 0, 0), 0) := rfl
theorem s60_45 {c : Nat → List AV → SS → Option Out} {l0 l1 l2 l3 l4 : Option AV} {j t : Nat} {L2 : List (Nat × AV)} {St : List AV} {S : SS} : ev c 60 45 [l0, l1, l2, l3, l4] L2 (aR (11, j, t) :: St) S = ev c 60 48 [l0, l1, l2, l3, l4] L2 (S.2.2.1 (11, j, t) 0 :: St) S := ev_go i60_45 rfl
theorem i60_48 : insAt 60 48 = some (.invokevirtual 71, 3, (62, 1, 3, 5), 0) := rfl
theorem s60_48 {c : Nat → List AV → SS → Option Out} {l0 l1 l2 l3 l4 : Option AV} {a0 : OId} {j t : Nat} {L2 : List (Nat × AV)} {S : SS} : ev c 60 48 [l0, l1, l2, l3, l4] L2 [aR a0, aR (5, j, t)] S = ck (c 62 [aR (5, j, t), aR a0] S) (fun v S' => ev c 60 51 [l0, l1, l2, l3, l4] L2 (v.toList ++ []) S') := ev_call i60_48 rfl
theorem i60_51 : insAt 60 51 = some (.aload_n 0, 1, (0, 0, 0, 0), 0) := rfl
theorem s60_51 {c : Nat → List AV → SS → Option Out} {l1 l2 l3 l4 : Option AV} {o : OId} {L2 : List (Nat × AV)} {St : List AV} {S : SS} : ev c 60 51 [some (aR o), l1, l2, l3, l4] L2 St S = ev c 60 52 [some (aR o), l1, l2, l3, l4] L2 (aR o :: St) S := ev_go i60_51 rfl
theorem i60_52 : insAt 60 52 = some (.getfield 10, 3, (11, 0, 0, 0), 0) := rfl
theorem s60_52 {c : Nat → List AV → SS → Option Out} {l0 l1 l2 l3 l4 : Option AV} {j t : Nat} {L2 : List (Nat × AV)} {St : List AV} {S : SS} : ev c 60 52 [l0, l1, l2, l3, l4] L2 (aR (11, j, t) :: St) S = ev c 60 55 [l0, l1, l2, l3, l4] L2 (S.2.2.1 (11, j, t) 0 :: St) S := ev_go i60_52 rfl
theorem i60_55 : insAt 60 55 = some (.getfield 75, 3, (4, 2, 1, 0), 0) := rfl
theorem s60_55 {c : Nat → List AV → SS → Option Out} {l0 l1 l2 l3 l4 : Option AV} {j t : Nat} {L2 : List (Nat × AV)} {St : List AV} {S : SS} : ev c 60 55 [l0, l1, l2, l3, l4] L2 (aR (4, j, t) :: St) S = ev c 60 58 [l0, l1, l2, l3, l4] L2 (aI (S.1 (4, j, t) 2) :: St) S := ev_go i60_55 rfl
theorem i60_58 : insAt 60 58 = some (.istore 4, 2, (0, 0, 0, 0), 0) := rfl
theorem s60_58 {c : Nat → List AV → SS → Option Out} {l0 l1 l2 l3 l4 : Option AV} {x : Int32} {L2 : List (Nat × AV)} {St : List AV} {S : SS} : ev c 60 58 [l0, l1, l2, l3, l4] L2 (aI x :: St) S = ev c 60 60 [l0, l1, l2, l3, some (aI x)] (kil L2 4) St S := ev_go i60_58 rfl
theorem i60_60 : insAt 60 60 = some (.aload_n 0, 1, (0, 0, 0, 0), 0) := rfl
theorem s60_60 {c : Nat → List AV → SS → Option Out} {l1 l2 l3 l4 : Option AV} {o : OId} {L2 : List (Nat × AV)} {St : List AV} {S : SS} : ev c 60 60 [some (aR o), l1, l2, l3, l4] L2 St S = ev c 60 61 [some (aR o), l1, l2, l3, l4] L2 (aR o :: St) S := ev_go i60_60 rfl
theorem i60_61 : insAt 60 61 = some (.getfield 10, 3, (11, 0, 0, 0), 0) := rfl
theorem s60_61 {c : Nat → List AV → SS → Option Out} {l0 l1 l2 l3 l4 : Option AV} {j t : Nat} {L2 : List (Nat × AV)} {St : List AV} {S : SS} : ev c 60 61 [l0, l1, l2, l3, l4] L2 (aR (11, j, t) :: St) S = ev c 60 64 [l0, l1, l2, l3, l4] L2 (S.2.2.1 (11, j, t) 0 :: St) S := ev_go i60_61 rfl
theorem i60_64 : insAt 60 64 = some (.iload_n 1, 1, (0, 0, 0, 0), 0) := rfl
theorem s60_64 {c : Nat → List AV → SS → Option Out} {l0 l2 l3 l4 : Option AV} {x : Int32} {L2 : List (Nat × AV)} {St : List AV} {S : SS} : ev c 60 64 [l0, some (aI x), l2, l3, l4] L2 St S = ev c 60 65 [l0, some (aI x), l2, l3, l4] L2 (aI x :: St) S := ev_go i60_64 rfl
theorem i60_65 : insAt 60 65 = some (.putfield 78, 3, (4, 0, 1, 0), 0) := rfl
theorem s60_65 {c : Nat → List AV → SS → Option Out} {l0 l1 l2 l3 l4 : Option AV} {j t : Nat} {x : Int32} {L2 : List (Nat × AV)} {St : List AV} {S : SS} : ev c 60 65 [l0, l1, l2, l3, l4] L2 (aI x :: aR (4, j, t) :: St) S = ev c 60 68 [l0, l1, l2, l3, l4] L2 St (setI S.1 (4, j, t) 0 x, S.2) := ev_go i60_65 rfl
theorem i60_68 : insAt 60 68 = some (.aload_n 0, 1, (0, 0, 0, 0), 0) := rfl
theorem s60_68 {c : Nat → List AV → SS → Option Out} {l1 l2 l3 l4 : Option AV} {o : OId} {L2 : List (Nat × AV)} {St : List AV} {S : SS} : ev c 60 68 [some (aR o), l1, l2, l3, l4] L2 St S = ev c 60 69 [some (aR o), l1, l2, l3, l4] L2 (aR o :: St) S := ev_go i60_68 rfl
theorem i60_69 : insAt 60 69 = some (.getfield 10, 3, (11, 0, 0, 0), 0) := rfl
theorem s60_69 {c : Nat → List AV → SS → Option Out} {l0 l1 l2 l3 l4 : Option AV} {j t : Nat} {L2 : List (Nat × AV)} {St : List AV} {S : SS} : ev c 60 69 [l0, l1, l2, l3, l4] L2 (aR (11, j, t) :: St) S = ev c 60 72 [l0, l1, l2, l3, l4] L2 (S.2.2.1 (11, j, t) 0 :: St) S := ev_go i60_69 rfl
theorem i60_72 : insAt 60 72 = some (.iload_n 2, 1, (0, 0, 0, 0), 0) := rfl
theorem s60_72 {c : Nat → List AV → SS → Option Out} {l0 l1 l3 l4 : Option AV} {x : Int32} {L2 : List (Nat × AV)} {St : List AV} {S : SS} : ev c 60 72 [l0, l1, some (aI x), l3, l4] L2 St S = ev c 60 73 [l0, l1, some (aI x), l3, l4] L2 (aI x :: St) S := ev_go i60_72 rfl
theorem i60_73 : insAt 60 73 = some (.putfield 81, 3, (4, 1, 1, 0), 0) := rfl
theorem s60_73 {c : Nat → List AV → SS → Option Out} {l0 l1 l2 l3 l4 : Option AV} {j t : Nat} {x : Int32} {L2 : List (Nat × AV)} {St : List AV} {S : SS} : ev c 60 73 [l0, l1, l2, l3, l4] L2 (aI x :: aR (4, j, t) :: St) S = ev c 60 76 [l0, l1, l2, l3, l4] L2 St (setI S.1 (4, j, t) 1 x, S.2) := ev_go i60_73 rfl
theorem i60_76 : insAt 60 76 = some (.aload_n 0, 1, (0, 0, 0, 0), 0) := rfl
theorem s60_76 {c : Nat → List AV → SS → Option Out} {l1 l2 l3 l4 : Option AV} {o : OId} {L2 : List (Nat × AV)} {St : List AV} {S : SS} : ev c 60 76 [some (aR o), l1, l2, l3, l4] L2 St S = ev c 60 77 [some (aR o), l1, l2, l3, l4] L2 (aR o :: St) S := ev_go i60_76 rfl
theorem i60_77 : insAt 60 77 = some (.getfield 10, 3, (11, 0, 0, 0), 0) := rfl
theorem s60_77 {c : Nat → List AV → SS → Option Out} {l0 l1 l2 l3 l4 : Option AV} {j t : Nat} {L2 : List (Nat × AV)} {St : List AV} {S : SS} : ev c 60 77 [l0, l1, l2, l3, l4] L2 (aR (11, j, t) :: St) S = ev c 60 80 [l0, l1, l2, l3, l4] L2 (S.2.2.1 (11, j, t) 0 :: St) S := ev_go i60_77 rfl
theorem i60_80 : insAt 60 80 = some (.iload_n 3, 1, (0, 0, 0, 0), 0) := rfl
theorem s60_80 {c : Nat → List AV → SS → Option Out} {l0 l1 l2 l4 : Option AV} {x : Int32} {L2 : List (Nat × AV)} {St : List AV} {S : SS} : ev c 60 80 [l0, l1, l2, some (aI x), l4] L2 St S = ev c 60 81 [l0, l1, l2, some (aI x), l4] L2 (aI x :: St) S := ev_go i60_80 rfl
theorem i60_81 : insAt 60 81 = some (.putfield 75, 3, (4, 2, 1, 0), 0) := rfl
theorem s60_81 {c : Nat → List AV → SS → Option Out} {l0 l1 l2 l3 l4 : Option AV} {j t : Nat} {x : Int32} {L2 : List (Nat × AV)} {St : List AV} {S : SS} : ev c 60 81 [l0, l1, l2, l3, l4] L2 (aI x :: aR (4, j, t) :: St) S = ev c 60 84 [l0, l1, l2, l3, l4] L2 St (setI S.1 (4, j, t) 2 x, S.2) := ev_go i60_81 rfl
theorem i60_84 : insAt 60 84 = some (.iload 4, 2, (0, 0, 0, 0), 0) := rfl
theorem s60_84 {c : Nat → List AV → SS → Option Out} {l0 l1 l2 l3 : Option AV} {x : Int32} {L2 : List (Nat × AV)} {St : List AV} {S : SS} : ev c 60 84 [l0, l1, l2, l3, some (aI x)] L2 St S = ev c 60 86 [l0, l1, l2, l3, some (aI x)] L2 (aI x :: St) S := ev_go i60_84 rfl
theorem i60_86 : insAt 60 86 = some (.ireturn, 1, (0, 0, 0, 0), 0) := rfl
theorem s60_86 {c : Nat → List AV → SS → Option Out} {l0 l1 l2 l3 l4 : Option AV} {x : Int32} {L2 : List (Nat × AV)} {St : List AV} {S : SS} : ev c 60 86 [l0, l1, l2, l3, l4] L2 [aI x] S = some (.inl (some (aI x)), S) := ev_end i60_86 rfl
theorem m60 {d : Nat} {o : OId} {a0 : Int32} {a1 : Int32} {a2 : Int32} {S : SS} : evm (d + 1) 60 [aR o, aI a0, aI a1, aI a2] S = ev (evm d) 60 0 [some (aR o), some (aI a0), some (aI a1), some (aI a2), none] [] [] S := evm_s (n := 5) rfl (Nat.le_of_ble_eq_true rfl) rfl rfl
/-! FrequencyOffice.checkRange(III)V -/
theorem i61_0 : insAt 61 0 = some (.iload_n 0, 1, (0, 0, 0, 0), 0) := rfl
theorem s61_0 {c : Nat → List AV → SS → Option Out} {l1 l2 : Option AV} {x : Int32} {L2 : List (Nat × AV)} {St : List AV} {S : SS} : ev c 61 0 [some (aI x), l1, l2] L2 St S = ev c 61 1 [some (aI x), l1, l2] L2 (aI x :: St) S := ev_go i61_0 rfl
theorem i61_1 : insAt 61 1 = some (.iload_n 1, 1, (0, 0, 0, 0), 0) := rfl
theorem s61_1 {c : Nat → List AV → SS → Option Out} {l0 l2 : Option AV} {x : Int32} {L2 : List (Nat × AV)} {St : List AV} {S : SS} : ev c 61 1 [l0, some (aI x), l2] L2 St S = ev c 61 2 [l0, some (aI x), l2] L2 (aI x :: St) S := ev_go i61_1 rfl
theorem i61_2 : insAt 61 2 = some (.if_icmp .lt 8, 3, (0, 0, 0, 0), 0) := rfl
theorem s61_2 {c : Nat → List AV → SS → Option Out} {l0 l1 l2 : Option AV} {x y : Int32} {L2 : List (Nat × AV)} {St : List AV} {S : SS} : ev c 61 2 [l0, l1, l2] L2 (aI y :: aI x :: St) S = if x < y then ev c 61 10 [l0, l1, l2] L2 St S else ev c 61 5 [l0, l1, l2] L2 St S := ev_br i61_2 rfl
theorem i61_5 : insAt 61 5 = some (.iload_n 0, 1, (0, 0, 0, 0), 0) := rfl
theorem s61_5 {c : Nat → List AV → SS → Option Out} {l1 l2 : Option AV} {x : Int32} {L2 : List (Nat × AV)} {St : List AV} {S : SS} : ev c 61 5 [some (aI x), l1, l2] L2 St S = ev c 61 6 [some (aI x), l1, l2] L2 (aI x :: St) S := ev_go i61_5 rfl
theorem i61_6 : insAt 61 6 = some (.iload_n 2, 1, (0, 0, 0, 0), 0) := rfl
theorem s61_6 {c : Nat → List AV → SS → Option Out} {l0 l1 : Option AV} {x : Int32} {L2 : List (Nat × AV)} {St : List AV} {S : SS} : ev c 61 6 [l0, l1, some (aI x)] L2 St S = ev c 61 7 [l0, l1, some (aI x)] L2 (aI x :: St) S := ev_go i61_6 rfl
theorem i61_7 : insAt 61 7 = some (.if_icmp .le 14, 3, (0, 0, 0, 0), 0) := rfl
theorem s61_7 {c : Nat → List AV → SS → Option Out} {l0 l1 l2 : Option AV} {x y : Int32} {L2 : List (Nat × AV)} {St : List AV} {S : SS} : ev c 61 7 [l0, l1, l2] L2 (aI y :: aI x :: St) S = if x ≤ y then ev c 61 21 [l0, l1, l2] L2 St S else ev c 61 10 [l0, l1, l2] L2 St S := ev_br i61_7 rfl
theorem i61_10 : insAt 61 10 = some (.new 349, 3, (0, 0, 1, 0), 0) := rfl
theorem s61_10 {c : Nat → List AV → SS → Option Out} {l0 l1 l2 : Option AV} {L2 : List (Nat × AV)} {S : SS} : ev c 61 10 [l0, l1, l2] L2 [] S = some (.inr "java/lang/IllegalArgumentException", bump S 1 6) := ev_end i61_10 rfl
theorem i61_13 : insAt 61 13 = some (.dup, 1, (0, 0, 0, 0), 0) := rfl
theorem s61_13 {c : Nat → List AV → SS → Option Out} {l0 l1 l2 : Option AV} {x : OId} {L2 : List (Nat × AV)} {St : List AV} {S : SS} : ev c 61 13 [l0, l1, l2] L2 (aR x :: St) S = ev c 61 14 [l0, l1, l2] L2 (aR x :: aR x :: St) S := ev_go i61_13 rfl
theorem i61_21 : insAt 61 21 = some (.return_, 1, (0, 0, 0, 0), 0) := rfl
theorem s61_21 {c : Nat → List AV → SS → Option Out} {l0 l1 l2 : Option AV} {L2 : List (Nat × AV)} {St : List AV} {S : SS} : ev c 61 21 [l0, l1, l2] L2 [] S = some (.inl none, S) := ev_end i61_21 rfl
theorem m61 {d : Nat} {a0 : Int32} {a1 : Int32} {a2 : Int32} {S : SS} : evm (d + 1) 61 [aI a0, aI a1, aI a2] S = ev (evm d) 61 0 [some (aI a0), some (aI a1), some (aI a2)] [] [] S := evm_s (n := 3) rfl (Nat.le_of_ble_eq_true rfl) rfl rfl
/-! FrequencyOffice.license(III)I -/
theorem i65_0 : insAt 65 0 = some (.iload_n 1, 1, (0, 0, 0, 0), 0) := rfl
theorem s65_0 {c : Nat → List AV → SS → Option Out} {l0 l2 l3 l4 : Option AV} {x : Int32} {L2 : List (Nat × AV)} {St : List AV} {S : SS} : ev c 65 0 [l0, some (aI x), l2, l3, l4] L2 St S = ev c 65 1 [l0, some (aI x), l2, l3, l4] L2 (aI x :: St) S := ev_go i65_0 rfl
theorem i65_1 : insAt 65 1 = some (.iload_n 2, 1, (0, 0, 0, 0), 0) := rfl
theorem s65_1 {c : Nat → List AV → SS → Option Out} {l0 l1 l3 l4 : Option AV} {x : Int32} {L2 : List (Nat × AV)} {St : List AV} {S : SS} : ev c 65 1 [l0, l1, some (aI x), l3, l4] L2 St S = ev c 65 2 [l0, l1, some (aI x), l3, l4] L2 (aI x :: St) S := ev_go i65_1 rfl
theorem i65_2 : insAt 65 2 = some (.invokestatic 84, 3, (66, 2, 0, 0), 0) := rfl
theorem s65_2 {c : Nat → List AV → SS → Option Out} {l0 l1 l2 l3 l4 : Option AV} {a0 : Int32} {a1 : Int32} {L2 : List (Nat × AV)} {S : SS} : ev c 65 2 [l0, l1, l2, l3, l4] L2 [aI a1, aI a0] S = ck (c 66 [aI a0, aI a1] S) (fun v S' => ev c 65 5 [l0, l1, l2, l3, l4] L2 (v.toList ++ []) S') := ev_call i65_2 rfl
theorem i65_5 : insAt 65 5 = some (.iload_n 3, 1, (0, 0, 0, 0), 0) := rfl
theorem s65_5 {c : Nat → List AV → SS → Option Out} {l0 l1 l2 l4 : Option AV} {x : Int32} {L2 : List (Nat × AV)} {St : List AV} {S : SS} : ev c 65 5 [l0, l1, l2, some (aI x), l4] L2 St S = ev c 65 6 [l0, l1, l2, some (aI x), l4] L2 (aI x :: St) S := ev_go i65_5 rfl
theorem i65_6 : insAt 65 6 = some (.iconst 1, 1, (0, 0, 0, 0), 0) := rfl
theorem s65_6 {c : Nat → List AV → SS → Option Out} {l0 l1 l2 l3 l4 : Option AV} {L2 : List (Nat × AV)} {St : List AV} {S : SS} : ev c 65 6 [l0, l1, l2, l3, l4] L2 St S = ev c 65 7 [l0, l1, l2, l3, l4] L2 (aI 1 :: St) S := ev_go i65_6 rfl
theorem i65_7 : insAt 65 7 = some (.sipush 365, 3, (0, 0, 0, 0), 0) := rfl
theorem s65_7 {c : Nat → List AV → SS → Option Out} {l0 l1 l2 l3 l4 : Option AV} {L2 : List (Nat × AV)} {St : List AV} {S : SS} : ev c 65 7 [l0, l1, l2, l3, l4] L2 St S = ev c 65 10 [l0, l1, l2, l3, l4] L2 (aI 365 :: St) S := ev_go i65_7 rfl
theorem i65_10 : insAt 65 10 = some (.invokestatic 56, 3, (61, 3, 0, 0), 0) := rfl
theorem s65_10 {c : Nat → List AV → SS → Option Out} {l0 l1 l2 l3 l4 : Option AV} {a0 : Int32} {a1 : Int32} {a2 : Int32} {L2 : List (Nat × AV)} {S : SS} : ev c 65 10 [l0, l1, l2, l3, l4] L2 [aI a2, aI a1, aI a0] S = ck (c 61 [aI a0, aI a1, aI a2] S) (fun v S' => ev c 65 13 [l0, l1, l2, l3, l4] L2 (v.toList ++ []) S') := ev_call i65_10 rfl
theorem i65_13 : insAt 65 13 = some (.aload_n 0, 1, (0, 0, 0, 0), 0) := rfl
theorem s65_13 {c : Nat → List AV → SS → Option Out} {l1 l2 l3 l4 : Option AV} {o : OId} {L2 : List (Nat × AV)} {St : List AV} {S : SS} : ev c 65 13 [some (aR o), l1, l2, l3, l4] L2 St S = ev c 65 14 [some (aR o), l1, l2, l3, l4] L2 (aR o :: St) S := ev_go i65_13 rfl
theorem i65_14 : insAt 65 14 = some (.invokevirtual 88, 3, (67, 0, 2, 11), 0) := rfl
theorem s65_14 {c : Nat → List AV → SS → Option Out} {l0 l1 l2 l3 l4 : Option AV} {j t : Nat} {L2 : List (Nat × AV)} {S : SS} : ev c 65 14 [l0, l1, l2, l3, l4] L2 [aR (11, j, t)] S = ck (c 67 [aR (11, j, t)] S) (fun v S' => ev c 65 17 [l0, l1, l2, l3, l4] L2 (v.toList ++ []) S') := ev_call i65_14 rfl
theorem i65_17 : insAt 65 17 = some (.aload_n 0, 1, (0, 0, 0, 0), 0) := rfl
theorem s65_17 {c : Nat → List AV → SS → Option Out} {l1 l2 l3 l4 : Option AV} {o : OId} {L2 : List (Nat × AV)} {St : List AV} {S : SS} : ev c 65 17 [some (aR o), l1, l2, l3, l4] L2 St S = ev c 65 18 [some (aR o), l1, l2, l3, l4] L2 (aR o :: St) S := ev_go i65_17 rfl
theorem i65_18 : insAt 65 18 = some (.getfield 38, 3, (11, 4, 0, 0), 0) := rfl
theorem s65_18 {c : Nat → List AV → SS → Option Out} {l0 l1 l2 l3 l4 : Option AV} {j t : Nat} {L2 : List (Nat × AV)} {St : List AV} {S : SS} : ev c 65 18 [l0, l1, l2, l3, l4] L2 (aR (11, j, t) :: St) S = ev c 65 21 [l0, l1, l2, l3, l4] L2 (S.2.2.1 (11, j, t) 4 :: St) S := ev_go i65_18 rfl
theorem i65_21 : insAt 65 21 = some (.aload_n 0, 1, (0, 0, 0, 0), 0) := rfl
theorem s65_21 {c : Nat → List AV → SS → Option Out} {l1 l2 l3 l4 : Option AV} {o : OId} {L2 : List (Nat × AV)} {St : List AV} {S : SS} : ev c 65 21 [some (aR o), l1, l2, l3, l4] L2 St S = ev c 65 22 [some (aR o), l1, l2, l3, l4] L2 (aR o :: St) S := ev_go i65_21 rfl
theorem i65_22 : insAt 65 22 = some (.getfield 10, 3, (11, 0, 0, 0), 0) := rfl
theorem s65_22 {c : Nat → List AV → SS → Option Out} {l0 l1 l2 l3 l4 : Option AV} {j t : Nat} {L2 : List (Nat × AV)} {St : List AV} {S : SS} : ev c 65 22 [l0, l1, l2, l3, l4] L2 (aR (11, j, t) :: St) S = ev c 65 25 [l0, l1, l2, l3, l4] L2 (S.2.2.1 (11, j, t) 0 :: St) S := ev_go i65_22 rfl
theorem i65_25 : insAt 65 25 = some (.iload_n 1, 1, (0, 0, 0, 0), 0) := rfl
theorem s65_25 {c : Nat → List AV → SS → Option Out} {l0 l2 l3 l4 : Option AV} {x : Int32} {L2 : List (Nat × AV)} {St : List AV} {S : SS} : ev c 65 25 [l0, some (aI x), l2, l3, l4] L2 St S = ev c 65 26 [l0, some (aI x), l2, l3, l4] L2 (aI x :: St) S := ev_go i65_25 rfl
theorem i65_26 : insAt 65 26 = some (.iload_n 2, 1, (0, 0, 0, 0), 0) := rfl
theorem s65_26 {c : Nat → List AV → SS → Option Out} {l0 l1 l3 l4 : Option AV} {x : Int32} {L2 : List (Nat × AV)} {St : List AV} {S : SS} : ev c 65 26 [l0, l1, some (aI x), l3, l4] L2 St S = ev c 65 27 [l0, l1, some (aI x), l3, l4] L2 (aI x :: St) S := ev_go i65_26 rfl
theorem i65_27 : insAt 65 27 = some (.invokevirtual 91, 3, (68, 3, 3, 8), 0) := rfl
theorem s65_27 {c : Nat → List AV → SS → Option Out} {l0 l1 l2 l3 l4 : Option AV} {a0 : OId} {a1 : Int32} {a2 : Int32} {j t : Nat} {L2 : List (Nat × AV)} {S : SS} : ev c 65 27 [l0, l1, l2, l3, l4] L2 [aI a2, aI a1, aR a0, aR (8, j, t)] S = ck (c 68 [aR (8, j, t), aR a0, aI a1, aI a2] S) (fun v S' => ev c 65 30 [l0, l1, l2, l3, l4] L2 (v.toList ++ []) S') := ev_call i65_27 rfl
theorem i65_30 : insAt 65 30 = some (.aload_n 0, 1, (0, 0, 0, 0), 0) := rfl
theorem s65_30 {c : Nat → List AV → SS → Option Out} {l1 l2 l3 l4 : Option AV} {o : OId} {L2 : List (Nat × AV)} {St : List AV} {S : SS} : ev c 65 30 [some (aR o), l1, l2, l3, l4] L2 St S = ev c 65 31 [some (aR o), l1, l2, l3, l4] L2 (aR o :: St) S := ev_go i65_30 rfl
theorem i65_31 : insAt 65 31 = some (.invokevirtual 95, 3, (70, 0, 2, 11), 0) := rfl
theorem s65_31 {c : Nat → List AV → SS → Option Out} {l0 l1 l2 l3 l4 : Option AV} {j t : Nat} {L2 : List (Nat × AV)} {S : SS} : ev c 65 31 [l0, l1, l2, l3, l4] L2 [aR (11, j, t)] S = ck (c 70 [aR (11, j, t)] S) (fun v S' => ev c 65 34 [l0, l1, l2, l3, l4] L2 (v.toList ++ []) S') := ev_call i65_31 rfl
theorem i65_34 : insAt 65 34 = some (.aload_n 0, 1, (0, 0, 0, 0), 0) := rfl
theorem s65_34 {c : Nat → List AV → SS → Option Out} {l1 l2 l3 l4 : Option AV} {o : OId} {L2 : List (Nat × AV)} {St : List AV} {S : SS} : ev c 65 34 [some (aR o), l1, l2, l3, l4] L2 St S = ev c 65 35 [some (aR o), l1, l2, l3, l4] L2 (aR o :: St) S := ev_go i65_34 rfl
theorem i65_35 : insAt 65 35 = some (.getfield 19, 3, (11, 1, 0, 0), 0) := rfl
theorem s65_35 {c : Nat → List AV → SS → Option Out} {l0 l1 l2 l3 l4 : Option AV} {j t : Nat} {L2 : List (Nat × AV)} {St : List AV} {S : SS} : ev c 65 35 [l0, l1, l2, l3, l4] L2 (aR (11, j, t) :: St) S = ev c 65 38 [l0, l1, l2, l3, l4] L2 (S.2.2.1 (11, j, t) 1 :: St) S := ev_go i65_35 rfl
theorem i65_38 : insAt 65 38 = some (.aload_n 0, 1, (0, 0, 0, 0), 0) := rfl
theorem s65_38 {c : Nat → List AV → SS → Option Out} {l1 l2 l3 l4 : Option AV} {o : OId} {L2 : List (Nat × AV)} {St : List AV} {S : SS} : ev c 65 38 [some (aR o), l1, l2, l3, l4] L2 St S = ev c 65 39 [some (aR o), l1, l2, l3, l4] L2 (aR o :: St) S := ev_go i65_38 rfl
theorem i65_39 : insAt 65 39 = some (.getfield 10, 3, (11, 0, 0, 0), 0) := rfl
theorem s65_39 {c : Nat → List AV → SS → Option Out} {l0 l1 l2 l3 l4 : Option AV} {j t : Nat} {L2 : List (Nat × AV)} {St : List AV} {S : SS} : ev c 65 39 [l0, l1, l2, l3, l4] L2 (aR (11, j, t) :: St) S = ev c 65 42 [l0, l1, l2, l3, l4] L2 (S.2.2.1 (11, j, t) 0 :: St) S := ev_go i65_39 rfl
theorem i65_42 : insAt 65 42 = some (.invokevirtual 71, 3, (62, 1, 3, 5), 0) := rfl
theorem s65_42 {c : Nat → List AV → SS → Option Out} {l0 l1 l2 l3 l4 : Option AV} {a0 : OId} {j t : Nat} {L2 : List (Nat × AV)} {S : SS} : ev c 65 42 [l0, l1, l2, l3, l4] L2 [aR a0, aR (5, j, t)] S = ck (c 62 [aR (5, j, t), aR a0] S) (fun v S' => ev c 65 45 [l0, l1, l2, l3, l4] L2 (v.toList ++ []) S') := ev_call i65_42 rfl
theorem i65_45 : insAt 65 45 = some (.aload_n 0, 1, (0, 0, 0, 0), 0) := rfl
theorem s65_45 {c : Nat → List AV → SS → Option Out} {l1 l2 l3 l4 : Option AV} {o : OId} {L2 : List (Nat × AV)} {St : List AV} {S : SS} : ev c 65 45 [some (aR o), l1, l2, l3, l4] L2 St S = ev c 65 46 [some (aR o), l1, l2, l3, l4] L2 (aR o :: St) S := ev_go i65_45 rfl
theorem i65_46 : insAt 65 46 = some (.getfield 10, 3, (11, 0, 0, 0), 0) := rfl
theorem s65_46 {c : Nat → List AV → SS → Option Out} {l0 l1 l2 l3 l4 : Option AV} {j t : Nat} {L2 : List (Nat × AV)} {St : List AV} {S : SS} : ev c 65 46 [l0, l1, l2, l3, l4] L2 (aR (11, j, t) :: St) S = ev c 65 49 [l0, l1, l2, l3, l4] L2 (S.2.2.1 (11, j, t) 0 :: St) S := ev_go i65_46 rfl
theorem i65_49 : insAt 65 49 = some (.iload_n 1, 1, (0, 0, 0, 0), 0) := rfl
theorem s65_49 {c : Nat → List AV → SS → Option Out} {l0 l2 l3 l4 : Option AV} {x : Int32} {L2 : List (Nat × AV)} {St : List AV} {S : SS} : ev c 65 49 [l0, some (aI x), l2, l3, l4] L2 St S = ev c 65 50 [l0, some (aI x), l2, l3, l4] L2 (aI x :: St) S := ev_go i65_49 rfl
theorem i65_50 : insAt 65 50 = some (.iload_n 2, 1, (0, 0, 0, 0), 0) := rfl
theorem s65_50 {c : Nat → List AV → SS → Option Out} {l0 l1 l3 l4 : Option AV} {x : Int32} {L2 : List (Nat × AV)} {St : List AV} {S : SS} : ev c 65 50 [l0, l1, some (aI x), l3, l4] L2 St S = ev c 65 51 [l0, l1, some (aI x), l3, l4] L2 (aI x :: St) S := ev_go i65_50 rfl
theorem i65_51 : insAt 65 51 = some (.aload_n 0, 1, (0, 0, 0, 0), 0) := rfl
theorem s65_51 {c : Nat → List AV → SS → Option Out} {l1 l2 l3 l4 : Option AV} {o : OId} {L2 : List (Nat × AV)} {St : List AV} {S : SS} : ev c 65 51 [some (aR o), l1, l2, l3, l4] L2 St S = ev c 65 52 [some (aR o), l1, l2, l3, l4] L2 (aR o :: St) S := ev_go i65_51 rfl
theorem i65_52 : insAt 65 52 = some (.getfield 10, 3, (11, 0, 0, 0), 0) := rfl
theorem s65_52 {c : Nat → List AV → SS → Option Out} {l0 l1 l2 l3 l4 : Option AV} {j t : Nat} {L2 : List (Nat × AV)} {St : List AV} {S : SS} : ev c 65 52 [l0, l1, l2, l3, l4] L2 (aR (11, j, t) :: St) S = ev c 65 55 [l0, l1, l2, l3, l4] L2 (S.2.2.1 (11, j, t) 0 :: St) S := ev_go i65_52 rfl
theorem i65_55 : insAt 65 55 = some (.getfield 98, 3, (4, 3, 1, 0), 0) := rfl
theorem s65_55 {c : Nat → List AV → SS → Option Out} {l0 l1 l2 l3 l4 : Option AV} {j t : Nat} {L2 : List (Nat × AV)} {St : List AV} {S : SS} : ev c 65 55 [l0, l1, l2, l3, l4] L2 (aR (4, j, t) :: St) S = ev c 65 58 [l0, l1, l2, l3, l4] L2 (aI (S.1 (4, j, t) 3) :: St) S := ev_go i65_55 rfl
theorem i65_58 : insAt 65 58 = some (.iload_n 3, 1, (0, 0, 0, 0), 0) := rfl
theorem s65_58 {c : Nat → List AV → SS → Option Out} {l0 l1 l2 l4 : Option AV} {x : Int32} {L2 : List (Nat × AV)} {St : List AV} {S : SS} : ev c 65 58 [l0, l1, l2, some (aI x), l4] L2 St S = ev c 65 59 [l0, l1, l2, some (aI x), l4] L2 (aI x :: St) S := ev_go i65_58 rfl
theorem i65_59 : insAt 65 59 = some (.iadd, 1, (0, 0, 0, 0), 0) := rfl
theorem s65_59 {c : Nat → List AV → SS → Option Out} {l0 l1 l2 l3 l4 : Option AV} {x y : Int32} {L2 : List (Nat × AV)} {St : List AV} {S : SS} : ev c 65 59 [l0, l1, l2, l3, l4] L2 (aI y :: aI x :: St) S = ev c 65 60 [l0, l1, l2, l3, l4] L2 (aI (x + y) :: St) S := ev_go i65_59 rfl
theorem i65_60 : insAt 65 60 = some (.iconst 0, 1, (0, 0, 0, 0), 0) := rfl
theorem s65_60 {c : Nat → List AV → SS → Option Out} {l0 l1 l2 l3 l4 : Option AV} {L2 : List (Nat × AV)} {St : List AV} {S : SS} : ev c 65 60 [l0, l1, l2, l3, l4] L2 St S = ev c 65 61 [l0, l1, l2, l3, l4] L2 (aI 0 :: St) S := ev_go i65_60 rfl
theorem i65_61 : insAt 65 61 = some (.invokevirtual 101, 3, (81, 4, 3, 4), 0) := rfl
theorem s65_61 {c : Nat → List AV → SS → Option Out} {l0 l1 l2 l3 l4 : Option AV} {a0 : Int32} {a1 : Int32} {a2 : Int32} {a3 : Int32} {j t : Nat} {L2 : List (Nat × AV)} {S : SS} : ev c 65 61 [l0, l1, l2, l3, l4] L2 [aI a3, aI a2, aI a1, aI a0, aR (4, j, t)] S = ck (c 81 [aR (4, j, t), aI a0, aI a1, aI a2, aI a3] S) (fun v S' => ev c 65 64 [l0, l1, l2, l3, l4] L2 (v.toList ++ []) S') := ev_call i65_61 rfl
theorem i65_64 : insAt 65 64 = some (.istore 4, 2, (0, 0, 0, 0), 0) := rfl
theorem s65_64 {c : Nat → List AV → SS → Option Out} {l0 l1 l2 l3 l4 : Option AV} {x : Int32} {L2 : List (Nat × AV)} {St : List AV} {S : SS} : ev c 65 64 [l0, l1, l2, l3, l4] L2 (aI x :: St) S = ev c 65 66 [l0, l1, l2, l3, some (aI x)] (kil L2 4) St S := ev_go i65_64 rfl
theorem i65_66 : insAt 65 66 = some (.aload_n 0, 1, (0, 0, 0, 0), 0) := rfl
theorem s65_66 {c : Nat → List AV → SS → Option Out} {l1 l2 l3 l4 : Option AV} {o : OId} {L2 : List (Nat × AV)} {St : List AV} {S : SS} : ev c 65 66 [some (aR o), l1, l2, l3, l4] L2 St S = ev c 65 67 [some (aR o), l1, l2, l3, l4] L2 (aR o :: St) S := ev_go i65_66 rfl
theorem i65_67 : insAt 65 67 = some (.getfield 10, 3, (11, 0, 0, 0), 0) := rfl
theorem s65_67 {c : Nat → List AV → SS → Option Out} {l0 l1 l2 l3 l4 : Option AV} {j t : Nat} {L2 : List (Nat × AV)} {St : List AV} {S : SS} : ev c 65 67 [l0, l1, l2, l3, l4] L2 (aR (11, j, t) :: St) S = ev c 65 70 [l0, l1, l2, l3, l4] L2 (S.2.2.1 (11, j, t) 0 :: St) S := ev_go i65_67 rfl
theorem i65_70 : insAt 65 70 = some (.aload_n 0, 1, (0, 0, 0, 0), 0) := rfl
theorem s65_70 {c : Nat → List AV → SS → Option Out} {l1 l2 l3 l4 : Option AV} {o : OId} {L2 : List (Nat × AV)} {St : List AV} {S : SS} : ev c 65 70 [some (aR o), l1, l2, l3, l4] L2 St S = ev c 65 71 [some (aR o), l1, l2, l3, l4] L2 (aR o :: St) S := ev_go i65_70 rfl
theorem i65_71 : insAt 65 71 = some (.getfield 38, 3, (11, 4, 0, 0), 0) := rfl
theorem s65_71 {c : Nat → List AV → SS → Option Out} {l0 l1 l2 l3 l4 : Option AV} {j t : Nat} {L2 : List (Nat × AV)} {St : List AV} {S : SS} : ev c 65 71 [l0, l1, l2, l3, l4] L2 (aR (11, j, t) :: St) S = ev c 65 74 [l0, l1, l2, l3, l4] L2 (S.2.2.1 (11, j, t) 4 :: St) S := ev_go i65_71 rfl
theorem i65_74 : insAt 65 74 = some (.getfield 105, 3, (8, 1, 1, 0), 0) := rfl
theorem s65_74 {c : Nat → List AV → SS → Option Out} {l0 l1 l2 l3 l4 : Option AV} {j t : Nat} {L2 : List (Nat × AV)} {St : List AV} {S : SS} : ev c 65 74 [l0, l1, l2, l3, l4] L2 (aR (8, j, t) :: St) S = ev c 65 77 [l0, l1, l2, l3, l4] L2 (S.2.2.1 (8, j, t) 1 :: St) S := ev_go i65_74 rfl
theorem i65_77 : insAt 65 77 = some (.iload 4, 2, (0, 0, 0, 0), 0) := rfl
theorem s65_77 {c : Nat → List AV → SS → Option Out} {l0 l1 l2 l3 : Option AV} {x : Int32} {L2 : List (Nat × AV)} {St : List AV} {S : SS} : ev c 65 77 [l0, l1, l2, l3, some (aI x)] L2 St S = ev c 65 79 [l0, l1, l2, l3, some (aI x)] L2 (aI x :: St) S := ev_go i65_77 rfl
theorem i65_79 : insAt 65 79 = some (.invokevirtual 109, 3, (82, 2, 3, 4), 0) := rfl
theorem s65_79 {c : Nat → List AV → SS → Option Out} {l0 l1 l2 l3 l4 : Option AV} {a0 : OId} {a1 : Int32} {j t : Nat} {L2 : List (Nat × AV)} {S : SS} : ev c 65 79 [l0, l1, l2, l3, l4] L2 [aI a1, aR a0, aR (4, j, t)] S = ck (c 82 [aR (4, j, t), aR a0, aI a1] S) (fun v S' => ev c 65 82 [l0, l1, l2, l3, l4] L2 (v.toList ++ []) S') := ev_call i65_79 rfl
theorem i65_82 : insAt 65 82 = some (.aload_n 0, 1, (0, 0, 0, 0), 0) := rfl
theorem s65_82 {c : Nat → List AV → SS → Option Out} {l1 l2 l3 l4 : Option AV} {o : OId} {L2 : List (Nat × AV)} {St : List AV} {S : SS} : ev c 65 82 [some (aR o), l1, l2, l3, l4] L2 St S = ev c 65 83 [some (aR o), l1, l2, l3, l4] L2 (aR o :: St) S := ev_go i65_82 rfl
theorem i65_83 : insAt 65 83 = some (.getfield 10, 3, (11, 0, 0, 0), 0) := rfl
theorem s65_83 {c : Nat → List AV → SS → Option Out} {l0 l1 l2 l3 l4 : Option AV} {j t : Nat} {L2 : List (Nat × AV)} {St : List AV} {S : SS} : ev c 65 83 [l0, l1, l2, l3, l4] L2 (aR (11, j, t) :: St) S = ev c 65 86 [l0, l1, l2, l3, l4] L2 (S.2.2.1 (11, j, t) 0 :: St) S := ev_go i65_83 rfl
theorem i65_86 : insAt 65 86 = some (.getfield 113, 3, (4, 4, 1, 0), 0) := rfl
theorem s65_86 {c : Nat → List AV → SS → Option Out} {l0 l1 l2 l3 l4 : Option AV} {j t : Nat} {L2 : List (Nat × AV)} {St : List AV} {S : SS} : ev c 65 86 [l0, l1, l2, l3, l4] L2 (aR (4, j, t) :: St) S = ev c 65 89 [l0, l1, l2, l3, l4] L2 (aI (S.1 (4, j, t) 4) :: St) S := ev_go i65_86 rfl
theorem i65_89 : insAt 65 89 = some (.ireturn, 1, (0, 0, 0, 0), 0) := rfl
theorem s65_89 {c : Nat → List AV → SS → Option Out} {l0 l1 l2 l3 l4 : Option AV} {x : Int32} {L2 : List (Nat × AV)} {St : List AV} {S : SS} : ev c 65 89 [l0, l1, l2, l3, l4] L2 [aI x] S = some (.inl (some (aI x)), S) := ev_end i65_89 rfl
theorem m65 {d : Nat} {o : OId} {a0 : Int32} {a1 : Int32} {a2 : Int32} {S : SS} : evm (d + 1) 65 [aR o, aI a0, aI a1, aI a2] S = ev (evm d) 65 0 [some (aR o), some (aI a0), some (aI a1), some (aI a2), none] [] [] S := evm_s (n := 5) rfl (Nat.le_of_ble_eq_true rfl) rfl rfl
/-! FrequencyOffice.checkPoint(II)V -/
theorem i66_0 : insAt 66 0 = some (.iload_n 0, 1, (0, 0, 0, 0), 0) := rfl
theorem s66_0 {c : Nat → List AV → SS → Option Out} {l1 : Option AV} {x : Int32} {L2 : List (Nat × AV)} {St : List AV} {S : SS} : ev c 66 0 [some (aI x), l1] L2 St S = ev c 66 1 [some (aI x), l1] L2 (aI x :: St) S := ev_go i66_0 rfl
theorem i66_1 : insAt 66 1 = some (.iconst 0, 1, (0, 0, 0, 0), 0) := rfl
theorem s66_1 {c : Nat → List AV → SS → Option Out} {l0 l1 : Option AV} {L2 : List (Nat × AV)} {St : List AV} {S : SS} : ev c 66 1 [l0, l1] L2 St S = ev c 66 2 [l0, l1] L2 (aI 0 :: St) S := ev_go i66_1 rfl
theorem i66_2 : insAt 66 2 = some (.bipush 99, 2, (0, 0, 0, 0), 0) := rfl
theorem s66_2 {c : Nat → List AV → SS → Option Out} {l0 l1 : Option AV} {L2 : List (Nat × AV)} {St : List AV} {S : SS} : ev c 66 2 [l0, l1] L2 St S = ev c 66 4 [l0, l1] L2 (aI 99 :: St) S := ev_go i66_2 rfl
theorem i66_4 : insAt 66 4 = some (.invokestatic 56, 3, (61, 3, 0, 0), 0) := rfl
theorem s66_4 {c : Nat → List AV → SS → Option Out} {l0 l1 : Option AV} {a0 : Int32} {a1 : Int32} {a2 : Int32} {L2 : List (Nat × AV)} {S : SS} : ev c 66 4 [l0, l1] L2 [aI a2, aI a1, aI a0] S = ck (c 61 [aI a0, aI a1, aI a2] S) (fun v S' => ev c 66 7 [l0, l1] L2 (v.toList ++ []) S') := ev_call i66_4 rfl
theorem i66_7 : insAt 66 7 = some (.iload_n 1, 1, (0, 0, 0, 0), 0) := rfl
theorem s66_7 {c : Nat → List AV → SS → Option Out} {l0 : Option AV} {x : Int32} {L2 : List (Nat × AV)} {St : List AV} {S : SS} : ev c 66 7 [l0, some (aI x)] L2 St S = ev c 66 8 [l0, some (aI x)] L2 (aI x :: St) S := ev_go i66_7 rfl
theorem i66_8 : insAt 66 8 = some (.iconst 0, 1, (0, 0, 0, 0), 0) := rfl
theorem s66_8 {c : Nat → List AV → SS → Option Out} {l0 l1 : Option AV} {L2 : List (Nat × AV)} {St : List AV} {S : SS} : ev c 66 8 [l0, l1] L2 St S = ev c 66 9 [l0, l1] L2 (aI 0 :: St) S := ev_go i66_8 rfl
theorem i66_9 : insAt 66 9 = some (.bipush 99, 2, (0, 0, 0, 0), 0) := rfl
theorem s66_9 {c : Nat → List AV → SS → Option Out} {l0 l1 : Option AV} {L2 : List (Nat × AV)} {St : List AV} {S : SS} : ev c 66 9 [l0, l1] L2 St S = ev c 66 11 [l0, l1] L2 (aI 99 :: St) S := ev_go i66_9 rfl
theorem i66_11 : insAt 66 11 = some (.invokestatic 56, 3, (61, 3, 0, 0), 0) := rfl
theorem s66_11 {c : Nat → List AV → SS → Option Out} {l0 l1 : Option AV} {a0 : Int32} {a1 : Int32} {a2 : Int32} {L2 : List (Nat × AV)} {S : SS} : ev c 66 11 [l0, l1] L2 [aI a2, aI a1, aI a0] S = ck (c 61 [aI a0, aI a1, aI a2] S) (fun v S' => ev c 66 14 [l0, l1] L2 (v.toList ++ []) S') := ev_call i66_11 rfl
theorem i66_14 : insAt 66 14 = some (.return_, 1, (0, 0, 0, 0), 0) := rfl
theorem s66_14 {c : Nat → List AV → SS → Option Out} {l0 l1 : Option AV} {L2 : List (Nat × AV)} {St : List AV} {S : SS} : ev c 66 14 [l0, l1] L2 [] S = some (.inl none, S) := ev_end i66_14 rfl
theorem m66 {d : Nat} {a0 : Int32} {a1 : Int32} {S : SS} : evm (d + 1) 66 [aI a0, aI a1] S = ev (evm d) 66 0 [some (aI a0), some (aI a1)] [] [] S := evm_s (n := 2) rfl (Nat.le_of_ble_eq_true rfl) rfl rfl
/-! FrequencyOffice.checkRoom()V -/
theorem i67_0 : insAt 67 0 = some (.aload_n 0, 1, (0, 0, 0, 0), 0) := rfl
theorem s67_0 {c : Nat → List AV → SS → Option Out} {o : OId} {L2 : List (Nat × AV)} {St : List AV} {S : SS} : ev c 67 0 [some (aR o)] L2 St S = ev c 67 1 [some (aR o)] L2 (aR o :: St) S := ev_go i67_0 rfl
theorem i67_1 : insAt 67 1 = some (.getfield 10, 3, (11, 0, 0, 0), 0) := rfl
theorem s67_1 {c : Nat → List AV → SS → Option Out} {l0 : Option AV} {j t : Nat} {L2 : List (Nat × AV)} {St : List AV} {S : SS} : ev c 67 1 [l0] L2 (aR (11, j, t) :: St) S = ev c 67 4 [l0] L2 (S.2.2.1 (11, j, t) 0 :: St) S := ev_go i67_1 rfl
theorem i67_4 : insAt 67 4 = some (.getfield 60, 3, (4, 7, 1, 0), 0) := rfl
theorem s67_4 {c : Nat → List AV → SS → Option Out} {l0 : Option AV} {j t : Nat} {L2 : List (Nat × AV)} {St : List AV} {S : SS} : ev c 67 4 [l0] L2 (aR (4, j, t) :: St) S = ev c 67 7 [l0] L2 (aI (S.1 (4, j, t) 7) :: St) S := ev_go i67_4 rfl
theorem i67_7 : insAt 67 7 = some (.bipush 7, 2, (0, 0, 0, 0), 0) := rfl
theorem s67_7 {c : Nat → List AV → SS → Option Out} {l0 : Option AV} {L2 : List (Nat × AV)} {St : List AV} {S : SS} : ev c 67 7 [l0] L2 St S = ev c 67 9 [l0] L2 (aI 7 :: St) S := ev_go i67_7 rfl
theorem i67_9 : insAt 67 9 = some (.if_icmp .lt 14, 3, (0, 0, 0, 0), 0) := rfl
theorem s67_9 {c : Nat → List AV → SS → Option Out} {l0 : Option AV} {x y : Int32} {L2 : List (Nat × AV)} {St : List AV} {S : SS} : ev c 67 9 [l0] L2 (aI y :: aI x :: St) S = if x < y then ev c 67 23 [l0] L2 St S else ev c 67 12 [l0] L2 St S := ev_br i67_9 rfl
theorem i67_12 : insAt 67 12 = some (.new 64, 3, (1, 0, 1, 0), 0) := rfl
theorem s67_12 {c : Nat → List AV → SS → Option Out} {l0 : Option AV} {L2 : List (Nat × AV)} {S : SS} : ev c 67 12 [l0] L2 [] S = some (.inr "java/lang/IllegalStateException", bump S 1 6) := ev_end i67_12 rfl
theorem i67_15 : insAt 67 15 = some (.dup, 1, (0, 0, 0, 0), 0) := rfl
theorem s67_15 {c : Nat → List AV → SS → Option Out} {l0 : Option AV} {x : OId} {L2 : List (Nat × AV)} {St : List AV} {S : SS} : ev c 67 15 [l0] L2 (aR x :: St) S = ev c 67 16 [l0] L2 (aR x :: aR x :: St) S := ev_go i67_15 rfl
theorem i67_23 : insAt 67 23 = some (.return_, 1, (0, 0, 0, 0), 0) := rfl
theorem s67_23 {c : Nat → List AV → SS → Option Out} {l0 : Option AV} {L2 : List (Nat × AV)} {St : List AV} {S : SS} : ev c 67 23 [l0] L2 [] S = some (.inl none, S) := ev_end i67_23 rfl
theorem m67 {d : Nat} {o : OId} {S : SS} : evm (d + 1) 67 [aR o] S = ev (evm d) 67 0 [some (aR o)] [] [] S := evm_s (n := 1) rfl (Nat.le_of_ble_eq_true rfl) rfl rfl
/-! FrequencyOffice.findPlan()V -/
theorem i70_0 : insAt 70 0 = some (.aload_n 0, 1, (0, 0, 0, 0), 0) := rfl
theorem s70_0 {c : Nat → List AV → SS → Option Out} {o : OId} {L2 : List (Nat × AV)} {St : List AV} {S : SS} : ev c 70 0 [some (aR o)] L2 St S = ev c 70 1 [some (aR o)] L2 (aR o :: St) S := ev_go i70_0 rfl
theorem i70_1 : insAt 70 1 = some (.getfield 38, 3, (11, 4, 0, 0), 0) := rfl
theorem s70_1 {c : Nat → List AV → SS → Option Out} {l0 : Option AV} {j t : Nat} {L2 : List (Nat × AV)} {St : List AV} {S : SS} : ev c 70 1 [l0] L2 (aR (11, j, t) :: St) S = ev c 70 4 [l0] L2 (S.2.2.1 (11, j, t) 4 :: St) S := ev_go i70_1 rfl
theorem i70_4 : insAt 70 4 = some (.invokevirtual 372, 3, (71, 0, 3, 8), 0) := rfl
theorem s70_4 {c : Nat → List AV → SS → Option Out} {l0 : Option AV} {j t : Nat} {L2 : List (Nat × AV)} {S : SS} : ev c 70 4 [l0] L2 [aR (8, j, t)] S = ck (c 71 [aR (8, j, t)] S) (fun v S' => ev c 70 7 [l0] L2 (v.toList ++ []) S') := ev_call i70_4 rfl
theorem i70_7 : insAt 70 7 = some (.ifCond .ne 14, 3, (0, 0, 0, 0), 0) := rfl
theorem s70_7 {c : Nat → List AV → SS → Option Out} {l0 : Option AV} {x : Int32} {L2 : List (Nat × AV)} {St : List AV} {S : SS} : ev c 70 7 [l0] L2 (aI x :: St) S = if x = 0 then ev c 70 10 [l0] L2 St S else ev c 70 21 [l0] L2 St S := (ev_br i70_7 rfl).trans (ite_not _ _ _)
theorem i70_10 : insAt 70 10 = some (.new 120, 3, (2, 0, 1, 0), 0) := rfl
theorem s70_10 {c : Nat → List AV → SS → Option Out} {l0 : Option AV} {L2 : List (Nat × AV)} {S : SS} : ev c 70 10 [l0] L2 [] S = some (.inr "java/lang/UnsupportedOperationException", bump S 1 6) := ev_end i70_10 rfl
theorem i70_13 : insAt 70 13 = some (.dup, 1, (0, 0, 0, 0), 0) := rfl
theorem s70_13 {c : Nat → List AV → SS → Option Out} {l0 : Option AV} {x : OId} {L2 : List (Nat × AV)} {St : List AV} {S : SS} : ev c 70 13 [l0] L2 (aR x :: St) S = ev c 70 14 [l0] L2 (aR x :: aR x :: St) S := ev_go i70_13 rfl
theorem i70_21 : insAt 70 21 = some (.return_, 1, (0, 0, 0, 0), 0) := rfl
theorem s70_21 {c : Nat → List AV → SS → Option Out} {l0 : Option AV} {L2 : List (Nat × AV)} {St : List AV} {S : SS} : ev c 70 21 [l0] L2 [] S = some (.inl none, S) := ev_end i70_21 rfl
theorem m70 {d : Nat} {o : OId} {S : SS} : evm (d + 1) 70 [aR o] S = ev (evm d) 70 0 [some (aR o)] [] [] S := evm_s (n := 1) rfl (Nat.le_of_ble_eq_true rfl) rfl rfl
/-! FrequencyOffice.disturbs(II)I -/
theorem i77_0 : insAt 77 0 = some (.iconst 0, 1, (0, 0, 0, 0), 0) := rfl
theorem s77_0 {c : Nat → List AV → SS → Option Out} {l0 l1 : Option AV} {L2 : List (Nat × AV)} {St : List AV} {S : SS} : ev c 77 0 [l0, l1] L2 St S = ev c 77 1 [l0, l1] L2 (aI 0 :: St) S := ev_go i77_0 rfl
theorem i77_1 : insAt 77 1 = some (.iconst 4, 1, (0, 0, 0, 0), 0) := rfl
theorem s77_1 {c : Nat → List AV → SS → Option Out} {l0 l1 : Option AV} {L2 : List (Nat × AV)} {St : List AV} {S : SS} : ev c 77 1 [l0, l1] L2 St S = ev c 77 2 [l0, l1] L2 (aI 4 :: St) S := ev_go i77_1 rfl
theorem i77_2 : insAt 77 2 = some (.iload_n 0, 1, (0, 0, 0, 0), 0) := rfl
theorem s77_2 {c : Nat → List AV → SS → Option Out} {l1 : Option AV} {x : Int32} {L2 : List (Nat × AV)} {St : List AV} {S : SS} : ev c 77 2 [some (aI x), l1] L2 St S = ev c 77 3 [some (aI x), l1] L2 (aI x :: St) S := ev_go i77_2 rfl
theorem i77_3 : insAt 77 3 = some (.iload_n 1, 1, (0, 0, 0, 0), 0) := rfl
theorem s77_3 {c : Nat → List AV → SS → Option Out} {l0 : Option AV} {x : Int32} {L2 : List (Nat × AV)} {St : List AV} {S : SS} : ev c 77 3 [l0, some (aI x)] L2 St S = ev c 77 4 [l0, some (aI x)] L2 (aI x :: St) S := ev_go i77_3 rfl
theorem i77_4 : insAt 77 4 = some (.isub, 1, (0, 0, 0, 0), 0) := rfl
theorem s77_4 {c : Nat → List AV → SS → Option Out} {l0 l1 : Option AV} {x y : Int32} {L2 : List (Nat × AV)} {St : List AV} {S : SS} : ev c 77 4 [l0, l1] L2 (aI y :: aI x :: St) S = ev c 77 5 [l0, l1] L2 (aI (x - y) :: St) S := ev_go i77_4 rfl
theorem i77_5 : insAt 77 5 = some (.invokestatic 381, 3, (25, 1, 0, 0), 0) := rfl
theorem s77_5 {c : Nat → List AV → SS → Option Out} {l0 l1 : Option AV} {t0 t1 : AV} {a0 : Int32} {L2 : List (Nat × AV)} {S : SS} : ev c 77 5 [l0, l1] L2 [aI a0, t0, t1] S = ck (c 25 [aI a0] S) (fun v S' => ev c 77 8 [l0, l1] L2 (v.toList ++ [t0, t1]) S') := ev_call i77_5 rfl
theorem i77_8 : insAt 77 8 = some (.isub, 1, (0, 0, 0, 0), 0) := rfl
theorem s77_8 {c : Nat → List AV → SS → Option Out} {l0 l1 : Option AV} {x y : Int32} {L2 : List (Nat × AV)} {St : List AV} {S : SS} : ev c 77 8 [l0, l1] L2 (aI y :: aI x :: St) S = ev c 77 9 [l0, l1] L2 (aI (x - y) :: St) S := ev_go i77_8 rfl
theorem i77_9 : insAt 77 9 = some (.invokestatic 300, 3, (46, 2, 0, 0), 0) := rfl
theorem s77_9 {c : Nat → List AV → SS → Option Out} {l0 l1 : Option AV} {a0 : Int32} {a1 : Int32} {L2 : List (Nat × AV)} {S : SS} : ev c 77 9 [l0, l1] L2 [aI a1, aI a0] S = ck (c 46 [aI a0, aI a1] S) (fun v S' => ev c 77 12 [l0, l1] L2 (v.toList ++ []) S') := ev_call i77_9 rfl
theorem i77_12 : insAt 77 12 = some (.ireturn, 1, (0, 0, 0, 0), 0) := rfl
theorem s77_12 {c : Nat → List AV → SS → Option Out} {l0 l1 : Option AV} {x : Int32} {L2 : List (Nat × AV)} {St : List AV} {S : SS} : ev c 77 12 [l0, l1] L2 [aI x] S = some (.inl (some (aI x)), S) := ev_end i77_12 rfl
theorem m77 {d : Nat} {a0 : Int32} {a1 : Int32} {S : SS} : evm (d + 1) 77 [aI a0, aI a1] S = ev (evm d) 77 0 [some (aI a0), some (aI a1)] [] [] S := evm_s (n := 2) rfl (Nat.le_of_ble_eq_true rfl) rfl rfl
/-! FrequencyOffice.startTrial(III)I -/
theorem i87_0 : insAt 87 0 = some (.iload_n 1, 1, (0, 0, 0, 0), 0) := rfl
theorem s87_0 {c : Nat → List AV → SS → Option Out} {l0 l2 l3 l4 l5 : Option AV} {x : Int32} {L2 : List (Nat × AV)} {St : List AV} {S : SS} : ev c 87 0 [l0, some (aI x), l2, l3, l4, l5] L2 St S = ev c 87 1 [l0, some (aI x), l2, l3, l4, l5] L2 (aI x :: St) S := ev_go i87_0 rfl
theorem i87_1 : insAt 87 1 = some (.iload_n 2, 1, (0, 0, 0, 0), 0) := rfl
theorem s87_1 {c : Nat → List AV → SS → Option Out} {l0 l1 l3 l4 l5 : Option AV} {x : Int32} {L2 : List (Nat × AV)} {St : List AV} {S : SS} : ev c 87 1 [l0, l1, some (aI x), l3, l4, l5] L2 St S = ev c 87 2 [l0, l1, some (aI x), l3, l4, l5] L2 (aI x :: St) S := ev_go i87_1 rfl
theorem i87_2 : insAt 87 2 = some (.invokestatic 84, 3, (66, 2, 0, 0), 0) := rfl
theorem s87_2 {c : Nat → List AV → SS → Option Out} {l0 l1 l2 l3 l4 l5 : Option AV} {a0 : Int32} {a1 : Int32} {L2 : List (Nat × AV)} {S : SS} : ev c 87 2 [l0, l1, l2, l3, l4, l5] L2 [aI a1, aI a0] S = ck (c 66 [aI a0, aI a1] S) (fun v S' => ev c 87 5 [l0, l1, l2, l3, l4, l5] L2 (v.toList ++ []) S') := ev_call i87_2 rfl
theorem i87_5 : insAt 87 5 = some (.iload_n 3, 1, (0, 0, 0, 0), 0) := rfl
theorem s87_5 {c : Nat → List AV → SS → Option Out} {l0 l1 l2 l4 l5 : Option AV} {x : Int32} {L2 : List (Nat × AV)} {St : List AV} {S : SS} : ev c 87 5 [l0, l1, l2, some (aI x), l4, l5] L2 St S = ev c 87 6 [l0, l1, l2, some (aI x), l4, l5] L2 (aI x :: St) S := ev_go i87_5 rfl
theorem i87_6 : insAt 87 6 = some (.iconst 1, 1, (0, 0, 0, 0), 0) := rfl
theorem s87_6 {c : Nat → List AV → SS → Option Out} {l0 l1 l2 l3 l4 l5 : Option AV} {L2 : List (Nat × AV)} {St : List AV} {S : SS} : ev c 87 6 [l0, l1, l2, l3, l4, l5] L2 St S = ev c 87 7 [l0, l1, l2, l3, l4, l5] L2 (aI 1 :: St) S := ev_go i87_6 rfl
theorem i87_7 : insAt 87 7 = some (.bipush 30, 2, (0, 0, 0, 0), 0) := rfl
theorem s87_7 {c : Nat → List AV → SS → Option Out} {l0 l1 l2 l3 l4 l5 : Option AV} {L2 : List (Nat × AV)} {St : List AV} {S : SS} : ev c 87 7 [l0, l1, l2, l3, l4, l5] L2 St S = ev c 87 9 [l0, l1, l2, l3, l4, l5] L2 (aI 30 :: St) S := ev_go i87_7 rfl
theorem i87_9 : insAt 87 9 = some (.invokestatic 56, 3, (61, 3, 0, 0), 0) := rfl
theorem s87_9 {c : Nat → List AV → SS → Option Out} {l0 l1 l2 l3 l4 l5 : Option AV} {a0 : Int32} {a1 : Int32} {a2 : Int32} {L2 : List (Nat × AV)} {S : SS} : ev c 87 9 [l0, l1, l2, l3, l4, l5] L2 [aI a2, aI a1, aI a0] S = ck (c 61 [aI a0, aI a1, aI a2] S) (fun v S' => ev c 87 12 [l0, l1, l2, l3, l4, l5] L2 (v.toList ++ []) S') := ev_call i87_9 rfl
theorem i87_12 : insAt 87 12 = some (.aload_n 0, 1, (0, 0, 0, 0), 0) := rfl
theorem s87_12 {c : Nat → List AV → SS → Option Out} {l1 l2 l3 l4 l5 : Option AV} {o : OId} {L2 : List (Nat × AV)} {St : List AV} {S : SS} : ev c 87 12 [some (aR o), l1, l2, l3, l4, l5] L2 St S = ev c 87 13 [some (aR o), l1, l2, l3, l4, l5] L2 (aR o :: St) S := ev_go i87_12 rfl
theorem i87_13 : insAt 87 13 = some (.invokevirtual 88, 3, (67, 0, 2, 11), 0) := rfl
theorem s87_13 {c : Nat → List AV → SS → Option Out} {l0 l1 l2 l3 l4 l5 : Option AV} {j t : Nat} {L2 : List (Nat × AV)} {S : SS} : ev c 87 13 [l0, l1, l2, l3, l4, l5] L2 [aR (11, j, t)] S = ck (c 67 [aR (11, j, t)] S) (fun v S' => ev c 87 16 [l0, l1, l2, l3, l4, l5] L2 (v.toList ++ []) S') := ev_call i87_13 rfl
theorem i87_16 : insAt 87 16 = some (.aload_n 0, 1, (0, 0, 0, 0), 0) := rfl
theorem s87_16 {c : Nat → List AV → SS → Option Out} {l1 l2 l3 l4 l5 : Option AV} {o : OId} {L2 : List (Nat × AV)} {St : List AV} {S : SS} : ev c 87 16 [some (aR o), l1, l2, l3, l4, l5] L2 St S = ev c 87 17 [some (aR o), l1, l2, l3, l4, l5] L2 (aR o :: St) S := ev_go i87_16 rfl
theorem i87_17 : insAt 87 17 = some (.getfield 10, 3, (11, 0, 0, 0), 0) := rfl
theorem s87_17 {c : Nat → List AV → SS → Option Out} {l0 l1 l2 l3 l4 l5 : Option AV} {j t : Nat} {L2 : List (Nat × AV)} {St : List AV} {S : SS} : ev c 87 17 [l0, l1, l2, l3, l4, l5] L2 (aR (11, j, t) :: St) S = ev c 87 20 [l0, l1, l2, l3, l4, l5] L2 (S.2.2.1 (11, j, t) 0 :: St) S := ev_go i87_17 rfl
theorem i87_20 : insAt 87 20 = some (.iload_n 1, 1, (0, 0, 0, 0), 0) := rfl
theorem s87_20 {c : Nat → List AV → SS → Option Out} {l0 l2 l3 l4 l5 : Option AV} {x : Int32} {L2 : List (Nat × AV)} {St : List AV} {S : SS} : ev c 87 20 [l0, some (aI x), l2, l3, l4, l5] L2 St S = ev c 87 21 [l0, some (aI x), l2, l3, l4, l5] L2 (aI x :: St) S := ev_go i87_20 rfl
theorem i87_21 : insAt 87 21 = some (.iload_n 2, 1, (0, 0, 0, 0), 0) := rfl
theorem s87_21 {c : Nat → List AV → SS → Option Out} {l0 l1 l3 l4 l5 : Option AV} {x : Int32} {L2 : List (Nat × AV)} {St : List AV} {S : SS} : ev c 87 21 [l0, l1, some (aI x), l3, l4, l5] L2 St S = ev c 87 22 [l0, l1, some (aI x), l3, l4, l5] L2 (aI x :: St) S := ev_go i87_21 rfl
theorem i87_22 : insAt 87 22 = some (.invokevirtual 116, 3, (88, 2, 3, 4), 0) := rfl
theorem s87_22 {c : Nat → List AV → SS → Option Out} {l0 l1 l2 l3 l4 l5 : Option AV} {a0 : Int32} {a1 : Int32} {j t : Nat} {L2 : List (Nat × AV)} {S : SS} : ev c 87 22 [l0, l1, l2, l3, l4, l5] L2 [aI a1, aI a0, aR (4, j, t)] S = ck (c 88 [aR (4, j, t), aI a0, aI a1] S) (fun v S' => ev c 87 25 [l0, l1, l2, l3, l4, l5] L2 (v.toList ++ []) S') := ev_call i87_22 rfl
theorem i87_25 : insAt 87 25 = some (.istore 4, 2, (0, 0, 0, 0), 0) := rfl
theorem s87_25 {c : Nat → List AV → SS → Option Out} {l0 l1 l2 l3 l4 l5 : Option AV} {x : Int32} {L2 : List (Nat × AV)} {St : List AV} {S : SS} : ev c 87 25 [l0, l1, l2, l3, l4, l5] L2 (aI x :: St) S = ev c 87 27 [l0, l1, l2, l3, some (aI x), l5] (kil L2 4) St S := ev_go i87_25 rfl
theorem i87_27 : insAt 87 27 = some (.iload 4, 2, (0, 0, 0, 0), 0) := rfl
theorem s87_27 {c : Nat → List AV → SS → Option Out} {l0 l1 l2 l3 l5 : Option AV} {x : Int32} {L2 : List (Nat × AV)} {St : List AV} {S : SS} : ev c 87 27 [l0, l1, l2, l3, some (aI x), l5] L2 St S = ev c 87 29 [l0, l1, l2, l3, some (aI x), l5] L2 (aI x :: St) S := ev_go i87_27 rfl
theorem i87_29 : insAt 87 29 = some (.iconst (-1), 1, (0, 0, 0, 0), 0) := rfl
theorem s87_29 {c : Nat → List AV → SS → Option Out} {l0 l1 l2 l3 l4 l5 : Option AV} {L2 : List (Nat × AV)} {St : List AV} {S : SS} : ev c 87 29 [l0, l1, l2, l3, l4, l5] L2 St S = ev c 87 30 [l0, l1, l2, l3, l4, l5] L2 (aI (-1) :: St) S := ev_go i87_29 rfl
theorem i87_30 : insAt 87 30 = some (.if_icmp .ne 13, 3, (0, 0, 0, 0), 0) := rfl
theorem s87_30 {c : Nat → List AV → SS → Option Out} {l0 l1 l2 l3 l4 l5 : Option AV} {x y : Int32} {L2 : List (Nat × AV)} {St : List AV} {S : SS} : ev c 87 30 [l0, l1, l2, l3, l4, l5] L2 (aI y :: aI x :: St) S = if x = y then ev c 87 33 [l0, l1, l2, l3, l4, l5] L2 St S else ev c 87 43 [l0, l1, l2, l3, l4, l5] L2 St S := (ev_br i87_30 rfl).trans (ite_not _ _ _)
theorem i87_33 : insAt 87 33 = some (.new 120, 3, (2, 0, 1, 0), 0) := rfl
theorem s87_33 {c : Nat → List AV → SS → Option Out} {l0 l1 l2 l3 l4 l5 : Option AV} {L2 : List (Nat × AV)} {S : SS} : ev c 87 33 [l0, l1, l2, l3, l4, l5] L2 [] S = some (.inr "java/lang/UnsupportedOperationException", bump S 1 6) := ev_end i87_33 rfl
theorem i87_36 : insAt 87 36 = some (.dup, 1, (0, 0, 0, 0), 0) := rfl
theorem s87_36 {c : Nat → List AV → SS → Option Out} {l0 l1 l2 l3 l4 l5 : Option AV} {x : OId} {L2 : List (Nat × AV)} {St : List AV} {S : SS} : ev c 87 36 [l0, l1, l2, l3, l4, l5] L2 (aR x :: St) S = ev c 87 37 [l0, l1, l2, l3, l4, l5] L2 (aR x :: aR x :: St) S := ev_go i87_36 rfl
theorem i87_43 : insAt 87 43 = some (.aload_n 0, 1, (0, 0, 0, 0), 0) := rfl
theorem s87_43 {c : Nat → List AV → SS → Option Out} {l1 l2 l3 l4 l5 : Option AV} {o : OId} {L2 : List (Nat × AV)} {St : List AV} {S : SS} : ev c 87 43 [some (aR o), l1, l2, l3, l4, l5] L2 St S = ev c 87 44 [some (aR o), l1, l2, l3, l4, l5] L2 (aR o :: St) S := ev_go i87_43 rfl
theorem i87_44 : insAt 87 44 = some (.getfield 19, 3, (11, 1, 0, 0), 0) := rfl
theorem s87_44 {c : Nat → List AV → SS → Option Out} {l0 l1 l2 l3 l4 l5 : Option AV} {j t : Nat} {L2 : List (Nat × AV)} {St : List AV} {S : SS} : ev c 87 44 [l0, l1, l2, l3, l4, l5] L2 (aR (11, j, t) :: St) S = ev c 87 47 [l0, l1, l2, l3, l4, l5] L2 (S.2.2.1 (11, j, t) 1 :: St) S := ev_go i87_44 rfl
theorem i87_47 : insAt 87 47 = some (.aload_n 0, 1, (0, 0, 0, 0), 0) := rfl
theorem s87_47 {c : Nat → List AV → SS → Option Out} {l1 l2 l3 l4 l5 : Option AV} {o : OId} {L2 : List (Nat × AV)} {St : List AV} {S : SS} : ev c 87 47 [some (aR o), l1, l2, l3, l4, l5] L2 St S = ev c 87 48 [some (aR o), l1, l2, l3, l4, l5] L2 (aR o :: St) S := ev_go i87_47 rfl
theorem i87_48 : insAt 87 48 = some (.getfield 10, 3, (11, 0, 0, 0), 0) := rfl
theorem s87_48 {c : Nat → List AV → SS → Option Out} {l0 l1 l2 l3 l4 l5 : Option AV} {j t : Nat} {L2 : List (Nat × AV)} {St : List AV} {S : SS} : ev c 87 48 [l0, l1, l2, l3, l4, l5] L2 (aR (11, j, t) :: St) S = ev c 87 51 [l0, l1, l2, l3, l4, l5] L2 (S.2.2.1 (11, j, t) 0 :: St) S := ev_go i87_48 rfl
theorem i87_51 : insAt 87 51 = some (.invokevirtual 71, 3, (62, 1, 3, 5), 0) := rfl
theorem s87_51 {c : Nat → List AV → SS → Option Out} {l0 l1 l2 l3 l4 l5 : Option AV} {a0 : OId} {j t : Nat} {L2 : List (Nat × AV)} {S : SS} : ev c 87 51 [l0, l1, l2, l3, l4, l5] L2 [aR a0, aR (5, j, t)] S = ck (c 62 [aR (5, j, t), aR a0] S) (fun v S' => ev c 87 54 [l0, l1, l2, l3, l4, l5] L2 (v.toList ++ []) S') := ev_call i87_51 rfl
theorem i87_54 : insAt 87 54 = some (.aload_n 0, 1, (0, 0, 0, 0), 0) := rfl
theorem s87_54 {c : Nat → List AV → SS → Option Out} {l1 l2 l3 l4 l5 : Option AV} {o : OId} {L2 : List (Nat × AV)} {St : List AV} {S : SS} : ev c 87 54 [some (aR o), l1, l2, l3, l4, l5] L2 St S = ev c 87 55 [some (aR o), l1, l2, l3, l4, l5] L2 (aR o :: St) S := ev_go i87_54 rfl
theorem i87_55 : insAt 87 55 = some (.getfield 10, 3, (11, 0, 0, 0), 0) := rfl
theorem s87_55 {c : Nat → List AV → SS → Option Out} {l0 l1 l2 l3 l4 l5 : Option AV} {j t : Nat} {L2 : List (Nat × AV)} {St : List AV} {S : SS} : ev c 87 55 [l0, l1, l2, l3, l4, l5] L2 (aR (11, j, t) :: St) S = ev c 87 58 [l0, l1, l2, l3, l4, l5] L2 (S.2.2.1 (11, j, t) 0 :: St) S := ev_go i87_55 rfl
theorem i87_58 : insAt 87 58 = some (.iload_n 1, 1, (0, 0, 0, 0), 0) := rfl
theorem s87_58 {c : Nat → List AV → SS → Option Out} {l0 l2 l3 l4 l5 : Option AV} {x : Int32} {L2 : List (Nat × AV)} {St : List AV} {S : SS} : ev c 87 58 [l0, some (aI x), l2, l3, l4, l5] L2 St S = ev c 87 59 [l0, some (aI x), l2, l3, l4, l5] L2 (aI x :: St) S := ev_go i87_58 rfl
theorem i87_59 : insAt 87 59 = some (.iload_n 2, 1, (0, 0, 0, 0), 0) := rfl
theorem s87_59 {c : Nat → List AV → SS → Option Out} {l0 l1 l3 l4 l5 : Option AV} {x : Int32} {L2 : List (Nat × AV)} {St : List AV} {S : SS} : ev c 87 59 [l0, l1, some (aI x), l3, l4, l5] L2 St S = ev c 87 60 [l0, l1, some (aI x), l3, l4, l5] L2 (aI x :: St) S := ev_go i87_59 rfl
theorem i87_60 : insAt 87 60 = some (.aload_n 0, 1, (0, 0, 0, 0), 0) := rfl
theorem s87_60 {c : Nat → List AV → SS → Option Out} {l1 l2 l3 l4 l5 : Option AV} {o : OId} {L2 : List (Nat × AV)} {St : List AV} {S : SS} : ev c 87 60 [some (aR o), l1, l2, l3, l4, l5] L2 St S = ev c 87 61 [some (aR o), l1, l2, l3, l4, l5] L2 (aR o :: St) S := ev_go i87_60 rfl
theorem i87_61 : insAt 87 61 = some (.getfield 10, 3, (11, 0, 0, 0), 0) := rfl
theorem s87_61 {c : Nat → List AV → SS → Option Out} {l0 l1 l2 l3 l4 l5 : Option AV} {j t : Nat} {L2 : List (Nat × AV)} {St : List AV} {S : SS} : ev c 87 61 [l0, l1, l2, l3, l4, l5] L2 (aR (11, j, t) :: St) S = ev c 87 64 [l0, l1, l2, l3, l4, l5] L2 (S.2.2.1 (11, j, t) 0 :: St) S := ev_go i87_61 rfl
theorem i87_64 : insAt 87 64 = some (.getfield 98, 3, (4, 3, 1, 0), 0) := rfl
theorem s87_64 {c : Nat → List AV → SS → Option Out} {l0 l1 l2 l3 l4 l5 : Option AV} {j t : Nat} {L2 : List (Nat × AV)} {St : List AV} {S : SS} : ev c 87 64 [l0, l1, l2, l3, l4, l5] L2 (aR (4, j, t) :: St) S = ev c 87 67 [l0, l1, l2, l3, l4, l5] L2 (aI (S.1 (4, j, t) 3) :: St) S := ev_go i87_64 rfl
theorem i87_67 : insAt 87 67 = some (.iload_n 3, 1, (0, 0, 0, 0), 0) := rfl
theorem s87_67 {c : Nat → List AV → SS → Option Out} {l0 l1 l2 l4 l5 : Option AV} {x : Int32} {L2 : List (Nat × AV)} {St : List AV} {S : SS} : ev c 87 67 [l0, l1, l2, some (aI x), l4, l5] L2 St S = ev c 87 68 [l0, l1, l2, some (aI x), l4, l5] L2 (aI x :: St) S := ev_go i87_67 rfl
theorem i87_68 : insAt 87 68 = some (.iadd, 1, (0, 0, 0, 0), 0) := rfl
theorem s87_68 {c : Nat → List AV → SS → Option Out} {l0 l1 l2 l3 l4 l5 : Option AV} {x y : Int32} {L2 : List (Nat × AV)} {St : List AV} {S : SS} : ev c 87 68 [l0, l1, l2, l3, l4, l5] L2 (aI y :: aI x :: St) S = ev c 87 69 [l0, l1, l2, l3, l4, l5] L2 (aI (x + y) :: St) S := ev_go i87_68 rfl
theorem i87_69 : insAt 87 69 = some (.iconst 1, 1, (0, 0, 0, 0), 0) := rfl
theorem s87_69 {c : Nat → List AV → SS → Option Out} {l0 l1 l2 l3 l4 l5 : Option AV} {L2 : List (Nat × AV)} {St : List AV} {S : SS} : ev c 87 69 [l0, l1, l2, l3, l4, l5] L2 St S = ev c 87 70 [l0, l1, l2, l3, l4, l5] L2 (aI 1 :: St) S := ev_go i87_69 rfl
theorem i87_70 : insAt 87 70 = some (.invokevirtual 101, 3, (81, 4, 3, 4), 0) := rfl
theorem s87_70 {c : Nat → List AV → SS → Option Out} {l0 l1 l2 l3 l4 l5 : Option AV} {a0 : Int32} {a1 : Int32} {a2 : Int32} {a3 : Int32} {j t : Nat} {L2 : List (Nat × AV)} {S : SS} : ev c 87 70 [l0, l1, l2, l3, l4, l5] L2 [aI a3, aI a2, aI a1, aI a0, aR (4, j, t)] S = ck (c 81 [aR (4, j, t), aI a0, aI a1, aI a2, aI a3] S) (fun v S' => ev c 87 73 [l0, l1, l2, l3, l4, l5] L2 (v.toList ++ []) S') := ev_call i87_70 rfl
theorem i87_73 : insAt 87 73 = some (.istore 5, 2, (0, 0, 0, 0), 0) := rfl
theorem s87_73 {c : Nat → List AV → SS → Option Out} {l0 l1 l2 l3 l4 l5 : Option AV} {x : Int32} {L2 : List (Nat × AV)} {St : List AV} {S : SS} : ev c 87 73 [l0, l1, l2, l3, l4, l5] L2 (aI x :: St) S = ev c 87 75 [l0, l1, l2, l3, l4, some (aI x)] (kil L2 5) St S := ev_go i87_73 rfl
theorem i87_75 : insAt 87 75 = some (.aload_n 0, 1, (0, 0, 0, 0), 0) := rfl
theorem s87_75 {c : Nat → List AV → SS → Option Out} {l1 l2 l3 l4 l5 : Option AV} {o : OId} {L2 : List (Nat × AV)} {St : List AV} {S : SS} : ev c 87 75 [some (aR o), l1, l2, l3, l4, l5] L2 St S = ev c 87 76 [some (aR o), l1, l2, l3, l4, l5] L2 (aR o :: St) S := ev_go i87_75 rfl
theorem i87_76 : insAt 87 76 = some (.getfield 10, 3, (11, 0, 0, 0), 0) := rfl
theorem s87_76 {c : Nat → List AV → SS → Option Out} {l0 l1 l2 l3 l4 l5 : Option AV} {j t : Nat} {L2 : List (Nat × AV)} {St : List AV} {S : SS} : ev c 87 76 [l0, l1, l2, l3, l4, l5] L2 (aR (11, j, t) :: St) S = ev c 87 79 [l0, l1, l2, l3, l4, l5] L2 (S.2.2.1 (11, j, t) 0 :: St) S := ev_go i87_76 rfl
theorem i87_79 : insAt 87 79 = some (.iload 5, 2, (0, 0, 0, 0), 0) := rfl
theorem s87_79 {c : Nat → List AV → SS → Option Out} {l0 l1 l2 l3 l4 : Option AV} {x : Int32} {L2 : List (Nat × AV)} {St : List AV} {S : SS} : ev c 87 79 [l0, l1, l2, l3, l4, some (aI x)] L2 St S = ev c 87 81 [l0, l1, l2, l3, l4, some (aI x)] L2 (aI x :: St) S := ev_go i87_79 rfl
theorem i87_81 : insAt 87 81 = some (.invokevirtual 125, 3, (17, 1, 3, 4), 0) := rfl
theorem s87_81 {c : Nat → List AV → SS → Option Out} {l0 l1 l2 l3 l4 l5 : Option AV} {a0 : Int32} {j t : Nat} {L2 : List (Nat × AV)} {S : SS} : ev c 87 81 [l0, l1, l2, l3, l4, l5] L2 [aI a0, aR (4, j, t)] S = ck (c 17 [aR (4, j, t), aI a0] S) (fun v S' => ev c 87 84 [l0, l1, l2, l3, l4, l5] L2 (v.toList ++ []) S') := ev_call i87_81 rfl
theorem i87_84 : insAt 87 84 = some (.iload 4, 2, (0, 0, 0, 0), 0) := rfl
theorem s87_84 {c : Nat → List AV → SS → Option Out} {l0 l1 l2 l3 l5 : Option AV} {x : Int32} {L2 : List (Nat × AV)} {St : List AV} {S : SS} : ev c 87 84 [l0, l1, l2, l3, some (aI x), l5] L2 St S = ev c 87 86 [l0, l1, l2, l3, some (aI x), l5] L2 (aI x :: St) S := ev_go i87_84 rfl
theorem i87_86 : insAt 87 86 = some (.putfield 129, 3, (10, 3, 1, 0), 0) := rfl
theorem s87_86 {c : Nat → List AV → SS → Option Out} {l0 l1 l2 l3 l4 l5 : Option AV} {j t : Nat} {x : Int32} {L2 : List (Nat × AV)} {St : List AV} {S : SS} : ev c 87 86 [l0, l1, l2, l3, l4, l5] L2 (aI x :: aR (10, j, t) :: St) S = ev c 87 89 [l0, l1, l2, l3, l4, l5] L2 St (setI S.1 (10, j, t) 3 x, S.2) := ev_go i87_86 rfl
theorem i87_89 : insAt 87 89 = some (.aload_n 0, 1, (0, 0, 0, 0), 0) := rfl
theorem s87_89 {c : Nat → List AV → SS → Option Out} {l1 l2 l3 l4 l5 : Option AV} {o : OId} {L2 : List (Nat × AV)} {St : List AV} {S : SS} : ev c 87 89 [some (aR o), l1, l2, l3, l4, l5] L2 St S = ev c 87 90 [some (aR o), l1, l2, l3, l4, l5] L2 (aR o :: St) S := ev_go i87_89 rfl
theorem i87_90 : insAt 87 90 = some (.getfield 10, 3, (11, 0, 0, 0), 0) := rfl
theorem s87_90 {c : Nat → List AV → SS → Option Out} {l0 l1 l2 l3 l4 l5 : Option AV} {j t : Nat} {L2 : List (Nat × AV)} {St : List AV} {S : SS} : ev c 87 90 [l0, l1, l2, l3, l4, l5] L2 (aR (11, j, t) :: St) S = ev c 87 93 [l0, l1, l2, l3, l4, l5] L2 (S.2.2.1 (11, j, t) 0 :: St) S := ev_go i87_90 rfl
theorem i87_93 : insAt 87 93 = some (.getfield 113, 3, (4, 4, 1, 0), 0) := rfl
theorem s87_93 {c : Nat → List AV → SS → Option Out} {l0 l1 l2 l3 l4 l5 : Option AV} {j t : Nat} {L2 : List (Nat × AV)} {St : List AV} {S : SS} : ev c 87 93 [l0, l1, l2, l3, l4, l5] L2 (aR (4, j, t) :: St) S = ev c 87 96 [l0, l1, l2, l3, l4, l5] L2 (aI (S.1 (4, j, t) 4) :: St) S := ev_go i87_93 rfl
theorem i87_96 : insAt 87 96 = some (.ireturn, 1, (0, 0, 0, 0), 0) := rfl
theorem s87_96 {c : Nat → List AV → SS → Option Out} {l0 l1 l2 l3 l4 l5 : Option AV} {x : Int32} {L2 : List (Nat × AV)} {St : List AV} {S : SS} : ev c 87 96 [l0, l1, l2, l3, l4, l5] L2 [aI x] S = some (.inl (some (aI x)), S) := ev_end i87_96 rfl
theorem m87 {d : Nat} {o : OId} {a0 : Int32} {a1 : Int32} {a2 : Int32} {S : SS} : evm (d + 1) 87 [aR o, aI a0, aI a1, aI a2] S = ev (evm d) 87 0 [some (aR o), some (aI a0), some (aI a1), some (aI a2), none, none] [] [] S := evm_s (n := 6) rfl (Nat.le_of_ble_eq_true rfl) rfl rfl
/-! FrequencyOffice.confirm(II)I -/
theorem i92_0 : insAt 92 0 = some (.aload_n 0, 1, (0, 0, 0, 0), 0) := rfl
theorem s92_0 {c : Nat → List AV → SS → Option Out} {l1 l2 l3 l4 : Option AV} {o : OId} {L2 : List (Nat × AV)} {St : List AV} {S : SS} : ev c 92 0 [some (aR o), l1, l2, l3, l4] L2 St S = ev c 92 1 [some (aR o), l1, l2, l3, l4] L2 (aR o :: St) S := ev_go i92_0 rfl
theorem i92_1 : insAt 92 1 = some (.iload_n 1, 1, (0, 0, 0, 0), 0) := rfl
theorem s92_1 {c : Nat → List AV → SS → Option Out} {l0 l2 l3 l4 : Option AV} {x : Int32} {L2 : List (Nat × AV)} {St : List AV} {S : SS} : ev c 92 1 [l0, some (aI x), l2, l3, l4] L2 St S = ev c 92 2 [l0, some (aI x), l2, l3, l4] L2 (aI x :: St) S := ev_go i92_1 rfl
theorem i92_2 : insAt 92 2 = some (.invokevirtual 134, 3, (93, 1, 2, 11), 0) := rfl
theorem s92_2 {c : Nat → List AV → SS → Option Out} {l0 l1 l2 l3 l4 : Option AV} {a0 : Int32} {j t : Nat} {L2 : List (Nat × AV)} {S : SS} : ev c 92 2 [l0, l1, l2, l3, l4] L2 [aI a0, aR (11, j, t)] S = ck (c 93 [aR (11, j, t), aI a0] S) (fun v S' => ev c 92 5 [l0, l1, l2, l3, l4] L2 (v.toList ++ []) S') := ev_call i92_2 rfl
theorem i92_5 : insAt 92 5 = some (.istore_n 3, 1, (0, 0, 0, 0), 0) := rfl
theorem s92_5 {c : Nat → List AV → SS → Option Out} {l0 l1 l2 l3 l4 : Option AV} {x : Int32} {L2 : List (Nat × AV)} {St : List AV} {S : SS} : ev c 92 5 [l0, l1, l2, l3, l4] L2 (aI x :: St) S = ev c 92 6 [l0, l1, l2, some (aI x), l4] (kil L2 3) St S := ev_go i92_5 rfl
theorem i92_6 : insAt 92 6 = some (.iload_n 2, 1, (0, 0, 0, 0), 0) := rfl
theorem s92_6 {c : Nat → List AV → SS → Option Out} {l0 l1 l3 l4 : Option AV} {x : Int32} {L2 : List (Nat × AV)} {St : List AV} {S : SS} : ev c 92 6 [l0, l1, some (aI x), l3, l4] L2 St S = ev c 92 7 [l0, l1, some (aI x), l3, l4] L2 (aI x :: St) S := ev_go i92_6 rfl
theorem i92_7 : insAt 92 7 = some (.iconst 1, 1, (0, 0, 0, 0), 0) := rfl
theorem s92_7 {c : Nat → List AV → SS → Option Out} {l0 l1 l2 l3 l4 : Option AV} {L2 : List (Nat × AV)} {St : List AV} {S : SS} : ev c 92 7 [l0, l1, l2, l3, l4] L2 St S = ev c 92 8 [l0, l1, l2, l3, l4] L2 (aI 1 :: St) S := ev_go i92_7 rfl
theorem i92_8 : insAt 92 8 = some (.sipush 365, 3, (0, 0, 0, 0), 0) := rfl
theorem s92_8 {c : Nat → List AV → SS → Option Out} {l0 l1 l2 l3 l4 : Option AV} {L2 : List (Nat × AV)} {St : List AV} {S : SS} : ev c 92 8 [l0, l1, l2, l3, l4] L2 St S = ev c 92 11 [l0, l1, l2, l3, l4] L2 (aI 365 :: St) S := ev_go i92_8 rfl
theorem i92_11 : insAt 92 11 = some (.invokestatic 56, 3, (61, 3, 0, 0), 0) := rfl
theorem s92_11 {c : Nat → List AV → SS → Option Out} {l0 l1 l2 l3 l4 : Option AV} {a0 : Int32} {a1 : Int32} {a2 : Int32} {L2 : List (Nat × AV)} {S : SS} : ev c 92 11 [l0, l1, l2, l3, l4] L2 [aI a2, aI a1, aI a0] S = ck (c 61 [aI a0, aI a1, aI a2] S) (fun v S' => ev c 92 14 [l0, l1, l2, l3, l4] L2 (v.toList ++ []) S') := ev_call i92_11 rfl
theorem i92_14 : insAt 92 14 = some (.aload_n 0, 1, (0, 0, 0, 0), 0) := rfl
theorem s92_14 {c : Nat → List AV → SS → Option Out} {l1 l2 l3 l4 : Option AV} {o : OId} {L2 : List (Nat × AV)} {St : List AV} {S : SS} : ev c 92 14 [some (aR o), l1, l2, l3, l4] L2 St S = ev c 92 15 [some (aR o), l1, l2, l3, l4] L2 (aR o :: St) S := ev_go i92_14 rfl
theorem i92_15 : insAt 92 15 = some (.getfield 10, 3, (11, 0, 0, 0), 0) := rfl
theorem s92_15 {c : Nat → List AV → SS → Option Out} {l0 l1 l2 l3 l4 : Option AV} {j t : Nat} {L2 : List (Nat × AV)} {St : List AV} {S : SS} : ev c 92 15 [l0, l1, l2, l3, l4] L2 (aR (11, j, t) :: St) S = ev c 92 18 [l0, l1, l2, l3, l4] L2 (S.2.2.1 (11, j, t) 0 :: St) S := ev_go i92_15 rfl
theorem i92_18 : insAt 92 18 = some (.iload_n 3, 1, (0, 0, 0, 0), 0) := rfl
theorem s92_18 {c : Nat → List AV → SS → Option Out} {l0 l1 l2 l4 : Option AV} {x : Int32} {L2 : List (Nat × AV)} {St : List AV} {S : SS} : ev c 92 18 [l0, l1, l2, some (aI x), l4] L2 St S = ev c 92 19 [l0, l1, l2, some (aI x), l4] L2 (aI x :: St) S := ev_go i92_18 rfl
theorem i92_19 : insAt 92 19 = some (.invokevirtual 125, 3, (17, 1, 3, 4), 0) := rfl
theorem s92_19 {c : Nat → List AV → SS → Option Out} {l0 l1 l2 l3 l4 : Option AV} {a0 : Int32} {j t : Nat} {L2 : List (Nat × AV)} {S : SS} : ev c 92 19 [l0, l1, l2, l3, l4] L2 [aI a0, aR (4, j, t)] S = ck (c 17 [aR (4, j, t), aI a0] S) (fun v S' => ev c 92 22 [l0, l1, l2, l3, l4] L2 (v.toList ++ []) S') := ev_call i92_19 rfl
theorem i92_22 : insAt 92 22 = some (.getfield 138, 3, (10, 5, 1, 0), 0) := rfl
theorem s92_22 {c : Nat → List AV → SS → Option Out} {l0 l1 l2 l3 l4 : Option AV} {j t : Nat} {L2 : List (Nat × AV)} {St : List AV} {S : SS} : ev c 92 22 [l0, l1, l2, l3, l4] L2 (aR (10, j, t) :: St) S = ev c 92 25 [l0, l1, l2, l3, l4] L2 (aI (bb (S.1 (10, j, t) 5)) :: St) S := ev_go i92_22 rfl
theorem i92_25 : insAt 92 25 = some (.ifCond .ne 13, 3, (0, 0, 0, 0), 0) := rfl
theorem s92_25 {c : Nat → List AV → SS → Option Out} {l0 l1 l2 l3 l4 : Option AV} {x : Int32} {L2 : List (Nat × AV)} {St : List AV} {S : SS} : ev c 92 25 [l0, l1, l2, l3, l4] L2 (aI x :: St) S = if x = 0 then ev c 92 28 [l0, l1, l2, l3, l4] L2 St S else ev c 92 38 [l0, l1, l2, l3, l4] L2 St S := (ev_br i92_25 rfl).trans (ite_not _ _ _)
theorem i92_28 : insAt 92 28 = some (.new 64, 3, (1, 0, 1, 0), 0) := rfl
theorem s92_28 {c : Nat → List AV → SS → Option Out} {l0 l1 l2 l3 l4 : Option AV} {L2 : List (Nat × AV)} {S : SS} : ev c 92 28 [l0, l1, l2, l3, l4] L2 [] S = some (.inr "java/lang/IllegalStateException", bump S 1 6) := ev_end i92_28 rfl
theorem i92_31 : insAt 92 31 = some (.dup, 1, (0, 0, 0, 0), 0) := rfl
theorem s92_31 {c : Nat → List AV → SS → Option Out} {l0 l1 l2 l3 l4 : Option AV} {x : OId} {L2 : List (Nat × AV)} {St : List AV} {S : SS} : ev c 92 31 [l0, l1, l2, l3, l4] L2 (aR x :: St) S = ev c 92 32 [l0, l1, l2, l3, l4] L2 (aR x :: aR x :: St) S := ev_go i92_31 rfl
theorem i92_38 : insAt 92 38 = some (.aload_n 0, 1, (0, 0, 0, 0), 0) := rfl
theorem s92_38 {c : Nat → List AV → SS → Option Out} {l1 l2 l3 l4 : Option AV} {o : OId} {L2 : List (Nat × AV)} {St : List AV} {S : SS} : ev c 92 38 [some (aR o), l1, l2, l3, l4] L2 St S = ev c 92 39 [some (aR o), l1, l2, l3, l4] L2 (aR o :: St) S := ev_go i92_38 rfl
theorem i92_39 : insAt 92 39 = some (.getfield 19, 3, (11, 1, 0, 0), 0) := rfl
theorem s92_39 {c : Nat → List AV → SS → Option Out} {l0 l1 l2 l3 l4 : Option AV} {j t : Nat} {L2 : List (Nat × AV)} {St : List AV} {S : SS} : ev c 92 39 [l0, l1, l2, l3, l4] L2 (aR (11, j, t) :: St) S = ev c 92 42 [l0, l1, l2, l3, l4] L2 (S.2.2.1 (11, j, t) 1 :: St) S := ev_go i92_39 rfl
theorem i92_42 : insAt 92 42 = some (.aload_n 0, 1, (0, 0, 0, 0), 0) := rfl
theorem s92_42 {c : Nat → List AV → SS → Option Out} {l1 l2 l3 l4 : Option AV} {o : OId} {L2 : List (Nat × AV)} {St : List AV} {S : SS} : ev c 92 42 [some (aR o), l1, l2, l3, l4] L2 St S = ev c 92 43 [some (aR o), l1, l2, l3, l4] L2 (aR o :: St) S := ev_go i92_42 rfl
theorem i92_43 : insAt 92 43 = some (.getfield 10, 3, (11, 0, 0, 0), 0) := rfl
theorem s92_43 {c : Nat → List AV → SS → Option Out} {l0 l1 l2 l3 l4 : Option AV} {j t : Nat} {L2 : List (Nat × AV)} {St : List AV} {S : SS} : ev c 92 43 [l0, l1, l2, l3, l4] L2 (aR (11, j, t) :: St) S = ev c 92 46 [l0, l1, l2, l3, l4] L2 (S.2.2.1 (11, j, t) 0 :: St) S := ev_go i92_43 rfl
theorem i92_46 : insAt 92 46 = some (.invokevirtual 71, 3, (62, 1, 3, 5), 0) := rfl
theorem s92_46 {c : Nat → List AV → SS → Option Out} {l0 l1 l2 l3 l4 : Option AV} {a0 : OId} {j t : Nat} {L2 : List (Nat × AV)} {S : SS} : ev c 92 46 [l0, l1, l2, l3, l4] L2 [aR a0, aR (5, j, t)] S = ck (c 62 [aR (5, j, t), aR a0] S) (fun v S' => ev c 92 49 [l0, l1, l2, l3, l4] L2 (v.toList ++ []) S') := ev_call i92_46 rfl
theorem i92_49 : insAt 92 49 = some (.aload_n 0, 1, (0, 0, 0, 0), 0) := rfl
theorem s92_49 {c : Nat → List AV → SS → Option Out} {l1 l2 l3 l4 : Option AV} {o : OId} {L2 : List (Nat × AV)} {St : List AV} {S : SS} : ev c 92 49 [some (aR o), l1, l2, l3, l4] L2 St S = ev c 92 50 [some (aR o), l1, l2, l3, l4] L2 (aR o :: St) S := ev_go i92_49 rfl
theorem i92_50 : insAt 92 50 = some (.getfield 10, 3, (11, 0, 0, 0), 0) := rfl
theorem s92_50 {c : Nat → List AV → SS → Option Out} {l0 l1 l2 l3 l4 : Option AV} {j t : Nat} {L2 : List (Nat × AV)} {St : List AV} {S : SS} : ev c 92 50 [l0, l1, l2, l3, l4] L2 (aR (11, j, t) :: St) S = ev c 92 53 [l0, l1, l2, l3, l4] L2 (S.2.2.1 (11, j, t) 0 :: St) S := ev_go i92_50 rfl
theorem i92_53 : insAt 92 53 = some (.iload_n 3, 1, (0, 0, 0, 0), 0) := rfl
theorem s92_53 {c : Nat → List AV → SS → Option Out} {l0 l1 l2 l4 : Option AV} {x : Int32} {L2 : List (Nat × AV)} {St : List AV} {S : SS} : ev c 92 53 [l0, l1, l2, some (aI x), l4] L2 St S = ev c 92 54 [l0, l1, l2, some (aI x), l4] L2 (aI x :: St) S := ev_go i92_53 rfl
theorem i92_54 : insAt 92 54 = some (.invokevirtual 125, 3, (17, 1, 3, 4), 0) := rfl
theorem s92_54 {c : Nat → List AV → SS → Option Out} {l0 l1 l2 l3 l4 : Option AV} {a0 : Int32} {j t : Nat} {L2 : List (Nat × AV)} {S : SS} : ev c 92 54 [l0, l1, l2, l3, l4] L2 [aI a0, aR (4, j, t)] S = ck (c 17 [aR (4, j, t), aI a0] S) (fun v S' => ev c 92 57 [l0, l1, l2, l3, l4] L2 (v.toList ++ []) S') := ev_call i92_54 rfl
theorem i92_57 : insAt 92 57 = some (.astore 4, 2, (0, 0, 0, 0), 0) := rfl
theorem s92_57 {c : Nat → List AV → SS → Option Out} {l0 l1 l2 l3 l4 : Option AV} {o : OId} {L2 : List (Nat × AV)} {St : List AV} {S : SS} : ev c 92 57 [l0, l1, l2, l3, l4] L2 (aR o :: St) S = ev c 92 59 [l0, l1, l2, l3, some (aR o)] (kil L2 4) St S := ev_go i92_57 rfl
theorem i92_59 : insAt 92 59 = some (.aload 4, 2, (0, 0, 0, 0), 0) := rfl
theorem s92_59 {c : Nat → List AV → SS → Option Out} {l0 l1 l2 l3 : Option AV} {o : OId} {L2 : List (Nat × AV)} {St : List AV} {S : SS} : ev c 92 59 [l0, l1, l2, l3, some (aR o)] L2 St S = ev c 92 61 [l0, l1, l2, l3, some (aR o)] L2 (aR o :: St) S := ev_go i92_59 rfl
theorem i92_61 : insAt 92 61 = some (.iconst 0, 1, (0, 0, 0, 0), 0) := rfl
theorem s92_61 {c : Nat → List AV → SS → Option Out} {l0 l1 l2 l3 l4 : Option AV} {L2 : List (Nat × AV)} {St : List AV} {S : SS} : ev c 92 61 [l0, l1, l2, l3, l4] L2 St S = ev c 92 62 [l0, l1, l2, l3, l4] L2 (aI 0 :: St) S := ev_go i92_61 rfl
theorem i92_62 : insAt 92 62 = some (.putfield 138, 3, (10, 5, 1, 0), 0) := rfl
theorem s92_62 {c : Nat → List AV → SS → Option Out} {l0 l1 l2 l3 l4 : Option AV} {j t : Nat} {x : Int32} {L2 : List (Nat × AV)} {St : List AV} {S : SS} : ev c 92 62 [l0, l1, l2, l3, l4] L2 (aI x :: aR (10, j, t) :: St) S = if x = 0 ∨ x = 1 then ev c 92 65 [l0, l1, l2, l3, l4] L2 St (setI S.1 (10, j, t) 5 x, S.2) else none := ev_if i92_62 rfl
theorem i92_65 : insAt 92 65 = some (.aload 4, 2, (0, 0, 0, 0), 0) := rfl
theorem s92_65 {c : Nat → List AV → SS → Option Out} {l0 l1 l2 l3 : Option AV} {o : OId} {L2 : List (Nat × AV)} {St : List AV} {S : SS} : ev c 92 65 [l0, l1, l2, l3, some (aR o)] L2 St S = ev c 92 67 [l0, l1, l2, l3, some (aR o)] L2 (aR o :: St) S := ev_go i92_65 rfl
theorem i92_67 : insAt 92 67 = some (.aload_n 0, 1, (0, 0, 0, 0), 0) := rfl
theorem s92_67 {c : Nat → List AV → SS → Option Out} {l1 l2 l3 l4 : Option AV} {o : OId} {L2 : List (Nat × AV)} {St : List AV} {S : SS} : ev c 92 67 [some (aR o), l1, l2, l3, l4] L2 St S = ev c 92 68 [some (aR o), l1, l2, l3, l4] L2 (aR o :: St) S := ev_go i92_67 rfl
theorem i92_68 : insAt 92 68 = some (.getfield 10, 3, (11, 0, 0, 0), 0) := rfl
theorem s92_68 {c : Nat → List AV → SS → Option Out} {l0 l1 l2 l3 l4 : Option AV} {j t : Nat} {L2 : List (Nat × AV)} {St : List AV} {S : SS} : ev c 92 68 [l0, l1, l2, l3, l4] L2 (aR (11, j, t) :: St) S = ev c 92 71 [l0, l1, l2, l3, l4] L2 (S.2.2.1 (11, j, t) 0 :: St) S := ev_go i92_68 rfl
theorem i92_71 : insAt 92 71 = some (.getfield 98, 3, (4, 3, 1, 0), 0) := rfl
theorem s92_71 {c : Nat → List AV → SS → Option Out} {l0 l1 l2 l3 l4 : Option AV} {j t : Nat} {L2 : List (Nat × AV)} {St : List AV} {S : SS} : ev c 92 71 [l0, l1, l2, l3, l4] L2 (aR (4, j, t) :: St) S = ev c 92 74 [l0, l1, l2, l3, l4] L2 (aI (S.1 (4, j, t) 3) :: St) S := ev_go i92_71 rfl
theorem i92_74 : insAt 92 74 = some (.iload_n 2, 1, (0, 0, 0, 0), 0) := rfl
theorem s92_74 {c : Nat → List AV → SS → Option Out} {l0 l1 l3 l4 : Option AV} {x : Int32} {L2 : List (Nat × AV)} {St : List AV} {S : SS} : ev c 92 74 [l0, l1, some (aI x), l3, l4] L2 St S = ev c 92 75 [l0, l1, some (aI x), l3, l4] L2 (aI x :: St) S := ev_go i92_74 rfl
theorem i92_75 : insAt 92 75 = some (.iadd, 1, (0, 0, 0, 0), 0) := rfl
theorem s92_75 {c : Nat → List AV → SS → Option Out} {l0 l1 l2 l3 l4 : Option AV} {x y : Int32} {L2 : List (Nat × AV)} {St : List AV} {S : SS} : ev c 92 75 [l0, l1, l2, l3, l4] L2 (aI y :: aI x :: St) S = ev c 92 76 [l0, l1, l2, l3, l4] L2 (aI (x + y) :: St) S := ev_go i92_75 rfl
theorem i92_76 : insAt 92 76 = some (.putfield 143, 3, (10, 4, 1, 0), 0) := rfl
theorem s92_76 {c : Nat → List AV → SS → Option Out} {l0 l1 l2 l3 l4 : Option AV} {j t : Nat} {x : Int32} {L2 : List (Nat × AV)} {St : List AV} {S : SS} : ev c 92 76 [l0, l1, l2, l3, l4] L2 (aI x :: aR (10, j, t) :: St) S = ev c 92 79 [l0, l1, l2, l3, l4] L2 St (setI S.1 (10, j, t) 4 x, S.2) := ev_go i92_76 rfl
theorem i92_79 : insAt 92 79 = some (.aload 4, 2, (0, 0, 0, 0), 0) := rfl
theorem s92_79 {c : Nat → List AV → SS → Option Out} {l0 l1 l2 l3 : Option AV} {o : OId} {L2 : List (Nat × AV)} {St : List AV} {S : SS} : ev c 92 79 [l0, l1, l2, l3, some (aR o)] L2 St S = ev c 92 81 [l0, l1, l2, l3, some (aR o)] L2 (aR o :: St) S := ev_go i92_79 rfl
theorem i92_81 : insAt 92 81 = some (.getfield 143, 3, (10, 4, 1, 0), 0) := rfl
theorem s92_81 {c : Nat → List AV → SS → Option Out} {l0 l1 l2 l3 l4 : Option AV} {j t : Nat} {L2 : List (Nat × AV)} {St : List AV} {S : SS} : ev c 92 81 [l0, l1, l2, l3, l4] L2 (aR (10, j, t) :: St) S = ev c 92 84 [l0, l1, l2, l3, l4] L2 (aI (S.1 (10, j, t) 4) :: St) S := ev_go i92_81 rfl
theorem i92_84 : insAt 92 84 = some (.ireturn, 1, (0, 0, 0, 0), 0) := rfl
theorem s92_84 {c : Nat → List AV → SS → Option Out} {l0 l1 l2 l3 l4 : Option AV} {x : Int32} {L2 : List (Nat × AV)} {St : List AV} {S : SS} : ev c 92 84 [l0, l1, l2, l3, l4] L2 [aI x] S = some (.inl (some (aI x)), S) := ev_end i92_84 rfl
theorem m92 {d : Nat} {o : OId} {a0 : Int32} {a1 : Int32} {S : SS} : evm (d + 1) 92 [aR o, aI a0, aI a1] S = ev (evm d) 92 0 [some (aR o), some (aI a0), some (aI a1), none, none] [] [] S := evm_s (n := 5) rfl (Nat.le_of_ble_eq_true rfl) rfl rfl
/-! FrequencyOffice.placeOf(I)I -/
theorem i93_0 : insAt 93 0 = some (.aload_n 0, 1, (0, 0, 0, 0), 0) := rfl
theorem s93_0 {c : Nat → List AV → SS → Option Out} {l1 l2 : Option AV} {o : OId} {L2 : List (Nat × AV)} {St : List AV} {S : SS} : ev c 93 0 [some (aR o), l1, l2] L2 St S = ev c 93 1 [some (aR o), l1, l2] L2 (aR o :: St) S := ev_go i93_0 rfl
theorem i93_1 : insAt 93 1 = some (.getfield 10, 3, (11, 0, 0, 0), 0) := rfl
theorem s93_1 {c : Nat → List AV → SS → Option Out} {l0 l1 l2 : Option AV} {j t : Nat} {L2 : List (Nat × AV)} {St : List AV} {S : SS} : ev c 93 1 [l0, l1, l2] L2 (aR (11, j, t) :: St) S = ev c 93 4 [l0, l1, l2] L2 (S.2.2.1 (11, j, t) 0 :: St) S := ev_go i93_1 rfl
theorem i93_4 : insAt 93 4 = some (.iload_n 1, 1, (0, 0, 0, 0), 0) := rfl
theorem s93_4 {c : Nat → List AV → SS → Option Out} {l0 l2 : Option AV} {x : Int32} {L2 : List (Nat × AV)} {St : List AV} {S : SS} : ev c 93 4 [l0, some (aI x), l2] L2 St S = ev c 93 5 [l0, some (aI x), l2] L2 (aI x :: St) S := ev_go i93_4 rfl
theorem i93_5 : insAt 93 5 = some (.invokevirtual 168, 3, (19, 1, 3, 4), 0) := rfl
theorem s93_5 {c : Nat → List AV → SS → Option Out} {l0 l1 l2 : Option AV} {a0 : Int32} {j t : Nat} {L2 : List (Nat × AV)} {S : SS} : ev c 93 5 [l0, l1, l2] L2 [aI a0, aR (4, j, t)] S = ck (c 19 [aR (4, j, t), aI a0] S) (fun v S' => ev c 93 8 [l0, l1, l2] L2 (v.toList ++ []) S') := ev_call i93_5 rfl
theorem i93_8 : insAt 93 8 = some (.istore_n 2, 1, (0, 0, 0, 0), 0) := rfl
theorem s93_8 {c : Nat → List AV → SS → Option Out} {l0 l1 l2 : Option AV} {x : Int32} {L2 : List (Nat × AV)} {St : List AV} {S : SS} : ev c 93 8 [l0, l1, l2] L2 (aI x :: St) S = ev c 93 9 [l0, l1, some (aI x)] (kil L2 2) St S := ev_go i93_8 rfl
theorem i93_9 : insAt 93 9 = some (.iload_n 2, 1, (0, 0, 0, 0), 0) := rfl
theorem s93_9 {c : Nat → List AV → SS → Option Out} {l0 l1 : Option AV} {x : Int32} {L2 : List (Nat × AV)} {St : List AV} {S : SS} : ev c 93 9 [l0, l1, some (aI x)] L2 St S = ev c 93 10 [l0, l1, some (aI x)] L2 (aI x :: St) S := ev_go i93_9 rfl
theorem i93_10 : insAt 93 10 = some (.iconst (-1), 1, (0, 0, 0, 0), 0) := rfl
theorem s93_10 {c : Nat → List AV → SS → Option Out} {l0 l1 l2 : Option AV} {L2 : List (Nat × AV)} {St : List AV} {S : SS} : ev c 93 10 [l0, l1, l2] L2 St S = ev c 93 11 [l0, l1, l2] L2 (aI (-1) :: St) S := ev_go i93_10 rfl
theorem i93_11 : insAt 93 11 = some (.if_icmp .ne 14, 3, (0, 0, 0, 0), 0) := rfl
theorem s93_11 {c : Nat → List AV → SS → Option Out} {l0 l1 l2 : Option AV} {x y : Int32} {L2 : List (Nat × AV)} {St : List AV} {S : SS} : ev c 93 11 [l0, l1, l2] L2 (aI y :: aI x :: St) S = if x = y then ev c 93 14 [l0, l1, l2] L2 St S else ev c 93 25 [l0, l1, l2] L2 St S := (ev_br i93_11 rfl).trans (ite_not _ _ _)
theorem i93_14 : insAt 93 14 = some (.new 259, 3, (3, 0, 1, 0), 0) := rfl
theorem s93_14 {c : Nat → List AV → SS → Option Out} {l0 l1 l2 : Option AV} {L2 : List (Nat × AV)} {S : SS} : ev c 93 14 [l0, l1, l2] L2 [] S = some (.inr "java/util/NoSuchElementException", bump S 1 6) := ev_end i93_14 rfl
theorem i93_17 : insAt 93 17 = some (.dup, 1, (0, 0, 0, 0), 0) := rfl
theorem s93_17 {c : Nat → List AV → SS → Option Out} {l0 l1 l2 : Option AV} {x : OId} {L2 : List (Nat × AV)} {St : List AV} {S : SS} : ev c 93 17 [l0, l1, l2] L2 (aR x :: St) S = ev c 93 18 [l0, l1, l2] L2 (aR x :: aR x :: St) S := ev_go i93_17 rfl
theorem i93_25 : insAt 93 25 = some (.iload_n 2, 1, (0, 0, 0, 0), 0) := rfl
theorem s93_25 {c : Nat → List AV → SS → Option Out} {l0 l1 : Option AV} {x : Int32} {L2 : List (Nat × AV)} {St : List AV} {S : SS} : ev c 93 25 [l0, l1, some (aI x)] L2 St S = ev c 93 26 [l0, l1, some (aI x)] L2 (aI x :: St) S := ev_go i93_25 rfl
theorem i93_26 : insAt 93 26 = some (.ireturn, 1, (0, 0, 0, 0), 0) := rfl
theorem s93_26 {c : Nat → List AV → SS → Option Out} {l0 l1 l2 : Option AV} {x : Int32} {L2 : List (Nat × AV)} {St : List AV} {S : SS} : ev c 93 26 [l0, l1, l2] L2 [aI x] S = some (.inl (some (aI x)), S) := ev_end i93_26 rfl
theorem m93 {d : Nat} {o : OId} {a0 : Int32} {S : SS} : evm (d + 1) 93 [aR o, aI a0] S = ev (evm d) 93 0 [some (aR o), some (aI a0), none] [] [] S := evm_s (n := 3) rfl (Nat.le_of_ble_eq_true rfl) rfl rfl
/-! FrequencyOffice.renew(II)I -/
theorem i95_0 : insAt 95 0 = some (.aload_n 0, 1, (0, 0, 0, 0), 0) := rfl
theorem s95_0 {c : Nat → List AV → SS → Option Out} {l1 l2 l3 : Option AV} {o : OId} {L2 : List (Nat × AV)} {St : List AV} {S : SS} : ev c 95 0 [some (aR o), l1, l2, l3] L2 St S = ev c 95 1 [some (aR o), l1, l2, l3] L2 (aR o :: St) S := ev_go i95_0 rfl
theorem i95_1 : insAt 95 1 = some (.getfield 10, 3, (11, 0, 0, 0), 0) := rfl
theorem s95_1 {c : Nat → List AV → SS → Option Out} {l0 l1 l2 l3 : Option AV} {j t : Nat} {L2 : List (Nat × AV)} {St : List AV} {S : SS} : ev c 95 1 [l0, l1, l2, l3] L2 (aR (11, j, t) :: St) S = ev c 95 4 [l0, l1, l2, l3] L2 (S.2.2.1 (11, j, t) 0 :: St) S := ev_go i95_1 rfl
theorem i95_4 : insAt 95 4 = some (.aload_n 0, 1, (0, 0, 0, 0), 0) := rfl
theorem s95_4 {c : Nat → List AV → SS → Option Out} {l1 l2 l3 : Option AV} {o : OId} {L2 : List (Nat × AV)} {St : List AV} {S : SS} : ev c 95 4 [some (aR o), l1, l2, l3] L2 St S = ev c 95 5 [some (aR o), l1, l2, l3] L2 (aR o :: St) S := ev_go i95_4 rfl
theorem i95_5 : insAt 95 5 = some (.iload_n 1, 1, (0, 0, 0, 0), 0) := rfl
theorem s95_5 {c : Nat → List AV → SS → Option Out} {l0 l2 l3 : Option AV} {x : Int32} {L2 : List (Nat × AV)} {St : List AV} {S : SS} : ev c 95 5 [l0, some (aI x), l2, l3] L2 St S = ev c 95 6 [l0, some (aI x), l2, l3] L2 (aI x :: St) S := ev_go i95_5 rfl
theorem i95_6 : insAt 95 6 = some (.invokevirtual 134, 3, (93, 1, 2, 11), 0) := rfl
theorem s95_6 {c : Nat → List AV → SS → Option Out} {l0 l1 l2 l3 : Option AV} {t0 : AV} {a0 : Int32} {j t : Nat} {L2 : List (Nat × AV)} {S : SS} : ev c 95 6 [l0, l1, l2, l3] L2 [aI a0, aR (11, j, t), t0] S = ck (c 93 [aR (11, j, t), aI a0] S) (fun v S' => ev c 95 9 [l0, l1, l2, l3] L2 (v.toList ++ [t0]) S') := ev_call i95_6 rfl
theorem i95_9 : insAt 95 9 = some (.invokevirtual 125, 3, (17, 1, 3, 4), 0) := rfl
theorem s95_9 {c : Nat → List AV → SS → Option Out} {l0 l1 l2 l3 : Option AV} {a0 : Int32} {j t : Nat} {L2 : List (Nat × AV)} {S : SS} : ev c 95 9 [l0, l1, l2, l3] L2 [aI a0, aR (4, j, t)] S = ck (c 17 [aR (4, j, t), aI a0] S) (fun v S' => ev c 95 12 [l0, l1, l2, l3] L2 (v.toList ++ []) S') := ev_call i95_9 rfl
theorem i95_12 : insAt 95 12 = some (.astore_n 3, 1, (0, 0, 0, 0), 0) := rfl
theorem s95_12 {c : Nat → List AV → SS → Option Out} {l0 l1 l2 l3 : Option AV} {o : OId} {L2 : List (Nat × AV)} {St : List AV} {S : SS} : ev c 95 12 [l0, l1, l2, l3] L2 (aR o :: St) S = ev c 95 13 [l0, l1, l2, some (aR o)] (kil L2 3) St S := ev_go i95_12 rfl
theorem i95_13 : insAt 95 13 = some (.iload_n 2, 1, (0, 0, 0, 0), 0) := rfl
theorem s95_13 {c : Nat → List AV → SS → Option Out} {l0 l1 l3 : Option AV} {x : Int32} {L2 : List (Nat × AV)} {St : List AV} {S : SS} : ev c 95 13 [l0, l1, some (aI x), l3] L2 St S = ev c 95 14 [l0, l1, some (aI x), l3] L2 (aI x :: St) S := ev_go i95_13 rfl
theorem i95_14 : insAt 95 14 = some (.iconst 1, 1, (0, 0, 0, 0), 0) := rfl
theorem s95_14 {c : Nat → List AV → SS → Option Out} {l0 l1 l2 l3 : Option AV} {L2 : List (Nat × AV)} {St : List AV} {S : SS} : ev c 95 14 [l0, l1, l2, l3] L2 St S = ev c 95 15 [l0, l1, l2, l3] L2 (aI 1 :: St) S := ev_go i95_14 rfl
theorem i95_15 : insAt 95 15 = some (.sipush 365, 3, (0, 0, 0, 0), 0) := rfl
theorem s95_15 {c : Nat → List AV → SS → Option Out} {l0 l1 l2 l3 : Option AV} {L2 : List (Nat × AV)} {St : List AV} {S : SS} : ev c 95 15 [l0, l1, l2, l3] L2 St S = ev c 95 18 [l0, l1, l2, l3] L2 (aI 365 :: St) S := ev_go i95_15 rfl
theorem i95_18 : insAt 95 18 = some (.invokestatic 56, 3, (61, 3, 0, 0), 0) := rfl
theorem s95_18 {c : Nat → List AV → SS → Option Out} {l0 l1 l2 l3 : Option AV} {a0 : Int32} {a1 : Int32} {a2 : Int32} {L2 : List (Nat × AV)} {S : SS} : ev c 95 18 [l0, l1, l2, l3] L2 [aI a2, aI a1, aI a0] S = ck (c 61 [aI a0, aI a1, aI a2] S) (fun v S' => ev c 95 21 [l0, l1, l2, l3] L2 (v.toList ++ []) S') := ev_call i95_18 rfl
theorem i95_21 : insAt 95 21 = some (.aload_n 3, 1, (0, 0, 0, 0), 0) := rfl
theorem s95_21 {c : Nat → List AV → SS → Option Out} {l0 l1 l2 : Option AV} {o : OId} {L2 : List (Nat × AV)} {St : List AV} {S : SS} : ev c 95 21 [l0, l1, l2, some (aR o)] L2 St S = ev c 95 22 [l0, l1, l2, some (aR o)] L2 (aR o :: St) S := ev_go i95_21 rfl
theorem i95_22 : insAt 95 22 = some (.invokestatic 146, 3, (96, 1, 0, 0), 0) := rfl
theorem s95_22 {c : Nat → List AV → SS → Option Out} {l0 l1 l2 l3 : Option AV} {a0 : OId} {L2 : List (Nat × AV)} {S : SS} : ev c 95 22 [l0, l1, l2, l3] L2 [aR a0] S = ck (c 96 [aR a0] S) (fun v S' => ev c 95 25 [l0, l1, l2, l3] L2 (v.toList ++ []) S') := ev_call i95_22 rfl
theorem i95_25 : insAt 95 25 = some (.aload_n 3, 1, (0, 0, 0, 0), 0) := rfl
theorem s95_25 {c : Nat → List AV → SS → Option Out} {l0 l1 l2 : Option AV} {o : OId} {L2 : List (Nat × AV)} {St : List AV} {S : SS} : ev c 95 25 [l0, l1, l2, some (aR o)] L2 St S = ev c 95 26 [l0, l1, l2, some (aR o)] L2 (aR o :: St) S := ev_go i95_25 rfl
theorem i95_26 : insAt 95 26 = some (.getfield 143, 3, (10, 4, 1, 0), 0) := rfl
theorem s95_26 {c : Nat → List AV → SS → Option Out} {l0 l1 l2 l3 : Option AV} {j t : Nat} {L2 : List (Nat × AV)} {St : List AV} {S : SS} : ev c 95 26 [l0, l1, l2, l3] L2 (aR (10, j, t) :: St) S = ev c 95 29 [l0, l1, l2, l3] L2 (aI (S.1 (10, j, t) 4) :: St) S := ev_go i95_26 rfl
theorem i95_29 : insAt 95 29 = some (.iload_n 2, 1, (0, 0, 0, 0), 0) := rfl
theorem s95_29 {c : Nat → List AV → SS → Option Out} {l0 l1 l3 : Option AV} {x : Int32} {L2 : List (Nat × AV)} {St : List AV} {S : SS} : ev c 95 29 [l0, l1, some (aI x), l3] L2 St S = ev c 95 30 [l0, l1, some (aI x), l3] L2 (aI x :: St) S := ev_go i95_29 rfl
theorem i95_30 : insAt 95 30 = some (.iadd, 1, (0, 0, 0, 0), 0) := rfl
theorem s95_30 {c : Nat → List AV → SS → Option Out} {l0 l1 l2 l3 : Option AV} {x y : Int32} {L2 : List (Nat × AV)} {St : List AV} {S : SS} : ev c 95 30 [l0, l1, l2, l3] L2 (aI y :: aI x :: St) S = ev c 95 31 [l0, l1, l2, l3] L2 (aI (x + y) :: St) S := ev_go i95_30 rfl
theorem i95_31 : insAt 95 31 = some (.aload_n 0, 1, (0, 0, 0, 0), 0) := rfl
theorem s95_31 {c : Nat → List AV → SS → Option Out} {l1 l2 l3 : Option AV} {o : OId} {L2 : List (Nat × AV)} {St : List AV} {S : SS} : ev c 95 31 [some (aR o), l1, l2, l3] L2 St S = ev c 95 32 [some (aR o), l1, l2, l3] L2 (aR o :: St) S := ev_go i95_31 rfl
theorem i95_32 : insAt 95 32 = some (.getfield 10, 3, (11, 0, 0, 0), 0) := rfl
theorem s95_32 {c : Nat → List AV → SS → Option Out} {l0 l1 l2 l3 : Option AV} {j t : Nat} {L2 : List (Nat × AV)} {St : List AV} {S : SS} : ev c 95 32 [l0, l1, l2, l3] L2 (aR (11, j, t) :: St) S = ev c 95 35 [l0, l1, l2, l3] L2 (S.2.2.1 (11, j, t) 0 :: St) S := ev_go i95_32 rfl
theorem i95_35 : insAt 95 35 = some (.getfield 98, 3, (4, 3, 1, 0), 0) := rfl
theorem s95_35 {c : Nat → List AV → SS → Option Out} {l0 l1 l2 l3 : Option AV} {j t : Nat} {L2 : List (Nat × AV)} {St : List AV} {S : SS} : ev c 95 35 [l0, l1, l2, l3] L2 (aR (4, j, t) :: St) S = ev c 95 38 [l0, l1, l2, l3] L2 (aI (S.1 (4, j, t) 3) :: St) S := ev_go i95_35 rfl
theorem i95_38 : insAt 95 38 = some (.sipush 365, 3, (0, 0, 0, 0), 0) := rfl
theorem s95_38 {c : Nat → List AV → SS → Option Out} {l0 l1 l2 l3 : Option AV} {L2 : List (Nat × AV)} {St : List AV} {S : SS} : ev c 95 38 [l0, l1, l2, l3] L2 St S = ev c 95 41 [l0, l1, l2, l3] L2 (aI 365 :: St) S := ev_go i95_38 rfl
theorem i95_41 : insAt 95 41 = some (.iadd, 1, (0, 0, 0, 0), 0) := rfl
theorem s95_41 {c : Nat → List AV → SS → Option Out} {l0 l1 l2 l3 : Option AV} {x y : Int32} {L2 : List (Nat × AV)} {St : List AV} {S : SS} : ev c 95 41 [l0, l1, l2, l3] L2 (aI y :: aI x :: St) S = ev c 95 42 [l0, l1, l2, l3] L2 (aI (x + y) :: St) S := ev_go i95_41 rfl
theorem i95_42 : insAt 95 42 = some (.if_icmp .le 13, 3, (0, 0, 0, 0), 0) := rfl
theorem s95_42 {c : Nat → List AV → SS → Option Out} {l0 l1 l2 l3 : Option AV} {x y : Int32} {L2 : List (Nat × AV)} {St : List AV} {S : SS} : ev c 95 42 [l0, l1, l2, l3] L2 (aI y :: aI x :: St) S = if x ≤ y then ev c 95 55 [l0, l1, l2, l3] L2 St S else ev c 95 45 [l0, l1, l2, l3] L2 St S := ev_br i95_42 rfl
theorem i95_45 : insAt 95 45 = some (.new 64, 3, (1, 0, 1, 0), 0) := rfl
theorem s95_45 {c : Nat → List AV → SS → Option Out} {l0 l1 l2 l3 : Option AV} {L2 : List (Nat × AV)} {S : SS} : ev c 95 45 [l0, l1, l2, l3] L2 [] S = some (.inr "java/lang/IllegalStateException", bump S 1 6) := ev_end i95_45 rfl
theorem i95_48 : insAt 95 48 = some (.dup, 1, (0, 0, 0, 0), 0) := rfl
theorem s95_48 {c : Nat → List AV → SS → Option Out} {l0 l1 l2 l3 : Option AV} {x : OId} {L2 : List (Nat × AV)} {St : List AV} {S : SS} : ev c 95 48 [l0, l1, l2, l3] L2 (aR x :: St) S = ev c 95 49 [l0, l1, l2, l3] L2 (aR x :: aR x :: St) S := ev_go i95_48 rfl
theorem i95_55 : insAt 95 55 = some (.aload_n 0, 1, (0, 0, 0, 0), 0) := rfl
theorem s95_55 {c : Nat → List AV → SS → Option Out} {l1 l2 l3 : Option AV} {o : OId} {L2 : List (Nat × AV)} {St : List AV} {S : SS} : ev c 95 55 [some (aR o), l1, l2, l3] L2 St S = ev c 95 56 [some (aR o), l1, l2, l3] L2 (aR o :: St) S := ev_go i95_55 rfl
theorem i95_56 : insAt 95 56 = some (.getfield 19, 3, (11, 1, 0, 0), 0) := rfl
theorem s95_56 {c : Nat → List AV → SS → Option Out} {l0 l1 l2 l3 : Option AV} {j t : Nat} {L2 : List (Nat × AV)} {St : List AV} {S : SS} : ev c 95 56 [l0, l1, l2, l3] L2 (aR (11, j, t) :: St) S = ev c 95 59 [l0, l1, l2, l3] L2 (S.2.2.1 (11, j, t) 1 :: St) S := ev_go i95_56 rfl
theorem i95_59 : insAt 95 59 = some (.aload_n 0, 1, (0, 0, 0, 0), 0) := rfl
theorem s95_59 {c : Nat → List AV → SS → Option Out} {l1 l2 l3 : Option AV} {o : OId} {L2 : List (Nat × AV)} {St : List AV} {S : SS} : ev c 95 59 [some (aR o), l1, l2, l3] L2 St S = ev c 95 60 [some (aR o), l1, l2, l3] L2 (aR o :: St) S := ev_go i95_59 rfl
theorem i95_60 : insAt 95 60 = some (.getfield 10, 3, (11, 0, 0, 0), 0) := rfl
theorem s95_60 {c : Nat → List AV → SS → Option Out} {l0 l1 l2 l3 : Option AV} {j t : Nat} {L2 : List (Nat × AV)} {St : List AV} {S : SS} : ev c 95 60 [l0, l1, l2, l3] L2 (aR (11, j, t) :: St) S = ev c 95 63 [l0, l1, l2, l3] L2 (S.2.2.1 (11, j, t) 0 :: St) S := ev_go i95_60 rfl
theorem i95_63 : insAt 95 63 = some (.invokevirtual 71, 3, (62, 1, 3, 5), 0) := rfl
theorem s95_63 {c : Nat → List AV → SS → Option Out} {l0 l1 l2 l3 : Option AV} {a0 : OId} {j t : Nat} {L2 : List (Nat × AV)} {S : SS} : ev c 95 63 [l0, l1, l2, l3] L2 [aR a0, aR (5, j, t)] S = ck (c 62 [aR (5, j, t), aR a0] S) (fun v S' => ev c 95 66 [l0, l1, l2, l3] L2 (v.toList ++ []) S') := ev_call i95_63 rfl
theorem i95_66 : insAt 95 66 = some (.aload_n 3, 1, (0, 0, 0, 0), 0) := rfl
theorem s95_66 {c : Nat → List AV → SS → Option Out} {l0 l1 l2 : Option AV} {o : OId} {L2 : List (Nat × AV)} {St : List AV} {S : SS} : ev c 95 66 [l0, l1, l2, some (aR o)] L2 St S = ev c 95 67 [l0, l1, l2, some (aR o)] L2 (aR o :: St) S := ev_go i95_66 rfl
theorem i95_67 : insAt 95 67 = some (.dup, 1, (0, 0, 0, 0), 0) := rfl
theorem s95_67 {c : Nat → List AV → SS → Option Out} {l0 l1 l2 l3 : Option AV} {x : OId} {L2 : List (Nat × AV)} {St : List AV} {S : SS} : ev c 95 67 [l0, l1, l2, l3] L2 (aR x :: St) S = ev c 95 68 [l0, l1, l2, l3] L2 (aR x :: aR x :: St) S := ev_go i95_67 rfl
theorem i95_68 : insAt 95 68 = some (.getfield 143, 3, (10, 4, 1, 0), 0) := rfl
theorem s95_68 {c : Nat → List AV → SS → Option Out} {l0 l1 l2 l3 : Option AV} {j t : Nat} {L2 : List (Nat × AV)} {St : List AV} {S : SS} : ev c 95 68 [l0, l1, l2, l3] L2 (aR (10, j, t) :: St) S = ev c 95 71 [l0, l1, l2, l3] L2 (aI (S.1 (10, j, t) 4) :: St) S := ev_go i95_68 rfl
theorem i95_71 : insAt 95 71 = some (.iload_n 2, 1, (0, 0, 0, 0), 0) := rfl
theorem s95_71 {c : Nat → List AV → SS → Option Out} {l0 l1 l3 : Option AV} {x : Int32} {L2 : List (Nat × AV)} {St : List AV} {S : SS} : ev c 95 71 [l0, l1, some (aI x), l3] L2 St S = ev c 95 72 [l0, l1, some (aI x), l3] L2 (aI x :: St) S := ev_go i95_71 rfl
theorem i95_72 : insAt 95 72 = some (.iadd, 1, (0, 0, 0, 0), 0) := rfl
theorem s95_72 {c : Nat → List AV → SS → Option Out} {l0 l1 l2 l3 : Option AV} {x y : Int32} {L2 : List (Nat × AV)} {St : List AV} {S : SS} : ev c 95 72 [l0, l1, l2, l3] L2 (aI y :: aI x :: St) S = ev c 95 73 [l0, l1, l2, l3] L2 (aI (x + y) :: St) S := ev_go i95_72 rfl
theorem i95_73 : insAt 95 73 = some (.putfield 143, 3, (10, 4, 1, 0), 0) := rfl
theorem s95_73 {c : Nat → List AV → SS → Option Out} {l0 l1 l2 l3 : Option AV} {j t : Nat} {x : Int32} {L2 : List (Nat × AV)} {St : List AV} {S : SS} : ev c 95 73 [l0, l1, l2, l3] L2 (aI x :: aR (10, j, t) :: St) S = ev c 95 76 [l0, l1, l2, l3] L2 St (setI S.1 (10, j, t) 4 x, S.2) := ev_go i95_73 rfl
theorem i95_76 : insAt 95 76 = some (.aload_n 3, 1, (0, 0, 0, 0), 0) := rfl
theorem s95_76 {c : Nat → List AV → SS → Option Out} {l0 l1 l2 : Option AV} {o : OId} {L2 : List (Nat × AV)} {St : List AV} {S : SS} : ev c 95 76 [l0, l1, l2, some (aR o)] L2 St S = ev c 95 77 [l0, l1, l2, some (aR o)] L2 (aR o :: St) S := ev_go i95_76 rfl
theorem i95_77 : insAt 95 77 = some (.getfield 143, 3, (10, 4, 1, 0), 0) := rfl
theorem s95_77 {c : Nat → List AV → SS → Option Out} {l0 l1 l2 l3 : Option AV} {j t : Nat} {L2 : List (Nat × AV)} {St : List AV} {S : SS} : ev c 95 77 [l0, l1, l2, l3] L2 (aR (10, j, t) :: St) S = ev c 95 80 [l0, l1, l2, l3] L2 (aI (S.1 (10, j, t) 4) :: St) S := ev_go i95_77 rfl
theorem i95_80 : insAt 95 80 = some (.ireturn, 1, (0, 0, 0, 0), 0) := rfl
theorem s95_80 {c : Nat → List AV → SS → Option Out} {l0 l1 l2 l3 : Option AV} {x : Int32} {L2 : List (Nat × AV)} {St : List AV} {S : SS} : ev c 95 80 [l0, l1, l2, l3] L2 [aI x] S = some (.inl (some (aI x)), S) := ev_end i95_80 rfl
theorem m95 {d : Nat} {o : OId} {a0 : Int32} {a1 : Int32} {S : SS} : evm (d + 1) 95 [aR o, aI a0, aI a1] S = ev (evm d) 95 0 [some (aR o), some (aI a0), some (aI a1), none] [] [] S := evm_s (n := 4) rfl (Nat.le_of_ble_eq_true rfl) rfl rfl
/-! FrequencyOffice.checkLicensed(LFrequencyOffice$Station;)V -/
theorem i96_0 : insAt 96 0 = some (.aload_n 0, 1, (0, 0, 0, 0), 0) := rfl
theorem s96_0 {c : Nat → List AV → SS → Option Out} {o : OId} {L2 : List (Nat × AV)} {St : List AV} {S : SS} : ev c 96 0 [some (aR o)] L2 St S = ev c 96 1 [some (aR o)] L2 (aR o :: St) S := ev_go i96_0 rfl
theorem i96_1 : insAt 96 1 = some (.getfield 138, 3, (10, 5, 1, 0), 0) := rfl
theorem s96_1 {c : Nat → List AV → SS → Option Out} {l0 : Option AV} {j t : Nat} {L2 : List (Nat × AV)} {St : List AV} {S : SS} : ev c 96 1 [l0] L2 (aR (10, j, t) :: St) S = ev c 96 4 [l0] L2 (aI (bb (S.1 (10, j, t) 5)) :: St) S := ev_go i96_1 rfl
theorem i96_4 : insAt 96 4 = some (.ifCond .eq 14, 3, (0, 0, 0, 0), 0) := rfl
theorem s96_4 {c : Nat → List AV → SS → Option Out} {l0 : Option AV} {x : Int32} {L2 : List (Nat × AV)} {St : List AV} {S : SS} : ev c 96 4 [l0] L2 (aI x :: St) S = if x = 0 then ev c 96 18 [l0] L2 St S else ev c 96 7 [l0] L2 St S := ev_br i96_4 rfl
theorem i96_7 : insAt 96 7 = some (.new 64, 3, (1, 0, 1, 0), 0) := rfl
theorem s96_7 {c : Nat → List AV → SS → Option Out} {l0 : Option AV} {L2 : List (Nat × AV)} {S : SS} : ev c 96 7 [l0] L2 [] S = some (.inr "java/lang/IllegalStateException", bump S 1 6) := ev_end i96_7 rfl
theorem i96_10 : insAt 96 10 = some (.dup, 1, (0, 0, 0, 0), 0) := rfl
theorem s96_10 {c : Nat → List AV → SS → Option Out} {l0 : Option AV} {x : OId} {L2 : List (Nat × AV)} {St : List AV} {S : SS} : ev c 96 10 [l0] L2 (aR x :: St) S = ev c 96 11 [l0] L2 (aR x :: aR x :: St) S := ev_go i96_10 rfl
theorem i96_18 : insAt 96 18 = some (.return_, 1, (0, 0, 0, 0), 0) := rfl
theorem s96_18 {c : Nat → List AV → SS → Option Out} {l0 : Option AV} {L2 : List (Nat × AV)} {St : List AV} {S : SS} : ev c 96 18 [l0] L2 [] S = some (.inl none, S) := ev_end i96_18 rfl
theorem m96 {d : Nat} {a0 : OId} {S : SS} : evm (d + 1) 96 [aR a0] S = ev (evm d) 96 0 [some (aR a0)] [] [] S := evm_s (n := 1) rfl (Nat.le_of_ble_eq_true rfl) rfl rfl
/-! FrequencyOffice.close(I)I -/
theorem i98_0 : insAt 98 0 = some (.aload_n 0, 1, (0, 0, 0, 0), 0) := rfl
theorem s98_0 {c : Nat → List AV → SS → Option Out} {l1 l2 : Option AV} {o : OId} {L2 : List (Nat × AV)} {St : List AV} {S : SS} : ev c 98 0 [some (aR o), l1, l2] L2 St S = ev c 98 1 [some (aR o), l1, l2] L2 (aR o :: St) S := ev_go i98_0 rfl
theorem i98_1 : insAt 98 1 = some (.iload_n 1, 1, (0, 0, 0, 0), 0) := rfl
theorem s98_1 {c : Nat → List AV → SS → Option Out} {l0 l2 : Option AV} {x : Int32} {L2 : List (Nat × AV)} {St : List AV} {S : SS} : ev c 98 1 [l0, some (aI x), l2] L2 St S = ev c 98 2 [l0, some (aI x), l2] L2 (aI x :: St) S := ev_go i98_1 rfl
theorem i98_2 : insAt 98 2 = some (.invokevirtual 134, 3, (93, 1, 2, 11), 0) := rfl
theorem s98_2 {c : Nat → List AV → SS → Option Out} {l0 l1 l2 : Option AV} {a0 : Int32} {j t : Nat} {L2 : List (Nat × AV)} {S : SS} : ev c 98 2 [l0, l1, l2] L2 [aI a0, aR (11, j, t)] S = ck (c 93 [aR (11, j, t), aI a0] S) (fun v S' => ev c 98 5 [l0, l1, l2] L2 (v.toList ++ []) S') := ev_call i98_2 rfl
theorem i98_5 : insAt 98 5 = some (.istore_n 2, 1, (0, 0, 0, 0), 0) := rfl
theorem s98_5 {c : Nat → List AV → SS → Option Out} {l0 l1 l2 : Option AV} {x : Int32} {L2 : List (Nat × AV)} {St : List AV} {S : SS} : ev c 98 5 [l0, l1, l2] L2 (aI x :: St) S = ev c 98 6 [l0, l1, some (aI x)] (kil L2 2) St S := ev_go i98_5 rfl
theorem i98_6 : insAt 98 6 = some (.aload_n 0, 1, (0, 0, 0, 0), 0) := rfl
theorem s98_6 {c : Nat → List AV → SS → Option Out} {l1 l2 : Option AV} {o : OId} {L2 : List (Nat × AV)} {St : List AV} {S : SS} : ev c 98 6 [some (aR o), l1, l2] L2 St S = ev c 98 7 [some (aR o), l1, l2] L2 (aR o :: St) S := ev_go i98_6 rfl
theorem i98_7 : insAt 98 7 = some (.getfield 19, 3, (11, 1, 0, 0), 0) := rfl
theorem s98_7 {c : Nat → List AV → SS → Option Out} {l0 l1 l2 : Option AV} {j t : Nat} {L2 : List (Nat × AV)} {St : List AV} {S : SS} : ev c 98 7 [l0, l1, l2] L2 (aR (11, j, t) :: St) S = ev c 98 10 [l0, l1, l2] L2 (S.2.2.1 (11, j, t) 1 :: St) S := ev_go i98_7 rfl
theorem i98_10 : insAt 98 10 = some (.aload_n 0, 1, (0, 0, 0, 0), 0) := rfl
theorem s98_10 {c : Nat → List AV → SS → Option Out} {l1 l2 : Option AV} {o : OId} {L2 : List (Nat × AV)} {St : List AV} {S : SS} : ev c 98 10 [some (aR o), l1, l2] L2 St S = ev c 98 11 [some (aR o), l1, l2] L2 (aR o :: St) S := ev_go i98_10 rfl
theorem i98_11 : insAt 98 11 = some (.getfield 10, 3, (11, 0, 0, 0), 0) := rfl
theorem s98_11 {c : Nat → List AV → SS → Option Out} {l0 l1 l2 : Option AV} {j t : Nat} {L2 : List (Nat × AV)} {St : List AV} {S : SS} : ev c 98 11 [l0, l1, l2] L2 (aR (11, j, t) :: St) S = ev c 98 14 [l0, l1, l2] L2 (S.2.2.1 (11, j, t) 0 :: St) S := ev_go i98_11 rfl
theorem i98_14 : insAt 98 14 = some (.invokevirtual 71, 3, (62, 1, 3, 5), 0) := rfl
theorem s98_14 {c : Nat → List AV → SS → Option Out} {l0 l1 l2 : Option AV} {a0 : OId} {j t : Nat} {L2 : List (Nat × AV)} {S : SS} : ev c 98 14 [l0, l1, l2] L2 [aR a0, aR (5, j, t)] S = ck (c 62 [aR (5, j, t), aR a0] S) (fun v S' => ev c 98 17 [l0, l1, l2] L2 (v.toList ++ []) S') := ev_call i98_14 rfl
theorem i98_17 : insAt 98 17 = some (.aload_n 0, 1, (0, 0, 0, 0), 0) := rfl
theorem s98_17 {c : Nat → List AV → SS → Option Out} {l1 l2 : Option AV} {o : OId} {L2 : List (Nat × AV)} {St : List AV} {S : SS} : ev c 98 17 [some (aR o), l1, l2] L2 St S = ev c 98 18 [some (aR o), l1, l2] L2 (aR o :: St) S := ev_go i98_17 rfl
theorem i98_18 : insAt 98 18 = some (.getfield 10, 3, (11, 0, 0, 0), 0) := rfl
theorem s98_18 {c : Nat → List AV → SS → Option Out} {l0 l1 l2 : Option AV} {j t : Nat} {L2 : List (Nat × AV)} {St : List AV} {S : SS} : ev c 98 18 [l0, l1, l2] L2 (aR (11, j, t) :: St) S = ev c 98 21 [l0, l1, l2] L2 (S.2.2.1 (11, j, t) 0 :: St) S := ev_go i98_18 rfl
theorem i98_21 : insAt 98 21 = some (.iload_n 2, 1, (0, 0, 0, 0), 0) := rfl
theorem s98_21 {c : Nat → List AV → SS → Option Out} {l0 l1 : Option AV} {x : Int32} {L2 : List (Nat × AV)} {St : List AV} {S : SS} : ev c 98 21 [l0, l1, some (aI x)] L2 St S = ev c 98 22 [l0, l1, some (aI x)] L2 (aI x :: St) S := ev_go i98_21 rfl
theorem i98_22 : insAt 98 22 = some (.invokevirtual 152, 3, (84, 1, 3, 4), 0) := rfl
theorem s98_22 {c : Nat → List AV → SS → Option Out} {l0 l1 l2 : Option AV} {a0 : Int32} {j t : Nat} {L2 : List (Nat × AV)} {S : SS} : ev c 98 22 [l0, l1, l2] L2 [aI a0, aR (4, j, t)] S = ck (c 84 [aR (4, j, t), aI a0] S) (fun v S' => ev c 98 25 [l0, l1, l2] L2 (v.toList ++ []) S') := ev_call i98_22 rfl
theorem i98_25 : insAt 98 25 = some (.aload_n 0, 1, (0, 0, 0, 0), 0) := rfl
theorem s98_25 {c : Nat → List AV → SS → Option Out} {l1 l2 : Option AV} {o : OId} {L2 : List (Nat × AV)} {St : List AV} {S : SS} : ev c 98 25 [some (aR o), l1, l2] L2 St S = ev c 98 26 [some (aR o), l1, l2] L2 (aR o :: St) S := ev_go i98_25 rfl
theorem i98_26 : insAt 98 26 = some (.getfield 10, 3, (11, 0, 0, 0), 0) := rfl
theorem s98_26 {c : Nat → List AV → SS → Option Out} {l0 l1 l2 : Option AV} {j t : Nat} {L2 : List (Nat × AV)} {St : List AV} {S : SS} : ev c 98 26 [l0, l1, l2] L2 (aR (11, j, t) :: St) S = ev c 98 29 [l0, l1, l2] L2 (S.2.2.1 (11, j, t) 0 :: St) S := ev_go i98_26 rfl
theorem i98_29 : insAt 98 29 = some (.getfield 60, 3, (4, 7, 1, 0), 0) := rfl
theorem s98_29 {c : Nat → List AV → SS → Option Out} {l0 l1 l2 : Option AV} {j t : Nat} {L2 : List (Nat × AV)} {St : List AV} {S : SS} : ev c 98 29 [l0, l1, l2] L2 (aR (4, j, t) :: St) S = ev c 98 32 [l0, l1, l2] L2 (aI (S.1 (4, j, t) 7) :: St) S := ev_go i98_29 rfl
theorem i98_32 : insAt 98 32 = some (.ireturn, 1, (0, 0, 0, 0), 0) := rfl
theorem s98_32 {c : Nat → List AV → SS → Option Out} {l0 l1 l2 : Option AV} {x : Int32} {L2 : List (Nat × AV)} {St : List AV} {S : SS} : ev c 98 32 [l0, l1, l2] L2 [aI x] S = some (.inl (some (aI x)), S) := ev_end i98_32 rfl
theorem m98 {d : Nat} {o : OId} {a0 : Int32} {S : SS} : evm (d + 1) 98 [aR o, aI a0] S = ev (evm d) 98 0 [some (aR o), some (aI a0), none] [] [] S := evm_s (n := 3) rfl (Nat.le_of_ble_eq_true rfl) rfl rfl
/-! FrequencyOffice.pass(I)I -/
theorem i100_0 : insAt 100 0 = some (.iload_n 1, 1, (0, 0, 0, 0), 0) := rfl
theorem s100_0 {c : Nat → List AV → SS → Option Out} {l0 l2 l3 : Option AV} {x : Int32} {L2 : List (Nat × AV)} {St : List AV} {S : SS} : ev c 100 0 [l0, some (aI x), l2, l3] L2 St S = ev c 100 1 [l0, some (aI x), l2, l3] L2 (aI x :: St) S := ev_go i100_0 rfl
theorem i100_1 : insAt 100 1 = some (.iconst 1, 1, (0, 0, 0, 0), 0) := rfl
theorem s100_1 {c : Nat → List AV → SS → Option Out} {l0 l1 l2 l3 : Option AV} {L2 : List (Nat × AV)} {St : List AV} {S : SS} : ev c 100 1 [l0, l1, l2, l3] L2 St S = ev c 100 2 [l0, l1, l2, l3] L2 (aI 1 :: St) S := ev_go i100_1 rfl
theorem i100_2 : insAt 100 2 = some (.bipush 99, 2, (0, 0, 0, 0), 0) := rfl
theorem s100_2 {c : Nat → List AV → SS → Option Out} {l0 l1 l2 l3 : Option AV} {L2 : List (Nat × AV)} {St : List AV} {S : SS} : ev c 100 2 [l0, l1, l2, l3] L2 St S = ev c 100 4 [l0, l1, l2, l3] L2 (aI 99 :: St) S := ev_go i100_2 rfl
theorem i100_4 : insAt 100 4 = some (.invokestatic 56, 3, (61, 3, 0, 0), 0) := rfl
theorem s100_4 {c : Nat → List AV → SS → Option Out} {l0 l1 l2 l3 : Option AV} {a0 : Int32} {a1 : Int32} {a2 : Int32} {L2 : List (Nat × AV)} {S : SS} : ev c 100 4 [l0, l1, l2, l3] L2 [aI a2, aI a1, aI a0] S = ck (c 61 [aI a0, aI a1, aI a2] S) (fun v S' => ev c 100 7 [l0, l1, l2, l3] L2 (v.toList ++ []) S') := ev_call i100_4 rfl
theorem i100_7 : insAt 100 7 = some (.aload_n 0, 1, (0, 0, 0, 0), 0) := rfl
theorem s100_7 {c : Nat → List AV → SS → Option Out} {l1 l2 l3 : Option AV} {o : OId} {L2 : List (Nat × AV)} {St : List AV} {S : SS} : ev c 100 7 [some (aR o), l1, l2, l3] L2 St S = ev c 100 8 [some (aR o), l1, l2, l3] L2 (aR o :: St) S := ev_go i100_7 rfl
theorem i100_8 : insAt 100 8 = some (.getfield 10, 3, (11, 0, 0, 0), 0) := rfl
theorem s100_8 {c : Nat → List AV → SS → Option Out} {l0 l1 l2 l3 : Option AV} {j t : Nat} {L2 : List (Nat × AV)} {St : List AV} {S : SS} : ev c 100 8 [l0, l1, l2, l3] L2 (aR (11, j, t) :: St) S = ev c 100 11 [l0, l1, l2, l3] L2 (S.2.2.1 (11, j, t) 0 :: St) S := ev_go i100_8 rfl
theorem i100_11 : insAt 100 11 = some (.getfield 98, 3, (4, 3, 1, 0), 0) := rfl
theorem s100_11 {c : Nat → List AV → SS → Option Out} {l0 l1 l2 l3 : Option AV} {j t : Nat} {L2 : List (Nat × AV)} {St : List AV} {S : SS} : ev c 100 11 [l0, l1, l2, l3] L2 (aR (4, j, t) :: St) S = ev c 100 14 [l0, l1, l2, l3] L2 (aI (S.1 (4, j, t) 3) :: St) S := ev_go i100_11 rfl
theorem i100_14 : insAt 100 14 = some (.iload_n 1, 1, (0, 0, 0, 0), 0) := rfl
theorem s100_14 {c : Nat → List AV → SS → Option Out} {l0 l2 l3 : Option AV} {x : Int32} {L2 : List (Nat × AV)} {St : List AV} {S : SS} : ev c 100 14 [l0, some (aI x), l2, l3] L2 St S = ev c 100 15 [l0, some (aI x), l2, l3] L2 (aI x :: St) S := ev_go i100_14 rfl
theorem i100_15 : insAt 100 15 = some (.iadd, 1, (0, 0, 0, 0), 0) := rfl
theorem s100_15 {c : Nat → List AV → SS → Option Out} {l0 l1 l2 l3 : Option AV} {x y : Int32} {L2 : List (Nat × AV)} {St : List AV} {S : SS} : ev c 100 15 [l0, l1, l2, l3] L2 (aI y :: aI x :: St) S = ev c 100 16 [l0, l1, l2, l3] L2 (aI (x + y) :: St) S := ev_go i100_15 rfl
theorem i100_16 : insAt 100 16 = some (.sipush 999, 3, (0, 0, 0, 0), 0) := rfl
theorem s100_16 {c : Nat → List AV → SS → Option Out} {l0 l1 l2 l3 : Option AV} {L2 : List (Nat × AV)} {St : List AV} {S : SS} : ev c 100 16 [l0, l1, l2, l3] L2 St S = ev c 100 19 [l0, l1, l2, l3] L2 (aI 999 :: St) S := ev_go i100_16 rfl
theorem i100_19 : insAt 100 19 = some (.if_icmp .le 13, 3, (0, 0, 0, 0), 0) := rfl
theorem s100_19 {c : Nat → List AV → SS → Option Out} {l0 l1 l2 l3 : Option AV} {x y : Int32} {L2 : List (Nat × AV)} {St : List AV} {S : SS} : ev c 100 19 [l0, l1, l2, l3] L2 (aI y :: aI x :: St) S = if x ≤ y then ev c 100 32 [l0, l1, l2, l3] L2 St S else ev c 100 22 [l0, l1, l2, l3] L2 St S := ev_br i100_19 rfl
theorem i100_22 : insAt 100 22 = some (.new 64, 3, (1, 0, 1, 0), 0) := rfl
theorem s100_22 {c : Nat → List AV → SS → Option Out} {l0 l1 l2 l3 : Option AV} {L2 : List (Nat × AV)} {S : SS} : ev c 100 22 [l0, l1, l2, l3] L2 [] S = some (.inr "java/lang/IllegalStateException", bump S 1 6) := ev_end i100_22 rfl
theorem i100_25 : insAt 100 25 = some (.dup, 1, (0, 0, 0, 0), 0) := rfl
theorem s100_25 {c : Nat → List AV → SS → Option Out} {l0 l1 l2 l3 : Option AV} {x : OId} {L2 : List (Nat × AV)} {St : List AV} {S : SS} : ev c 100 25 [l0, l1, l2, l3] L2 (aR x :: St) S = ev c 100 26 [l0, l1, l2, l3] L2 (aR x :: aR x :: St) S := ev_go i100_25 rfl
theorem i100_32 : insAt 100 32 = some (.aload_n 0, 1, (0, 0, 0, 0), 0) := rfl
theorem s100_32 {c : Nat → List AV → SS → Option Out} {l1 l2 l3 : Option AV} {o : OId} {L2 : List (Nat × AV)} {St : List AV} {S : SS} : ev c 100 32 [some (aR o), l1, l2, l3] L2 St S = ev c 100 33 [some (aR o), l1, l2, l3] L2 (aR o :: St) S := ev_go i100_32 rfl
theorem i100_33 : insAt 100 33 = some (.getfield 19, 3, (11, 1, 0, 0), 0) := rfl
theorem s100_33 {c : Nat → List AV → SS → Option Out} {l0 l1 l2 l3 : Option AV} {j t : Nat} {L2 : List (Nat × AV)} {St : List AV} {S : SS} : ev c 100 33 [l0, l1, l2, l3] L2 (aR (11, j, t) :: St) S = ev c 100 36 [l0, l1, l2, l3] L2 (S.2.2.1 (11, j, t) 1 :: St) S := ev_go i100_33 rfl
theorem i100_36 : insAt 100 36 = some (.aload_n 0, 1, (0, 0, 0, 0), 0) := rfl
theorem s100_36 {c : Nat → List AV → SS → Option Out} {l1 l2 l3 : Option AV} {o : OId} {L2 : List (Nat × AV)} {St : List AV} {S : SS} : ev c 100 36 [some (aR o), l1, l2, l3] L2 St S = ev c 100 37 [some (aR o), l1, l2, l3] L2 (aR o :: St) S := ev_go i100_36 rfl
theorem i100_37 : insAt 100 37 = some (.getfield 10, 3, (11, 0, 0, 0), 0) := rfl
theorem s100_37 {c : Nat → List AV → SS → Option Out} {l0 l1 l2 l3 : Option AV} {j t : Nat} {L2 : List (Nat × AV)} {St : List AV} {S : SS} : ev c 100 37 [l0, l1, l2, l3] L2 (aR (11, j, t) :: St) S = ev c 100 40 [l0, l1, l2, l3] L2 (S.2.2.1 (11, j, t) 0 :: St) S := ev_go i100_37 rfl
theorem i100_40 : insAt 100 40 = some (.invokevirtual 71, 3, (62, 1, 3, 5), 0) := rfl
theorem s100_40 {c : Nat → List AV → SS → Option Out} {l0 l1 l2 l3 : Option AV} {a0 : OId} {j t : Nat} {L2 : List (Nat × AV)} {S : SS} : ev c 100 40 [l0, l1, l2, l3] L2 [aR a0, aR (5, j, t)] S = ck (c 62 [aR (5, j, t), aR a0] S) (fun v S' => ev c 100 43 [l0, l1, l2, l3] L2 (v.toList ++ []) S') := ev_call i100_40 rfl
theorem i100_43 : insAt 100 43 = some (.aload_n 0, 1, (0, 0, 0, 0), 0) := rfl
theorem s100_43 {c : Nat → List AV → SS → Option Out} {l1 l2 l3 : Option AV} {o : OId} {L2 : List (Nat × AV)} {St : List AV} {S : SS} : ev c 100 43 [some (aR o), l1, l2, l3] L2 St S = ev c 100 44 [some (aR o), l1, l2, l3] L2 (aR o :: St) S := ev_go i100_43 rfl
theorem i100_44 : insAt 100 44 = some (.getfield 10, 3, (11, 0, 0, 0), 0) := rfl
theorem s100_44 {c : Nat → List AV → SS → Option Out} {l0 l1 l2 l3 : Option AV} {j t : Nat} {L2 : List (Nat × AV)} {St : List AV} {S : SS} : ev c 100 44 [l0, l1, l2, l3] L2 (aR (11, j, t) :: St) S = ev c 100 47 [l0, l1, l2, l3] L2 (S.2.2.1 (11, j, t) 0 :: St) S := ev_go i100_44 rfl
theorem i100_47 : insAt 100 47 = some (.getfield 158, 3, (4, 5, 1, 0), 0) := rfl
theorem s100_47 {c : Nat → List AV → SS → Option Out} {l0 l1 l2 l3 : Option AV} {j t : Nat} {L2 : List (Nat × AV)} {St : List AV} {S : SS} : ev c 100 47 [l0, l1, l2, l3] L2 (aR (4, j, t) :: St) S = ev c 100 50 [l0, l1, l2, l3] L2 (aI (S.1 (4, j, t) 5) :: St) S := ev_go i100_47 rfl
theorem i100_50 : insAt 100 50 = some (.istore_n 2, 1, (0, 0, 0, 0), 0) := rfl
theorem s100_50 {c : Nat → List AV → SS → Option Out} {l0 l1 l2 l3 : Option AV} {x : Int32} {L2 : List (Nat × AV)} {St : List AV} {S : SS} : ev c 100 50 [l0, l1, l2, l3] L2 (aI x :: St) S = ev c 100 51 [l0, l1, some (aI x), l3] (kil L2 2) St S := ev_go i100_50 rfl
theorem i100_51 : insAt 100 51 = some (.iconst 0, 1, (0, 0, 0, 0), 0) := rfl
theorem s100_51 {c : Nat → List AV → SS → Option Out} {l0 l1 l2 l3 : Option AV} {L2 : List (Nat × AV)} {St : List AV} {S : SS} : ev c 100 51 [l0, l1, l2, l3] L2 St S = ev c 100 52 [l0, l1, l2, l3] L2 (aI 0 :: St) S := ev_go i100_51 rfl
theorem i100_52 : insAt 100 52 = some (.istore_n 3, 1, (0, 0, 0, 0), 0) := rfl
theorem s100_52 {c : Nat → List AV → SS → Option Out} {l0 l1 l2 l3 : Option AV} {x : Int32} {L2 : List (Nat × AV)} {St : List AV} {S : SS} : ev c 100 52 [l0, l1, l2, l3] L2 (aI x :: St) S = ev c 100 53 [l0, l1, l2, some (aI x)] (kil L2 3) St S := ev_go i100_52 rfl
theorem i100_53 : insAt 100 53 = some (.iload_n 3, 1, (0, 0, 0, 0), 0) := rfl
theorem s100_53 {c : Nat → List AV → SS → Option Out} {l0 l1 l2 : Option AV} {x : Int32} {L2 : List (Nat × AV)} {St : List AV} {S : SS} : ev c 100 53 [l0, l1, l2, some (aI x)] L2 St S = ev c 100 54 [l0, l1, l2, some (aI x)] L2 (aI x :: St) S := ev_go i100_53 rfl
theorem i100_54 : insAt 100 54 = some (.iload_n 1, 1, (0, 0, 0, 0), 0) := rfl
theorem s100_54 {c : Nat → List AV → SS → Option Out} {l0 l2 l3 : Option AV} {x : Int32} {L2 : List (Nat × AV)} {St : List AV} {S : SS} : ev c 100 54 [l0, some (aI x), l2, l3] L2 St S = ev c 100 55 [l0, some (aI x), l2, l3] L2 (aI x :: St) S := ev_go i100_54 rfl
theorem i100_55 : insAt 100 55 = some (.if_icmp .ge 16, 3, (0, 0, 0, 0), 0) := rfl
theorem s100_55 {c : Nat → List AV → SS → Option Out} {l0 l1 l2 l3 : Option AV} {x y : Int32} {L2 : List (Nat × AV)} {St : List AV} {S : SS} : ev c 100 55 [l0, l1, l2, l3] L2 (aI y :: aI x :: St) S = if y ≤ x then ev c 100 71 [l0, l1, l2, l3] L2 St S else ev c 100 58 [l0, l1, l2, l3] L2 St S := ev_br i100_55 rfl
theorem i100_58 : insAt 100 58 = some (.aload_n 0, 1, (0, 0, 0, 0), 0) := rfl
theorem s100_58 {c : Nat → List AV → SS → Option Out} {l1 l2 l3 : Option AV} {o : OId} {L2 : List (Nat × AV)} {St : List AV} {S : SS} : ev c 100 58 [some (aR o), l1, l2, l3] L2 St S = ev c 100 59 [some (aR o), l1, l2, l3] L2 (aR o :: St) S := ev_go i100_58 rfl
theorem i100_59 : insAt 100 59 = some (.getfield 10, 3, (11, 0, 0, 0), 0) := rfl
theorem s100_59 {c : Nat → List AV → SS → Option Out} {l0 l1 l2 l3 : Option AV} {j t : Nat} {L2 : List (Nat × AV)} {St : List AV} {S : SS} : ev c 100 59 [l0, l1, l2, l3] L2 (aR (11, j, t) :: St) S = ev c 100 62 [l0, l1, l2, l3] L2 (S.2.2.1 (11, j, t) 0 :: St) S := ev_go i100_59 rfl
theorem i100_62 : insAt 100 62 = some (.invokevirtual 161, 3, (101, 0, 3, 4), 0) := rfl
theorem s100_62 {c : Nat → List AV → SS → Option Out} {l0 l1 l2 l3 : Option AV} {j t : Nat} {L2 : List (Nat × AV)} {S : SS} : ev c 100 62 [l0, l1, l2, l3] L2 [aR (4, j, t)] S = ck (c 101 [aR (4, j, t)] S) (fun v S' => ev c 100 65 [l0, l1, l2, l3] L2 (v.toList ++ []) S') := ev_call i100_62 rfl
theorem i100_65 : insAt 100 65 = some (.iinc 3 1, 3, (0, 0, 0, 0), 0) := rfl
theorem s100_65 {c : Nat → List AV → SS → Option Out} {l0 l1 l2 : Option AV} {x : Int32} {L2 : List (Nat × AV)} {St : List AV} {S : SS} : ev c 100 65 [l0, l1, l2, some (aI x)] L2 St S = ev c 100 68 [l0, l1, l2, some (aI (x + 1))] (kil L2 3) St S := ev_go i100_65 rfl
theorem i100_68 : insAt 100 68 = some (.goto (-15), 3, (0, 0, 0, 0), 0) := rfl
theorem s100_68 {c : Nat → List AV → SS → Option Out} {l0 l1 l2 l3 : Option AV} {L2 : List (Nat × AV)} {St : List AV} {S : SS} : ev c 100 68 [l0, l1, l2, l3] L2 St S = ev c 100 53 [l0, l1, l2, l3] L2 St S := ev_go i100_68 rfl
theorem i100_71 : insAt 100 71 = some (.aload_n 0, 1, (0, 0, 0, 0), 0) := rfl
theorem s100_71 {c : Nat → List AV → SS → Option Out} {l1 l2 l3 : Option AV} {o : OId} {L2 : List (Nat × AV)} {St : List AV} {S : SS} : ev c 100 71 [some (aR o), l1, l2, l3] L2 St S = ev c 100 72 [some (aR o), l1, l2, l3] L2 (aR o :: St) S := ev_go i100_71 rfl
theorem i100_72 : insAt 100 72 = some (.getfield 10, 3, (11, 0, 0, 0), 0) := rfl
theorem s100_72 {c : Nat → List AV → SS → Option Out} {l0 l1 l2 l3 : Option AV} {j t : Nat} {L2 : List (Nat × AV)} {St : List AV} {S : SS} : ev c 100 72 [l0, l1, l2, l3] L2 (aR (11, j, t) :: St) S = ev c 100 75 [l0, l1, l2, l3] L2 (S.2.2.1 (11, j, t) 0 :: St) S := ev_go i100_72 rfl
theorem i100_75 : insAt 100 75 = some (.getfield 158, 3, (4, 5, 1, 0), 0) := rfl
theorem s100_75 {c : Nat → List AV → SS → Option Out} {l0 l1 l2 l3 : Option AV} {j t : Nat} {L2 : List (Nat × AV)} {St : List AV} {S : SS} : ev c 100 75 [l0, l1, l2, l3] L2 (aR (4, j, t) :: St) S = ev c 100 78 [l0, l1, l2, l3] L2 (aI (S.1 (4, j, t) 5) :: St) S := ev_go i100_75 rfl
theorem i100_78 : insAt 100 78 = some (.iload_n 2, 1, (0, 0, 0, 0), 0) := rfl
theorem s100_78 {c : Nat → List AV → SS → Option Out} {l0 l1 l3 : Option AV} {x : Int32} {L2 : List (Nat × AV)} {St : List AV} {S : SS} : ev c 100 78 [l0, l1, some (aI x), l3] L2 St S = ev c 100 79 [l0, l1, some (aI x), l3] L2 (aI x :: St) S := ev_go i100_78 rfl
theorem i100_79 : insAt 100 79 = some (.isub, 1, (0, 0, 0, 0), 0) := rfl
theorem s100_79 {c : Nat → List AV → SS → Option Out} {l0 l1 l2 l3 : Option AV} {x y : Int32} {L2 : List (Nat × AV)} {St : List AV} {S : SS} : ev c 100 79 [l0, l1, l2, l3] L2 (aI y :: aI x :: St) S = ev c 100 80 [l0, l1, l2, l3] L2 (aI (x - y) :: St) S := ev_go i100_79 rfl
theorem i100_80 : insAt 100 80 = some (.ireturn, 1, (0, 0, 0, 0), 0) := rfl
theorem s100_80 {c : Nat → List AV → SS → Option Out} {l0 l1 l2 l3 : Option AV} {x : Int32} {L2 : List (Nat × AV)} {St : List AV} {S : SS} : ev c 100 80 [l0, l1, l2, l3] L2 [aI x] S = some (.inl (some (aI x)), S) := ev_end i100_80 rfl
theorem m100 {d : Nat} {o : OId} {a0 : Int32} {S : SS} : evm (d + 1) 100 [aR o, aI a0] S = ev (evm d) 100 0 [some (aR o), some (aI a0), none, none] [] [] S := evm_s (n := 4) rfl (Nat.le_of_ble_eq_true rfl) rfl rfl
/-! FrequencyOffice.stationAt(I)I -/
theorem i103_0 : insAt 103 0 = some (.aload_n 0, 1, (0, 0, 0, 0), 0) := rfl
theorem s103_0 {c : Nat → List AV → SS → Option Out} {l1 : Option AV} {o : OId} {L2 : List (Nat × AV)} {St : List AV} {S : SS} : ev c 103 0 [some (aR o), l1] L2 St S = ev c 103 1 [some (aR o), l1] L2 (aR o :: St) S := ev_go i103_0 rfl
theorem i103_1 : insAt 103 1 = some (.iload_n 1, 1, (0, 0, 0, 0), 0) := rfl
theorem s103_1 {c : Nat → List AV → SS → Option Out} {l0 : Option AV} {x : Int32} {L2 : List (Nat × AV)} {St : List AV} {S : SS} : ev c 103 1 [l0, some (aI x)] L2 St S = ev c 103 2 [l0, some (aI x)] L2 (aI x :: St) S := ev_go i103_1 rfl
theorem i103_2 : insAt 103 2 = some (.invokevirtual 171, 3, (104, 1, 2, 11), 0) := rfl
theorem s103_2 {c : Nat → List AV → SS → Option Out} {l0 l1 : Option AV} {a0 : Int32} {j t : Nat} {L2 : List (Nat × AV)} {S : SS} : ev c 103 2 [l0, l1] L2 [aI a0, aR (11, j, t)] S = ck (c 104 [aR (11, j, t), aI a0] S) (fun v S' => ev c 103 5 [l0, l1] L2 (v.toList ++ []) S') := ev_call i103_2 rfl
theorem i103_5 : insAt 103 5 = some (.aload_n 0, 1, (0, 0, 0, 0), 0) := rfl
theorem s103_5 {c : Nat → List AV → SS → Option Out} {l1 : Option AV} {o : OId} {L2 : List (Nat × AV)} {St : List AV} {S : SS} : ev c 103 5 [some (aR o), l1] L2 St S = ev c 103 6 [some (aR o), l1] L2 (aR o :: St) S := ev_go i103_5 rfl
theorem i103_6 : insAt 103 6 = some (.getfield 10, 3, (11, 0, 0, 0), 0) := rfl
theorem s103_6 {c : Nat → List AV → SS → Option Out} {l0 l1 : Option AV} {j t : Nat} {L2 : List (Nat × AV)} {St : List AV} {S : SS} : ev c 103 6 [l0, l1] L2 (aR (11, j, t) :: St) S = ev c 103 9 [l0, l1] L2 (S.2.2.1 (11, j, t) 0 :: St) S := ev_go i103_6 rfl
theorem i103_9 : insAt 103 9 = some (.iload_n 1, 1, (0, 0, 0, 0), 0) := rfl
theorem s103_9 {c : Nat → List AV → SS → Option Out} {l0 : Option AV} {x : Int32} {L2 : List (Nat × AV)} {St : List AV} {S : SS} : ev c 103 9 [l0, some (aI x)] L2 St S = ev c 103 10 [l0, some (aI x)] L2 (aI x :: St) S := ev_go i103_9 rfl
theorem i103_10 : insAt 103 10 = some (.invokevirtual 125, 3, (17, 1, 3, 4), 0) := rfl
theorem s103_10 {c : Nat → List AV → SS → Option Out} {l0 l1 : Option AV} {a0 : Int32} {j t : Nat} {L2 : List (Nat × AV)} {S : SS} : ev c 103 10 [l0, l1] L2 [aI a0, aR (4, j, t)] S = ck (c 17 [aR (4, j, t), aI a0] S) (fun v S' => ev c 103 13 [l0, l1] L2 (v.toList ++ []) S') := ev_call i103_10 rfl
theorem i103_13 : insAt 103 13 = some (.getfield 174, 3, (10, 0, 1, 0), 0) := rfl
theorem s103_13 {c : Nat → List AV → SS → Option Out} {l0 l1 : Option AV} {j t : Nat} {L2 : List (Nat × AV)} {St : List AV} {S : SS} : ev c 103 13 [l0, l1] L2 (aR (10, j, t) :: St) S = ev c 103 16 [l0, l1] L2 (aI (S.1 (10, j, t) 0) :: St) S := ev_go i103_13 rfl
theorem i103_16 : insAt 103 16 = some (.ireturn, 1, (0, 0, 0, 0), 0) := rfl
theorem s103_16 {c : Nat → List AV → SS → Option Out} {l0 l1 : Option AV} {x : Int32} {L2 : List (Nat × AV)} {St : List AV} {S : SS} : ev c 103 16 [l0, l1] L2 [aI x] S = some (.inl (some (aI x)), S) := ev_end i103_16 rfl
theorem m103 {d : Nat} {o : OId} {a0 : Int32} {S : SS} : evm (d + 1) 103 [aR o, aI a0] S = ev (evm d) 103 0 [some (aR o), some (aI a0)] [] [] S := evm_s (n := 2) rfl (Nat.le_of_ble_eq_true rfl) rfl rfl
/-! FrequencyOffice.checkPosition(I)V -/
theorem i104_0 : insAt 104 0 = some (.iload_n 1, 1, (0, 0, 0, 0), 0) := rfl
theorem s104_0 {c : Nat → List AV → SS → Option Out} {l0 : Option AV} {x : Int32} {L2 : List (Nat × AV)} {St : List AV} {S : SS} : ev c 104 0 [l0, some (aI x)] L2 St S = ev c 104 1 [l0, some (aI x)] L2 (aI x :: St) S := ev_go i104_0 rfl
theorem i104_1 : insAt 104 1 = some (.ifCond .lt 14, 3, (0, 0, 0, 0), 0) := rfl
theorem s104_1 {c : Nat → List AV → SS → Option Out} {l0 l1 : Option AV} {x : Int32} {L2 : List (Nat × AV)} {St : List AV} {S : SS} : ev c 104 1 [l0, l1] L2 (aI x :: St) S = if x < 0 then ev c 104 15 [l0, l1] L2 St S else ev c 104 4 [l0, l1] L2 St S := ev_br i104_1 rfl
theorem i104_4 : insAt 104 4 = some (.iload_n 1, 1, (0, 0, 0, 0), 0) := rfl
theorem s104_4 {c : Nat → List AV → SS → Option Out} {l0 : Option AV} {x : Int32} {L2 : List (Nat × AV)} {St : List AV} {S : SS} : ev c 104 4 [l0, some (aI x)] L2 St S = ev c 104 5 [l0, some (aI x)] L2 (aI x :: St) S := ev_go i104_4 rfl
theorem i104_5 : insAt 104 5 = some (.aload_n 0, 1, (0, 0, 0, 0), 0) := rfl
theorem s104_5 {c : Nat → List AV → SS → Option Out} {l1 : Option AV} {o : OId} {L2 : List (Nat × AV)} {St : List AV} {S : SS} : ev c 104 5 [some (aR o), l1] L2 St S = ev c 104 6 [some (aR o), l1] L2 (aR o :: St) S := ev_go i104_5 rfl
theorem i104_6 : insAt 104 6 = some (.getfield 10, 3, (11, 0, 0, 0), 0) := rfl
theorem s104_6 {c : Nat → List AV → SS → Option Out} {l0 l1 : Option AV} {j t : Nat} {L2 : List (Nat × AV)} {St : List AV} {S : SS} : ev c 104 6 [l0, l1] L2 (aR (11, j, t) :: St) S = ev c 104 9 [l0, l1] L2 (S.2.2.1 (11, j, t) 0 :: St) S := ev_go i104_6 rfl
theorem i104_9 : insAt 104 9 = some (.getfield 60, 3, (4, 7, 1, 0), 0) := rfl
theorem s104_9 {c : Nat → List AV → SS → Option Out} {l0 l1 : Option AV} {j t : Nat} {L2 : List (Nat × AV)} {St : List AV} {S : SS} : ev c 104 9 [l0, l1] L2 (aR (4, j, t) :: St) S = ev c 104 12 [l0, l1] L2 (aI (S.1 (4, j, t) 7) :: St) S := ev_go i104_9 rfl
theorem i104_12 : insAt 104 12 = some (.if_icmp .lt 14, 3, (0, 0, 0, 0), 0) := rfl
theorem s104_12 {c : Nat → List AV → SS → Option Out} {l0 l1 : Option AV} {x y : Int32} {L2 : List (Nat × AV)} {St : List AV} {S : SS} : ev c 104 12 [l0, l1] L2 (aI y :: aI x :: St) S = if x < y then ev c 104 26 [l0, l1] L2 St S else ev c 104 15 [l0, l1] L2 St S := ev_br i104_12 rfl
theorem i104_15 : insAt 104 15 = some (.new 324, 3, (4, 0, 1, 0), 0) := rfl
theorem s104_15 {c : Nat → List AV → SS → Option Out} {l0 l1 : Option AV} {L2 : List (Nat × AV)} {S : SS} : ev c 104 15 [l0, l1] L2 [] S = some (.inr "java/lang/IndexOutOfBoundsException", bump S 1 6) := ev_end i104_15 rfl
theorem i104_18 : insAt 104 18 = some (.dup, 1, (0, 0, 0, 0), 0) := rfl
theorem s104_18 {c : Nat → List AV → SS → Option Out} {l0 l1 : Option AV} {x : OId} {L2 : List (Nat × AV)} {St : List AV} {S : SS} : ev c 104 18 [l0, l1] L2 (aR x :: St) S = ev c 104 19 [l0, l1] L2 (aR x :: aR x :: St) S := ev_go i104_18 rfl
theorem i104_26 : insAt 104 26 = some (.return_, 1, (0, 0, 0, 0), 0) := rfl
theorem s104_26 {c : Nat → List AV → SS → Option Out} {l0 l1 : Option AV} {L2 : List (Nat × AV)} {St : List AV} {S : SS} : ev c 104 26 [l0, l1] L2 [] S = some (.inl none, S) := ev_end i104_26 rfl
theorem m104 {d : Nat} {o : OId} {a0 : Int32} {S : SS} : evm (d + 1) 104 [aR o, aI a0] S = ev (evm d) 104 0 [some (aR o), some (aI a0)] [] [] S := evm_s (n := 2) rfl (Nat.le_of_ble_eq_true rfl) rfl rfl
/-! FrequencyOffice.stationByExpiry(I)I -/
theorem i106_0 : insAt 106 0 = some (.aload_n 0, 1, (0, 0, 0, 0), 0) := rfl
theorem s106_0 {c : Nat → List AV → SS → Option Out} {l1 : Option AV} {o : OId} {L2 : List (Nat × AV)} {St : List AV} {S : SS} : ev c 106 0 [some (aR o), l1] L2 St S = ev c 106 1 [some (aR o), l1] L2 (aR o :: St) S := ev_go i106_0 rfl
theorem i106_1 : insAt 106 1 = some (.iload_n 1, 1, (0, 0, 0, 0), 0) := rfl
theorem s106_1 {c : Nat → List AV → SS → Option Out} {l0 : Option AV} {x : Int32} {L2 : List (Nat × AV)} {St : List AV} {S : SS} : ev c 106 1 [l0, some (aI x)] L2 St S = ev c 106 2 [l0, some (aI x)] L2 (aI x :: St) S := ev_go i106_1 rfl
theorem i106_2 : insAt 106 2 = some (.invokevirtual 171, 3, (104, 1, 2, 11), 0) := rfl
theorem s106_2 {c : Nat → List AV → SS → Option Out} {l0 l1 : Option AV} {a0 : Int32} {j t : Nat} {L2 : List (Nat × AV)} {S : SS} : ev c 106 2 [l0, l1] L2 [aI a0, aR (11, j, t)] S = ck (c 104 [aR (11, j, t), aI a0] S) (fun v S' => ev c 106 5 [l0, l1] L2 (v.toList ++ []) S') := ev_call i106_2 rfl
theorem i106_5 : insAt 106 5 = some (.aload_n 0, 1, (0, 0, 0, 0), 0) := rfl
theorem s106_5 {c : Nat → List AV → SS → Option Out} {l1 : Option AV} {o : OId} {L2 : List (Nat × AV)} {St : List AV} {S : SS} : ev c 106 5 [some (aR o), l1] L2 St S = ev c 106 6 [some (aR o), l1] L2 (aR o :: St) S := ev_go i106_5 rfl
theorem i106_6 : insAt 106 6 = some (.getfield 10, 3, (11, 0, 0, 0), 0) := rfl
theorem s106_6 {c : Nat → List AV → SS → Option Out} {l0 l1 : Option AV} {j t : Nat} {L2 : List (Nat × AV)} {St : List AV} {S : SS} : ev c 106 6 [l0, l1] L2 (aR (11, j, t) :: St) S = ev c 106 9 [l0, l1] L2 (S.2.2.1 (11, j, t) 0 :: St) S := ev_go i106_6 rfl
theorem i106_9 : insAt 106 9 = some (.aload_n 0, 1, (0, 0, 0, 0), 0) := rfl
theorem s106_9 {c : Nat → List AV → SS → Option Out} {l1 : Option AV} {o : OId} {L2 : List (Nat × AV)} {St : List AV} {S : SS} : ev c 106 9 [some (aR o), l1] L2 St S = ev c 106 10 [some (aR o), l1] L2 (aR o :: St) S := ev_go i106_9 rfl
theorem i106_10 : insAt 106 10 = some (.getfield 10, 3, (11, 0, 0, 0), 0) := rfl
theorem s106_10 {c : Nat → List AV → SS → Option Out} {l0 l1 : Option AV} {j t : Nat} {L2 : List (Nat × AV)} {St : List AV} {S : SS} : ev c 106 10 [l0, l1] L2 (aR (11, j, t) :: St) S = ev c 106 13 [l0, l1] L2 (S.2.2.1 (11, j, t) 0 :: St) S := ev_go i106_10 rfl
theorem i106_13 : insAt 106 13 = some (.iload_n 1, 1, (0, 0, 0, 0), 0) := rfl
theorem s106_13 {c : Nat → List AV → SS → Option Out} {l0 : Option AV} {x : Int32} {L2 : List (Nat × AV)} {St : List AV} {S : SS} : ev c 106 13 [l0, some (aI x)] L2 St S = ev c 106 14 [l0, some (aI x)] L2 (aI x :: St) S := ev_go i106_13 rfl
theorem i106_14 : insAt 106 14 = some (.invokevirtual 177, 3, (107, 1, 3, 4), 0) := rfl
theorem s106_14 {c : Nat → List AV → SS → Option Out} {l0 l1 : Option AV} {t0 : AV} {a0 : Int32} {j t : Nat} {L2 : List (Nat × AV)} {S : SS} : ev c 106 14 [l0, l1] L2 [aI a0, aR (4, j, t), t0] S = ck (c 107 [aR (4, j, t), aI a0] S) (fun v S' => ev c 106 17 [l0, l1] L2 (v.toList ++ [t0]) S') := ev_call i106_14 rfl
theorem i106_17 : insAt 106 17 = some (.invokevirtual 125, 3, (17, 1, 3, 4), 0) := rfl
theorem s106_17 {c : Nat → List AV → SS → Option Out} {l0 l1 : Option AV} {a0 : Int32} {j t : Nat} {L2 : List (Nat × AV)} {S : SS} : ev c 106 17 [l0, l1] L2 [aI a0, aR (4, j, t)] S = ck (c 17 [aR (4, j, t), aI a0] S) (fun v S' => ev c 106 20 [l0, l1] L2 (v.toList ++ []) S') := ev_call i106_17 rfl
theorem i106_20 : insAt 106 20 = some (.getfield 174, 3, (10, 0, 1, 0), 0) := rfl
theorem s106_20 {c : Nat → List AV → SS → Option Out} {l0 l1 : Option AV} {j t : Nat} {L2 : List (Nat × AV)} {St : List AV} {S : SS} : ev c 106 20 [l0, l1] L2 (aR (10, j, t) :: St) S = ev c 106 23 [l0, l1] L2 (aI (S.1 (10, j, t) 0) :: St) S := ev_go i106_20 rfl
theorem i106_23 : insAt 106 23 = some (.ireturn, 1, (0, 0, 0, 0), 0) := rfl
theorem s106_23 {c : Nat → List AV → SS → Option Out} {l0 l1 : Option AV} {x : Int32} {L2 : List (Nat × AV)} {St : List AV} {S : SS} : ev c 106 23 [l0, l1] L2 [aI x] S = some (.inl (some (aI x)), S) := ev_end i106_23 rfl
theorem m106 {d : Nat} {o : OId} {a0 : Int32} {S : SS} : evm (d + 1) 106 [aR o, aI a0] S = ev (evm d) 106 0 [some (aR o), some (aI a0)] [] [] S := evm_s (n := 2) rfl (Nat.le_of_ble_eq_true rfl) rfl rfl
/-! FrequencyOffice.xOf(I)I -/
theorem i110_0 : insAt 110 0 = some (.aload_n 0, 1, (0, 0, 0, 0), 0) := rfl
theorem s110_0 {c : Nat → List AV → SS → Option Out} {l1 : Option AV} {o : OId} {L2 : List (Nat × AV)} {St : List AV} {S : SS} : ev c 110 0 [some (aR o), l1] L2 St S = ev c 110 1 [some (aR o), l1] L2 (aR o :: St) S := ev_go i110_0 rfl
theorem i110_1 : insAt 110 1 = some (.getfield 10, 3, (11, 0, 0, 0), 0) := rfl
theorem s110_1 {c : Nat → List AV → SS → Option Out} {l0 l1 : Option AV} {j t : Nat} {L2 : List (Nat × AV)} {St : List AV} {S : SS} : ev c 110 1 [l0, l1] L2 (aR (11, j, t) :: St) S = ev c 110 4 [l0, l1] L2 (S.2.2.1 (11, j, t) 0 :: St) S := ev_go i110_1 rfl
theorem i110_4 : insAt 110 4 = some (.aload_n 0, 1, (0, 0, 0, 0), 0) := rfl
theorem s110_4 {c : Nat → List AV → SS → Option Out} {l1 : Option AV} {o : OId} {L2 : List (Nat × AV)} {St : List AV} {S : SS} : ev c 110 4 [some (aR o), l1] L2 St S = ev c 110 5 [some (aR o), l1] L2 (aR o :: St) S := ev_go i110_4 rfl
theorem i110_5 : insAt 110 5 = some (.iload_n 1, 1, (0, 0, 0, 0), 0) := rfl
theorem s110_5 {c : Nat → List AV → SS → Option Out} {l0 : Option AV} {x : Int32} {L2 : List (Nat × AV)} {St : List AV} {S : SS} : ev c 110 5 [l0, some (aI x)] L2 St S = ev c 110 6 [l0, some (aI x)] L2 (aI x :: St) S := ev_go i110_5 rfl
theorem i110_6 : insAt 110 6 = some (.invokevirtual 134, 3, (93, 1, 2, 11), 0) := rfl
theorem s110_6 {c : Nat → List AV → SS → Option Out} {l0 l1 : Option AV} {t0 : AV} {a0 : Int32} {j t : Nat} {L2 : List (Nat × AV)} {S : SS} : ev c 110 6 [l0, l1] L2 [aI a0, aR (11, j, t), t0] S = ck (c 93 [aR (11, j, t), aI a0] S) (fun v S' => ev c 110 9 [l0, l1] L2 (v.toList ++ [t0]) S') := ev_call i110_6 rfl
theorem i110_9 : insAt 110 9 = some (.invokevirtual 125, 3, (17, 1, 3, 4), 0) := rfl
theorem s110_9 {c : Nat → List AV → SS → Option Out} {l0 l1 : Option AV} {a0 : Int32} {j t : Nat} {L2 : List (Nat × AV)} {S : SS} : ev c 110 9 [l0, l1] L2 [aI a0, aR (4, j, t)] S = ck (c 17 [aR (4, j, t), aI a0] S) (fun v S' => ev c 110 12 [l0, l1] L2 (v.toList ++ []) S') := ev_call i110_9 rfl
theorem i110_12 : insAt 110 12 = some (.getfield 180, 3, (10, 1, 1, 0), 0) := rfl
theorem s110_12 {c : Nat → List AV → SS → Option Out} {l0 l1 : Option AV} {j t : Nat} {L2 : List (Nat × AV)} {St : List AV} {S : SS} : ev c 110 12 [l0, l1] L2 (aR (10, j, t) :: St) S = ev c 110 15 [l0, l1] L2 (aI (S.1 (10, j, t) 1) :: St) S := ev_go i110_12 rfl
theorem i110_15 : insAt 110 15 = some (.ireturn, 1, (0, 0, 0, 0), 0) := rfl
theorem s110_15 {c : Nat → List AV → SS → Option Out} {l0 l1 : Option AV} {x : Int32} {L2 : List (Nat × AV)} {St : List AV} {S : SS} : ev c 110 15 [l0, l1] L2 [aI x] S = some (.inl (some (aI x)), S) := ev_end i110_15 rfl
theorem m110 {d : Nat} {o : OId} {a0 : Int32} {S : SS} : evm (d + 1) 110 [aR o, aI a0] S = ev (evm d) 110 0 [some (aR o), some (aI a0)] [] [] S := evm_s (n := 2) rfl (Nat.le_of_ble_eq_true rfl) rfl rfl
/-! FrequencyOffice.yOf(I)I -/
theorem i112_0 : insAt 112 0 = some (.aload_n 0, 1, (0, 0, 0, 0), 0) := rfl
theorem s112_0 {c : Nat → List AV → SS → Option Out} {l1 : Option AV} {o : OId} {L2 : List (Nat × AV)} {St : List AV} {S : SS} : ev c 112 0 [some (aR o), l1] L2 St S = ev c 112 1 [some (aR o), l1] L2 (aR o :: St) S := ev_go i112_0 rfl
theorem i112_1 : insAt 112 1 = some (.getfield 10, 3, (11, 0, 0, 0), 0) := rfl
theorem s112_1 {c : Nat → List AV → SS → Option Out} {l0 l1 : Option AV} {j t : Nat} {L2 : List (Nat × AV)} {St : List AV} {S : SS} : ev c 112 1 [l0, l1] L2 (aR (11, j, t) :: St) S = ev c 112 4 [l0, l1] L2 (S.2.2.1 (11, j, t) 0 :: St) S := ev_go i112_1 rfl
theorem i112_4 : insAt 112 4 = some (.aload_n 0, 1, (0, 0, 0, 0), 0) := rfl
theorem s112_4 {c : Nat → List AV → SS → Option Out} {l1 : Option AV} {o : OId} {L2 : List (Nat × AV)} {St : List AV} {S : SS} : ev c 112 4 [some (aR o), l1] L2 St S = ev c 112 5 [some (aR o), l1] L2 (aR o :: St) S := ev_go i112_4 rfl
theorem i112_5 : insAt 112 5 = some (.iload_n 1, 1, (0, 0, 0, 0), 0) := rfl
theorem s112_5 {c : Nat → List AV → SS → Option Out} {l0 : Option AV} {x : Int32} {L2 : List (Nat × AV)} {St : List AV} {S : SS} : ev c 112 5 [l0, some (aI x)] L2 St S = ev c 112 6 [l0, some (aI x)] L2 (aI x :: St) S := ev_go i112_5 rfl
theorem i112_6 : insAt 112 6 = some (.invokevirtual 134, 3, (93, 1, 2, 11), 0) := rfl
theorem s112_6 {c : Nat → List AV → SS → Option Out} {l0 l1 : Option AV} {t0 : AV} {a0 : Int32} {j t : Nat} {L2 : List (Nat × AV)} {S : SS} : ev c 112 6 [l0, l1] L2 [aI a0, aR (11, j, t), t0] S = ck (c 93 [aR (11, j, t), aI a0] S) (fun v S' => ev c 112 9 [l0, l1] L2 (v.toList ++ [t0]) S') := ev_call i112_6 rfl
theorem i112_9 : insAt 112 9 = some (.invokevirtual 125, 3, (17, 1, 3, 4), 0) := rfl
theorem s112_9 {c : Nat → List AV → SS → Option Out} {l0 l1 : Option AV} {a0 : Int32} {j t : Nat} {L2 : List (Nat × AV)} {S : SS} : ev c 112 9 [l0, l1] L2 [aI a0, aR (4, j, t)] S = ck (c 17 [aR (4, j, t), aI a0] S) (fun v S' => ev c 112 12 [l0, l1] L2 (v.toList ++ []) S') := ev_call i112_9 rfl
theorem i112_12 : insAt 112 12 = some (.getfield 183, 3, (10, 2, 1, 0), 0) := rfl
theorem s112_12 {c : Nat → List AV → SS → Option Out} {l0 l1 : Option AV} {j t : Nat} {L2 : List (Nat × AV)} {St : List AV} {S : SS} : ev c 112 12 [l0, l1] L2 (aR (10, j, t) :: St) S = ev c 112 15 [l0, l1] L2 (aI (S.1 (10, j, t) 2) :: St) S := ev_go i112_12 rfl
theorem i112_15 : insAt 112 15 = some (.ireturn, 1, (0, 0, 0, 0), 0) := rfl
theorem s112_15 {c : Nat → List AV → SS → Option Out} {l0 l1 : Option AV} {x : Int32} {L2 : List (Nat × AV)} {St : List AV} {S : SS} : ev c 112 15 [l0, l1] L2 [aI x] S = some (.inl (some (aI x)), S) := ev_end i112_15 rfl
theorem m112 {d : Nat} {o : OId} {a0 : Int32} {S : SS} : evm (d + 1) 112 [aR o, aI a0] S = ev (evm d) 112 0 [some (aR o), some (aI a0)] [] [] S := evm_s (n := 2) rfl (Nat.le_of_ble_eq_true rfl) rfl rfl
/-! FrequencyOffice.channelOf(I)I -/
theorem i114_0 : insAt 114 0 = some (.aload_n 0, 1, (0, 0, 0, 0), 0) := rfl
theorem s114_0 {c : Nat → List AV → SS → Option Out} {l1 : Option AV} {o : OId} {L2 : List (Nat × AV)} {St : List AV} {S : SS} : ev c 114 0 [some (aR o), l1] L2 St S = ev c 114 1 [some (aR o), l1] L2 (aR o :: St) S := ev_go i114_0 rfl
theorem i114_1 : insAt 114 1 = some (.getfield 10, 3, (11, 0, 0, 0), 0) := rfl
theorem s114_1 {c : Nat → List AV → SS → Option Out} {l0 l1 : Option AV} {j t : Nat} {L2 : List (Nat × AV)} {St : List AV} {S : SS} : ev c 114 1 [l0, l1] L2 (aR (11, j, t) :: St) S = ev c 114 4 [l0, l1] L2 (S.2.2.1 (11, j, t) 0 :: St) S := ev_go i114_1 rfl
theorem i114_4 : insAt 114 4 = some (.aload_n 0, 1, (0, 0, 0, 0), 0) := rfl
theorem s114_4 {c : Nat → List AV → SS → Option Out} {l1 : Option AV} {o : OId} {L2 : List (Nat × AV)} {St : List AV} {S : SS} : ev c 114 4 [some (aR o), l1] L2 St S = ev c 114 5 [some (aR o), l1] L2 (aR o :: St) S := ev_go i114_4 rfl
theorem i114_5 : insAt 114 5 = some (.iload_n 1, 1, (0, 0, 0, 0), 0) := rfl
theorem s114_5 {c : Nat → List AV → SS → Option Out} {l0 : Option AV} {x : Int32} {L2 : List (Nat × AV)} {St : List AV} {S : SS} : ev c 114 5 [l0, some (aI x)] L2 St S = ev c 114 6 [l0, some (aI x)] L2 (aI x :: St) S := ev_go i114_5 rfl
theorem i114_6 : insAt 114 6 = some (.invokevirtual 134, 3, (93, 1, 2, 11), 0) := rfl
theorem s114_6 {c : Nat → List AV → SS → Option Out} {l0 l1 : Option AV} {t0 : AV} {a0 : Int32} {j t : Nat} {L2 : List (Nat × AV)} {S : SS} : ev c 114 6 [l0, l1] L2 [aI a0, aR (11, j, t), t0] S = ck (c 93 [aR (11, j, t), aI a0] S) (fun v S' => ev c 114 9 [l0, l1] L2 (v.toList ++ [t0]) S') := ev_call i114_6 rfl
theorem i114_9 : insAt 114 9 = some (.invokevirtual 125, 3, (17, 1, 3, 4), 0) := rfl
theorem s114_9 {c : Nat → List AV → SS → Option Out} {l0 l1 : Option AV} {a0 : Int32} {j t : Nat} {L2 : List (Nat × AV)} {S : SS} : ev c 114 9 [l0, l1] L2 [aI a0, aR (4, j, t)] S = ck (c 17 [aR (4, j, t), aI a0] S) (fun v S' => ev c 114 12 [l0, l1] L2 (v.toList ++ []) S') := ev_call i114_9 rfl
theorem i114_12 : insAt 114 12 = some (.getfield 129, 3, (10, 3, 1, 0), 0) := rfl
theorem s114_12 {c : Nat → List AV → SS → Option Out} {l0 l1 : Option AV} {j t : Nat} {L2 : List (Nat × AV)} {St : List AV} {S : SS} : ev c 114 12 [l0, l1] L2 (aR (10, j, t) :: St) S = ev c 114 15 [l0, l1] L2 (aI (S.1 (10, j, t) 3) :: St) S := ev_go i114_12 rfl
theorem i114_15 : insAt 114 15 = some (.ireturn, 1, (0, 0, 0, 0), 0) := rfl
theorem s114_15 {c : Nat → List AV → SS → Option Out} {l0 l1 : Option AV} {x : Int32} {L2 : List (Nat × AV)} {St : List AV} {S : SS} : ev c 114 15 [l0, l1] L2 [aI x] S = some (.inl (some (aI x)), S) := ev_end i114_15 rfl
theorem m114 {d : Nat} {o : OId} {a0 : Int32} {S : SS} : evm (d + 1) 114 [aR o, aI a0] S = ev (evm d) 114 0 [some (aR o), some (aI a0)] [] [] S := evm_s (n := 2) rfl (Nat.le_of_ble_eq_true rfl) rfl rfl
/-! FrequencyOffice.expiryOf(I)I -/
theorem i116_0 : insAt 116 0 = some (.aload_n 0, 1, (0, 0, 0, 0), 0) := rfl
theorem s116_0 {c : Nat → List AV → SS → Option Out} {l1 : Option AV} {o : OId} {L2 : List (Nat × AV)} {St : List AV} {S : SS} : ev c 116 0 [some (aR o), l1] L2 St S = ev c 116 1 [some (aR o), l1] L2 (aR o :: St) S := ev_go i116_0 rfl
theorem i116_1 : insAt 116 1 = some (.getfield 10, 3, (11, 0, 0, 0), 0) := rfl
theorem s116_1 {c : Nat → List AV → SS → Option Out} {l0 l1 : Option AV} {j t : Nat} {L2 : List (Nat × AV)} {St : List AV} {S : SS} : ev c 116 1 [l0, l1] L2 (aR (11, j, t) :: St) S = ev c 116 4 [l0, l1] L2 (S.2.2.1 (11, j, t) 0 :: St) S := ev_go i116_1 rfl
theorem i116_4 : insAt 116 4 = some (.aload_n 0, 1, (0, 0, 0, 0), 0) := rfl
theorem s116_4 {c : Nat → List AV → SS → Option Out} {l1 : Option AV} {o : OId} {L2 : List (Nat × AV)} {St : List AV} {S : SS} : ev c 116 4 [some (aR o), l1] L2 St S = ev c 116 5 [some (aR o), l1] L2 (aR o :: St) S := ev_go i116_4 rfl
theorem i116_5 : insAt 116 5 = some (.iload_n 1, 1, (0, 0, 0, 0), 0) := rfl
theorem s116_5 {c : Nat → List AV → SS → Option Out} {l0 : Option AV} {x : Int32} {L2 : List (Nat × AV)} {St : List AV} {S : SS} : ev c 116 5 [l0, some (aI x)] L2 St S = ev c 116 6 [l0, some (aI x)] L2 (aI x :: St) S := ev_go i116_5 rfl
theorem i116_6 : insAt 116 6 = some (.invokevirtual 134, 3, (93, 1, 2, 11), 0) := rfl
theorem s116_6 {c : Nat → List AV → SS → Option Out} {l0 l1 : Option AV} {t0 : AV} {a0 : Int32} {j t : Nat} {L2 : List (Nat × AV)} {S : SS} : ev c 116 6 [l0, l1] L2 [aI a0, aR (11, j, t), t0] S = ck (c 93 [aR (11, j, t), aI a0] S) (fun v S' => ev c 116 9 [l0, l1] L2 (v.toList ++ [t0]) S') := ev_call i116_6 rfl
theorem i116_9 : insAt 116 9 = some (.invokevirtual 125, 3, (17, 1, 3, 4), 0) := rfl
theorem s116_9 {c : Nat → List AV → SS → Option Out} {l0 l1 : Option AV} {a0 : Int32} {j t : Nat} {L2 : List (Nat × AV)} {S : SS} : ev c 116 9 [l0, l1] L2 [aI a0, aR (4, j, t)] S = ck (c 17 [aR (4, j, t), aI a0] S) (fun v S' => ev c 116 12 [l0, l1] L2 (v.toList ++ []) S') := ev_call i116_9 rfl
theorem i116_12 : insAt 116 12 = some (.getfield 143, 3, (10, 4, 1, 0), 0) := rfl
theorem s116_12 {c : Nat → List AV → SS → Option Out} {l0 l1 : Option AV} {j t : Nat} {L2 : List (Nat × AV)} {St : List AV} {S : SS} : ev c 116 12 [l0, l1] L2 (aR (10, j, t) :: St) S = ev c 116 15 [l0, l1] L2 (aI (S.1 (10, j, t) 4) :: St) S := ev_go i116_12 rfl
theorem i116_15 : insAt 116 15 = some (.ireturn, 1, (0, 0, 0, 0), 0) := rfl
theorem s116_15 {c : Nat → List AV → SS → Option Out} {l0 l1 : Option AV} {x : Int32} {L2 : List (Nat × AV)} {St : List AV} {S : SS} : ev c 116 15 [l0, l1] L2 [aI x] S = some (.inl (some (aI x)), S) := ev_end i116_15 rfl
theorem m116 {d : Nat} {o : OId} {a0 : Int32} {S : SS} : evm (d + 1) 116 [aR o, aI a0] S = ev (evm d) 116 0 [some (aR o), some (aI a0)] [] [] S := evm_s (n := 2) rfl (Nat.le_of_ble_eq_true rfl) rfl rfl
/-! FrequencyOffice.isOnTrial(I)Z -/
theorem i118_0 : insAt 118 0 = some (.aload_n 0, 1, (0, 0, 0, 0), 0) := rfl
theorem s118_0 {c : Nat → List AV → SS → Option Out} {l1 : Option AV} {o : OId} {L2 : List (Nat × AV)} {St : List AV} {S : SS} : ev c 118 0 [some (aR o), l1] L2 St S = ev c 118 1 [some (aR o), l1] L2 (aR o :: St) S := ev_go i118_0 rfl
theorem i118_1 : insAt 118 1 = some (.getfield 10, 3, (11, 0, 0, 0), 0) := rfl
theorem s118_1 {c : Nat → List AV → SS → Option Out} {l0 l1 : Option AV} {j t : Nat} {L2 : List (Nat × AV)} {St : List AV} {S : SS} : ev c 118 1 [l0, l1] L2 (aR (11, j, t) :: St) S = ev c 118 4 [l0, l1] L2 (S.2.2.1 (11, j, t) 0 :: St) S := ev_go i118_1 rfl
theorem i118_4 : insAt 118 4 = some (.aload_n 0, 1, (0, 0, 0, 0), 0) := rfl
theorem s118_4 {c : Nat → List AV → SS → Option Out} {l1 : Option AV} {o : OId} {L2 : List (Nat × AV)} {St : List AV} {S : SS} : ev c 118 4 [some (aR o), l1] L2 St S = ev c 118 5 [some (aR o), l1] L2 (aR o :: St) S := ev_go i118_4 rfl
theorem i118_5 : insAt 118 5 = some (.iload_n 1, 1, (0, 0, 0, 0), 0) := rfl
theorem s118_5 {c : Nat → List AV → SS → Option Out} {l0 : Option AV} {x : Int32} {L2 : List (Nat × AV)} {St : List AV} {S : SS} : ev c 118 5 [l0, some (aI x)] L2 St S = ev c 118 6 [l0, some (aI x)] L2 (aI x :: St) S := ev_go i118_5 rfl
theorem i118_6 : insAt 118 6 = some (.invokevirtual 134, 3, (93, 1, 2, 11), 0) := rfl
theorem s118_6 {c : Nat → List AV → SS → Option Out} {l0 l1 : Option AV} {t0 : AV} {a0 : Int32} {j t : Nat} {L2 : List (Nat × AV)} {S : SS} : ev c 118 6 [l0, l1] L2 [aI a0, aR (11, j, t), t0] S = ck (c 93 [aR (11, j, t), aI a0] S) (fun v S' => ev c 118 9 [l0, l1] L2 (v.toList ++ [t0]) S') := ev_call i118_6 rfl
theorem i118_9 : insAt 118 9 = some (.invokevirtual 125, 3, (17, 1, 3, 4), 0) := rfl
theorem s118_9 {c : Nat → List AV → SS → Option Out} {l0 l1 : Option AV} {a0 : Int32} {j t : Nat} {L2 : List (Nat × AV)} {S : SS} : ev c 118 9 [l0, l1] L2 [aI a0, aR (4, j, t)] S = ck (c 17 [aR (4, j, t), aI a0] S) (fun v S' => ev c 118 12 [l0, l1] L2 (v.toList ++ []) S') := ev_call i118_9 rfl
theorem i118_12 : insAt 118 12 = some (.getfield 138, 3, (10, 5, 1, 0), 0) := rfl
theorem s118_12 {c : Nat → List AV → SS → Option Out} {l0 l1 : Option AV} {j t : Nat} {L2 : List (Nat × AV)} {St : List AV} {S : SS} : ev c 118 12 [l0, l1] L2 (aR (10, j, t) :: St) S = ev c 118 15 [l0, l1] L2 (aI (bb (S.1 (10, j, t) 5)) :: St) S := ev_go i118_12 rfl
theorem i118_15 : insAt 118 15 = some (.ireturn, 1, (0, 0, 0, 0), 0) := rfl
theorem s118_15 {c : Nat → List AV → SS → Option Out} {l0 l1 : Option AV} {x : Int32} {L2 : List (Nat × AV)} {St : List AV} {S : SS} : ev c 118 15 [l0, l1] L2 [aI x] S = if x = 0 ∨ x = 1 then some (.inl (some (aI x)), S) else none := ev_rt i118_15 rfl
theorem m118 {d : Nat} {o : OId} {a0 : Int32} {S : SS} : evm (d + 1) 118 [aR o, aI a0] S = ev (evm d) 118 0 [some (aR o), some (aI a0)] [] [] S := evm_s (n := 2) rfl (Nat.le_of_ble_eq_true rfl) rfl rfl
/-! FrequencyOffice.squaredDistance(II)I -/
theorem i120_0 : insAt 120 0 = some (.aload_n 0, 1, (0, 0, 0, 0), 0) := rfl
theorem s120_0 {c : Nat → List AV → SS → Option Out} {l1 l2 l3 : Option AV} {o : OId} {L2 : List (Nat × AV)} {St : List AV} {S : SS} : ev c 120 0 [some (aR o), l1, l2, l3] L2 St S = ev c 120 1 [some (aR o), l1, l2, l3] L2 (aR o :: St) S := ev_go i120_0 rfl
theorem i120_1 : insAt 120 1 = some (.iload_n 1, 1, (0, 0, 0, 0), 0) := rfl
theorem s120_1 {c : Nat → List AV → SS → Option Out} {l0 l2 l3 : Option AV} {x : Int32} {L2 : List (Nat × AV)} {St : List AV} {S : SS} : ev c 120 1 [l0, some (aI x), l2, l3] L2 St S = ev c 120 2 [l0, some (aI x), l2, l3] L2 (aI x :: St) S := ev_go i120_1 rfl
theorem i120_2 : insAt 120 2 = some (.invokevirtual 134, 3, (93, 1, 2, 11), 0) := rfl
theorem s120_2 {c : Nat → List AV → SS → Option Out} {l0 l1 l2 l3 : Option AV} {a0 : Int32} {j t : Nat} {L2 : List (Nat × AV)} {S : SS} : ev c 120 2 [l0, l1, l2, l3] L2 [aI a0, aR (11, j, t)] S = ck (c 93 [aR (11, j, t), aI a0] S) (fun v S' => ev c 120 5 [l0, l1, l2, l3] L2 (v.toList ++ []) S') := ev_call i120_2 rfl
theorem i120_5 : insAt 120 5 = some (.istore_n 3, 1, (0, 0, 0, 0), 0) := rfl
theorem s120_5 {c : Nat → List AV → SS → Option Out} {l0 l1 l2 l3 : Option AV} {x : Int32} {L2 : List (Nat × AV)} {St : List AV} {S : SS} : ev c 120 5 [l0, l1, l2, l3] L2 (aI x :: St) S = ev c 120 6 [l0, l1, l2, some (aI x)] (kil L2 3) St S := ev_go i120_5 rfl
theorem i120_6 : insAt 120 6 = some (.aload_n 0, 1, (0, 0, 0, 0), 0) := rfl
theorem s120_6 {c : Nat → List AV → SS → Option Out} {l1 l2 l3 : Option AV} {o : OId} {L2 : List (Nat × AV)} {St : List AV} {S : SS} : ev c 120 6 [some (aR o), l1, l2, l3] L2 St S = ev c 120 7 [some (aR o), l1, l2, l3] L2 (aR o :: St) S := ev_go i120_6 rfl
theorem i120_7 : insAt 120 7 = some (.getfield 10, 3, (11, 0, 0, 0), 0) := rfl
theorem s120_7 {c : Nat → List AV → SS → Option Out} {l0 l1 l2 l3 : Option AV} {j t : Nat} {L2 : List (Nat × AV)} {St : List AV} {S : SS} : ev c 120 7 [l0, l1, l2, l3] L2 (aR (11, j, t) :: St) S = ev c 120 10 [l0, l1, l2, l3] L2 (S.2.2.1 (11, j, t) 0 :: St) S := ev_go i120_7 rfl
theorem i120_10 : insAt 120 10 = some (.iload_n 3, 1, (0, 0, 0, 0), 0) := rfl
theorem s120_10 {c : Nat → List AV → SS → Option Out} {l0 l1 l2 : Option AV} {x : Int32} {L2 : List (Nat × AV)} {St : List AV} {S : SS} : ev c 120 10 [l0, l1, l2, some (aI x)] L2 St S = ev c 120 11 [l0, l1, l2, some (aI x)] L2 (aI x :: St) S := ev_go i120_10 rfl
theorem i120_11 : insAt 120 11 = some (.aload_n 0, 1, (0, 0, 0, 0), 0) := rfl
theorem s120_11 {c : Nat → List AV → SS → Option Out} {l1 l2 l3 : Option AV} {o : OId} {L2 : List (Nat × AV)} {St : List AV} {S : SS} : ev c 120 11 [some (aR o), l1, l2, l3] L2 St S = ev c 120 12 [some (aR o), l1, l2, l3] L2 (aR o :: St) S := ev_go i120_11 rfl
theorem i120_12 : insAt 120 12 = some (.iload_n 1, 1, (0, 0, 0, 0), 0) := rfl
theorem s120_12 {c : Nat → List AV → SS → Option Out} {l0 l2 l3 : Option AV} {x : Int32} {L2 : List (Nat × AV)} {St : List AV} {S : SS} : ev c 120 12 [l0, some (aI x), l2, l3] L2 St S = ev c 120 13 [l0, some (aI x), l2, l3] L2 (aI x :: St) S := ev_go i120_12 rfl
theorem i120_13 : insAt 120 13 = some (.iload_n 2, 1, (0, 0, 0, 0), 0) := rfl
theorem s120_13 {c : Nat → List AV → SS → Option Out} {l0 l1 l3 : Option AV} {x : Int32} {L2 : List (Nat × AV)} {St : List AV} {S : SS} : ev c 120 13 [l0, l1, some (aI x), l3] L2 St S = ev c 120 14 [l0, l1, some (aI x), l3] L2 (aI x :: St) S := ev_go i120_13 rfl
theorem i120_14 : insAt 120 14 = some (.invokevirtual 189, 3, (121, 2, 2, 11), 0) := rfl
theorem s120_14 {c : Nat → List AV → SS → Option Out} {l0 l1 l2 l3 : Option AV} {t0 t1 : AV} {a0 : Int32} {a1 : Int32} {j t : Nat} {L2 : List (Nat × AV)} {S : SS} : ev c 120 14 [l0, l1, l2, l3] L2 [aI a1, aI a0, aR (11, j, t), t0, t1] S = ck (c 121 [aR (11, j, t), aI a0, aI a1] S) (fun v S' => ev c 120 17 [l0, l1, l2, l3] L2 (v.toList ++ [t0, t1]) S') := ev_call i120_14 rfl
theorem i120_17 : insAt 120 17 = some (.invokevirtual 192, 3, (122, 2, 3, 4), 0) := rfl
theorem s120_17 {c : Nat → List AV → SS → Option Out} {l0 l1 l2 l3 : Option AV} {a0 : Int32} {a1 : Int32} {j t : Nat} {L2 : List (Nat × AV)} {S : SS} : ev c 120 17 [l0, l1, l2, l3] L2 [aI a1, aI a0, aR (4, j, t)] S = ck (c 122 [aR (4, j, t), aI a0, aI a1] S) (fun v S' => ev c 120 20 [l0, l1, l2, l3] L2 (v.toList ++ []) S') := ev_call i120_17 rfl
theorem i120_20 : insAt 120 20 = some (.ireturn, 1, (0, 0, 0, 0), 0) := rfl
theorem s120_20 {c : Nat → List AV → SS → Option Out} {l0 l1 l2 l3 : Option AV} {x : Int32} {L2 : List (Nat × AV)} {St : List AV} {S : SS} : ev c 120 20 [l0, l1, l2, l3] L2 [aI x] S = some (.inl (some (aI x)), S) := ev_end i120_20 rfl
theorem m120 {d : Nat} {o : OId} {a0 : Int32} {a1 : Int32} {S : SS} : evm (d + 1) 120 [aR o, aI a0, aI a1] S = ev (evm d) 120 0 [some (aR o), some (aI a0), some (aI a1), none] [] [] S := evm_s (n := 4) rfl (Nat.le_of_ble_eq_true rfl) rfl rfl
/-! FrequencyOffice.placeOfOther(II)I -/
theorem i121_0 : insAt 121 0 = some (.aload_n 0, 1, (0, 0, 0, 0), 0) := rfl
theorem s121_0 {c : Nat → List AV → SS → Option Out} {l1 l2 l3 : Option AV} {o : OId} {L2 : List (Nat × AV)} {St : List AV} {S : SS} : ev c 121 0 [some (aR o), l1, l2, l3] L2 St S = ev c 121 1 [some (aR o), l1, l2, l3] L2 (aR o :: St) S := ev_go i121_0 rfl
theorem i121_1 : insAt 121 1 = some (.iload_n 2, 1, (0, 0, 0, 0), 0) := rfl
theorem s121_1 {c : Nat → List AV → SS → Option Out} {l0 l1 l3 : Option AV} {x : Int32} {L2 : List (Nat × AV)} {St : List AV} {S : SS} : ev c 121 1 [l0, l1, some (aI x), l3] L2 St S = ev c 121 2 [l0, l1, some (aI x), l3] L2 (aI x :: St) S := ev_go i121_1 rfl
theorem i121_2 : insAt 121 2 = some (.invokevirtual 134, 3, (93, 1, 2, 11), 0) := rfl
theorem s121_2 {c : Nat → List AV → SS → Option Out} {l0 l1 l2 l3 : Option AV} {a0 : Int32} {j t : Nat} {L2 : List (Nat × AV)} {S : SS} : ev c 121 2 [l0, l1, l2, l3] L2 [aI a0, aR (11, j, t)] S = ck (c 93 [aR (11, j, t), aI a0] S) (fun v S' => ev c 121 5 [l0, l1, l2, l3] L2 (v.toList ++ []) S') := ev_call i121_2 rfl
theorem i121_5 : insAt 121 5 = some (.istore_n 3, 1, (0, 0, 0, 0), 0) := rfl
theorem s121_5 {c : Nat → List AV → SS → Option Out} {l0 l1 l2 l3 : Option AV} {x : Int32} {L2 : List (Nat × AV)} {St : List AV} {S : SS} : ev c 121 5 [l0, l1, l2, l3] L2 (aI x :: St) S = ev c 121 6 [l0, l1, l2, some (aI x)] (kil L2 3) St S := ev_go i121_5 rfl
theorem i121_6 : insAt 121 6 = some (.iload_n 1, 1, (0, 0, 0, 0), 0) := rfl
theorem s121_6 {c : Nat → List AV → SS → Option Out} {l0 l2 l3 : Option AV} {x : Int32} {L2 : List (Nat × AV)} {St : List AV} {S : SS} : ev c 121 6 [l0, some (aI x), l2, l3] L2 St S = ev c 121 7 [l0, some (aI x), l2, l3] L2 (aI x :: St) S := ev_go i121_6 rfl
theorem i121_7 : insAt 121 7 = some (.iload_n 2, 1, (0, 0, 0, 0), 0) := rfl
theorem s121_7 {c : Nat → List AV → SS → Option Out} {l0 l1 l3 : Option AV} {x : Int32} {L2 : List (Nat × AV)} {St : List AV} {S : SS} : ev c 121 7 [l0, l1, some (aI x), l3] L2 St S = ev c 121 8 [l0, l1, some (aI x), l3] L2 (aI x :: St) S := ev_go i121_7 rfl
theorem i121_8 : insAt 121 8 = some (.if_icmp .ne 14, 3, (0, 0, 0, 0), 0) := rfl
theorem s121_8 {c : Nat → List AV → SS → Option Out} {l0 l1 l2 l3 : Option AV} {x y : Int32} {L2 : List (Nat × AV)} {St : List AV} {S : SS} : ev c 121 8 [l0, l1, l2, l3] L2 (aI y :: aI x :: St) S = if x = y then ev c 121 11 [l0, l1, l2, l3] L2 St S else ev c 121 22 [l0, l1, l2, l3] L2 St S := (ev_br i121_8 rfl).trans (ite_not _ _ _)
theorem i121_11 : insAt 121 11 = some (.new 349, 3, (0, 0, 1, 0), 0) := rfl
theorem s121_11 {c : Nat → List AV → SS → Option Out} {l0 l1 l2 l3 : Option AV} {L2 : List (Nat × AV)} {S : SS} : ev c 121 11 [l0, l1, l2, l3] L2 [] S = some (.inr "java/lang/IllegalArgumentException", bump S 1 6) := ev_end i121_11 rfl
theorem i121_14 : insAt 121 14 = some (.dup, 1, (0, 0, 0, 0), 0) := rfl
theorem s121_14 {c : Nat → List AV → SS → Option Out} {l0 l1 l2 l3 : Option AV} {x : OId} {L2 : List (Nat × AV)} {St : List AV} {S : SS} : ev c 121 14 [l0, l1, l2, l3] L2 (aR x :: St) S = ev c 121 15 [l0, l1, l2, l3] L2 (aR x :: aR x :: St) S := ev_go i121_14 rfl
theorem i121_22 : insAt 121 22 = some (.iload_n 3, 1, (0, 0, 0, 0), 0) := rfl
theorem s121_22 {c : Nat → List AV → SS → Option Out} {l0 l1 l2 : Option AV} {x : Int32} {L2 : List (Nat × AV)} {St : List AV} {S : SS} : ev c 121 22 [l0, l1, l2, some (aI x)] L2 St S = ev c 121 23 [l0, l1, l2, some (aI x)] L2 (aI x :: St) S := ev_go i121_22 rfl
theorem i121_23 : insAt 121 23 = some (.ireturn, 1, (0, 0, 0, 0), 0) := rfl
theorem s121_23 {c : Nat → List AV → SS → Option Out} {l0 l1 l2 l3 : Option AV} {x : Int32} {L2 : List (Nat × AV)} {St : List AV} {S : SS} : ev c 121 23 [l0, l1, l2, l3] L2 [aI x] S = some (.inl (some (aI x)), S) := ev_end i121_23 rfl
theorem m121 {d : Nat} {o : OId} {a0 : Int32} {a1 : Int32} {S : SS} : evm (d + 1) 121 [aR o, aI a0, aI a1] S = ev (evm d) 121 0 [some (aR o), some (aI a0), some (aI a1), none] [] [] S := evm_s (n := 4) rfl (Nat.le_of_ble_eq_true rfl) rfl rfl
/-! FrequencyOffice.baseSeparation(II)I -/
theorem i124_0 : insAt 124 0 = some (.aload_n 0, 1, (0, 0, 0, 0), 0) := rfl
theorem s124_0 {c : Nat → List AV → SS → Option Out} {l1 l2 l3 : Option AV} {o : OId} {L2 : List (Nat × AV)} {St : List AV} {S : SS} : ev c 124 0 [some (aR o), l1, l2, l3] L2 St S = ev c 124 1 [some (aR o), l1, l2, l3] L2 (aR o :: St) S := ev_go i124_0 rfl
theorem i124_1 : insAt 124 1 = some (.iload_n 1, 1, (0, 0, 0, 0), 0) := rfl
theorem s124_1 {c : Nat → List AV → SS → Option Out} {l0 l2 l3 : Option AV} {x : Int32} {L2 : List (Nat × AV)} {St : List AV} {S : SS} : ev c 124 1 [l0, some (aI x), l2, l3] L2 St S = ev c 124 2 [l0, some (aI x), l2, l3] L2 (aI x :: St) S := ev_go i124_1 rfl
theorem i124_2 : insAt 124 2 = some (.invokevirtual 134, 3, (93, 1, 2, 11), 0) := rfl
theorem s124_2 {c : Nat → List AV → SS → Option Out} {l0 l1 l2 l3 : Option AV} {a0 : Int32} {j t : Nat} {L2 : List (Nat × AV)} {S : SS} : ev c 124 2 [l0, l1, l2, l3] L2 [aI a0, aR (11, j, t)] S = ck (c 93 [aR (11, j, t), aI a0] S) (fun v S' => ev c 124 5 [l0, l1, l2, l3] L2 (v.toList ++ []) S') := ev_call i124_2 rfl
theorem i124_5 : insAt 124 5 = some (.istore_n 3, 1, (0, 0, 0, 0), 0) := rfl
theorem s124_5 {c : Nat → List AV → SS → Option Out} {l0 l1 l2 l3 : Option AV} {x : Int32} {L2 : List (Nat × AV)} {St : List AV} {S : SS} : ev c 124 5 [l0, l1, l2, l3] L2 (aI x :: St) S = ev c 124 6 [l0, l1, l2, some (aI x)] (kil L2 3) St S := ev_go i124_5 rfl
theorem i124_6 : insAt 124 6 = some (.aload_n 0, 1, (0, 0, 0, 0), 0) := rfl
theorem s124_6 {c : Nat → List AV → SS → Option Out} {l1 l2 l3 : Option AV} {o : OId} {L2 : List (Nat × AV)} {St : List AV} {S : SS} : ev c 124 6 [some (aR o), l1, l2, l3] L2 St S = ev c 124 7 [some (aR o), l1, l2, l3] L2 (aR o :: St) S := ev_go i124_6 rfl
theorem i124_7 : insAt 124 7 = some (.getfield 10, 3, (11, 0, 0, 0), 0) := rfl
theorem s124_7 {c : Nat → List AV → SS → Option Out} {l0 l1 l2 l3 : Option AV} {j t : Nat} {L2 : List (Nat × AV)} {St : List AV} {S : SS} : ev c 124 7 [l0, l1, l2, l3] L2 (aR (11, j, t) :: St) S = ev c 124 10 [l0, l1, l2, l3] L2 (S.2.2.1 (11, j, t) 0 :: St) S := ev_go i124_7 rfl
theorem i124_10 : insAt 124 10 = some (.iload_n 3, 1, (0, 0, 0, 0), 0) := rfl
theorem s124_10 {c : Nat → List AV → SS → Option Out} {l0 l1 l2 : Option AV} {x : Int32} {L2 : List (Nat × AV)} {St : List AV} {S : SS} : ev c 124 10 [l0, l1, l2, some (aI x)] L2 St S = ev c 124 11 [l0, l1, l2, some (aI x)] L2 (aI x :: St) S := ev_go i124_10 rfl
theorem i124_11 : insAt 124 11 = some (.aload_n 0, 1, (0, 0, 0, 0), 0) := rfl
theorem s124_11 {c : Nat → List AV → SS → Option Out} {l1 l2 l3 : Option AV} {o : OId} {L2 : List (Nat × AV)} {St : List AV} {S : SS} : ev c 124 11 [some (aR o), l1, l2, l3] L2 St S = ev c 124 12 [some (aR o), l1, l2, l3] L2 (aR o :: St) S := ev_go i124_11 rfl
theorem i124_12 : insAt 124 12 = some (.iload_n 1, 1, (0, 0, 0, 0), 0) := rfl
theorem s124_12 {c : Nat → List AV → SS → Option Out} {l0 l2 l3 : Option AV} {x : Int32} {L2 : List (Nat × AV)} {St : List AV} {S : SS} : ev c 124 12 [l0, some (aI x), l2, l3] L2 St S = ev c 124 13 [l0, some (aI x), l2, l3] L2 (aI x :: St) S := ev_go i124_12 rfl
theorem i124_13 : insAt 124 13 = some (.iload_n 2, 1, (0, 0, 0, 0), 0) := rfl
theorem s124_13 {c : Nat → List AV → SS → Option Out} {l0 l1 l3 : Option AV} {x : Int32} {L2 : List (Nat × AV)} {St : List AV} {S : SS} : ev c 124 13 [l0, l1, some (aI x), l3] L2 St S = ev c 124 14 [l0, l1, some (aI x), l3] L2 (aI x :: St) S := ev_go i124_13 rfl
theorem i124_14 : insAt 124 14 = some (.invokevirtual 189, 3, (121, 2, 2, 11), 0) := rfl
theorem s124_14 {c : Nat → List AV → SS → Option Out} {l0 l1 l2 l3 : Option AV} {t0 t1 : AV} {a0 : Int32} {a1 : Int32} {j t : Nat} {L2 : List (Nat × AV)} {S : SS} : ev c 124 14 [l0, l1, l2, l3] L2 [aI a1, aI a0, aR (11, j, t), t0, t1] S = ck (c 121 [aR (11, j, t), aI a0, aI a1] S) (fun v S' => ev c 124 17 [l0, l1, l2, l3] L2 (v.toList ++ [t0, t1]) S') := ev_call i124_14 rfl
theorem i124_17 : insAt 124 17 = some (.invokevirtual 195, 3, (27, 2, 3, 4), 0) := rfl
theorem s124_17 {c : Nat → List AV → SS → Option Out} {l0 l1 l2 l3 : Option AV} {a0 : Int32} {a1 : Int32} {j t : Nat} {L2 : List (Nat × AV)} {S : SS} : ev c 124 17 [l0, l1, l2, l3] L2 [aI a1, aI a0, aR (4, j, t)] S = ck (c 27 [aR (4, j, t), aI a0, aI a1] S) (fun v S' => ev c 124 20 [l0, l1, l2, l3] L2 (v.toList ++ []) S') := ev_call i124_17 rfl
theorem i124_20 : insAt 124 20 = some (.ireturn, 1, (0, 0, 0, 0), 0) := rfl
theorem s124_20 {c : Nat → List AV → SS → Option Out} {l0 l1 l2 l3 : Option AV} {x : Int32} {L2 : List (Nat × AV)} {St : List AV} {S : SS} : ev c 124 20 [l0, l1, l2, l3] L2 [aI x] S = some (.inl (some (aI x)), S) := ev_end i124_20 rfl
theorem m124 {d : Nat} {o : OId} {a0 : Int32} {a1 : Int32} {S : SS} : evm (d + 1) 124 [aR o, aI a0, aI a1] S = ev (evm d) 124 0 [some (aR o), some (aI a0), some (aI a1), none] [] [] S := evm_s (n := 4) rfl (Nat.le_of_ble_eq_true rfl) rfl rfl
/-! FrequencyOffice.complaintCount(II)I -/
theorem i126_0 : insAt 126 0 = some (.aload_n 0, 1, (0, 0, 0, 0), 0) := rfl
theorem s126_0 {c : Nat → List AV → SS → Option Out} {l1 l2 l3 : Option AV} {o : OId} {L2 : List (Nat × AV)} {St : List AV} {S : SS} : ev c 126 0 [some (aR o), l1, l2, l3] L2 St S = ev c 126 1 [some (aR o), l1, l2, l3] L2 (aR o :: St) S := ev_go i126_0 rfl
theorem i126_1 : insAt 126 1 = some (.iload_n 1, 1, (0, 0, 0, 0), 0) := rfl
theorem s126_1 {c : Nat → List AV → SS → Option Out} {l0 l2 l3 : Option AV} {x : Int32} {L2 : List (Nat × AV)} {St : List AV} {S : SS} : ev c 126 1 [l0, some (aI x), l2, l3] L2 St S = ev c 126 2 [l0, some (aI x), l2, l3] L2 (aI x :: St) S := ev_go i126_1 rfl
theorem i126_2 : insAt 126 2 = some (.invokevirtual 134, 3, (93, 1, 2, 11), 0) := rfl
theorem s126_2 {c : Nat → List AV → SS → Option Out} {l0 l1 l2 l3 : Option AV} {a0 : Int32} {j t : Nat} {L2 : List (Nat × AV)} {S : SS} : ev c 126 2 [l0, l1, l2, l3] L2 [aI a0, aR (11, j, t)] S = ck (c 93 [aR (11, j, t), aI a0] S) (fun v S' => ev c 126 5 [l0, l1, l2, l3] L2 (v.toList ++ []) S') := ev_call i126_2 rfl
theorem i126_5 : insAt 126 5 = some (.istore_n 3, 1, (0, 0, 0, 0), 0) := rfl
theorem s126_5 {c : Nat → List AV → SS → Option Out} {l0 l1 l2 l3 : Option AV} {x : Int32} {L2 : List (Nat × AV)} {St : List AV} {S : SS} : ev c 126 5 [l0, l1, l2, l3] L2 (aI x :: St) S = ev c 126 6 [l0, l1, l2, some (aI x)] (kil L2 3) St S := ev_go i126_5 rfl
theorem i126_6 : insAt 126 6 = some (.aload_n 0, 1, (0, 0, 0, 0), 0) := rfl
theorem s126_6 {c : Nat → List AV → SS → Option Out} {l1 l2 l3 : Option AV} {o : OId} {L2 : List (Nat × AV)} {St : List AV} {S : SS} : ev c 126 6 [some (aR o), l1, l2, l3] L2 St S = ev c 126 7 [some (aR o), l1, l2, l3] L2 (aR o :: St) S := ev_go i126_6 rfl
theorem i126_7 : insAt 126 7 = some (.getfield 10, 3, (11, 0, 0, 0), 0) := rfl
theorem s126_7 {c : Nat → List AV → SS → Option Out} {l0 l1 l2 l3 : Option AV} {j t : Nat} {L2 : List (Nat × AV)} {St : List AV} {S : SS} : ev c 126 7 [l0, l1, l2, l3] L2 (aR (11, j, t) :: St) S = ev c 126 10 [l0, l1, l2, l3] L2 (S.2.2.1 (11, j, t) 0 :: St) S := ev_go i126_7 rfl
theorem i126_10 : insAt 126 10 = some (.iload_n 3, 1, (0, 0, 0, 0), 0) := rfl
theorem s126_10 {c : Nat → List AV → SS → Option Out} {l0 l1 l2 : Option AV} {x : Int32} {L2 : List (Nat × AV)} {St : List AV} {S : SS} : ev c 126 10 [l0, l1, l2, some (aI x)] L2 St S = ev c 126 11 [l0, l1, l2, some (aI x)] L2 (aI x :: St) S := ev_go i126_10 rfl
theorem i126_11 : insAt 126 11 = some (.aload_n 0, 1, (0, 0, 0, 0), 0) := rfl
theorem s126_11 {c : Nat → List AV → SS → Option Out} {l1 l2 l3 : Option AV} {o : OId} {L2 : List (Nat × AV)} {St : List AV} {S : SS} : ev c 126 11 [some (aR o), l1, l2, l3] L2 St S = ev c 126 12 [some (aR o), l1, l2, l3] L2 (aR o :: St) S := ev_go i126_11 rfl
theorem i126_12 : insAt 126 12 = some (.iload_n 1, 1, (0, 0, 0, 0), 0) := rfl
theorem s126_12 {c : Nat → List AV → SS → Option Out} {l0 l2 l3 : Option AV} {x : Int32} {L2 : List (Nat × AV)} {St : List AV} {S : SS} : ev c 126 12 [l0, some (aI x), l2, l3] L2 St S = ev c 126 13 [l0, some (aI x), l2, l3] L2 (aI x :: St) S := ev_go i126_12 rfl
theorem i126_13 : insAt 126 13 = some (.iload_n 2, 1, (0, 0, 0, 0), 0) := rfl
theorem s126_13 {c : Nat → List AV → SS → Option Out} {l0 l1 l3 : Option AV} {x : Int32} {L2 : List (Nat × AV)} {St : List AV} {S : SS} : ev c 126 13 [l0, l1, some (aI x), l3] L2 St S = ev c 126 14 [l0, l1, some (aI x), l3] L2 (aI x :: St) S := ev_go i126_13 rfl
theorem i126_14 : insAt 126 14 = some (.invokevirtual 189, 3, (121, 2, 2, 11), 0) := rfl
theorem s126_14 {c : Nat → List AV → SS → Option Out} {l0 l1 l2 l3 : Option AV} {t0 t1 : AV} {a0 : Int32} {a1 : Int32} {j t : Nat} {L2 : List (Nat × AV)} {S : SS} : ev c 126 14 [l0, l1, l2, l3] L2 [aI a1, aI a0, aR (11, j, t), t0, t1] S = ck (c 121 [aR (11, j, t), aI a0, aI a1] S) (fun v S' => ev c 126 17 [l0, l1, l2, l3] L2 (v.toList ++ [t0, t1]) S') := ev_call i126_14 rfl
theorem i126_17 : insAt 126 17 = some (.invokevirtual 198, 3, (30, 2, 3, 4), 0) := rfl
theorem s126_17 {c : Nat → List AV → SS → Option Out} {l0 l1 l2 l3 : Option AV} {a0 : Int32} {a1 : Int32} {j t : Nat} {L2 : List (Nat × AV)} {S : SS} : ev c 126 17 [l0, l1, l2, l3] L2 [aI a1, aI a0, aR (4, j, t)] S = ck (c 30 [aR (4, j, t), aI a0, aI a1] S) (fun v S' => ev c 126 20 [l0, l1, l2, l3] L2 (v.toList ++ []) S') := ev_call i126_17 rfl
theorem i126_20 : insAt 126 20 = some (.ireturn, 1, (0, 0, 0, 0), 0) := rfl
theorem s126_20 {c : Nat → List AV → SS → Option Out} {l0 l1 l2 l3 : Option AV} {x : Int32} {L2 : List (Nat × AV)} {St : List AV} {S : SS} : ev c 126 20 [l0, l1, l2, l3] L2 [aI x] S = some (.inl (some (aI x)), S) := ev_end i126_20 rfl
theorem m126 {d : Nat} {o : OId} {a0 : Int32} {a1 : Int32} {S : SS} : evm (d + 1) 126 [aR o, aI a0, aI a1] S = ev (evm d) 126 0 [some (aR o), some (aI a0), some (aI a1), none] [] [] S := evm_s (n := 4) rfl (Nat.le_of_ble_eq_true rfl) rfl rfl
/-! FrequencyOffice.separation(II)I -/
theorem i128_0 : insAt 128 0 = some (.aload_n 0, 1, (0, 0, 0, 0), 0) := rfl
theorem s128_0 {c : Nat → List AV → SS → Option Out} {l1 l2 l3 : Option AV} {o : OId} {L2 : List (Nat × AV)} {St : List AV} {S : SS} : ev c 128 0 [some (aR o), l1, l2, l3] L2 St S = ev c 128 1 [some (aR o), l1, l2, l3] L2 (aR o :: St) S := ev_go i128_0 rfl
theorem i128_1 : insAt 128 1 = some (.iload_n 1, 1, (0, 0, 0, 0), 0) := rfl
theorem s128_1 {c : Nat → List AV → SS → Option Out} {l0 l2 l3 : Option AV} {x : Int32} {L2 : List (Nat × AV)} {St : List AV} {S : SS} : ev c 128 1 [l0, some (aI x), l2, l3] L2 St S = ev c 128 2 [l0, some (aI x), l2, l3] L2 (aI x :: St) S := ev_go i128_1 rfl
theorem i128_2 : insAt 128 2 = some (.invokevirtual 134, 3, (93, 1, 2, 11), 0) := rfl
theorem s128_2 {c : Nat → List AV → SS → Option Out} {l0 l1 l2 l3 : Option AV} {a0 : Int32} {j t : Nat} {L2 : List (Nat × AV)} {S : SS} : ev c 128 2 [l0, l1, l2, l3] L2 [aI a0, aR (11, j, t)] S = ck (c 93 [aR (11, j, t), aI a0] S) (fun v S' => ev c 128 5 [l0, l1, l2, l3] L2 (v.toList ++ []) S') := ev_call i128_2 rfl
theorem i128_5 : insAt 128 5 = some (.istore_n 3, 1, (0, 0, 0, 0), 0) := rfl
theorem s128_5 {c : Nat → List AV → SS → Option Out} {l0 l1 l2 l3 : Option AV} {x : Int32} {L2 : List (Nat × AV)} {St : List AV} {S : SS} : ev c 128 5 [l0, l1, l2, l3] L2 (aI x :: St) S = ev c 128 6 [l0, l1, l2, some (aI x)] (kil L2 3) St S := ev_go i128_5 rfl
theorem i128_6 : insAt 128 6 = some (.aload_n 0, 1, (0, 0, 0, 0), 0) := rfl
theorem s128_6 {c : Nat → List AV → SS → Option Out} {l1 l2 l3 : Option AV} {o : OId} {L2 : List (Nat × AV)} {St : List AV} {S : SS} : ev c 128 6 [some (aR o), l1, l2, l3] L2 St S = ev c 128 7 [some (aR o), l1, l2, l3] L2 (aR o :: St) S := ev_go i128_6 rfl
theorem i128_7 : insAt 128 7 = some (.getfield 10, 3, (11, 0, 0, 0), 0) := rfl
theorem s128_7 {c : Nat → List AV → SS → Option Out} {l0 l1 l2 l3 : Option AV} {j t : Nat} {L2 : List (Nat × AV)} {St : List AV} {S : SS} : ev c 128 7 [l0, l1, l2, l3] L2 (aR (11, j, t) :: St) S = ev c 128 10 [l0, l1, l2, l3] L2 (S.2.2.1 (11, j, t) 0 :: St) S := ev_go i128_7 rfl
theorem i128_10 : insAt 128 10 = some (.iload_n 3, 1, (0, 0, 0, 0), 0) := rfl
theorem s128_10 {c : Nat → List AV → SS → Option Out} {l0 l1 l2 : Option AV} {x : Int32} {L2 : List (Nat × AV)} {St : List AV} {S : SS} : ev c 128 10 [l0, l1, l2, some (aI x)] L2 St S = ev c 128 11 [l0, l1, l2, some (aI x)] L2 (aI x :: St) S := ev_go i128_10 rfl
theorem i128_11 : insAt 128 11 = some (.aload_n 0, 1, (0, 0, 0, 0), 0) := rfl
theorem s128_11 {c : Nat → List AV → SS → Option Out} {l1 l2 l3 : Option AV} {o : OId} {L2 : List (Nat × AV)} {St : List AV} {S : SS} : ev c 128 11 [some (aR o), l1, l2, l3] L2 St S = ev c 128 12 [some (aR o), l1, l2, l3] L2 (aR o :: St) S := ev_go i128_11 rfl
theorem i128_12 : insAt 128 12 = some (.iload_n 1, 1, (0, 0, 0, 0), 0) := rfl
theorem s128_12 {c : Nat → List AV → SS → Option Out} {l0 l2 l3 : Option AV} {x : Int32} {L2 : List (Nat × AV)} {St : List AV} {S : SS} : ev c 128 12 [l0, some (aI x), l2, l3] L2 St S = ev c 128 13 [l0, some (aI x), l2, l3] L2 (aI x :: St) S := ev_go i128_12 rfl
theorem i128_13 : insAt 128 13 = some (.iload_n 2, 1, (0, 0, 0, 0), 0) := rfl
theorem s128_13 {c : Nat → List AV → SS → Option Out} {l0 l1 l3 : Option AV} {x : Int32} {L2 : List (Nat × AV)} {St : List AV} {S : SS} : ev c 128 13 [l0, l1, some (aI x), l3] L2 St S = ev c 128 14 [l0, l1, some (aI x), l3] L2 (aI x :: St) S := ev_go i128_13 rfl
theorem i128_14 : insAt 128 14 = some (.invokevirtual 189, 3, (121, 2, 2, 11), 0) := rfl
theorem s128_14 {c : Nat → List AV → SS → Option Out} {l0 l1 l2 l3 : Option AV} {t0 t1 : AV} {a0 : Int32} {a1 : Int32} {j t : Nat} {L2 : List (Nat × AV)} {S : SS} : ev c 128 14 [l0, l1, l2, l3] L2 [aI a1, aI a0, aR (11, j, t), t0, t1] S = ck (c 121 [aR (11, j, t), aI a0, aI a1] S) (fun v S' => ev c 128 17 [l0, l1, l2, l3] L2 (v.toList ++ [t0, t1]) S') := ev_call i128_14 rfl
theorem i128_17 : insAt 128 17 = some (.invokevirtual 201, 3, (26, 2, 3, 4), 0) := rfl
theorem s128_17 {c : Nat → List AV → SS → Option Out} {l0 l1 l2 l3 : Option AV} {a0 : Int32} {a1 : Int32} {j t : Nat} {L2 : List (Nat × AV)} {S : SS} : ev c 128 17 [l0, l1, l2, l3] L2 [aI a1, aI a0, aR (4, j, t)] S = ck (c 26 [aR (4, j, t), aI a0, aI a1] S) (fun v S' => ev c 128 20 [l0, l1, l2, l3] L2 (v.toList ++ []) S') := ev_call i128_17 rfl
theorem i128_20 : insAt 128 20 = some (.ireturn, 1, (0, 0, 0, 0), 0) := rfl
theorem s128_20 {c : Nat → List AV → SS → Option Out} {l0 l1 l2 l3 : Option AV} {x : Int32} {L2 : List (Nat × AV)} {St : List AV} {S : SS} : ev c 128 20 [l0, l1, l2, l3] L2 [aI x] S = some (.inl (some (aI x)), S) := ev_end i128_20 rfl
theorem m128 {d : Nat} {o : OId} {a0 : Int32} {a1 : Int32} {S : SS} : evm (d + 1) 128 [aR o, aI a0, aI a1] S = ev (evm d) 128 0 [some (aR o), some (aI a0), some (aI a1), none] [] [] S := evm_s (n := 4) rfl (Nat.le_of_ble_eq_true rfl) rfl rfl
/-! FrequencyOffice.margin(II)I -/
theorem i130_0 : insAt 130 0 = some (.aload_n 0, 1, (0, 0, 0, 0), 0) := rfl
theorem s130_0 {c : Nat → List AV → SS → Option Out} {l1 l2 l3 : Option AV} {o : OId} {L2 : List (Nat × AV)} {St : List AV} {S : SS} : ev c 130 0 [some (aR o), l1, l2, l3] L2 St S = ev c 130 1 [some (aR o), l1, l2, l3] L2 (aR o :: St) S := ev_go i130_0 rfl
theorem i130_1 : insAt 130 1 = some (.iload_n 1, 1, (0, 0, 0, 0), 0) := rfl
theorem s130_1 {c : Nat → List AV → SS → Option Out} {l0 l2 l3 : Option AV} {x : Int32} {L2 : List (Nat × AV)} {St : List AV} {S : SS} : ev c 130 1 [l0, some (aI x), l2, l3] L2 St S = ev c 130 2 [l0, some (aI x), l2, l3] L2 (aI x :: St) S := ev_go i130_1 rfl
theorem i130_2 : insAt 130 2 = some (.invokevirtual 134, 3, (93, 1, 2, 11), 0) := rfl
theorem s130_2 {c : Nat → List AV → SS → Option Out} {l0 l1 l2 l3 : Option AV} {a0 : Int32} {j t : Nat} {L2 : List (Nat × AV)} {S : SS} : ev c 130 2 [l0, l1, l2, l3] L2 [aI a0, aR (11, j, t)] S = ck (c 93 [aR (11, j, t), aI a0] S) (fun v S' => ev c 130 5 [l0, l1, l2, l3] L2 (v.toList ++ []) S') := ev_call i130_2 rfl
theorem i130_5 : insAt 130 5 = some (.istore_n 3, 1, (0, 0, 0, 0), 0) := rfl
theorem s130_5 {c : Nat → List AV → SS → Option Out} {l0 l1 l2 l3 : Option AV} {x : Int32} {L2 : List (Nat × AV)} {St : List AV} {S : SS} : ev c 130 5 [l0, l1, l2, l3] L2 (aI x :: St) S = ev c 130 6 [l0, l1, l2, some (aI x)] (kil L2 3) St S := ev_go i130_5 rfl
theorem i130_6 : insAt 130 6 = some (.aload_n 0, 1, (0, 0, 0, 0), 0) := rfl
theorem s130_6 {c : Nat → List AV → SS → Option Out} {l1 l2 l3 : Option AV} {o : OId} {L2 : List (Nat × AV)} {St : List AV} {S : SS} : ev c 130 6 [some (aR o), l1, l2, l3] L2 St S = ev c 130 7 [some (aR o), l1, l2, l3] L2 (aR o :: St) S := ev_go i130_6 rfl
theorem i130_7 : insAt 130 7 = some (.getfield 10, 3, (11, 0, 0, 0), 0) := rfl
theorem s130_7 {c : Nat → List AV → SS → Option Out} {l0 l1 l2 l3 : Option AV} {j t : Nat} {L2 : List (Nat × AV)} {St : List AV} {S : SS} : ev c 130 7 [l0, l1, l2, l3] L2 (aR (11, j, t) :: St) S = ev c 130 10 [l0, l1, l2, l3] L2 (S.2.2.1 (11, j, t) 0 :: St) S := ev_go i130_7 rfl
theorem i130_10 : insAt 130 10 = some (.iload_n 3, 1, (0, 0, 0, 0), 0) := rfl
theorem s130_10 {c : Nat → List AV → SS → Option Out} {l0 l1 l2 : Option AV} {x : Int32} {L2 : List (Nat × AV)} {St : List AV} {S : SS} : ev c 130 10 [l0, l1, l2, some (aI x)] L2 St S = ev c 130 11 [l0, l1, l2, some (aI x)] L2 (aI x :: St) S := ev_go i130_10 rfl
theorem i130_11 : insAt 130 11 = some (.aload_n 0, 1, (0, 0, 0, 0), 0) := rfl
theorem s130_11 {c : Nat → List AV → SS → Option Out} {l1 l2 l3 : Option AV} {o : OId} {L2 : List (Nat × AV)} {St : List AV} {S : SS} : ev c 130 11 [some (aR o), l1, l2, l3] L2 St S = ev c 130 12 [some (aR o), l1, l2, l3] L2 (aR o :: St) S := ev_go i130_11 rfl
theorem i130_12 : insAt 130 12 = some (.iload_n 1, 1, (0, 0, 0, 0), 0) := rfl
theorem s130_12 {c : Nat → List AV → SS → Option Out} {l0 l2 l3 : Option AV} {x : Int32} {L2 : List (Nat × AV)} {St : List AV} {S : SS} : ev c 130 12 [l0, some (aI x), l2, l3] L2 St S = ev c 130 13 [l0, some (aI x), l2, l3] L2 (aI x :: St) S := ev_go i130_12 rfl
theorem i130_13 : insAt 130 13 = some (.iload_n 2, 1, (0, 0, 0, 0), 0) := rfl
theorem s130_13 {c : Nat → List AV → SS → Option Out} {l0 l1 l3 : Option AV} {x : Int32} {L2 : List (Nat × AV)} {St : List AV} {S : SS} : ev c 130 13 [l0, l1, some (aI x), l3] L2 St S = ev c 130 14 [l0, l1, some (aI x), l3] L2 (aI x :: St) S := ev_go i130_13 rfl
theorem i130_14 : insAt 130 14 = some (.invokevirtual 189, 3, (121, 2, 2, 11), 0) := rfl
theorem s130_14 {c : Nat → List AV → SS → Option Out} {l0 l1 l2 l3 : Option AV} {t0 t1 : AV} {a0 : Int32} {a1 : Int32} {j t : Nat} {L2 : List (Nat × AV)} {S : SS} : ev c 130 14 [l0, l1, l2, l3] L2 [aI a1, aI a0, aR (11, j, t), t0, t1] S = ck (c 121 [aR (11, j, t), aI a0, aI a1] S) (fun v S' => ev c 130 17 [l0, l1, l2, l3] L2 (v.toList ++ [t0, t1]) S') := ev_call i130_14 rfl
theorem i130_17 : insAt 130 17 = some (.invokevirtual 204, 3, (24, 2, 3, 4), 0) := rfl
theorem s130_17 {c : Nat → List AV → SS → Option Out} {l0 l1 l2 l3 : Option AV} {a0 : Int32} {a1 : Int32} {j t : Nat} {L2 : List (Nat × AV)} {S : SS} : ev c 130 17 [l0, l1, l2, l3] L2 [aI a1, aI a0, aR (4, j, t)] S = ck (c 24 [aR (4, j, t), aI a0, aI a1] S) (fun v S' => ev c 130 20 [l0, l1, l2, l3] L2 (v.toList ++ []) S') := ev_call i130_17 rfl
theorem i130_20 : insAt 130 20 = some (.ireturn, 1, (0, 0, 0, 0), 0) := rfl
theorem s130_20 {c : Nat → List AV → SS → Option Out} {l0 l1 l2 l3 : Option AV} {x : Int32} {L2 : List (Nat × AV)} {St : List AV} {S : SS} : ev c 130 20 [l0, l1, l2, l3] L2 [aI x] S = some (.inl (some (aI x)), S) := ev_end i130_20 rfl
theorem m130 {d : Nat} {o : OId} {a0 : Int32} {a1 : Int32} {S : SS} : evm (d + 1) 130 [aR o, aI a0, aI a1] S = ev (evm d) 130 0 [some (aR o), some (aI a0), some (aI a1), none] [] [] S := evm_s (n := 4) rfl (Nat.le_of_ble_eq_true rfl) rfl rfl
/-! FrequencyOffice.conflictsAt(III)I -/
theorem i132_0 : insAt 132 0 = some (.iload_n 1, 1, (0, 0, 0, 0), 0) := rfl
theorem s132_0 {c : Nat → List AV → SS → Option Out} {l0 l2 l3 : Option AV} {x : Int32} {L2 : List (Nat × AV)} {St : List AV} {S : SS} : ev c 132 0 [l0, some (aI x), l2, l3] L2 St S = ev c 132 1 [l0, some (aI x), l2, l3] L2 (aI x :: St) S := ev_go i132_0 rfl
theorem i132_1 : insAt 132 1 = some (.iload_n 2, 1, (0, 0, 0, 0), 0) := rfl
theorem s132_1 {c : Nat → List AV → SS → Option Out} {l0 l1 l3 : Option AV} {x : Int32} {L2 : List (Nat × AV)} {St : List AV} {S : SS} : ev c 132 1 [l0, l1, some (aI x), l3] L2 St S = ev c 132 2 [l0, l1, some (aI x), l3] L2 (aI x :: St) S := ev_go i132_1 rfl
theorem i132_2 : insAt 132 2 = some (.invokestatic 84, 3, (66, 2, 0, 0), 0) := rfl
theorem s132_2 {c : Nat → List AV → SS → Option Out} {l0 l1 l2 l3 : Option AV} {a0 : Int32} {a1 : Int32} {L2 : List (Nat × AV)} {S : SS} : ev c 132 2 [l0, l1, l2, l3] L2 [aI a1, aI a0] S = ck (c 66 [aI a0, aI a1] S) (fun v S' => ev c 132 5 [l0, l1, l2, l3] L2 (v.toList ++ []) S') := ev_call i132_2 rfl
theorem i132_5 : insAt 132 5 = some (.iload_n 3, 1, (0, 0, 0, 0), 0) := rfl
theorem s132_5 {c : Nat → List AV → SS → Option Out} {l0 l1 l2 : Option AV} {x : Int32} {L2 : List (Nat × AV)} {St : List AV} {S : SS} : ev c 132 5 [l0, l1, l2, some (aI x)] L2 St S = ev c 132 6 [l0, l1, l2, some (aI x)] L2 (aI x :: St) S := ev_go i132_5 rfl
theorem i132_6 : insAt 132 6 = some (.invokestatic 207, 3, (133, 1, 0, 0), 0) := rfl
theorem s132_6 {c : Nat → List AV → SS → Option Out} {l0 l1 l2 l3 : Option AV} {a0 : Int32} {L2 : List (Nat × AV)} {S : SS} : ev c 132 6 [l0, l1, l2, l3] L2 [aI a0] S = ck (c 133 [aI a0] S) (fun v S' => ev c 132 9 [l0, l1, l2, l3] L2 (v.toList ++ []) S') := ev_call i132_6 rfl
theorem i132_9 : insAt 132 9 = some (.aload_n 0, 1, (0, 0, 0, 0), 0) := rfl
theorem s132_9 {c : Nat → List AV → SS → Option Out} {l1 l2 l3 : Option AV} {o : OId} {L2 : List (Nat × AV)} {St : List AV} {S : SS} : ev c 132 9 [some (aR o), l1, l2, l3] L2 St S = ev c 132 10 [some (aR o), l1, l2, l3] L2 (aR o :: St) S := ev_go i132_9 rfl
theorem i132_10 : insAt 132 10 = some (.getfield 10, 3, (11, 0, 0, 0), 0) := rfl
theorem s132_10 {c : Nat → List AV → SS → Option Out} {l0 l1 l2 l3 : Option AV} {j t : Nat} {L2 : List (Nat × AV)} {St : List AV} {S : SS} : ev c 132 10 [l0, l1, l2, l3] L2 (aR (11, j, t) :: St) S = ev c 132 13 [l0, l1, l2, l3] L2 (S.2.2.1 (11, j, t) 0 :: St) S := ev_go i132_10 rfl
theorem i132_13 : insAt 132 13 = some (.iload_n 1, 1, (0, 0, 0, 0), 0) := rfl
theorem s132_13 {c : Nat → List AV → SS → Option Out} {l0 l2 l3 : Option AV} {x : Int32} {L2 : List (Nat × AV)} {St : List AV} {S : SS} : ev c 132 13 [l0, some (aI x), l2, l3] L2 St S = ev c 132 14 [l0, some (aI x), l2, l3] L2 (aI x :: St) S := ev_go i132_13 rfl
theorem i132_14 : insAt 132 14 = some (.iload_n 2, 1, (0, 0, 0, 0), 0) := rfl
theorem s132_14 {c : Nat → List AV → SS → Option Out} {l0 l1 l3 : Option AV} {x : Int32} {L2 : List (Nat × AV)} {St : List AV} {S : SS} : ev c 132 14 [l0, l1, some (aI x), l3] L2 St S = ev c 132 15 [l0, l1, some (aI x), l3] L2 (aI x :: St) S := ev_go i132_14 rfl
theorem i132_15 : insAt 132 15 = some (.iload_n 3, 1, (0, 0, 0, 0), 0) := rfl
theorem s132_15 {c : Nat → List AV → SS → Option Out} {l0 l1 l2 : Option AV} {x : Int32} {L2 : List (Nat × AV)} {St : List AV} {S : SS} : ev c 132 15 [l0, l1, l2, some (aI x)] L2 St S = ev c 132 16 [l0, l1, l2, some (aI x)] L2 (aI x :: St) S := ev_go i132_15 rfl
theorem i132_16 : insAt 132 16 = some (.invokevirtual 210, 3, (90, 3, 3, 4), 0) := rfl
theorem s132_16 {c : Nat → List AV → SS → Option Out} {l0 l1 l2 l3 : Option AV} {a0 : Int32} {a1 : Int32} {a2 : Int32} {j t : Nat} {L2 : List (Nat × AV)} {S : SS} : ev c 132 16 [l0, l1, l2, l3] L2 [aI a2, aI a1, aI a0, aR (4, j, t)] S = ck (c 90 [aR (4, j, t), aI a0, aI a1, aI a2] S) (fun v S' => ev c 132 19 [l0, l1, l2, l3] L2 (v.toList ++ []) S') := ev_call i132_16 rfl
theorem i132_19 : insAt 132 19 = some (.ireturn, 1, (0, 0, 0, 0), 0) := rfl
theorem s132_19 {c : Nat → List AV → SS → Option Out} {l0 l1 l2 l3 : Option AV} {x : Int32} {L2 : List (Nat × AV)} {St : List AV} {S : SS} : ev c 132 19 [l0, l1, l2, l3] L2 [aI x] S = some (.inl (some (aI x)), S) := ev_end i132_19 rfl
theorem m132 {d : Nat} {o : OId} {a0 : Int32} {a1 : Int32} {a2 : Int32} {S : SS} : evm (d + 1) 132 [aR o, aI a0, aI a1, aI a2] S = ev (evm d) 132 0 [some (aR o), some (aI a0), some (aI a1), some (aI a2)] [] [] S := evm_s (n := 4) rfl (Nat.le_of_ble_eq_true rfl) rfl rfl
/-! FrequencyOffice.checkChannel(I)V -/
theorem i133_0 : insAt 133 0 = some (.iload_n 0, 1, (0, 0, 0, 0), 0) := rfl
theorem s133_0 {c : Nat → List AV → SS → Option Out} {x : Int32} {L2 : List (Nat × AV)} {St : List AV} {S : SS} : ev c 133 0 [some (aI x)] L2 St S = ev c 133 1 [some (aI x)] L2 (aI x :: St) S := ev_go i133_0 rfl
theorem i133_1 : insAt 133 1 = some (.iconst 0, 1, (0, 0, 0, 0), 0) := rfl
theorem s133_1 {c : Nat → List AV → SS → Option Out} {l0 : Option AV} {L2 : List (Nat × AV)} {St : List AV} {S : SS} : ev c 133 1 [l0] L2 St S = ev c 133 2 [l0] L2 (aI 0 :: St) S := ev_go i133_1 rfl
theorem i133_2 : insAt 133 2 = some (.bipush 7, 2, (0, 0, 0, 0), 0) := rfl
theorem s133_2 {c : Nat → List AV → SS → Option Out} {l0 : Option AV} {L2 : List (Nat × AV)} {St : List AV} {S : SS} : ev c 133 2 [l0] L2 St S = ev c 133 4 [l0] L2 (aI 7 :: St) S := ev_go i133_2 rfl
theorem i133_4 : insAt 133 4 = some (.invokestatic 56, 3, (61, 3, 0, 0), 0) := rfl
theorem s133_4 {c : Nat → List AV → SS → Option Out} {l0 : Option AV} {a0 : Int32} {a1 : Int32} {a2 : Int32} {L2 : List (Nat × AV)} {S : SS} : ev c 133 4 [l0] L2 [aI a2, aI a1, aI a0] S = ck (c 61 [aI a0, aI a1, aI a2] S) (fun v S' => ev c 133 7 [l0] L2 (v.toList ++ []) S') := ev_call i133_4 rfl
theorem i133_7 : insAt 133 7 = some (.return_, 1, (0, 0, 0, 0), 0) := rfl
theorem s133_7 {c : Nat → List AV → SS → Option Out} {l0 : Option AV} {L2 : List (Nat × AV)} {St : List AV} {S : SS} : ev c 133 7 [l0] L2 [] S = some (.inl none, S) := ev_end i133_7 rfl
theorem m133 {d : Nat} {a0 : Int32} {S : SS} : evm (d + 1) 133 [aI a0] S = ev (evm d) 133 0 [some (aI a0)] [] [] S := evm_s (n := 1) rfl (Nat.le_of_ble_eq_true rfl) rfl rfl
/-! FrequencyOffice.disturbanceAt(III)I -/
theorem i135_0 : insAt 135 0 = some (.iload_n 1, 1, (0, 0, 0, 0), 0) := rfl
theorem s135_0 {c : Nat → List AV → SS → Option Out} {l0 l2 l3 : Option AV} {x : Int32} {L2 : List (Nat × AV)} {St : List AV} {S : SS} : ev c 135 0 [l0, some (aI x), l2, l3] L2 St S = ev c 135 1 [l0, some (aI x), l2, l3] L2 (aI x :: St) S := ev_go i135_0 rfl
theorem i135_1 : insAt 135 1 = some (.iload_n 2, 1, (0, 0, 0, 0), 0) := rfl
theorem s135_1 {c : Nat → List AV → SS → Option Out} {l0 l1 l3 : Option AV} {x : Int32} {L2 : List (Nat × AV)} {St : List AV} {S : SS} : ev c 135 1 [l0, l1, some (aI x), l3] L2 St S = ev c 135 2 [l0, l1, some (aI x), l3] L2 (aI x :: St) S := ev_go i135_1 rfl
theorem i135_2 : insAt 135 2 = some (.invokestatic 84, 3, (66, 2, 0, 0), 0) := rfl
theorem s135_2 {c : Nat → List AV → SS → Option Out} {l0 l1 l2 l3 : Option AV} {a0 : Int32} {a1 : Int32} {L2 : List (Nat × AV)} {S : SS} : ev c 135 2 [l0, l1, l2, l3] L2 [aI a1, aI a0] S = ck (c 66 [aI a0, aI a1] S) (fun v S' => ev c 135 5 [l0, l1, l2, l3] L2 (v.toList ++ []) S') := ev_call i135_2 rfl
theorem i135_5 : insAt 135 5 = some (.iload_n 3, 1, (0, 0, 0, 0), 0) := rfl
theorem s135_5 {c : Nat → List AV → SS → Option Out} {l0 l1 l2 : Option AV} {x : Int32} {L2 : List (Nat × AV)} {St : List AV} {S : SS} : ev c 135 5 [l0, l1, l2, some (aI x)] L2 St S = ev c 135 6 [l0, l1, l2, some (aI x)] L2 (aI x :: St) S := ev_go i135_5 rfl
theorem i135_6 : insAt 135 6 = some (.invokestatic 207, 3, (133, 1, 0, 0), 0) := rfl
theorem s135_6 {c : Nat → List AV → SS → Option Out} {l0 l1 l2 l3 : Option AV} {a0 : Int32} {L2 : List (Nat × AV)} {S : SS} : ev c 135 6 [l0, l1, l2, l3] L2 [aI a0] S = ck (c 133 [aI a0] S) (fun v S' => ev c 135 9 [l0, l1, l2, l3] L2 (v.toList ++ []) S') := ev_call i135_6 rfl
theorem i135_9 : insAt 135 9 = some (.aload_n 0, 1, (0, 0, 0, 0), 0) := rfl
theorem s135_9 {c : Nat → List AV → SS → Option Out} {l1 l2 l3 : Option AV} {o : OId} {L2 : List (Nat × AV)} {St : List AV} {S : SS} : ev c 135 9 [some (aR o), l1, l2, l3] L2 St S = ev c 135 10 [some (aR o), l1, l2, l3] L2 (aR o :: St) S := ev_go i135_9 rfl
theorem i135_10 : insAt 135 10 = some (.getfield 10, 3, (11, 0, 0, 0), 0) := rfl
theorem s135_10 {c : Nat → List AV → SS → Option Out} {l0 l1 l2 l3 : Option AV} {j t : Nat} {L2 : List (Nat × AV)} {St : List AV} {S : SS} : ev c 135 10 [l0, l1, l2, l3] L2 (aR (11, j, t) :: St) S = ev c 135 13 [l0, l1, l2, l3] L2 (S.2.2.1 (11, j, t) 0 :: St) S := ev_go i135_10 rfl
theorem i135_13 : insAt 135 13 = some (.iload_n 1, 1, (0, 0, 0, 0), 0) := rfl
theorem s135_13 {c : Nat → List AV → SS → Option Out} {l0 l2 l3 : Option AV} {x : Int32} {L2 : List (Nat × AV)} {St : List AV} {S : SS} : ev c 135 13 [l0, some (aI x), l2, l3] L2 St S = ev c 135 14 [l0, some (aI x), l2, l3] L2 (aI x :: St) S := ev_go i135_13 rfl
theorem i135_14 : insAt 135 14 = some (.iload_n 2, 1, (0, 0, 0, 0), 0) := rfl
theorem s135_14 {c : Nat → List AV → SS → Option Out} {l0 l1 l3 : Option AV} {x : Int32} {L2 : List (Nat × AV)} {St : List AV} {S : SS} : ev c 135 14 [l0, l1, some (aI x), l3] L2 St S = ev c 135 15 [l0, l1, some (aI x), l3] L2 (aI x :: St) S := ev_go i135_14 rfl
theorem i135_15 : insAt 135 15 = some (.iload_n 3, 1, (0, 0, 0, 0), 0) := rfl
theorem s135_15 {c : Nat → List AV → SS → Option Out} {l0 l1 l2 : Option AV} {x : Int32} {L2 : List (Nat × AV)} {St : List AV} {S : SS} : ev c 135 15 [l0, l1, l2, some (aI x)] L2 St S = ev c 135 16 [l0, l1, l2, some (aI x)] L2 (aI x :: St) S := ev_go i135_15 rfl
theorem i135_16 : insAt 135 16 = some (.iconst (-1), 1, (0, 0, 0, 0), 0) := rfl
theorem s135_16 {c : Nat → List AV → SS → Option Out} {l0 l1 l2 l3 : Option AV} {L2 : List (Nat × AV)} {St : List AV} {S : SS} : ev c 135 16 [l0, l1, l2, l3] L2 St S = ev c 135 17 [l0, l1, l2, l3] L2 (aI (-1) :: St) S := ev_go i135_16 rfl
theorem i135_17 : insAt 135 17 = some (.invokevirtual 214, 3, (89, 4, 3, 4), 0) := rfl
theorem s135_17 {c : Nat → List AV → SS → Option Out} {l0 l1 l2 l3 : Option AV} {a0 : Int32} {a1 : Int32} {a2 : Int32} {a3 : Int32} {j t : Nat} {L2 : List (Nat × AV)} {S : SS} : ev c 135 17 [l0, l1, l2, l3] L2 [aI a3, aI a2, aI a1, aI a0, aR (4, j, t)] S = ck (c 89 [aR (4, j, t), aI a0, aI a1, aI a2, aI a3] S) (fun v S' => ev c 135 20 [l0, l1, l2, l3] L2 (v.toList ++ []) S') := ev_call i135_17 rfl
theorem i135_20 : insAt 135 20 = some (.ireturn, 1, (0, 0, 0, 0), 0) := rfl
theorem s135_20 {c : Nat → List AV → SS → Option Out} {l0 l1 l2 l3 : Option AV} {x : Int32} {L2 : List (Nat × AV)} {St : List AV} {S : SS} : ev c 135 20 [l0, l1, l2, l3] L2 [aI x] S = some (.inl (some (aI x)), S) := ev_end i135_20 rfl
theorem m135 {d : Nat} {o : OId} {a0 : Int32} {a1 : Int32} {a2 : Int32} {S : SS} : evm (d + 1) 135 [aR o, aI a0, aI a1, aI a2] S = ev (evm d) 135 0 [some (aR o), some (aI a0), some (aI a1), some (aI a2)] [] [] S := evm_s (n := 4) rfl (Nat.le_of_ble_eq_true rfl) rfl rfl
/-! FrequencyOffice.meanDisturbance()F -/
theorem i137_0 : insAt 137 0 = some (.aload_n 0, 1, (0, 0, 0, 0), 0) := rfl
theorem s137_0 {c : Nat → List AV → SS → Option Out} {l1 : Option AV} {o : OId} {L2 : List (Nat × AV)} {St : List AV} {S : SS} : ev c 137 0 [some (aR o), l1] L2 St S = ev c 137 1 [some (aR o), l1] L2 (aR o :: St) S := ev_go i137_0 rfl
theorem i137_1 : insAt 137 1 = some (.getfield 10, 3, (11, 0, 0, 0), 0) := rfl
theorem s137_1 {c : Nat → List AV → SS → Option Out} {l0 l1 : Option AV} {j t : Nat} {L2 : List (Nat × AV)} {St : List AV} {S : SS} : ev c 137 1 [l0, l1] L2 (aR (11, j, t) :: St) S = ev c 137 4 [l0, l1] L2 (S.2.2.1 (11, j, t) 0 :: St) S := ev_go i137_1 rfl
theorem i137_4 : insAt 137 4 = some (.invokevirtual 164, 3, (16, 0, 3, 4), 0) := rfl
theorem s137_4 {c : Nat → List AV → SS → Option Out} {l0 l1 : Option AV} {j t : Nat} {L2 : List (Nat × AV)} {S : SS} : ev c 137 4 [l0, l1] L2 [aR (4, j, t)] S = ck (c 16 [aR (4, j, t)] S) (fun v S' => ev c 137 7 [l0, l1] L2 (v.toList ++ []) S') := ev_call i137_4 rfl
theorem i137_7 : insAt 137 7 = some (.istore_n 1, 1, (0, 0, 0, 0), 0) := rfl
theorem s137_7 {c : Nat → List AV → SS → Option Out} {l0 l1 : Option AV} {x : Int32} {L2 : List (Nat × AV)} {St : List AV} {S : SS} : ev c 137 7 [l0, l1] L2 (aI x :: St) S = ev c 137 8 [l0, some (aI x)] (kil L2 1) St S := ev_go i137_7 rfl
theorem i137_8 : insAt 137 8 = some (.iload_n 1, 1, (0, 0, 0, 0), 0) := rfl
theorem s137_8 {c : Nat → List AV → SS → Option Out} {l0 : Option AV} {x : Int32} {L2 : List (Nat × AV)} {St : List AV} {S : SS} : ev c 137 8 [l0, some (aI x)] L2 St S = ev c 137 9 [l0, some (aI x)] L2 (aI x :: St) S := ev_go i137_8 rfl
theorem i137_9 : insAt 137 9 = some (.ifCond .ne 13, 3, (0, 0, 0, 0), 0) := rfl
theorem s137_9 {c : Nat → List AV → SS → Option Out} {l0 l1 : Option AV} {x : Int32} {L2 : List (Nat × AV)} {St : List AV} {S : SS} : ev c 137 9 [l0, l1] L2 (aI x :: St) S = if x = 0 then ev c 137 12 [l0, l1] L2 St S else ev c 137 22 [l0, l1] L2 St S := (ev_br i137_9 rfl).trans (ite_not _ _ _)
theorem i137_12 : insAt 137 12 = some (.new 218, 3, (5, 0, 1, 0), 0) := rfl
theorem s137_12 {c : Nat → List AV → SS → Option Out} {l0 l1 : Option AV} {L2 : List (Nat × AV)} {S : SS} : ev c 137 12 [l0, l1] L2 [] S = some (.inr "java/lang/ArithmeticException", bump S 1 6) := ev_end i137_12 rfl
theorem i137_15 : insAt 137 15 = some (.dup, 1, (0, 0, 0, 0), 0) := rfl
theorem s137_15 {c : Nat → List AV → SS → Option Out} {l0 l1 : Option AV} {x : OId} {L2 : List (Nat × AV)} {St : List AV} {S : SS} : ev c 137 15 [l0, l1] L2 (aR x :: St) S = ev c 137 16 [l0, l1] L2 (aR x :: aR x :: St) S := ev_go i137_15 rfl
theorem i137_22 : insAt 137 22 = some (.aload_n 0, 1, (0, 0, 0, 0), 0) := rfl
theorem s137_22 {c : Nat → List AV → SS → Option Out} {l1 : Option AV} {o : OId} {L2 : List (Nat × AV)} {St : List AV} {S : SS} : ev c 137 22 [some (aR o), l1] L2 St S = ev c 137 23 [some (aR o), l1] L2 (aR o :: St) S := ev_go i137_22 rfl
theorem i137_23 : insAt 137 23 = some (.getfield 10, 3, (11, 0, 0, 0), 0) := rfl
theorem s137_23 {c : Nat → List AV → SS → Option Out} {l0 l1 : Option AV} {j t : Nat} {L2 : List (Nat × AV)} {St : List AV} {S : SS} : ev c 137 23 [l0, l1] L2 (aR (11, j, t) :: St) S = ev c 137 26 [l0, l1] L2 (S.2.2.1 (11, j, t) 0 :: St) S := ev_go i137_23 rfl
theorem i137_26 : insAt 137 26 = some (.invokevirtual 223, 3, (138, 0, 3, 4), 0) := rfl
theorem s137_26 {c : Nat → List AV → SS → Option Out} {l0 l1 : Option AV} {j t : Nat} {L2 : List (Nat × AV)} {S : SS} : ev c 137 26 [l0, l1] L2 [aR (4, j, t)] S = ck (c 138 [aR (4, j, t)] S) (fun v S' => ev c 137 29 [l0, l1] L2 (v.toList ++ []) S') := ev_call i137_26 rfl
theorem i137_29 : insAt 137 29 = some (.i2f, 1, (0, 0, 0, 0), 0) := rfl
theorem s137_29 {c : Nat → List AV → SS → Option Out} {l0 l1 : Option AV} {x : Int32} {L2 : List (Nat × AV)} {St : List AV} {S : SS} : ev c 137 29 [l0, l1] L2 (aI x :: St) S = ev c 137 30 [l0, l1] L2 (aF (FP.i2f x) :: St) S := ev_go i137_29 rfl
theorem i137_30 : insAt 137 30 = some (.iload_n 1, 1, (0, 0, 0, 0), 0) := rfl
theorem s137_30 {c : Nat → List AV → SS → Option Out} {l0 : Option AV} {x : Int32} {L2 : List (Nat × AV)} {St : List AV} {S : SS} : ev c 137 30 [l0, some (aI x)] L2 St S = ev c 137 31 [l0, some (aI x)] L2 (aI x :: St) S := ev_go i137_30 rfl
theorem i137_31 : insAt 137 31 = some (.i2f, 1, (0, 0, 0, 0), 0) := rfl
theorem s137_31 {c : Nat → List AV → SS → Option Out} {l0 l1 : Option AV} {x : Int32} {L2 : List (Nat × AV)} {St : List AV} {S : SS} : ev c 137 31 [l0, l1] L2 (aI x :: St) S = ev c 137 32 [l0, l1] L2 (aF (FP.i2f x) :: St) S := ev_go i137_31 rfl
theorem i137_32 : insAt 137 32 = some (.fdiv, 1, (0, 0, 0, 0), 0) := rfl
theorem s137_32 {c : Nat → List AV → SS → Option Out} {l0 l1 : Option AV} {x y : UInt32} {L2 : List (Nat × AV)} {St : List AV} {S : SS} : ev c 137 32 [l0, l1] L2 (aF y :: aF x :: St) S = if FP.fdiv x y &&& 0x7fffffff ≤ 0x7f800000 then ev c 137 33 [l0, l1] L2 (aF (FP.fdiv x y) :: St) S else none := ev_if i137_32 rfl
theorem i137_33 : insAt 137 33 = some (.freturn, 1, (0, 0, 0, 0), 0) := rfl
theorem s137_33 {c : Nat → List AV → SS → Option Out} {l0 l1 : Option AV} {x : UInt32} {L2 : List (Nat × AV)} {St : List AV} {S : SS} : ev c 137 33 [l0, l1] L2 [aF x] S = some (.inl (some (aF x)), S) := ev_end i137_33 rfl
theorem m137 {d : Nat} {o : OId} {S : SS} : evm (d + 1) 137 [aR o] S = ev (evm d) 137 0 [some (aR o), none] [] [] S := evm_s (n := 2) rfl (Nat.le_of_ble_eq_true rfl) rfl rfl
/-! FrequencyOffice.openChannels(II)I -/
theorem i140_0 : insAt 140 0 = some (.iload_n 1, 1, (0, 0, 0, 0), 0) := rfl
theorem s140_0 {c : Nat → List AV → SS → Option Out} {l0 l2 : Option AV} {x : Int32} {L2 : List (Nat × AV)} {St : List AV} {S : SS} : ev c 140 0 [l0, some (aI x), l2] L2 St S = ev c 140 1 [l0, some (aI x), l2] L2 (aI x :: St) S := ev_go i140_0 rfl
theorem i140_1 : insAt 140 1 = some (.iload_n 2, 1, (0, 0, 0, 0), 0) := rfl
theorem s140_1 {c : Nat → List AV → SS → Option Out} {l0 l1 : Option AV} {x : Int32} {L2 : List (Nat × AV)} {St : List AV} {S : SS} : ev c 140 1 [l0, l1, some (aI x)] L2 St S = ev c 140 2 [l0, l1, some (aI x)] L2 (aI x :: St) S := ev_go i140_1 rfl
theorem i140_2 : insAt 140 2 = some (.invokestatic 84, 3, (66, 2, 0, 0), 0) := rfl
theorem s140_2 {c : Nat → List AV → SS → Option Out} {l0 l1 l2 : Option AV} {a0 : Int32} {a1 : Int32} {L2 : List (Nat × AV)} {S : SS} : ev c 140 2 [l0, l1, l2] L2 [aI a1, aI a0] S = ck (c 66 [aI a0, aI a1] S) (fun v S' => ev c 140 5 [l0, l1, l2] L2 (v.toList ++ []) S') := ev_call i140_2 rfl
theorem i140_5 : insAt 140 5 = some (.aload_n 0, 1, (0, 0, 0, 0), 0) := rfl
theorem s140_5 {c : Nat → List AV → SS → Option Out} {l1 l2 : Option AV} {o : OId} {L2 : List (Nat × AV)} {St : List AV} {S : SS} : ev c 140 5 [some (aR o), l1, l2] L2 St S = ev c 140 6 [some (aR o), l1, l2] L2 (aR o :: St) S := ev_go i140_5 rfl
theorem i140_6 : insAt 140 6 = some (.getfield 38, 3, (11, 4, 0, 0), 0) := rfl
theorem s140_6 {c : Nat → List AV → SS → Option Out} {l0 l1 l2 : Option AV} {j t : Nat} {L2 : List (Nat × AV)} {St : List AV} {S : SS} : ev c 140 6 [l0, l1, l2] L2 (aR (11, j, t) :: St) S = ev c 140 9 [l0, l1, l2] L2 (S.2.2.1 (11, j, t) 4 :: St) S := ev_go i140_6 rfl
theorem i140_9 : insAt 140 9 = some (.aload_n 0, 1, (0, 0, 0, 0), 0) := rfl
theorem s140_9 {c : Nat → List AV → SS → Option Out} {l1 l2 : Option AV} {o : OId} {L2 : List (Nat × AV)} {St : List AV} {S : SS} : ev c 140 9 [some (aR o), l1, l2] L2 St S = ev c 140 10 [some (aR o), l1, l2] L2 (aR o :: St) S := ev_go i140_9 rfl
theorem i140_10 : insAt 140 10 = some (.getfield 10, 3, (11, 0, 0, 0), 0) := rfl
theorem s140_10 {c : Nat → List AV → SS → Option Out} {l0 l1 l2 : Option AV} {j t : Nat} {L2 : List (Nat × AV)} {St : List AV} {S : SS} : ev c 140 10 [l0, l1, l2] L2 (aR (11, j, t) :: St) S = ev c 140 13 [l0, l1, l2] L2 (S.2.2.1 (11, j, t) 0 :: St) S := ev_go i140_10 rfl
theorem i140_13 : insAt 140 13 = some (.iload_n 1, 1, (0, 0, 0, 0), 0) := rfl
theorem s140_13 {c : Nat → List AV → SS → Option Out} {l0 l2 : Option AV} {x : Int32} {L2 : List (Nat × AV)} {St : List AV} {S : SS} : ev c 140 13 [l0, some (aI x), l2] L2 St S = ev c 140 14 [l0, some (aI x), l2] L2 (aI x :: St) S := ev_go i140_13 rfl
theorem i140_14 : insAt 140 14 = some (.iload_n 2, 1, (0, 0, 0, 0), 0) := rfl
theorem s140_14 {c : Nat → List AV → SS → Option Out} {l0 l1 : Option AV} {x : Int32} {L2 : List (Nat × AV)} {St : List AV} {S : SS} : ev c 140 14 [l0, l1, some (aI x)] L2 St S = ev c 140 15 [l0, l1, some (aI x)] L2 (aI x :: St) S := ev_go i140_14 rfl
theorem i140_15 : insAt 140 15 = some (.invokevirtual 91, 3, (68, 3, 3, 8), 0) := rfl
theorem s140_15 {c : Nat → List AV → SS → Option Out} {l0 l1 l2 : Option AV} {a0 : OId} {a1 : Int32} {a2 : Int32} {j t : Nat} {L2 : List (Nat × AV)} {S : SS} : ev c 140 15 [l0, l1, l2] L2 [aI a2, aI a1, aR a0, aR (8, j, t)] S = ck (c 68 [aR (8, j, t), aR a0, aI a1, aI a2] S) (fun v S' => ev c 140 18 [l0, l1, l2] L2 (v.toList ++ []) S') := ev_call i140_15 rfl
theorem i140_18 : insAt 140 18 = some (.aload_n 0, 1, (0, 0, 0, 0), 0) := rfl
theorem s140_18 {c : Nat → List AV → SS → Option Out} {l1 l2 : Option AV} {o : OId} {L2 : List (Nat × AV)} {St : List AV} {S : SS} : ev c 140 18 [some (aR o), l1, l2] L2 St S = ev c 140 19 [some (aR o), l1, l2] L2 (aR o :: St) S := ev_go i140_18 rfl
theorem i140_19 : insAt 140 19 = some (.getfield 38, 3, (11, 4, 0, 0), 0) := rfl
theorem s140_19 {c : Nat → List AV → SS → Option Out} {l0 l1 l2 : Option AV} {j t : Nat} {L2 : List (Nat × AV)} {St : List AV} {S : SS} : ev c 140 19 [l0, l1, l2] L2 (aR (11, j, t) :: St) S = ev c 140 22 [l0, l1, l2] L2 (S.2.2.1 (11, j, t) 4 :: St) S := ev_go i140_19 rfl
theorem i140_22 : insAt 140 22 = some (.invokevirtual 230, 3, (74, 0, 3, 8), 0) := rfl
theorem s140_22 {c : Nat → List AV → SS → Option Out} {l0 l1 l2 : Option AV} {j t : Nat} {L2 : List (Nat × AV)} {S : SS} : ev c 140 22 [l0, l1, l2] L2 [aR (8, j, t)] S = ck (c 74 [aR (8, j, t)] S) (fun v S' => ev c 140 25 [l0, l1, l2] L2 (v.toList ++ []) S') := ev_call i140_22 rfl
theorem i140_25 : insAt 140 25 = some (.ireturn, 1, (0, 0, 0, 0), 0) := rfl
theorem s140_25 {c : Nat → List AV → SS → Option Out} {l0 l1 l2 : Option AV} {x : Int32} {L2 : List (Nat × AV)} {St : List AV} {S : SS} : ev c 140 25 [l0, l1, l2] L2 [aI x] S = some (.inl (some (aI x)), S) := ev_end i140_25 rfl
theorem m140 {d : Nat} {o : OId} {a0 : Int32} {a1 : Int32} {S : SS} : evm (d + 1) 140 [aR o, aI a0, aI a1] S = ev (evm d) 140 0 [some (aR o), some (aI a0), some (aI a1)] [] [] S := evm_s (n := 3) rfl (Nat.le_of_ble_eq_true rfl) rfl rfl
/-! FrequencyOffice.movesFor(II)I -/
theorem i142_0 : insAt 142 0 = some (.iload_n 1, 1, (0, 0, 0, 0), 0) := rfl
theorem s142_0 {c : Nat → List AV → SS → Option Out} {l0 l2 : Option AV} {x : Int32} {L2 : List (Nat × AV)} {St : List AV} {S : SS} : ev c 142 0 [l0, some (aI x), l2] L2 St S = ev c 142 1 [l0, some (aI x), l2] L2 (aI x :: St) S := ev_go i142_0 rfl
theorem i142_1 : insAt 142 1 = some (.iload_n 2, 1, (0, 0, 0, 0), 0) := rfl
theorem s142_1 {c : Nat → List AV → SS → Option Out} {l0 l1 : Option AV} {x : Int32} {L2 : List (Nat × AV)} {St : List AV} {S : SS} : ev c 142 1 [l0, l1, some (aI x)] L2 St S = ev c 142 2 [l0, l1, some (aI x)] L2 (aI x :: St) S := ev_go i142_1 rfl
theorem i142_2 : insAt 142 2 = some (.invokestatic 84, 3, (66, 2, 0, 0), 0) := rfl
theorem s142_2 {c : Nat → List AV → SS → Option Out} {l0 l1 l2 : Option AV} {a0 : Int32} {a1 : Int32} {L2 : List (Nat × AV)} {S : SS} : ev c 142 2 [l0, l1, l2] L2 [aI a1, aI a0] S = ck (c 66 [aI a0, aI a1] S) (fun v S' => ev c 142 5 [l0, l1, l2] L2 (v.toList ++ []) S') := ev_call i142_2 rfl
theorem i142_5 : insAt 142 5 = some (.aload_n 0, 1, (0, 0, 0, 0), 0) := rfl
theorem s142_5 {c : Nat → List AV → SS → Option Out} {l1 l2 : Option AV} {o : OId} {L2 : List (Nat × AV)} {St : List AV} {S : SS} : ev c 142 5 [some (aR o), l1, l2] L2 St S = ev c 142 6 [some (aR o), l1, l2] L2 (aR o :: St) S := ev_go i142_5 rfl
theorem i142_6 : insAt 142 6 = some (.getfield 38, 3, (11, 4, 0, 0), 0) := rfl
theorem s142_6 {c : Nat → List AV → SS → Option Out} {l0 l1 l2 : Option AV} {j t : Nat} {L2 : List (Nat × AV)} {St : List AV} {S : SS} : ev c 142 6 [l0, l1, l2] L2 (aR (11, j, t) :: St) S = ev c 142 9 [l0, l1, l2] L2 (S.2.2.1 (11, j, t) 4 :: St) S := ev_go i142_6 rfl
theorem i142_9 : insAt 142 9 = some (.aload_n 0, 1, (0, 0, 0, 0), 0) := rfl
theorem s142_9 {c : Nat → List AV → SS → Option Out} {l1 l2 : Option AV} {o : OId} {L2 : List (Nat × AV)} {St : List AV} {S : SS} : ev c 142 9 [some (aR o), l1, l2] L2 St S = ev c 142 10 [some (aR o), l1, l2] L2 (aR o :: St) S := ev_go i142_9 rfl
theorem i142_10 : insAt 142 10 = some (.getfield 10, 3, (11, 0, 0, 0), 0) := rfl
theorem s142_10 {c : Nat → List AV → SS → Option Out} {l0 l1 l2 : Option AV} {j t : Nat} {L2 : List (Nat × AV)} {St : List AV} {S : SS} : ev c 142 10 [l0, l1, l2] L2 (aR (11, j, t) :: St) S = ev c 142 13 [l0, l1, l2] L2 (S.2.2.1 (11, j, t) 0 :: St) S := ev_go i142_10 rfl
theorem i142_13 : insAt 142 13 = some (.iload_n 1, 1, (0, 0, 0, 0), 0) := rfl
theorem s142_13 {c : Nat → List AV → SS → Option Out} {l0 l2 : Option AV} {x : Int32} {L2 : List (Nat × AV)} {St : List AV} {S : SS} : ev c 142 13 [l0, some (aI x), l2] L2 St S = ev c 142 14 [l0, some (aI x), l2] L2 (aI x :: St) S := ev_go i142_13 rfl
theorem i142_14 : insAt 142 14 = some (.iload_n 2, 1, (0, 0, 0, 0), 0) := rfl
theorem s142_14 {c : Nat → List AV → SS → Option Out} {l0 l1 : Option AV} {x : Int32} {L2 : List (Nat × AV)} {St : List AV} {S : SS} : ev c 142 14 [l0, l1, some (aI x)] L2 St S = ev c 142 15 [l0, l1, some (aI x)] L2 (aI x :: St) S := ev_go i142_14 rfl
theorem i142_15 : insAt 142 15 = some (.invokevirtual 91, 3, (68, 3, 3, 8), 0) := rfl
theorem s142_15 {c : Nat → List AV → SS → Option Out} {l0 l1 l2 : Option AV} {a0 : OId} {a1 : Int32} {a2 : Int32} {j t : Nat} {L2 : List (Nat × AV)} {S : SS} : ev c 142 15 [l0, l1, l2] L2 [aI a2, aI a1, aR a0, aR (8, j, t)] S = ck (c 68 [aR (8, j, t), aR a0, aI a1, aI a2] S) (fun v S' => ev c 142 18 [l0, l1, l2] L2 (v.toList ++ []) S') := ev_call i142_15 rfl
theorem i142_18 : insAt 142 18 = some (.aload_n 0, 1, (0, 0, 0, 0), 0) := rfl
theorem s142_18 {c : Nat → List AV → SS → Option Out} {l1 l2 : Option AV} {o : OId} {L2 : List (Nat × AV)} {St : List AV} {S : SS} : ev c 142 18 [some (aR o), l1, l2] L2 St S = ev c 142 19 [some (aR o), l1, l2] L2 (aR o :: St) S := ev_go i142_18 rfl
theorem i142_19 : insAt 142 19 = some (.invokevirtual 95, 3, (70, 0, 2, 11), 0) := rfl
theorem s142_19 {c : Nat → List AV → SS → Option Out} {l0 l1 l2 : Option AV} {j t : Nat} {L2 : List (Nat × AV)} {S : SS} : ev c 142 19 [l0, l1, l2] L2 [aR (11, j, t)] S = ck (c 70 [aR (11, j, t)] S) (fun v S' => ev c 142 22 [l0, l1, l2] L2 (v.toList ++ []) S') := ev_call i142_19 rfl
theorem i142_22 : insAt 142 22 = some (.aload_n 0, 1, (0, 0, 0, 0), 0) := rfl
theorem s142_22 {c : Nat → List AV → SS → Option Out} {l1 l2 : Option AV} {o : OId} {L2 : List (Nat × AV)} {St : List AV} {S : SS} : ev c 142 22 [some (aR o), l1, l2] L2 St S = ev c 142 23 [some (aR o), l1, l2] L2 (aR o :: St) S := ev_go i142_22 rfl
theorem i142_23 : insAt 142 23 = some (.getfield 38, 3, (11, 4, 0, 0), 0) := rfl
theorem s142_23 {c : Nat → List AV → SS → Option Out} {l0 l1 l2 : Option AV} {j t : Nat} {L2 : List (Nat × AV)} {St : List AV} {S : SS} : ev c 142 23 [l0, l1, l2] L2 (aR (11, j, t) :: St) S = ev c 142 26 [l0, l1, l2] L2 (S.2.2.1 (11, j, t) 4 :: St) S := ev_go i142_23 rfl
theorem i142_26 : insAt 142 26 = some (.getfield 105, 3, (8, 1, 1, 0), 0) := rfl
theorem s142_26 {c : Nat → List AV → SS → Option Out} {l0 l1 l2 : Option AV} {j t : Nat} {L2 : List (Nat × AV)} {St : List AV} {S : SS} : ev c 142 26 [l0, l1, l2] L2 (aR (8, j, t) :: St) S = ev c 142 29 [l0, l1, l2] L2 (S.2.2.1 (8, j, t) 1 :: St) S := ev_go i142_26 rfl
theorem i142_29 : insAt 142 29 = some (.getfield 233, 3, (7, 0, 1, 0), 0) := rfl
theorem s142_29 {c : Nat → List AV → SS → Option Out} {l0 l1 l2 : Option AV} {j t : Nat} {L2 : List (Nat × AV)} {St : List AV} {S : SS} : ev c 142 29 [l0, l1, l2] L2 (aR (7, j, t) :: St) S = ev c 142 32 [l0, l1, l2] L2 (aI (S.1 (7, j, t) 0) :: St) S := ev_go i142_29 rfl
theorem i142_32 : insAt 142 32 = some (.ireturn, 1, (0, 0, 0, 0), 0) := rfl
theorem s142_32 {c : Nat → List AV → SS → Option Out} {l0 l1 l2 : Option AV} {x : Int32} {L2 : List (Nat × AV)} {St : List AV} {S : SS} : ev c 142 32 [l0, l1, l2] L2 [aI x] S = some (.inl (some (aI x)), S) := ev_end i142_32 rfl
theorem m142 {d : Nat} {o : OId} {a0 : Int32} {a1 : Int32} {S : SS} : evm (d + 1) 142 [aR o, aI a0, aI a1] S = ev (evm d) 142 0 [some (aR o), some (aI a0), some (aI a1)] [] [] S := evm_s (n := 3) rfl (Nat.le_of_ble_eq_true rfl) rfl rfl
/-! FrequencyOffice.movesForByQueue(II)I -/
theorem i144_0 : insAt 144 0 = some (.iload_n 1, 1, (0, 0, 0, 0), 0) := rfl
theorem s144_0 {c : Nat → List AV → SS → Option Out} {l0 l2 : Option AV} {x : Int32} {L2 : List (Nat × AV)} {St : List AV} {S : SS} : ev c 144 0 [l0, some (aI x), l2] L2 St S = ev c 144 1 [l0, some (aI x), l2] L2 (aI x :: St) S := ev_go i144_0 rfl
theorem i144_1 : insAt 144 1 = some (.iload_n 2, 1, (0, 0, 0, 0), 0) := rfl
theorem s144_1 {c : Nat → List AV → SS → Option Out} {l0 l1 : Option AV} {x : Int32} {L2 : List (Nat × AV)} {St : List AV} {S : SS} : ev c 144 1 [l0, l1, some (aI x)] L2 St S = ev c 144 2 [l0, l1, some (aI x)] L2 (aI x :: St) S := ev_go i144_1 rfl
theorem i144_2 : insAt 144 2 = some (.invokestatic 84, 3, (66, 2, 0, 0), 0) := rfl
theorem s144_2 {c : Nat → List AV → SS → Option Out} {l0 l1 l2 : Option AV} {a0 : Int32} {a1 : Int32} {L2 : List (Nat × AV)} {S : SS} : ev c 144 2 [l0, l1, l2] L2 [aI a1, aI a0] S = ck (c 66 [aI a0, aI a1] S) (fun v S' => ev c 144 5 [l0, l1, l2] L2 (v.toList ++ []) S') := ev_call i144_2 rfl
theorem i144_5 : insAt 144 5 = some (.aload_n 0, 1, (0, 0, 0, 0), 0) := rfl
theorem s144_5 {c : Nat → List AV → SS → Option Out} {l1 l2 : Option AV} {o : OId} {L2 : List (Nat × AV)} {St : List AV} {S : SS} : ev c 144 5 [some (aR o), l1, l2] L2 St S = ev c 144 6 [some (aR o), l1, l2] L2 (aR o :: St) S := ev_go i144_5 rfl
theorem i144_6 : insAt 144 6 = some (.getfield 38, 3, (11, 4, 0, 0), 0) := rfl
theorem s144_6 {c : Nat → List AV → SS → Option Out} {l0 l1 l2 : Option AV} {j t : Nat} {L2 : List (Nat × AV)} {St : List AV} {S : SS} : ev c 144 6 [l0, l1, l2] L2 (aR (11, j, t) :: St) S = ev c 144 9 [l0, l1, l2] L2 (S.2.2.1 (11, j, t) 4 :: St) S := ev_go i144_6 rfl
theorem i144_9 : insAt 144 9 = some (.aload_n 0, 1, (0, 0, 0, 0), 0) := rfl
theorem s144_9 {c : Nat → List AV → SS → Option Out} {l1 l2 : Option AV} {o : OId} {L2 : List (Nat × AV)} {St : List AV} {S : SS} : ev c 144 9 [some (aR o), l1, l2] L2 St S = ev c 144 10 [some (aR o), l1, l2] L2 (aR o :: St) S := ev_go i144_9 rfl
theorem i144_10 : insAt 144 10 = some (.getfield 10, 3, (11, 0, 0, 0), 0) := rfl
theorem s144_10 {c : Nat → List AV → SS → Option Out} {l0 l1 l2 : Option AV} {j t : Nat} {L2 : List (Nat × AV)} {St : List AV} {S : SS} : ev c 144 10 [l0, l1, l2] L2 (aR (11, j, t) :: St) S = ev c 144 13 [l0, l1, l2] L2 (S.2.2.1 (11, j, t) 0 :: St) S := ev_go i144_10 rfl
theorem i144_13 : insAt 144 13 = some (.iload_n 1, 1, (0, 0, 0, 0), 0) := rfl
theorem s144_13 {c : Nat → List AV → SS → Option Out} {l0 l2 : Option AV} {x : Int32} {L2 : List (Nat × AV)} {St : List AV} {S : SS} : ev c 144 13 [l0, some (aI x), l2] L2 St S = ev c 144 14 [l0, some (aI x), l2] L2 (aI x :: St) S := ev_go i144_13 rfl
theorem i144_14 : insAt 144 14 = some (.iload_n 2, 1, (0, 0, 0, 0), 0) := rfl
theorem s144_14 {c : Nat → List AV → SS → Option Out} {l0 l1 : Option AV} {x : Int32} {L2 : List (Nat × AV)} {St : List AV} {S : SS} : ev c 144 14 [l0, l1, some (aI x)] L2 St S = ev c 144 15 [l0, l1, some (aI x)] L2 (aI x :: St) S := ev_go i144_14 rfl
theorem i144_15 : insAt 144 15 = some (.invokevirtual 91, 3, (68, 3, 3, 8), 0) := rfl
theorem s144_15 {c : Nat → List AV → SS → Option Out} {l0 l1 l2 : Option AV} {a0 : OId} {a1 : Int32} {a2 : Int32} {j t : Nat} {L2 : List (Nat × AV)} {S : SS} : ev c 144 15 [l0, l1, l2] L2 [aI a2, aI a1, aR a0, aR (8, j, t)] S = ck (c 68 [aR (8, j, t), aR a0, aI a1, aI a2] S) (fun v S' => ev c 144 18 [l0, l1, l2] L2 (v.toList ++ []) S') := ev_call i144_15 rfl
theorem i144_18 : insAt 144 18 = some (.aload_n 0, 1, (0, 0, 0, 0), 0) := rfl
theorem s144_18 {c : Nat → List AV → SS → Option Out} {l1 l2 : Option AV} {o : OId} {L2 : List (Nat × AV)} {St : List AV} {S : SS} : ev c 144 18 [some (aR o), l1, l2] L2 St S = ev c 144 19 [some (aR o), l1, l2] L2 (aR o :: St) S := ev_go i144_18 rfl
theorem i144_19 : insAt 144 19 = some (.invokevirtual 238, 3, (145, 0, 2, 11), 0) := rfl
theorem s144_19 {c : Nat → List AV → SS → Option Out} {l0 l1 l2 : Option AV} {j t : Nat} {L2 : List (Nat × AV)} {S : SS} : ev c 144 19 [l0, l1, l2] L2 [aR (11, j, t)] S = ck (c 145 [aR (11, j, t)] S) (fun v S' => ev c 144 22 [l0, l1, l2] L2 (v.toList ++ []) S') := ev_call i144_19 rfl
theorem i144_22 : insAt 144 22 = some (.ireturn, 1, (0, 0, 0, 0), 0) := rfl
theorem s144_22 {c : Nat → List AV → SS → Option Out} {l0 l1 l2 : Option AV} {x : Int32} {L2 : List (Nat × AV)} {St : List AV} {S : SS} : ev c 144 22 [l0, l1, l2] L2 [aI x] S = some (.inl (some (aI x)), S) := ev_end i144_22 rfl
theorem m144 {d : Nat} {o : OId} {a0 : Int32} {a1 : Int32} {S : SS} : evm (d + 1) 144 [aR o, aI a0, aI a1] S = ev (evm d) 144 0 [some (aR o), some (aI a0), some (aI a1)] [] [] S := evm_s (n := 3) rfl (Nat.le_of_ble_eq_true rfl) rfl rfl
/-! FrequencyOffice.movesByQueue()I -/
theorem i145_0 : insAt 145 0 = some (.aload_n 0, 1, (0, 0, 0, 0), 0) := rfl
theorem s145_0 {c : Nat → List AV → SS → Option Out} {l1 : Option AV} {o : OId} {L2 : List (Nat × AV)} {St : List AV} {S : SS} : ev c 145 0 [some (aR o), l1] L2 St S = ev c 145 1 [some (aR o), l1] L2 (aR o :: St) S := ev_go i145_0 rfl
theorem i145_1 : insAt 145 1 = some (.getfield 38, 3, (11, 4, 0, 0), 0) := rfl
theorem s145_1 {c : Nat → List AV → SS → Option Out} {l0 l1 : Option AV} {j t : Nat} {L2 : List (Nat × AV)} {St : List AV} {S : SS} : ev c 145 1 [l0, l1] L2 (aR (11, j, t) :: St) S = ev c 145 4 [l0, l1] L2 (S.2.2.1 (11, j, t) 4 :: St) S := ev_go i145_1 rfl
theorem i145_4 : insAt 145 4 = some (.invokevirtual 378, 3, (146, 0, 3, 8), 0) := rfl
theorem s145_4 {c : Nat → List AV → SS → Option Out} {l0 l1 : Option AV} {j t : Nat} {L2 : List (Nat × AV)} {S : SS} : ev c 145 4 [l0, l1] L2 [aR (8, j, t)] S = ck (c 146 [aR (8, j, t)] S) (fun v S' => ev c 145 7 [l0, l1] L2 (v.toList ++ []) S') := ev_call i145_4 rfl
theorem i145_7 : insAt 145 7 = some (.istore_n 1, 1, (0, 0, 0, 0), 0) := rfl
theorem s145_7 {c : Nat → List AV → SS → Option Out} {l0 l1 : Option AV} {x : Int32} {L2 : List (Nat × AV)} {St : List AV} {S : SS} : ev c 145 7 [l0, l1] L2 (aI x :: St) S = ev c 145 8 [l0, some (aI x)] (kil L2 1) St S := ev_go i145_7 rfl
theorem i145_8 : insAt 145 8 = some (.iload_n 1, 1, (0, 0, 0, 0), 0) := rfl
theorem s145_8 {c : Nat → List AV → SS → Option Out} {l0 : Option AV} {x : Int32} {L2 : List (Nat × AV)} {St : List AV} {S : SS} : ev c 145 8 [l0, some (aI x)] L2 St S = ev c 145 9 [l0, some (aI x)] L2 (aI x :: St) S := ev_go i145_8 rfl
theorem i145_9 : insAt 145 9 = some (.iconst (-1), 1, (0, 0, 0, 0), 0) := rfl
theorem s145_9 {c : Nat → List AV → SS → Option Out} {l0 l1 : Option AV} {L2 : List (Nat × AV)} {St : List AV} {S : SS} : ev c 145 9 [l0, l1] L2 St S = ev c 145 10 [l0, l1] L2 (aI (-1) :: St) S := ev_go i145_9 rfl
theorem i145_10 : insAt 145 10 = some (.if_icmp .ne 14, 3, (0, 0, 0, 0), 0) := rfl
theorem s145_10 {c : Nat → List AV → SS → Option Out} {l0 l1 : Option AV} {x y : Int32} {L2 : List (Nat × AV)} {St : List AV} {S : SS} : ev c 145 10 [l0, l1] L2 (aI y :: aI x :: St) S = if x = y then ev c 145 13 [l0, l1] L2 St S else ev c 145 24 [l0, l1] L2 St S := (ev_br i145_10 rfl).trans (ite_not _ _ _)
theorem i145_13 : insAt 145 13 = some (.new 120, 3, (2, 0, 1, 0), 0) := rfl
theorem s145_13 {c : Nat → List AV → SS → Option Out} {l0 l1 : Option AV} {L2 : List (Nat × AV)} {S : SS} : ev c 145 13 [l0, l1] L2 [] S = some (.inr "java/lang/UnsupportedOperationException", bump S 1 6) := ev_end i145_13 rfl
theorem i145_16 : insAt 145 16 = some (.dup, 1, (0, 0, 0, 0), 0) := rfl
theorem s145_16 {c : Nat → List AV → SS → Option Out} {l0 l1 : Option AV} {x : OId} {L2 : List (Nat × AV)} {St : List AV} {S : SS} : ev c 145 16 [l0, l1] L2 (aR x :: St) S = ev c 145 17 [l0, l1] L2 (aR x :: aR x :: St) S := ev_go i145_16 rfl
theorem i145_24 : insAt 145 24 = some (.iload_n 1, 1, (0, 0, 0, 0), 0) := rfl
theorem s145_24 {c : Nat → List AV → SS → Option Out} {l0 : Option AV} {x : Int32} {L2 : List (Nat × AV)} {St : List AV} {S : SS} : ev c 145 24 [l0, some (aI x)] L2 St S = ev c 145 25 [l0, some (aI x)] L2 (aI x :: St) S := ev_go i145_24 rfl
theorem i145_25 : insAt 145 25 = some (.ireturn, 1, (0, 0, 0, 0), 0) := rfl
theorem s145_25 {c : Nat → List AV → SS → Option Out} {l0 l1 : Option AV} {x : Int32} {L2 : List (Nat × AV)} {St : List AV} {S : SS} : ev c 145 25 [l0, l1] L2 [aI x] S = some (.inl (some (aI x)), S) := ev_end i145_25 rfl
theorem m145 {d : Nat} {o : OId} {S : SS} : evm (d + 1) 145 [aR o] S = ev (evm d) 145 0 [some (aR o), none] [] [] S := evm_s (n := 2) rfl (Nat.le_of_ble_eq_true rfl) rfl rfl
/-! FrequencyOffice.movesToChange(II)I -/
theorem i151_0 : insAt 151 0 = some (.aload_n 0, 1, (0, 0, 0, 0), 0) := rfl
theorem s151_0 {c : Nat → List AV → SS → Option Out} {l1 l2 l3 : Option AV} {o : OId} {L2 : List (Nat × AV)} {St : List AV} {S : SS} : ev c 151 0 [some (aR o), l1, l2, l3] L2 St S = ev c 151 1 [some (aR o), l1, l2, l3] L2 (aR o :: St) S := ev_go i151_0 rfl
theorem i151_1 : insAt 151 1 = some (.iload_n 1, 1, (0, 0, 0, 0), 0) := rfl
theorem s151_1 {c : Nat → List AV → SS → Option Out} {l0 l2 l3 : Option AV} {x : Int32} {L2 : List (Nat × AV)} {St : List AV} {S : SS} : ev c 151 1 [l0, some (aI x), l2, l3] L2 St S = ev c 151 2 [l0, some (aI x), l2, l3] L2 (aI x :: St) S := ev_go i151_1 rfl
theorem i151_2 : insAt 151 2 = some (.invokevirtual 134, 3, (93, 1, 2, 11), 0) := rfl
theorem s151_2 {c : Nat → List AV → SS → Option Out} {l0 l1 l2 l3 : Option AV} {a0 : Int32} {j t : Nat} {L2 : List (Nat × AV)} {S : SS} : ev c 151 2 [l0, l1, l2, l3] L2 [aI a0, aR (11, j, t)] S = ck (c 93 [aR (11, j, t), aI a0] S) (fun v S' => ev c 151 5 [l0, l1, l2, l3] L2 (v.toList ++ []) S') := ev_call i151_2 rfl
theorem i151_5 : insAt 151 5 = some (.istore_n 3, 1, (0, 0, 0, 0), 0) := rfl
theorem s151_5 {c : Nat → List AV → SS → Option Out} {l0 l1 l2 l3 : Option AV} {x : Int32} {L2 : List (Nat × AV)} {St : List AV} {S : SS} : ev c 151 5 [l0, l1, l2, l3] L2 (aI x :: St) S = ev c 151 6 [l0, l1, l2, some (aI x)] (kil L2 3) St S := ev_go i151_5 rfl
theorem i151_6 : insAt 151 6 = some (.aload_n 0, 1, (0, 0, 0, 0), 0) := rfl
theorem s151_6 {c : Nat → List AV → SS → Option Out} {l1 l2 l3 : Option AV} {o : OId} {L2 : List (Nat × AV)} {St : List AV} {S : SS} : ev c 151 6 [some (aR o), l1, l2, l3] L2 St S = ev c 151 7 [some (aR o), l1, l2, l3] L2 (aR o :: St) S := ev_go i151_6 rfl
theorem i151_7 : insAt 151 7 = some (.iload_n 3, 1, (0, 0, 0, 0), 0) := rfl
theorem s151_7 {c : Nat → List AV → SS → Option Out} {l0 l1 l2 : Option AV} {x : Int32} {L2 : List (Nat × AV)} {St : List AV} {S : SS} : ev c 151 7 [l0, l1, l2, some (aI x)] L2 St S = ev c 151 8 [l0, l1, l2, some (aI x)] L2 (aI x :: St) S := ev_go i151_7 rfl
theorem i151_8 : insAt 151 8 = some (.iload_n 2, 1, (0, 0, 0, 0), 0) := rfl
theorem s151_8 {c : Nat → List AV → SS → Option Out} {l0 l1 l3 : Option AV} {x : Int32} {L2 : List (Nat × AV)} {St : List AV} {S : SS} : ev c 151 8 [l0, l1, some (aI x), l3] L2 St S = ev c 151 9 [l0, l1, some (aI x), l3] L2 (aI x :: St) S := ev_go i151_8 rfl
theorem i151_9 : insAt 151 9 = some (.invokevirtual 241, 3, (152, 2, 2, 11), 0) := rfl
theorem s151_9 {c : Nat → List AV → SS → Option Out} {l0 l1 l2 l3 : Option AV} {a0 : Int32} {a1 : Int32} {j t : Nat} {L2 : List (Nat × AV)} {S : SS} : ev c 151 9 [l0, l1, l2, l3] L2 [aI a1, aI a0, aR (11, j, t)] S = ck (c 152 [aR (11, j, t), aI a0, aI a1] S) (fun v S' => ev c 151 12 [l0, l1, l2, l3] L2 (v.toList ++ []) S') := ev_call i151_9 rfl
theorem i151_12 : insAt 151 12 = some (.aload_n 0, 1, (0, 0, 0, 0), 0) := rfl
theorem s151_12 {c : Nat → List AV → SS → Option Out} {l1 l2 l3 : Option AV} {o : OId} {L2 : List (Nat × AV)} {St : List AV} {S : SS} : ev c 151 12 [some (aR o), l1, l2, l3] L2 St S = ev c 151 13 [some (aR o), l1, l2, l3] L2 (aR o :: St) S := ev_go i151_12 rfl
theorem i151_13 : insAt 151 13 = some (.getfield 38, 3, (11, 4, 0, 0), 0) := rfl
theorem s151_13 {c : Nat → List AV → SS → Option Out} {l0 l1 l2 l3 : Option AV} {j t : Nat} {L2 : List (Nat × AV)} {St : List AV} {S : SS} : ev c 151 13 [l0, l1, l2, l3] L2 (aR (11, j, t) :: St) S = ev c 151 16 [l0, l1, l2, l3] L2 (S.2.2.1 (11, j, t) 4 :: St) S := ev_go i151_13 rfl
theorem i151_16 : insAt 151 16 = some (.aload_n 0, 1, (0, 0, 0, 0), 0) := rfl
theorem s151_16 {c : Nat → List AV → SS → Option Out} {l1 l2 l3 : Option AV} {o : OId} {L2 : List (Nat × AV)} {St : List AV} {S : SS} : ev c 151 16 [some (aR o), l1, l2, l3] L2 St S = ev c 151 17 [some (aR o), l1, l2, l3] L2 (aR o :: St) S := ev_go i151_16 rfl
theorem i151_17 : insAt 151 17 = some (.getfield 10, 3, (11, 0, 0, 0), 0) := rfl
theorem s151_17 {c : Nat → List AV → SS → Option Out} {l0 l1 l2 l3 : Option AV} {j t : Nat} {L2 : List (Nat × AV)} {St : List AV} {S : SS} : ev c 151 17 [l0, l1, l2, l3] L2 (aR (11, j, t) :: St) S = ev c 151 20 [l0, l1, l2, l3] L2 (S.2.2.1 (11, j, t) 0 :: St) S := ev_go i151_17 rfl
theorem i151_20 : insAt 151 20 = some (.iload_n 3, 1, (0, 0, 0, 0), 0) := rfl
theorem s151_20 {c : Nat → List AV → SS → Option Out} {l0 l1 l2 : Option AV} {x : Int32} {L2 : List (Nat × AV)} {St : List AV} {S : SS} : ev c 151 20 [l0, l1, l2, some (aI x)] L2 St S = ev c 151 21 [l0, l1, l2, some (aI x)] L2 (aI x :: St) S := ev_go i151_20 rfl
theorem i151_21 : insAt 151 21 = some (.iload_n 2, 1, (0, 0, 0, 0), 0) := rfl
theorem s151_21 {c : Nat → List AV → SS → Option Out} {l0 l1 l3 : Option AV} {x : Int32} {L2 : List (Nat × AV)} {St : List AV} {S : SS} : ev c 151 21 [l0, l1, some (aI x), l3] L2 St S = ev c 151 22 [l0, l1, some (aI x), l3] L2 (aI x :: St) S := ev_go i151_21 rfl
theorem i151_22 : insAt 151 22 = some (.invokevirtual 244, 3, (153, 3, 3, 8), 0) := rfl
theorem s151_22 {c : Nat → List AV → SS → Option Out} {l0 l1 l2 l3 : Option AV} {a0 : OId} {a1 : Int32} {a2 : Int32} {j t : Nat} {L2 : List (Nat × AV)} {S : SS} : ev c 151 22 [l0, l1, l2, l3] L2 [aI a2, aI a1, aR a0, aR (8, j, t)] S = ck (c 153 [aR (8, j, t), aR a0, aI a1, aI a2] S) (fun v S' => ev c 151 25 [l0, l1, l2, l3] L2 (v.toList ++ []) S') := ev_call i151_22 rfl
theorem i151_25 : insAt 151 25 = some (.aload_n 0, 1, (0, 0, 0, 0), 0) := rfl
theorem s151_25 {c : Nat → List AV → SS → Option Out} {l1 l2 l3 : Option AV} {o : OId} {L2 : List (Nat × AV)} {St : List AV} {S : SS} : ev c 151 25 [some (aR o), l1, l2, l3] L2 St S = ev c 151 26 [some (aR o), l1, l2, l3] L2 (aR o :: St) S := ev_go i151_25 rfl
theorem i151_26 : insAt 151 26 = some (.invokevirtual 95, 3, (70, 0, 2, 11), 0) := rfl
theorem s151_26 {c : Nat → List AV → SS → Option Out} {l0 l1 l2 l3 : Option AV} {j t : Nat} {L2 : List (Nat × AV)} {S : SS} : ev c 151 26 [l0, l1, l2, l3] L2 [aR (11, j, t)] S = ck (c 70 [aR (11, j, t)] S) (fun v S' => ev c 151 29 [l0, l1, l2, l3] L2 (v.toList ++ []) S') := ev_call i151_26 rfl
theorem i151_29 : insAt 151 29 = some (.aload_n 0, 1, (0, 0, 0, 0), 0) := rfl
theorem s151_29 {c : Nat → List AV → SS → Option Out} {l1 l2 l3 : Option AV} {o : OId} {L2 : List (Nat × AV)} {St : List AV} {S : SS} : ev c 151 29 [some (aR o), l1, l2, l3] L2 St S = ev c 151 30 [some (aR o), l1, l2, l3] L2 (aR o :: St) S := ev_go i151_29 rfl
theorem i151_30 : insAt 151 30 = some (.getfield 38, 3, (11, 4, 0, 0), 0) := rfl
theorem s151_30 {c : Nat → List AV → SS → Option Out} {l0 l1 l2 l3 : Option AV} {j t : Nat} {L2 : List (Nat × AV)} {St : List AV} {S : SS} : ev c 151 30 [l0, l1, l2, l3] L2 (aR (11, j, t) :: St) S = ev c 151 33 [l0, l1, l2, l3] L2 (S.2.2.1 (11, j, t) 4 :: St) S := ev_go i151_30 rfl
theorem i151_33 : insAt 151 33 = some (.getfield 105, 3, (8, 1, 1, 0), 0) := rfl
theorem s151_33 {c : Nat → List AV → SS → Option Out} {l0 l1 l2 l3 : Option AV} {j t : Nat} {L2 : List (Nat × AV)} {St : List AV} {S : SS} : ev c 151 33 [l0, l1, l2, l3] L2 (aR (8, j, t) :: St) S = ev c 151 36 [l0, l1, l2, l3] L2 (S.2.2.1 (8, j, t) 1 :: St) S := ev_go i151_33 rfl
theorem i151_36 : insAt 151 36 = some (.getfield 233, 3, (7, 0, 1, 0), 0) := rfl
theorem s151_36 {c : Nat → List AV → SS → Option Out} {l0 l1 l2 l3 : Option AV} {j t : Nat} {L2 : List (Nat × AV)} {St : List AV} {S : SS} : ev c 151 36 [l0, l1, l2, l3] L2 (aR (7, j, t) :: St) S = ev c 151 39 [l0, l1, l2, l3] L2 (aI (S.1 (7, j, t) 0) :: St) S := ev_go i151_36 rfl
theorem i151_39 : insAt 151 39 = some (.ireturn, 1, (0, 0, 0, 0), 0) := rfl
theorem s151_39 {c : Nat → List AV → SS → Option Out} {l0 l1 l2 l3 : Option AV} {x : Int32} {L2 : List (Nat × AV)} {St : List AV} {S : SS} : ev c 151 39 [l0, l1, l2, l3] L2 [aI x] S = some (.inl (some (aI x)), S) := ev_end i151_39 rfl
theorem m151 {d : Nat} {o : OId} {a0 : Int32} {a1 : Int32} {S : SS} : evm (d + 1) 151 [aR o, aI a0, aI a1] S = ev (evm d) 151 0 [some (aR o), some (aI a0), some (aI a1), none] [] [] S := evm_s (n := 4) rfl (Nat.le_of_ble_eq_true rfl) rfl rfl
/-! FrequencyOffice.checkChange(II)V -/
theorem i152_0 : insAt 152 0 = some (.iload_n 2, 1, (0, 0, 0, 0), 0) := rfl
theorem s152_0 {c : Nat → List AV → SS → Option Out} {l0 l1 l3 : Option AV} {x : Int32} {L2 : List (Nat × AV)} {St : List AV} {S : SS} : ev c 152 0 [l0, l1, some (aI x), l3] L2 St S = ev c 152 1 [l0, l1, some (aI x), l3] L2 (aI x :: St) S := ev_go i152_0 rfl
theorem i152_1 : insAt 152 1 = some (.invokestatic 207, 3, (133, 1, 0, 0), 0) := rfl
theorem s152_1 {c : Nat → List AV → SS → Option Out} {l0 l1 l2 l3 : Option AV} {a0 : Int32} {L2 : List (Nat × AV)} {S : SS} : ev c 152 1 [l0, l1, l2, l3] L2 [aI a0] S = ck (c 133 [aI a0] S) (fun v S' => ev c 152 4 [l0, l1, l2, l3] L2 (v.toList ++ []) S') := ev_call i152_1 rfl
theorem i152_4 : insAt 152 4 = some (.aload_n 0, 1, (0, 0, 0, 0), 0) := rfl
theorem s152_4 {c : Nat → List AV → SS → Option Out} {l1 l2 l3 : Option AV} {o : OId} {L2 : List (Nat × AV)} {St : List AV} {S : SS} : ev c 152 4 [some (aR o), l1, l2, l3] L2 St S = ev c 152 5 [some (aR o), l1, l2, l3] L2 (aR o :: St) S := ev_go i152_4 rfl
theorem i152_5 : insAt 152 5 = some (.getfield 10, 3, (11, 0, 0, 0), 0) := rfl
theorem s152_5 {c : Nat → List AV → SS → Option Out} {l0 l1 l2 l3 : Option AV} {j t : Nat} {L2 : List (Nat × AV)} {St : List AV} {S : SS} : ev c 152 5 [l0, l1, l2, l3] L2 (aR (11, j, t) :: St) S = ev c 152 8 [l0, l1, l2, l3] L2 (S.2.2.1 (11, j, t) 0 :: St) S := ev_go i152_5 rfl
theorem i152_8 : insAt 152 8 = some (.iload_n 1, 1, (0, 0, 0, 0), 0) := rfl
theorem s152_8 {c : Nat → List AV → SS → Option Out} {l0 l2 l3 : Option AV} {x : Int32} {L2 : List (Nat × AV)} {St : List AV} {S : SS} : ev c 152 8 [l0, some (aI x), l2, l3] L2 St S = ev c 152 9 [l0, some (aI x), l2, l3] L2 (aI x :: St) S := ev_go i152_8 rfl
theorem i152_9 : insAt 152 9 = some (.invokevirtual 125, 3, (17, 1, 3, 4), 0) := rfl
theorem s152_9 {c : Nat → List AV → SS → Option Out} {l0 l1 l2 l3 : Option AV} {a0 : Int32} {j t : Nat} {L2 : List (Nat × AV)} {S : SS} : ev c 152 9 [l0, l1, l2, l3] L2 [aI a0, aR (4, j, t)] S = ck (c 17 [aR (4, j, t), aI a0] S) (fun v S' => ev c 152 12 [l0, l1, l2, l3] L2 (v.toList ++ []) S') := ev_call i152_9 rfl
theorem i152_12 : insAt 152 12 = some (.astore_n 3, 1, (0, 0, 0, 0), 0) := rfl
theorem s152_12 {c : Nat → List AV → SS → Option Out} {l0 l1 l2 l3 : Option AV} {o : OId} {L2 : List (Nat × AV)} {St : List AV} {S : SS} : ev c 152 12 [l0, l1, l2, l3] L2 (aR o :: St) S = ev c 152 13 [l0, l1, l2, some (aR o)] (kil L2 3) St S := ev_go i152_12 rfl
theorem i152_13 : insAt 152 13 = some (.aload_n 3, 1, (0, 0, 0, 0), 0) := rfl
theorem s152_13 {c : Nat → List AV → SS → Option Out} {l0 l1 l2 : Option AV} {o : OId} {L2 : List (Nat × AV)} {St : List AV} {S : SS} : ev c 152 13 [l0, l1, l2, some (aR o)] L2 St S = ev c 152 14 [l0, l1, l2, some (aR o)] L2 (aR o :: St) S := ev_go i152_13 rfl
theorem i152_14 : insAt 152 14 = some (.invokestatic 146, 3, (96, 1, 0, 0), 0) := rfl
theorem s152_14 {c : Nat → List AV → SS → Option Out} {l0 l1 l2 l3 : Option AV} {a0 : OId} {L2 : List (Nat × AV)} {S : SS} : ev c 152 14 [l0, l1, l2, l3] L2 [aR a0] S = ck (c 96 [aR a0] S) (fun v S' => ev c 152 17 [l0, l1, l2, l3] L2 (v.toList ++ []) S') := ev_call i152_14 rfl
theorem i152_17 : insAt 152 17 = some (.aload_n 3, 1, (0, 0, 0, 0), 0) := rfl
theorem s152_17 {c : Nat → List AV → SS → Option Out} {l0 l1 l2 : Option AV} {o : OId} {L2 : List (Nat × AV)} {St : List AV} {S : SS} : ev c 152 17 [l0, l1, l2, some (aR o)] L2 St S = ev c 152 18 [l0, l1, l2, some (aR o)] L2 (aR o :: St) S := ev_go i152_17 rfl
theorem i152_18 : insAt 152 18 = some (.getfield 129, 3, (10, 3, 1, 0), 0) := rfl
theorem s152_18 {c : Nat → List AV → SS → Option Out} {l0 l1 l2 l3 : Option AV} {j t : Nat} {L2 : List (Nat × AV)} {St : List AV} {S : SS} : ev c 152 18 [l0, l1, l2, l3] L2 (aR (10, j, t) :: St) S = ev c 152 21 [l0, l1, l2, l3] L2 (aI (S.1 (10, j, t) 3) :: St) S := ev_go i152_18 rfl
theorem i152_21 : insAt 152 21 = some (.iload_n 2, 1, (0, 0, 0, 0), 0) := rfl
theorem s152_21 {c : Nat → List AV → SS → Option Out} {l0 l1 l3 : Option AV} {x : Int32} {L2 : List (Nat × AV)} {St : List AV} {S : SS} : ev c 152 21 [l0, l1, some (aI x), l3] L2 St S = ev c 152 22 [l0, l1, some (aI x), l3] L2 (aI x :: St) S := ev_go i152_21 rfl
theorem i152_22 : insAt 152 22 = some (.if_icmp .ne 14, 3, (0, 0, 0, 0), 0) := rfl
theorem s152_22 {c : Nat → List AV → SS → Option Out} {l0 l1 l2 l3 : Option AV} {x y : Int32} {L2 : List (Nat × AV)} {St : List AV} {S : SS} : ev c 152 22 [l0, l1, l2, l3] L2 (aI y :: aI x :: St) S = if x = y then ev c 152 25 [l0, l1, l2, l3] L2 St S else ev c 152 36 [l0, l1, l2, l3] L2 St S := (ev_br i152_22 rfl).trans (ite_not _ _ _)
theorem i152_25 : insAt 152 25 = some (.new 64, 3, (1, 0, 1, 0), 0) := rfl
theorem s152_25 {c : Nat → List AV → SS → Option Out} {l0 l1 l2 l3 : Option AV} {L2 : List (Nat × AV)} {S : SS} : ev c 152 25 [l0, l1, l2, l3] L2 [] S = some (.inr "java/lang/IllegalStateException", bump S 1 6) := ev_end i152_25 rfl
theorem i152_28 : insAt 152 28 = some (.dup, 1, (0, 0, 0, 0), 0) := rfl
theorem s152_28 {c : Nat → List AV → SS → Option Out} {l0 l1 l2 l3 : Option AV} {x : OId} {L2 : List (Nat × AV)} {St : List AV} {S : SS} : ev c 152 28 [l0, l1, l2, l3] L2 (aR x :: St) S = ev c 152 29 [l0, l1, l2, l3] L2 (aR x :: aR x :: St) S := ev_go i152_28 rfl
theorem i152_36 : insAt 152 36 = some (.return_, 1, (0, 0, 0, 0), 0) := rfl
theorem s152_36 {c : Nat → List AV → SS → Option Out} {l0 l1 l2 l3 : Option AV} {L2 : List (Nat × AV)} {St : List AV} {S : SS} : ev c 152 36 [l0, l1, l2, l3] L2 [] S = some (.inl none, S) := ev_end i152_36 rfl
theorem m152 {d : Nat} {o : OId} {a0 : Int32} {a1 : Int32} {S : SS} : evm (d + 1) 152 [aR o, aI a0, aI a1] S = ev (evm d) 152 0 [some (aR o), some (aI a0), some (aI a1), none] [] [] S := evm_s (n := 4) rfl (Nat.le_of_ble_eq_true rfl) rfl rfl
/-! FrequencyOffice.movesToChangeByQueue(II)I -/
theorem i156_0 : insAt 156 0 = some (.aload_n 0, 1, (0, 0, 0, 0), 0) := rfl
theorem s156_0 {c : Nat → List AV → SS → Option Out} {l1 l2 l3 : Option AV} {o : OId} {L2 : List (Nat × AV)} {St : List AV} {S : SS} : ev c 156 0 [some (aR o), l1, l2, l3] L2 St S = ev c 156 1 [some (aR o), l1, l2, l3] L2 (aR o :: St) S := ev_go i156_0 rfl
theorem i156_1 : insAt 156 1 = some (.iload_n 1, 1, (0, 0, 0, 0), 0) := rfl
theorem s156_1 {c : Nat → List AV → SS → Option Out} {l0 l2 l3 : Option AV} {x : Int32} {L2 : List (Nat × AV)} {St : List AV} {S : SS} : ev c 156 1 [l0, some (aI x), l2, l3] L2 St S = ev c 156 2 [l0, some (aI x), l2, l3] L2 (aI x :: St) S := ev_go i156_1 rfl
theorem i156_2 : insAt 156 2 = some (.invokevirtual 134, 3, (93, 1, 2, 11), 0) := rfl
theorem s156_2 {c : Nat → List AV → SS → Option Out} {l0 l1 l2 l3 : Option AV} {a0 : Int32} {j t : Nat} {L2 : List (Nat × AV)} {S : SS} : ev c 156 2 [l0, l1, l2, l3] L2 [aI a0, aR (11, j, t)] S = ck (c 93 [aR (11, j, t), aI a0] S) (fun v S' => ev c 156 5 [l0, l1, l2, l3] L2 (v.toList ++ []) S') := ev_call i156_2 rfl
theorem i156_5 : insAt 156 5 = some (.istore_n 3, 1, (0, 0, 0, 0), 0) := rfl
theorem s156_5 {c : Nat → List AV → SS → Option Out} {l0 l1 l2 l3 : Option AV} {x : Int32} {L2 : List (Nat × AV)} {St : List AV} {S : SS} : ev c 156 5 [l0, l1, l2, l3] L2 (aI x :: St) S = ev c 156 6 [l0, l1, l2, some (aI x)] (kil L2 3) St S := ev_go i156_5 rfl
theorem i156_6 : insAt 156 6 = some (.aload_n 0, 1, (0, 0, 0, 0), 0) := rfl
theorem s156_6 {c : Nat → List AV → SS → Option Out} {l1 l2 l3 : Option AV} {o : OId} {L2 : List (Nat × AV)} {St : List AV} {S : SS} : ev c 156 6 [some (aR o), l1, l2, l3] L2 St S = ev c 156 7 [some (aR o), l1, l2, l3] L2 (aR o :: St) S := ev_go i156_6 rfl
theorem i156_7 : insAt 156 7 = some (.iload_n 3, 1, (0, 0, 0, 0), 0) := rfl
theorem s156_7 {c : Nat → List AV → SS → Option Out} {l0 l1 l2 : Option AV} {x : Int32} {L2 : List (Nat × AV)} {St : List AV} {S : SS} : ev c 156 7 [l0, l1, l2, some (aI x)] L2 St S = ev c 156 8 [l0, l1, l2, some (aI x)] L2 (aI x :: St) S := ev_go i156_7 rfl
theorem i156_8 : insAt 156 8 = some (.iload_n 2, 1, (0, 0, 0, 0), 0) := rfl
theorem s156_8 {c : Nat → List AV → SS → Option Out} {l0 l1 l3 : Option AV} {x : Int32} {L2 : List (Nat × AV)} {St : List AV} {S : SS} : ev c 156 8 [l0, l1, some (aI x), l3] L2 St S = ev c 156 9 [l0, l1, some (aI x), l3] L2 (aI x :: St) S := ev_go i156_8 rfl
theorem i156_9 : insAt 156 9 = some (.invokevirtual 241, 3, (152, 2, 2, 11), 0) := rfl
theorem s156_9 {c : Nat → List AV → SS → Option Out} {l0 l1 l2 l3 : Option AV} {a0 : Int32} {a1 : Int32} {j t : Nat} {L2 : List (Nat × AV)} {S : SS} : ev c 156 9 [l0, l1, l2, l3] L2 [aI a1, aI a0, aR (11, j, t)] S = ck (c 152 [aR (11, j, t), aI a0, aI a1] S) (fun v S' => ev c 156 12 [l0, l1, l2, l3] L2 (v.toList ++ []) S') := ev_call i156_9 rfl
theorem i156_12 : insAt 156 12 = some (.aload_n 0, 1, (0, 0, 0, 0), 0) := rfl
theorem s156_12 {c : Nat → List AV → SS → Option Out} {l1 l2 l3 : Option AV} {o : OId} {L2 : List (Nat × AV)} {St : List AV} {S : SS} : ev c 156 12 [some (aR o), l1, l2, l3] L2 St S = ev c 156 13 [some (aR o), l1, l2, l3] L2 (aR o :: St) S := ev_go i156_12 rfl
theorem i156_13 : insAt 156 13 = some (.getfield 38, 3, (11, 4, 0, 0), 0) := rfl
theorem s156_13 {c : Nat → List AV → SS → Option Out} {l0 l1 l2 l3 : Option AV} {j t : Nat} {L2 : List (Nat × AV)} {St : List AV} {S : SS} : ev c 156 13 [l0, l1, l2, l3] L2 (aR (11, j, t) :: St) S = ev c 156 16 [l0, l1, l2, l3] L2 (S.2.2.1 (11, j, t) 4 :: St) S := ev_go i156_13 rfl
theorem i156_16 : insAt 156 16 = some (.aload_n 0, 1, (0, 0, 0, 0), 0) := rfl
theorem s156_16 {c : Nat → List AV → SS → Option Out} {l1 l2 l3 : Option AV} {o : OId} {L2 : List (Nat × AV)} {St : List AV} {S : SS} : ev c 156 16 [some (aR o), l1, l2, l3] L2 St S = ev c 156 17 [some (aR o), l1, l2, l3] L2 (aR o :: St) S := ev_go i156_16 rfl
theorem i156_17 : insAt 156 17 = some (.getfield 10, 3, (11, 0, 0, 0), 0) := rfl
theorem s156_17 {c : Nat → List AV → SS → Option Out} {l0 l1 l2 l3 : Option AV} {j t : Nat} {L2 : List (Nat × AV)} {St : List AV} {S : SS} : ev c 156 17 [l0, l1, l2, l3] L2 (aR (11, j, t) :: St) S = ev c 156 20 [l0, l1, l2, l3] L2 (S.2.2.1 (11, j, t) 0 :: St) S := ev_go i156_17 rfl
theorem i156_20 : insAt 156 20 = some (.iload_n 3, 1, (0, 0, 0, 0), 0) := rfl
theorem s156_20 {c : Nat → List AV → SS → Option Out} {l0 l1 l2 : Option AV} {x : Int32} {L2 : List (Nat × AV)} {St : List AV} {S : SS} : ev c 156 20 [l0, l1, l2, some (aI x)] L2 St S = ev c 156 21 [l0, l1, l2, some (aI x)] L2 (aI x :: St) S := ev_go i156_20 rfl
theorem i156_21 : insAt 156 21 = some (.iload_n 2, 1, (0, 0, 0, 0), 0) := rfl
theorem s156_21 {c : Nat → List AV → SS → Option Out} {l0 l1 l3 : Option AV} {x : Int32} {L2 : List (Nat × AV)} {St : List AV} {S : SS} : ev c 156 21 [l0, l1, some (aI x), l3] L2 St S = ev c 156 22 [l0, l1, some (aI x), l3] L2 (aI x :: St) S := ev_go i156_21 rfl
theorem i156_22 : insAt 156 22 = some (.invokevirtual 244, 3, (153, 3, 3, 8), 0) := rfl
theorem s156_22 {c : Nat → List AV → SS → Option Out} {l0 l1 l2 l3 : Option AV} {a0 : OId} {a1 : Int32} {a2 : Int32} {j t : Nat} {L2 : List (Nat × AV)} {S : SS} : ev c 156 22 [l0, l1, l2, l3] L2 [aI a2, aI a1, aR a0, aR (8, j, t)] S = ck (c 153 [aR (8, j, t), aR a0, aI a1, aI a2] S) (fun v S' => ev c 156 25 [l0, l1, l2, l3] L2 (v.toList ++ []) S') := ev_call i156_22 rfl
theorem i156_25 : insAt 156 25 = some (.aload_n 0, 1, (0, 0, 0, 0), 0) := rfl
theorem s156_25 {c : Nat → List AV → SS → Option Out} {l1 l2 l3 : Option AV} {o : OId} {L2 : List (Nat × AV)} {St : List AV} {S : SS} : ev c 156 25 [some (aR o), l1, l2, l3] L2 St S = ev c 156 26 [some (aR o), l1, l2, l3] L2 (aR o :: St) S := ev_go i156_25 rfl
theorem i156_26 : insAt 156 26 = some (.invokevirtual 238, 3, (145, 0, 2, 11), 0) := rfl
theorem s156_26 {c : Nat → List AV → SS → Option Out} {l0 l1 l2 l3 : Option AV} {j t : Nat} {L2 : List (Nat × AV)} {S : SS} : ev c 156 26 [l0, l1, l2, l3] L2 [aR (11, j, t)] S = ck (c 145 [aR (11, j, t)] S) (fun v S' => ev c 156 29 [l0, l1, l2, l3] L2 (v.toList ++ []) S') := ev_call i156_26 rfl
theorem i156_29 : insAt 156 29 = some (.ireturn, 1, (0, 0, 0, 0), 0) := rfl
theorem s156_29 {c : Nat → List AV → SS → Option Out} {l0 l1 l2 l3 : Option AV} {x : Int32} {L2 : List (Nat × AV)} {St : List AV} {S : SS} : ev c 156 29 [l0, l1, l2, l3] L2 [aI x] S = some (.inl (some (aI x)), S) := ev_end i156_29 rfl
theorem m156 {d : Nat} {o : OId} {a0 : Int32} {a1 : Int32} {S : SS} : evm (d + 1) 156 [aR o, aI a0, aI a1] S = ev (evm d) 156 0 [some (aR o), some (aI a0), some (aI a1), none] [] [] S := evm_s (n := 4) rfl (Nat.le_of_ble_eq_true rfl) rfl rfl
/-! FrequencyOffice.change(II)I -/
theorem i158_0 : insAt 158 0 = some (.aload_n 0, 1, (0, 0, 0, 0), 0) := rfl
theorem s158_0 {c : Nat → List AV → SS → Option Out} {l1 l2 l3 : Option AV} {o : OId} {L2 : List (Nat × AV)} {St : List AV} {S : SS} : ev c 158 0 [some (aR o), l1, l2, l3] L2 St S = ev c 158 1 [some (aR o), l1, l2, l3] L2 (aR o :: St) S := ev_go i158_0 rfl
theorem i158_1 : insAt 158 1 = some (.iload_n 1, 1, (0, 0, 0, 0), 0) := rfl
theorem s158_1 {c : Nat → List AV → SS → Option Out} {l0 l2 l3 : Option AV} {x : Int32} {L2 : List (Nat × AV)} {St : List AV} {S : SS} : ev c 158 1 [l0, some (aI x), l2, l3] L2 St S = ev c 158 2 [l0, some (aI x), l2, l3] L2 (aI x :: St) S := ev_go i158_1 rfl
theorem i158_2 : insAt 158 2 = some (.invokevirtual 134, 3, (93, 1, 2, 11), 0) := rfl
theorem s158_2 {c : Nat → List AV → SS → Option Out} {l0 l1 l2 l3 : Option AV} {a0 : Int32} {j t : Nat} {L2 : List (Nat × AV)} {S : SS} : ev c 158 2 [l0, l1, l2, l3] L2 [aI a0, aR (11, j, t)] S = ck (c 93 [aR (11, j, t), aI a0] S) (fun v S' => ev c 158 5 [l0, l1, l2, l3] L2 (v.toList ++ []) S') := ev_call i158_2 rfl
theorem i158_5 : insAt 158 5 = some (.istore_n 3, 1, (0, 0, 0, 0), 0) := rfl
theorem s158_5 {c : Nat → List AV → SS → Option Out} {l0 l1 l2 l3 : Option AV} {x : Int32} {L2 : List (Nat × AV)} {St : List AV} {S : SS} : ev c 158 5 [l0, l1, l2, l3] L2 (aI x :: St) S = ev c 158 6 [l0, l1, l2, some (aI x)] (kil L2 3) St S := ev_go i158_5 rfl
theorem i158_6 : insAt 158 6 = some (.aload_n 0, 1, (0, 0, 0, 0), 0) := rfl
theorem s158_6 {c : Nat → List AV → SS → Option Out} {l1 l2 l3 : Option AV} {o : OId} {L2 : List (Nat × AV)} {St : List AV} {S : SS} : ev c 158 6 [some (aR o), l1, l2, l3] L2 St S = ev c 158 7 [some (aR o), l1, l2, l3] L2 (aR o :: St) S := ev_go i158_6 rfl
theorem i158_7 : insAt 158 7 = some (.iload_n 3, 1, (0, 0, 0, 0), 0) := rfl
theorem s158_7 {c : Nat → List AV → SS → Option Out} {l0 l1 l2 : Option AV} {x : Int32} {L2 : List (Nat × AV)} {St : List AV} {S : SS} : ev c 158 7 [l0, l1, l2, some (aI x)] L2 St S = ev c 158 8 [l0, l1, l2, some (aI x)] L2 (aI x :: St) S := ev_go i158_7 rfl
theorem i158_8 : insAt 158 8 = some (.iload_n 2, 1, (0, 0, 0, 0), 0) := rfl
theorem s158_8 {c : Nat → List AV → SS → Option Out} {l0 l1 l3 : Option AV} {x : Int32} {L2 : List (Nat × AV)} {St : List AV} {S : SS} : ev c 158 8 [l0, l1, some (aI x), l3] L2 St S = ev c 158 9 [l0, l1, some (aI x), l3] L2 (aI x :: St) S := ev_go i158_8 rfl
theorem i158_9 : insAt 158 9 = some (.invokevirtual 241, 3, (152, 2, 2, 11), 0) := rfl
theorem s158_9 {c : Nat → List AV → SS → Option Out} {l0 l1 l2 l3 : Option AV} {a0 : Int32} {a1 : Int32} {j t : Nat} {L2 : List (Nat × AV)} {S : SS} : ev c 158 9 [l0, l1, l2, l3] L2 [aI a1, aI a0, aR (11, j, t)] S = ck (c 152 [aR (11, j, t), aI a0, aI a1] S) (fun v S' => ev c 158 12 [l0, l1, l2, l3] L2 (v.toList ++ []) S') := ev_call i158_9 rfl
theorem i158_12 : insAt 158 12 = some (.aload_n 0, 1, (0, 0, 0, 0), 0) := rfl
theorem s158_12 {c : Nat → List AV → SS → Option Out} {l1 l2 l3 : Option AV} {o : OId} {L2 : List (Nat × AV)} {St : List AV} {S : SS} : ev c 158 12 [some (aR o), l1, l2, l3] L2 St S = ev c 158 13 [some (aR o), l1, l2, l3] L2 (aR o :: St) S := ev_go i158_12 rfl
theorem i158_13 : insAt 158 13 = some (.getfield 38, 3, (11, 4, 0, 0), 0) := rfl
theorem s158_13 {c : Nat → List AV → SS → Option Out} {l0 l1 l2 l3 : Option AV} {j t : Nat} {L2 : List (Nat × AV)} {St : List AV} {S : SS} : ev c 158 13 [l0, l1, l2, l3] L2 (aR (11, j, t) :: St) S = ev c 158 16 [l0, l1, l2, l3] L2 (S.2.2.1 (11, j, t) 4 :: St) S := ev_go i158_13 rfl
theorem i158_16 : insAt 158 16 = some (.aload_n 0, 1, (0, 0, 0, 0), 0) := rfl
theorem s158_16 {c : Nat → List AV → SS → Option Out} {l1 l2 l3 : Option AV} {o : OId} {L2 : List (Nat × AV)} {St : List AV} {S : SS} : ev c 158 16 [some (aR o), l1, l2, l3] L2 St S = ev c 158 17 [some (aR o), l1, l2, l3] L2 (aR o :: St) S := ev_go i158_16 rfl
theorem i158_17 : insAt 158 17 = some (.getfield 10, 3, (11, 0, 0, 0), 0) := rfl
theorem s158_17 {c : Nat → List AV → SS → Option Out} {l0 l1 l2 l3 : Option AV} {j t : Nat} {L2 : List (Nat × AV)} {St : List AV} {S : SS} : ev c 158 17 [l0, l1, l2, l3] L2 (aR (11, j, t) :: St) S = ev c 158 20 [l0, l1, l2, l3] L2 (S.2.2.1 (11, j, t) 0 :: St) S := ev_go i158_17 rfl
theorem i158_20 : insAt 158 20 = some (.iload_n 3, 1, (0, 0, 0, 0), 0) := rfl
theorem s158_20 {c : Nat → List AV → SS → Option Out} {l0 l1 l2 : Option AV} {x : Int32} {L2 : List (Nat × AV)} {St : List AV} {S : SS} : ev c 158 20 [l0, l1, l2, some (aI x)] L2 St S = ev c 158 21 [l0, l1, l2, some (aI x)] L2 (aI x :: St) S := ev_go i158_20 rfl
theorem i158_21 : insAt 158 21 = some (.iload_n 2, 1, (0, 0, 0, 0), 0) := rfl
theorem s158_21 {c : Nat → List AV → SS → Option Out} {l0 l1 l3 : Option AV} {x : Int32} {L2 : List (Nat × AV)} {St : List AV} {S : SS} : ev c 158 21 [l0, l1, some (aI x), l3] L2 St S = ev c 158 22 [l0, l1, some (aI x), l3] L2 (aI x :: St) S := ev_go i158_21 rfl
theorem i158_22 : insAt 158 22 = some (.invokevirtual 244, 3, (153, 3, 3, 8), 0) := rfl
theorem s158_22 {c : Nat → List AV → SS → Option Out} {l0 l1 l2 l3 : Option AV} {a0 : OId} {a1 : Int32} {a2 : Int32} {j t : Nat} {L2 : List (Nat × AV)} {S : SS} : ev c 158 22 [l0, l1, l2, l3] L2 [aI a2, aI a1, aR a0, aR (8, j, t)] S = ck (c 153 [aR (8, j, t), aR a0, aI a1, aI a2] S) (fun v S' => ev c 158 25 [l0, l1, l2, l3] L2 (v.toList ++ []) S') := ev_call i158_22 rfl
theorem i158_25 : insAt 158 25 = some (.aload_n 0, 1, (0, 0, 0, 0), 0) := rfl
theorem s158_25 {c : Nat → List AV → SS → Option Out} {l1 l2 l3 : Option AV} {o : OId} {L2 : List (Nat × AV)} {St : List AV} {S : SS} : ev c 158 25 [some (aR o), l1, l2, l3] L2 St S = ev c 158 26 [some (aR o), l1, l2, l3] L2 (aR o :: St) S := ev_go i158_25 rfl
theorem i158_26 : insAt 158 26 = some (.invokevirtual 95, 3, (70, 0, 2, 11), 0) := rfl
theorem s158_26 {c : Nat → List AV → SS → Option Out} {l0 l1 l2 l3 : Option AV} {j t : Nat} {L2 : List (Nat × AV)} {S : SS} : ev c 158 26 [l0, l1, l2, l3] L2 [aR (11, j, t)] S = ck (c 70 [aR (11, j, t)] S) (fun v S' => ev c 158 29 [l0, l1, l2, l3] L2 (v.toList ++ []) S') := ev_call i158_26 rfl
theorem i158_29 : insAt 158 29 = some (.aload_n 0, 1, (0, 0, 0, 0), 0) := rfl
theorem s158_29 {c : Nat → List AV → SS → Option Out} {l1 l2 l3 : Option AV} {o : OId} {L2 : List (Nat × AV)} {St : List AV} {S : SS} : ev c 158 29 [some (aR o), l1, l2, l3] L2 St S = ev c 158 30 [some (aR o), l1, l2, l3] L2 (aR o :: St) S := ev_go i158_29 rfl
theorem i158_30 : insAt 158 30 = some (.getfield 19, 3, (11, 1, 0, 0), 0) := rfl
theorem s158_30 {c : Nat → List AV → SS → Option Out} {l0 l1 l2 l3 : Option AV} {j t : Nat} {L2 : List (Nat × AV)} {St : List AV} {S : SS} : ev c 158 30 [l0, l1, l2, l3] L2 (aR (11, j, t) :: St) S = ev c 158 33 [l0, l1, l2, l3] L2 (S.2.2.1 (11, j, t) 1 :: St) S := ev_go i158_30 rfl
theorem i158_33 : insAt 158 33 = some (.aload_n 0, 1, (0, 0, 0, 0), 0) := rfl
theorem s158_33 {c : Nat → List AV → SS → Option Out} {l1 l2 l3 : Option AV} {o : OId} {L2 : List (Nat × AV)} {St : List AV} {S : SS} : ev c 158 33 [some (aR o), l1, l2, l3] L2 St S = ev c 158 34 [some (aR o), l1, l2, l3] L2 (aR o :: St) S := ev_go i158_33 rfl
theorem i158_34 : insAt 158 34 = some (.getfield 10, 3, (11, 0, 0, 0), 0) := rfl
theorem s158_34 {c : Nat → List AV → SS → Option Out} {l0 l1 l2 l3 : Option AV} {j t : Nat} {L2 : List (Nat × AV)} {St : List AV} {S : SS} : ev c 158 34 [l0, l1, l2, l3] L2 (aR (11, j, t) :: St) S = ev c 158 37 [l0, l1, l2, l3] L2 (S.2.2.1 (11, j, t) 0 :: St) S := ev_go i158_34 rfl
theorem i158_37 : insAt 158 37 = some (.invokevirtual 71, 3, (62, 1, 3, 5), 0) := rfl
theorem s158_37 {c : Nat → List AV → SS → Option Out} {l0 l1 l2 l3 : Option AV} {a0 : OId} {j t : Nat} {L2 : List (Nat × AV)} {S : SS} : ev c 158 37 [l0, l1, l2, l3] L2 [aR a0, aR (5, j, t)] S = ck (c 62 [aR (5, j, t), aR a0] S) (fun v S' => ev c 158 40 [l0, l1, l2, l3] L2 (v.toList ++ []) S') := ev_call i158_37 rfl
theorem i158_40 : insAt 158 40 = some (.aload_n 0, 1, (0, 0, 0, 0), 0) := rfl
theorem s158_40 {c : Nat → List AV → SS → Option Out} {l1 l2 l3 : Option AV} {o : OId} {L2 : List (Nat × AV)} {St : List AV} {S : SS} : ev c 158 40 [some (aR o), l1, l2, l3] L2 St S = ev c 158 41 [some (aR o), l1, l2, l3] L2 (aR o :: St) S := ev_go i158_40 rfl
theorem i158_41 : insAt 158 41 = some (.getfield 10, 3, (11, 0, 0, 0), 0) := rfl
theorem s158_41 {c : Nat → List AV → SS → Option Out} {l0 l1 l2 l3 : Option AV} {j t : Nat} {L2 : List (Nat × AV)} {St : List AV} {S : SS} : ev c 158 41 [l0, l1, l2, l3] L2 (aR (11, j, t) :: St) S = ev c 158 44 [l0, l1, l2, l3] L2 (S.2.2.1 (11, j, t) 0 :: St) S := ev_go i158_41 rfl
theorem i158_44 : insAt 158 44 = some (.aload_n 0, 1, (0, 0, 0, 0), 0) := rfl
theorem s158_44 {c : Nat → List AV → SS → Option Out} {l1 l2 l3 : Option AV} {o : OId} {L2 : List (Nat × AV)} {St : List AV} {S : SS} : ev c 158 44 [some (aR o), l1, l2, l3] L2 St S = ev c 158 45 [some (aR o), l1, l2, l3] L2 (aR o :: St) S := ev_go i158_44 rfl
theorem i158_45 : insAt 158 45 = some (.getfield 38, 3, (11, 4, 0, 0), 0) := rfl
theorem s158_45 {c : Nat → List AV → SS → Option Out} {l0 l1 l2 l3 : Option AV} {j t : Nat} {L2 : List (Nat × AV)} {St : List AV} {S : SS} : ev c 158 45 [l0, l1, l2, l3] L2 (aR (11, j, t) :: St) S = ev c 158 48 [l0, l1, l2, l3] L2 (S.2.2.1 (11, j, t) 4 :: St) S := ev_go i158_45 rfl
theorem i158_48 : insAt 158 48 = some (.getfield 105, 3, (8, 1, 1, 0), 0) := rfl
theorem s158_48 {c : Nat → List AV → SS → Option Out} {l0 l1 l2 l3 : Option AV} {j t : Nat} {L2 : List (Nat × AV)} {St : List AV} {S : SS} : ev c 158 48 [l0, l1, l2, l3] L2 (aR (8, j, t) :: St) S = ev c 158 51 [l0, l1, l2, l3] L2 (S.2.2.1 (8, j, t) 1 :: St) S := ev_go i158_48 rfl
theorem i158_51 : insAt 158 51 = some (.iload_n 3, 1, (0, 0, 0, 0), 0) := rfl
theorem s158_51 {c : Nat → List AV → SS → Option Out} {l0 l1 l2 : Option AV} {x : Int32} {L2 : List (Nat × AV)} {St : List AV} {S : SS} : ev c 158 51 [l0, l1, l2, some (aI x)] L2 St S = ev c 158 52 [l0, l1, l2, some (aI x)] L2 (aI x :: St) S := ev_go i158_51 rfl
theorem i158_52 : insAt 158 52 = some (.invokevirtual 109, 3, (82, 2, 3, 4), 0) := rfl
theorem s158_52 {c : Nat → List AV → SS → Option Out} {l0 l1 l2 l3 : Option AV} {a0 : OId} {a1 : Int32} {j t : Nat} {L2 : List (Nat × AV)} {S : SS} : ev c 158 52 [l0, l1, l2, l3] L2 [aI a1, aR a0, aR (4, j, t)] S = ck (c 82 [aR (4, j, t), aR a0, aI a1] S) (fun v S' => ev c 158 55 [l0, l1, l2, l3] L2 (v.toList ++ []) S') := ev_call i158_52 rfl
theorem i158_55 : insAt 158 55 = some (.aload_n 0, 1, (0, 0, 0, 0), 0) := rfl
theorem s158_55 {c : Nat → List AV → SS → Option Out} {l1 l2 l3 : Option AV} {o : OId} {L2 : List (Nat × AV)} {St : List AV} {S : SS} : ev c 158 55 [some (aR o), l1, l2, l3] L2 St S = ev c 158 56 [some (aR o), l1, l2, l3] L2 (aR o :: St) S := ev_go i158_55 rfl
theorem i158_56 : insAt 158 56 = some (.getfield 38, 3, (11, 4, 0, 0), 0) := rfl
theorem s158_56 {c : Nat → List AV → SS → Option Out} {l0 l1 l2 l3 : Option AV} {j t : Nat} {L2 : List (Nat × AV)} {St : List AV} {S : SS} : ev c 158 56 [l0, l1, l2, l3] L2 (aR (11, j, t) :: St) S = ev c 158 59 [l0, l1, l2, l3] L2 (S.2.2.1 (11, j, t) 4 :: St) S := ev_go i158_56 rfl
theorem i158_59 : insAt 158 59 = some (.getfield 105, 3, (8, 1, 1, 0), 0) := rfl
theorem s158_59 {c : Nat → List AV → SS → Option Out} {l0 l1 l2 l3 : Option AV} {j t : Nat} {L2 : List (Nat × AV)} {St : List AV} {S : SS} : ev c 158 59 [l0, l1, l2, l3] L2 (aR (8, j, t) :: St) S = ev c 158 62 [l0, l1, l2, l3] L2 (S.2.2.1 (8, j, t) 1 :: St) S := ev_go i158_59 rfl
theorem i158_62 : insAt 158 62 = some (.getfield 233, 3, (7, 0, 1, 0), 0) := rfl
theorem s158_62 {c : Nat → List AV → SS → Option Out} {l0 l1 l2 l3 : Option AV} {j t : Nat} {L2 : List (Nat × AV)} {St : List AV} {S : SS} : ev c 158 62 [l0, l1, l2, l3] L2 (aR (7, j, t) :: St) S = ev c 158 65 [l0, l1, l2, l3] L2 (aI (S.1 (7, j, t) 0) :: St) S := ev_go i158_62 rfl
theorem i158_65 : insAt 158 65 = some (.ireturn, 1, (0, 0, 0, 0), 0) := rfl
theorem s158_65 {c : Nat → List AV → SS → Option Out} {l0 l1 l2 l3 : Option AV} {x : Int32} {L2 : List (Nat × AV)} {St : List AV} {S : SS} : ev c 158 65 [l0, l1, l2, l3] L2 [aI x] S = some (.inl (some (aI x)), S) := ev_end i158_65 rfl
theorem m158 {d : Nat} {o : OId} {a0 : Int32} {a1 : Int32} {S : SS} : evm (d + 1) 158 [aR o, aI a0, aI a1] S = ev (evm d) 158 0 [some (aR o), some (aI a0), some (aI a1), none] [] [] S := evm_s (n := 4) rfl (Nat.le_of_ble_eq_true rfl) rfl rfl
/-! FrequencyOffice.complain(II)I -/
theorem i160_0 : insAt 160 0 = some (.aload_n 0, 1, (0, 0, 0, 0), 0) := rfl
theorem s160_0 {c : Nat → List AV → SS → Option Out} {l1 l2 l3 l4 : Option AV} {o : OId} {L2 : List (Nat × AV)} {St : List AV} {S : SS} : ev c 160 0 [some (aR o), l1, l2, l3, l4] L2 St S = ev c 160 1 [some (aR o), l1, l2, l3, l4] L2 (aR o :: St) S := ev_go i160_0 rfl
theorem i160_1 : insAt 160 1 = some (.iload_n 1, 1, (0, 0, 0, 0), 0) := rfl
theorem s160_1 {c : Nat → List AV → SS → Option Out} {l0 l2 l3 l4 : Option AV} {x : Int32} {L2 : List (Nat × AV)} {St : List AV} {S : SS} : ev c 160 1 [l0, some (aI x), l2, l3, l4] L2 St S = ev c 160 2 [l0, some (aI x), l2, l3, l4] L2 (aI x :: St) S := ev_go i160_1 rfl
theorem i160_2 : insAt 160 2 = some (.invokevirtual 134, 3, (93, 1, 2, 11), 0) := rfl
theorem s160_2 {c : Nat → List AV → SS → Option Out} {l0 l1 l2 l3 l4 : Option AV} {a0 : Int32} {j t : Nat} {L2 : List (Nat × AV)} {S : SS} : ev c 160 2 [l0, l1, l2, l3, l4] L2 [aI a0, aR (11, j, t)] S = ck (c 93 [aR (11, j, t), aI a0] S) (fun v S' => ev c 160 5 [l0, l1, l2, l3, l4] L2 (v.toList ++ []) S') := ev_call i160_2 rfl
theorem i160_5 : insAt 160 5 = some (.istore_n 3, 1, (0, 0, 0, 0), 0) := rfl
theorem s160_5 {c : Nat → List AV → SS → Option Out} {l0 l1 l2 l3 l4 : Option AV} {x : Int32} {L2 : List (Nat × AV)} {St : List AV} {S : SS} : ev c 160 5 [l0, l1, l2, l3, l4] L2 (aI x :: St) S = ev c 160 6 [l0, l1, l2, some (aI x), l4] (kil L2 3) St S := ev_go i160_5 rfl
theorem i160_6 : insAt 160 6 = some (.aload_n 0, 1, (0, 0, 0, 0), 0) := rfl
theorem s160_6 {c : Nat → List AV → SS → Option Out} {l1 l2 l3 l4 : Option AV} {o : OId} {L2 : List (Nat × AV)} {St : List AV} {S : SS} : ev c 160 6 [some (aR o), l1, l2, l3, l4] L2 St S = ev c 160 7 [some (aR o), l1, l2, l3, l4] L2 (aR o :: St) S := ev_go i160_6 rfl
theorem i160_7 : insAt 160 7 = some (.iload_n 1, 1, (0, 0, 0, 0), 0) := rfl
theorem s160_7 {c : Nat → List AV → SS → Option Out} {l0 l2 l3 l4 : Option AV} {x : Int32} {L2 : List (Nat × AV)} {St : List AV} {S : SS} : ev c 160 7 [l0, some (aI x), l2, l3, l4] L2 St S = ev c 160 8 [l0, some (aI x), l2, l3, l4] L2 (aI x :: St) S := ev_go i160_7 rfl
theorem i160_8 : insAt 160 8 = some (.iload_n 2, 1, (0, 0, 0, 0), 0) := rfl
theorem s160_8 {c : Nat → List AV → SS → Option Out} {l0 l1 l3 l4 : Option AV} {x : Int32} {L2 : List (Nat × AV)} {St : List AV} {S : SS} : ev c 160 8 [l0, l1, some (aI x), l3, l4] L2 St S = ev c 160 9 [l0, l1, some (aI x), l3, l4] L2 (aI x :: St) S := ev_go i160_8 rfl
theorem i160_9 : insAt 160 9 = some (.invokevirtual 189, 3, (121, 2, 2, 11), 0) := rfl
theorem s160_9 {c : Nat → List AV → SS → Option Out} {l0 l1 l2 l3 l4 : Option AV} {a0 : Int32} {a1 : Int32} {j t : Nat} {L2 : List (Nat × AV)} {S : SS} : ev c 160 9 [l0, l1, l2, l3, l4] L2 [aI a1, aI a0, aR (11, j, t)] S = ck (c 121 [aR (11, j, t), aI a0, aI a1] S) (fun v S' => ev c 160 12 [l0, l1, l2, l3, l4] L2 (v.toList ++ []) S') := ev_call i160_9 rfl
theorem i160_12 : insAt 160 12 = some (.istore 4, 2, (0, 0, 0, 0), 0) := rfl
theorem s160_12 {c : Nat → List AV → SS → Option Out} {l0 l1 l2 l3 l4 : Option AV} {x : Int32} {L2 : List (Nat × AV)} {St : List AV} {S : SS} : ev c 160 12 [l0, l1, l2, l3, l4] L2 (aI x :: St) S = ev c 160 14 [l0, l1, l2, l3, some (aI x)] (kil L2 4) St S := ev_go i160_12 rfl
theorem i160_14 : insAt 160 14 = some (.aload_n 0, 1, (0, 0, 0, 0), 0) := rfl
theorem s160_14 {c : Nat → List AV → SS → Option Out} {l1 l2 l3 l4 : Option AV} {o : OId} {L2 : List (Nat × AV)} {St : List AV} {S : SS} : ev c 160 14 [some (aR o), l1, l2, l3, l4] L2 St S = ev c 160 15 [some (aR o), l1, l2, l3, l4] L2 (aR o :: St) S := ev_go i160_14 rfl
theorem i160_15 : insAt 160 15 = some (.iload_n 3, 1, (0, 0, 0, 0), 0) := rfl
theorem s160_15 {c : Nat → List AV → SS → Option Out} {l0 l1 l2 l4 : Option AV} {x : Int32} {L2 : List (Nat × AV)} {St : List AV} {S : SS} : ev c 160 15 [l0, l1, l2, some (aI x), l4] L2 St S = ev c 160 16 [l0, l1, l2, some (aI x), l4] L2 (aI x :: St) S := ev_go i160_15 rfl
theorem i160_16 : insAt 160 16 = some (.iload 4, 2, (0, 0, 0, 0), 0) := rfl
theorem s160_16 {c : Nat → List AV → SS → Option Out} {l0 l1 l2 l3 : Option AV} {x : Int32} {L2 : List (Nat × AV)} {St : List AV} {S : SS} : ev c 160 16 [l0, l1, l2, l3, some (aI x)] L2 St S = ev c 160 18 [l0, l1, l2, l3, some (aI x)] L2 (aI x :: St) S := ev_go i160_16 rfl
theorem i160_18 : insAt 160 18 = some (.invokevirtual 247, 3, (161, 2, 2, 11), 0) := rfl
theorem s160_18 {c : Nat → List AV → SS → Option Out} {l0 l1 l2 l3 l4 : Option AV} {a0 : Int32} {a1 : Int32} {j t : Nat} {L2 : List (Nat × AV)} {S : SS} : ev c 160 18 [l0, l1, l2, l3, l4] L2 [aI a1, aI a0, aR (11, j, t)] S = ck (c 161 [aR (11, j, t), aI a0, aI a1] S) (fun v S' => ev c 160 21 [l0, l1, l2, l3, l4] L2 (v.toList ++ []) S') := ev_call i160_18 rfl
theorem i160_21 : insAt 160 21 = some (.aload_n 0, 1, (0, 0, 0, 0), 0) := rfl
theorem s160_21 {c : Nat → List AV → SS → Option Out} {l1 l2 l3 l4 : Option AV} {o : OId} {L2 : List (Nat × AV)} {St : List AV} {S : SS} : ev c 160 21 [some (aR o), l1, l2, l3, l4] L2 St S = ev c 160 22 [some (aR o), l1, l2, l3, l4] L2 (aR o :: St) S := ev_go i160_21 rfl
theorem i160_22 : insAt 160 22 = some (.getfield 10, 3, (11, 0, 0, 0), 0) := rfl
theorem s160_22 {c : Nat → List AV → SS → Option Out} {l0 l1 l2 l3 l4 : Option AV} {j t : Nat} {L2 : List (Nat × AV)} {St : List AV} {S : SS} : ev c 160 22 [l0, l1, l2, l3, l4] L2 (aR (11, j, t) :: St) S = ev c 160 25 [l0, l1, l2, l3, l4] L2 (S.2.2.1 (11, j, t) 0 :: St) S := ev_go i160_22 rfl
theorem i160_25 : insAt 160 25 = some (.iload_n 3, 1, (0, 0, 0, 0), 0) := rfl
theorem s160_25 {c : Nat → List AV → SS → Option Out} {l0 l1 l2 l4 : Option AV} {x : Int32} {L2 : List (Nat × AV)} {St : List AV} {S : SS} : ev c 160 25 [l0, l1, l2, some (aI x), l4] L2 St S = ev c 160 26 [l0, l1, l2, some (aI x), l4] L2 (aI x :: St) S := ev_go i160_25 rfl
theorem i160_26 : insAt 160 26 = some (.iload 4, 2, (0, 0, 0, 0), 0) := rfl
theorem s160_26 {c : Nat → List AV → SS → Option Out} {l0 l1 l2 l3 : Option AV} {x : Int32} {L2 : List (Nat × AV)} {St : List AV} {S : SS} : ev c 160 26 [l0, l1, l2, l3, some (aI x)] L2 St S = ev c 160 28 [l0, l1, l2, l3, some (aI x)] L2 (aI x :: St) S := ev_go i160_26 rfl
theorem i160_28 : insAt 160 28 = some (.invokevirtual 204, 3, (24, 2, 3, 4), 0) := rfl
theorem s160_28 {c : Nat → List AV → SS → Option Out} {l0 l1 l2 l3 l4 : Option AV} {a0 : Int32} {a1 : Int32} {j t : Nat} {L2 : List (Nat × AV)} {S : SS} : ev c 160 28 [l0, l1, l2, l3, l4] L2 [aI a1, aI a0, aR (4, j, t)] S = ck (c 24 [aR (4, j, t), aI a0, aI a1] S) (fun v S' => ev c 160 31 [l0, l1, l2, l3, l4] L2 (v.toList ++ []) S') := ev_call i160_28 rfl
theorem i160_31 : insAt 160 31 = some (.ifCond .le 26, 3, (0, 0, 0, 0), 0) := rfl
theorem s160_31 {c : Nat → List AV → SS → Option Out} {l0 l1 l2 l3 l4 : Option AV} {x : Int32} {L2 : List (Nat × AV)} {St : List AV} {S : SS} : ev c 160 31 [l0, l1, l2, l3, l4] L2 (aI x :: St) S = if x ≤ 0 then ev c 160 57 [l0, l1, l2, l3, l4] L2 St S else ev c 160 34 [l0, l1, l2, l3, l4] L2 St S := ev_br i160_31 rfl
theorem i160_34 : insAt 160 34 = some (.aload_n 0, 1, (0, 0, 0, 0), 0) := rfl
theorem s160_34 {c : Nat → List AV → SS → Option Out} {l1 l2 l3 l4 : Option AV} {o : OId} {L2 : List (Nat × AV)} {St : List AV} {S : SS} : ev c 160 34 [some (aR o), l1, l2, l3, l4] L2 St S = ev c 160 35 [some (aR o), l1, l2, l3, l4] L2 (aR o :: St) S := ev_go i160_34 rfl
theorem i160_35 : insAt 160 35 = some (.getfield 19, 3, (11, 1, 0, 0), 0) := rfl
theorem s160_35 {c : Nat → List AV → SS → Option Out} {l0 l1 l2 l3 l4 : Option AV} {j t : Nat} {L2 : List (Nat × AV)} {St : List AV} {S : SS} : ev c 160 35 [l0, l1, l2, l3, l4] L2 (aR (11, j, t) :: St) S = ev c 160 38 [l0, l1, l2, l3, l4] L2 (S.2.2.1 (11, j, t) 1 :: St) S := ev_go i160_35 rfl
theorem i160_38 : insAt 160 38 = some (.aload_n 0, 1, (0, 0, 0, 0), 0) := rfl
theorem s160_38 {c : Nat → List AV → SS → Option Out} {l1 l2 l3 l4 : Option AV} {o : OId} {L2 : List (Nat × AV)} {St : List AV} {S : SS} : ev c 160 38 [some (aR o), l1, l2, l3, l4] L2 St S = ev c 160 39 [some (aR o), l1, l2, l3, l4] L2 (aR o :: St) S := ev_go i160_38 rfl
theorem i160_39 : insAt 160 39 = some (.getfield 10, 3, (11, 0, 0, 0), 0) := rfl
theorem s160_39 {c : Nat → List AV → SS → Option Out} {l0 l1 l2 l3 l4 : Option AV} {j t : Nat} {L2 : List (Nat × AV)} {St : List AV} {S : SS} : ev c 160 39 [l0, l1, l2, l3, l4] L2 (aR (11, j, t) :: St) S = ev c 160 42 [l0, l1, l2, l3, l4] L2 (S.2.2.1 (11, j, t) 0 :: St) S := ev_go i160_39 rfl
theorem i160_42 : insAt 160 42 = some (.invokevirtual 71, 3, (62, 1, 3, 5), 0) := rfl
theorem s160_42 {c : Nat → List AV → SS → Option Out} {l0 l1 l2 l3 l4 : Option AV} {a0 : OId} {j t : Nat} {L2 : List (Nat × AV)} {S : SS} : ev c 160 42 [l0, l1, l2, l3, l4] L2 [aR a0, aR (5, j, t)] S = ck (c 62 [aR (5, j, t), aR a0] S) (fun v S' => ev c 160 45 [l0, l1, l2, l3, l4] L2 (v.toList ++ []) S') := ev_call i160_42 rfl
theorem i160_45 : insAt 160 45 = some (.aload_n 0, 1, (0, 0, 0, 0), 0) := rfl
theorem s160_45 {c : Nat → List AV → SS → Option Out} {l1 l2 l3 l4 : Option AV} {o : OId} {L2 : List (Nat × AV)} {St : List AV} {S : SS} : ev c 160 45 [some (aR o), l1, l2, l3, l4] L2 St S = ev c 160 46 [some (aR o), l1, l2, l3, l4] L2 (aR o :: St) S := ev_go i160_45 rfl
theorem i160_46 : insAt 160 46 = some (.getfield 10, 3, (11, 0, 0, 0), 0) := rfl
theorem s160_46 {c : Nat → List AV → SS → Option Out} {l0 l1 l2 l3 l4 : Option AV} {j t : Nat} {L2 : List (Nat × AV)} {St : List AV} {S : SS} : ev c 160 46 [l0, l1, l2, l3, l4] L2 (aR (11, j, t) :: St) S = ev c 160 49 [l0, l1, l2, l3, l4] L2 (S.2.2.1 (11, j, t) 0 :: St) S := ev_go i160_46 rfl
theorem i160_49 : insAt 160 49 = some (.iload_n 3, 1, (0, 0, 0, 0), 0) := rfl
theorem s160_49 {c : Nat → List AV → SS → Option Out} {l0 l1 l2 l4 : Option AV} {x : Int32} {L2 : List (Nat × AV)} {St : List AV} {S : SS} : ev c 160 49 [l0, l1, l2, some (aI x), l4] L2 St S = ev c 160 50 [l0, l1, l2, some (aI x), l4] L2 (aI x :: St) S := ev_go i160_49 rfl
theorem i160_50 : insAt 160 50 = some (.iload 4, 2, (0, 0, 0, 0), 0) := rfl
theorem s160_50 {c : Nat → List AV → SS → Option Out} {l0 l1 l2 l3 : Option AV} {x : Int32} {L2 : List (Nat × AV)} {St : List AV} {S : SS} : ev c 160 50 [l0, l1, l2, l3, some (aI x)] L2 St S = ev c 160 52 [l0, l1, l2, l3, some (aI x)] L2 (aI x :: St) S := ev_go i160_50 rfl
theorem i160_52 : insAt 160 52 = some (.invokevirtual 250, 3, (162, 2, 3, 4), 0) := rfl
theorem s160_52 {c : Nat → List AV → SS → Option Out} {l0 l1 l2 l3 l4 : Option AV} {a0 : Int32} {a1 : Int32} {j t : Nat} {L2 : List (Nat × AV)} {S : SS} : ev c 160 52 [l0, l1, l2, l3, l4] L2 [aI a1, aI a0, aR (4, j, t)] S = ck (c 162 [aR (4, j, t), aI a0, aI a1] S) (fun v S' => ev c 160 55 [l0, l1, l2, l3, l4] L2 (v.toList ++ []) S') := ev_call i160_52 rfl
theorem i160_55 : insAt 160 55 = some (.iconst 0, 1, (0, 0, 0, 0), 0) := rfl
theorem s160_55 {c : Nat → List AV → SS → Option Out} {l0 l1 l2 l3 l4 : Option AV} {L2 : List (Nat × AV)} {St : List AV} {S : SS} : ev c 160 55 [l0, l1, l2, l3, l4] L2 St S = ev c 160 56 [l0, l1, l2, l3, l4] L2 (aI 0 :: St) S := ev_go i160_55 rfl
theorem i160_56 : insAt 160 56 = some (.ireturn, 1, (0, 0, 0, 0), 0) := rfl
theorem s160_56 {c : Nat → List AV → SS → Option Out} {l0 l1 l2 l3 l4 : Option AV} {x : Int32} {L2 : List (Nat × AV)} {St : List AV} {S : SS} : ev c 160 56 [l0, l1, l2, l3, l4] L2 [aI x] S = some (.inl (some (aI x)), S) := ev_end i160_56 rfl
theorem i160_57 : insAt 160 57 = some (.aload_n 0, 1, (0, 0, 0, 0), 0) := rfl
theorem s160_57 {c : Nat → List AV → SS → Option Out} {l1 l2 l3 l4 : Option AV} {o : OId} {L2 : List (Nat × AV)} {St : List AV} {S : SS} : ev c 160 57 [some (aR o), l1, l2, l3, l4] L2 St S = ev c 160 58 [some (aR o), l1, l2, l3, l4] L2 (aR o :: St) S := ev_go i160_57 rfl
theorem i160_58 : insAt 160 58 = some (.getfield 38, 3, (11, 4, 0, 0), 0) := rfl
theorem s160_58 {c : Nat → List AV → SS → Option Out} {l0 l1 l2 l3 l4 : Option AV} {j t : Nat} {L2 : List (Nat × AV)} {St : List AV} {S : SS} : ev c 160 58 [l0, l1, l2, l3, l4] L2 (aR (11, j, t) :: St) S = ev c 160 61 [l0, l1, l2, l3, l4] L2 (S.2.2.1 (11, j, t) 4 :: St) S := ev_go i160_58 rfl
theorem i160_61 : insAt 160 61 = some (.aload_n 0, 1, (0, 0, 0, 0), 0) := rfl
theorem s160_61 {c : Nat → List AV → SS → Option Out} {l1 l2 l3 l4 : Option AV} {o : OId} {L2 : List (Nat × AV)} {St : List AV} {S : SS} : ev c 160 61 [some (aR o), l1, l2, l3, l4] L2 St S = ev c 160 62 [some (aR o), l1, l2, l3, l4] L2 (aR o :: St) S := ev_go i160_61 rfl
theorem i160_62 : insAt 160 62 = some (.getfield 10, 3, (11, 0, 0, 0), 0) := rfl
theorem s160_62 {c : Nat → List AV → SS → Option Out} {l0 l1 l2 l3 l4 : Option AV} {j t : Nat} {L2 : List (Nat × AV)} {St : List AV} {S : SS} : ev c 160 62 [l0, l1, l2, l3, l4] L2 (aR (11, j, t) :: St) S = ev c 160 65 [l0, l1, l2, l3, l4] L2 (S.2.2.1 (11, j, t) 0 :: St) S := ev_go i160_62 rfl
theorem i160_65 : insAt 160 65 = some (.iload_n 1, 1, (0, 0, 0, 0), 0) := rfl
theorem s160_65 {c : Nat → List AV → SS → Option Out} {l0 l2 l3 l4 : Option AV} {x : Int32} {L2 : List (Nat × AV)} {St : List AV} {S : SS} : ev c 160 65 [l0, some (aI x), l2, l3, l4] L2 St S = ev c 160 66 [l0, some (aI x), l2, l3, l4] L2 (aI x :: St) S := ev_go i160_65 rfl
theorem i160_66 : insAt 160 66 = some (.iload 4, 2, (0, 0, 0, 0), 0) := rfl
theorem s160_66 {c : Nat → List AV → SS → Option Out} {l0 l1 l2 l3 : Option AV} {x : Int32} {L2 : List (Nat × AV)} {St : List AV} {S : SS} : ev c 160 66 [l0, l1, l2, l3, some (aI x)] L2 St S = ev c 160 68 [l0, l1, l2, l3, some (aI x)] L2 (aI x :: St) S := ev_go i160_66 rfl
theorem i160_68 : insAt 160 68 = some (.invokevirtual 253, 3, (163, 3, 3, 8), 0) := rfl
theorem s160_68 {c : Nat → List AV → SS → Option Out} {l0 l1 l2 l3 l4 : Option AV} {a0 : OId} {a1 : Int32} {a2 : Int32} {j t : Nat} {L2 : List (Nat × AV)} {S : SS} : ev c 160 68 [l0, l1, l2, l3, l4] L2 [aI a2, aI a1, aR a0, aR (8, j, t)] S = ck (c 163 [aR (8, j, t), aR a0, aI a1, aI a2] S) (fun v S' => ev c 160 71 [l0, l1, l2, l3, l4] L2 (v.toList ++ []) S') := ev_call i160_68 rfl
theorem i160_71 : insAt 160 71 = some (.aload_n 0, 1, (0, 0, 0, 0), 0) := rfl
theorem s160_71 {c : Nat → List AV → SS → Option Out} {l1 l2 l3 l4 : Option AV} {o : OId} {L2 : List (Nat × AV)} {St : List AV} {S : SS} : ev c 160 71 [some (aR o), l1, l2, l3, l4] L2 St S = ev c 160 72 [some (aR o), l1, l2, l3, l4] L2 (aR o :: St) S := ev_go i160_71 rfl
theorem i160_72 : insAt 160 72 = some (.invokevirtual 95, 3, (70, 0, 2, 11), 0) := rfl
theorem s160_72 {c : Nat → List AV → SS → Option Out} {l0 l1 l2 l3 l4 : Option AV} {j t : Nat} {L2 : List (Nat × AV)} {S : SS} : ev c 160 72 [l0, l1, l2, l3, l4] L2 [aR (11, j, t)] S = ck (c 70 [aR (11, j, t)] S) (fun v S' => ev c 160 75 [l0, l1, l2, l3, l4] L2 (v.toList ++ []) S') := ev_call i160_72 rfl
theorem i160_75 : insAt 160 75 = some (.aload_n 0, 1, (0, 0, 0, 0), 0) := rfl
theorem s160_75 {c : Nat → List AV → SS → Option Out} {l1 l2 l3 l4 : Option AV} {o : OId} {L2 : List (Nat × AV)} {St : List AV} {S : SS} : ev c 160 75 [some (aR o), l1, l2, l3, l4] L2 St S = ev c 160 76 [some (aR o), l1, l2, l3, l4] L2 (aR o :: St) S := ev_go i160_75 rfl
theorem i160_76 : insAt 160 76 = some (.getfield 19, 3, (11, 1, 0, 0), 0) := rfl
theorem s160_76 {c : Nat → List AV → SS → Option Out} {l0 l1 l2 l3 l4 : Option AV} {j t : Nat} {L2 : List (Nat × AV)} {St : List AV} {S : SS} : ev c 160 76 [l0, l1, l2, l3, l4] L2 (aR (11, j, t) :: St) S = ev c 160 79 [l0, l1, l2, l3, l4] L2 (S.2.2.1 (11, j, t) 1 :: St) S := ev_go i160_76 rfl
theorem i160_79 : insAt 160 79 = some (.aload_n 0, 1, (0, 0, 0, 0), 0) := rfl
theorem s160_79 {c : Nat → List AV → SS → Option Out} {l1 l2 l3 l4 : Option AV} {o : OId} {L2 : List (Nat × AV)} {St : List AV} {S : SS} : ev c 160 79 [some (aR o), l1, l2, l3, l4] L2 St S = ev c 160 80 [some (aR o), l1, l2, l3, l4] L2 (aR o :: St) S := ev_go i160_79 rfl
theorem i160_80 : insAt 160 80 = some (.getfield 10, 3, (11, 0, 0, 0), 0) := rfl
theorem s160_80 {c : Nat → List AV → SS → Option Out} {l0 l1 l2 l3 l4 : Option AV} {j t : Nat} {L2 : List (Nat × AV)} {St : List AV} {S : SS} : ev c 160 80 [l0, l1, l2, l3, l4] L2 (aR (11, j, t) :: St) S = ev c 160 83 [l0, l1, l2, l3, l4] L2 (S.2.2.1 (11, j, t) 0 :: St) S := ev_go i160_80 rfl
theorem i160_83 : insAt 160 83 = some (.invokevirtual 71, 3, (62, 1, 3, 5), 0) := rfl
theorem s160_83 {c : Nat → List AV → SS → Option Out} {l0 l1 l2 l3 l4 : Option AV} {a0 : OId} {j t : Nat} {L2 : List (Nat × AV)} {S : SS} : ev c 160 83 [l0, l1, l2, l3, l4] L2 [aR a0, aR (5, j, t)] S = ck (c 62 [aR (5, j, t), aR a0] S) (fun v S' => ev c 160 86 [l0, l1, l2, l3, l4] L2 (v.toList ++ []) S') := ev_call i160_83 rfl
theorem i160_86 : insAt 160 86 = some (.aload_n 0, 1, (0, 0, 0, 0), 0) := rfl
theorem s160_86 {c : Nat → List AV → SS → Option Out} {l1 l2 l3 l4 : Option AV} {o : OId} {L2 : List (Nat × AV)} {St : List AV} {S : SS} : ev c 160 86 [some (aR o), l1, l2, l3, l4] L2 St S = ev c 160 87 [some (aR o), l1, l2, l3, l4] L2 (aR o :: St) S := ev_go i160_86 rfl
theorem i160_87 : insAt 160 87 = some (.getfield 10, 3, (11, 0, 0, 0), 0) := rfl
theorem s160_87 {c : Nat → List AV → SS → Option Out} {l0 l1 l2 l3 l4 : Option AV} {j t : Nat} {L2 : List (Nat × AV)} {St : List AV} {S : SS} : ev c 160 87 [l0, l1, l2, l3, l4] L2 (aR (11, j, t) :: St) S = ev c 160 90 [l0, l1, l2, l3, l4] L2 (S.2.2.1 (11, j, t) 0 :: St) S := ev_go i160_87 rfl
theorem i160_90 : insAt 160 90 = some (.iload_n 3, 1, (0, 0, 0, 0), 0) := rfl
theorem s160_90 {c : Nat → List AV → SS → Option Out} {l0 l1 l2 l4 : Option AV} {x : Int32} {L2 : List (Nat × AV)} {St : List AV} {S : SS} : ev c 160 90 [l0, l1, l2, some (aI x), l4] L2 St S = ev c 160 91 [l0, l1, l2, some (aI x), l4] L2 (aI x :: St) S := ev_go i160_90 rfl
theorem i160_91 : insAt 160 91 = some (.iload 4, 2, (0, 0, 0, 0), 0) := rfl
theorem s160_91 {c : Nat → List AV → SS → Option Out} {l0 l1 l2 l3 : Option AV} {x : Int32} {L2 : List (Nat × AV)} {St : List AV} {S : SS} : ev c 160 91 [l0, l1, l2, l3, some (aI x)] L2 St S = ev c 160 93 [l0, l1, l2, l3, some (aI x)] L2 (aI x :: St) S := ev_go i160_91 rfl
theorem i160_93 : insAt 160 93 = some (.invokevirtual 250, 3, (162, 2, 3, 4), 0) := rfl
theorem s160_93 {c : Nat → List AV → SS → Option Out} {l0 l1 l2 l3 l4 : Option AV} {a0 : Int32} {a1 : Int32} {j t : Nat} {L2 : List (Nat × AV)} {S : SS} : ev c 160 93 [l0, l1, l2, l3, l4] L2 [aI a1, aI a0, aR (4, j, t)] S = ck (c 162 [aR (4, j, t), aI a0, aI a1] S) (fun v S' => ev c 160 96 [l0, l1, l2, l3, l4] L2 (v.toList ++ []) S') := ev_call i160_93 rfl
theorem i160_96 : insAt 160 96 = some (.aload_n 0, 1, (0, 0, 0, 0), 0) := rfl
theorem s160_96 {c : Nat → List AV → SS → Option Out} {l1 l2 l3 l4 : Option AV} {o : OId} {L2 : List (Nat × AV)} {St : List AV} {S : SS} : ev c 160 96 [some (aR o), l1, l2, l3, l4] L2 St S = ev c 160 97 [some (aR o), l1, l2, l3, l4] L2 (aR o :: St) S := ev_go i160_96 rfl
theorem i160_97 : insAt 160 97 = some (.getfield 10, 3, (11, 0, 0, 0), 0) := rfl
theorem s160_97 {c : Nat → List AV → SS → Option Out} {l0 l1 l2 l3 l4 : Option AV} {j t : Nat} {L2 : List (Nat × AV)} {St : List AV} {S : SS} : ev c 160 97 [l0, l1, l2, l3, l4] L2 (aR (11, j, t) :: St) S = ev c 160 100 [l0, l1, l2, l3, l4] L2 (S.2.2.1 (11, j, t) 0 :: St) S := ev_go i160_97 rfl
theorem i160_100 : insAt 160 100 = some (.aload_n 0, 1, (0, 0, 0, 0), 0) := rfl
theorem s160_100 {c : Nat → List AV → SS → Option Out} {l1 l2 l3 l4 : Option AV} {o : OId} {L2 : List (Nat × AV)} {St : List AV} {S : SS} : ev c 160 100 [some (aR o), l1, l2, l3, l4] L2 St S = ev c 160 101 [some (aR o), l1, l2, l3, l4] L2 (aR o :: St) S := ev_go i160_100 rfl
theorem i160_101 : insAt 160 101 = some (.getfield 38, 3, (11, 4, 0, 0), 0) := rfl
theorem s160_101 {c : Nat → List AV → SS → Option Out} {l0 l1 l2 l3 l4 : Option AV} {j t : Nat} {L2 : List (Nat × AV)} {St : List AV} {S : SS} : ev c 160 101 [l0, l1, l2, l3, l4] L2 (aR (11, j, t) :: St) S = ev c 160 104 [l0, l1, l2, l3, l4] L2 (S.2.2.1 (11, j, t) 4 :: St) S := ev_go i160_101 rfl
theorem i160_104 : insAt 160 104 = some (.getfield 105, 3, (8, 1, 1, 0), 0) := rfl
theorem s160_104 {c : Nat → List AV → SS → Option Out} {l0 l1 l2 l3 l4 : Option AV} {j t : Nat} {L2 : List (Nat × AV)} {St : List AV} {S : SS} : ev c 160 104 [l0, l1, l2, l3, l4] L2 (aR (8, j, t) :: St) S = ev c 160 107 [l0, l1, l2, l3, l4] L2 (S.2.2.1 (8, j, t) 1 :: St) S := ev_go i160_104 rfl
theorem i160_107 : insAt 160 107 = some (.iload 4, 2, (0, 0, 0, 0), 0) := rfl
theorem s160_107 {c : Nat → List AV → SS → Option Out} {l0 l1 l2 l3 : Option AV} {x : Int32} {L2 : List (Nat × AV)} {St : List AV} {S : SS} : ev c 160 107 [l0, l1, l2, l3, some (aI x)] L2 St S = ev c 160 109 [l0, l1, l2, l3, some (aI x)] L2 (aI x :: St) S := ev_go i160_107 rfl
theorem i160_109 : insAt 160 109 = some (.invokevirtual 109, 3, (82, 2, 3, 4), 0) := rfl
theorem s160_109 {c : Nat → List AV → SS → Option Out} {l0 l1 l2 l3 l4 : Option AV} {a0 : OId} {a1 : Int32} {j t : Nat} {L2 : List (Nat × AV)} {S : SS} : ev c 160 109 [l0, l1, l2, l3, l4] L2 [aI a1, aR a0, aR (4, j, t)] S = ck (c 82 [aR (4, j, t), aR a0, aI a1] S) (fun v S' => ev c 160 112 [l0, l1, l2, l3, l4] L2 (v.toList ++ []) S') := ev_call i160_109 rfl
theorem i160_112 : insAt 160 112 = some (.aload_n 0, 1, (0, 0, 0, 0), 0) := rfl
theorem s160_112 {c : Nat → List AV → SS → Option Out} {l1 l2 l3 l4 : Option AV} {o : OId} {L2 : List (Nat × AV)} {St : List AV} {S : SS} : ev c 160 112 [some (aR o), l1, l2, l3, l4] L2 St S = ev c 160 113 [some (aR o), l1, l2, l3, l4] L2 (aR o :: St) S := ev_go i160_112 rfl
theorem i160_113 : insAt 160 113 = some (.getfield 38, 3, (11, 4, 0, 0), 0) := rfl
theorem s160_113 {c : Nat → List AV → SS → Option Out} {l0 l1 l2 l3 l4 : Option AV} {j t : Nat} {L2 : List (Nat × AV)} {St : List AV} {S : SS} : ev c 160 113 [l0, l1, l2, l3, l4] L2 (aR (11, j, t) :: St) S = ev c 160 116 [l0, l1, l2, l3, l4] L2 (S.2.2.1 (11, j, t) 4 :: St) S := ev_go i160_113 rfl
theorem i160_116 : insAt 160 116 = some (.getfield 105, 3, (8, 1, 1, 0), 0) := rfl
theorem s160_116 {c : Nat → List AV → SS → Option Out} {l0 l1 l2 l3 l4 : Option AV} {j t : Nat} {L2 : List (Nat × AV)} {St : List AV} {S : SS} : ev c 160 116 [l0, l1, l2, l3, l4] L2 (aR (8, j, t) :: St) S = ev c 160 119 [l0, l1, l2, l3, l4] L2 (S.2.2.1 (8, j, t) 1 :: St) S := ev_go i160_116 rfl
theorem i160_119 : insAt 160 119 = some (.getfield 233, 3, (7, 0, 1, 0), 0) := rfl
theorem s160_119 {c : Nat → List AV → SS → Option Out} {l0 l1 l2 l3 l4 : Option AV} {j t : Nat} {L2 : List (Nat × AV)} {St : List AV} {S : SS} : ev c 160 119 [l0, l1, l2, l3, l4] L2 (aR (7, j, t) :: St) S = ev c 160 122 [l0, l1, l2, l3, l4] L2 (aI (S.1 (7, j, t) 0) :: St) S := ev_go i160_119 rfl
theorem i160_122 : insAt 160 122 = some (.iconst 1, 1, (0, 0, 0, 0), 0) := rfl
theorem s160_122 {c : Nat → List AV → SS → Option Out} {l0 l1 l2 l3 l4 : Option AV} {L2 : List (Nat × AV)} {St : List AV} {S : SS} : ev c 160 122 [l0, l1, l2, l3, l4] L2 St S = ev c 160 123 [l0, l1, l2, l3, l4] L2 (aI 1 :: St) S := ev_go i160_122 rfl
theorem i160_123 : insAt 160 123 = some (.iadd, 1, (0, 0, 0, 0), 0) := rfl
theorem s160_123 {c : Nat → List AV → SS → Option Out} {l0 l1 l2 l3 l4 : Option AV} {x y : Int32} {L2 : List (Nat × AV)} {St : List AV} {S : SS} : ev c 160 123 [l0, l1, l2, l3, l4] L2 (aI y :: aI x :: St) S = ev c 160 124 [l0, l1, l2, l3, l4] L2 (aI (x + y) :: St) S := ev_go i160_123 rfl
theorem i160_124 : insAt 160 124 = some (.ireturn, 1, (0, 0, 0, 0), 0) := rfl
theorem s160_124 {c : Nat → List AV → SS → Option Out} {l0 l1 l2 l3 l4 : Option AV} {x : Int32} {L2 : List (Nat × AV)} {St : List AV} {S : SS} : ev c 160 124 [l0, l1, l2, l3, l4] L2 [aI x] S = some (.inl (some (aI x)), S) := ev_end i160_124 rfl
theorem m160 {d : Nat} {o : OId} {a0 : Int32} {a1 : Int32} {S : SS} : evm (d + 1) 160 [aR o, aI a0, aI a1] S = ev (evm d) 160 0 [some (aR o), some (aI a0), some (aI a1), none, none] [] [] S := evm_s (n := 5) rfl (Nat.le_of_ble_eq_true rfl) rfl rfl
/-! FrequencyOffice.checkComplaint(II)V -/
theorem i161_0 : insAt 161 0 = some (.aload_n 0, 1, (0, 0, 0, 0), 0) := rfl
theorem s161_0 {c : Nat → List AV → SS → Option Out} {l1 l2 : Option AV} {o : OId} {L2 : List (Nat × AV)} {St : List AV} {S : SS} : ev c 161 0 [some (aR o), l1, l2] L2 St S = ev c 161 1 [some (aR o), l1, l2] L2 (aR o :: St) S := ev_go i161_0 rfl
theorem i161_1 : insAt 161 1 = some (.getfield 10, 3, (11, 0, 0, 0), 0) := rfl
theorem s161_1 {c : Nat → List AV → SS → Option Out} {l0 l1 l2 : Option AV} {j t : Nat} {L2 : List (Nat × AV)} {St : List AV} {S : SS} : ev c 161 1 [l0, l1, l2] L2 (aR (11, j, t) :: St) S = ev c 161 4 [l0, l1, l2] L2 (S.2.2.1 (11, j, t) 0 :: St) S := ev_go i161_1 rfl
theorem i161_4 : insAt 161 4 = some (.iload_n 1, 1, (0, 0, 0, 0), 0) := rfl
theorem s161_4 {c : Nat → List AV → SS → Option Out} {l0 l2 : Option AV} {x : Int32} {L2 : List (Nat × AV)} {St : List AV} {S : SS} : ev c 161 4 [l0, some (aI x), l2] L2 St S = ev c 161 5 [l0, some (aI x), l2] L2 (aI x :: St) S := ev_go i161_4 rfl
theorem i161_5 : insAt 161 5 = some (.invokevirtual 125, 3, (17, 1, 3, 4), 0) := rfl
theorem s161_5 {c : Nat → List AV → SS → Option Out} {l0 l1 l2 : Option AV} {a0 : Int32} {j t : Nat} {L2 : List (Nat × AV)} {S : SS} : ev c 161 5 [l0, l1, l2] L2 [aI a0, aR (4, j, t)] S = ck (c 17 [aR (4, j, t), aI a0] S) (fun v S' => ev c 161 8 [l0, l1, l2] L2 (v.toList ++ []) S') := ev_call i161_5 rfl
theorem i161_8 : insAt 161 8 = some (.invokestatic 146, 3, (96, 1, 0, 0), 0) := rfl
theorem s161_8 {c : Nat → List AV → SS → Option Out} {l0 l1 l2 : Option AV} {a0 : OId} {L2 : List (Nat × AV)} {S : SS} : ev c 161 8 [l0, l1, l2] L2 [aR a0] S = ck (c 96 [aR a0] S) (fun v S' => ev c 161 11 [l0, l1, l2] L2 (v.toList ++ []) S') := ev_call i161_8 rfl
theorem i161_11 : insAt 161 11 = some (.aload_n 0, 1, (0, 0, 0, 0), 0) := rfl
theorem s161_11 {c : Nat → List AV → SS → Option Out} {l1 l2 : Option AV} {o : OId} {L2 : List (Nat × AV)} {St : List AV} {S : SS} : ev c 161 11 [some (aR o), l1, l2] L2 St S = ev c 161 12 [some (aR o), l1, l2] L2 (aR o :: St) S := ev_go i161_11 rfl
theorem i161_12 : insAt 161 12 = some (.getfield 10, 3, (11, 0, 0, 0), 0) := rfl
theorem s161_12 {c : Nat → List AV → SS → Option Out} {l0 l1 l2 : Option AV} {j t : Nat} {L2 : List (Nat × AV)} {St : List AV} {S : SS} : ev c 161 12 [l0, l1, l2] L2 (aR (11, j, t) :: St) S = ev c 161 15 [l0, l1, l2] L2 (S.2.2.1 (11, j, t) 0 :: St) S := ev_go i161_12 rfl
theorem i161_15 : insAt 161 15 = some (.iload_n 2, 1, (0, 0, 0, 0), 0) := rfl
theorem s161_15 {c : Nat → List AV → SS → Option Out} {l0 l1 : Option AV} {x : Int32} {L2 : List (Nat × AV)} {St : List AV} {S : SS} : ev c 161 15 [l0, l1, some (aI x)] L2 St S = ev c 161 16 [l0, l1, some (aI x)] L2 (aI x :: St) S := ev_go i161_15 rfl
theorem i161_16 : insAt 161 16 = some (.invokevirtual 125, 3, (17, 1, 3, 4), 0) := rfl
theorem s161_16 {c : Nat → List AV → SS → Option Out} {l0 l1 l2 : Option AV} {a0 : Int32} {j t : Nat} {L2 : List (Nat × AV)} {S : SS} : ev c 161 16 [l0, l1, l2] L2 [aI a0, aR (4, j, t)] S = ck (c 17 [aR (4, j, t), aI a0] S) (fun v S' => ev c 161 19 [l0, l1, l2] L2 (v.toList ++ []) S') := ev_call i161_16 rfl
theorem i161_19 : insAt 161 19 = some (.invokestatic 146, 3, (96, 1, 0, 0), 0) := rfl
theorem s161_19 {c : Nat → List AV → SS → Option Out} {l0 l1 l2 : Option AV} {a0 : OId} {L2 : List (Nat × AV)} {S : SS} : ev c 161 19 [l0, l1, l2] L2 [aR a0] S = ck (c 96 [aR a0] S) (fun v S' => ev c 161 22 [l0, l1, l2] L2 (v.toList ++ []) S') := ev_call i161_19 rfl
theorem i161_22 : insAt 161 22 = some (.aload_n 0, 1, (0, 0, 0, 0), 0) := rfl
theorem s161_22 {c : Nat → List AV → SS → Option Out} {l1 l2 : Option AV} {o : OId} {L2 : List (Nat × AV)} {St : List AV} {S : SS} : ev c 161 22 [some (aR o), l1, l2] L2 St S = ev c 161 23 [some (aR o), l1, l2] L2 (aR o :: St) S := ev_go i161_22 rfl
theorem i161_23 : insAt 161 23 = some (.getfield 10, 3, (11, 0, 0, 0), 0) := rfl
theorem s161_23 {c : Nat → List AV → SS → Option Out} {l0 l1 l2 : Option AV} {j t : Nat} {L2 : List (Nat × AV)} {St : List AV} {S : SS} : ev c 161 23 [l0, l1, l2] L2 (aR (11, j, t) :: St) S = ev c 161 26 [l0, l1, l2] L2 (S.2.2.1 (11, j, t) 0 :: St) S := ev_go i161_23 rfl
theorem i161_26 : insAt 161 26 = some (.iload_n 1, 1, (0, 0, 0, 0), 0) := rfl
theorem s161_26 {c : Nat → List AV → SS → Option Out} {l0 l2 : Option AV} {x : Int32} {L2 : List (Nat × AV)} {St : List AV} {S : SS} : ev c 161 26 [l0, some (aI x), l2] L2 St S = ev c 161 27 [l0, some (aI x), l2] L2 (aI x :: St) S := ev_go i161_26 rfl
theorem i161_27 : insAt 161 27 = some (.iload_n 2, 1, (0, 0, 0, 0), 0) := rfl
theorem s161_27 {c : Nat → List AV → SS → Option Out} {l0 l1 : Option AV} {x : Int32} {L2 : List (Nat × AV)} {St : List AV} {S : SS} : ev c 161 27 [l0, l1, some (aI x)] L2 St S = ev c 161 28 [l0, l1, some (aI x)] L2 (aI x :: St) S := ev_go i161_27 rfl
theorem i161_28 : insAt 161 28 = some (.invokevirtual 195, 3, (27, 2, 3, 4), 0) := rfl
theorem s161_28 {c : Nat → List AV → SS → Option Out} {l0 l1 l2 : Option AV} {a0 : Int32} {a1 : Int32} {j t : Nat} {L2 : List (Nat × AV)} {S : SS} : ev c 161 28 [l0, l1, l2] L2 [aI a1, aI a0, aR (4, j, t)] S = ck (c 27 [aR (4, j, t), aI a0, aI a1] S) (fun v S' => ev c 161 31 [l0, l1, l2] L2 (v.toList ++ []) S') := ev_call i161_28 rfl
theorem i161_31 : insAt 161 31 = some (.ifCond .ne 14, 3, (0, 0, 0, 0), 0) := rfl
theorem s161_31 {c : Nat → List AV → SS → Option Out} {l0 l1 l2 : Option AV} {x : Int32} {L2 : List (Nat × AV)} {St : List AV} {S : SS} : ev c 161 31 [l0, l1, l2] L2 (aI x :: St) S = if x = 0 then ev c 161 34 [l0, l1, l2] L2 St S else ev c 161 45 [l0, l1, l2] L2 St S := (ev_br i161_31 rfl).trans (ite_not _ _ _)
theorem i161_34 : insAt 161 34 = some (.new 64, 3, (1, 0, 1, 0), 0) := rfl
theorem s161_34 {c : Nat → List AV → SS → Option Out} {l0 l1 l2 : Option AV} {L2 : List (Nat × AV)} {S : SS} : ev c 161 34 [l0, l1, l2] L2 [] S = some (.inr "java/lang/IllegalStateException", bump S 1 6) := ev_end i161_34 rfl
theorem i161_37 : insAt 161 37 = some (.dup, 1, (0, 0, 0, 0), 0) := rfl
theorem s161_37 {c : Nat → List AV → SS → Option Out} {l0 l1 l2 : Option AV} {x : OId} {L2 : List (Nat × AV)} {St : List AV} {S : SS} : ev c 161 37 [l0, l1, l2] L2 (aR x :: St) S = ev c 161 38 [l0, l1, l2] L2 (aR x :: aR x :: St) S := ev_go i161_37 rfl
theorem i161_45 : insAt 161 45 = some (.aload_n 0, 1, (0, 0, 0, 0), 0) := rfl
theorem s161_45 {c : Nat → List AV → SS → Option Out} {l1 l2 : Option AV} {o : OId} {L2 : List (Nat × AV)} {St : List AV} {S : SS} : ev c 161 45 [some (aR o), l1, l2] L2 St S = ev c 161 46 [some (aR o), l1, l2] L2 (aR o :: St) S := ev_go i161_45 rfl
theorem i161_46 : insAt 161 46 = some (.getfield 10, 3, (11, 0, 0, 0), 0) := rfl
theorem s161_46 {c : Nat → List AV → SS → Option Out} {l0 l1 l2 : Option AV} {j t : Nat} {L2 : List (Nat × AV)} {St : List AV} {S : SS} : ev c 161 46 [l0, l1, l2] L2 (aR (11, j, t) :: St) S = ev c 161 49 [l0, l1, l2] L2 (S.2.2.1 (11, j, t) 0 :: St) S := ev_go i161_46 rfl
theorem i161_49 : insAt 161 49 = some (.iload_n 1, 1, (0, 0, 0, 0), 0) := rfl
theorem s161_49 {c : Nat → List AV → SS → Option Out} {l0 l2 : Option AV} {x : Int32} {L2 : List (Nat × AV)} {St : List AV} {S : SS} : ev c 161 49 [l0, some (aI x), l2] L2 St S = ev c 161 50 [l0, some (aI x), l2] L2 (aI x :: St) S := ev_go i161_49 rfl
theorem i161_50 : insAt 161 50 = some (.iload_n 2, 1, (0, 0, 0, 0), 0) := rfl
theorem s161_50 {c : Nat → List AV → SS → Option Out} {l0 l1 : Option AV} {x : Int32} {L2 : List (Nat × AV)} {St : List AV} {S : SS} : ev c 161 50 [l0, l1, some (aI x)] L2 St S = ev c 161 51 [l0, l1, some (aI x)] L2 (aI x :: St) S := ev_go i161_50 rfl
theorem i161_51 : insAt 161 51 = some (.invokevirtual 198, 3, (30, 2, 3, 4), 0) := rfl
theorem s161_51 {c : Nat → List AV → SS → Option Out} {l0 l1 l2 : Option AV} {a0 : Int32} {a1 : Int32} {j t : Nat} {L2 : List (Nat × AV)} {S : SS} : ev c 161 51 [l0, l1, l2] L2 [aI a1, aI a0, aR (4, j, t)] S = ck (c 30 [aR (4, j, t), aI a0, aI a1] S) (fun v S' => ev c 161 54 [l0, l1, l2] L2 (v.toList ++ []) S') := ev_call i161_51 rfl
theorem i161_54 : insAt 161 54 = some (.iconst 2, 1, (0, 0, 0, 0), 0) := rfl
theorem s161_54 {c : Nat → List AV → SS → Option Out} {l0 l1 l2 : Option AV} {L2 : List (Nat × AV)} {St : List AV} {S : SS} : ev c 161 54 [l0, l1, l2] L2 St S = ev c 161 55 [l0, l1, l2] L2 (aI 2 :: St) S := ev_go i161_54 rfl
theorem i161_55 : insAt 161 55 = some (.if_icmp .lt 14, 3, (0, 0, 0, 0), 0) := rfl
theorem s161_55 {c : Nat → List AV → SS → Option Out} {l0 l1 l2 : Option AV} {x y : Int32} {L2 : List (Nat × AV)} {St : List AV} {S : SS} : ev c 161 55 [l0, l1, l2] L2 (aI y :: aI x :: St) S = if x < y then ev c 161 69 [l0, l1, l2] L2 St S else ev c 161 58 [l0, l1, l2] L2 St S := ev_br i161_55 rfl
theorem i161_58 : insAt 161 58 = some (.new 64, 3, (1, 0, 1, 0), 0) := rfl
theorem s161_58 {c : Nat → List AV → SS → Option Out} {l0 l1 l2 : Option AV} {L2 : List (Nat × AV)} {S : SS} : ev c 161 58 [l0, l1, l2] L2 [] S = some (.inr "java/lang/IllegalStateException", bump S 1 6) := ev_end i161_58 rfl
theorem i161_61 : insAt 161 61 = some (.dup, 1, (0, 0, 0, 0), 0) := rfl
theorem s161_61 {c : Nat → List AV → SS → Option Out} {l0 l1 l2 : Option AV} {x : OId} {L2 : List (Nat × AV)} {St : List AV} {S : SS} : ev c 161 61 [l0, l1, l2] L2 (aR x :: St) S = ev c 161 62 [l0, l1, l2] L2 (aR x :: aR x :: St) S := ev_go i161_61 rfl
theorem i161_69 : insAt 161 69 = some (.return_, 1, (0, 0, 0, 0), 0) := rfl
theorem s161_69 {c : Nat → List AV → SS → Option Out} {l0 l1 l2 : Option AV} {L2 : List (Nat × AV)} {St : List AV} {S : SS} : ev c 161 69 [l0, l1, l2] L2 [] S = some (.inl none, S) := ev_end i161_69 rfl
theorem m161 {d : Nat} {o : OId} {a0 : Int32} {a1 : Int32} {S : SS} : evm (d + 1) 161 [aR o, aI a0, aI a1] S = ev (evm d) 161 0 [some (aR o), some (aI a0), some (aI a1)] [] [] S := evm_s (n := 3) rfl (Nat.le_of_ble_eq_true rfl) rfl rfl
/-! FrequencyOffice.moveCount()I -/
theorem i165_0 : insAt 165 0 = some (.aload_n 0, 1, (0, 0, 0, 0), 0) := rfl
theorem s165_0 {c : Nat → List AV → SS → Option Out} {o : OId} {L2 : List (Nat × AV)} {St : List AV} {S : SS} : ev c 165 0 [some (aR o)] L2 St S = ev c 165 1 [some (aR o)] L2 (aR o :: St) S := ev_go i165_0 rfl
theorem i165_1 : insAt 165 1 = some (.getfield 10, 3, (11, 0, 0, 0), 0) := rfl
theorem s165_1 {c : Nat → List AV → SS → Option Out} {l0 : Option AV} {j t : Nat} {L2 : List (Nat × AV)} {St : List AV} {S : SS} : ev c 165 1 [l0] L2 (aR (11, j, t) :: St) S = ev c 165 4 [l0] L2 (S.2.2.1 (11, j, t) 0 :: St) S := ev_go i165_1 rfl
theorem i165_4 : insAt 165 4 = some (.getfield 256, 3, (4, 11, 1, 0), 0) := rfl
theorem s165_4 {c : Nat → List AV → SS → Option Out} {l0 : Option AV} {j t : Nat} {L2 : List (Nat × AV)} {St : List AV} {S : SS} : ev c 165 4 [l0] L2 (aR (4, j, t) :: St) S = ev c 165 7 [l0] L2 (S.2.2.1 (4, j, t) 11 :: St) S := ev_go i165_4 rfl
theorem i165_7 : insAt 165 7 = some (.getfield 233, 3, (7, 0, 1, 0), 0) := rfl
theorem s165_7 {c : Nat → List AV → SS → Option Out} {l0 : Option AV} {j t : Nat} {L2 : List (Nat × AV)} {St : List AV} {S : SS} : ev c 165 7 [l0] L2 (aR (7, j, t) :: St) S = ev c 165 10 [l0] L2 (aI (S.1 (7, j, t) 0) :: St) S := ev_go i165_7 rfl
theorem i165_10 : insAt 165 10 = some (.iconst (-1), 1, (0, 0, 0, 0), 0) := rfl
theorem s165_10 {c : Nat → List AV → SS → Option Out} {l0 : Option AV} {L2 : List (Nat × AV)} {St : List AV} {S : SS} : ev c 165 10 [l0] L2 St S = ev c 165 11 [l0] L2 (aI (-1) :: St) S := ev_go i165_10 rfl
theorem i165_11 : insAt 165 11 = some (.if_icmp .ne 14, 3, (0, 0, 0, 0), 0) := rfl
theorem s165_11 {c : Nat → List AV → SS → Option Out} {l0 : Option AV} {x y : Int32} {L2 : List (Nat × AV)} {St : List AV} {S : SS} : ev c 165 11 [l0] L2 (aI y :: aI x :: St) S = if x = y then ev c 165 14 [l0] L2 St S else ev c 165 25 [l0] L2 St S := (ev_br i165_11 rfl).trans (ite_not _ _ _)
theorem i165_14 : insAt 165 14 = some (.new 259, 3, (3, 0, 1, 0), 0) := rfl
theorem s165_14 {c : Nat → List AV → SS → Option Out} {l0 : Option AV} {L2 : List (Nat × AV)} {S : SS} : ev c 165 14 [l0] L2 [] S = some (.inr "java/util/NoSuchElementException", bump S 1 6) := ev_end i165_14 rfl
theorem i165_17 : insAt 165 17 = some (.dup, 1, (0, 0, 0, 0), 0) := rfl
theorem s165_17 {c : Nat → List AV → SS → Option Out} {l0 : Option AV} {x : OId} {L2 : List (Nat × AV)} {St : List AV} {S : SS} : ev c 165 17 [l0] L2 (aR x :: St) S = ev c 165 18 [l0] L2 (aR x :: aR x :: St) S := ev_go i165_17 rfl
theorem i165_25 : insAt 165 25 = some (.aload_n 0, 1, (0, 0, 0, 0), 0) := rfl
theorem s165_25 {c : Nat → List AV → SS → Option Out} {o : OId} {L2 : List (Nat × AV)} {St : List AV} {S : SS} : ev c 165 25 [some (aR o)] L2 St S = ev c 165 26 [some (aR o)] L2 (aR o :: St) S := ev_go i165_25 rfl
theorem i165_26 : insAt 165 26 = some (.getfield 10, 3, (11, 0, 0, 0), 0) := rfl
theorem s165_26 {c : Nat → List AV → SS → Option Out} {l0 : Option AV} {j t : Nat} {L2 : List (Nat × AV)} {St : List AV} {S : SS} : ev c 165 26 [l0] L2 (aR (11, j, t) :: St) S = ev c 165 29 [l0] L2 (S.2.2.1 (11, j, t) 0 :: St) S := ev_go i165_26 rfl
theorem i165_29 : insAt 165 29 = some (.getfield 256, 3, (4, 11, 1, 0), 0) := rfl
theorem s165_29 {c : Nat → List AV → SS → Option Out} {l0 : Option AV} {j t : Nat} {L2 : List (Nat × AV)} {St : List AV} {S : SS} : ev c 165 29 [l0] L2 (aR (4, j, t) :: St) S = ev c 165 32 [l0] L2 (S.2.2.1 (4, j, t) 11 :: St) S := ev_go i165_29 rfl
theorem i165_32 : insAt 165 32 = some (.getfield 233, 3, (7, 0, 1, 0), 0) := rfl
theorem s165_32 {c : Nat → List AV → SS → Option Out} {l0 : Option AV} {j t : Nat} {L2 : List (Nat × AV)} {St : List AV} {S : SS} : ev c 165 32 [l0] L2 (aR (7, j, t) :: St) S = ev c 165 35 [l0] L2 (aI (S.1 (7, j, t) 0) :: St) S := ev_go i165_32 rfl
theorem i165_35 : insAt 165 35 = some (.ireturn, 1, (0, 0, 0, 0), 0) := rfl
theorem s165_35 {c : Nat → List AV → SS → Option Out} {l0 : Option AV} {x : Int32} {L2 : List (Nat × AV)} {St : List AV} {S : SS} : ev c 165 35 [l0] L2 [aI x] S = some (.inl (some (aI x)), S) := ev_end i165_35 rfl
theorem m165 {d : Nat} {o : OId} {S : SS} : evm (d + 1) 165 [aR o] S = ev (evm d) 165 0 [some (aR o)] [] [] S := evm_s (n := 1) rfl (Nat.le_of_ble_eq_true rfl) rfl rfl
/-! FrequencyOffice.movedStation(I)I -/
theorem i167_0 : insAt 167 0 = some (.aload_n 0, 1, (0, 0, 0, 0), 0) := rfl
theorem s167_0 {c : Nat → List AV → SS → Option Out} {l1 : Option AV} {o : OId} {L2 : List (Nat × AV)} {St : List AV} {S : SS} : ev c 167 0 [some (aR o), l1] L2 St S = ev c 167 1 [some (aR o), l1] L2 (aR o :: St) S := ev_go i167_0 rfl
theorem i167_1 : insAt 167 1 = some (.iload_n 1, 1, (0, 0, 0, 0), 0) := rfl
theorem s167_1 {c : Nat → List AV → SS → Option Out} {l0 : Option AV} {x : Int32} {L2 : List (Nat × AV)} {St : List AV} {S : SS} : ev c 167 1 [l0, some (aI x)] L2 St S = ev c 167 2 [l0, some (aI x)] L2 (aI x :: St) S := ev_go i167_1 rfl
theorem i167_2 : insAt 167 2 = some (.invokevirtual 264, 3, (168, 1, 2, 11), 0) := rfl
theorem s167_2 {c : Nat → List AV → SS → Option Out} {l0 l1 : Option AV} {a0 : Int32} {j t : Nat} {L2 : List (Nat × AV)} {S : SS} : ev c 167 2 [l0, l1] L2 [aI a0, aR (11, j, t)] S = ck (c 168 [aR (11, j, t), aI a0] S) (fun v S' => ev c 167 5 [l0, l1] L2 (v.toList ++ []) S') := ev_call i167_2 rfl
theorem i167_5 : insAt 167 5 = some (.aload_n 0, 1, (0, 0, 0, 0), 0) := rfl
theorem s167_5 {c : Nat → List AV → SS → Option Out} {l1 : Option AV} {o : OId} {L2 : List (Nat × AV)} {St : List AV} {S : SS} : ev c 167 5 [some (aR o), l1] L2 St S = ev c 167 6 [some (aR o), l1] L2 (aR o :: St) S := ev_go i167_5 rfl
theorem i167_6 : insAt 167 6 = some (.getfield 10, 3, (11, 0, 0, 0), 0) := rfl
theorem s167_6 {c : Nat → List AV → SS → Option Out} {l0 l1 : Option AV} {j t : Nat} {L2 : List (Nat × AV)} {St : List AV} {S : SS} : ev c 167 6 [l0, l1] L2 (aR (11, j, t) :: St) S = ev c 167 9 [l0, l1] L2 (S.2.2.1 (11, j, t) 0 :: St) S := ev_go i167_6 rfl
theorem i167_9 : insAt 167 9 = some (.getfield 256, 3, (4, 11, 1, 0), 0) := rfl
theorem s167_9 {c : Nat → List AV → SS → Option Out} {l0 l1 : Option AV} {j t : Nat} {L2 : List (Nat × AV)} {St : List AV} {S : SS} : ev c 167 9 [l0, l1] L2 (aR (4, j, t) :: St) S = ev c 167 12 [l0, l1] L2 (S.2.2.1 (4, j, t) 11 :: St) S := ev_go i167_9 rfl
theorem i167_12 : insAt 167 12 = some (.getfield 267, 3, (7, 2, 1, 0), 0) := rfl
theorem s167_12 {c : Nat → List AV → SS → Option Out} {l0 l1 : Option AV} {j t : Nat} {L2 : List (Nat × AV)} {St : List AV} {S : SS} : ev c 167 12 [l0, l1] L2 (aR (7, j, t) :: St) S = ev c 167 15 [l0, l1] L2 (S.2.2.1 (7, j, t) 2 :: St) S := ev_go i167_12 rfl
theorem i167_15 : insAt 167 15 = some (.iload_n 1, 1, (0, 0, 0, 0), 0) := rfl
theorem s167_15 {c : Nat → List AV → SS → Option Out} {l0 : Option AV} {x : Int32} {L2 : List (Nat × AV)} {St : List AV} {S : SS} : ev c 167 15 [l0, some (aI x)] L2 St S = ev c 167 16 [l0, some (aI x)] L2 (aI x :: St) S := ev_go i167_15 rfl
theorem i167_16 : insAt 167 16 = some (.invokestatic 271, 3, (32, 2, 0, 0), 0) := rfl
theorem s167_16 {c : Nat → List AV → SS → Option Out} {l0 l1 : Option AV} {a0 : OId} {a1 : Int32} {L2 : List (Nat × AV)} {S : SS} : ev c 167 16 [l0, l1] L2 [aI a1, aR a0] S = ck (c 32 [aR a0, aI a1] S) (fun v S' => ev c 167 19 [l0, l1] L2 (v.toList ++ []) S') := ev_call i167_16 rfl
theorem i167_19 : insAt 167 19 = some (.ireturn, 1, (0, 0, 0, 0), 0) := rfl
theorem s167_19 {c : Nat → List AV → SS → Option Out} {l0 l1 : Option AV} {x : Int32} {L2 : List (Nat × AV)} {St : List AV} {S : SS} : ev c 167 19 [l0, l1] L2 [aI x] S = some (.inl (some (aI x)), S) := ev_end i167_19 rfl
theorem m167 {d : Nat} {o : OId} {a0 : Int32} {S : SS} : evm (d + 1) 167 [aR o, aI a0] S = ev (evm d) 167 0 [some (aR o), some (aI a0)] [] [] S := evm_s (n := 2) rfl (Nat.le_of_ble_eq_true rfl) rfl rfl
/-! FrequencyOffice.checkMove(I)V -/
theorem i168_0 : insAt 168 0 = some (.iload_n 1, 1, (0, 0, 0, 0), 0) := rfl
theorem s168_0 {c : Nat → List AV → SS → Option Out} {l0 : Option AV} {x : Int32} {L2 : List (Nat × AV)} {St : List AV} {S : SS} : ev c 168 0 [l0, some (aI x)] L2 St S = ev c 168 1 [l0, some (aI x)] L2 (aI x :: St) S := ev_go i168_0 rfl
theorem i168_1 : insAt 168 1 = some (.ifCond .lt 17, 3, (0, 0, 0, 0), 0) := rfl
theorem s168_1 {c : Nat → List AV → SS → Option Out} {l0 l1 : Option AV} {x : Int32} {L2 : List (Nat × AV)} {St : List AV} {S : SS} : ev c 168 1 [l0, l1] L2 (aI x :: St) S = if x < 0 then ev c 168 18 [l0, l1] L2 St S else ev c 168 4 [l0, l1] L2 St S := ev_br i168_1 rfl
theorem i168_4 : insAt 168 4 = some (.iload_n 1, 1, (0, 0, 0, 0), 0) := rfl
theorem s168_4 {c : Nat → List AV → SS → Option Out} {l0 : Option AV} {x : Int32} {L2 : List (Nat × AV)} {St : List AV} {S : SS} : ev c 168 4 [l0, some (aI x)] L2 St S = ev c 168 5 [l0, some (aI x)] L2 (aI x :: St) S := ev_go i168_4 rfl
theorem i168_5 : insAt 168 5 = some (.aload_n 0, 1, (0, 0, 0, 0), 0) := rfl
theorem s168_5 {c : Nat → List AV → SS → Option Out} {l1 : Option AV} {o : OId} {L2 : List (Nat × AV)} {St : List AV} {S : SS} : ev c 168 5 [some (aR o), l1] L2 St S = ev c 168 6 [some (aR o), l1] L2 (aR o :: St) S := ev_go i168_5 rfl
theorem i168_6 : insAt 168 6 = some (.getfield 10, 3, (11, 0, 0, 0), 0) := rfl
theorem s168_6 {c : Nat → List AV → SS → Option Out} {l0 l1 : Option AV} {j t : Nat} {L2 : List (Nat × AV)} {St : List AV} {S : SS} : ev c 168 6 [l0, l1] L2 (aR (11, j, t) :: St) S = ev c 168 9 [l0, l1] L2 (S.2.2.1 (11, j, t) 0 :: St) S := ev_go i168_6 rfl
theorem i168_9 : insAt 168 9 = some (.getfield 256, 3, (4, 11, 1, 0), 0) := rfl
theorem s168_9 {c : Nat → List AV → SS → Option Out} {l0 l1 : Option AV} {j t : Nat} {L2 : List (Nat × AV)} {St : List AV} {S : SS} : ev c 168 9 [l0, l1] L2 (aR (4, j, t) :: St) S = ev c 168 12 [l0, l1] L2 (S.2.2.1 (4, j, t) 11 :: St) S := ev_go i168_9 rfl
theorem i168_12 : insAt 168 12 = some (.getfield 233, 3, (7, 0, 1, 0), 0) := rfl
theorem s168_12 {c : Nat → List AV → SS → Option Out} {l0 l1 : Option AV} {j t : Nat} {L2 : List (Nat × AV)} {St : List AV} {S : SS} : ev c 168 12 [l0, l1] L2 (aR (7, j, t) :: St) S = ev c 168 15 [l0, l1] L2 (aI (S.1 (7, j, t) 0) :: St) S := ev_go i168_12 rfl
theorem i168_15 : insAt 168 15 = some (.if_icmp .lt 14, 3, (0, 0, 0, 0), 0) := rfl
theorem s168_15 {c : Nat → List AV → SS → Option Out} {l0 l1 : Option AV} {x y : Int32} {L2 : List (Nat × AV)} {St : List AV} {S : SS} : ev c 168 15 [l0, l1] L2 (aI y :: aI x :: St) S = if x < y then ev c 168 29 [l0, l1] L2 St S else ev c 168 18 [l0, l1] L2 St S := ev_br i168_15 rfl
theorem i168_18 : insAt 168 18 = some (.new 259, 3, (3, 0, 1, 0), 0) := rfl
theorem s168_18 {c : Nat → List AV → SS → Option Out} {l0 l1 : Option AV} {L2 : List (Nat × AV)} {S : SS} : ev c 168 18 [l0, l1] L2 [] S = some (.inr "java/util/NoSuchElementException", bump S 1 6) := ev_end i168_18 rfl
theorem i168_21 : insAt 168 21 = some (.dup, 1, (0, 0, 0, 0), 0) := rfl
theorem s168_21 {c : Nat → List AV → SS → Option Out} {l0 l1 : Option AV} {x : OId} {L2 : List (Nat × AV)} {St : List AV} {S : SS} : ev c 168 21 [l0, l1] L2 (aR x :: St) S = ev c 168 22 [l0, l1] L2 (aR x :: aR x :: St) S := ev_go i168_21 rfl
theorem i168_29 : insAt 168 29 = some (.return_, 1, (0, 0, 0, 0), 0) := rfl
theorem s168_29 {c : Nat → List AV → SS → Option Out} {l0 l1 : Option AV} {L2 : List (Nat × AV)} {St : List AV} {S : SS} : ev c 168 29 [l0, l1] L2 [] S = some (.inl none, S) := ev_end i168_29 rfl
theorem m168 {d : Nat} {o : OId} {a0 : Int32} {S : SS} : evm (d + 1) 168 [aR o, aI a0] S = ev (evm d) 168 0 [some (aR o), some (aI a0)] [] [] S := evm_s (n := 2) rfl (Nat.le_of_ble_eq_true rfl) rfl rfl
/-! FrequencyOffice.movedFrom(I)I -/
theorem i170_0 : insAt 170 0 = some (.aload_n 0, 1, (0, 0, 0, 0), 0) := rfl
theorem s170_0 {c : Nat → List AV → SS → Option Out} {l1 : Option AV} {o : OId} {L2 : List (Nat × AV)} {St : List AV} {S : SS} : ev c 170 0 [some (aR o), l1] L2 St S = ev c 170 1 [some (aR o), l1] L2 (aR o :: St) S := ev_go i170_0 rfl
theorem i170_1 : insAt 170 1 = some (.iload_n 1, 1, (0, 0, 0, 0), 0) := rfl
theorem s170_1 {c : Nat → List AV → SS → Option Out} {l0 : Option AV} {x : Int32} {L2 : List (Nat × AV)} {St : List AV} {S : SS} : ev c 170 1 [l0, some (aI x)] L2 St S = ev c 170 2 [l0, some (aI x)] L2 (aI x :: St) S := ev_go i170_1 rfl
theorem i170_2 : insAt 170 2 = some (.invokevirtual 264, 3, (168, 1, 2, 11), 0) := rfl
theorem s170_2 {c : Nat → List AV → SS → Option Out} {l0 l1 : Option AV} {a0 : Int32} {j t : Nat} {L2 : List (Nat × AV)} {S : SS} : ev c 170 2 [l0, l1] L2 [aI a0, aR (11, j, t)] S = ck (c 168 [aR (11, j, t), aI a0] S) (fun v S' => ev c 170 5 [l0, l1] L2 (v.toList ++ []) S') := ev_call i170_2 rfl
theorem i170_5 : insAt 170 5 = some (.aload_n 0, 1, (0, 0, 0, 0), 0) := rfl
theorem s170_5 {c : Nat → List AV → SS → Option Out} {l1 : Option AV} {o : OId} {L2 : List (Nat × AV)} {St : List AV} {S : SS} : ev c 170 5 [some (aR o), l1] L2 St S = ev c 170 6 [some (aR o), l1] L2 (aR o :: St) S := ev_go i170_5 rfl
theorem i170_6 : insAt 170 6 = some (.getfield 10, 3, (11, 0, 0, 0), 0) := rfl
theorem s170_6 {c : Nat → List AV → SS → Option Out} {l0 l1 : Option AV} {j t : Nat} {L2 : List (Nat × AV)} {St : List AV} {S : SS} : ev c 170 6 [l0, l1] L2 (aR (11, j, t) :: St) S = ev c 170 9 [l0, l1] L2 (S.2.2.1 (11, j, t) 0 :: St) S := ev_go i170_6 rfl
theorem i170_9 : insAt 170 9 = some (.getfield 256, 3, (4, 11, 1, 0), 0) := rfl
theorem s170_9 {c : Nat → List AV → SS → Option Out} {l0 l1 : Option AV} {j t : Nat} {L2 : List (Nat × AV)} {St : List AV} {S : SS} : ev c 170 9 [l0, l1] L2 (aR (4, j, t) :: St) S = ev c 170 12 [l0, l1] L2 (S.2.2.1 (4, j, t) 11 :: St) S := ev_go i170_9 rfl
theorem i170_12 : insAt 170 12 = some (.getfield 275, 3, (7, 3, 1, 0), 0) := rfl
theorem s170_12 {c : Nat → List AV → SS → Option Out} {l0 l1 : Option AV} {j t : Nat} {L2 : List (Nat × AV)} {St : List AV} {S : SS} : ev c 170 12 [l0, l1] L2 (aR (7, j, t) :: St) S = ev c 170 15 [l0, l1] L2 (S.2.2.1 (7, j, t) 3 :: St) S := ev_go i170_12 rfl
theorem i170_15 : insAt 170 15 = some (.iload_n 1, 1, (0, 0, 0, 0), 0) := rfl
theorem s170_15 {c : Nat → List AV → SS → Option Out} {l0 : Option AV} {x : Int32} {L2 : List (Nat × AV)} {St : List AV} {S : SS} : ev c 170 15 [l0, some (aI x)] L2 St S = ev c 170 16 [l0, some (aI x)] L2 (aI x :: St) S := ev_go i170_15 rfl
theorem i170_16 : insAt 170 16 = some (.invokestatic 271, 3, (32, 2, 0, 0), 0) := rfl
theorem s170_16 {c : Nat → List AV → SS → Option Out} {l0 l1 : Option AV} {a0 : OId} {a1 : Int32} {L2 : List (Nat × AV)} {S : SS} : ev c 170 16 [l0, l1] L2 [aI a1, aR a0] S = ck (c 32 [aR a0, aI a1] S) (fun v S' => ev c 170 19 [l0, l1] L2 (v.toList ++ []) S') := ev_call i170_16 rfl
theorem i170_19 : insAt 170 19 = some (.ireturn, 1, (0, 0, 0, 0), 0) := rfl
theorem s170_19 {c : Nat → List AV → SS → Option Out} {l0 l1 : Option AV} {x : Int32} {L2 : List (Nat × AV)} {St : List AV} {S : SS} : ev c 170 19 [l0, l1] L2 [aI x] S = some (.inl (some (aI x)), S) := ev_end i170_19 rfl
theorem m170 {d : Nat} {o : OId} {a0 : Int32} {S : SS} : evm (d + 1) 170 [aR o, aI a0] S = ev (evm d) 170 0 [some (aR o), some (aI a0)] [] [] S := evm_s (n := 2) rfl (Nat.le_of_ble_eq_true rfl) rfl rfl
/-! FrequencyOffice.movedTo(I)I -/
theorem i172_0 : insAt 172 0 = some (.aload_n 0, 1, (0, 0, 0, 0), 0) := rfl
theorem s172_0 {c : Nat → List AV → SS → Option Out} {l1 : Option AV} {o : OId} {L2 : List (Nat × AV)} {St : List AV} {S : SS} : ev c 172 0 [some (aR o), l1] L2 St S = ev c 172 1 [some (aR o), l1] L2 (aR o :: St) S := ev_go i172_0 rfl
theorem i172_1 : insAt 172 1 = some (.iload_n 1, 1, (0, 0, 0, 0), 0) := rfl
theorem s172_1 {c : Nat → List AV → SS → Option Out} {l0 : Option AV} {x : Int32} {L2 : List (Nat × AV)} {St : List AV} {S : SS} : ev c 172 1 [l0, some (aI x)] L2 St S = ev c 172 2 [l0, some (aI x)] L2 (aI x :: St) S := ev_go i172_1 rfl
theorem i172_2 : insAt 172 2 = some (.invokevirtual 264, 3, (168, 1, 2, 11), 0) := rfl
theorem s172_2 {c : Nat → List AV → SS → Option Out} {l0 l1 : Option AV} {a0 : Int32} {j t : Nat} {L2 : List (Nat × AV)} {S : SS} : ev c 172 2 [l0, l1] L2 [aI a0, aR (11, j, t)] S = ck (c 168 [aR (11, j, t), aI a0] S) (fun v S' => ev c 172 5 [l0, l1] L2 (v.toList ++ []) S') := ev_call i172_2 rfl
theorem i172_5 : insAt 172 5 = some (.aload_n 0, 1, (0, 0, 0, 0), 0) := rfl
theorem s172_5 {c : Nat → List AV → SS → Option Out} {l1 : Option AV} {o : OId} {L2 : List (Nat × AV)} {St : List AV} {S : SS} : ev c 172 5 [some (aR o), l1] L2 St S = ev c 172 6 [some (aR o), l1] L2 (aR o :: St) S := ev_go i172_5 rfl
theorem i172_6 : insAt 172 6 = some (.getfield 10, 3, (11, 0, 0, 0), 0) := rfl
theorem s172_6 {c : Nat → List AV → SS → Option Out} {l0 l1 : Option AV} {j t : Nat} {L2 : List (Nat × AV)} {St : List AV} {S : SS} : ev c 172 6 [l0, l1] L2 (aR (11, j, t) :: St) S = ev c 172 9 [l0, l1] L2 (S.2.2.1 (11, j, t) 0 :: St) S := ev_go i172_6 rfl
theorem i172_9 : insAt 172 9 = some (.getfield 256, 3, (4, 11, 1, 0), 0) := rfl
theorem s172_9 {c : Nat → List AV → SS → Option Out} {l0 l1 : Option AV} {j t : Nat} {L2 : List (Nat × AV)} {St : List AV} {S : SS} : ev c 172 9 [l0, l1] L2 (aR (4, j, t) :: St) S = ev c 172 12 [l0, l1] L2 (S.2.2.1 (4, j, t) 11 :: St) S := ev_go i172_9 rfl
theorem i172_12 : insAt 172 12 = some (.getfield 278, 3, (7, 4, 1, 0), 0) := rfl
theorem s172_12 {c : Nat → List AV → SS → Option Out} {l0 l1 : Option AV} {j t : Nat} {L2 : List (Nat × AV)} {St : List AV} {S : SS} : ev c 172 12 [l0, l1] L2 (aR (7, j, t) :: St) S = ev c 172 15 [l0, l1] L2 (S.2.2.1 (7, j, t) 4 :: St) S := ev_go i172_12 rfl
theorem i172_15 : insAt 172 15 = some (.iload_n 1, 1, (0, 0, 0, 0), 0) := rfl
theorem s172_15 {c : Nat → List AV → SS → Option Out} {l0 : Option AV} {x : Int32} {L2 : List (Nat × AV)} {St : List AV} {S : SS} : ev c 172 15 [l0, some (aI x)] L2 St S = ev c 172 16 [l0, some (aI x)] L2 (aI x :: St) S := ev_go i172_15 rfl
theorem i172_16 : insAt 172 16 = some (.invokestatic 271, 3, (32, 2, 0, 0), 0) := rfl
theorem s172_16 {c : Nat → List AV → SS → Option Out} {l0 l1 : Option AV} {a0 : OId} {a1 : Int32} {L2 : List (Nat × AV)} {S : SS} : ev c 172 16 [l0, l1] L2 [aI a1, aR a0] S = ck (c 32 [aR a0, aI a1] S) (fun v S' => ev c 172 19 [l0, l1] L2 (v.toList ++ []) S') := ev_call i172_16 rfl
theorem i172_19 : insAt 172 19 = some (.ireturn, 1, (0, 0, 0, 0), 0) := rfl
theorem s172_19 {c : Nat → List AV → SS → Option Out} {l0 l1 : Option AV} {x : Int32} {L2 : List (Nat × AV)} {St : List AV} {S : SS} : ev c 172 19 [l0, l1] L2 [aI x] S = some (.inl (some (aI x)), S) := ev_end i172_19 rfl
theorem m172 {d : Nat} {o : OId} {a0 : Int32} {S : SS} : evm (d + 1) 172 [aR o, aI a0] S = ev (evm d) 172 0 [some (aR o), some (aI a0)] [] [] S := evm_s (n := 2) rfl (Nat.le_of_ble_eq_true rfl) rfl rfl
/-! FrequencyOffice.writeStation(I)I -/
theorem i174_0 : insAt 174 0 = some (.aload_n 0, 1, (0, 0, 0, 0), 0) := rfl
theorem s174_0 {c : Nat → List AV → SS → Option Out} {l1 l2 : Option AV} {o : OId} {L2 : List (Nat × AV)} {St : List AV} {S : SS} : ev c 174 0 [some (aR o), l1, l2] L2 St S = ev c 174 1 [some (aR o), l1, l2] L2 (aR o :: St) S := ev_go i174_0 rfl
theorem i174_1 : insAt 174 1 = some (.getfield 10, 3, (11, 0, 0, 0), 0) := rfl
theorem s174_1 {c : Nat → List AV → SS → Option Out} {l0 l1 l2 : Option AV} {j t : Nat} {L2 : List (Nat × AV)} {St : List AV} {S : SS} : ev c 174 1 [l0, l1, l2] L2 (aR (11, j, t) :: St) S = ev c 174 4 [l0, l1, l2] L2 (S.2.2.1 (11, j, t) 0 :: St) S := ev_go i174_1 rfl
theorem i174_4 : insAt 174 4 = some (.aload_n 0, 1, (0, 0, 0, 0), 0) := rfl
theorem s174_4 {c : Nat → List AV → SS → Option Out} {l1 l2 : Option AV} {o : OId} {L2 : List (Nat × AV)} {St : List AV} {S : SS} : ev c 174 4 [some (aR o), l1, l2] L2 St S = ev c 174 5 [some (aR o), l1, l2] L2 (aR o :: St) S := ev_go i174_4 rfl
theorem i174_5 : insAt 174 5 = some (.iload_n 1, 1, (0, 0, 0, 0), 0) := rfl
theorem s174_5 {c : Nat → List AV → SS → Option Out} {l0 l2 : Option AV} {x : Int32} {L2 : List (Nat × AV)} {St : List AV} {S : SS} : ev c 174 5 [l0, some (aI x), l2] L2 St S = ev c 174 6 [l0, some (aI x), l2] L2 (aI x :: St) S := ev_go i174_5 rfl
theorem i174_6 : insAt 174 6 = some (.invokevirtual 134, 3, (93, 1, 2, 11), 0) := rfl
theorem s174_6 {c : Nat → List AV → SS → Option Out} {l0 l1 l2 : Option AV} {t0 : AV} {a0 : Int32} {j t : Nat} {L2 : List (Nat × AV)} {S : SS} : ev c 174 6 [l0, l1, l2] L2 [aI a0, aR (11, j, t), t0] S = ck (c 93 [aR (11, j, t), aI a0] S) (fun v S' => ev c 174 9 [l0, l1, l2] L2 (v.toList ++ [t0]) S') := ev_call i174_6 rfl
theorem i174_9 : insAt 174 9 = some (.invokevirtual 125, 3, (17, 1, 3, 4), 0) := rfl
theorem s174_9 {c : Nat → List AV → SS → Option Out} {l0 l1 l2 : Option AV} {a0 : Int32} {j t : Nat} {L2 : List (Nat × AV)} {S : SS} : ev c 174 9 [l0, l1, l2] L2 [aI a0, aR (4, j, t)] S = ck (c 17 [aR (4, j, t), aI a0] S) (fun v S' => ev c 174 12 [l0, l1, l2] L2 (v.toList ++ []) S') := ev_call i174_9 rfl
theorem i174_12 : insAt 174 12 = some (.astore_n 2, 1, (0, 0, 0, 0), 0) := rfl
theorem s174_12 {c : Nat → List AV → SS → Option Out} {l0 l1 l2 : Option AV} {o : OId} {L2 : List (Nat × AV)} {St : List AV} {S : SS} : ev c 174 12 [l0, l1, l2] L2 (aR o :: St) S = ev c 174 13 [l0, l1, some (aR o)] (kil L2 2) St S := ev_go i174_12 rfl
theorem i174_13 : insAt 174 13 = some (.aload_n 0, 1, (0, 0, 0, 0), 0) := rfl
theorem s174_13 {c : Nat → List AV → SS → Option Out} {l1 l2 : Option AV} {o : OId} {L2 : List (Nat × AV)} {St : List AV} {S : SS} : ev c 174 13 [some (aR o), l1, l2] L2 St S = ev c 174 14 [some (aR o), l1, l2] L2 (aR o :: St) S := ev_go i174_13 rfl
theorem i174_14 : insAt 174 14 = some (.getfield 52, 3, (11, 6, 0, 0), 0) := rfl
theorem s174_14 {c : Nat → List AV → SS → Option Out} {l0 l1 l2 : Option AV} {j t : Nat} {L2 : List (Nat × AV)} {St : List AV} {S : SS} : ev c 174 14 [l0, l1, l2] L2 (aR (11, j, t) :: St) S = ev c 174 17 [l0, l1, l2] L2 (S.2.2.1 (11, j, t) 6 :: St) S := ev_go i174_14 rfl
theorem i174_17 : insAt 174 17 = some (.iconst 0, 1, (0, 0, 0, 0), 0) := rfl
theorem s174_17 {c : Nat → List AV → SS → Option Out} {l0 l1 l2 : Option AV} {L2 : List (Nat × AV)} {St : List AV} {S : SS} : ev c 174 17 [l0, l1, l2] L2 St S = ev c 174 18 [l0, l1, l2] L2 (aI 0 :: St) S := ev_go i174_17 rfl
theorem i174_18 : insAt 174 18 = some (.invokevirtual 303, 3, (175, 1, 2, 1), 0) := rfl
theorem s174_18 {c : Nat → List AV → SS → Option Out} {l0 l1 l2 : Option AV} {a0 : Int32} {j t : Nat} {L2 : List (Nat × AV)} {S : SS} : ev c 174 18 [l0, l1, l2] L2 [aI a0, aR (1, j, t)] S = ck (c 175 [aR (1, j, t), aI a0] S) (fun v S' => ev c 174 21 [l0, l1, l2] L2 (v.toList ++ []) S') := ev_call i174_18 rfl
theorem i174_21 : insAt 174 21 = some (.aload_n 0, 1, (0, 0, 0, 0), 0) := rfl
theorem s174_21 {c : Nat → List AV → SS → Option Out} {l1 l2 : Option AV} {o : OId} {L2 : List (Nat × AV)} {St : List AV} {S : SS} : ev c 174 21 [some (aR o), l1, l2] L2 St S = ev c 174 22 [some (aR o), l1, l2] L2 (aR o :: St) S := ev_go i174_21 rfl
theorem i174_22 : insAt 174 22 = some (.getfield 52, 3, (11, 6, 0, 0), 0) := rfl
theorem s174_22 {c : Nat → List AV → SS → Option Out} {l0 l1 l2 : Option AV} {j t : Nat} {L2 : List (Nat × AV)} {St : List AV} {S : SS} : ev c 174 22 [l0, l1, l2] L2 (aR (11, j, t) :: St) S = ev c 174 25 [l0, l1, l2] L2 (S.2.2.1 (11, j, t) 6 :: St) S := ev_go i174_22 rfl
theorem i174_25 : insAt 174 25 = some (.aload_n 2, 1, (0, 0, 0, 0), 0) := rfl
theorem s174_25 {c : Nat → List AV → SS → Option Out} {l0 l1 : Option AV} {o : OId} {L2 : List (Nat × AV)} {St : List AV} {S : SS} : ev c 174 25 [l0, l1, some (aR o)] L2 St S = ev c 174 26 [l0, l1, some (aR o)] L2 (aR o :: St) S := ev_go i174_25 rfl
theorem i174_26 : insAt 174 26 = some (.getfield 174, 3, (10, 0, 1, 0), 0) := rfl
theorem s174_26 {c : Nat → List AV → SS → Option Out} {l0 l1 l2 : Option AV} {j t : Nat} {L2 : List (Nat × AV)} {St : List AV} {S : SS} : ev c 174 26 [l0, l1, l2] L2 (aR (10, j, t) :: St) S = ev c 174 29 [l0, l1, l2] L2 (aI (S.1 (10, j, t) 0) :: St) S := ev_go i174_26 rfl
theorem i174_29 : insAt 174 29 = some (.invokevirtual 306, 3, (189, 1, 2, 1), 0) := rfl
theorem s174_29 {c : Nat → List AV → SS → Option Out} {l0 l1 l2 : Option AV} {a0 : Int32} {j t : Nat} {L2 : List (Nat × AV)} {S : SS} : ev c 174 29 [l0, l1, l2] L2 [aI a0, aR (1, j, t)] S = ck (c 189 [aR (1, j, t), aI a0] S) (fun v S' => ev c 174 32 [l0, l1, l2] L2 (v.toList ++ []) S') := ev_call i174_29 rfl
theorem i174_32 : insAt 174 32 = some (.bipush 64, 2, (0, 0, 0, 0), 0) := rfl
theorem s174_32 {c : Nat → List AV → SS → Option Out} {l0 l1 l2 : Option AV} {L2 : List (Nat × AV)} {St : List AV} {S : SS} : ev c 174 32 [l0, l1, l2] L2 St S = ev c 174 34 [l0, l1, l2] L2 (aI 64 :: St) S := ev_go i174_32 rfl
theorem i174_34 : insAt 174 34 = some (.invokevirtual 309, 3, (202, 1, 2, 1), 0) := rfl
theorem s174_34 {c : Nat → List AV → SS → Option Out} {l0 l1 l2 : Option AV} {a0 : Int32} {j t : Nat} {L2 : List (Nat × AV)} {S : SS} : ev c 174 34 [l0, l1, l2] L2 [aI a0, aR (1, j, t)] S = ck (c 202 [aR (1, j, t), aI a0] S) (fun v S' => ev c 174 37 [l0, l1, l2] L2 (v.toList ++ []) S') := ev_call i174_34 rfl
theorem i174_37 : insAt 174 37 = some (.aload_n 2, 1, (0, 0, 0, 0), 0) := rfl
theorem s174_37 {c : Nat → List AV → SS → Option Out} {l0 l1 : Option AV} {o : OId} {L2 : List (Nat × AV)} {St : List AV} {S : SS} : ev c 174 37 [l0, l1, some (aR o)] L2 St S = ev c 174 38 [l0, l1, some (aR o)] L2 (aR o :: St) S := ev_go i174_37 rfl
theorem i174_38 : insAt 174 38 = some (.getfield 180, 3, (10, 1, 1, 0), 0) := rfl
theorem s174_38 {c : Nat → List AV → SS → Option Out} {l0 l1 l2 : Option AV} {j t : Nat} {L2 : List (Nat × AV)} {St : List AV} {S : SS} : ev c 174 38 [l0, l1, l2] L2 (aR (10, j, t) :: St) S = ev c 174 41 [l0, l1, l2] L2 (aI (S.1 (10, j, t) 1) :: St) S := ev_go i174_38 rfl
theorem i174_41 : insAt 174 41 = some (.invokevirtual 306, 3, (189, 1, 2, 1), 0) := rfl
theorem s174_41 {c : Nat → List AV → SS → Option Out} {l0 l1 l2 : Option AV} {a0 : Int32} {j t : Nat} {L2 : List (Nat × AV)} {S : SS} : ev c 174 41 [l0, l1, l2] L2 [aI a0, aR (1, j, t)] S = ck (c 189 [aR (1, j, t), aI a0] S) (fun v S' => ev c 174 44 [l0, l1, l2] L2 (v.toList ++ []) S') := ev_call i174_41 rfl
theorem i174_44 : insAt 174 44 = some (.bipush 44, 2, (0, 0, 0, 0), 0) := rfl
theorem s174_44 {c : Nat → List AV → SS → Option Out} {l0 l1 l2 : Option AV} {L2 : List (Nat × AV)} {St : List AV} {S : SS} : ev c 174 44 [l0, l1, l2] L2 St S = ev c 174 46 [l0, l1, l2] L2 (aI 44 :: St) S := ev_go i174_44 rfl
theorem i174_46 : insAt 174 46 = some (.invokevirtual 309, 3, (202, 1, 2, 1), 0) := rfl
theorem s174_46 {c : Nat → List AV → SS → Option Out} {l0 l1 l2 : Option AV} {a0 : Int32} {j t : Nat} {L2 : List (Nat × AV)} {S : SS} : ev c 174 46 [l0, l1, l2] L2 [aI a0, aR (1, j, t)] S = ck (c 202 [aR (1, j, t), aI a0] S) (fun v S' => ev c 174 49 [l0, l1, l2] L2 (v.toList ++ []) S') := ev_call i174_46 rfl
theorem i174_49 : insAt 174 49 = some (.aload_n 2, 1, (0, 0, 0, 0), 0) := rfl
theorem s174_49 {c : Nat → List AV → SS → Option Out} {l0 l1 : Option AV} {o : OId} {L2 : List (Nat × AV)} {St : List AV} {S : SS} : ev c 174 49 [l0, l1, some (aR o)] L2 St S = ev c 174 50 [l0, l1, some (aR o)] L2 (aR o :: St) S := ev_go i174_49 rfl
theorem i174_50 : insAt 174 50 = some (.getfield 183, 3, (10, 2, 1, 0), 0) := rfl
theorem s174_50 {c : Nat → List AV → SS → Option Out} {l0 l1 l2 : Option AV} {j t : Nat} {L2 : List (Nat × AV)} {St : List AV} {S : SS} : ev c 174 50 [l0, l1, l2] L2 (aR (10, j, t) :: St) S = ev c 174 53 [l0, l1, l2] L2 (aI (S.1 (10, j, t) 2) :: St) S := ev_go i174_50 rfl
theorem i174_53 : insAt 174 53 = some (.invokevirtual 306, 3, (189, 1, 2, 1), 0) := rfl
theorem s174_53 {c : Nat → List AV → SS → Option Out} {l0 l1 l2 : Option AV} {a0 : Int32} {j t : Nat} {L2 : List (Nat × AV)} {S : SS} : ev c 174 53 [l0, l1, l2] L2 [aI a0, aR (1, j, t)] S = ck (c 189 [aR (1, j, t), aI a0] S) (fun v S' => ev c 174 56 [l0, l1, l2] L2 (v.toList ++ []) S') := ev_call i174_53 rfl
theorem i174_56 : insAt 174 56 = some (.pop, 1, (0, 0, 0, 0), 0) := rfl
theorem s174_56 {c : Nat → List AV → SS → Option Out} {l0 l1 l2 : Option AV} {x : OId} {L2 : List (Nat × AV)} {St : List AV} {S : SS} : ev c 174 56 [l0, l1, l2] L2 (aR x :: St) S = ev c 174 57 [l0, l1, l2] L2 (St) S := ev_go i174_56 rfl
theorem i174_57 : insAt 174 57 = some (.aload_n 0, 1, (0, 0, 0, 0), 0) := rfl
theorem s174_57 {c : Nat → List AV → SS → Option Out} {l1 l2 : Option AV} {o : OId} {L2 : List (Nat × AV)} {St : List AV} {S : SS} : ev c 174 57 [some (aR o), l1, l2] L2 St S = ev c 174 58 [some (aR o), l1, l2] L2 (aR o :: St) S := ev_go i174_57 rfl
theorem i174_58 : insAt 174 58 = some (.getfield 52, 3, (11, 6, 0, 0), 0) := rfl
theorem s174_58 {c : Nat → List AV → SS → Option Out} {l0 l1 l2 : Option AV} {j t : Nat} {L2 : List (Nat × AV)} {St : List AV} {S : SS} : ev c 174 58 [l0, l1, l2] L2 (aR (11, j, t) :: St) S = ev c 174 61 [l0, l1, l2] L2 (S.2.2.1 (11, j, t) 6 :: St) S := ev_go i174_58 rfl
theorem i174_64 : insAt 174 64 = some (.invokevirtual 314, 3, (177, 1, 2, 1), 0) := rfl
theorem s174_64 {c : Nat → List AV → SS → Option Out} {l0 l1 l2 : Option AV} {a0 : OId} {j t : Nat} {L2 : List (Nat × AV)} {S : SS} : ev c 174 64 [l0, l1, l2] L2 [aR a0, aR (1, j, t)] S = ck (c 177 [aR (1, j, t), aR a0] S) (fun v S' => ev c 174 67 [l0, l1, l2] L2 (v.toList ++ []) S') := ev_call i174_64 rfl
theorem i174_67 : insAt 174 67 = some (.aload_n 2, 1, (0, 0, 0, 0), 0) := rfl
theorem s174_67 {c : Nat → List AV → SS → Option Out} {l0 l1 : Option AV} {o : OId} {L2 : List (Nat × AV)} {St : List AV} {S : SS} : ev c 174 67 [l0, l1, some (aR o)] L2 St S = ev c 174 68 [l0, l1, some (aR o)] L2 (aR o :: St) S := ev_go i174_67 rfl
theorem i174_68 : insAt 174 68 = some (.getfield 129, 3, (10, 3, 1, 0), 0) := rfl
theorem s174_68 {c : Nat → List AV → SS → Option Out} {l0 l1 l2 : Option AV} {j t : Nat} {L2 : List (Nat × AV)} {St : List AV} {S : SS} : ev c 174 68 [l0, l1, l2] L2 (aR (10, j, t) :: St) S = ev c 174 71 [l0, l1, l2] L2 (aI (S.1 (10, j, t) 3) :: St) S := ev_go i174_68 rfl
theorem i174_71 : insAt 174 71 = some (.invokevirtual 306, 3, (189, 1, 2, 1), 0) := rfl
theorem s174_71 {c : Nat → List AV → SS → Option Out} {l0 l1 l2 : Option AV} {a0 : Int32} {j t : Nat} {L2 : List (Nat × AV)} {S : SS} : ev c 174 71 [l0, l1, l2] L2 [aI a0, aR (1, j, t)] S = ck (c 189 [aR (1, j, t), aI a0] S) (fun v S' => ev c 174 74 [l0, l1, l2] L2 (v.toList ++ []) S') := ev_call i174_71 rfl
theorem i174_74 : insAt 174 74 = some (.pop, 1, (0, 0, 0, 0), 0) := rfl
theorem s174_74 {c : Nat → List AV → SS → Option Out} {l0 l1 l2 : Option AV} {x : OId} {L2 : List (Nat × AV)} {St : List AV} {S : SS} : ev c 174 74 [l0, l1, l2] L2 (aR x :: St) S = ev c 174 75 [l0, l1, l2] L2 (St) S := ev_go i174_74 rfl
theorem i174_75 : insAt 174 75 = some (.aload_n 0, 1, (0, 0, 0, 0), 0) := rfl
theorem s174_75 {c : Nat → List AV → SS → Option Out} {l1 l2 : Option AV} {o : OId} {L2 : List (Nat × AV)} {St : List AV} {S : SS} : ev c 174 75 [some (aR o), l1, l2] L2 St S = ev c 174 76 [some (aR o), l1, l2] L2 (aR o :: St) S := ev_go i174_75 rfl
theorem i174_76 : insAt 174 76 = some (.getfield 52, 3, (11, 6, 0, 0), 0) := rfl
theorem s174_76 {c : Nat → List AV → SS → Option Out} {l0 l1 l2 : Option AV} {j t : Nat} {L2 : List (Nat × AV)} {St : List AV} {S : SS} : ev c 174 76 [l0, l1, l2] L2 (aR (11, j, t) :: St) S = ev c 174 79 [l0, l1, l2] L2 (S.2.2.1 (11, j, t) 6 :: St) S := ev_go i174_76 rfl
theorem i174_79 : insAt 174 79 = some (.aload_n 2, 1, (0, 0, 0, 0), 0) := rfl
theorem s174_79 {c : Nat → List AV → SS → Option Out} {l0 l1 : Option AV} {o : OId} {L2 : List (Nat × AV)} {St : List AV} {S : SS} : ev c 174 79 [l0, l1, some (aR o)] L2 St S = ev c 174 80 [l0, l1, some (aR o)] L2 (aR o :: St) S := ev_go i174_79 rfl
theorem i174_80 : insAt 174 80 = some (.getfield 138, 3, (10, 5, 1, 0), 0) := rfl
theorem s174_80 {c : Nat → List AV → SS → Option Out} {l0 l1 l2 : Option AV} {j t : Nat} {L2 : List (Nat × AV)} {St : List AV} {S : SS} : ev c 174 80 [l0, l1, l2] L2 (aR (10, j, t) :: St) S = ev c 174 83 [l0, l1, l2] L2 (aI (bb (S.1 (10, j, t) 5)) :: St) S := ev_go i174_80 rfl
theorem i174_83 : insAt 174 83 = some (.ifCond .eq 9, 3, (0, 0, 0, 0), 0) := rfl
theorem s174_83 {c : Nat → List AV → SS → Option Out} {l0 l1 l2 : Option AV} {x : Int32} {L2 : List (Nat × AV)} {St : List AV} {S : SS} : ev c 174 83 [l0, l1, l2] L2 (aI x :: St) S = if x = 0 then ev c 174 92 [l0, l1, l2] L2 St S else ev c 174 86 [l0, l1, l2] L2 St S := ev_br i174_83 rfl
theorem i174_89 : insAt 174 89 = some (.goto 6, 3, (0, 0, 0, 0), 0) := rfl
theorem s174_89 {c : Nat → List AV → SS → Option Out} {l0 l1 l2 : Option AV} {L2 : List (Nat × AV)} {St : List AV} {S : SS} : ev c 174 89 [l0, l1, l2] L2 St S = ev c 174 95 [l0, l1, l2] L2 St S := ev_go i174_89 rfl
theorem i174_95 : insAt 174 95 = some (.invokevirtual 314, 3, (177, 1, 2, 1), 0) := rfl
theorem s174_95 {c : Nat → List AV → SS → Option Out} {l0 l1 l2 : Option AV} {a0 : OId} {j t : Nat} {L2 : List (Nat × AV)} {S : SS} : ev c 174 95 [l0, l1, l2] L2 [aR a0, aR (1, j, t)] S = ck (c 177 [aR (1, j, t), aR a0] S) (fun v S' => ev c 174 98 [l0, l1, l2] L2 (v.toList ++ []) S') := ev_call i174_95 rfl
theorem i174_98 : insAt 174 98 = some (.aload_n 2, 1, (0, 0, 0, 0), 0) := rfl
theorem s174_98 {c : Nat → List AV → SS → Option Out} {l0 l1 : Option AV} {o : OId} {L2 : List (Nat × AV)} {St : List AV} {S : SS} : ev c 174 98 [l0, l1, some (aR o)] L2 St S = ev c 174 99 [l0, l1, some (aR o)] L2 (aR o :: St) S := ev_go i174_98 rfl
theorem i174_99 : insAt 174 99 = some (.getfield 143, 3, (10, 4, 1, 0), 0) := rfl
theorem s174_99 {c : Nat → List AV → SS → Option Out} {l0 l1 l2 : Option AV} {j t : Nat} {L2 : List (Nat × AV)} {St : List AV} {S : SS} : ev c 174 99 [l0, l1, l2] L2 (aR (10, j, t) :: St) S = ev c 174 102 [l0, l1, l2] L2 (aI (S.1 (10, j, t) 4) :: St) S := ev_go i174_99 rfl
theorem i174_102 : insAt 174 102 = some (.invokevirtual 306, 3, (189, 1, 2, 1), 0) := rfl
theorem s174_102 {c : Nat → List AV → SS → Option Out} {l0 l1 l2 : Option AV} {a0 : Int32} {j t : Nat} {L2 : List (Nat × AV)} {S : SS} : ev c 174 102 [l0, l1, l2] L2 [aI a0, aR (1, j, t)] S = ck (c 189 [aR (1, j, t), aI a0] S) (fun v S' => ev c 174 105 [l0, l1, l2] L2 (v.toList ++ []) S') := ev_call i174_102 rfl
theorem i174_105 : insAt 174 105 = some (.pop, 1, (0, 0, 0, 0), 0) := rfl
theorem s174_105 {c : Nat → List AV → SS → Option Out} {l0 l1 l2 : Option AV} {x : OId} {L2 : List (Nat × AV)} {St : List AV} {S : SS} : ev c 174 105 [l0, l1, l2] L2 (aR x :: St) S = ev c 174 106 [l0, l1, l2] L2 (St) S := ev_go i174_105 rfl
theorem i174_106 : insAt 174 106 = some (.aload_n 0, 1, (0, 0, 0, 0), 0) := rfl
theorem s174_106 {c : Nat → List AV → SS → Option Out} {l1 l2 : Option AV} {o : OId} {L2 : List (Nat × AV)} {St : List AV} {S : SS} : ev c 174 106 [some (aR o), l1, l2] L2 St S = ev c 174 107 [some (aR o), l1, l2] L2 (aR o :: St) S := ev_go i174_106 rfl
theorem i174_107 : insAt 174 107 = some (.getfield 52, 3, (11, 6, 0, 0), 0) := rfl
theorem s174_107 {c : Nat → List AV → SS → Option Out} {l0 l1 l2 : Option AV} {j t : Nat} {L2 : List (Nat × AV)} {St : List AV} {S : SS} : ev c 174 107 [l0, l1, l2] L2 (aR (11, j, t) :: St) S = ev c 174 110 [l0, l1, l2] L2 (S.2.2.1 (11, j, t) 6 :: St) S := ev_go i174_107 rfl
theorem i174_110 : insAt 174 110 = some (.invokevirtual 321, 3, (197, 0, 2, 1), 0) := rfl
theorem s174_110 {c : Nat → List AV → SS → Option Out} {l0 l1 l2 : Option AV} {j t : Nat} {L2 : List (Nat × AV)} {S : SS} : ev c 174 110 [l0, l1, l2] L2 [aR (1, j, t)] S = ck (c 197 [aR (1, j, t)] S) (fun v S' => ev c 174 113 [l0, l1, l2] L2 (v.toList ++ []) S') := ev_call i174_110 rfl
theorem i174_113 : insAt 174 113 = some (.ireturn, 1, (0, 0, 0, 0), 0) := rfl
theorem s174_113 {c : Nat → List AV → SS → Option Out} {l0 l1 l2 : Option AV} {x : Int32} {L2 : List (Nat × AV)} {St : List AV} {S : SS} : ev c 174 113 [l0, l1, l2] L2 [aI x] S = some (.inl (some (aI x)), S) := ev_end i174_113 rfl
theorem m174 {d : Nat} {o : OId} {a0 : Int32} {S : SS} : evm (d + 1) 174 [aR o, aI a0] S = ev (evm d) 174 0 [some (aR o), some (aI a0), none] [] [] S := evm_s (n := 3) rfl (Nat.le_of_ble_eq_true rfl) rfl rfl
/-! FrequencyOffice.lineAt(I)C -/
theorem i208_0 : insAt 208 0 = some (.iload_n 1, 1, (0, 0, 0, 0), 0) := rfl
theorem s208_0 {c : Nat → List AV → SS → Option Out} {l0 : Option AV} {x : Int32} {L2 : List (Nat × AV)} {St : List AV} {S : SS} : ev c 208 0 [l0, some (aI x)] L2 St S = ev c 208 1 [l0, some (aI x)] L2 (aI x :: St) S := ev_go i208_0 rfl
theorem i208_1 : insAt 208 1 = some (.ifCond .lt 14, 3, (0, 0, 0, 0), 0) := rfl
theorem s208_1 {c : Nat → List AV → SS → Option Out} {l0 l1 : Option AV} {x : Int32} {L2 : List (Nat × AV)} {St : List AV} {S : SS} : ev c 208 1 [l0, l1] L2 (aI x :: St) S = if x < 0 then ev c 208 15 [l0, l1] L2 St S else ev c 208 4 [l0, l1] L2 St S := ev_br i208_1 rfl
theorem i208_4 : insAt 208 4 = some (.iload_n 1, 1, (0, 0, 0, 0), 0) := rfl
theorem s208_4 {c : Nat → List AV → SS → Option Out} {l0 : Option AV} {x : Int32} {L2 : List (Nat × AV)} {St : List AV} {S : SS} : ev c 208 4 [l0, some (aI x)] L2 St S = ev c 208 5 [l0, some (aI x)] L2 (aI x :: St) S := ev_go i208_4 rfl
theorem i208_5 : insAt 208 5 = some (.aload_n 0, 1, (0, 0, 0, 0), 0) := rfl
theorem s208_5 {c : Nat → List AV → SS → Option Out} {l1 : Option AV} {o : OId} {L2 : List (Nat × AV)} {St : List AV} {S : SS} : ev c 208 5 [some (aR o), l1] L2 St S = ev c 208 6 [some (aR o), l1] L2 (aR o :: St) S := ev_go i208_5 rfl
theorem i208_6 : insAt 208 6 = some (.getfield 52, 3, (11, 6, 0, 0), 0) := rfl
theorem s208_6 {c : Nat → List AV → SS → Option Out} {l0 l1 : Option AV} {j t : Nat} {L2 : List (Nat × AV)} {St : List AV} {S : SS} : ev c 208 6 [l0, l1] L2 (aR (11, j, t) :: St) S = ev c 208 9 [l0, l1] L2 (S.2.2.1 (11, j, t) 6 :: St) S := ev_go i208_6 rfl
theorem i208_9 : insAt 208 9 = some (.invokevirtual 321, 3, (197, 0, 2, 1), 0) := rfl
theorem s208_9 {c : Nat → List AV → SS → Option Out} {l0 l1 : Option AV} {t0 : AV} {j t : Nat} {L2 : List (Nat × AV)} {S : SS} : ev c 208 9 [l0, l1] L2 [aR (1, j, t), t0] S = ck (c 197 [aR (1, j, t)] S) (fun v S' => ev c 208 12 [l0, l1] L2 (v.toList ++ [t0]) S') := ev_call i208_9 rfl
theorem i208_12 : insAt 208 12 = some (.if_icmp .lt 14, 3, (0, 0, 0, 0), 0) := rfl
theorem s208_12 {c : Nat → List AV → SS → Option Out} {l0 l1 : Option AV} {x y : Int32} {L2 : List (Nat × AV)} {St : List AV} {S : SS} : ev c 208 12 [l0, l1] L2 (aI y :: aI x :: St) S = if x < y then ev c 208 26 [l0, l1] L2 St S else ev c 208 15 [l0, l1] L2 St S := ev_br i208_12 rfl
theorem i208_15 : insAt 208 15 = some (.new 324, 3, (4, 0, 1, 0), 0) := rfl
theorem s208_15 {c : Nat → List AV → SS → Option Out} {l0 l1 : Option AV} {L2 : List (Nat × AV)} {S : SS} : ev c 208 15 [l0, l1] L2 [] S = some (.inr "java/lang/IndexOutOfBoundsException", bump S 1 6) := ev_end i208_15 rfl
theorem i208_18 : insAt 208 18 = some (.dup, 1, (0, 0, 0, 0), 0) := rfl
theorem s208_18 {c : Nat → List AV → SS → Option Out} {l0 l1 : Option AV} {x : OId} {L2 : List (Nat × AV)} {St : List AV} {S : SS} : ev c 208 18 [l0, l1] L2 (aR x :: St) S = ev c 208 19 [l0, l1] L2 (aR x :: aR x :: St) S := ev_go i208_18 rfl
theorem i208_26 : insAt 208 26 = some (.aload_n 0, 1, (0, 0, 0, 0), 0) := rfl
theorem s208_26 {c : Nat → List AV → SS → Option Out} {l1 : Option AV} {o : OId} {L2 : List (Nat × AV)} {St : List AV} {S : SS} : ev c 208 26 [some (aR o), l1] L2 St S = ev c 208 27 [some (aR o), l1] L2 (aR o :: St) S := ev_go i208_26 rfl
theorem i208_27 : insAt 208 27 = some (.getfield 52, 3, (11, 6, 0, 0), 0) := rfl
theorem s208_27 {c : Nat → List AV → SS → Option Out} {l0 l1 : Option AV} {j t : Nat} {L2 : List (Nat × AV)} {St : List AV} {S : SS} : ev c 208 27 [l0, l1] L2 (aR (11, j, t) :: St) S = ev c 208 30 [l0, l1] L2 (S.2.2.1 (11, j, t) 6 :: St) S := ev_go i208_27 rfl
theorem i208_30 : insAt 208 30 = some (.iload_n 1, 1, (0, 0, 0, 0), 0) := rfl
theorem s208_30 {c : Nat → List AV → SS → Option Out} {l0 : Option AV} {x : Int32} {L2 : List (Nat × AV)} {St : List AV} {S : SS} : ev c 208 30 [l0, some (aI x)] L2 St S = ev c 208 31 [l0, some (aI x)] L2 (aI x :: St) S := ev_go i208_30 rfl
theorem i208_31 : insAt 208 31 = some (.invokevirtual 329, 3, (209, 1, 2, 1), 0) := rfl
theorem s208_31 {c : Nat → List AV → SS → Option Out} {l0 l1 : Option AV} {a0 : Int32} {j t : Nat} {L2 : List (Nat × AV)} {S : SS} : ev c 208 31 [l0, l1] L2 [aI a0, aR (1, j, t)] S = ck (c 209 [aR (1, j, t), aI a0] S) (fun v S' => ev c 208 34 [l0, l1] L2 (v.toList ++ []) S') := ev_call i208_31 rfl
theorem i208_34 : insAt 208 34 = some (.ireturn, 1, (0, 0, 0, 0), 0) := rfl
theorem s208_34 {c : Nat → List AV → SS → Option Out} {l0 l1 : Option AV} {x : Int32} {L2 : List (Nat × AV)} {St : List AV} {S : SS} : ev c 208 34 [l0, l1] L2 [aI x] S = if (x.toUInt32 % 65536).toInt32 = x then some (.inl (some (aI x)), S) else none := ev_rt i208_34 rfl
theorem m208 {d : Nat} {o : OId} {a0 : Int32} {S : SS} : evm (d + 1) 208 [aR o, aI a0] S = ev (evm d) 208 0 [some (aR o), some (aI a0)] [] [] S := evm_s (n := 2) rfl (Nat.le_of_ble_eq_true rfl) rfl rfl
/-! FrequencyOffice.undo()I -/
theorem i212_0 : insAt 212 0 = some (.aload_n 0, 1, (0, 0, 0, 0), 0) := rfl
theorem s212_0 {c : Nat → List AV → SS → Option Out} {o : OId} {L2 : List (Nat × AV)} {St : List AV} {S : SS} : ev c 212 0 [some (aR o)] L2 St S = ev c 212 1 [some (aR o)] L2 (aR o :: St) S := ev_go i212_0 rfl
theorem i212_1 : insAt 212 1 = some (.getfield 19, 3, (11, 1, 0, 0), 0) := rfl
theorem s212_1 {c : Nat → List AV → SS → Option Out} {l0 : Option AV} {j t : Nat} {L2 : List (Nat × AV)} {St : List AV} {S : SS} : ev c 212 1 [l0] L2 (aR (11, j, t) :: St) S = ev c 212 4 [l0] L2 (S.2.2.1 (11, j, t) 1 :: St) S := ev_go i212_1 rfl
theorem i212_4 : insAt 212 4 = some (.getfield 333, 3, (5, 2, 1, 0), 0) := rfl
theorem s212_4 {c : Nat → List AV → SS → Option Out} {l0 : Option AV} {j t : Nat} {L2 : List (Nat × AV)} {St : List AV} {S : SS} : ev c 212 4 [l0] L2 (aR (5, j, t) :: St) S = ev c 212 7 [l0] L2 (aI (S.1 (5, j, t) 2) :: St) S := ev_go i212_4 rfl
theorem i212_7 : insAt 212 7 = some (.ifCond .ne 14, 3, (0, 0, 0, 0), 0) := rfl
theorem s212_7 {c : Nat → List AV → SS → Option Out} {l0 : Option AV} {x : Int32} {L2 : List (Nat × AV)} {St : List AV} {S : SS} : ev c 212 7 [l0] L2 (aI x :: St) S = if x = 0 then ev c 212 10 [l0] L2 St S else ev c 212 21 [l0] L2 St S := (ev_br i212_7 rfl).trans (ite_not _ _ _)
theorem i212_10 : insAt 212 10 = some (.new 64, 3, (1, 0, 1, 0), 0) := rfl
theorem s212_10 {c : Nat → List AV → SS → Option Out} {l0 : Option AV} {L2 : List (Nat × AV)} {S : SS} : ev c 212 10 [l0] L2 [] S = some (.inr "java/lang/IllegalStateException", bump S 1 6) := ev_end i212_10 rfl
theorem i212_13 : insAt 212 13 = some (.dup, 1, (0, 0, 0, 0), 0) := rfl
theorem s212_13 {c : Nat → List AV → SS → Option Out} {l0 : Option AV} {x : OId} {L2 : List (Nat × AV)} {St : List AV} {S : SS} : ev c 212 13 [l0] L2 (aR x :: St) S = ev c 212 14 [l0] L2 (aR x :: aR x :: St) S := ev_go i212_13 rfl
theorem i212_21 : insAt 212 21 = some (.aload_n 0, 1, (0, 0, 0, 0), 0) := rfl
theorem s212_21 {c : Nat → List AV → SS → Option Out} {o : OId} {L2 : List (Nat × AV)} {St : List AV} {S : SS} : ev c 212 21 [some (aR o)] L2 St S = ev c 212 22 [some (aR o)] L2 (aR o :: St) S := ev_go i212_21 rfl
theorem i212_22 : insAt 212 22 = some (.getfield 19, 3, (11, 1, 0, 0), 0) := rfl
theorem s212_22 {c : Nat → List AV → SS → Option Out} {l0 : Option AV} {j t : Nat} {L2 : List (Nat × AV)} {St : List AV} {S : SS} : ev c 212 22 [l0] L2 (aR (11, j, t) :: St) S = ev c 212 25 [l0] L2 (S.2.2.1 (11, j, t) 1 :: St) S := ev_go i212_22 rfl
theorem i212_25 : insAt 212 25 = some (.aload_n 0, 1, (0, 0, 0, 0), 0) := rfl
theorem s212_25 {c : Nat → List AV → SS → Option Out} {o : OId} {L2 : List (Nat × AV)} {St : List AV} {S : SS} : ev c 212 25 [some (aR o)] L2 St S = ev c 212 26 [some (aR o)] L2 (aR o :: St) S := ev_go i212_25 rfl
theorem i212_26 : insAt 212 26 = some (.getfield 10, 3, (11, 0, 0, 0), 0) := rfl
theorem s212_26 {c : Nat → List AV → SS → Option Out} {l0 : Option AV} {j t : Nat} {L2 : List (Nat × AV)} {St : List AV} {S : SS} : ev c 212 26 [l0] L2 (aR (11, j, t) :: St) S = ev c 212 29 [l0] L2 (S.2.2.1 (11, j, t) 0 :: St) S := ev_go i212_26 rfl
theorem i212_29 : insAt 212 29 = some (.invokevirtual 338, 3, (213, 1, 3, 5), 0) := rfl
theorem s212_29 {c : Nat → List AV → SS → Option Out} {l0 : Option AV} {a0 : OId} {j t : Nat} {L2 : List (Nat × AV)} {S : SS} : ev c 212 29 [l0] L2 [aR a0, aR (5, j, t)] S = ck (c 213 [aR (5, j, t), aR a0] S) (fun v S' => ev c 212 32 [l0] L2 (v.toList ++ []) S') := ev_call i212_29 rfl
theorem i212_32 : insAt 212 32 = some (.aload_n 0, 1, (0, 0, 0, 0), 0) := rfl
theorem s212_32 {c : Nat → List AV → SS → Option Out} {o : OId} {L2 : List (Nat × AV)} {St : List AV} {S : SS} : ev c 212 32 [some (aR o)] L2 St S = ev c 212 33 [some (aR o)] L2 (aR o :: St) S := ev_go i212_32 rfl
theorem i212_33 : insAt 212 33 = some (.getfield 19, 3, (11, 1, 0, 0), 0) := rfl
theorem s212_33 {c : Nat → List AV → SS → Option Out} {l0 : Option AV} {j t : Nat} {L2 : List (Nat × AV)} {St : List AV} {S : SS} : ev c 212 33 [l0] L2 (aR (11, j, t) :: St) S = ev c 212 36 [l0] L2 (S.2.2.1 (11, j, t) 1 :: St) S := ev_go i212_33 rfl
theorem i212_36 : insAt 212 36 = some (.getfield 333, 3, (5, 2, 1, 0), 0) := rfl
theorem s212_36 {c : Nat → List AV → SS → Option Out} {l0 : Option AV} {j t : Nat} {L2 : List (Nat × AV)} {St : List AV} {S : SS} : ev c 212 36 [l0] L2 (aR (5, j, t) :: St) S = ev c 212 39 [l0] L2 (aI (S.1 (5, j, t) 2) :: St) S := ev_go i212_36 rfl
theorem i212_39 : insAt 212 39 = some (.ireturn, 1, (0, 0, 0, 0), 0) := rfl
theorem s212_39 {c : Nat → List AV → SS → Option Out} {l0 : Option AV} {x : Int32} {L2 : List (Nat × AV)} {St : List AV} {S : SS} : ev c 212 39 [l0] L2 [aI x] S = some (.inl (some (aI x)), S) := ev_end i212_39 rfl
theorem m212 {d : Nat} {o : OId} {S : SS} : evm (d + 1) 212 [aR o] S = ev (evm d) 212 0 [some (aR o)] [] [] S := evm_s (n := 1) rfl (Nat.le_of_ble_eq_true rfl) rfl rfl
/-! FrequencyOffice.restore()I -/
theorem i215_0 : insAt 215 0 = some (.aload_n 0, 1, (0, 0, 0, 0), 0) := rfl
theorem s215_0 {c : Nat → List AV → SS → Option Out} {o : OId} {L2 : List (Nat × AV)} {St : List AV} {S : SS} : ev c 215 0 [some (aR o)] L2 St S = ev c 215 1 [some (aR o)] L2 (aR o :: St) S := ev_go i215_0 rfl
theorem i215_1 : insAt 215 1 = some (.getfield 26, 3, (11, 3, 0, 0), 0) := rfl
theorem s215_1 {c : Nat → List AV → SS → Option Out} {l0 : Option AV} {j t : Nat} {L2 : List (Nat × AV)} {St : List AV} {S : SS} : ev c 215 1 [l0] L2 (aR (11, j, t) :: St) S = ev c 215 4 [l0] L2 (aI (bb (S.1 (11, j, t) 3)) :: St) S := ev_go i215_1 rfl
theorem i215_4 : insAt 215 4 = some (.ifCond .ne 14, 3, (0, 0, 0, 0), 0) := rfl
theorem s215_4 {c : Nat → List AV → SS → Option Out} {l0 : Option AV} {x : Int32} {L2 : List (Nat × AV)} {St : List AV} {S : SS} : ev c 215 4 [l0] L2 (aI x :: St) S = if x = 0 then ev c 215 7 [l0] L2 St S else ev c 215 18 [l0] L2 St S := (ev_br i215_4 rfl).trans (ite_not _ _ _)
theorem i215_7 : insAt 215 7 = some (.new 64, 3, (1, 0, 1, 0), 0) := rfl
theorem s215_7 {c : Nat → List AV → SS → Option Out} {l0 : Option AV} {L2 : List (Nat × AV)} {S : SS} : ev c 215 7 [l0] L2 [] S = some (.inr "java/lang/IllegalStateException", bump S 1 6) := ev_end i215_7 rfl
theorem i215_10 : insAt 215 10 = some (.dup, 1, (0, 0, 0, 0), 0) := rfl
theorem s215_10 {c : Nat → List AV → SS → Option Out} {l0 : Option AV} {x : OId} {L2 : List (Nat × AV)} {St : List AV} {S : SS} : ev c 215 10 [l0] L2 (aR x :: St) S = ev c 215 11 [l0] L2 (aR x :: aR x :: St) S := ev_go i215_10 rfl
theorem i215_18 : insAt 215 18 = some (.aload_n 0, 1, (0, 0, 0, 0), 0) := rfl
theorem s215_18 {c : Nat → List AV → SS → Option Out} {o : OId} {L2 : List (Nat × AV)} {St : List AV} {S : SS} : ev c 215 18 [some (aR o)] L2 St S = ev c 215 19 [some (aR o)] L2 (aR o :: St) S := ev_go i215_18 rfl
theorem i215_19 : insAt 215 19 = some (.getfield 10, 3, (11, 0, 0, 0), 0) := rfl
theorem s215_19 {c : Nat → List AV → SS → Option Out} {l0 : Option AV} {j t : Nat} {L2 : List (Nat × AV)} {St : List AV} {S : SS} : ev c 215 19 [l0] L2 (aR (11, j, t) :: St) S = ev c 215 22 [l0] L2 (S.2.2.1 (11, j, t) 0 :: St) S := ev_go i215_19 rfl
theorem i215_22 : insAt 215 22 = some (.aload_n 0, 1, (0, 0, 0, 0), 0) := rfl
theorem s215_22 {c : Nat → List AV → SS → Option Out} {o : OId} {L2 : List (Nat × AV)} {St : List AV} {S : SS} : ev c 215 22 [some (aR o)] L2 St S = ev c 215 23 [some (aR o)] L2 (aR o :: St) S := ev_go i215_22 rfl
theorem i215_23 : insAt 215 23 = some (.getfield 23, 3, (11, 2, 0, 0), 0) := rfl
theorem s215_23 {c : Nat → List AV → SS → Option Out} {l0 : Option AV} {j t : Nat} {L2 : List (Nat × AV)} {St : List AV} {S : SS} : ev c 215 23 [l0] L2 (aR (11, j, t) :: St) S = ev c 215 26 [l0] L2 (S.2.2.1 (11, j, t) 2 :: St) S := ev_go i215_23 rfl
theorem i215_26 : insAt 215 26 = some (.invokevirtual 341, 3, (56, 1, 3, 4), 0) := rfl
theorem s215_26 {c : Nat → List AV → SS → Option Out} {l0 : Option AV} {a0 : OId} {j t : Nat} {L2 : List (Nat × AV)} {S : SS} : ev c 215 26 [l0] L2 [aR a0, aR (4, j, t)] S = ck (c 56 [aR (4, j, t), aR a0] S) (fun v S' => ev c 215 29 [l0] L2 (v.toList ++ []) S') := ev_call i215_26 rfl
theorem i215_29 : insAt 215 29 = some (.aload_n 0, 1, (0, 0, 0, 0), 0) := rfl
theorem s215_29 {c : Nat → List AV → SS → Option Out} {o : OId} {L2 : List (Nat × AV)} {St : List AV} {S : SS} : ev c 215 29 [some (aR o)] L2 St S = ev c 215 30 [some (aR o)] L2 (aR o :: St) S := ev_go i215_29 rfl
theorem i215_30 : insAt 215 30 = some (.getfield 19, 3, (11, 1, 0, 0), 0) := rfl
theorem s215_30 {c : Nat → List AV → SS → Option Out} {l0 : Option AV} {j t : Nat} {L2 : List (Nat × AV)} {St : List AV} {S : SS} : ev c 215 30 [l0] L2 (aR (11, j, t) :: St) S = ev c 215 33 [l0] L2 (S.2.2.1 (11, j, t) 1 :: St) S := ev_go i215_30 rfl
theorem i215_33 : insAt 215 33 = some (.invokevirtual 346, 3, (216, 0, 3, 5), 0) := rfl
theorem s215_33 {c : Nat → List AV → SS → Option Out} {l0 : Option AV} {j t : Nat} {L2 : List (Nat × AV)} {S : SS} : ev c 215 33 [l0] L2 [aR (5, j, t)] S = ck (c 216 [aR (5, j, t)] S) (fun v S' => ev c 215 36 [l0] L2 (v.toList ++ []) S') := ev_call i215_33 rfl
theorem i215_36 : insAt 215 36 = some (.aload_n 0, 1, (0, 0, 0, 0), 0) := rfl
theorem s215_36 {c : Nat → List AV → SS → Option Out} {o : OId} {L2 : List (Nat × AV)} {St : List AV} {S : SS} : ev c 215 36 [some (aR o)] L2 St S = ev c 215 37 [some (aR o)] L2 (aR o :: St) S := ev_go i215_36 rfl
theorem i215_37 : insAt 215 37 = some (.getfield 10, 3, (11, 0, 0, 0), 0) := rfl
theorem s215_37 {c : Nat → List AV → SS → Option Out} {l0 : Option AV} {j t : Nat} {L2 : List (Nat × AV)} {St : List AV} {S : SS} : ev c 215 37 [l0] L2 (aR (11, j, t) :: St) S = ev c 215 40 [l0] L2 (S.2.2.1 (11, j, t) 0 :: St) S := ev_go i215_37 rfl
theorem i215_40 : insAt 215 40 = some (.getfield 60, 3, (4, 7, 1, 0), 0) := rfl
theorem s215_40 {c : Nat → List AV → SS → Option Out} {l0 : Option AV} {j t : Nat} {L2 : List (Nat × AV)} {St : List AV} {S : SS} : ev c 215 40 [l0] L2 (aR (4, j, t) :: St) S = ev c 215 43 [l0] L2 (aI (S.1 (4, j, t) 7) :: St) S := ev_go i215_40 rfl
theorem i215_43 : insAt 215 43 = some (.ireturn, 1, (0, 0, 0, 0), 0) := rfl
theorem s215_43 {c : Nat → List AV → SS → Option Out} {l0 : Option AV} {x : Int32} {L2 : List (Nat × AV)} {St : List AV} {S : SS} : ev c 215 43 [l0] L2 [aI x] S = some (.inl (some (aI x)), S) := ev_end i215_43 rfl
theorem m215 {d : Nat} {o : OId} {S : SS} : evm (d + 1) 215 [aR o] S = ev (evm d) 215 0 [some (aR o)] [] [] S := evm_s (n := 1) rfl (Nat.le_of_ble_eq_true rfl) rfl rfl
