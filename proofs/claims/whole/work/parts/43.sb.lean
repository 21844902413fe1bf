/-! FrequencyOffice.<init>()V -/
theorem i0_0 : insAt 0 0 = some (.aload_n 0, 1, (0, 0, 0, 0), 0) := rfl
theorem s0_0 {c : Nat → List AV → SS → Option Out} {l1 : Option AV} {o : OId} {L2 : List (Nat × AV)} {St : List AV} {S : SS} : ev c 0 0 [some (aR o), l1] L2 St S = ev c 0 1 [some (aR o), l1] L2 (aR o :: St) S := ev_go i0_0 rfl
theorem i0_1 : insAt 0 1 = some (.invokespecial 1, 3, (0, 0, 20, 0), 0) := rfl
theorem s0_1 {c : Nat → List AV → SS → Option Out} {l0 l1 : Option AV} {j t : Nat} {L2 : List (Nat × AV)} {S : SS} : ev c 0 1 [l0, l1] L2 [aR (11, j, t)] S = ev c 0 4 [l0, l1] L2 [] S := ev_go i0_1 rfl
theorem i0_4 : insAt 0 4 = some (.aload_n 0, 1, (0, 0, 0, 0), 0) := rfl
theorem s0_4 {c : Nat → List AV → SS → Option Out} {l1 : Option AV} {o : OId} {L2 : List (Nat × AV)} {St : List AV} {S : SS} : ev c 0 4 [some (aR o), l1] L2 St S = ev c 0 5 [some (aR o), l1] L2 (aR o :: St) S := ev_go i0_4 rfl
theorem i0_5 : insAt 0 5 = some (.new 7, 3, (4, 0, 0, 0), 1) := rfl
theorem i0_8 : insAt 0 8 = some (.dup, 1, (0, 0, 0, 0), 0) := rfl
theorem s0_8 {c : Nat → List AV → SS → Option Out} {l0 l1 : Option AV} {x : OId} {L2 : List (Nat × AV)} {St : List AV} {S : SS} : ev c 0 8 [l0, l1] L2 (aR x :: St) S = ev c 0 9 [l0, l1] L2 (aR x :: aR x :: St) S := ev_go i0_8 rfl
theorem i0_9 : insAt 0 9 = some (.invokespecial 9, 3, (1, 0, 6, 4), 2) := rfl
theorem s0_9 {c : Nat → List AV → SS → Option Out} {l0 l1 : Option AV} {t0 t1 : AV} {j t : Nat} {L2 : List (Nat × AV)} {S : SS} : ev c 0 9 [l0, l1] L2 [aR (4, j, t), t0, t1] S = ck (c 1 [aR (4, j, t)] S) (fun v S' => ev c 0 12 [l0, l1] L2 (v.toList ++ [t0, t1]) S') := ev_call i0_9 rfl
theorem i0_12 : insAt 0 12 = some (.putfield 10, 3, (11, 0, 0, 0), 3) := rfl
theorem s0_12 {c : Nat → List AV → SS → Option Out} {l0 l1 : Option AV} {j t : Nat} {p : OId} {L2 : List (Nat × AV)} {St : List AV} {S : SS} : ev c 0 12 [l0, l1] L2 (aR p :: aR (11, j, t) :: St) S = ev c 0 15 [l0, l1] L2 St (S.1, S.2.1, setV S.2.2.1 (11, j, t) 0 (aR p), S.2.2.2) := ev_go i0_12 rfl
theorem i0_15 : insAt 0 15 = some (.aload_n 0, 1, (0, 0, 0, 0), 0) := rfl
theorem s0_15 {c : Nat → List AV → SS → Option Out} {l1 : Option AV} {o : OId} {L2 : List (Nat × AV)} {St : List AV} {S : SS} : ev c 0 15 [some (aR o), l1] L2 St S = ev c 0 16 [some (aR o), l1] L2 (aR o :: St) S := ev_go i0_15 rfl
theorem i0_16 : insAt 0 16 = some (.new 16, 3, (5, 0, 0, 0), 4) := rfl
theorem i0_19 : insAt 0 19 = some (.dup, 1, (0, 0, 0, 0), 0) := rfl
theorem s0_19 {c : Nat → List AV → SS → Option Out} {l0 l1 : Option AV} {x : OId} {L2 : List (Nat × AV)} {St : List AV} {S : SS} : ev c 0 19 [l0, l1] L2 (aR x :: St) S = ev c 0 20 [l0, l1] L2 (aR x :: aR x :: St) S := ev_go i0_19 rfl
theorem i0_20 : insAt 0 20 = some (.invokespecial 18, 3, (4, 0, 6, 5), 5) := rfl
theorem s0_20 {c : Nat → List AV → SS → Option Out} {l0 l1 : Option AV} {t0 t1 : AV} {j t : Nat} {L2 : List (Nat × AV)} {S : SS} : ev c 0 20 [l0, l1] L2 [aR (5, j, t), t0, t1] S = ck (c 4 [aR (5, j, t)] S) (fun v S' => ev c 0 23 [l0, l1] L2 (v.toList ++ [t0, t1]) S') := ev_call i0_20 rfl
theorem i0_23 : insAt 0 23 = some (.putfield 19, 3, (11, 1, 0, 0), 6) := rfl
theorem s0_23 {c : Nat → List AV → SS → Option Out} {l0 l1 : Option AV} {j t : Nat} {p : OId} {L2 : List (Nat × AV)} {St : List AV} {S : SS} : ev c 0 23 [l0, l1] L2 (aR p :: aR (11, j, t) :: St) S = ev c 0 26 [l0, l1] L2 St (S.1, S.2.1, setV S.2.2.1 (11, j, t) 1 (aR p), S.2.2.2) := ev_go i0_23 rfl
theorem i0_26 : insAt 0 26 = some (.aload_n 0, 1, (0, 0, 0, 0), 0) := rfl
theorem s0_26 {c : Nat → List AV → SS → Option Out} {l1 : Option AV} {o : OId} {L2 : List (Nat × AV)} {St : List AV} {S : SS} : ev c 0 26 [some (aR o), l1] L2 St S = ev c 0 27 [some (aR o), l1] L2 (aR o :: St) S := ev_go i0_26 rfl
theorem i0_27 : insAt 0 27 = some (.new 7, 3, (4, 0, 0, 0), 1) := rfl
theorem i0_30 : insAt 0 30 = some (.dup, 1, (0, 0, 0, 0), 0) := rfl
theorem s0_30 {c : Nat → List AV → SS → Option Out} {l0 l1 : Option AV} {x : OId} {L2 : List (Nat × AV)} {St : List AV} {S : SS} : ev c 0 30 [l0, l1] L2 (aR x :: St) S = ev c 0 31 [l0, l1] L2 (aR x :: aR x :: St) S := ev_go i0_30 rfl
theorem i0_31 : insAt 0 31 = some (.invokespecial 9, 3, (1, 0, 6, 4), 2) := rfl
theorem s0_31 {c : Nat → List AV → SS → Option Out} {l0 l1 : Option AV} {t0 t1 : AV} {j t : Nat} {L2 : List (Nat × AV)} {S : SS} : ev c 0 31 [l0, l1] L2 [aR (4, j, t), t0, t1] S = ck (c 1 [aR (4, j, t)] S) (fun v S' => ev c 0 34 [l0, l1] L2 (v.toList ++ [t0, t1]) S') := ev_call i0_31 rfl
theorem i0_34 : insAt 0 34 = some (.putfield 23, 3, (11, 2, 0, 0), 7) := rfl
theorem s0_34 {c : Nat → List AV → SS → Option Out} {l0 l1 : Option AV} {j t : Nat} {p : OId} {L2 : List (Nat × AV)} {St : List AV} {S : SS} : ev c 0 34 [l0, l1] L2 (aR p :: aR (11, j, t) :: St) S = ev c 0 37 [l0, l1] L2 St (S.1, S.2.1, setV S.2.2.1 (11, j, t) 2 (aR p), S.2.2.2) := ev_go i0_34 rfl
theorem i0_37 : insAt 0 37 = some (.aload_n 0, 1, (0, 0, 0, 0), 0) := rfl
theorem s0_37 {c : Nat → List AV → SS → Option Out} {l1 : Option AV} {o : OId} {L2 : List (Nat × AV)} {St : List AV} {S : SS} : ev c 0 37 [some (aR o), l1] L2 St S = ev c 0 38 [some (aR o), l1] L2 (aR o :: St) S := ev_go i0_37 rfl
theorem i0_38 : insAt 0 38 = some (.iconst 0, 1, (0, 0, 0, 0), 0) := rfl
theorem s0_38 {c : Nat → List AV → SS → Option Out} {l0 l1 : Option AV} {L2 : List (Nat × AV)} {St : List AV} {S : SS} : ev c 0 38 [l0, l1] L2 St S = ev c 0 39 [l0, l1] L2 (aI 0 :: St) S := ev_go i0_38 rfl
theorem i0_39 : insAt 0 39 = some (.putfield 26, 3, (11, 3, 0, 0), 8) := rfl
theorem s0_39 {c : Nat → List AV → SS → Option Out} {l0 l1 : Option AV} {j t : Nat} {x : Int32} {L2 : List (Nat × AV)} {St : List AV} {S : SS} : ev c 0 39 [l0, l1] L2 (aI x :: aR (11, j, t) :: St) S = if x = 0 ∨ x = 1 then ev c 0 42 [l0, l1] L2 St (setI S.1 (11, j, t) 3 x, S.2) else none := ev_if i0_39 rfl
theorem i0_42 : insAt 0 42 = some (.new 30, 3, (6, 0, 0, 0), 9) := rfl
theorem i0_45 : insAt 0 45 = some (.dup, 1, (0, 0, 0, 0), 0) := rfl
theorem s0_45 {c : Nat → List AV → SS → Option Out} {l0 l1 : Option AV} {x : OId} {L2 : List (Nat × AV)} {St : List AV} {S : SS} : ev c 0 45 [l0, l1] L2 (aR x :: St) S = ev c 0 46 [l0, l1] L2 (aR x :: aR x :: St) S := ev_go i0_45 rfl
theorem i0_46 : insAt 0 46 = some (.invokespecial 32, 3, (5, 0, 6, 6), 10) := rfl
theorem s0_46 {c : Nat → List AV → SS → Option Out} {l0 l1 : Option AV} {t0 : AV} {j t : Nat} {L2 : List (Nat × AV)} {S : SS} : ev c 0 46 [l0, l1] L2 [aR (6, j, t), t0] S = ck (c 5 [aR (6, j, t)] S) (fun v S' => ev c 0 49 [l0, l1] L2 (v.toList ++ [t0]) S') := ev_call i0_46 rfl
theorem i0_49 : insAt 0 49 = some (.astore_n 1, 1, (0, 0, 0, 0), 0) := rfl
theorem s0_49 {c : Nat → List AV → SS → Option Out} {l0 l1 : Option AV} {o : OId} {L2 : List (Nat × AV)} {St : List AV} {S : SS} : ev c 0 49 [l0, l1] L2 (aR o :: St) S = ev c 0 50 [l0, some (aR o)] (kil L2 1) St S := ev_go i0_49 rfl
theorem i0_50 : insAt 0 50 = some (.aload_n 0, 1, (0, 0, 0, 0), 0) := rfl
theorem s0_50 {c : Nat → List AV → SS → Option Out} {l1 : Option AV} {o : OId} {L2 : List (Nat × AV)} {St : List AV} {S : SS} : ev c 0 50 [some (aR o), l1] L2 St S = ev c 0 51 [some (aR o), l1] L2 (aR o :: St) S := ev_go i0_50 rfl
theorem i0_51 : insAt 0 51 = some (.new 33, 3, (8, 0, 0, 0), 11) := rfl
theorem i0_54 : insAt 0 54 = some (.dup, 1, (0, 0, 0, 0), 0) := rfl
theorem s0_54 {c : Nat → List AV → SS → Option Out} {l0 l1 : Option AV} {x : OId} {L2 : List (Nat × AV)} {St : List AV} {S : SS} : ev c 0 54 [l0, l1] L2 (aR x :: St) S = ev c 0 55 [l0, l1] L2 (aR x :: aR x :: St) S := ev_go i0_54 rfl
theorem i0_55 : insAt 0 55 = some (.aload_n 1, 1, (0, 0, 0, 0), 0) := rfl
theorem s0_55 {c : Nat → List AV → SS → Option Out} {l0 : Option AV} {o : OId} {L2 : List (Nat × AV)} {St : List AV} {S : SS} : ev c 0 55 [l0, some (aR o)] L2 St S = ev c 0 56 [l0, some (aR o)] L2 (aR o :: St) S := ev_go i0_55 rfl
theorem i0_56 : insAt 0 56 = some (.invokespecial 35, 3, (6, 1, 6, 8), 12) := rfl
theorem s0_56 {c : Nat → List AV → SS → Option Out} {l0 l1 : Option AV} {t0 t1 : AV} {a0 : OId} {j t : Nat} {L2 : List (Nat × AV)} {S : SS} : ev c 0 56 [l0, l1] L2 [aR a0, aR (8, j, t), t0, t1] S = ck (c 6 [aR (8, j, t), aR a0] S) (fun v S' => ev c 0 59 [l0, l1] L2 (v.toList ++ [t0, t1]) S') := ev_call i0_56 rfl
theorem i0_59 : insAt 0 59 = some (.putfield 38, 3, (11, 4, 0, 0), 13) := rfl
theorem s0_59 {c : Nat → List AV → SS → Option Out} {l0 l1 : Option AV} {j t : Nat} {p : OId} {L2 : List (Nat × AV)} {St : List AV} {S : SS} : ev c 0 59 [l0, l1] L2 (aR p :: aR (11, j, t) :: St) S = ev c 0 62 [l0, l1] L2 St (S.1, S.2.1, setV S.2.2.1 (11, j, t) 4 (aR p), S.2.2.2) := ev_go i0_59 rfl
theorem i0_62 : insAt 0 62 = some (.aload_n 0, 1, (0, 0, 0, 0), 0) := rfl
theorem s0_62 {c : Nat → List AV → SS → Option Out} {l1 : Option AV} {o : OId} {L2 : List (Nat × AV)} {St : List AV} {S : SS} : ev c 0 62 [some (aR o), l1] L2 St S = ev c 0 63 [some (aR o), l1] L2 (aR o :: St) S := ev_go i0_62 rfl
theorem i0_63 : insAt 0 63 = some (.new 42, 3, (9, 0, 0, 0), 14) := rfl
theorem i0_66 : insAt 0 66 = some (.dup, 1, (0, 0, 0, 0), 0) := rfl
theorem s0_66 {c : Nat → List AV → SS → Option Out} {l0 l1 : Option AV} {x : OId} {L2 : List (Nat × AV)} {St : List AV} {S : SS} : ev c 0 66 [l0, l1] L2 (aR x :: St) S = ev c 0 67 [l0, l1] L2 (aR x :: aR x :: St) S := ev_go i0_66 rfl
theorem i0_67 : insAt 0 67 = some (.aload_n 1, 1, (0, 0, 0, 0), 0) := rfl
theorem s0_67 {c : Nat → List AV → SS → Option Out} {l0 : Option AV} {o : OId} {L2 : List (Nat × AV)} {St : List AV} {S : SS} : ev c 0 67 [l0, some (aR o)] L2 St S = ev c 0 68 [l0, some (aR o)] L2 (aR o :: St) S := ev_go i0_67 rfl
theorem i0_68 : insAt 0 68 = some (.invokespecial 44, 3, (7, 1, 6, 9), 15) := rfl
theorem s0_68 {c : Nat → List AV → SS → Option Out} {l0 l1 : Option AV} {t0 t1 : AV} {a0 : OId} {j t : Nat} {L2 : List (Nat × AV)} {S : SS} : ev c 0 68 [l0, l1] L2 [aR a0, aR (9, j, t), t0, t1] S = ck (c 7 [aR (9, j, t), aR a0] S) (fun v S' => ev c 0 71 [l0, l1] L2 (v.toList ++ [t0, t1]) S') := ev_call i0_68 rfl
theorem i0_71 : insAt 0 71 = some (.putfield 45, 3, (11, 5, 0, 0), 16) := rfl
theorem s0_71 {c : Nat → List AV → SS → Option Out} {l0 l1 : Option AV} {j t : Nat} {p : OId} {L2 : List (Nat × AV)} {St : List AV} {S : SS} : ev c 0 71 [l0, l1] L2 (aR p :: aR (11, j, t) :: St) S = ev c 0 74 [l0, l1] L2 St (S.1, S.2.1, setV S.2.2.1 (11, j, t) 5 (aR p), S.2.2.2) := ev_go i0_71 rfl
theorem i0_74 : insAt 0 74 = some (.aload_n 0, 1, (0, 0, 0, 0), 0) := rfl
theorem s0_74 {c : Nat → List AV → SS → Option Out} {l1 : Option AV} {o : OId} {L2 : List (Nat × AV)} {St : List AV} {S : SS} : ev c 0 74 [some (aR o), l1] L2 St S = ev c 0 75 [some (aR o), l1] L2 (aR o :: St) S := ev_go i0_74 rfl
theorem i0_75 : insAt 0 75 = some (.new 49, 3, (1, 0, 0, 0), 17) := rfl
theorem i0_78 : insAt 0 78 = some (.dup, 1, (0, 0, 0, 0), 0) := rfl
theorem s0_78 {c : Nat → List AV → SS → Option Out} {l0 l1 : Option AV} {x : OId} {L2 : List (Nat × AV)} {St : List AV} {S : SS} : ev c 0 78 [l0, l1] L2 (aR x :: St) S = ev c 0 79 [l0, l1] L2 (aR x :: aR x :: St) S := ev_go i0_78 rfl
theorem i0_79 : insAt 0 79 = some (.invokespecial 51, 3, (8, 0, 5, 1), 18) := rfl
theorem s0_79 {c : Nat → List AV → SS → Option Out} {l0 l1 : Option AV} {t0 t1 : AV} {j t : Nat} {L2 : List (Nat × AV)} {S : SS} : ev c 0 79 [l0, l1] L2 [aR (1, j, t), t0, t1] S = ck (c 8 [aR (1, j, t)] S) (fun v S' => ev c 0 82 [l0, l1] L2 (v.toList ++ [t0, t1]) S') := ev_call i0_79 rfl
theorem i0_82 : insAt 0 82 = some (.putfield 52, 3, (11, 6, 0, 0), 19) := rfl
theorem s0_82 {c : Nat → List AV → SS → Option Out} {l0 l1 : Option AV} {j t : Nat} {p : OId} {L2 : List (Nat × AV)} {St : List AV} {S : SS} : ev c 0 82 [l0, l1] L2 (aR p :: aR (11, j, t) :: St) S = ev c 0 85 [l0, l1] L2 St (S.1, S.2.1, setV S.2.2.1 (11, j, t) 6 (aR p), S.2.2.2) := ev_go i0_82 rfl
theorem i0_85 : insAt 0 85 = some (.return_, 1, (0, 0, 0, 0), 0) := rfl
theorem s0_85 {c : Nat → List AV → SS → Option Out} {l0 l1 : Option AV} {L2 : List (Nat × AV)} {S : SS} : ev c 0 85 [l0, l1] L2 [] S = some (.inl none, S) := ev_end i0_85 rfl
theorem m0 {d : Nat} {o : OId} {S : SS} : evm (d + 1) 0 [aR o] S = ev (evm d) 0 0 [some (aR o), none] [] [] S := evm_s (n := 2) rfl (Nat.le_of_ble_eq_true rfl) rfl rfl
/-! FrequencyOffice.nearRadius()I -/
theorem i10_0 : insAt 10 0 = some (.aload_n 0, 1, (0, 0, 0, 0), 0) := rfl
theorem s10_0 {c : Nat → List AV → SS → Option Out} {o : OId} {L2 : List (Nat × AV)} {St : List AV} {S : SS} : ev c 10 0 [some (aR o)] L2 St S = ev c 10 1 [some (aR o)] L2 (aR o :: St) S := ev_go i10_0 rfl
theorem i10_1 : insAt 10 1 = some (.getfield 10, 3, (11, 0, 0, 0), 3) := rfl
theorem s10_1 {c : Nat → List AV → SS → Option Out} {l0 : Option AV} {j t : Nat} {L2 : List (Nat × AV)} {St : List AV} {S : SS} : ev c 10 1 [l0] L2 (aR (11, j, t) :: St) S = ev c 10 4 [l0] L2 (S.2.2.1 (11, j, t) 0 :: St) S := ev_go i10_1 rfl
theorem i10_4 : insAt 10 4 = some (.getfield 78, 3, (4, 0, 1, 0), 75) := rfl
theorem s10_4 {c : Nat → List AV → SS → Option Out} {l0 : Option AV} {j t : Nat} {L2 : List (Nat × AV)} {St : List AV} {S : SS} : ev c 10 4 [l0] L2 (aR (4, j, t) :: St) S = ev c 10 7 [l0] L2 (aI (S.1 (4, j, t) 0) :: St) S := ev_go i10_4 rfl
theorem i10_7 : insAt 10 7 = some (.ireturn, 1, (0, 0, 0, 0), 0) := rfl
theorem s10_7 {c : Nat → List AV → SS → Option Out} {l0 : Option AV} {x : Int32} {L2 : List (Nat × AV)} {S : SS} : ev c 10 7 [l0] L2 [aI x] S = some (.inl (some (aI x)), S) := ev_end i10_7 rfl
theorem m10 {d : Nat} {o : OId} {S : SS} : evm (d + 1) 10 [aR o] S = ev (evm d) 10 0 [some (aR o)] [] [] S := evm_s (n := 1) rfl (Nat.le_of_ble_eq_true rfl) rfl rfl
/-! FrequencyOffice.middleRadius()I -/
theorem i11_0 : insAt 11 0 = some (.aload_n 0, 1, (0, 0, 0, 0), 0) := rfl
theorem s11_0 {c : Nat → List AV → SS → Option Out} {o : OId} {L2 : List (Nat × AV)} {St : List AV} {S : SS} : ev c 11 0 [some (aR o)] L2 St S = ev c 11 1 [some (aR o)] L2 (aR o :: St) S := ev_go i11_0 rfl
theorem i11_1 : insAt 11 1 = some (.getfield 10, 3, (11, 0, 0, 0), 3) := rfl
theorem s11_1 {c : Nat → List AV → SS → Option Out} {l0 : Option AV} {j t : Nat} {L2 : List (Nat × AV)} {St : List AV} {S : SS} : ev c 11 1 [l0] L2 (aR (11, j, t) :: St) S = ev c 11 4 [l0] L2 (S.2.2.1 (11, j, t) 0 :: St) S := ev_go i11_1 rfl
theorem i11_4 : insAt 11 4 = some (.getfield 81, 3, (4, 1, 1, 0), 76) := rfl
theorem s11_4 {c : Nat → List AV → SS → Option Out} {l0 : Option AV} {j t : Nat} {L2 : List (Nat × AV)} {St : List AV} {S : SS} : ev c 11 4 [l0] L2 (aR (4, j, t) :: St) S = ev c 11 7 [l0] L2 (aI (S.1 (4, j, t) 1) :: St) S := ev_go i11_4 rfl
theorem i11_7 : insAt 11 7 = some (.ireturn, 1, (0, 0, 0, 0), 0) := rfl
theorem s11_7 {c : Nat → List AV → SS → Option Out} {l0 : Option AV} {x : Int32} {L2 : List (Nat × AV)} {S : SS} : ev c 11 7 [l0] L2 [aI x] S = some (.inl (some (aI x)), S) := ev_end i11_7 rfl
theorem m11 {d : Nat} {o : OId} {S : SS} : evm (d + 1) 11 [aR o] S = ev (evm d) 11 0 [some (aR o)] [] [] S := evm_s (n := 1) rfl (Nat.le_of_ble_eq_true rfl) rfl rfl
/-! FrequencyOffice.farRadius()I -/
theorem i12_0 : insAt 12 0 = some (.aload_n 0, 1, (0, 0, 0, 0), 0) := rfl
theorem s12_0 {c : Nat → List AV → SS → Option Out} {o : OId} {L2 : List (Nat × AV)} {St : List AV} {S : SS} : ev c 12 0 [some (aR o)] L2 St S = ev c 12 1 [some (aR o)] L2 (aR o :: St) S := ev_go i12_0 rfl
theorem i12_1 : insAt 12 1 = some (.getfield 10, 3, (11, 0, 0, 0), 3) := rfl
theorem s12_1 {c : Nat → List AV → SS → Option Out} {l0 : Option AV} {j t : Nat} {L2 : List (Nat × AV)} {St : List AV} {S : SS} : ev c 12 1 [l0] L2 (aR (11, j, t) :: St) S = ev c 12 4 [l0] L2 (S.2.2.1 (11, j, t) 0 :: St) S := ev_go i12_1 rfl
theorem i12_4 : insAt 12 4 = some (.getfield 75, 3, (4, 2, 1, 0), 77) := rfl
theorem s12_4 {c : Nat → List AV → SS → Option Out} {l0 : Option AV} {j t : Nat} {L2 : List (Nat × AV)} {St : List AV} {S : SS} : ev c 12 4 [l0] L2 (aR (4, j, t) :: St) S = ev c 12 7 [l0] L2 (aI (S.1 (4, j, t) 2) :: St) S := ev_go i12_4 rfl
theorem i12_7 : insAt 12 7 = some (.ireturn, 1, (0, 0, 0, 0), 0) := rfl
theorem s12_7 {c : Nat → List AV → SS → Option Out} {l0 : Option AV} {x : Int32} {L2 : List (Nat × AV)} {S : SS} : ev c 12 7 [l0] L2 [aI x] S = some (.inl (some (aI x)), S) := ev_end i12_7 rfl
theorem m12 {d : Nat} {o : OId} {S : SS} : evm (d + 1) 12 [aR o] S = ev (evm d) 12 0 [some (aR o)] [] [] S := evm_s (n := 1) rfl (Nat.le_of_ble_eq_true rfl) rfl rfl
/-! FrequencyOffice.today()I -/
theorem i13_0 : insAt 13 0 = some (.aload_n 0, 1, (0, 0, 0, 0), 0) := rfl
theorem s13_0 {c : Nat → List AV → SS → Option Out} {o : OId} {L2 : List (Nat × AV)} {St : List AV} {S : SS} : ev c 13 0 [some (aR o)] L2 St S = ev c 13 1 [some (aR o)] L2 (aR o :: St) S := ev_go i13_0 rfl
theorem i13_1 : insAt 13 1 = some (.getfield 10, 3, (11, 0, 0, 0), 3) := rfl
theorem s13_1 {c : Nat → List AV → SS → Option Out} {l0 : Option AV} {j t : Nat} {L2 : List (Nat × AV)} {St : List AV} {S : SS} : ev c 13 1 [l0] L2 (aR (11, j, t) :: St) S = ev c 13 4 [l0] L2 (S.2.2.1 (11, j, t) 0 :: St) S := ev_go i13_1 rfl
theorem i13_4 : insAt 13 4 = some (.getfield 98, 3, (4, 3, 1, 0), 78) := rfl
theorem s13_4 {c : Nat → List AV → SS → Option Out} {l0 : Option AV} {j t : Nat} {L2 : List (Nat × AV)} {St : List AV} {S : SS} : ev c 13 4 [l0] L2 (aR (4, j, t) :: St) S = ev c 13 7 [l0] L2 (aI (S.1 (4, j, t) 3) :: St) S := ev_go i13_4 rfl
theorem i13_7 : insAt 13 7 = some (.ireturn, 1, (0, 0, 0, 0), 0) := rfl
theorem s13_7 {c : Nat → List AV → SS → Option Out} {l0 : Option AV} {x : Int32} {L2 : List (Nat × AV)} {S : SS} : ev c 13 7 [l0] L2 [aI x] S = some (.inl (some (aI x)), S) := ev_end i13_7 rfl
theorem m13 {d : Nat} {o : OId} {S : SS} : evm (d + 1) 13 [aR o] S = ev (evm d) 13 0 [some (aR o)] [] [] S := evm_s (n := 1) rfl (Nat.le_of_ble_eq_true rfl) rfl rfl
/-! FrequencyOffice.stationCount()I -/
theorem i14_0 : insAt 14 0 = some (.aload_n 0, 1, (0, 0, 0, 0), 0) := rfl
theorem s14_0 {c : Nat → List AV → SS → Option Out} {o : OId} {L2 : List (Nat × AV)} {St : List AV} {S : SS} : ev c 14 0 [some (aR o)] L2 St S = ev c 14 1 [some (aR o)] L2 (aR o :: St) S := ev_go i14_0 rfl
theorem i14_1 : insAt 14 1 = some (.getfield 10, 3, (11, 0, 0, 0), 3) := rfl
theorem s14_1 {c : Nat → List AV → SS → Option Out} {l0 : Option AV} {j t : Nat} {L2 : List (Nat × AV)} {St : List AV} {S : SS} : ev c 14 1 [l0] L2 (aR (11, j, t) :: St) S = ev c 14 4 [l0] L2 (S.2.2.1 (11, j, t) 0 :: St) S := ev_go i14_1 rfl
theorem i14_4 : insAt 14 4 = some (.getfield 60, 3, (4, 7, 1, 0), 79) := rfl
theorem s14_4 {c : Nat → List AV → SS → Option Out} {l0 : Option AV} {j t : Nat} {L2 : List (Nat × AV)} {St : List AV} {S : SS} : ev c 14 4 [l0] L2 (aR (4, j, t) :: St) S = ev c 14 7 [l0] L2 (aI (S.1 (4, j, t) 7) :: St) S := ev_go i14_4 rfl
theorem i14_7 : insAt 14 7 = some (.ireturn, 1, (0, 0, 0, 0), 0) := rfl
theorem s14_7 {c : Nat → List AV → SS → Option Out} {l0 : Option AV} {x : Int32} {L2 : List (Nat × AV)} {S : SS} : ev c 14 7 [l0] L2 [aI x] S = some (.inl (some (aI x)), S) := ev_end i14_7 rfl
theorem m14 {d : Nat} {o : OId} {S : SS} : evm (d + 1) 14 [aR o] S = ev (evm d) 14 0 [some (aR o)] [] [] S := evm_s (n := 1) rfl (Nat.le_of_ble_eq_true rfl) rfl rfl
/-! FrequencyOffice.licensedCount()I -/
theorem i15_0 : insAt 15 0 = some (.aload_n 0, 1, (0, 0, 0, 0), 0) := rfl
theorem s15_0 {c : Nat → List AV → SS → Option Out} {o : OId} {L2 : List (Nat × AV)} {St : List AV} {S : SS} : ev c 15 0 [some (aR o)] L2 St S = ev c 15 1 [some (aR o)] L2 (aR o :: St) S := ev_go i15_0 rfl
theorem i15_1 : insAt 15 1 = some (.getfield 10, 3, (11, 0, 0, 0), 3) := rfl
theorem s15_1 {c : Nat → List AV → SS → Option Out} {l0 : Option AV} {j t : Nat} {L2 : List (Nat × AV)} {St : List AV} {S : SS} : ev c 15 1 [l0] L2 (aR (11, j, t) :: St) S = ev c 15 4 [l0] L2 (S.2.2.1 (11, j, t) 0 :: St) S := ev_go i15_1 rfl
theorem i15_4 : insAt 15 4 = some (.invokevirtual 164, 3, (16, 0, 3, 4), 80) := rfl
theorem s15_4 {c : Nat → List AV → SS → Option Out} {l0 : Option AV} {j t : Nat} {L2 : List (Nat × AV)} {S : SS} : ev c 15 4 [l0] L2 [aR (4, j, t)] S = ck (c 16 [aR (4, j, t)] S) (fun v S' => ev c 15 7 [l0] L2 (v.toList ++ []) S') := ev_call i15_4 rfl
theorem i15_7 : insAt 15 7 = some (.ireturn, 1, (0, 0, 0, 0), 0) := rfl
theorem s15_7 {c : Nat → List AV → SS → Option Out} {l0 : Option AV} {x : Int32} {L2 : List (Nat × AV)} {S : SS} : ev c 15 7 [l0] L2 [aI x] S = some (.inl (some (aI x)), S) := ev_end i15_7 rfl
theorem m15 {d : Nat} {o : OId} {S : SS} : evm (d + 1) 15 [aR o] S = ev (evm d) 15 0 [some (aR o)] [] [] S := evm_s (n := 1) rfl (Nat.le_of_ble_eq_true rfl) rfl rfl
/-! FrequencyOffice.exists(I)Z -/
theorem i18_0 : insAt 18 0 = some (.aload_n 0, 1, (0, 0, 0, 0), 0) := rfl
theorem s18_0 {c : Nat → List AV → SS → Option Out} {l1 : Option AV} {o : OId} {L2 : List (Nat × AV)} {St : List AV} {S : SS} : ev c 18 0 [some (aR o), l1] L2 St S = ev c 18 1 [some (aR o), l1] L2 (aR o :: St) S := ev_go i18_0 rfl
theorem i18_1 : insAt 18 1 = some (.getfield 10, 3, (11, 0, 0, 0), 3) := rfl
theorem s18_1 {c : Nat → List AV → SS → Option Out} {l0 l1 : Option AV} {j t : Nat} {L2 : List (Nat × AV)} {St : List AV} {S : SS} : ev c 18 1 [l0, l1] L2 (aR (11, j, t) :: St) S = ev c 18 4 [l0, l1] L2 (S.2.2.1 (11, j, t) 0 :: St) S := ev_go i18_1 rfl
theorem i18_4 : insAt 18 4 = some (.iload_n 1, 1, (0, 0, 0, 0), 0) := rfl
theorem s18_4 {c : Nat → List AV → SS → Option Out} {l0 : Option AV} {x : Int32} {L2 : List (Nat × AV)} {St : List AV} {S : SS} : ev c 18 4 [l0, some (aI x)] L2 St S = ev c 18 5 [l0, some (aI x)] L2 (aI x :: St) S := ev_go i18_4 rfl
theorem i18_5 : insAt 18 5 = some (.invokevirtual 168, 3, (19, 1, 3, 4), 83) := rfl
theorem s18_5 {c : Nat → List AV → SS → Option Out} {l0 l1 : Option AV} {a0 : Int32} {j t : Nat} {L2 : List (Nat × AV)} {S : SS} : ev c 18 5 [l0, l1] L2 [aI a0, aR (4, j, t)] S = ck (c 19 [aR (4, j, t), aI a0] S) (fun v S' => ev c 18 8 [l0, l1] L2 (v.toList ++ []) S') := ev_call i18_5 rfl
theorem i18_8 : insAt 18 8 = some (.iconst (-1), 1, (0, 0, 0, 0), 0) := rfl
theorem s18_8 {c : Nat → List AV → SS → Option Out} {l0 l1 : Option AV} {L2 : List (Nat × AV)} {St : List AV} {S : SS} : ev c 18 8 [l0, l1] L2 St S = ev c 18 9 [l0, l1] L2 (aI (-1) :: St) S := ev_go i18_8 rfl
theorem i18_9 : insAt 18 9 = some (.if_icmp .eq 7, 3, (0, 0, 0, 0), 0) := rfl
theorem s18_9 {c : Nat → List AV → SS → Option Out} {l0 l1 : Option AV} {x y : Int32} {L2 : List (Nat × AV)} {St : List AV} {S : SS} : ev c 18 9 [l0, l1] L2 (aI y :: aI x :: St) S = if x = y then ev c 18 16 [l0, l1] L2 St S else ev c 18 12 [l0, l1] L2 St S := ev_br i18_9 rfl
theorem i18_12 : insAt 18 12 = some (.iconst 1, 1, (0, 0, 0, 0), 0) := rfl
theorem s18_12 {c : Nat → List AV → SS → Option Out} {l0 l1 : Option AV} {L2 : List (Nat × AV)} {St : List AV} {S : SS} : ev c 18 12 [l0, l1] L2 St S = ev c 18 13 [l0, l1] L2 (aI 1 :: St) S := ev_go i18_12 rfl
theorem i18_13 : insAt 18 13 = some (.goto 4, 3, (0, 0, 0, 0), 0) := rfl
theorem s18_13 {c : Nat → List AV → SS → Option Out} {l0 l1 : Option AV} {L2 : List (Nat × AV)} {St : List AV} {S : SS} : ev c 18 13 [l0, l1] L2 St S = ev c 18 17 [l0, l1] L2 St S := ev_go i18_13 rfl
theorem i18_16 : insAt 18 16 = some (.iconst 0, 1, (0, 0, 0, 0), 0) := rfl
theorem s18_16 {c : Nat → List AV → SS → Option Out} {l0 l1 : Option AV} {L2 : List (Nat × AV)} {St : List AV} {S : SS} : ev c 18 16 [l0, l1] L2 St S = ev c 18 17 [l0, l1] L2 (aI 0 :: St) S := ev_go i18_16 rfl
theorem i18_17 : insAt 18 17 = some (.ireturn, 1, (0, 0, 0, 0), 0) := rfl
theorem s18_17 {c : Nat → List AV → SS → Option Out} {l0 l1 : Option AV} {x : Int32} {L2 : List (Nat × AV)} {S : SS} : ev c 18 17 [l0, l1] L2 [aI x] S = if x = 0 ∨ x = 1 then some (.inl (some (aI x)), S) else none := ev_rt i18_17 rfl
theorem m18 {d : Nat} {o : OId} {a0 : Int32} {S : SS} : evm (d + 1) 18 [aR o, aI a0] S = ev (evm d) 18 0 [some (aR o), some (aI a0)] [] [] S := evm_s (n := 2) rfl (Nat.le_of_ble_eq_true rfl) rfl rfl
/-! FrequencyOffice.expiredTotal()I -/
theorem i20_0 : insAt 20 0 = some (.aload_n 0, 1, (0, 0, 0, 0), 0) := rfl
theorem s20_0 {c : Nat → List AV → SS → Option Out} {o : OId} {L2 : List (Nat × AV)} {St : List AV} {S : SS} : ev c 20 0 [some (aR o)] L2 St S = ev c 20 1 [some (aR o)] L2 (aR o :: St) S := ev_go i20_0 rfl
theorem i20_1 : insAt 20 1 = some (.getfield 10, 3, (11, 0, 0, 0), 3) := rfl
theorem s20_1 {c : Nat → List AV → SS → Option Out} {l0 : Option AV} {j t : Nat} {L2 : List (Nat × AV)} {St : List AV} {S : SS} : ev c 20 1 [l0] L2 (aR (11, j, t) :: St) S = ev c 20 4 [l0] L2 (S.2.2.1 (11, j, t) 0 :: St) S := ev_go i20_1 rfl
theorem i20_4 : insAt 20 4 = some (.getfield 158, 3, (4, 5, 1, 0), 85) := rfl
theorem s20_4 {c : Nat → List AV → SS → Option Out} {l0 : Option AV} {j t : Nat} {L2 : List (Nat × AV)} {St : List AV} {S : SS} : ev c 20 4 [l0] L2 (aR (4, j, t) :: St) S = ev c 20 7 [l0] L2 (aI (S.1 (4, j, t) 5) :: St) S := ev_go i20_4 rfl
theorem i20_7 : insAt 20 7 = some (.ireturn, 1, (0, 0, 0, 0), 0) := rfl
theorem s20_7 {c : Nat → List AV → SS → Option Out} {l0 : Option AV} {x : Int32} {L2 : List (Nat × AV)} {S : SS} : ev c 20 7 [l0] L2 [aI x] S = some (.inl (some (aI x)), S) := ev_end i20_7 rfl
theorem m20 {d : Nat} {o : OId} {S : SS} : evm (d + 1) 20 [aR o] S = ev (evm d) 20 0 [some (aR o)] [] [] S := evm_s (n := 1) rfl (Nat.le_of_ble_eq_true rfl) rfl rfl
/-! FrequencyOffice.endedTrials()I -/
theorem i21_0 : insAt 21 0 = some (.aload_n 0, 1, (0, 0, 0, 0), 0) := rfl
theorem s21_0 {c : Nat → List AV → SS → Option Out} {o : OId} {L2 : List (Nat × AV)} {St : List AV} {S : SS} : ev c 21 0 [some (aR o)] L2 St S = ev c 21 1 [some (aR o)] L2 (aR o :: St) S := ev_go i21_0 rfl
theorem i21_1 : insAt 21 1 = some (.getfield 10, 3, (11, 0, 0, 0), 3) := rfl
theorem s21_1 {c : Nat → List AV → SS → Option Out} {l0 : Option AV} {j t : Nat} {L2 : List (Nat × AV)} {St : List AV} {S : SS} : ev c 21 1 [l0] L2 (aR (11, j, t) :: St) S = ev c 21 4 [l0] L2 (S.2.2.1 (11, j, t) 0 :: St) S := ev_go i21_1 rfl
theorem i21_4 : insAt 21 4 = some (.getfield 186, 3, (4, 6, 1, 0), 86) := rfl
theorem s21_4 {c : Nat → List AV → SS → Option Out} {l0 : Option AV} {j t : Nat} {L2 : List (Nat × AV)} {St : List AV} {S : SS} : ev c 21 4 [l0] L2 (aR (4, j, t) :: St) S = ev c 21 7 [l0] L2 (aI (S.1 (4, j, t) 6) :: St) S := ev_go i21_4 rfl
theorem i21_7 : insAt 21 7 = some (.ireturn, 1, (0, 0, 0, 0), 0) := rfl
theorem s21_7 {c : Nat → List AV → SS → Option Out} {l0 : Option AV} {x : Int32} {L2 : List (Nat × AV)} {S : SS} : ev c 21 7 [l0] L2 [aI x] S = some (.inl (some (aI x)), S) := ev_end i21_7 rfl
theorem m21 {d : Nat} {o : OId} {S : SS} : evm (d + 1) 21 [aR o] S = ev (evm d) 21 0 [some (aR o)] [] [] S := evm_s (n := 1) rfl (Nat.le_of_ble_eq_true rfl) rfl rfl
/-! FrequencyOffice.isConsistent()Z -/
theorem i22_0 : insAt 22 0 = some (.iconst 0, 1, (0, 0, 0, 0), 0) := rfl
theorem s22_0 {c : Nat → List AV → SS → Option Out} {l0 l1 : Option AV} {L2 : List (Nat × AV)} {St : List AV} {S : SS} : ev c 22 0 [l0, l1] L2 St S = ev c 22 1 [l0, l1] L2 (aI 0 :: St) S := ev_go i22_0 rfl
theorem i22_1 : insAt 22 1 = some (.istore_n 1, 1, (0, 0, 0, 0), 0) := rfl
theorem s22_1 {c : Nat → List AV → SS → Option Out} {l0 l1 : Option AV} {x : Int32} {L2 : List (Nat × AV)} {St : List AV} {S : SS} : ev c 22 1 [l0, l1] L2 (aI x :: St) S = ev c 22 2 [l0, some (aI x)] (kil L2 1) St S := ev_go i22_1 rfl
theorem i22_2 : insAt 22 2 = some (.iload_n 1, 1, (0, 0, 0, 0), 0) := rfl
theorem s22_2 {c : Nat → List AV → SS → Option Out} {l0 : Option AV} {x : Int32} {L2 : List (Nat × AV)} {St : List AV} {S : SS} : ev c 22 2 [l0, some (aI x)] L2 St S = ev c 22 3 [l0, some (aI x)] L2 (aI x :: St) S := ev_go i22_2 rfl
theorem i22_3 : insAt 22 3 = some (.aload_n 0, 1, (0, 0, 0, 0), 0) := rfl
theorem s22_3 {c : Nat → List AV → SS → Option Out} {l1 : Option AV} {o : OId} {L2 : List (Nat × AV)} {St : List AV} {S : SS} : ev c 22 3 [some (aR o), l1] L2 St S = ev c 22 4 [some (aR o), l1] L2 (aR o :: St) S := ev_go i22_3 rfl
theorem i22_4 : insAt 22 4 = some (.getfield 10, 3, (11, 0, 0, 0), 3) := rfl
theorem s22_4 {c : Nat → List AV → SS → Option Out} {l0 l1 : Option AV} {j t : Nat} {L2 : List (Nat × AV)} {St : List AV} {S : SS} : ev c 22 4 [l0, l1] L2 (aR (11, j, t) :: St) S = ev c 22 7 [l0, l1] L2 (S.2.2.1 (11, j, t) 0 :: St) S := ev_go i22_4 rfl
theorem i22_7 : insAt 22 7 = some (.getfield 60, 3, (4, 7, 1, 0), 79) := rfl
theorem s22_7 {c : Nat → List AV → SS → Option Out} {l0 l1 : Option AV} {j t : Nat} {L2 : List (Nat × AV)} {St : List AV} {S : SS} : ev c 22 7 [l0, l1] L2 (aR (4, j, t) :: St) S = ev c 22 10 [l0, l1] L2 (aI (S.1 (4, j, t) 7) :: St) S := ev_go i22_7 rfl
theorem i22_10 : insAt 22 10 = some (.if_icmp .ge 43, 3, (0, 0, 0, 0), 0) := rfl
theorem s22_10 {c : Nat → List AV → SS → Option Out} {l0 l1 : Option AV} {x y : Int32} {L2 : List (Nat × AV)} {St : List AV} {S : SS} : ev c 22 10 [l0, l1] L2 (aI y :: aI x :: St) S = if y ≤ x then ev c 22 53 [l0, l1] L2 St S else ev c 22 13 [l0, l1] L2 St S := ev_br i22_10 rfl
theorem i22_13 : insAt 22 13 = some (.aload_n 0, 1, (0, 0, 0, 0), 0) := rfl
theorem s22_13 {c : Nat → List AV → SS → Option Out} {l1 : Option AV} {o : OId} {L2 : List (Nat × AV)} {St : List AV} {S : SS} : ev c 22 13 [some (aR o), l1] L2 St S = ev c 22 14 [some (aR o), l1] L2 (aR o :: St) S := ev_go i22_13 rfl
theorem i22_14 : insAt 22 14 = some (.getfield 10, 3, (11, 0, 0, 0), 3) := rfl
theorem s22_14 {c : Nat → List AV → SS → Option Out} {l0 l1 : Option AV} {j t : Nat} {L2 : List (Nat × AV)} {St : List AV} {S : SS} : ev c 22 14 [l0, l1] L2 (aR (11, j, t) :: St) S = ev c 22 17 [l0, l1] L2 (S.2.2.1 (11, j, t) 0 :: St) S := ev_go i22_14 rfl
theorem i22_17 : insAt 22 17 = some (.iload_n 1, 1, (0, 0, 0, 0), 0) := rfl
theorem s22_17 {c : Nat → List AV → SS → Option Out} {l0 : Option AV} {x : Int32} {L2 : List (Nat × AV)} {St : List AV} {S : SS} : ev c 22 17 [l0, some (aI x)] L2 St S = ev c 22 18 [l0, some (aI x)] L2 (aI x :: St) S := ev_go i22_17 rfl
theorem i22_18 : insAt 22 18 = some (.invokevirtual 125, 3, (17, 1, 3, 4), 87) := rfl
theorem s22_18 {c : Nat → List AV → SS → Option Out} {l0 l1 : Option AV} {a0 : Int32} {j t : Nat} {L2 : List (Nat × AV)} {S : SS} : ev c 22 18 [l0, l1] L2 [aI a0, aR (4, j, t)] S = ck (c 17 [aR (4, j, t), aI a0] S) (fun v S' => ev c 22 21 [l0, l1] L2 (v.toList ++ []) S') := ev_call i22_18 rfl
theorem i22_21 : insAt 22 21 = some (.getfield 143, 3, (10, 4, 1, 0), 88) := rfl
theorem s22_21 {c : Nat → List AV → SS → Option Out} {l0 l1 : Option AV} {j t : Nat} {L2 : List (Nat × AV)} {St : List AV} {S : SS} : ev c 22 21 [l0, l1] L2 (aR (10, j, t) :: St) S = ev c 22 24 [l0, l1] L2 (aI (S.1 (10, j, t) 4) :: St) S := ev_go i22_21 rfl
theorem i22_24 : insAt 22 24 = some (.aload_n 0, 1, (0, 0, 0, 0), 0) := rfl
theorem s22_24 {c : Nat → List AV → SS → Option Out} {l1 : Option AV} {o : OId} {L2 : List (Nat × AV)} {St : List AV} {S : SS} : ev c 22 24 [some (aR o), l1] L2 St S = ev c 22 25 [some (aR o), l1] L2 (aR o :: St) S := ev_go i22_24 rfl
theorem i22_25 : insAt 22 25 = some (.getfield 10, 3, (11, 0, 0, 0), 3) := rfl
theorem s22_25 {c : Nat → List AV → SS → Option Out} {l0 l1 : Option AV} {j t : Nat} {L2 : List (Nat × AV)} {St : List AV} {S : SS} : ev c 22 25 [l0, l1] L2 (aR (11, j, t) :: St) S = ev c 22 28 [l0, l1] L2 (S.2.2.1 (11, j, t) 0 :: St) S := ev_go i22_25 rfl
theorem i22_28 : insAt 22 28 = some (.getfield 98, 3, (4, 3, 1, 0), 78) := rfl
theorem s22_28 {c : Nat → List AV → SS → Option Out} {l0 l1 : Option AV} {j t : Nat} {L2 : List (Nat × AV)} {St : List AV} {S : SS} : ev c 22 28 [l0, l1] L2 (aR (4, j, t) :: St) S = ev c 22 31 [l0, l1] L2 (aI (S.1 (4, j, t) 3) :: St) S := ev_go i22_28 rfl
theorem i22_31 : insAt 22 31 = some (.if_icmp .le 14, 3, (0, 0, 0, 0), 0) := rfl
theorem s22_31 {c : Nat → List AV → SS → Option Out} {l0 l1 : Option AV} {x y : Int32} {L2 : List (Nat × AV)} {St : List AV} {S : SS} : ev c 22 31 [l0, l1] L2 (aI y :: aI x :: St) S = if x ≤ y then ev c 22 45 [l0, l1] L2 St S else ev c 22 34 [l0, l1] L2 St S := ev_br i22_31 rfl
theorem i22_34 : insAt 22 34 = some (.aload_n 0, 1, (0, 0, 0, 0), 0) := rfl
theorem s22_34 {c : Nat → List AV → SS → Option Out} {l1 : Option AV} {o : OId} {L2 : List (Nat × AV)} {St : List AV} {S : SS} : ev c 22 34 [some (aR o), l1] L2 St S = ev c 22 35 [some (aR o), l1] L2 (aR o :: St) S := ev_go i22_34 rfl
theorem i22_35 : insAt 22 35 = some (.getfield 10, 3, (11, 0, 0, 0), 3) := rfl
theorem s22_35 {c : Nat → List AV → SS → Option Out} {l0 l1 : Option AV} {j t : Nat} {L2 : List (Nat × AV)} {St : List AV} {S : SS} : ev c 22 35 [l0, l1] L2 (aR (11, j, t) :: St) S = ev c 22 38 [l0, l1] L2 (S.2.2.1 (11, j, t) 0 :: St) S := ev_go i22_35 rfl
theorem i22_38 : insAt 22 38 = some (.iload_n 1, 1, (0, 0, 0, 0), 0) := rfl
theorem s22_38 {c : Nat → List AV → SS → Option Out} {l0 : Option AV} {x : Int32} {L2 : List (Nat × AV)} {St : List AV} {S : SS} : ev c 22 38 [l0, some (aI x)] L2 St S = ev c 22 39 [l0, some (aI x)] L2 (aI x :: St) S := ev_go i22_38 rfl
theorem i22_39 : insAt 22 39 = some (.invokevirtual 226, 3, (23, 1, 3, 4), 89) := rfl
theorem s22_39 {c : Nat → List AV → SS → Option Out} {l0 l1 : Option AV} {a0 : Int32} {j t : Nat} {L2 : List (Nat × AV)} {S : SS} : ev c 22 39 [l0, l1] L2 [aI a0, aR (4, j, t)] S = ck (c 23 [aR (4, j, t), aI a0] S) (fun v S' => ev c 22 42 [l0, l1] L2 (v.toList ++ []) S') := ev_call i22_39 rfl
theorem i22_42 : insAt 22 42 = some (.ifCond .eq 5, 3, (0, 0, 0, 0), 0) := rfl
theorem s22_42 {c : Nat → List AV → SS → Option Out} {l0 l1 : Option AV} {x : Int32} {L2 : List (Nat × AV)} {St : List AV} {S : SS} : ev c 22 42 [l0, l1] L2 (aI x :: St) S = if x = 0 then ev c 22 47 [l0, l1] L2 St S else ev c 22 45 [l0, l1] L2 St S := ev_br i22_42 rfl
theorem i22_45 : insAt 22 45 = some (.iconst 0, 1, (0, 0, 0, 0), 0) := rfl
theorem s22_45 {c : Nat → List AV → SS → Option Out} {l0 l1 : Option AV} {L2 : List (Nat × AV)} {St : List AV} {S : SS} : ev c 22 45 [l0, l1] L2 St S = ev c 22 46 [l0, l1] L2 (aI 0 :: St) S := ev_go i22_45 rfl
theorem i22_46 : insAt 22 46 = some (.ireturn, 1, (0, 0, 0, 0), 0) := rfl
theorem s22_46 {c : Nat → List AV → SS → Option Out} {l0 l1 : Option AV} {x : Int32} {L2 : List (Nat × AV)} {S : SS} : ev c 22 46 [l0, l1] L2 [aI x] S = if x = 0 ∨ x = 1 then some (.inl (some (aI x)), S) else none := ev_rt i22_46 rfl
theorem i22_47 : insAt 22 47 = some (.iinc 1 1, 3, (0, 0, 0, 0), 0) := rfl
theorem s22_47 {c : Nat → List AV → SS → Option Out} {l0 : Option AV} {x : Int32} {L2 : List (Nat × AV)} {St : List AV} {S : SS} : ev c 22 47 [l0, some (aI x)] L2 St S = ev c 22 50 [l0, some (aI (x + 1))] (kil L2 1) St S := ev_go i22_47 rfl
theorem i22_50 : insAt 22 50 = some (.goto (-48), 3, (0, 0, 0, 0), 0) := rfl
theorem s22_50 {c : Nat → List AV → SS → Option Out} {l0 l1 : Option AV} {L2 : List (Nat × AV)} {St : List AV} {S : SS} : ev c 22 50 [l0, l1] L2 St S = ev c 22 2 [l0, l1] L2 St S := ev_go i22_50 rfl
theorem i22_53 : insAt 22 53 = some (.iconst 1, 1, (0, 0, 0, 0), 0) := rfl
theorem s22_53 {c : Nat → List AV → SS → Option Out} {l0 l1 : Option AV} {L2 : List (Nat × AV)} {St : List AV} {S : SS} : ev c 22 53 [l0, l1] L2 St S = ev c 22 54 [l0, l1] L2 (aI 1 :: St) S := ev_go i22_53 rfl
theorem i22_54 : insAt 22 54 = some (.ireturn, 1, (0, 0, 0, 0), 0) := rfl
theorem s22_54 {c : Nat → List AV → SS → Option Out} {l0 l1 : Option AV} {x : Int32} {L2 : List (Nat × AV)} {S : SS} : ev c 22 54 [l0, l1] L2 [aI x] S = if x = 0 ∨ x = 1 then some (.inl (some (aI x)), S) else none := ev_rt i22_54 rfl
theorem m22 {d : Nat} {o : OId} {S : SS} : evm (d + 1) 22 [aR o] S = ev (evm d) 22 0 [some (aR o), none] [] [] S := evm_s (n := 2) rfl (Nat.le_of_ble_eq_true rfl) rfl rfl
/-! FrequencyOffice.pair(II)I -/
theorem i30_0 : insAt 30 0 = some (.iload_n 0, 1, (0, 0, 0, 0), 0) := rfl
theorem s30_0 {c : Nat → List AV → SS → Option Out} {l1 l2 : Option AV} {x : Int32} {L2 : List (Nat × AV)} {St : List AV} {S : SS} : ev c 30 0 [some (aI x), l1, l2] L2 St S = ev c 30 1 [some (aI x), l1, l2] L2 (aI x :: St) S := ev_go i30_0 rfl
theorem i30_1 : insAt 30 1 = some (.ifCond .lt 23, 3, (0, 0, 0, 0), 0) := rfl
theorem s30_1 {c : Nat → List AV → SS → Option Out} {l0 l1 l2 : Option AV} {x : Int32} {L2 : List (Nat × AV)} {St : List AV} {S : SS} : ev c 30 1 [l0, l1, l2] L2 (aI x :: St) S = if x < 0 then ev c 30 24 [l0, l1, l2] L2 St S else ev c 30 4 [l0, l1, l2] L2 St S := ev_br i30_1 rfl
theorem i30_4 : insAt 30 4 = some (.iload_n 0, 1, (0, 0, 0, 0), 0) := rfl
theorem s30_4 {c : Nat → List AV → SS → Option Out} {l1 l2 : Option AV} {x : Int32} {L2 : List (Nat × AV)} {St : List AV} {S : SS} : ev c 30 4 [some (aI x), l1, l2] L2 St S = ev c 30 5 [some (aI x), l1, l2] L2 (aI x :: St) S := ev_go i30_4 rfl
theorem i30_5 : insAt 30 5 = some (.bipush 7, 2, (0, 0, 0, 0), 0) := rfl
theorem s30_5 {c : Nat → List AV → SS → Option Out} {l0 l1 l2 : Option AV} {L2 : List (Nat × AV)} {St : List AV} {S : SS} : ev c 30 5 [l0, l1, l2] L2 St S = ev c 30 7 [l0, l1, l2] L2 (aI 7 :: St) S := ev_go i30_5 rfl
theorem i30_7 : insAt 30 7 = some (.if_icmp .ge 17, 3, (0, 0, 0, 0), 0) := rfl
theorem s30_7 {c : Nat → List AV → SS → Option Out} {l0 l1 l2 : Option AV} {x y : Int32} {L2 : List (Nat × AV)} {St : List AV} {S : SS} : ev c 30 7 [l0, l1, l2] L2 (aI y :: aI x :: St) S = if y ≤ x then ev c 30 24 [l0, l1, l2] L2 St S else ev c 30 10 [l0, l1, l2] L2 St S := ev_br i30_7 rfl
theorem i30_10 : insAt 30 10 = some (.iload_n 1, 1, (0, 0, 0, 0), 0) := rfl
theorem s30_10 {c : Nat → List AV → SS → Option Out} {l0 l2 : Option AV} {x : Int32} {L2 : List (Nat × AV)} {St : List AV} {S : SS} : ev c 30 10 [l0, some (aI x), l2] L2 St S = ev c 30 11 [l0, some (aI x), l2] L2 (aI x :: St) S := ev_go i30_10 rfl
theorem i30_11 : insAt 30 11 = some (.ifCond .lt 13, 3, (0, 0, 0, 0), 0) := rfl
theorem s30_11 {c : Nat → List AV → SS → Option Out} {l0 l1 l2 : Option AV} {x : Int32} {L2 : List (Nat × AV)} {St : List AV} {S : SS} : ev c 30 11 [l0, l1, l2] L2 (aI x :: St) S = if x < 0 then ev c 30 24 [l0, l1, l2] L2 St S else ev c 30 14 [l0, l1, l2] L2 St S := ev_br i30_11 rfl
theorem i30_14 : insAt 30 14 = some (.iload_n 1, 1, (0, 0, 0, 0), 0) := rfl
theorem s30_14 {c : Nat → List AV → SS → Option Out} {l0 l2 : Option AV} {x : Int32} {L2 : List (Nat × AV)} {St : List AV} {S : SS} : ev c 30 14 [l0, some (aI x), l2] L2 St S = ev c 30 15 [l0, some (aI x), l2] L2 (aI x :: St) S := ev_go i30_14 rfl
theorem i30_15 : insAt 30 15 = some (.bipush 7, 2, (0, 0, 0, 0), 0) := rfl
theorem s30_15 {c : Nat → List AV → SS → Option Out} {l0 l1 l2 : Option AV} {L2 : List (Nat × AV)} {St : List AV} {S : SS} : ev c 30 15 [l0, l1, l2] L2 St S = ev c 30 17 [l0, l1, l2] L2 (aI 7 :: St) S := ev_go i30_15 rfl
theorem i30_17 : insAt 30 17 = some (.if_icmp .ge 7, 3, (0, 0, 0, 0), 0) := rfl
theorem s30_17 {c : Nat → List AV → SS → Option Out} {l0 l1 l2 : Option AV} {x y : Int32} {L2 : List (Nat × AV)} {St : List AV} {S : SS} : ev c 30 17 [l0, l1, l2] L2 (aI y :: aI x :: St) S = if y ≤ x then ev c 30 24 [l0, l1, l2] L2 St S else ev c 30 20 [l0, l1, l2] L2 St S := ev_br i30_17 rfl
theorem i30_20 : insAt 30 20 = some (.iconst 1, 1, (0, 0, 0, 0), 0) := rfl
theorem s30_20 {c : Nat → List AV → SS → Option Out} {l0 l1 l2 : Option AV} {L2 : List (Nat × AV)} {St : List AV} {S : SS} : ev c 30 20 [l0, l1, l2] L2 St S = ev c 30 21 [l0, l1, l2] L2 (aI 1 :: St) S := ev_go i30_20 rfl
theorem i30_21 : insAt 30 21 = some (.goto 4, 3, (0, 0, 0, 0), 0) := rfl
theorem s30_21 {c : Nat → List AV → SS → Option Out} {l0 l1 l2 : Option AV} {L2 : List (Nat × AV)} {St : List AV} {S : SS} : ev c 30 21 [l0, l1, l2] L2 St S = ev c 30 25 [l0, l1, l2] L2 St S := ev_go i30_21 rfl
theorem i30_24 : insAt 30 24 = some (.iconst 0, 1, (0, 0, 0, 0), 0) := rfl
theorem s30_24 {c : Nat → List AV → SS → Option Out} {l0 l1 l2 : Option AV} {L2 : List (Nat × AV)} {St : List AV} {S : SS} : ev c 30 24 [l0, l1, l2] L2 St S = ev c 30 25 [l0, l1, l2] L2 (aI 0 :: St) S := ev_go i30_24 rfl
theorem i30_25 : insAt 30 25 = some (.istore_n 2, 1, (0, 0, 0, 0), 0) := rfl
theorem s30_25 {c : Nat → List AV → SS → Option Out} {l0 l1 l2 : Option AV} {x : Int32} {L2 : List (Nat × AV)} {St : List AV} {S : SS} : ev c 30 25 [l0, l1, l2] L2 (aI x :: St) S = ev c 30 26 [l0, l1, some (aI x)] (kil L2 2) St S := ev_go i30_25 rfl
theorem i30_26 : insAt 30 26 = some (.iload_n 2, 1, (0, 0, 0, 0), 0) := rfl
theorem s30_26 {c : Nat → List AV → SS → Option Out} {l0 l1 : Option AV} {x : Int32} {L2 : List (Nat × AV)} {St : List AV} {S : SS} : ev c 30 26 [l0, l1, some (aI x)] L2 St S = ev c 30 27 [l0, l1, some (aI x)] L2 (aI x :: St) S := ev_go i30_26 rfl
theorem i30_27 : insAt 30 27 = some (.ifCond .eq 12, 3, (0, 0, 0, 0), 0) := rfl
theorem s30_27 {c : Nat → List AV → SS → Option Out} {l0 l1 l2 : Option AV} {x : Int32} {L2 : List (Nat × AV)} {St : List AV} {S : SS} : ev c 30 27 [l0, l1, l2] L2 (aI x :: St) S = if x = 0 then ev c 30 39 [l0, l1, l2] L2 St S else ev c 30 30 [l0, l1, l2] L2 St S := ev_br i30_27 rfl
theorem i30_30 : insAt 30 30 = some (.iload_n 0, 1, (0, 0, 0, 0), 0) := rfl
theorem s30_30 {c : Nat → List AV → SS → Option Out} {l1 l2 : Option AV} {x : Int32} {L2 : List (Nat × AV)} {St : List AV} {S : SS} : ev c 30 30 [some (aI x), l1, l2] L2 St S = ev c 30 31 [some (aI x), l1, l2] L2 (aI x :: St) S := ev_go i30_30 rfl
theorem i30_31 : insAt 30 31 = some (.bipush 7, 2, (0, 0, 0, 0), 0) := rfl
theorem s30_31 {c : Nat → List AV → SS → Option Out} {l0 l1 l2 : Option AV} {L2 : List (Nat × AV)} {St : List AV} {S : SS} : ev c 30 31 [l0, l1, l2] L2 St S = ev c 30 33 [l0, l1, l2] L2 (aI 7 :: St) S := ev_go i30_31 rfl
theorem i30_33 : insAt 30 33 = some (.imul, 1, (0, 0, 0, 0), 0) := rfl
theorem s30_33 {c : Nat → List AV → SS → Option Out} {l0 l1 l2 : Option AV} {x y : Int32} {L2 : List (Nat × AV)} {St : List AV} {S : SS} : ev c 30 33 [l0, l1, l2] L2 (aI y :: aI x :: St) S = ev c 30 34 [l0, l1, l2] L2 (aI (x * y) :: St) S := ev_go i30_33 rfl
theorem i30_34 : insAt 30 34 = some (.iload_n 1, 1, (0, 0, 0, 0), 0) := rfl
theorem s30_34 {c : Nat → List AV → SS → Option Out} {l0 l2 : Option AV} {x : Int32} {L2 : List (Nat × AV)} {St : List AV} {S : SS} : ev c 30 34 [l0, some (aI x), l2] L2 St S = ev c 30 35 [l0, some (aI x), l2] L2 (aI x :: St) S := ev_go i30_34 rfl
theorem i30_35 : insAt 30 35 = some (.iadd, 1, (0, 0, 0, 0), 0) := rfl
theorem s30_35 {c : Nat → List AV → SS → Option Out} {l0 l1 l2 : Option AV} {x y : Int32} {L2 : List (Nat × AV)} {St : List AV} {S : SS} : ev c 30 35 [l0, l1, l2] L2 (aI y :: aI x :: St) S = ev c 30 36 [l0, l1, l2] L2 (aI (x + y) :: St) S := ev_go i30_35 rfl
theorem i30_36 : insAt 30 36 = some (.goto 4, 3, (0, 0, 0, 0), 0) := rfl
theorem s30_36 {c : Nat → List AV → SS → Option Out} {l0 l1 l2 : Option AV} {L2 : List (Nat × AV)} {St : List AV} {S : SS} : ev c 30 36 [l0, l1, l2] L2 St S = ev c 30 40 [l0, l1, l2] L2 St S := ev_go i30_36 rfl
theorem i30_39 : insAt 30 39 = some (.iconst (-1), 1, (0, 0, 0, 0), 0) := rfl
theorem s30_39 {c : Nat → List AV → SS → Option Out} {l0 l1 l2 : Option AV} {L2 : List (Nat × AV)} {St : List AV} {S : SS} : ev c 30 39 [l0, l1, l2] L2 St S = ev c 30 40 [l0, l1, l2] L2 (aI (-1) :: St) S := ev_go i30_39 rfl
theorem i30_40 : insAt 30 40 = some (.ireturn, 1, (0, 0, 0, 0), 0) := rfl
theorem s30_40 {c : Nat → List AV → SS → Option Out} {l0 l1 l2 : Option AV} {x : Int32} {L2 : List (Nat × AV)} {S : SS} : ev c 30 40 [l0, l1, l2] L2 [aI x] S = some (.inl (some (aI x)), S) := ev_end i30_40 rfl
theorem m30 {d : Nat} {a0 : Int32} {a1 : Int32} {S : SS} : evm (d + 1) 30 [aI a0, aI a1] S = ev (evm d) 30 0 [some (aI a0), some (aI a1), none] [] [] S := evm_s (n := 3) rfl (Nat.le_of_ble_eq_true rfl) rfl rfl
/-! FrequencyOffice.get([II)I -/
theorem i31_0 : insAt 31 0 = some (.iload_n 1, 1, (0, 0, 0, 0), 0) := rfl
theorem s31_0 {c : Nat → List AV → SS → Option Out} {l0 : Option AV} {x : Int32} {L2 : List (Nat × AV)} {St : List AV} {S : SS} : ev c 31 0 [l0, some (aI x)] L2 St S = ev c 31 1 [l0, some (aI x)] L2 (aI x :: St) S := ev_go i31_0 rfl
theorem i31_1 : insAt 31 1 = some (.ifCond .lt 15, 3, (0, 0, 0, 0), 0) := rfl
theorem s31_1 {c : Nat → List AV → SS → Option Out} {l0 l1 : Option AV} {x : Int32} {L2 : List (Nat × AV)} {St : List AV} {S : SS} : ev c 31 1 [l0, l1] L2 (aI x :: St) S = if x < 0 then ev c 31 16 [l0, l1] L2 St S else ev c 31 4 [l0, l1] L2 St S := ev_br i31_1 rfl
theorem i31_4 : insAt 31 4 = some (.iload_n 1, 1, (0, 0, 0, 0), 0) := rfl
theorem s31_4 {c : Nat → List AV → SS → Option Out} {l0 : Option AV} {x : Int32} {L2 : List (Nat × AV)} {St : List AV} {S : SS} : ev c 31 4 [l0, some (aI x)] L2 St S = ev c 31 5 [l0, some (aI x)] L2 (aI x :: St) S := ev_go i31_4 rfl
theorem i31_5 : insAt 31 5 = some (.aload_n 0, 1, (0, 0, 0, 0), 0) := rfl
theorem s31_5 {c : Nat → List AV → SS → Option Out} {l1 : Option AV} {o : OId} {L2 : List (Nat × AV)} {St : List AV} {S : SS} : ev c 31 5 [some (aR o), l1] L2 St S = ev c 31 6 [some (aR o), l1] L2 (aR o :: St) S := ev_go i31_5 rfl
theorem i31_6 : insAt 31 6 = some (.arraylength, 1, (0, 0, 0, 0), 0) := rfl
theorem s31_6 {c : Nat → List AV → SS → Option Out} {l0 l1 : Option AV} {o : OId} {L2 : List (Nat × AV)} {St : List AV} {S : SS} : ev c 31 6 [l0, l1] L2 (aR o :: St) S = kN o (fun x => ev c 31 7 [l0, l1] L2 (aI x :: St) S) := ev_alen i31_6
theorem i31_7 : insAt 31 7 = some (.if_icmp .ge 9, 3, (0, 0, 0, 0), 0) := rfl
theorem s31_7 {c : Nat → List AV → SS → Option Out} {l0 l1 : Option AV} {x y : Int32} {L2 : List (Nat × AV)} {St : List AV} {S : SS} : ev c 31 7 [l0, l1] L2 (aI y :: aI x :: St) S = if y ≤ x then ev c 31 16 [l0, l1] L2 St S else ev c 31 10 [l0, l1] L2 St S := ev_br i31_7 rfl
theorem i31_10 : insAt 31 10 = some (.aload_n 0, 1, (0, 0, 0, 0), 0) := rfl
theorem s31_10 {c : Nat → List AV → SS → Option Out} {l1 : Option AV} {o : OId} {L2 : List (Nat × AV)} {St : List AV} {S : SS} : ev c 31 10 [some (aR o), l1] L2 St S = ev c 31 11 [some (aR o), l1] L2 (aR o :: St) S := ev_go i31_10 rfl
theorem i31_11 : insAt 31 11 = some (.iload_n 1, 1, (0, 0, 0, 0), 0) := rfl
theorem s31_11 {c : Nat → List AV → SS → Option Out} {l0 : Option AV} {x : Int32} {L2 : List (Nat × AV)} {St : List AV} {S : SS} : ev c 31 11 [l0, some (aI x)] L2 St S = ev c 31 12 [l0, some (aI x)] L2 (aI x :: St) S := ev_go i31_11 rfl
theorem i31_12 : insAt 31 12 = some (.iaload, 1, (0, 0, 0, 0), 0) := rfl
theorem s31_12 {c : Nat → List AV → SS → Option Out} {l0 l1 : Option AV} {i : Int32} {o : OId} {L2 : List (Nat × AV)} {St : List AV} {S : SS} : ev c 31 12 [l0, l1] L2 (aI i :: aR o :: St) S = kI o i (ev c 31 13 [l0, l1] L2 (aI (agI S o i.toNatClampNeg) :: St) S) := ev_iaload i31_12
theorem i31_13 : insAt 31 13 = some (.goto 4, 3, (0, 0, 0, 0), 0) := rfl
theorem s31_13 {c : Nat → List AV → SS → Option Out} {l0 l1 : Option AV} {L2 : List (Nat × AV)} {St : List AV} {S : SS} : ev c 31 13 [l0, l1] L2 St S = ev c 31 17 [l0, l1] L2 St S := ev_go i31_13 rfl
theorem i31_16 : insAt 31 16 = some (.iconst 0, 1, (0, 0, 0, 0), 0) := rfl
theorem s31_16 {c : Nat → List AV → SS → Option Out} {l0 l1 : Option AV} {L2 : List (Nat × AV)} {St : List AV} {S : SS} : ev c 31 16 [l0, l1] L2 St S = ev c 31 17 [l0, l1] L2 (aI 0 :: St) S := ev_go i31_16 rfl
theorem i31_17 : insAt 31 17 = some (.ireturn, 1, (0, 0, 0, 0), 0) := rfl
theorem s31_17 {c : Nat → List AV → SS → Option Out} {l0 l1 : Option AV} {x : Int32} {L2 : List (Nat × AV)} {S : SS} : ev c 31 17 [l0, l1] L2 [aI x] S = some (.inl (some (aI x)), S) := ev_end i31_17 rfl
theorem m31 {d : Nat} {a0 : OId} {a1 : Int32} {S : SS} : evm (d + 1) 31 [aR a0, aI a1] S = ev (evm d) 31 0 [some (aR a0), some (aI a1)] [] [] S := evm_s (n := 2) rfl (Nat.le_of_ble_eq_true rfl) rfl rfl
/-! FrequencyOffice.leastSpan()I -/
theorem i32_0 : insAt 32 0 = some (.aload_n 0, 1, (0, 0, 0, 0), 0) := rfl
theorem s32_0 {c : Nat → List AV → SS → Option Out} {o : OId} {L2 : List (Nat × AV)} {St : List AV} {S : SS} : ev c 32 0 [some (aR o)] L2 St S = ev c 32 1 [some (aR o)] L2 (aR o :: St) S := ev_go i32_0 rfl
theorem i32_1 : insAt 32 1 = some (.getfield 45, 3, (11, 5, 0, 0), 16) := rfl
theorem s32_1 {c : Nat → List AV → SS → Option Out} {l0 : Option AV} {j t : Nat} {L2 : List (Nat × AV)} {St : List AV} {S : SS} : ev c 32 1 [l0] L2 (aR (11, j, t) :: St) S = ev c 32 4 [l0] L2 (S.2.2.1 (11, j, t) 5 :: St) S := ev_go i32_1 rfl
theorem i32_4 : insAt 32 4 = some (.getfield 281, 3, (9, 0, 1, 0), 104) := rfl
theorem s32_4 {c : Nat → List AV → SS → Option Out} {l0 : Option AV} {j t : Nat} {L2 : List (Nat × AV)} {St : List AV} {S : SS} : ev c 32 4 [l0] L2 (aR (9, j, t) :: St) S = ev c 32 7 [l0] L2 (S.2.2.1 (9, j, t) 0 :: St) S := ev_go i32_4 rfl
theorem i32_7 : insAt 32 7 = some (.aload_n 0, 1, (0, 0, 0, 0), 0) := rfl
theorem s32_7 {c : Nat → List AV → SS → Option Out} {o : OId} {L2 : List (Nat × AV)} {St : List AV} {S : SS} : ev c 32 7 [some (aR o)] L2 St S = ev c 32 8 [some (aR o)] L2 (aR o :: St) S := ev_go i32_7 rfl
theorem i32_8 : insAt 32 8 = some (.getfield 10, 3, (11, 0, 0, 0), 3) := rfl
theorem s32_8 {c : Nat → List AV → SS → Option Out} {l0 : Option AV} {j t : Nat} {L2 : List (Nat × AV)} {St : List AV} {S : SS} : ev c 32 8 [l0] L2 (aR (11, j, t) :: St) S = ev c 32 11 [l0] L2 (S.2.2.1 (11, j, t) 0 :: St) S := ev_go i32_8 rfl
theorem i32_11 : insAt 32 11 = some (.iconst (-1), 1, (0, 0, 0, 0), 0) := rfl
theorem s32_11 {c : Nat → List AV → SS → Option Out} {l0 : Option AV} {L2 : List (Nat × AV)} {St : List AV} {S : SS} : ev c 32 11 [l0] L2 St S = ev c 32 12 [l0] L2 (aI (-1) :: St) S := ev_go i32_11 rfl
theorem i32_12 : insAt 32 12 = some (.invokevirtual 285, 3, (33, 2, 3, 6), 105) := rfl
theorem s32_12 {c : Nat → List AV → SS → Option Out} {l0 : Option AV} {a0 : OId} {a1 : Int32} {j t : Nat} {L2 : List (Nat × AV)} {S : SS} : ev c 32 12 [l0] L2 [aI a1, aR a0, aR (6, j, t)] S = ck (c 33 [aR (6, j, t), aR a0, aI a1] S) (fun v S' => ev c 32 15 [l0] L2 (v.toList ++ []) S') := ev_call i32_12 rfl
theorem i32_15 : insAt 32 15 = some (.aload_n 0, 1, (0, 0, 0, 0), 0) := rfl
theorem s32_15 {c : Nat → List AV → SS → Option Out} {o : OId} {L2 : List (Nat × AV)} {St : List AV} {S : SS} : ev c 32 15 [some (aR o)] L2 St S = ev c 32 16 [some (aR o)] L2 (aR o :: St) S := ev_go i32_15 rfl
theorem i32_16 : insAt 32 16 = some (.getfield 45, 3, (11, 5, 0, 0), 16) := rfl
theorem s32_16 {c : Nat → List AV → SS → Option Out} {l0 : Option AV} {j t : Nat} {L2 : List (Nat × AV)} {St : List AV} {S : SS} : ev c 32 16 [l0] L2 (aR (11, j, t) :: St) S = ev c 32 19 [l0] L2 (S.2.2.1 (11, j, t) 5 :: St) S := ev_go i32_16 rfl
theorem i32_19 : insAt 32 19 = some (.invokevirtual 289, 3, (36, 0, 3, 9), 106) := rfl
theorem s32_19 {c : Nat → List AV → SS → Option Out} {l0 : Option AV} {j t : Nat} {L2 : List (Nat × AV)} {S : SS} : ev c 32 19 [l0] L2 [aR (9, j, t)] S = ck (c 36 [aR (9, j, t)] S) (fun v S' => ev c 32 22 [l0] L2 (v.toList ++ []) S') := ev_call i32_19 rfl
theorem i32_22 : insAt 32 22 = some (.ireturn, 1, (0, 0, 0, 0), 0) := rfl
theorem s32_22 {c : Nat → List AV → SS → Option Out} {l0 : Option AV} {x : Int32} {L2 : List (Nat × AV)} {S : SS} : ev c 32 22 [l0] L2 [aI x] S = some (.inl (some (aI x)), S) := ev_end i32_22 rfl
theorem m32 {d : Nat} {o : OId} {S : SS} : evm (d + 1) 32 [aR o] S = ev (evm d) 32 0 [some (aR o)] [] [] S := evm_s (n := 1) rfl (Nat.le_of_ble_eq_true rfl) rfl rfl
/-! FrequencyOffice.put([III)V -/
theorem i35_0 : insAt 35 0 = some (.iload_n 1, 1, (0, 0, 0, 0), 0) := rfl
theorem s35_0 {c : Nat → List AV → SS → Option Out} {l0 l2 : Option AV} {x : Int32} {L2 : List (Nat × AV)} {St : List AV} {S : SS} : ev c 35 0 [l0, some (aI x), l2] L2 St S = ev c 35 1 [l0, some (aI x), l2] L2 (aI x :: St) S := ev_go i35_0 rfl
theorem i35_1 : insAt 35 1 = some (.ifCond .lt 13, 3, (0, 0, 0, 0), 0) := rfl
theorem s35_1 {c : Nat → List AV → SS → Option Out} {l0 l1 l2 : Option AV} {x : Int32} {L2 : List (Nat × AV)} {St : List AV} {S : SS} : ev c 35 1 [l0, l1, l2] L2 (aI x :: St) S = if x < 0 then ev c 35 14 [l0, l1, l2] L2 St S else ev c 35 4 [l0, l1, l2] L2 St S := ev_br i35_1 rfl
theorem i35_4 : insAt 35 4 = some (.iload_n 1, 1, (0, 0, 0, 0), 0) := rfl
theorem s35_4 {c : Nat → List AV → SS → Option Out} {l0 l2 : Option AV} {x : Int32} {L2 : List (Nat × AV)} {St : List AV} {S : SS} : ev c 35 4 [l0, some (aI x), l2] L2 St S = ev c 35 5 [l0, some (aI x), l2] L2 (aI x :: St) S := ev_go i35_4 rfl
theorem i35_5 : insAt 35 5 = some (.aload_n 0, 1, (0, 0, 0, 0), 0) := rfl
theorem s35_5 {c : Nat → List AV → SS → Option Out} {l1 l2 : Option AV} {o : OId} {L2 : List (Nat × AV)} {St : List AV} {S : SS} : ev c 35 5 [some (aR o), l1, l2] L2 St S = ev c 35 6 [some (aR o), l1, l2] L2 (aR o :: St) S := ev_go i35_5 rfl
theorem i35_6 : insAt 35 6 = some (.arraylength, 1, (0, 0, 0, 0), 0) := rfl
theorem s35_6 {c : Nat → List AV → SS → Option Out} {l0 l1 l2 : Option AV} {o : OId} {L2 : List (Nat × AV)} {St : List AV} {S : SS} : ev c 35 6 [l0, l1, l2] L2 (aR o :: St) S = kN o (fun x => ev c 35 7 [l0, l1, l2] L2 (aI x :: St) S) := ev_alen i35_6
theorem i35_7 : insAt 35 7 = some (.if_icmp .ge 7, 3, (0, 0, 0, 0), 0) := rfl
theorem s35_7 {c : Nat → List AV → SS → Option Out} {l0 l1 l2 : Option AV} {x y : Int32} {L2 : List (Nat × AV)} {St : List AV} {S : SS} : ev c 35 7 [l0, l1, l2] L2 (aI y :: aI x :: St) S = if y ≤ x then ev c 35 14 [l0, l1, l2] L2 St S else ev c 35 10 [l0, l1, l2] L2 St S := ev_br i35_7 rfl
theorem i35_10 : insAt 35 10 = some (.aload_n 0, 1, (0, 0, 0, 0), 0) := rfl
theorem s35_10 {c : Nat → List AV → SS → Option Out} {l1 l2 : Option AV} {o : OId} {L2 : List (Nat × AV)} {St : List AV} {S : SS} : ev c 35 10 [some (aR o), l1, l2] L2 St S = ev c 35 11 [some (aR o), l1, l2] L2 (aR o :: St) S := ev_go i35_10 rfl
theorem i35_11 : insAt 35 11 = some (.iload_n 1, 1, (0, 0, 0, 0), 0) := rfl
theorem s35_11 {c : Nat → List AV → SS → Option Out} {l0 l2 : Option AV} {x : Int32} {L2 : List (Nat × AV)} {St : List AV} {S : SS} : ev c 35 11 [l0, some (aI x), l2] L2 St S = ev c 35 12 [l0, some (aI x), l2] L2 (aI x :: St) S := ev_go i35_11 rfl
theorem i35_12 : insAt 35 12 = some (.iload_n 2, 1, (0, 0, 0, 0), 0) := rfl
theorem s35_12 {c : Nat → List AV → SS → Option Out} {l0 l1 : Option AV} {x : Int32} {L2 : List (Nat × AV)} {St : List AV} {S : SS} : ev c 35 12 [l0, l1, some (aI x)] L2 St S = ev c 35 13 [l0, l1, some (aI x)] L2 (aI x :: St) S := ev_go i35_12 rfl
theorem i35_13 : insAt 35 13 = some (.iastore, 1, (0, 0, 0, 0), 0) := rfl
theorem s35_13 {c : Nat → List AV → SS → Option Out} {l0 l1 l2 : Option AV} {x i : Int32} {o : OId} {L2 : List (Nat × AV)} {St : List AV} {S : SS} : ev c 35 13 [l0, l1, l2] L2 (aI x :: aI i :: aR o :: St) S = kIw o i (ev c 35 14 [l0, l1, l2] L2 St (setI S.1 o i.toNatClampNeg x, S.2)) := ev_iastore i35_13
theorem i35_14 : insAt 35 14 = some (.return_, 1, (0, 0, 0, 0), 0) := rfl
theorem s35_14 {c : Nat → List AV → SS → Option Out} {l0 l1 l2 : Option AV} {L2 : List (Nat × AV)} {S : SS} : ev c 35 14 [l0, l1, l2] L2 [] S = some (.inl none, S) := ev_end i35_14 rfl
theorem m35 {d : Nat} {a0 : OId} {a1 : Int32} {a2 : Int32} {S : SS} : evm (d + 1) 35 [aR a0, aI a1, aI a2] S = ev (evm d) 35 0 [some (aR a0), some (aI a1), some (aI a2)] [] [] S := evm_s (n := 3) rfl (Nat.le_of_ble_eq_true rfl) rfl rfl
/-! FrequencyOffice.contains(JI)Z -/
theorem i42_0 : insAt 42 0 = some (.lload_n 0, 1, (0, 0, 0, 0), 0) := rfl
theorem s42_0 {c : Nat → List AV → SS → Option Out} {l0 l1 l2 : Option AV} {x : Int64} {L2 : List (Nat × AV)} {St : List AV} {S : SS} (h : ldL L2 0 = some x) : ev c 42 0 [l0, l1, l2] L2 St S = ev c 42 1 [l0, l1, l2] L2 (aL x :: St) S := ev_go i42_0 (by simp only [stepI]; exact (congrArg (fun q => match q with | some x => nx (0 + 1) [l0, l1, l2] L2 (aL x :: St) S | none => none) h))
theorem i42_1 : insAt 42 1 = some (.iload_n 2, 1, (0, 0, 0, 0), 0) := rfl
theorem s42_1 {c : Nat → List AV → SS → Option Out} {l0 l1 : Option AV} {x : Int32} {L2 : List (Nat × AV)} {St : List AV} {S : SS} : ev c 42 1 [l0, l1, some (aI x)] L2 St S = ev c 42 2 [l0, l1, some (aI x)] L2 (aI x :: St) S := ev_go i42_1 rfl
theorem i42_2 : insAt 42 2 = some (.lshr, 1, (0, 0, 0, 0), 0) := rfl
theorem s42_2 {c : Nat → List AV → SS → Option Out} {l0 l1 l2 : Option AV} {x : Int64} {y : Int32} {L2 : List (Nat × AV)} {St : List AV} {S : SS} : ev c 42 2 [l0, l1, l2] L2 (aI y :: aL x :: St) S = ev c 42 3 [l0, l1, l2] L2 (aL (x >>> (y.toInt64 &&& 63)) :: St) S := ev_go i42_2 rfl
theorem i42_3 : insAt 42 3 = some (.lconst 1, 1, (0, 0, 0, 0), 0) := rfl
theorem s42_3 {c : Nat → List AV → SS → Option Out} {l0 l1 l2 : Option AV} {L2 : List (Nat × AV)} {St : List AV} {S : SS} : ev c 42 3 [l0, l1, l2] L2 St S = ev c 42 4 [l0, l1, l2] L2 (aL 1 :: St) S := ev_go i42_3 rfl
theorem i42_4 : insAt 42 4 = some (.land, 1, (0, 0, 0, 0), 0) := rfl
theorem s42_4 {c : Nat → List AV → SS → Option Out} {l0 l1 l2 : Option AV} {x y : Int64} {L2 : List (Nat × AV)} {St : List AV} {S : SS} : ev c 42 4 [l0, l1, l2] L2 (aL y :: aL x :: St) S = ev c 42 5 [l0, l1, l2] L2 (aL (x &&& y) :: St) S := ev_go i42_4 rfl
theorem i42_5 : insAt 42 5 = some (.lconst 1, 1, (0, 0, 0, 0), 0) := rfl
theorem s42_5 {c : Nat → List AV → SS → Option Out} {l0 l1 l2 : Option AV} {L2 : List (Nat × AV)} {St : List AV} {S : SS} : ev c 42 5 [l0, l1, l2] L2 St S = ev c 42 6 [l0, l1, l2] L2 (aL 1 :: St) S := ev_go i42_5 rfl
theorem i42_6 : insAt 42 6 = some (.lcmp, 1, (0, 0, 0, 0), 0) := rfl
theorem s42_6 {c : Nat → List AV → SS → Option Out} {l0 l1 l2 : Option AV} {x y : Int64} {L2 : List (Nat × AV)} {St : List AV} {S : SS} : ev c 42 6 [l0, l1, l2] L2 (aL y :: aL x :: St) S = ev c 42 7 [l0, l1, l2] L2 (aI (if x < y then -1 else if x = y then 0 else 1) :: St) S := ev_go i42_6 rfl
theorem i42_7 : insAt 42 7 = some (.ifCond .ne 7, 3, (0, 0, 0, 0), 0) := rfl
theorem s42_7 {c : Nat → List AV → SS → Option Out} {l0 l1 l2 : Option AV} {x : Int32} {L2 : List (Nat × AV)} {St : List AV} {S : SS} : ev c 42 7 [l0, l1, l2] L2 (aI x :: St) S = if x = 0 then ev c 42 10 [l0, l1, l2] L2 St S else ev c 42 14 [l0, l1, l2] L2 St S := (ev_br i42_7 rfl).trans (ite_not _ _ _)
theorem i42_10 : insAt 42 10 = some (.iconst 1, 1, (0, 0, 0, 0), 0) := rfl
theorem s42_10 {c : Nat → List AV → SS → Option Out} {l0 l1 l2 : Option AV} {L2 : List (Nat × AV)} {St : List AV} {S : SS} : ev c 42 10 [l0, l1, l2] L2 St S = ev c 42 11 [l0, l1, l2] L2 (aI 1 :: St) S := ev_go i42_10 rfl
theorem i42_11 : insAt 42 11 = some (.goto 4, 3, (0, 0, 0, 0), 0) := rfl
theorem s42_11 {c : Nat → List AV → SS → Option Out} {l0 l1 l2 : Option AV} {L2 : List (Nat × AV)} {St : List AV} {S : SS} : ev c 42 11 [l0, l1, l2] L2 St S = ev c 42 15 [l0, l1, l2] L2 St S := ev_go i42_11 rfl
theorem i42_14 : insAt 42 14 = some (.iconst 0, 1, (0, 0, 0, 0), 0) := rfl
theorem s42_14 {c : Nat → List AV → SS → Option Out} {l0 l1 l2 : Option AV} {L2 : List (Nat × AV)} {St : List AV} {S : SS} : ev c 42 14 [l0, l1, l2] L2 St S = ev c 42 15 [l0, l1, l2] L2 (aI 0 :: St) S := ev_go i42_14 rfl
theorem i42_15 : insAt 42 15 = some (.ireturn, 1, (0, 0, 0, 0), 0) := rfl
theorem s42_15 {c : Nat → List AV → SS → Option Out} {l0 l1 l2 : Option AV} {x : Int32} {L2 : List (Nat × AV)} {S : SS} : ev c 42 15 [l0, l1, l2] L2 [aI x] S = if x = 0 ∨ x = 1 then some (.inl (some (aI x)), S) else none := ev_rt i42_15 rfl
theorem m42 {d : Nat} {a0 : Int64} {a1 : Int32} {S : SS} : evm (d + 1) 42 [aL a0, aI a1] S = ev (evm d) 42 0 [none, none, some (aI a1)] [(0, aL a0)] [] S := evm_s (n := 3) rfl (Nat.le_of_ble_eq_true rfl) rfl rfl
/-! FrequencyOffice.shutBy(II)J -/
theorem i44_0 : insAt 44 0 = some (.iload_n 1, 1, (0, 0, 0, 0), 0) := rfl
theorem s44_0 {c : Nat → List AV → SS → Option Out} {l0 l2 l3 : Option AV} {x : Int32} {L2 : List (Nat × AV)} {St : List AV} {S : SS} : ev c 44 0 [l0, some (aI x), l2, l3] L2 St S = ev c 44 1 [l0, some (aI x), l2, l3] L2 (aI x :: St) S := ev_go i44_0 rfl
theorem i44_1 : insAt 44 1 = some (.ifCond .gt 5, 3, (0, 0, 0, 0), 0) := rfl
theorem s44_1 {c : Nat → List AV → SS → Option Out} {l0 l1 l2 l3 : Option AV} {x : Int32} {L2 : List (Nat × AV)} {St : List AV} {S : SS} : ev c 44 1 [l0, l1, l2, l3] L2 (aI x :: St) S = if 0 < x then ev c 44 6 [l0, l1, l2, l3] L2 St S else ev c 44 4 [l0, l1, l2, l3] L2 St S := ev_br i44_1 rfl
theorem i44_4 : insAt 44 4 = some (.lconst 0, 1, (0, 0, 0, 0), 0) := rfl
theorem s44_4 {c : Nat → List AV → SS → Option Out} {l0 l1 l2 l3 : Option AV} {L2 : List (Nat × AV)} {St : List AV} {S : SS} : ev c 44 4 [l0, l1, l2, l3] L2 St S = ev c 44 5 [l0, l1, l2, l3] L2 (aL 0 :: St) S := ev_go i44_4 rfl
theorem i44_5 : insAt 44 5 = some (.lreturn, 1, (0, 0, 0, 0), 0) := rfl
theorem s44_5 {c : Nat → List AV → SS → Option Out} {l0 l1 l2 l3 : Option AV} {x : Int64} {L2 : List (Nat × AV)} {S : SS} : ev c 44 5 [l0, l1, l2, l3] L2 [aL x] S = some (.inl (some (aL x)), S) := ev_end i44_5 rfl
theorem i44_6 : insAt 44 6 = some (.iconst 0, 1, (0, 0, 0, 0), 0) := rfl
theorem s44_6 {c : Nat → List AV → SS → Option Out} {l0 l1 l2 l3 : Option AV} {L2 : List (Nat × AV)} {St : List AV} {S : SS} : ev c 44 6 [l0, l1, l2, l3] L2 St S = ev c 44 7 [l0, l1, l2, l3] L2 (aI 0 :: St) S := ev_go i44_6 rfl
theorem i44_7 : insAt 44 7 = some (.iload_n 0, 1, (0, 0, 0, 0), 0) := rfl
theorem s44_7 {c : Nat → List AV → SS → Option Out} {l1 l2 l3 : Option AV} {x : Int32} {L2 : List (Nat × AV)} {St : List AV} {S : SS} : ev c 44 7 [some (aI x), l1, l2, l3] L2 St S = ev c 44 8 [some (aI x), l1, l2, l3] L2 (aI x :: St) S := ev_go i44_7 rfl
theorem i44_8 : insAt 44 8 = some (.iload_n 1, 1, (0, 0, 0, 0), 0) := rfl
theorem s44_8 {c : Nat → List AV → SS → Option Out} {l0 l2 l3 : Option AV} {x : Int32} {L2 : List (Nat × AV)} {St : List AV} {S : SS} : ev c 44 8 [l0, some (aI x), l2, l3] L2 St S = ev c 44 9 [l0, some (aI x), l2, l3] L2 (aI x :: St) S := ev_go i44_8 rfl
theorem i44_9 : insAt 44 9 = some (.isub, 1, (0, 0, 0, 0), 0) := rfl
theorem s44_9 {c : Nat → List AV → SS → Option Out} {l0 l1 l2 l3 : Option AV} {x y : Int32} {L2 : List (Nat × AV)} {St : List AV} {S : SS} : ev c 44 9 [l0, l1, l2, l3] L2 (aI y :: aI x :: St) S = ev c 44 10 [l0, l1, l2, l3] L2 (aI (x - y) :: St) S := ev_go i44_9 rfl
theorem i44_10 : insAt 44 10 = some (.iconst 1, 1, (0, 0, 0, 0), 0) := rfl
theorem s44_10 {c : Nat → List AV → SS → Option Out} {l0 l1 l2 l3 : Option AV} {L2 : List (Nat × AV)} {St : List AV} {S : SS} : ev c 44 10 [l0, l1, l2, l3] L2 St S = ev c 44 11 [l0, l1, l2, l3] L2 (aI 1 :: St) S := ev_go i44_10 rfl
theorem i44_11 : insAt 44 11 = some (.iadd, 1, (0, 0, 0, 0), 0) := rfl
theorem s44_11 {c : Nat → List AV → SS → Option Out} {l0 l1 l2 l3 : Option AV} {x y : Int32} {L2 : List (Nat × AV)} {St : List AV} {S : SS} : ev c 44 11 [l0, l1, l2, l3] L2 (aI y :: aI x :: St) S = ev c 44 12 [l0, l1, l2, l3] L2 (aI (x + y) :: St) S := ev_go i44_11 rfl
theorem i44_12 : insAt 44 12 = some (.invokestatic 300, 3, (0, 2, 23, 0), 131) := rfl
theorem s44_12 {c : Nat → List AV → SS → Option Out} {l0 l1 l2 l3 : Option AV} {x y : Int32} {L2 : List (Nat × AV)} {S : SS} : ev c 44 12 [l0, l1, l2, l3] L2 [aI y, aI x] S = ev c 44 15 [l0, l1, l2, l3] L2 [aI (if x < y then y else x)] S := ev_go i44_12 rfl
theorem i44_15 : insAt 44 15 = some (.istore_n 2, 1, (0, 0, 0, 0), 0) := rfl
theorem s44_15 {c : Nat → List AV → SS → Option Out} {l0 l1 l2 l3 : Option AV} {x : Int32} {L2 : List (Nat × AV)} {St : List AV} {S : SS} : ev c 44 15 [l0, l1, l2, l3] L2 (aI x :: St) S = ev c 44 16 [l0, l1, some (aI x), l3] (kil L2 2) St S := ev_go i44_15 rfl
theorem i44_16 : insAt 44 16 = some (.iload_n 0, 1, (0, 0, 0, 0), 0) := rfl
theorem s44_16 {c : Nat → List AV → SS → Option Out} {l1 l2 l3 : Option AV} {x : Int32} {L2 : List (Nat × AV)} {St : List AV} {S : SS} : ev c 44 16 [some (aI x), l1, l2, l3] L2 St S = ev c 44 17 [some (aI x), l1, l2, l3] L2 (aI x :: St) S := ev_go i44_16 rfl
theorem i44_17 : insAt 44 17 = some (.iload_n 1, 1, (0, 0, 0, 0), 0) := rfl
theorem s44_17 {c : Nat → List AV → SS → Option Out} {l0 l2 l3 : Option AV} {x : Int32} {L2 : List (Nat × AV)} {St : List AV} {S : SS} : ev c 44 17 [l0, some (aI x), l2, l3] L2 St S = ev c 44 18 [l0, some (aI x), l2, l3] L2 (aI x :: St) S := ev_go i44_17 rfl
theorem i44_18 : insAt 44 18 = some (.iadd, 1, (0, 0, 0, 0), 0) := rfl
theorem s44_18 {c : Nat → List AV → SS → Option Out} {l0 l1 l2 l3 : Option AV} {x y : Int32} {L2 : List (Nat × AV)} {St : List AV} {S : SS} : ev c 44 18 [l0, l1, l2, l3] L2 (aI y :: aI x :: St) S = ev c 44 19 [l0, l1, l2, l3] L2 (aI (x + y) :: St) S := ev_go i44_18 rfl
theorem i44_19 : insAt 44 19 = some (.iconst 1, 1, (0, 0, 0, 0), 0) := rfl
theorem s44_19 {c : Nat → List AV → SS → Option Out} {l0 l1 l2 l3 : Option AV} {L2 : List (Nat × AV)} {St : List AV} {S : SS} : ev c 44 19 [l0, l1, l2, l3] L2 St S = ev c 44 20 [l0, l1, l2, l3] L2 (aI 1 :: St) S := ev_go i44_19 rfl
theorem i44_20 : insAt 44 20 = some (.isub, 1, (0, 0, 0, 0), 0) := rfl
theorem s44_20 {c : Nat → List AV → SS → Option Out} {l0 l1 l2 l3 : Option AV} {x y : Int32} {L2 : List (Nat × AV)} {St : List AV} {S : SS} : ev c 44 20 [l0, l1, l2, l3] L2 (aI y :: aI x :: St) S = ev c 44 21 [l0, l1, l2, l3] L2 (aI (x - y) :: St) S := ev_go i44_20 rfl
theorem i44_21 : insAt 44 21 = some (.istore_n 3, 1, (0, 0, 0, 0), 0) := rfl
theorem s44_21 {c : Nat → List AV → SS → Option Out} {l0 l1 l2 l3 : Option AV} {x : Int32} {L2 : List (Nat × AV)} {St : List AV} {S : SS} : ev c 44 21 [l0, l1, l2, l3] L2 (aI x :: St) S = ev c 44 22 [l0, l1, l2, some (aI x)] (kil L2 3) St S := ev_go i44_21 rfl
theorem i44_22 : insAt 44 22 = some (.lconst 1, 1, (0, 0, 0, 0), 0) := rfl
theorem s44_22 {c : Nat → List AV → SS → Option Out} {l0 l1 l2 l3 : Option AV} {L2 : List (Nat × AV)} {St : List AV} {S : SS} : ev c 44 22 [l0, l1, l2, l3] L2 St S = ev c 44 23 [l0, l1, l2, l3] L2 (aL 1 :: St) S := ev_go i44_22 rfl
theorem i44_23 : insAt 44 23 = some (.iload_n 3, 1, (0, 0, 0, 0), 0) := rfl
theorem s44_23 {c : Nat → List AV → SS → Option Out} {l0 l1 l2 : Option AV} {x : Int32} {L2 : List (Nat × AV)} {St : List AV} {S : SS} : ev c 44 23 [l0, l1, l2, some (aI x)] L2 St S = ev c 44 24 [l0, l1, l2, some (aI x)] L2 (aI x :: St) S := ev_go i44_23 rfl
theorem i44_24 : insAt 44 24 = some (.iload_n 2, 1, (0, 0, 0, 0), 0) := rfl
theorem s44_24 {c : Nat → List AV → SS → Option Out} {l0 l1 l3 : Option AV} {x : Int32} {L2 : List (Nat × AV)} {St : List AV} {S : SS} : ev c 44 24 [l0, l1, some (aI x), l3] L2 St S = ev c 44 25 [l0, l1, some (aI x), l3] L2 (aI x :: St) S := ev_go i44_24 rfl
theorem i44_25 : insAt 44 25 = some (.isub, 1, (0, 0, 0, 0), 0) := rfl
theorem s44_25 {c : Nat → List AV → SS → Option Out} {l0 l1 l2 l3 : Option AV} {x y : Int32} {L2 : List (Nat × AV)} {St : List AV} {S : SS} : ev c 44 25 [l0, l1, l2, l3] L2 (aI y :: aI x :: St) S = ev c 44 26 [l0, l1, l2, l3] L2 (aI (x - y) :: St) S := ev_go i44_25 rfl
theorem i44_26 : insAt 44 26 = some (.iconst 1, 1, (0, 0, 0, 0), 0) := rfl
theorem s44_26 {c : Nat → List AV → SS → Option Out} {l0 l1 l2 l3 : Option AV} {L2 : List (Nat × AV)} {St : List AV} {S : SS} : ev c 44 26 [l0, l1, l2, l3] L2 St S = ev c 44 27 [l0, l1, l2, l3] L2 (aI 1 :: St) S := ev_go i44_26 rfl
theorem i44_27 : insAt 44 27 = some (.iadd, 1, (0, 0, 0, 0), 0) := rfl
theorem s44_27 {c : Nat → List AV → SS → Option Out} {l0 l1 l2 l3 : Option AV} {x y : Int32} {L2 : List (Nat × AV)} {St : List AV} {S : SS} : ev c 44 27 [l0, l1, l2, l3] L2 (aI y :: aI x :: St) S = ev c 44 28 [l0, l1, l2, l3] L2 (aI (x + y) :: St) S := ev_go i44_27 rfl
theorem i44_28 : insAt 44 28 = some (.lshl, 1, (0, 0, 0, 0), 0) := rfl
theorem s44_28 {c : Nat → List AV → SS → Option Out} {l0 l1 l2 l3 : Option AV} {x : Int64} {y : Int32} {L2 : List (Nat × AV)} {St : List AV} {S : SS} : ev c 44 28 [l0, l1, l2, l3] L2 (aI y :: aL x :: St) S = ev c 44 29 [l0, l1, l2, l3] L2 (aL (x <<< (y.toInt64 &&& 63)) :: St) S := ev_go i44_28 rfl
theorem i44_29 : insAt 44 29 = some (.lconst 1, 1, (0, 0, 0, 0), 0) := rfl
theorem s44_29 {c : Nat → List AV → SS → Option Out} {l0 l1 l2 l3 : Option AV} {L2 : List (Nat × AV)} {St : List AV} {S : SS} : ev c 44 29 [l0, l1, l2, l3] L2 St S = ev c 44 30 [l0, l1, l2, l3] L2 (aL 1 :: St) S := ev_go i44_29 rfl
theorem i44_30 : insAt 44 30 = some (.lsub, 1, (0, 0, 0, 0), 0) := rfl
theorem s44_30 {c : Nat → List AV → SS → Option Out} {l0 l1 l2 l3 : Option AV} {x y : Int64} {L2 : List (Nat × AV)} {St : List AV} {S : SS} : ev c 44 30 [l0, l1, l2, l3] L2 (aL y :: aL x :: St) S = ev c 44 31 [l0, l1, l2, l3] L2 (aL (x - y) :: St) S := ev_go i44_30 rfl
theorem i44_31 : insAt 44 31 = some (.iload_n 2, 1, (0, 0, 0, 0), 0) := rfl
theorem s44_31 {c : Nat → List AV → SS → Option Out} {l0 l1 l3 : Option AV} {x : Int32} {L2 : List (Nat × AV)} {St : List AV} {S : SS} : ev c 44 31 [l0, l1, some (aI x), l3] L2 St S = ev c 44 32 [l0, l1, some (aI x), l3] L2 (aI x :: St) S := ev_go i44_31 rfl
theorem i44_32 : insAt 44 32 = some (.lshl, 1, (0, 0, 0, 0), 0) := rfl
theorem s44_32 {c : Nat → List AV → SS → Option Out} {l0 l1 l2 l3 : Option AV} {x : Int64} {y : Int32} {L2 : List (Nat × AV)} {St : List AV} {S : SS} : ev c 44 32 [l0, l1, l2, l3] L2 (aI y :: aL x :: St) S = ev c 44 33 [l0, l1, l2, l3] L2 (aL (x <<< (y.toInt64 &&& 63)) :: St) S := ev_go i44_32 rfl
theorem i44_33 : insAt 44 33 = some (.lreturn, 1, (0, 0, 0, 0), 0) := rfl
theorem s44_33 {c : Nat → List AV → SS → Option Out} {l0 l1 l2 l3 : Option AV} {x : Int64} {L2 : List (Nat × AV)} {S : SS} : ev c 44 33 [l0, l1, l2, l3] L2 [aL x] S = some (.inl (some (aL x)), S) := ev_end i44_33 rfl
theorem m44 {d : Nat} {a0 : Int32} {a1 : Int32} {S : SS} : evm (d + 1) 44 [aI a0, aI a1] S = ev (evm d) 44 0 [some (aI a0), some (aI a1), none, none] [] [] S := evm_s (n := 4) rfl (Nat.le_of_ble_eq_true rfl) rfl rfl
/-! FrequencyOffice.leastSpanByOrders()I -/
theorem i46_0 : insAt 46 0 = some (.aload_n 0, 1, (0, 0, 0, 0), 0) := rfl
theorem s46_0 {c : Nat → List AV → SS → Option Out} {o : OId} {L2 : List (Nat × AV)} {St : List AV} {S : SS} : ev c 46 0 [some (aR o)] L2 St S = ev c 46 1 [some (aR o)] L2 (aR o :: St) S := ev_go i46_0 rfl
theorem i46_1 : insAt 46 1 = some (.getfield 45, 3, (11, 5, 0, 0), 16) := rfl
theorem s46_1 {c : Nat → List AV → SS → Option Out} {l0 : Option AV} {j t : Nat} {L2 : List (Nat × AV)} {St : List AV} {S : SS} : ev c 46 1 [l0] L2 (aR (11, j, t) :: St) S = ev c 46 4 [l0] L2 (S.2.2.1 (11, j, t) 5 :: St) S := ev_go i46_1 rfl
theorem i46_4 : insAt 46 4 = some (.getfield 281, 3, (9, 0, 1, 0), 104) := rfl
theorem s46_4 {c : Nat → List AV → SS → Option Out} {l0 : Option AV} {j t : Nat} {L2 : List (Nat × AV)} {St : List AV} {S : SS} : ev c 46 4 [l0] L2 (aR (9, j, t) :: St) S = ev c 46 7 [l0] L2 (S.2.2.1 (9, j, t) 0 :: St) S := ev_go i46_4 rfl
theorem i46_7 : insAt 46 7 = some (.aload_n 0, 1, (0, 0, 0, 0), 0) := rfl
theorem s46_7 {c : Nat → List AV → SS → Option Out} {o : OId} {L2 : List (Nat × AV)} {St : List AV} {S : SS} : ev c 46 7 [some (aR o)] L2 St S = ev c 46 8 [some (aR o)] L2 (aR o :: St) S := ev_go i46_7 rfl
theorem i46_8 : insAt 46 8 = some (.getfield 10, 3, (11, 0, 0, 0), 3) := rfl
theorem s46_8 {c : Nat → List AV → SS → Option Out} {l0 : Option AV} {j t : Nat} {L2 : List (Nat × AV)} {St : List AV} {S : SS} : ev c 46 8 [l0] L2 (aR (11, j, t) :: St) S = ev c 46 11 [l0] L2 (S.2.2.1 (11, j, t) 0 :: St) S := ev_go i46_8 rfl
theorem i46_11 : insAt 46 11 = some (.iconst (-1), 1, (0, 0, 0, 0), 0) := rfl
theorem s46_11 {c : Nat → List AV → SS → Option Out} {l0 : Option AV} {L2 : List (Nat × AV)} {St : List AV} {S : SS} : ev c 46 11 [l0] L2 St S = ev c 46 12 [l0] L2 (aI (-1) :: St) S := ev_go i46_11 rfl
theorem i46_12 : insAt 46 12 = some (.invokevirtual 285, 3, (33, 2, 3, 6), 105) := rfl
theorem s46_12 {c : Nat → List AV → SS → Option Out} {l0 : Option AV} {a0 : OId} {a1 : Int32} {j t : Nat} {L2 : List (Nat × AV)} {S : SS} : ev c 46 12 [l0] L2 [aI a1, aR a0, aR (6, j, t)] S = ck (c 33 [aR (6, j, t), aR a0, aI a1] S) (fun v S' => ev c 46 15 [l0] L2 (v.toList ++ []) S') := ev_call i46_12 rfl
theorem i46_15 : insAt 46 15 = some (.aload_n 0, 1, (0, 0, 0, 0), 0) := rfl
theorem s46_15 {c : Nat → List AV → SS → Option Out} {o : OId} {L2 : List (Nat × AV)} {St : List AV} {S : SS} : ev c 46 15 [some (aR o)] L2 St S = ev c 46 16 [some (aR o)] L2 (aR o :: St) S := ev_go i46_15 rfl
theorem i46_16 : insAt 46 16 = some (.getfield 45, 3, (11, 5, 0, 0), 16) := rfl
theorem s46_16 {c : Nat → List AV → SS → Option Out} {l0 : Option AV} {j t : Nat} {L2 : List (Nat × AV)} {St : List AV} {S : SS} : ev c 46 16 [l0] L2 (aR (11, j, t) :: St) S = ev c 46 19 [l0] L2 (S.2.2.1 (11, j, t) 5 :: St) S := ev_go i46_16 rfl
theorem i46_19 : insAt 46 19 = some (.invokevirtual 292, 3, (47, 0, 3, 9), 132) := rfl
theorem s46_19 {c : Nat → List AV → SS → Option Out} {l0 : Option AV} {j t : Nat} {L2 : List (Nat × AV)} {S : SS} : ev c 46 19 [l0] L2 [aR (9, j, t)] S = ck (c 47 [aR (9, j, t)] S) (fun v S' => ev c 46 22 [l0] L2 (v.toList ++ []) S') := ev_call i46_19 rfl
theorem i46_22 : insAt 46 22 = some (.ireturn, 1, (0, 0, 0, 0), 0) := rfl
theorem s46_22 {c : Nat → List AV → SS → Option Out} {l0 : Option AV} {x : Int32} {L2 : List (Nat × AV)} {S : SS} : ev c 46 22 [l0] L2 [aI x] S = some (.inl (some (aI x)), S) := ev_end i46_22 rfl
theorem m46 {d : Nat} {o : OId} {S : SS} : evm (d + 1) 46 [aR o] S = ev (evm d) 46 0 [some (aR o)] [] [] S := evm_s (n := 1) rfl (Nat.le_of_ble_eq_true rfl) rfl rfl
/-! FrequencyOffice.usedSpan()I -/
theorem i51_0 : insAt 51 0 = some (.bipush 8, 2, (0, 0, 0, 0), 0) := rfl
theorem s51_0 {c : Nat → List AV → SS → Option Out} {l0 l1 l2 l3 l4 : Option AV} {L2 : List (Nat × AV)} {St : List AV} {S : SS} : ev c 51 0 [l0, l1, l2, l3, l4] L2 St S = ev c 51 2 [l0, l1, l2, l3, l4] L2 (aI 8 :: St) S := ev_go i51_0 rfl
theorem i51_2 : insAt 51 2 = some (.istore_n 1, 1, (0, 0, 0, 0), 0) := rfl
theorem s51_2 {c : Nat → List AV → SS → Option Out} {l0 l1 l2 l3 l4 : Option AV} {x : Int32} {L2 : List (Nat × AV)} {St : List AV} {S : SS} : ev c 51 2 [l0, l1, l2, l3, l4] L2 (aI x :: St) S = ev c 51 3 [l0, some (aI x), l2, l3, l4] (kil L2 1) St S := ev_go i51_2 rfl
theorem i51_3 : insAt 51 3 = some (.iconst (-1), 1, (0, 0, 0, 0), 0) := rfl
theorem s51_3 {c : Nat → List AV → SS → Option Out} {l0 l1 l2 l3 l4 : Option AV} {L2 : List (Nat × AV)} {St : List AV} {S : SS} : ev c 51 3 [l0, l1, l2, l3, l4] L2 St S = ev c 51 4 [l0, l1, l2, l3, l4] L2 (aI (-1) :: St) S := ev_go i51_3 rfl
theorem i51_4 : insAt 51 4 = some (.istore_n 2, 1, (0, 0, 0, 0), 0) := rfl
theorem s51_4 {c : Nat → List AV → SS → Option Out} {l0 l1 l2 l3 l4 : Option AV} {x : Int32} {L2 : List (Nat × AV)} {St : List AV} {S : SS} : ev c 51 4 [l0, l1, l2, l3, l4] L2 (aI x :: St) S = ev c 51 5 [l0, l1, some (aI x), l3, l4] (kil L2 2) St S := ev_go i51_4 rfl
theorem i51_5 : insAt 51 5 = some (.iconst 0, 1, (0, 0, 0, 0), 0) := rfl
theorem s51_5 {c : Nat → List AV → SS → Option Out} {l0 l1 l2 l3 l4 : Option AV} {L2 : List (Nat × AV)} {St : List AV} {S : SS} : ev c 51 5 [l0, l1, l2, l3, l4] L2 St S = ev c 51 6 [l0, l1, l2, l3, l4] L2 (aI 0 :: St) S := ev_go i51_5 rfl
theorem i51_6 : insAt 51 6 = some (.istore_n 3, 1, (0, 0, 0, 0), 0) := rfl
theorem s51_6 {c : Nat → List AV → SS → Option Out} {l0 l1 l2 l3 l4 : Option AV} {x : Int32} {L2 : List (Nat × AV)} {St : List AV} {S : SS} : ev c 51 6 [l0, l1, l2, l3, l4] L2 (aI x :: St) S = ev c 51 7 [l0, l1, l2, some (aI x), l4] (kil L2 3) St S := ev_go i51_6 rfl
theorem i51_7 : insAt 51 7 = some (.iload_n 3, 1, (0, 0, 0, 0), 0) := rfl
theorem s51_7 {c : Nat → List AV → SS → Option Out} {l0 l1 l2 l4 : Option AV} {x : Int32} {L2 : List (Nat × AV)} {St : List AV} {S : SS} : ev c 51 7 [l0, l1, l2, some (aI x), l4] L2 St S = ev c 51 8 [l0, l1, l2, some (aI x), l4] L2 (aI x :: St) S := ev_go i51_7 rfl
theorem i51_8 : insAt 51 8 = some (.aload_n 0, 1, (0, 0, 0, 0), 0) := rfl
theorem s51_8 {c : Nat → List AV → SS → Option Out} {l1 l2 l3 l4 : Option AV} {o : OId} {L2 : List (Nat × AV)} {St : List AV} {S : SS} : ev c 51 8 [some (aR o), l1, l2, l3, l4] L2 St S = ev c 51 9 [some (aR o), l1, l2, l3, l4] L2 (aR o :: St) S := ev_go i51_8 rfl
theorem i51_9 : insAt 51 9 = some (.getfield 10, 3, (11, 0, 0, 0), 3) := rfl
theorem s51_9 {c : Nat → List AV → SS → Option Out} {l0 l1 l2 l3 l4 : Option AV} {j t : Nat} {L2 : List (Nat × AV)} {St : List AV} {S : SS} : ev c 51 9 [l0, l1, l2, l3, l4] L2 (aR (11, j, t) :: St) S = ev c 51 12 [l0, l1, l2, l3, l4] L2 (S.2.2.1 (11, j, t) 0 :: St) S := ev_go i51_9 rfl
theorem i51_12 : insAt 51 12 = some (.getfield 60, 3, (4, 7, 1, 0), 79) := rfl
theorem s51_12 {c : Nat → List AV → SS → Option Out} {l0 l1 l2 l3 l4 : Option AV} {j t : Nat} {L2 : List (Nat × AV)} {St : List AV} {S : SS} : ev c 51 12 [l0, l1, l2, l3, l4] L2 (aR (4, j, t) :: St) S = ev c 51 15 [l0, l1, l2, l3, l4] L2 (aI (S.1 (4, j, t) 7) :: St) S := ev_go i51_12 rfl
theorem i51_15 : insAt 51 15 = some (.if_icmp .ge 47, 3, (0, 0, 0, 0), 0) := rfl
theorem s51_15 {c : Nat → List AV → SS → Option Out} {l0 l1 l2 l3 l4 : Option AV} {x y : Int32} {L2 : List (Nat × AV)} {St : List AV} {S : SS} : ev c 51 15 [l0, l1, l2, l3, l4] L2 (aI y :: aI x :: St) S = if y ≤ x then ev c 51 62 [l0, l1, l2, l3, l4] L2 St S else ev c 51 18 [l0, l1, l2, l3, l4] L2 St S := ev_br i51_15 rfl
theorem i51_18 : insAt 51 18 = some (.aload_n 0, 1, (0, 0, 0, 0), 0) := rfl
theorem s51_18 {c : Nat → List AV → SS → Option Out} {l1 l2 l3 l4 : Option AV} {o : OId} {L2 : List (Nat × AV)} {St : List AV} {S : SS} : ev c 51 18 [some (aR o), l1, l2, l3, l4] L2 St S = ev c 51 19 [some (aR o), l1, l2, l3, l4] L2 (aR o :: St) S := ev_go i51_18 rfl
theorem i51_19 : insAt 51 19 = some (.getfield 10, 3, (11, 0, 0, 0), 3) := rfl
theorem s51_19 {c : Nat → List AV → SS → Option Out} {l0 l1 l2 l3 l4 : Option AV} {j t : Nat} {L2 : List (Nat × AV)} {St : List AV} {S : SS} : ev c 51 19 [l0, l1, l2, l3, l4] L2 (aR (11, j, t) :: St) S = ev c 51 22 [l0, l1, l2, l3, l4] L2 (S.2.2.1 (11, j, t) 0 :: St) S := ev_go i51_19 rfl
theorem i51_22 : insAt 51 22 = some (.iload_n 3, 1, (0, 0, 0, 0), 0) := rfl
theorem s51_22 {c : Nat → List AV → SS → Option Out} {l0 l1 l2 l4 : Option AV} {x : Int32} {L2 : List (Nat × AV)} {St : List AV} {S : SS} : ev c 51 22 [l0, l1, l2, some (aI x), l4] L2 St S = ev c 51 23 [l0, l1, l2, some (aI x), l4] L2 (aI x :: St) S := ev_go i51_22 rfl
theorem i51_23 : insAt 51 23 = some (.invokevirtual 125, 3, (17, 1, 3, 4), 87) := rfl
theorem s51_23 {c : Nat → List AV → SS → Option Out} {l0 l1 l2 l3 l4 : Option AV} {a0 : Int32} {j t : Nat} {L2 : List (Nat × AV)} {S : SS} : ev c 51 23 [l0, l1, l2, l3, l4] L2 [aI a0, aR (4, j, t)] S = ck (c 17 [aR (4, j, t), aI a0] S) (fun v S' => ev c 51 26 [l0, l1, l2, l3, l4] L2 (v.toList ++ []) S') := ev_call i51_23 rfl
theorem i51_26 : insAt 51 26 = some (.astore 4, 2, (0, 0, 0, 0), 0) := rfl
theorem s51_26 {c : Nat → List AV → SS → Option Out} {l0 l1 l2 l3 l4 : Option AV} {o : OId} {L2 : List (Nat × AV)} {St : List AV} {S : SS} : ev c 51 26 [l0, l1, l2, l3, l4] L2 (aR o :: St) S = ev c 51 28 [l0, l1, l2, l3, some (aR o)] (kil L2 4) St S := ev_go i51_26 rfl
theorem i51_28 : insAt 51 28 = some (.aload 4, 2, (0, 0, 0, 0), 0) := rfl
theorem s51_28 {c : Nat → List AV → SS → Option Out} {l0 l1 l2 l3 : Option AV} {o : OId} {L2 : List (Nat × AV)} {St : List AV} {S : SS} : ev c 51 28 [l0, l1, l2, l3, some (aR o)] L2 St S = ev c 51 30 [l0, l1, l2, l3, some (aR o)] L2 (aR o :: St) S := ev_go i51_28 rfl
theorem i51_30 : insAt 51 30 = some (.getfield 138, 3, (10, 5, 1, 0), 142) := rfl
theorem s51_30 {c : Nat → List AV → SS → Option Out} {l0 l1 l2 l3 l4 : Option AV} {j t : Nat} {L2 : List (Nat × AV)} {St : List AV} {S : SS} : ev c 51 30 [l0, l1, l2, l3, l4] L2 (aR (10, j, t) :: St) S = ev c 51 33 [l0, l1, l2, l3, l4] L2 (aI (bb (S.1 (10, j, t) 5)) :: St) S := ev_go i51_30 rfl
theorem i51_33 : insAt 51 33 = some (.ifCond .ne 23, 3, (0, 0, 0, 0), 0) := rfl
theorem s51_33 {c : Nat → List AV → SS → Option Out} {l0 l1 l2 l3 l4 : Option AV} {x : Int32} {L2 : List (Nat × AV)} {St : List AV} {S : SS} : ev c 51 33 [l0, l1, l2, l3, l4] L2 (aI x :: St) S = if x = 0 then ev c 51 36 [l0, l1, l2, l3, l4] L2 St S else ev c 51 56 [l0, l1, l2, l3, l4] L2 St S := (ev_br i51_33 rfl).trans (ite_not _ _ _)
theorem i51_36 : insAt 51 36 = some (.iload_n 1, 1, (0, 0, 0, 0), 0) := rfl
theorem s51_36 {c : Nat → List AV → SS → Option Out} {l0 l2 l3 l4 : Option AV} {x : Int32} {L2 : List (Nat × AV)} {St : List AV} {S : SS} : ev c 51 36 [l0, some (aI x), l2, l3, l4] L2 St S = ev c 51 37 [l0, some (aI x), l2, l3, l4] L2 (aI x :: St) S := ev_go i51_36 rfl
theorem i51_37 : insAt 51 37 = some (.aload 4, 2, (0, 0, 0, 0), 0) := rfl
theorem s51_37 {c : Nat → List AV → SS → Option Out} {l0 l1 l2 l3 : Option AV} {o : OId} {L2 : List (Nat × AV)} {St : List AV} {S : SS} : ev c 51 37 [l0, l1, l2, l3, some (aR o)] L2 St S = ev c 51 39 [l0, l1, l2, l3, some (aR o)] L2 (aR o :: St) S := ev_go i51_37 rfl
theorem i51_39 : insAt 51 39 = some (.getfield 129, 3, (10, 3, 1, 0), 143) := rfl
theorem s51_39 {c : Nat → List AV → SS → Option Out} {l0 l1 l2 l3 l4 : Option AV} {j t : Nat} {L2 : List (Nat × AV)} {St : List AV} {S : SS} : ev c 51 39 [l0, l1, l2, l3, l4] L2 (aR (10, j, t) :: St) S = ev c 51 42 [l0, l1, l2, l3, l4] L2 (aI (S.1 (10, j, t) 3) :: St) S := ev_go i51_39 rfl
theorem i51_42 : insAt 51 42 = some (.invokestatic 295, 3, (0, 2, 24, 0), 144) := rfl
theorem s51_42 {c : Nat → List AV → SS → Option Out} {l0 l1 l2 l3 l4 : Option AV} {x y : Int32} {L2 : List (Nat × AV)} {S : SS} : ev c 51 42 [l0, l1, l2, l3, l4] L2 [aI y, aI x] S = ev c 51 45 [l0, l1, l2, l3, l4] L2 [aI (if y < x then y else x)] S := ev_go i51_42 rfl
theorem i51_45 : insAt 51 45 = some (.istore_n 1, 1, (0, 0, 0, 0), 0) := rfl
theorem s51_45 {c : Nat → List AV → SS → Option Out} {l0 l1 l2 l3 l4 : Option AV} {x : Int32} {L2 : List (Nat × AV)} {St : List AV} {S : SS} : ev c 51 45 [l0, l1, l2, l3, l4] L2 (aI x :: St) S = ev c 51 46 [l0, some (aI x), l2, l3, l4] (kil L2 1) St S := ev_go i51_45 rfl
theorem i51_46 : insAt 51 46 = some (.iload_n 2, 1, (0, 0, 0, 0), 0) := rfl
theorem s51_46 {c : Nat → List AV → SS → Option Out} {l0 l1 l3 l4 : Option AV} {x : Int32} {L2 : List (Nat × AV)} {St : List AV} {S : SS} : ev c 51 46 [l0, l1, some (aI x), l3, l4] L2 St S = ev c 51 47 [l0, l1, some (aI x), l3, l4] L2 (aI x :: St) S := ev_go i51_46 rfl
theorem i51_47 : insAt 51 47 = some (.aload 4, 2, (0, 0, 0, 0), 0) := rfl
theorem s51_47 {c : Nat → List AV → SS → Option Out} {l0 l1 l2 l3 : Option AV} {o : OId} {L2 : List (Nat × AV)} {St : List AV} {S : SS} : ev c 51 47 [l0, l1, l2, l3, some (aR o)] L2 St S = ev c 51 49 [l0, l1, l2, l3, some (aR o)] L2 (aR o :: St) S := ev_go i51_47 rfl
theorem i51_49 : insAt 51 49 = some (.getfield 129, 3, (10, 3, 1, 0), 143) := rfl
theorem s51_49 {c : Nat → List AV → SS → Option Out} {l0 l1 l2 l3 l4 : Option AV} {j t : Nat} {L2 : List (Nat × AV)} {St : List AV} {S : SS} : ev c 51 49 [l0, l1, l2, l3, l4] L2 (aR (10, j, t) :: St) S = ev c 51 52 [l0, l1, l2, l3, l4] L2 (aI (S.1 (10, j, t) 3) :: St) S := ev_go i51_49 rfl
theorem i51_52 : insAt 51 52 = some (.invokestatic 300, 3, (0, 2, 23, 0), 131) := rfl
theorem s51_52 {c : Nat → List AV → SS → Option Out} {l0 l1 l2 l3 l4 : Option AV} {x y : Int32} {L2 : List (Nat × AV)} {S : SS} : ev c 51 52 [l0, l1, l2, l3, l4] L2 [aI y, aI x] S = ev c 51 55 [l0, l1, l2, l3, l4] L2 [aI (if x < y then y else x)] S := ev_go i51_52 rfl
theorem i51_55 : insAt 51 55 = some (.istore_n 2, 1, (0, 0, 0, 0), 0) := rfl
theorem s51_55 {c : Nat → List AV → SS → Option Out} {l0 l1 l2 l3 l4 : Option AV} {x : Int32} {L2 : List (Nat × AV)} {St : List AV} {S : SS} : ev c 51 55 [l0, l1, l2, l3, l4] L2 (aI x :: St) S = ev c 51 56 [l0, l1, some (aI x), l3, l4] (kil L2 2) St S := ev_go i51_55 rfl
theorem i51_56 : insAt 51 56 = some (.iinc 3 1, 3, (0, 0, 0, 0), 0) := rfl
theorem s51_56 {c : Nat → List AV → SS → Option Out} {l0 l1 l2 l4 : Option AV} {x : Int32} {L2 : List (Nat × AV)} {St : List AV} {S : SS} : ev c 51 56 [l0, l1, l2, some (aI x), l4] L2 St S = ev c 51 59 [l0, l1, l2, some (aI (x + 1)), l4] (kil L2 3) St S := ev_go i51_56 rfl
theorem i51_59 : insAt 51 59 = some (.goto (-52), 3, (0, 0, 0, 0), 0) := rfl
theorem s51_59 {c : Nat → List AV → SS → Option Out} {l0 l1 l2 l3 l4 : Option AV} {L2 : List (Nat × AV)} {St : List AV} {S : SS} : ev c 51 59 [l0, l1, l2, l3, l4] L2 St S = ev c 51 7 [l0, l1, l2, l3, l4] L2 St S := ev_go i51_59 rfl
theorem i51_62 : insAt 51 62 = some (.iload_n 2, 1, (0, 0, 0, 0), 0) := rfl
theorem s51_62 {c : Nat → List AV → SS → Option Out} {l0 l1 l3 l4 : Option AV} {x : Int32} {L2 : List (Nat × AV)} {St : List AV} {S : SS} : ev c 51 62 [l0, l1, some (aI x), l3, l4] L2 St S = ev c 51 63 [l0, l1, some (aI x), l3, l4] L2 (aI x :: St) S := ev_go i51_62 rfl
theorem i51_63 : insAt 51 63 = some (.iconst (-1), 1, (0, 0, 0, 0), 0) := rfl
theorem s51_63 {c : Nat → List AV → SS → Option Out} {l0 l1 l2 l3 l4 : Option AV} {L2 : List (Nat × AV)} {St : List AV} {S : SS} : ev c 51 63 [l0, l1, l2, l3, l4] L2 St S = ev c 51 64 [l0, l1, l2, l3, l4] L2 (aI (-1) :: St) S := ev_go i51_63 rfl
theorem i51_64 : insAt 51 64 = some (.if_icmp .ne 7, 3, (0, 0, 0, 0), 0) := rfl
theorem s51_64 {c : Nat → List AV → SS → Option Out} {l0 l1 l2 l3 l4 : Option AV} {x y : Int32} {L2 : List (Nat × AV)} {St : List AV} {S : SS} : ev c 51 64 [l0, l1, l2, l3, l4] L2 (aI y :: aI x :: St) S = if x = y then ev c 51 67 [l0, l1, l2, l3, l4] L2 St S else ev c 51 71 [l0, l1, l2, l3, l4] L2 St S := (ev_br i51_64 rfl).trans (ite_not _ _ _)
theorem i51_67 : insAt 51 67 = some (.iconst 0, 1, (0, 0, 0, 0), 0) := rfl
theorem s51_67 {c : Nat → List AV → SS → Option Out} {l0 l1 l2 l3 l4 : Option AV} {L2 : List (Nat × AV)} {St : List AV} {S : SS} : ev c 51 67 [l0, l1, l2, l3, l4] L2 St S = ev c 51 68 [l0, l1, l2, l3, l4] L2 (aI 0 :: St) S := ev_go i51_67 rfl
theorem i51_68 : insAt 51 68 = some (.goto 8, 3, (0, 0, 0, 0), 0) := rfl
theorem s51_68 {c : Nat → List AV → SS → Option Out} {l0 l1 l2 l3 l4 : Option AV} {L2 : List (Nat × AV)} {St : List AV} {S : SS} : ev c 51 68 [l0, l1, l2, l3, l4] L2 St S = ev c 51 76 [l0, l1, l2, l3, l4] L2 St S := ev_go i51_68 rfl
theorem i51_71 : insAt 51 71 = some (.iload_n 2, 1, (0, 0, 0, 0), 0) := rfl
theorem s51_71 {c : Nat → List AV → SS → Option Out} {l0 l1 l3 l4 : Option AV} {x : Int32} {L2 : List (Nat × AV)} {St : List AV} {S : SS} : ev c 51 71 [l0, l1, some (aI x), l3, l4] L2 St S = ev c 51 72 [l0, l1, some (aI x), l3, l4] L2 (aI x :: St) S := ev_go i51_71 rfl
theorem i51_72 : insAt 51 72 = some (.iload_n 1, 1, (0, 0, 0, 0), 0) := rfl
theorem s51_72 {c : Nat → List AV → SS → Option Out} {l0 l2 l3 l4 : Option AV} {x : Int32} {L2 : List (Nat × AV)} {St : List AV} {S : SS} : ev c 51 72 [l0, some (aI x), l2, l3, l4] L2 St S = ev c 51 73 [l0, some (aI x), l2, l3, l4] L2 (aI x :: St) S := ev_go i51_72 rfl
theorem i51_73 : insAt 51 73 = some (.isub, 1, (0, 0, 0, 0), 0) := rfl
theorem s51_73 {c : Nat → List AV → SS → Option Out} {l0 l1 l2 l3 l4 : Option AV} {x y : Int32} {L2 : List (Nat × AV)} {St : List AV} {S : SS} : ev c 51 73 [l0, l1, l2, l3, l4] L2 (aI y :: aI x :: St) S = ev c 51 74 [l0, l1, l2, l3, l4] L2 (aI (x - y) :: St) S := ev_go i51_73 rfl
theorem i51_74 : insAt 51 74 = some (.iconst 1, 1, (0, 0, 0, 0), 0) := rfl
theorem s51_74 {c : Nat → List AV → SS → Option Out} {l0 l1 l2 l3 l4 : Option AV} {L2 : List (Nat × AV)} {St : List AV} {S : SS} : ev c 51 74 [l0, l1, l2, l3, l4] L2 St S = ev c 51 75 [l0, l1, l2, l3, l4] L2 (aI 1 :: St) S := ev_go i51_74 rfl
theorem i51_75 : insAt 51 75 = some (.iadd, 1, (0, 0, 0, 0), 0) := rfl
theorem s51_75 {c : Nat → List AV → SS → Option Out} {l0 l1 l2 l3 l4 : Option AV} {x y : Int32} {L2 : List (Nat × AV)} {St : List AV} {S : SS} : ev c 51 75 [l0, l1, l2, l3, l4] L2 (aI y :: aI x :: St) S = ev c 51 76 [l0, l1, l2, l3, l4] L2 (aI (x + y) :: St) S := ev_go i51_75 rfl
theorem i51_76 : insAt 51 76 = some (.ireturn, 1, (0, 0, 0, 0), 0) := rfl
theorem s51_76 {c : Nat → List AV → SS → Option Out} {l0 l1 l2 l3 l4 : Option AV} {x : Int32} {L2 : List (Nat × AV)} {S : SS} : ev c 51 76 [l0, l1, l2, l3, l4] L2 [aI x] S = some (.inl (some (aI x)), S) := ev_end i51_76 rfl
theorem m51 {d : Nat} {o : OId} {S : SS} : evm (d + 1) 51 [aR o] S = ev (evm d) 51 0 [some (aR o), none, none, none, none] [] [] S := evm_s (n := 5) rfl (Nat.le_of_ble_eq_true rfl) rfl rfl
/-! FrequencyOffice.save()I -/
theorem i52_0 : insAt 52 0 = some (.aload_n 0, 1, (0, 0, 0, 0), 0) := rfl
theorem s52_0 {c : Nat → List AV → SS → Option Out} {o : OId} {L2 : List (Nat × AV)} {St : List AV} {S : SS} : ev c 52 0 [some (aR o)] L2 St S = ev c 52 1 [some (aR o)] L2 (aR o :: St) S := ev_go i52_0 rfl
theorem i52_1 : insAt 52 1 = some (.getfield 23, 3, (11, 2, 0, 0), 7) := rfl
theorem s52_1 {c : Nat → List AV → SS → Option Out} {l0 : Option AV} {j t : Nat} {L2 : List (Nat × AV)} {St : List AV} {S : SS} : ev c 52 1 [l0] L2 (aR (11, j, t) :: St) S = ev c 52 4 [l0] L2 (S.2.2.1 (11, j, t) 2 :: St) S := ev_go i52_1 rfl
theorem i52_4 : insAt 52 4 = some (.aload_n 0, 1, (0, 0, 0, 0), 0) := rfl
theorem s52_4 {c : Nat → List AV → SS → Option Out} {o : OId} {L2 : List (Nat × AV)} {St : List AV} {S : SS} : ev c 52 4 [some (aR o)] L2 St S = ev c 52 5 [some (aR o)] L2 (aR o :: St) S := ev_go i52_4 rfl
theorem i52_5 : insAt 52 5 = some (.getfield 10, 3, (11, 0, 0, 0), 3) := rfl
theorem s52_5 {c : Nat → List AV → SS → Option Out} {l0 : Option AV} {j t : Nat} {L2 : List (Nat × AV)} {St : List AV} {S : SS} : ev c 52 5 [l0] L2 (aR (11, j, t) :: St) S = ev c 52 8 [l0] L2 (S.2.2.1 (11, j, t) 0 :: St) S := ev_go i52_5 rfl
theorem i52_8 : insAt 52 8 = some (.invokevirtual 341, 3, (53, 1, 3, 4), 145) := rfl
theorem s52_8 {c : Nat → List AV → SS → Option Out} {l0 : Option AV} {a0 : OId} {j t : Nat} {L2 : List (Nat × AV)} {S : SS} : ev c 52 8 [l0] L2 [aR a0, aR (4, j, t)] S = ck (c 53 [aR (4, j, t), aR a0] S) (fun v S' => ev c 52 11 [l0] L2 (v.toList ++ []) S') := ev_call i52_8 rfl
theorem i52_11 : insAt 52 11 = some (.aload_n 0, 1, (0, 0, 0, 0), 0) := rfl
theorem s52_11 {c : Nat → List AV → SS → Option Out} {o : OId} {L2 : List (Nat × AV)} {St : List AV} {S : SS} : ev c 52 11 [some (aR o)] L2 St S = ev c 52 12 [some (aR o)] L2 (aR o :: St) S := ev_go i52_11 rfl
theorem i52_12 : insAt 52 12 = some (.iconst 1, 1, (0, 0, 0, 0), 0) := rfl
theorem s52_12 {c : Nat → List AV → SS → Option Out} {l0 : Option AV} {L2 : List (Nat × AV)} {St : List AV} {S : SS} : ev c 52 12 [l0] L2 St S = ev c 52 13 [l0] L2 (aI 1 :: St) S := ev_go i52_12 rfl
theorem i52_13 : insAt 52 13 = some (.putfield 26, 3, (11, 3, 0, 0), 8) := rfl
theorem s52_13 {c : Nat → List AV → SS → Option Out} {l0 : Option AV} {j t : Nat} {x : Int32} {L2 : List (Nat × AV)} {St : List AV} {S : SS} : ev c 52 13 [l0] L2 (aI x :: aR (11, j, t) :: St) S = if x = 0 ∨ x = 1 then ev c 52 16 [l0] L2 St (setI S.1 (11, j, t) 3 x, S.2) else none := ev_if i52_13 rfl
theorem i52_16 : insAt 52 16 = some (.aload_n 0, 1, (0, 0, 0, 0), 0) := rfl
theorem s52_16 {c : Nat → List AV → SS → Option Out} {o : OId} {L2 : List (Nat × AV)} {St : List AV} {S : SS} : ev c 52 16 [some (aR o)] L2 St S = ev c 52 17 [some (aR o)] L2 (aR o :: St) S := ev_go i52_16 rfl
theorem i52_17 : insAt 52 17 = some (.getfield 10, 3, (11, 0, 0, 0), 3) := rfl
theorem s52_17 {c : Nat → List AV → SS → Option Out} {l0 : Option AV} {j t : Nat} {L2 : List (Nat × AV)} {St : List AV} {S : SS} : ev c 52 17 [l0] L2 (aR (11, j, t) :: St) S = ev c 52 20 [l0] L2 (S.2.2.1 (11, j, t) 0 :: St) S := ev_go i52_17 rfl
theorem i52_20 : insAt 52 20 = some (.getfield 60, 3, (4, 7, 1, 0), 79) := rfl
theorem s52_20 {c : Nat → List AV → SS → Option Out} {l0 : Option AV} {j t : Nat} {L2 : List (Nat × AV)} {St : List AV} {S : SS} : ev c 52 20 [l0] L2 (aR (4, j, t) :: St) S = ev c 52 23 [l0] L2 (aI (S.1 (4, j, t) 7) :: St) S := ev_go i52_20 rfl
theorem i52_23 : insAt 52 23 = some (.ireturn, 1, (0, 0, 0, 0), 0) := rfl
theorem s52_23 {c : Nat → List AV → SS → Option Out} {l0 : Option AV} {x : Int32} {L2 : List (Nat × AV)} {S : SS} : ev c 52 23 [l0] L2 [aI x] S = some (.inl (some (aI x)), S) := ev_end i52_23 rfl
theorem m52 {d : Nat} {o : OId} {S : SS} : evm (d + 1) 52 [aR o] S = ev (evm d) 52 0 [some (aR o)] [] [] S := evm_s (n := 1) rfl (Nat.le_of_ble_eq_true rfl) rfl rfl
/-! FrequencyOffice.setRadii(III)I -/
theorem i57_0 : insAt 57 0 = some (.iload_n 3, 1, (0, 0, 0, 0), 0) := rfl
theorem s57_0 {c : Nat → List AV → SS → Option Out} {l0 l1 l2 l4 : Option AV} {x : Int32} {L2 : List (Nat × AV)} {St : List AV} {S : SS} : ev c 57 0 [l0, l1, l2, some (aI x), l4] L2 St S = ev c 57 1 [l0, l1, l2, some (aI x), l4] L2 (aI x :: St) S := ev_go i57_0 rfl
theorem i57_1 : insAt 57 1 = some (.iconst 0, 1, (0, 0, 0, 0), 0) := rfl
theorem s57_1 {c : Nat → List AV → SS → Option Out} {l0 l1 l2 l3 l4 : Option AV} {L2 : List (Nat × AV)} {St : List AV} {S : SS} : ev c 57 1 [l0, l1, l2, l3, l4] L2 St S = ev c 57 2 [l0, l1, l2, l3, l4] L2 (aI 0 :: St) S := ev_go i57_1 rfl
theorem i57_2 : insAt 57 2 = some (.sipush 200, 3, (0, 0, 0, 0), 0) := rfl
theorem s57_2 {c : Nat → List AV → SS → Option Out} {l0 l1 l2 l3 l4 : Option AV} {L2 : List (Nat × AV)} {St : List AV} {S : SS} : ev c 57 2 [l0, l1, l2, l3, l4] L2 St S = ev c 57 5 [l0, l1, l2, l3, l4] L2 (aI 200 :: St) S := ev_go i57_2 rfl
theorem i57_5 : insAt 57 5 = some (.invokestatic 56, 3, (58, 3, 0, 0), 155) := rfl
theorem s57_5 {c : Nat → List AV → SS → Option Out} {l0 l1 l2 l3 l4 : Option AV} {a0 : Int32} {a1 : Int32} {a2 : Int32} {L2 : List (Nat × AV)} {S : SS} : ev c 57 5 [l0, l1, l2, l3, l4] L2 [aI a2, aI a1, aI a0] S = ck (c 58 [aI a0, aI a1, aI a2] S) (fun v S' => ev c 57 8 [l0, l1, l2, l3, l4] L2 (v.toList ++ []) S') := ev_call i57_5 rfl
theorem i57_8 : insAt 57 8 = some (.iload_n 2, 1, (0, 0, 0, 0), 0) := rfl
theorem s57_8 {c : Nat → List AV → SS → Option Out} {l0 l1 l3 l4 : Option AV} {x : Int32} {L2 : List (Nat × AV)} {St : List AV} {S : SS} : ev c 57 8 [l0, l1, some (aI x), l3, l4] L2 St S = ev c 57 9 [l0, l1, some (aI x), l3, l4] L2 (aI x :: St) S := ev_go i57_8 rfl
theorem i57_9 : insAt 57 9 = some (.iconst 0, 1, (0, 0, 0, 0), 0) := rfl
theorem s57_9 {c : Nat → List AV → SS → Option Out} {l0 l1 l2 l3 l4 : Option AV} {L2 : List (Nat × AV)} {St : List AV} {S : SS} : ev c 57 9 [l0, l1, l2, l3, l4] L2 St S = ev c 57 10 [l0, l1, l2, l3, l4] L2 (aI 0 :: St) S := ev_go i57_9 rfl
theorem i57_10 : insAt 57 10 = some (.iload_n 3, 1, (0, 0, 0, 0), 0) := rfl
theorem s57_10 {c : Nat → List AV → SS → Option Out} {l0 l1 l2 l4 : Option AV} {x : Int32} {L2 : List (Nat × AV)} {St : List AV} {S : SS} : ev c 57 10 [l0, l1, l2, some (aI x), l4] L2 St S = ev c 57 11 [l0, l1, l2, some (aI x), l4] L2 (aI x :: St) S := ev_go i57_10 rfl
theorem i57_11 : insAt 57 11 = some (.invokestatic 56, 3, (58, 3, 0, 0), 155) := rfl
theorem s57_11 {c : Nat → List AV → SS → Option Out} {l0 l1 l2 l3 l4 : Option AV} {a0 : Int32} {a1 : Int32} {a2 : Int32} {L2 : List (Nat × AV)} {S : SS} : ev c 57 11 [l0, l1, l2, l3, l4] L2 [aI a2, aI a1, aI a0] S = ck (c 58 [aI a0, aI a1, aI a2] S) (fun v S' => ev c 57 14 [l0, l1, l2, l3, l4] L2 (v.toList ++ []) S') := ev_call i57_11 rfl
theorem i57_14 : insAt 57 14 = some (.iload_n 1, 1, (0, 0, 0, 0), 0) := rfl
theorem s57_14 {c : Nat → List AV → SS → Option Out} {l0 l2 l3 l4 : Option AV} {x : Int32} {L2 : List (Nat × AV)} {St : List AV} {S : SS} : ev c 57 14 [l0, some (aI x), l2, l3, l4] L2 St S = ev c 57 15 [l0, some (aI x), l2, l3, l4] L2 (aI x :: St) S := ev_go i57_14 rfl
theorem i57_15 : insAt 57 15 = some (.iconst 0, 1, (0, 0, 0, 0), 0) := rfl
theorem s57_15 {c : Nat → List AV → SS → Option Out} {l0 l1 l2 l3 l4 : Option AV} {L2 : List (Nat × AV)} {St : List AV} {S : SS} : ev c 57 15 [l0, l1, l2, l3, l4] L2 St S = ev c 57 16 [l0, l1, l2, l3, l4] L2 (aI 0 :: St) S := ev_go i57_15 rfl
theorem i57_16 : insAt 57 16 = some (.iload_n 2, 1, (0, 0, 0, 0), 0) := rfl
theorem s57_16 {c : Nat → List AV → SS → Option Out} {l0 l1 l3 l4 : Option AV} {x : Int32} {L2 : List (Nat × AV)} {St : List AV} {S : SS} : ev c 57 16 [l0, l1, some (aI x), l3, l4] L2 St S = ev c 57 17 [l0, l1, some (aI x), l3, l4] L2 (aI x :: St) S := ev_go i57_16 rfl
theorem i57_17 : insAt 57 17 = some (.invokestatic 56, 3, (58, 3, 0, 0), 155) := rfl
theorem s57_17 {c : Nat → List AV → SS → Option Out} {l0 l1 l2 l3 l4 : Option AV} {a0 : Int32} {a1 : Int32} {a2 : Int32} {L2 : List (Nat × AV)} {S : SS} : ev c 57 17 [l0, l1, l2, l3, l4] L2 [aI a2, aI a1, aI a0] S = ck (c 58 [aI a0, aI a1, aI a2] S) (fun v S' => ev c 57 20 [l0, l1, l2, l3, l4] L2 (v.toList ++ []) S') := ev_call i57_17 rfl
theorem i57_20 : insAt 57 20 = some (.aload_n 0, 1, (0, 0, 0, 0), 0) := rfl
theorem s57_20 {c : Nat → List AV → SS → Option Out} {l1 l2 l3 l4 : Option AV} {o : OId} {L2 : List (Nat × AV)} {St : List AV} {S : SS} : ev c 57 20 [some (aR o), l1, l2, l3, l4] L2 St S = ev c 57 21 [some (aR o), l1, l2, l3, l4] L2 (aR o :: St) S := ev_go i57_20 rfl
theorem i57_21 : insAt 57 21 = some (.getfield 10, 3, (11, 0, 0, 0), 3) := rfl
theorem s57_21 {c : Nat → List AV → SS → Option Out} {l0 l1 l2 l3 l4 : Option AV} {j t : Nat} {L2 : List (Nat × AV)} {St : List AV} {S : SS} : ev c 57 21 [l0, l1, l2, l3, l4] L2 (aR (11, j, t) :: St) S = ev c 57 24 [l0, l1, l2, l3, l4] L2 (S.2.2.1 (11, j, t) 0 :: St) S := ev_go i57_21 rfl
theorem i57_24 : insAt 57 24 = some (.getfield 60, 3, (4, 7, 1, 0), 79) := rfl
theorem s57_24 {c : Nat → List AV → SS → Option Out} {l0 l1 l2 l3 l4 : Option AV} {j t : Nat} {L2 : List (Nat × AV)} {St : List AV} {S : SS} : ev c 57 24 [l0, l1, l2, l3, l4] L2 (aR (4, j, t) :: St) S = ev c 57 27 [l0, l1, l2, l3, l4] L2 (aI (S.1 (4, j, t) 7) :: St) S := ev_go i57_24 rfl
theorem i57_27 : insAt 57 27 = some (.ifCond .le 13, 3, (0, 0, 0, 0), 0) := rfl
theorem s57_27 {c : Nat → List AV → SS → Option Out} {l0 l1 l2 l3 l4 : Option AV} {x : Int32} {L2 : List (Nat × AV)} {St : List AV} {S : SS} : ev c 57 27 [l0, l1, l2, l3, l4] L2 (aI x :: St) S = if x ≤ 0 then ev c 57 40 [l0, l1, l2, l3, l4] L2 St S else ev c 57 30 [l0, l1, l2, l3, l4] L2 St S := ev_br i57_27 rfl
theorem i57_30 : insAt 57 30 = some (.new 64, 3, (1, 0, 1, 0), 156) := rfl
theorem s57_30 {c : Nat → List AV → SS → Option Out} {l0 l1 l2 l3 l4 : Option AV} {L2 : List (Nat × AV)} {S : SS} : ev c 57 30 [l0, l1, l2, l3, l4] L2 [] S = some (.inr "java/lang/IllegalStateException", bump S 1 6) := ev_end i57_30 rfl
theorem i57_33 : insAt 57 33 = some (.dup, 1, (0, 0, 0, 0), 0) := rfl
theorem s57_33 {c : Nat → List AV → SS → Option Out} {l0 l1 l2 l3 l4 : Option AV} {x : OId} {L2 : List (Nat × AV)} {St : List AV} {S : SS} : ev c 57 33 [l0, l1, l2, l3, l4] L2 (aR x :: St) S = ev c 57 34 [l0, l1, l2, l3, l4] L2 (aR x :: aR x :: St) S := ev_go i57_33 rfl
theorem i57_40 : insAt 57 40 = some (.aload_n 0, 1, (0, 0, 0, 0), 0) := rfl
theorem s57_40 {c : Nat → List AV → SS → Option Out} {l1 l2 l3 l4 : Option AV} {o : OId} {L2 : List (Nat × AV)} {St : List AV} {S : SS} : ev c 57 40 [some (aR o), l1, l2, l3, l4] L2 St S = ev c 57 41 [some (aR o), l1, l2, l3, l4] L2 (aR o :: St) S := ev_go i57_40 rfl
theorem i57_41 : insAt 57 41 = some (.getfield 19, 3, (11, 1, 0, 0), 6) := rfl
theorem s57_41 {c : Nat → List AV → SS → Option Out} {l0 l1 l2 l3 l4 : Option AV} {j t : Nat} {L2 : List (Nat × AV)} {St : List AV} {S : SS} : ev c 57 41 [l0, l1, l2, l3, l4] L2 (aR (11, j, t) :: St) S = ev c 57 44 [l0, l1, l2, l3, l4] L2 (S.2.2.1 (11, j, t) 1 :: St) S := ev_go i57_41 rfl
theorem i57_44 : insAt 57 44 = some (.aload_n 0, 1, (0, 0, 0, 0), 0) := rfl
theorem s57_44 {c : Nat → List AV → SS → Option Out} {l1 l2 l3 l4 : Option AV} {o : OId} {L2 : List (Nat × AV)} {St : List AV} {S : SS} : ev c 57 44 [some (aR o), l1, l2, l3, l4] L2 St S = ev c 57 45 [some (aR o), l1, l2, l3, l4] L2 (aR o :: St) S := ev_go i57_44 rfl
theorem i57_45 : insAt 57 45 = some (.getfield 10, 3, (11, 0, 0, 0), 3) := rfl
theorem s57_45 {c : Nat → List AV → SS → Option Out} {l0 l1 l2 l3 l4 : Option AV} {j t : Nat} {L2 : List (Nat × AV)} {St : List AV} {S : SS} : ev c 57 45 [l0, l1, l2, l3, l4] L2 (aR (11, j, t) :: St) S = ev c 57 48 [l0, l1, l2, l3, l4] L2 (S.2.2.1 (11, j, t) 0 :: St) S := ev_go i57_45 rfl
theorem i57_48 : insAt 57 48 = some (.invokevirtual 71, 3, (59, 1, 3, 5), 157) := rfl
theorem s57_48 {c : Nat → List AV → SS → Option Out} {l0 l1 l2 l3 l4 : Option AV} {a0 : OId} {j t : Nat} {L2 : List (Nat × AV)} {S : SS} : ev c 57 48 [l0, l1, l2, l3, l4] L2 [aR a0, aR (5, j, t)] S = ck (c 59 [aR (5, j, t), aR a0] S) (fun v S' => ev c 57 51 [l0, l1, l2, l3, l4] L2 (v.toList ++ []) S') := ev_call i57_48 rfl
theorem i57_51 : insAt 57 51 = some (.aload_n 0, 1, (0, 0, 0, 0), 0) := rfl
theorem s57_51 {c : Nat → List AV → SS → Option Out} {l1 l2 l3 l4 : Option AV} {o : OId} {L2 : List (Nat × AV)} {St : List AV} {S : SS} : ev c 57 51 [some (aR o), l1, l2, l3, l4] L2 St S = ev c 57 52 [some (aR o), l1, l2, l3, l4] L2 (aR o :: St) S := ev_go i57_51 rfl
theorem i57_52 : insAt 57 52 = some (.getfield 10, 3, (11, 0, 0, 0), 3) := rfl
theorem s57_52 {c : Nat → List AV → SS → Option Out} {l0 l1 l2 l3 l4 : Option AV} {j t : Nat} {L2 : List (Nat × AV)} {St : List AV} {S : SS} : ev c 57 52 [l0, l1, l2, l3, l4] L2 (aR (11, j, t) :: St) S = ev c 57 55 [l0, l1, l2, l3, l4] L2 (S.2.2.1 (11, j, t) 0 :: St) S := ev_go i57_52 rfl
theorem i57_55 : insAt 57 55 = some (.getfield 75, 3, (4, 2, 1, 0), 77) := rfl
theorem s57_55 {c : Nat → List AV → SS → Option Out} {l0 l1 l2 l3 l4 : Option AV} {j t : Nat} {L2 : List (Nat × AV)} {St : List AV} {S : SS} : ev c 57 55 [l0, l1, l2, l3, l4] L2 (aR (4, j, t) :: St) S = ev c 57 58 [l0, l1, l2, l3, l4] L2 (aI (S.1 (4, j, t) 2) :: St) S := ev_go i57_55 rfl
theorem i57_58 : insAt 57 58 = some (.istore 4, 2, (0, 0, 0, 0), 0) := rfl
theorem s57_58 {c : Nat → List AV → SS → Option Out} {l0 l1 l2 l3 l4 : Option AV} {x : Int32} {L2 : List (Nat × AV)} {St : List AV} {S : SS} : ev c 57 58 [l0, l1, l2, l3, l4] L2 (aI x :: St) S = ev c 57 60 [l0, l1, l2, l3, some (aI x)] (kil L2 4) St S := ev_go i57_58 rfl
theorem i57_60 : insAt 57 60 = some (.aload_n 0, 1, (0, 0, 0, 0), 0) := rfl
theorem s57_60 {c : Nat → List AV → SS → Option Out} {l1 l2 l3 l4 : Option AV} {o : OId} {L2 : List (Nat × AV)} {St : List AV} {S : SS} : ev c 57 60 [some (aR o), l1, l2, l3, l4] L2 St S = ev c 57 61 [some (aR o), l1, l2, l3, l4] L2 (aR o :: St) S := ev_go i57_60 rfl
theorem i57_61 : insAt 57 61 = some (.getfield 10, 3, (11, 0, 0, 0), 3) := rfl
theorem s57_61 {c : Nat → List AV → SS → Option Out} {l0 l1 l2 l3 l4 : Option AV} {j t : Nat} {L2 : List (Nat × AV)} {St : List AV} {S : SS} : ev c 57 61 [l0, l1, l2, l3, l4] L2 (aR (11, j, t) :: St) S = ev c 57 64 [l0, l1, l2, l3, l4] L2 (S.2.2.1 (11, j, t) 0 :: St) S := ev_go i57_61 rfl
theorem i57_64 : insAt 57 64 = some (.iload_n 1, 1, (0, 0, 0, 0), 0) := rfl
theorem s57_64 {c : Nat → List AV → SS → Option Out} {l0 l2 l3 l4 : Option AV} {x : Int32} {L2 : List (Nat × AV)} {St : List AV} {S : SS} : ev c 57 64 [l0, some (aI x), l2, l3, l4] L2 St S = ev c 57 65 [l0, some (aI x), l2, l3, l4] L2 (aI x :: St) S := ev_go i57_64 rfl
theorem i57_65 : insAt 57 65 = some (.putfield 78, 3, (4, 0, 1, 0), 75) := rfl
theorem s57_65 {c : Nat → List AV → SS → Option Out} {l0 l1 l2 l3 l4 : Option AV} {j t : Nat} {x : Int32} {L2 : List (Nat × AV)} {St : List AV} {S : SS} : ev c 57 65 [l0, l1, l2, l3, l4] L2 (aI x :: aR (4, j, t) :: St) S = ev c 57 68 [l0, l1, l2, l3, l4] L2 St (setI S.1 (4, j, t) 0 x, S.2) := ev_go i57_65 rfl
theorem i57_68 : insAt 57 68 = some (.aload_n 0, 1, (0, 0, 0, 0), 0) := rfl
theorem s57_68 {c : Nat → List AV → SS → Option Out} {l1 l2 l3 l4 : Option AV} {o : OId} {L2 : List (Nat × AV)} {St : List AV} {S : SS} : ev c 57 68 [some (aR o), l1, l2, l3, l4] L2 St S = ev c 57 69 [some (aR o), l1, l2, l3, l4] L2 (aR o :: St) S := ev_go i57_68 rfl
theorem i57_69 : insAt 57 69 = some (.getfield 10, 3, (11, 0, 0, 0), 3) := rfl
theorem s57_69 {c : Nat → List AV → SS → Option Out} {l0 l1 l2 l3 l4 : Option AV} {j t : Nat} {L2 : List (Nat × AV)} {St : List AV} {S : SS} : ev c 57 69 [l0, l1, l2, l3, l4] L2 (aR (11, j, t) :: St) S = ev c 57 72 [l0, l1, l2, l3, l4] L2 (S.2.2.1 (11, j, t) 0 :: St) S := ev_go i57_69 rfl
theorem i57_72 : insAt 57 72 = some (.iload_n 2, 1, (0, 0, 0, 0), 0) := rfl
theorem s57_72 {c : Nat → List AV → SS → Option Out} {l0 l1 l3 l4 : Option AV} {x : Int32} {L2 : List (Nat × AV)} {St : List AV} {S : SS} : ev c 57 72 [l0, l1, some (aI x), l3, l4] L2 St S = ev c 57 73 [l0, l1, some (aI x), l3, l4] L2 (aI x :: St) S := ev_go i57_72 rfl
theorem i57_73 : insAt 57 73 = some (.putfield 81, 3, (4, 1, 1, 0), 76) := rfl
theorem s57_73 {c : Nat → List AV → SS → Option Out} {l0 l1 l2 l3 l4 : Option AV} {j t : Nat} {x : Int32} {L2 : List (Nat × AV)} {St : List AV} {S : SS} : ev c 57 73 [l0, l1, l2, l3, l4] L2 (aI x :: aR (4, j, t) :: St) S = ev c 57 76 [l0, l1, l2, l3, l4] L2 St (setI S.1 (4, j, t) 1 x, S.2) := ev_go i57_73 rfl
theorem i57_76 : insAt 57 76 = some (.aload_n 0, 1, (0, 0, 0, 0), 0) := rfl
theorem s57_76 {c : Nat → List AV → SS → Option Out} {l1 l2 l3 l4 : Option AV} {o : OId} {L2 : List (Nat × AV)} {St : List AV} {S : SS} : ev c 57 76 [some (aR o), l1, l2, l3, l4] L2 St S = ev c 57 77 [some (aR o), l1, l2, l3, l4] L2 (aR o :: St) S := ev_go i57_76 rfl
theorem i57_77 : insAt 57 77 = some (.getfield 10, 3, (11, 0, 0, 0), 3) := rfl
theorem s57_77 {c : Nat → List AV → SS → Option Out} {l0 l1 l2 l3 l4 : Option AV} {j t : Nat} {L2 : List (Nat × AV)} {St : List AV} {S : SS} : ev c 57 77 [l0, l1, l2, l3, l4] L2 (aR (11, j, t) :: St) S = ev c 57 80 [l0, l1, l2, l3, l4] L2 (S.2.2.1 (11, j, t) 0 :: St) S := ev_go i57_77 rfl
theorem i57_80 : insAt 57 80 = some (.iload_n 3, 1, (0, 0, 0, 0), 0) := rfl
theorem s57_80 {c : Nat → List AV → SS → Option Out} {l0 l1 l2 l4 : Option AV} {x : Int32} {L2 : List (Nat × AV)} {St : List AV} {S : SS} : ev c 57 80 [l0, l1, l2, some (aI x), l4] L2 St S = ev c 57 81 [l0, l1, l2, some (aI x), l4] L2 (aI x :: St) S := ev_go i57_80 rfl
theorem i57_81 : insAt 57 81 = some (.putfield 75, 3, (4, 2, 1, 0), 77) := rfl
theorem s57_81 {c : Nat → List AV → SS → Option Out} {l0 l1 l2 l3 l4 : Option AV} {j t : Nat} {x : Int32} {L2 : List (Nat × AV)} {St : List AV} {S : SS} : ev c 57 81 [l0, l1, l2, l3, l4] L2 (aI x :: aR (4, j, t) :: St) S = ev c 57 84 [l0, l1, l2, l3, l4] L2 St (setI S.1 (4, j, t) 2 x, S.2) := ev_go i57_81 rfl
theorem i57_84 : insAt 57 84 = some (.iload 4, 2, (0, 0, 0, 0), 0) := rfl
theorem s57_84 {c : Nat → List AV → SS → Option Out} {l0 l1 l2 l3 : Option AV} {x : Int32} {L2 : List (Nat × AV)} {St : List AV} {S : SS} : ev c 57 84 [l0, l1, l2, l3, some (aI x)] L2 St S = ev c 57 86 [l0, l1, l2, l3, some (aI x)] L2 (aI x :: St) S := ev_go i57_84 rfl
theorem i57_86 : insAt 57 86 = some (.ireturn, 1, (0, 0, 0, 0), 0) := rfl
theorem s57_86 {c : Nat → List AV → SS → Option Out} {l0 l1 l2 l3 l4 : Option AV} {x : Int32} {L2 : List (Nat × AV)} {S : SS} : ev c 57 86 [l0, l1, l2, l3, l4] L2 [aI x] S = some (.inl (some (aI x)), S) := ev_end i57_86 rfl
theorem m57 {d : Nat} {o : OId} {a0 : Int32} {a1 : Int32} {a2 : Int32} {S : SS} : evm (d + 1) 57 [aR o, aI a0, aI a1, aI a2] S = ev (evm d) 57 0 [some (aR o), some (aI a0), some (aI a1), some (aI a2), none] [] [] S := evm_s (n := 5) rfl (Nat.le_of_ble_eq_true rfl) rfl rfl
/-! FrequencyOffice.checkRange(III)V -/
theorem i58_0 : insAt 58 0 = some (.iload_n 0, 1, (0, 0, 0, 0), 0) := rfl
theorem s58_0 {c : Nat → List AV → SS → Option Out} {l1 l2 : Option AV} {x : Int32} {L2 : List (Nat × AV)} {St : List AV} {S : SS} : ev c 58 0 [some (aI x), l1, l2] L2 St S = ev c 58 1 [some (aI x), l1, l2] L2 (aI x :: St) S := ev_go i58_0 rfl
theorem i58_1 : insAt 58 1 = some (.iload_n 1, 1, (0, 0, 0, 0), 0) := rfl
theorem s58_1 {c : Nat → List AV → SS → Option Out} {l0 l2 : Option AV} {x : Int32} {L2 : List (Nat × AV)} {St : List AV} {S : SS} : ev c 58 1 [l0, some (aI x), l2] L2 St S = ev c 58 2 [l0, some (aI x), l2] L2 (aI x :: St) S := ev_go i58_1 rfl
theorem i58_2 : insAt 58 2 = some (.if_icmp .lt 8, 3, (0, 0, 0, 0), 0) := rfl
theorem s58_2 {c : Nat → List AV → SS → Option Out} {l0 l1 l2 : Option AV} {x y : Int32} {L2 : List (Nat × AV)} {St : List AV} {S : SS} : ev c 58 2 [l0, l1, l2] L2 (aI y :: aI x :: St) S = if x < y then ev c 58 10 [l0, l1, l2] L2 St S else ev c 58 5 [l0, l1, l2] L2 St S := ev_br i58_2 rfl
theorem i58_5 : insAt 58 5 = some (.iload_n 0, 1, (0, 0, 0, 0), 0) := rfl
theorem s58_5 {c : Nat → List AV → SS → Option Out} {l1 l2 : Option AV} {x : Int32} {L2 : List (Nat × AV)} {St : List AV} {S : SS} : ev c 58 5 [some (aI x), l1, l2] L2 St S = ev c 58 6 [some (aI x), l1, l2] L2 (aI x :: St) S := ev_go i58_5 rfl
theorem i58_6 : insAt 58 6 = some (.iload_n 2, 1, (0, 0, 0, 0), 0) := rfl
theorem s58_6 {c : Nat → List AV → SS → Option Out} {l0 l1 : Option AV} {x : Int32} {L2 : List (Nat × AV)} {St : List AV} {S : SS} : ev c 58 6 [l0, l1, some (aI x)] L2 St S = ev c 58 7 [l0, l1, some (aI x)] L2 (aI x :: St) S := ev_go i58_6 rfl
theorem i58_7 : insAt 58 7 = some (.if_icmp .le 14, 3, (0, 0, 0, 0), 0) := rfl
theorem s58_7 {c : Nat → List AV → SS → Option Out} {l0 l1 l2 : Option AV} {x y : Int32} {L2 : List (Nat × AV)} {St : List AV} {S : SS} : ev c 58 7 [l0, l1, l2] L2 (aI y :: aI x :: St) S = if x ≤ y then ev c 58 21 [l0, l1, l2] L2 St S else ev c 58 10 [l0, l1, l2] L2 St S := ev_br i58_7 rfl
theorem i58_10 : insAt 58 10 = some (.new 349, 3, (0, 0, 1, 0), 158) := rfl
theorem s58_10 {c : Nat → List AV → SS → Option Out} {l0 l1 l2 : Option AV} {L2 : List (Nat × AV)} {S : SS} : ev c 58 10 [l0, l1, l2] L2 [] S = some (.inr "java/lang/IllegalArgumentException", bump S 1 6) := ev_end i58_10 rfl
theorem i58_13 : insAt 58 13 = some (.dup, 1, (0, 0, 0, 0), 0) := rfl
theorem s58_13 {c : Nat → List AV → SS → Option Out} {l0 l1 l2 : Option AV} {x : OId} {L2 : List (Nat × AV)} {St : List AV} {S : SS} : ev c 58 13 [l0, l1, l2] L2 (aR x :: St) S = ev c 58 14 [l0, l1, l2] L2 (aR x :: aR x :: St) S := ev_go i58_13 rfl
theorem i58_21 : insAt 58 21 = some (.return_, 1, (0, 0, 0, 0), 0) := rfl
theorem s58_21 {c : Nat → List AV → SS → Option Out} {l0 l1 l2 : Option AV} {L2 : List (Nat × AV)} {S : SS} : ev c 58 21 [l0, l1, l2] L2 [] S = some (.inl none, S) := ev_end i58_21 rfl
theorem m58 {d : Nat} {a0 : Int32} {a1 : Int32} {a2 : Int32} {S : SS} : evm (d + 1) 58 [aI a0, aI a1, aI a2] S = ev (evm d) 58 0 [some (aI a0), some (aI a1), some (aI a2)] [] [] S := evm_s (n := 3) rfl (Nat.le_of_ble_eq_true rfl) rfl rfl
/-! FrequencyOffice.license(III)I -/
theorem i62_0 : insAt 62 0 = some (.iload_n 1, 1, (0, 0, 0, 0), 0) := rfl
theorem s62_0 {c : Nat → List AV → SS → Option Out} {l0 l2 l3 l4 : Option AV} {x : Int32} {L2 : List (Nat × AV)} {St : List AV} {S : SS} : ev c 62 0 [l0, some (aI x), l2, l3, l4] L2 St S = ev c 62 1 [l0, some (aI x), l2, l3, l4] L2 (aI x :: St) S := ev_go i62_0 rfl
theorem i62_1 : insAt 62 1 = some (.iload_n 2, 1, (0, 0, 0, 0), 0) := rfl
theorem s62_1 {c : Nat → List AV → SS → Option Out} {l0 l1 l3 l4 : Option AV} {x : Int32} {L2 : List (Nat × AV)} {St : List AV} {S : SS} : ev c 62 1 [l0, l1, some (aI x), l3, l4] L2 St S = ev c 62 2 [l0, l1, some (aI x), l3, l4] L2 (aI x :: St) S := ev_go i62_1 rfl
theorem i62_2 : insAt 62 2 = some (.invokestatic 84, 3, (63, 2, 0, 0), 163) := rfl
theorem s62_2 {c : Nat → List AV → SS → Option Out} {l0 l1 l2 l3 l4 : Option AV} {a0 : Int32} {a1 : Int32} {L2 : List (Nat × AV)} {S : SS} : ev c 62 2 [l0, l1, l2, l3, l4] L2 [aI a1, aI a0] S = ck (c 63 [aI a0, aI a1] S) (fun v S' => ev c 62 5 [l0, l1, l2, l3, l4] L2 (v.toList ++ []) S') := ev_call i62_2 rfl
theorem i62_5 : insAt 62 5 = some (.iload_n 3, 1, (0, 0, 0, 0), 0) := rfl
theorem s62_5 {c : Nat → List AV → SS → Option Out} {l0 l1 l2 l4 : Option AV} {x : Int32} {L2 : List (Nat × AV)} {St : List AV} {S : SS} : ev c 62 5 [l0, l1, l2, some (aI x), l4] L2 St S = ev c 62 6 [l0, l1, l2, some (aI x), l4] L2 (aI x :: St) S := ev_go i62_5 rfl
theorem i62_6 : insAt 62 6 = some (.iconst 1, 1, (0, 0, 0, 0), 0) := rfl
theorem s62_6 {c : Nat → List AV → SS → Option Out} {l0 l1 l2 l3 l4 : Option AV} {L2 : List (Nat × AV)} {St : List AV} {S : SS} : ev c 62 6 [l0, l1, l2, l3, l4] L2 St S = ev c 62 7 [l0, l1, l2, l3, l4] L2 (aI 1 :: St) S := ev_go i62_6 rfl
theorem i62_7 : insAt 62 7 = some (.sipush 365, 3, (0, 0, 0, 0), 0) := rfl
theorem s62_7 {c : Nat → List AV → SS → Option Out} {l0 l1 l2 l3 l4 : Option AV} {L2 : List (Nat × AV)} {St : List AV} {S : SS} : ev c 62 7 [l0, l1, l2, l3, l4] L2 St S = ev c 62 10 [l0, l1, l2, l3, l4] L2 (aI 365 :: St) S := ev_go i62_7 rfl
theorem i62_10 : insAt 62 10 = some (.invokestatic 56, 3, (58, 3, 0, 0), 155) := rfl
theorem s62_10 {c : Nat → List AV → SS → Option Out} {l0 l1 l2 l3 l4 : Option AV} {a0 : Int32} {a1 : Int32} {a2 : Int32} {L2 : List (Nat × AV)} {S : SS} : ev c 62 10 [l0, l1, l2, l3, l4] L2 [aI a2, aI a1, aI a0] S = ck (c 58 [aI a0, aI a1, aI a2] S) (fun v S' => ev c 62 13 [l0, l1, l2, l3, l4] L2 (v.toList ++ []) S') := ev_call i62_10 rfl
theorem i62_13 : insAt 62 13 = some (.aload_n 0, 1, (0, 0, 0, 0), 0) := rfl
theorem s62_13 {c : Nat → List AV → SS → Option Out} {l1 l2 l3 l4 : Option AV} {o : OId} {L2 : List (Nat × AV)} {St : List AV} {S : SS} : ev c 62 13 [some (aR o), l1, l2, l3, l4] L2 St S = ev c 62 14 [some (aR o), l1, l2, l3, l4] L2 (aR o :: St) S := ev_go i62_13 rfl
theorem i62_14 : insAt 62 14 = some (.invokevirtual 88, 3, (64, 0, 2, 11), 164) := rfl
theorem s62_14 {c : Nat → List AV → SS → Option Out} {l0 l1 l2 l3 l4 : Option AV} {j t : Nat} {L2 : List (Nat × AV)} {S : SS} : ev c 62 14 [l0, l1, l2, l3, l4] L2 [aR (11, j, t)] S = ck (c 64 [aR (11, j, t)] S) (fun v S' => ev c 62 17 [l0, l1, l2, l3, l4] L2 (v.toList ++ []) S') := ev_call i62_14 rfl
theorem i62_17 : insAt 62 17 = some (.aload_n 0, 1, (0, 0, 0, 0), 0) := rfl
theorem s62_17 {c : Nat → List AV → SS → Option Out} {l1 l2 l3 l4 : Option AV} {o : OId} {L2 : List (Nat × AV)} {St : List AV} {S : SS} : ev c 62 17 [some (aR o), l1, l2, l3, l4] L2 St S = ev c 62 18 [some (aR o), l1, l2, l3, l4] L2 (aR o :: St) S := ev_go i62_17 rfl
theorem i62_18 : insAt 62 18 = some (.getfield 38, 3, (11, 4, 0, 0), 13) := rfl
theorem s62_18 {c : Nat → List AV → SS → Option Out} {l0 l1 l2 l3 l4 : Option AV} {j t : Nat} {L2 : List (Nat × AV)} {St : List AV} {S : SS} : ev c 62 18 [l0, l1, l2, l3, l4] L2 (aR (11, j, t) :: St) S = ev c 62 21 [l0, l1, l2, l3, l4] L2 (S.2.2.1 (11, j, t) 4 :: St) S := ev_go i62_18 rfl
theorem i62_21 : insAt 62 21 = some (.aload_n 0, 1, (0, 0, 0, 0), 0) := rfl
theorem s62_21 {c : Nat → List AV → SS → Option Out} {l1 l2 l3 l4 : Option AV} {o : OId} {L2 : List (Nat × AV)} {St : List AV} {S : SS} : ev c 62 21 [some (aR o), l1, l2, l3, l4] L2 St S = ev c 62 22 [some (aR o), l1, l2, l3, l4] L2 (aR o :: St) S := ev_go i62_21 rfl
theorem i62_22 : insAt 62 22 = some (.getfield 10, 3, (11, 0, 0, 0), 3) := rfl
theorem s62_22 {c : Nat → List AV → SS → Option Out} {l0 l1 l2 l3 l4 : Option AV} {j t : Nat} {L2 : List (Nat × AV)} {St : List AV} {S : SS} : ev c 62 22 [l0, l1, l2, l3, l4] L2 (aR (11, j, t) :: St) S = ev c 62 25 [l0, l1, l2, l3, l4] L2 (S.2.2.1 (11, j, t) 0 :: St) S := ev_go i62_22 rfl
theorem i62_25 : insAt 62 25 = some (.iload_n 1, 1, (0, 0, 0, 0), 0) := rfl
theorem s62_25 {c : Nat → List AV → SS → Option Out} {l0 l2 l3 l4 : Option AV} {x : Int32} {L2 : List (Nat × AV)} {St : List AV} {S : SS} : ev c 62 25 [l0, some (aI x), l2, l3, l4] L2 St S = ev c 62 26 [l0, some (aI x), l2, l3, l4] L2 (aI x :: St) S := ev_go i62_25 rfl
theorem i62_26 : insAt 62 26 = some (.iload_n 2, 1, (0, 0, 0, 0), 0) := rfl
theorem s62_26 {c : Nat → List AV → SS → Option Out} {l0 l1 l3 l4 : Option AV} {x : Int32} {L2 : List (Nat × AV)} {St : List AV} {S : SS} : ev c 62 26 [l0, l1, some (aI x), l3, l4] L2 St S = ev c 62 27 [l0, l1, some (aI x), l3, l4] L2 (aI x :: St) S := ev_go i62_26 rfl
theorem i62_27 : insAt 62 27 = some (.invokevirtual 91, 3, (65, 3, 3, 8), 165) := rfl
theorem s62_27 {c : Nat → List AV → SS → Option Out} {l0 l1 l2 l3 l4 : Option AV} {a0 : OId} {a1 : Int32} {a2 : Int32} {j t : Nat} {L2 : List (Nat × AV)} {S : SS} : ev c 62 27 [l0, l1, l2, l3, l4] L2 [aI a2, aI a1, aR a0, aR (8, j, t)] S = ck (c 65 [aR (8, j, t), aR a0, aI a1, aI a2] S) (fun v S' => ev c 62 30 [l0, l1, l2, l3, l4] L2 (v.toList ++ []) S') := ev_call i62_27 rfl
theorem i62_30 : insAt 62 30 = some (.aload_n 0, 1, (0, 0, 0, 0), 0) := rfl
theorem s62_30 {c : Nat → List AV → SS → Option Out} {l1 l2 l3 l4 : Option AV} {o : OId} {L2 : List (Nat × AV)} {St : List AV} {S : SS} : ev c 62 30 [some (aR o), l1, l2, l3, l4] L2 St S = ev c 62 31 [some (aR o), l1, l2, l3, l4] L2 (aR o :: St) S := ev_go i62_30 rfl
theorem i62_31 : insAt 62 31 = some (.invokevirtual 95, 3, (67, 0, 2, 11), 166) := rfl
theorem s62_31 {c : Nat → List AV → SS → Option Out} {l0 l1 l2 l3 l4 : Option AV} {j t : Nat} {L2 : List (Nat × AV)} {S : SS} : ev c 62 31 [l0, l1, l2, l3, l4] L2 [aR (11, j, t)] S = ck (c 67 [aR (11, j, t)] S) (fun v S' => ev c 62 34 [l0, l1, l2, l3, l4] L2 (v.toList ++ []) S') := ev_call i62_31 rfl
theorem i62_34 : insAt 62 34 = some (.aload_n 0, 1, (0, 0, 0, 0), 0) := rfl
theorem s62_34 {c : Nat → List AV → SS → Option Out} {l1 l2 l3 l4 : Option AV} {o : OId} {L2 : List (Nat × AV)} {St : List AV} {S : SS} : ev c 62 34 [some (aR o), l1, l2, l3, l4] L2 St S = ev c 62 35 [some (aR o), l1, l2, l3, l4] L2 (aR o :: St) S := ev_go i62_34 rfl
theorem i62_35 : insAt 62 35 = some (.getfield 19, 3, (11, 1, 0, 0), 6) := rfl
theorem s62_35 {c : Nat → List AV → SS → Option Out} {l0 l1 l2 l3 l4 : Option AV} {j t : Nat} {L2 : List (Nat × AV)} {St : List AV} {S : SS} : ev c 62 35 [l0, l1, l2, l3, l4] L2 (aR (11, j, t) :: St) S = ev c 62 38 [l0, l1, l2, l3, l4] L2 (S.2.2.1 (11, j, t) 1 :: St) S := ev_go i62_35 rfl
theorem i62_38 : insAt 62 38 = some (.aload_n 0, 1, (0, 0, 0, 0), 0) := rfl
theorem s62_38 {c : Nat → List AV → SS → Option Out} {l1 l2 l3 l4 : Option AV} {o : OId} {L2 : List (Nat × AV)} {St : List AV} {S : SS} : ev c 62 38 [some (aR o), l1, l2, l3, l4] L2 St S = ev c 62 39 [some (aR o), l1, l2, l3, l4] L2 (aR o :: St) S := ev_go i62_38 rfl
theorem i62_39 : insAt 62 39 = some (.getfield 10, 3, (11, 0, 0, 0), 3) := rfl
theorem s62_39 {c : Nat → List AV → SS → Option Out} {l0 l1 l2 l3 l4 : Option AV} {j t : Nat} {L2 : List (Nat × AV)} {St : List AV} {S : SS} : ev c 62 39 [l0, l1, l2, l3, l4] L2 (aR (11, j, t) :: St) S = ev c 62 42 [l0, l1, l2, l3, l4] L2 (S.2.2.1 (11, j, t) 0 :: St) S := ev_go i62_39 rfl
theorem i62_42 : insAt 62 42 = some (.invokevirtual 71, 3, (59, 1, 3, 5), 157) := rfl
theorem s62_42 {c : Nat → List AV → SS → Option Out} {l0 l1 l2 l3 l4 : Option AV} {a0 : OId} {j t : Nat} {L2 : List (Nat × AV)} {S : SS} : ev c 62 42 [l0, l1, l2, l3, l4] L2 [aR a0, aR (5, j, t)] S = ck (c 59 [aR (5, j, t), aR a0] S) (fun v S' => ev c 62 45 [l0, l1, l2, l3, l4] L2 (v.toList ++ []) S') := ev_call i62_42 rfl
theorem i62_45 : insAt 62 45 = some (.aload_n 0, 1, (0, 0, 0, 0), 0) := rfl
theorem s62_45 {c : Nat → List AV → SS → Option Out} {l1 l2 l3 l4 : Option AV} {o : OId} {L2 : List (Nat × AV)} {St : List AV} {S : SS} : ev c 62 45 [some (aR o), l1, l2, l3, l4] L2 St S = ev c 62 46 [some (aR o), l1, l2, l3, l4] L2 (aR o :: St) S := ev_go i62_45 rfl
theorem i62_46 : insAt 62 46 = some (.getfield 10, 3, (11, 0, 0, 0), 3) := rfl
theorem s62_46 {c : Nat → List AV → SS → Option Out} {l0 l1 l2 l3 l4 : Option AV} {j t : Nat} {L2 : List (Nat × AV)} {St : List AV} {S : SS} : ev c 62 46 [l0, l1, l2, l3, l4] L2 (aR (11, j, t) :: St) S = ev c 62 49 [l0, l1, l2, l3, l4] L2 (S.2.2.1 (11, j, t) 0 :: St) S := ev_go i62_46 rfl
theorem i62_49 : insAt 62 49 = some (.iload_n 1, 1, (0, 0, 0, 0), 0) := rfl
theorem s62_49 {c : Nat → List AV → SS → Option Out} {l0 l2 l3 l4 : Option AV} {x : Int32} {L2 : List (Nat × AV)} {St : List AV} {S : SS} : ev c 62 49 [l0, some (aI x), l2, l3, l4] L2 St S = ev c 62 50 [l0, some (aI x), l2, l3, l4] L2 (aI x :: St) S := ev_go i62_49 rfl
theorem i62_50 : insAt 62 50 = some (.iload_n 2, 1, (0, 0, 0, 0), 0) := rfl
theorem s62_50 {c : Nat → List AV → SS → Option Out} {l0 l1 l3 l4 : Option AV} {x : Int32} {L2 : List (Nat × AV)} {St : List AV} {S : SS} : ev c 62 50 [l0, l1, some (aI x), l3, l4] L2 St S = ev c 62 51 [l0, l1, some (aI x), l3, l4] L2 (aI x :: St) S := ev_go i62_50 rfl
theorem i62_51 : insAt 62 51 = some (.aload_n 0, 1, (0, 0, 0, 0), 0) := rfl
theorem s62_51 {c : Nat → List AV → SS → Option Out} {l1 l2 l3 l4 : Option AV} {o : OId} {L2 : List (Nat × AV)} {St : List AV} {S : SS} : ev c 62 51 [some (aR o), l1, l2, l3, l4] L2 St S = ev c 62 52 [some (aR o), l1, l2, l3, l4] L2 (aR o :: St) S := ev_go i62_51 rfl
theorem i62_52 : insAt 62 52 = some (.getfield 10, 3, (11, 0, 0, 0), 3) := rfl
theorem s62_52 {c : Nat → List AV → SS → Option Out} {l0 l1 l2 l3 l4 : Option AV} {j t : Nat} {L2 : List (Nat × AV)} {St : List AV} {S : SS} : ev c 62 52 [l0, l1, l2, l3, l4] L2 (aR (11, j, t) :: St) S = ev c 62 55 [l0, l1, l2, l3, l4] L2 (S.2.2.1 (11, j, t) 0 :: St) S := ev_go i62_52 rfl
theorem i62_55 : insAt 62 55 = some (.getfield 98, 3, (4, 3, 1, 0), 78) := rfl
theorem s62_55 {c : Nat → List AV → SS → Option Out} {l0 l1 l2 l3 l4 : Option AV} {j t : Nat} {L2 : List (Nat × AV)} {St : List AV} {S : SS} : ev c 62 55 [l0, l1, l2, l3, l4] L2 (aR (4, j, t) :: St) S = ev c 62 58 [l0, l1, l2, l3, l4] L2 (aI (S.1 (4, j, t) 3) :: St) S := ev_go i62_55 rfl
theorem i62_58 : insAt 62 58 = some (.iload_n 3, 1, (0, 0, 0, 0), 0) := rfl
theorem s62_58 {c : Nat → List AV → SS → Option Out} {l0 l1 l2 l4 : Option AV} {x : Int32} {L2 : List (Nat × AV)} {St : List AV} {S : SS} : ev c 62 58 [l0, l1, l2, some (aI x), l4] L2 St S = ev c 62 59 [l0, l1, l2, some (aI x), l4] L2 (aI x :: St) S := ev_go i62_58 rfl
theorem i62_59 : insAt 62 59 = some (.iadd, 1, (0, 0, 0, 0), 0) := rfl
theorem s62_59 {c : Nat → List AV → SS → Option Out} {l0 l1 l2 l3 l4 : Option AV} {x y : Int32} {L2 : List (Nat × AV)} {St : List AV} {S : SS} : ev c 62 59 [l0, l1, l2, l3, l4] L2 (aI y :: aI x :: St) S = ev c 62 60 [l0, l1, l2, l3, l4] L2 (aI (x + y) :: St) S := ev_go i62_59 rfl
theorem i62_60 : insAt 62 60 = some (.iconst 0, 1, (0, 0, 0, 0), 0) := rfl
theorem s62_60 {c : Nat → List AV → SS → Option Out} {l0 l1 l2 l3 l4 : Option AV} {L2 : List (Nat × AV)} {St : List AV} {S : SS} : ev c 62 60 [l0, l1, l2, l3, l4] L2 St S = ev c 62 61 [l0, l1, l2, l3, l4] L2 (aI 0 :: St) S := ev_go i62_60 rfl
theorem i62_61 : insAt 62 61 = some (.invokevirtual 101, 3, (78, 4, 3, 4), 167) := rfl
theorem s62_61 {c : Nat → List AV → SS → Option Out} {l0 l1 l2 l3 l4 : Option AV} {a0 : Int32} {a1 : Int32} {a2 : Int32} {a3 : Int32} {j t : Nat} {L2 : List (Nat × AV)} {S : SS} : ev c 62 61 [l0, l1, l2, l3, l4] L2 [aI a3, aI a2, aI a1, aI a0, aR (4, j, t)] S = ck (c 78 [aR (4, j, t), aI a0, aI a1, aI a2, aI a3] S) (fun v S' => ev c 62 64 [l0, l1, l2, l3, l4] L2 (v.toList ++ []) S') := ev_call i62_61 rfl
theorem i62_64 : insAt 62 64 = some (.istore 4, 2, (0, 0, 0, 0), 0) := rfl
theorem s62_64 {c : Nat → List AV → SS → Option Out} {l0 l1 l2 l3 l4 : Option AV} {x : Int32} {L2 : List (Nat × AV)} {St : List AV} {S : SS} : ev c 62 64 [l0, l1, l2, l3, l4] L2 (aI x :: St) S = ev c 62 66 [l0, l1, l2, l3, some (aI x)] (kil L2 4) St S := ev_go i62_64 rfl
theorem i62_66 : insAt 62 66 = some (.aload_n 0, 1, (0, 0, 0, 0), 0) := rfl
theorem s62_66 {c : Nat → List AV → SS → Option Out} {l1 l2 l3 l4 : Option AV} {o : OId} {L2 : List (Nat × AV)} {St : List AV} {S : SS} : ev c 62 66 [some (aR o), l1, l2, l3, l4] L2 St S = ev c 62 67 [some (aR o), l1, l2, l3, l4] L2 (aR o :: St) S := ev_go i62_66 rfl
theorem i62_67 : insAt 62 67 = some (.getfield 10, 3, (11, 0, 0, 0), 3) := rfl
theorem s62_67 {c : Nat → List AV → SS → Option Out} {l0 l1 l2 l3 l4 : Option AV} {j t : Nat} {L2 : List (Nat × AV)} {St : List AV} {S : SS} : ev c 62 67 [l0, l1, l2, l3, l4] L2 (aR (11, j, t) :: St) S = ev c 62 70 [l0, l1, l2, l3, l4] L2 (S.2.2.1 (11, j, t) 0 :: St) S := ev_go i62_67 rfl
theorem i62_70 : insAt 62 70 = some (.aload_n 0, 1, (0, 0, 0, 0), 0) := rfl
theorem s62_70 {c : Nat → List AV → SS → Option Out} {l1 l2 l3 l4 : Option AV} {o : OId} {L2 : List (Nat × AV)} {St : List AV} {S : SS} : ev c 62 70 [some (aR o), l1, l2, l3, l4] L2 St S = ev c 62 71 [some (aR o), l1, l2, l3, l4] L2 (aR o :: St) S := ev_go i62_70 rfl
theorem i62_71 : insAt 62 71 = some (.getfield 38, 3, (11, 4, 0, 0), 13) := rfl
theorem s62_71 {c : Nat → List AV → SS → Option Out} {l0 l1 l2 l3 l4 : Option AV} {j t : Nat} {L2 : List (Nat × AV)} {St : List AV} {S : SS} : ev c 62 71 [l0, l1, l2, l3, l4] L2 (aR (11, j, t) :: St) S = ev c 62 74 [l0, l1, l2, l3, l4] L2 (S.2.2.1 (11, j, t) 4 :: St) S := ev_go i62_71 rfl
theorem i62_74 : insAt 62 74 = some (.getfield 105, 3, (8, 1, 1, 0), 168) := rfl
theorem s62_74 {c : Nat → List AV → SS → Option Out} {l0 l1 l2 l3 l4 : Option AV} {j t : Nat} {L2 : List (Nat × AV)} {St : List AV} {S : SS} : ev c 62 74 [l0, l1, l2, l3, l4] L2 (aR (8, j, t) :: St) S = ev c 62 77 [l0, l1, l2, l3, l4] L2 (S.2.2.1 (8, j, t) 1 :: St) S := ev_go i62_74 rfl
theorem i62_77 : insAt 62 77 = some (.iload 4, 2, (0, 0, 0, 0), 0) := rfl
theorem s62_77 {c : Nat → List AV → SS → Option Out} {l0 l1 l2 l3 : Option AV} {x : Int32} {L2 : List (Nat × AV)} {St : List AV} {S : SS} : ev c 62 77 [l0, l1, l2, l3, some (aI x)] L2 St S = ev c 62 79 [l0, l1, l2, l3, some (aI x)] L2 (aI x :: St) S := ev_go i62_77 rfl
theorem i62_79 : insAt 62 79 = some (.invokevirtual 109, 3, (79, 2, 3, 4), 169) := rfl
theorem s62_79 {c : Nat → List AV → SS → Option Out} {l0 l1 l2 l3 l4 : Option AV} {a0 : OId} {a1 : Int32} {j t : Nat} {L2 : List (Nat × AV)} {S : SS} : ev c 62 79 [l0, l1, l2, l3, l4] L2 [aI a1, aR a0, aR (4, j, t)] S = ck (c 79 [aR (4, j, t), aR a0, aI a1] S) (fun v S' => ev c 62 82 [l0, l1, l2, l3, l4] L2 (v.toList ++ []) S') := ev_call i62_79 rfl
theorem i62_82 : insAt 62 82 = some (.aload_n 0, 1, (0, 0, 0, 0), 0) := rfl
theorem s62_82 {c : Nat → List AV → SS → Option Out} {l1 l2 l3 l4 : Option AV} {o : OId} {L2 : List (Nat × AV)} {St : List AV} {S : SS} : ev c 62 82 [some (aR o), l1, l2, l3, l4] L2 St S = ev c 62 83 [some (aR o), l1, l2, l3, l4] L2 (aR o :: St) S := ev_go i62_82 rfl
theorem i62_83 : insAt 62 83 = some (.getfield 10, 3, (11, 0, 0, 0), 3) := rfl
theorem s62_83 {c : Nat → List AV → SS → Option Out} {l0 l1 l2 l3 l4 : Option AV} {j t : Nat} {L2 : List (Nat × AV)} {St : List AV} {S : SS} : ev c 62 83 [l0, l1, l2, l3, l4] L2 (aR (11, j, t) :: St) S = ev c 62 86 [l0, l1, l2, l3, l4] L2 (S.2.2.1 (11, j, t) 0 :: St) S := ev_go i62_83 rfl
theorem i62_86 : insAt 62 86 = some (.getfield 113, 3, (4, 4, 1, 0), 170) := rfl
theorem s62_86 {c : Nat → List AV → SS → Option Out} {l0 l1 l2 l3 l4 : Option AV} {j t : Nat} {L2 : List (Nat × AV)} {St : List AV} {S : SS} : ev c 62 86 [l0, l1, l2, l3, l4] L2 (aR (4, j, t) :: St) S = ev c 62 89 [l0, l1, l2, l3, l4] L2 (aI (S.1 (4, j, t) 4) :: St) S := ev_go i62_86 rfl
theorem i62_89 : insAt 62 89 = some (.ireturn, 1, (0, 0, 0, 0), 0) := rfl
theorem s62_89 {c : Nat → List AV → SS → Option Out} {l0 l1 l2 l3 l4 : Option AV} {x : Int32} {L2 : List (Nat × AV)} {S : SS} : ev c 62 89 [l0, l1, l2, l3, l4] L2 [aI x] S = some (.inl (some (aI x)), S) := ev_end i62_89 rfl
theorem m62 {d : Nat} {o : OId} {a0 : Int32} {a1 : Int32} {a2 : Int32} {S : SS} : evm (d + 1) 62 [aR o, aI a0, aI a1, aI a2] S = ev (evm d) 62 0 [some (aR o), some (aI a0), some (aI a1), some (aI a2), none] [] [] S := evm_s (n := 5) rfl (Nat.le_of_ble_eq_true rfl) rfl rfl
/-! FrequencyOffice.checkPoint(II)V -/
theorem i63_0 : insAt 63 0 = some (.iload_n 0, 1, (0, 0, 0, 0), 0) := rfl
theorem s63_0 {c : Nat → List AV → SS → Option Out} {l1 : Option AV} {x : Int32} {L2 : List (Nat × AV)} {St : List AV} {S : SS} : ev c 63 0 [some (aI x), l1] L2 St S = ev c 63 1 [some (aI x), l1] L2 (aI x :: St) S := ev_go i63_0 rfl
theorem i63_1 : insAt 63 1 = some (.iconst 0, 1, (0, 0, 0, 0), 0) := rfl
theorem s63_1 {c : Nat → List AV → SS → Option Out} {l0 l1 : Option AV} {L2 : List (Nat × AV)} {St : List AV} {S : SS} : ev c 63 1 [l0, l1] L2 St S = ev c 63 2 [l0, l1] L2 (aI 0 :: St) S := ev_go i63_1 rfl
theorem i63_2 : insAt 63 2 = some (.bipush 99, 2, (0, 0, 0, 0), 0) := rfl
theorem s63_2 {c : Nat → List AV → SS → Option Out} {l0 l1 : Option AV} {L2 : List (Nat × AV)} {St : List AV} {S : SS} : ev c 63 2 [l0, l1] L2 St S = ev c 63 4 [l0, l1] L2 (aI 99 :: St) S := ev_go i63_2 rfl
theorem i63_4 : insAt 63 4 = some (.invokestatic 56, 3, (58, 3, 0, 0), 155) := rfl
theorem s63_4 {c : Nat → List AV → SS → Option Out} {l0 l1 : Option AV} {a0 : Int32} {a1 : Int32} {a2 : Int32} {L2 : List (Nat × AV)} {S : SS} : ev c 63 4 [l0, l1] L2 [aI a2, aI a1, aI a0] S = ck (c 58 [aI a0, aI a1, aI a2] S) (fun v S' => ev c 63 7 [l0, l1] L2 (v.toList ++ []) S') := ev_call i63_4 rfl
theorem i63_7 : insAt 63 7 = some (.iload_n 1, 1, (0, 0, 0, 0), 0) := rfl
theorem s63_7 {c : Nat → List AV → SS → Option Out} {l0 : Option AV} {x : Int32} {L2 : List (Nat × AV)} {St : List AV} {S : SS} : ev c 63 7 [l0, some (aI x)] L2 St S = ev c 63 8 [l0, some (aI x)] L2 (aI x :: St) S := ev_go i63_7 rfl
theorem i63_8 : insAt 63 8 = some (.iconst 0, 1, (0, 0, 0, 0), 0) := rfl
theorem s63_8 {c : Nat → List AV → SS → Option Out} {l0 l1 : Option AV} {L2 : List (Nat × AV)} {St : List AV} {S : SS} : ev c 63 8 [l0, l1] L2 St S = ev c 63 9 [l0, l1] L2 (aI 0 :: St) S := ev_go i63_8 rfl
theorem i63_9 : insAt 63 9 = some (.bipush 99, 2, (0, 0, 0, 0), 0) := rfl
theorem s63_9 {c : Nat → List AV → SS → Option Out} {l0 l1 : Option AV} {L2 : List (Nat × AV)} {St : List AV} {S : SS} : ev c 63 9 [l0, l1] L2 St S = ev c 63 11 [l0, l1] L2 (aI 99 :: St) S := ev_go i63_9 rfl
theorem i63_11 : insAt 63 11 = some (.invokestatic 56, 3, (58, 3, 0, 0), 155) := rfl
theorem s63_11 {c : Nat → List AV → SS → Option Out} {l0 l1 : Option AV} {a0 : Int32} {a1 : Int32} {a2 : Int32} {L2 : List (Nat × AV)} {S : SS} : ev c 63 11 [l0, l1] L2 [aI a2, aI a1, aI a0] S = ck (c 58 [aI a0, aI a1, aI a2] S) (fun v S' => ev c 63 14 [l0, l1] L2 (v.toList ++ []) S') := ev_call i63_11 rfl
theorem i63_14 : insAt 63 14 = some (.return_, 1, (0, 0, 0, 0), 0) := rfl
theorem s63_14 {c : Nat → List AV → SS → Option Out} {l0 l1 : Option AV} {L2 : List (Nat × AV)} {S : SS} : ev c 63 14 [l0, l1] L2 [] S = some (.inl none, S) := ev_end i63_14 rfl
theorem m63 {d : Nat} {a0 : Int32} {a1 : Int32} {S : SS} : evm (d + 1) 63 [aI a0, aI a1] S = ev (evm d) 63 0 [some (aI a0), some (aI a1)] [] [] S := evm_s (n := 2) rfl (Nat.le_of_ble_eq_true rfl) rfl rfl
/-! FrequencyOffice.checkRoom()V -/
theorem i64_0 : insAt 64 0 = some (.aload_n 0, 1, (0, 0, 0, 0), 0) := rfl
theorem s64_0 {c : Nat → List AV → SS → Option Out} {o : OId} {L2 : List (Nat × AV)} {St : List AV} {S : SS} : ev c 64 0 [some (aR o)] L2 St S = ev c 64 1 [some (aR o)] L2 (aR o :: St) S := ev_go i64_0 rfl
theorem i64_1 : insAt 64 1 = some (.getfield 10, 3, (11, 0, 0, 0), 3) := rfl
theorem s64_1 {c : Nat → List AV → SS → Option Out} {l0 : Option AV} {j t : Nat} {L2 : List (Nat × AV)} {St : List AV} {S : SS} : ev c 64 1 [l0] L2 (aR (11, j, t) :: St) S = ev c 64 4 [l0] L2 (S.2.2.1 (11, j, t) 0 :: St) S := ev_go i64_1 rfl
theorem i64_4 : insAt 64 4 = some (.getfield 60, 3, (4, 7, 1, 0), 79) := rfl
theorem s64_4 {c : Nat → List AV → SS → Option Out} {l0 : Option AV} {j t : Nat} {L2 : List (Nat × AV)} {St : List AV} {S : SS} : ev c 64 4 [l0] L2 (aR (4, j, t) :: St) S = ev c 64 7 [l0] L2 (aI (S.1 (4, j, t) 7) :: St) S := ev_go i64_4 rfl
theorem i64_7 : insAt 64 7 = some (.bipush 7, 2, (0, 0, 0, 0), 0) := rfl
theorem s64_7 {c : Nat → List AV → SS → Option Out} {l0 : Option AV} {L2 : List (Nat × AV)} {St : List AV} {S : SS} : ev c 64 7 [l0] L2 St S = ev c 64 9 [l0] L2 (aI 7 :: St) S := ev_go i64_7 rfl
theorem i64_9 : insAt 64 9 = some (.if_icmp .lt 14, 3, (0, 0, 0, 0), 0) := rfl
theorem s64_9 {c : Nat → List AV → SS → Option Out} {l0 : Option AV} {x y : Int32} {L2 : List (Nat × AV)} {St : List AV} {S : SS} : ev c 64 9 [l0] L2 (aI y :: aI x :: St) S = if x < y then ev c 64 23 [l0] L2 St S else ev c 64 12 [l0] L2 St S := ev_br i64_9 rfl
theorem i64_12 : insAt 64 12 = some (.new 64, 3, (1, 0, 1, 0), 156) := rfl
theorem s64_12 {c : Nat → List AV → SS → Option Out} {l0 : Option AV} {L2 : List (Nat × AV)} {S : SS} : ev c 64 12 [l0] L2 [] S = some (.inr "java/lang/IllegalStateException", bump S 1 6) := ev_end i64_12 rfl
theorem i64_15 : insAt 64 15 = some (.dup, 1, (0, 0, 0, 0), 0) := rfl
theorem s64_15 {c : Nat → List AV → SS → Option Out} {l0 : Option AV} {x : OId} {L2 : List (Nat × AV)} {St : List AV} {S : SS} : ev c 64 15 [l0] L2 (aR x :: St) S = ev c 64 16 [l0] L2 (aR x :: aR x :: St) S := ev_go i64_15 rfl
theorem i64_23 : insAt 64 23 = some (.return_, 1, (0, 0, 0, 0), 0) := rfl
theorem s64_23 {c : Nat → List AV → SS → Option Out} {l0 : Option AV} {L2 : List (Nat × AV)} {S : SS} : ev c 64 23 [l0] L2 [] S = some (.inl none, S) := ev_end i64_23 rfl
theorem m64 {d : Nat} {o : OId} {S : SS} : evm (d + 1) 64 [aR o] S = ev (evm d) 64 0 [some (aR o)] [] [] S := evm_s (n := 1) rfl (Nat.le_of_ble_eq_true rfl) rfl rfl
/-! FrequencyOffice.findPlan()V -/
theorem i67_0 : insAt 67 0 = some (.aload_n 0, 1, (0, 0, 0, 0), 0) := rfl
theorem s67_0 {c : Nat → List AV → SS → Option Out} {o : OId} {L2 : List (Nat × AV)} {St : List AV} {S : SS} : ev c 67 0 [some (aR o)] L2 St S = ev c 67 1 [some (aR o)] L2 (aR o :: St) S := ev_go i67_0 rfl
theorem i67_1 : insAt 67 1 = some (.getfield 38, 3, (11, 4, 0, 0), 13) := rfl
theorem s67_1 {c : Nat → List AV → SS → Option Out} {l0 : Option AV} {j t : Nat} {L2 : List (Nat × AV)} {St : List AV} {S : SS} : ev c 67 1 [l0] L2 (aR (11, j, t) :: St) S = ev c 67 4 [l0] L2 (S.2.2.1 (11, j, t) 4 :: St) S := ev_go i67_1 rfl
theorem i67_4 : insAt 67 4 = some (.invokevirtual 372, 3, (68, 0, 3, 8), 181) := rfl
theorem s67_4 {c : Nat → List AV → SS → Option Out} {l0 : Option AV} {j t : Nat} {L2 : List (Nat × AV)} {S : SS} : ev c 67 4 [l0] L2 [aR (8, j, t)] S = ck (c 68 [aR (8, j, t)] S) (fun v S' => ev c 67 7 [l0] L2 (v.toList ++ []) S') := ev_call i67_4 rfl
theorem i67_7 : insAt 67 7 = some (.ifCond .ne 14, 3, (0, 0, 0, 0), 0) := rfl
theorem s67_7 {c : Nat → List AV → SS → Option Out} {l0 : Option AV} {x : Int32} {L2 : List (Nat × AV)} {St : List AV} {S : SS} : ev c 67 7 [l0] L2 (aI x :: St) S = if x = 0 then ev c 67 10 [l0] L2 St S else ev c 67 21 [l0] L2 St S := (ev_br i67_7 rfl).trans (ite_not _ _ _)
theorem i67_10 : insAt 67 10 = some (.new 120, 3, (2, 0, 1, 0), 182) := rfl
theorem s67_10 {c : Nat → List AV → SS → Option Out} {l0 : Option AV} {L2 : List (Nat × AV)} {S : SS} : ev c 67 10 [l0] L2 [] S = some (.inr "java/lang/UnsupportedOperationException", bump S 1 6) := ev_end i67_10 rfl
theorem i67_13 : insAt 67 13 = some (.dup, 1, (0, 0, 0, 0), 0) := rfl
theorem s67_13 {c : Nat → List AV → SS → Option Out} {l0 : Option AV} {x : OId} {L2 : List (Nat × AV)} {St : List AV} {S : SS} : ev c 67 13 [l0] L2 (aR x :: St) S = ev c 67 14 [l0] L2 (aR x :: aR x :: St) S := ev_go i67_13 rfl
theorem i67_21 : insAt 67 21 = some (.return_, 1, (0, 0, 0, 0), 0) := rfl
theorem s67_21 {c : Nat → List AV → SS → Option Out} {l0 : Option AV} {L2 : List (Nat × AV)} {S : SS} : ev c 67 21 [l0] L2 [] S = some (.inl none, S) := ev_end i67_21 rfl
theorem m67 {d : Nat} {o : OId} {S : SS} : evm (d + 1) 67 [aR o] S = ev (evm d) 67 0 [some (aR o)] [] [] S := evm_s (n := 1) rfl (Nat.le_of_ble_eq_true rfl) rfl rfl
/-! FrequencyOffice.disturbs(II)I -/
theorem i74_0 : insAt 74 0 = some (.iconst 0, 1, (0, 0, 0, 0), 0) := rfl
theorem s74_0 {c : Nat → List AV → SS → Option Out} {l0 l1 : Option AV} {L2 : List (Nat × AV)} {St : List AV} {S : SS} : ev c 74 0 [l0, l1] L2 St S = ev c 74 1 [l0, l1] L2 (aI 0 :: St) S := ev_go i74_0 rfl
theorem i74_1 : insAt 74 1 = some (.iconst 4, 1, (0, 0, 0, 0), 0) := rfl
theorem s74_1 {c : Nat → List AV → SS → Option Out} {l0 l1 : Option AV} {L2 : List (Nat × AV)} {St : List AV} {S : SS} : ev c 74 1 [l0, l1] L2 St S = ev c 74 2 [l0, l1] L2 (aI 4 :: St) S := ev_go i74_1 rfl
theorem i74_2 : insAt 74 2 = some (.iload_n 0, 1, (0, 0, 0, 0), 0) := rfl
theorem s74_2 {c : Nat → List AV → SS → Option Out} {l1 : Option AV} {x : Int32} {L2 : List (Nat × AV)} {St : List AV} {S : SS} : ev c 74 2 [some (aI x), l1] L2 St S = ev c 74 3 [some (aI x), l1] L2 (aI x :: St) S := ev_go i74_2 rfl
theorem i74_3 : insAt 74 3 = some (.iload_n 1, 1, (0, 0, 0, 0), 0) := rfl
theorem s74_3 {c : Nat → List AV → SS → Option Out} {l0 : Option AV} {x : Int32} {L2 : List (Nat × AV)} {St : List AV} {S : SS} : ev c 74 3 [l0, some (aI x)] L2 St S = ev c 74 4 [l0, some (aI x)] L2 (aI x :: St) S := ev_go i74_3 rfl
theorem i74_4 : insAt 74 4 = some (.isub, 1, (0, 0, 0, 0), 0) := rfl
theorem s74_4 {c : Nat → List AV → SS → Option Out} {l0 l1 : Option AV} {x y : Int32} {L2 : List (Nat × AV)} {St : List AV} {S : SS} : ev c 74 4 [l0, l1] L2 (aI y :: aI x :: St) S = ev c 74 5 [l0, l1] L2 (aI (x - y) :: St) S := ev_go i74_4 rfl
theorem i74_5 : insAt 74 5 = some (.invokestatic 381, 3, (0, 1, 25, 0), 196) := rfl
theorem s74_5 {c : Nat → List AV → SS → Option Out} {l0 l1 : Option AV} {t0 t1 : AV} {x : Int32} {L2 : List (Nat × AV)} {S : SS} : ev c 74 5 [l0, l1] L2 [aI x, t0, t1] S = ev c 74 8 [l0, l1] L2 [aI (if 0 ≤ x then x else 0 - x), t0, t1] S := ev_go i74_5 rfl
theorem i74_8 : insAt 74 8 = some (.isub, 1, (0, 0, 0, 0), 0) := rfl
theorem s74_8 {c : Nat → List AV → SS → Option Out} {l0 l1 : Option AV} {x y : Int32} {L2 : List (Nat × AV)} {St : List AV} {S : SS} : ev c 74 8 [l0, l1] L2 (aI y :: aI x :: St) S = ev c 74 9 [l0, l1] L2 (aI (x - y) :: St) S := ev_go i74_8 rfl
theorem i74_9 : insAt 74 9 = some (.invokestatic 300, 3, (0, 2, 23, 0), 131) := rfl
theorem s74_9 {c : Nat → List AV → SS → Option Out} {l0 l1 : Option AV} {x y : Int32} {L2 : List (Nat × AV)} {S : SS} : ev c 74 9 [l0, l1] L2 [aI y, aI x] S = ev c 74 12 [l0, l1] L2 [aI (if x < y then y else x)] S := ev_go i74_9 rfl
theorem i74_12 : insAt 74 12 = some (.ireturn, 1, (0, 0, 0, 0), 0) := rfl
theorem s74_12 {c : Nat → List AV → SS → Option Out} {l0 l1 : Option AV} {x : Int32} {L2 : List (Nat × AV)} {S : SS} : ev c 74 12 [l0, l1] L2 [aI x] S = some (.inl (some (aI x)), S) := ev_end i74_12 rfl
theorem m74 {d : Nat} {a0 : Int32} {a1 : Int32} {S : SS} : evm (d + 1) 74 [aI a0, aI a1] S = ev (evm d) 74 0 [some (aI a0), some (aI a1)] [] [] S := evm_s (n := 2) rfl (Nat.le_of_ble_eq_true rfl) rfl rfl
/-! FrequencyOffice.startTrial(III)I -/
theorem i84_0 : insAt 84 0 = some (.iload_n 1, 1, (0, 0, 0, 0), 0) := rfl
theorem s84_0 {c : Nat → List AV → SS → Option Out} {l0 l2 l3 l4 l5 : Option AV} {x : Int32} {L2 : List (Nat × AV)} {St : List AV} {S : SS} : ev c 84 0 [l0, some (aI x), l2, l3, l4, l5] L2 St S = ev c 84 1 [l0, some (aI x), l2, l3, l4, l5] L2 (aI x :: St) S := ev_go i84_0 rfl
theorem i84_1 : insAt 84 1 = some (.iload_n 2, 1, (0, 0, 0, 0), 0) := rfl
theorem s84_1 {c : Nat → List AV → SS → Option Out} {l0 l1 l3 l4 l5 : Option AV} {x : Int32} {L2 : List (Nat × AV)} {St : List AV} {S : SS} : ev c 84 1 [l0, l1, some (aI x), l3, l4, l5] L2 St S = ev c 84 2 [l0, l1, some (aI x), l3, l4, l5] L2 (aI x :: St) S := ev_go i84_1 rfl
theorem i84_2 : insAt 84 2 = some (.invokestatic 84, 3, (63, 2, 0, 0), 163) := rfl
theorem s84_2 {c : Nat → List AV → SS → Option Out} {l0 l1 l2 l3 l4 l5 : Option AV} {a0 : Int32} {a1 : Int32} {L2 : List (Nat × AV)} {S : SS} : ev c 84 2 [l0, l1, l2, l3, l4, l5] L2 [aI a1, aI a0] S = ck (c 63 [aI a0, aI a1] S) (fun v S' => ev c 84 5 [l0, l1, l2, l3, l4, l5] L2 (v.toList ++ []) S') := ev_call i84_2 rfl
theorem i84_5 : insAt 84 5 = some (.iload_n 3, 1, (0, 0, 0, 0), 0) := rfl
theorem s84_5 {c : Nat → List AV → SS → Option Out} {l0 l1 l2 l4 l5 : Option AV} {x : Int32} {L2 : List (Nat × AV)} {St : List AV} {S : SS} : ev c 84 5 [l0, l1, l2, some (aI x), l4, l5] L2 St S = ev c 84 6 [l0, l1, l2, some (aI x), l4, l5] L2 (aI x :: St) S := ev_go i84_5 rfl
theorem i84_6 : insAt 84 6 = some (.iconst 1, 1, (0, 0, 0, 0), 0) := rfl
theorem s84_6 {c : Nat → List AV → SS → Option Out} {l0 l1 l2 l3 l4 l5 : Option AV} {L2 : List (Nat × AV)} {St : List AV} {S : SS} : ev c 84 6 [l0, l1, l2, l3, l4, l5] L2 St S = ev c 84 7 [l0, l1, l2, l3, l4, l5] L2 (aI 1 :: St) S := ev_go i84_6 rfl
theorem i84_7 : insAt 84 7 = some (.bipush 30, 2, (0, 0, 0, 0), 0) := rfl
theorem s84_7 {c : Nat → List AV → SS → Option Out} {l0 l1 l2 l3 l4 l5 : Option AV} {L2 : List (Nat × AV)} {St : List AV} {S : SS} : ev c 84 7 [l0, l1, l2, l3, l4, l5] L2 St S = ev c 84 9 [l0, l1, l2, l3, l4, l5] L2 (aI 30 :: St) S := ev_go i84_7 rfl
theorem i84_9 : insAt 84 9 = some (.invokestatic 56, 3, (58, 3, 0, 0), 155) := rfl
theorem s84_9 {c : Nat → List AV → SS → Option Out} {l0 l1 l2 l3 l4 l5 : Option AV} {a0 : Int32} {a1 : Int32} {a2 : Int32} {L2 : List (Nat × AV)} {S : SS} : ev c 84 9 [l0, l1, l2, l3, l4, l5] L2 [aI a2, aI a1, aI a0] S = ck (c 58 [aI a0, aI a1, aI a2] S) (fun v S' => ev c 84 12 [l0, l1, l2, l3, l4, l5] L2 (v.toList ++ []) S') := ev_call i84_9 rfl
theorem i84_12 : insAt 84 12 = some (.aload_n 0, 1, (0, 0, 0, 0), 0) := rfl
theorem s84_12 {c : Nat → List AV → SS → Option Out} {l1 l2 l3 l4 l5 : Option AV} {o : OId} {L2 : List (Nat × AV)} {St : List AV} {S : SS} : ev c 84 12 [some (aR o), l1, l2, l3, l4, l5] L2 St S = ev c 84 13 [some (aR o), l1, l2, l3, l4, l5] L2 (aR o :: St) S := ev_go i84_12 rfl
theorem i84_13 : insAt 84 13 = some (.invokevirtual 88, 3, (64, 0, 2, 11), 164) := rfl
theorem s84_13 {c : Nat → List AV → SS → Option Out} {l0 l1 l2 l3 l4 l5 : Option AV} {j t : Nat} {L2 : List (Nat × AV)} {S : SS} : ev c 84 13 [l0, l1, l2, l3, l4, l5] L2 [aR (11, j, t)] S = ck (c 64 [aR (11, j, t)] S) (fun v S' => ev c 84 16 [l0, l1, l2, l3, l4, l5] L2 (v.toList ++ []) S') := ev_call i84_13 rfl
theorem i84_16 : insAt 84 16 = some (.aload_n 0, 1, (0, 0, 0, 0), 0) := rfl
theorem s84_16 {c : Nat → List AV → SS → Option Out} {l1 l2 l3 l4 l5 : Option AV} {o : OId} {L2 : List (Nat × AV)} {St : List AV} {S : SS} : ev c 84 16 [some (aR o), l1, l2, l3, l4, l5] L2 St S = ev c 84 17 [some (aR o), l1, l2, l3, l4, l5] L2 (aR o :: St) S := ev_go i84_16 rfl
theorem i84_17 : insAt 84 17 = some (.getfield 10, 3, (11, 0, 0, 0), 3) := rfl
theorem s84_17 {c : Nat → List AV → SS → Option Out} {l0 l1 l2 l3 l4 l5 : Option AV} {j t : Nat} {L2 : List (Nat × AV)} {St : List AV} {S : SS} : ev c 84 17 [l0, l1, l2, l3, l4, l5] L2 (aR (11, j, t) :: St) S = ev c 84 20 [l0, l1, l2, l3, l4, l5] L2 (S.2.2.1 (11, j, t) 0 :: St) S := ev_go i84_17 rfl
theorem i84_20 : insAt 84 20 = some (.iload_n 1, 1, (0, 0, 0, 0), 0) := rfl
theorem s84_20 {c : Nat → List AV → SS → Option Out} {l0 l2 l3 l4 l5 : Option AV} {x : Int32} {L2 : List (Nat × AV)} {St : List AV} {S : SS} : ev c 84 20 [l0, some (aI x), l2, l3, l4, l5] L2 St S = ev c 84 21 [l0, some (aI x), l2, l3, l4, l5] L2 (aI x :: St) S := ev_go i84_20 rfl
theorem i84_21 : insAt 84 21 = some (.iload_n 2, 1, (0, 0, 0, 0), 0) := rfl
theorem s84_21 {c : Nat → List AV → SS → Option Out} {l0 l1 l3 l4 l5 : Option AV} {x : Int32} {L2 : List (Nat × AV)} {St : List AV} {S : SS} : ev c 84 21 [l0, l1, some (aI x), l3, l4, l5] L2 St S = ev c 84 22 [l0, l1, some (aI x), l3, l4, l5] L2 (aI x :: St) S := ev_go i84_21 rfl
theorem i84_22 : insAt 84 22 = some (.invokevirtual 116, 3, (85, 2, 3, 4), 215) := rfl
theorem s84_22 {c : Nat → List AV → SS → Option Out} {l0 l1 l2 l3 l4 l5 : Option AV} {a0 : Int32} {a1 : Int32} {j t : Nat} {L2 : List (Nat × AV)} {S : SS} : ev c 84 22 [l0, l1, l2, l3, l4, l5] L2 [aI a1, aI a0, aR (4, j, t)] S = ck (c 85 [aR (4, j, t), aI a0, aI a1] S) (fun v S' => ev c 84 25 [l0, l1, l2, l3, l4, l5] L2 (v.toList ++ []) S') := ev_call i84_22 rfl
theorem i84_25 : insAt 84 25 = some (.istore 4, 2, (0, 0, 0, 0), 0) := rfl
theorem s84_25 {c : Nat → List AV → SS → Option Out} {l0 l1 l2 l3 l4 l5 : Option AV} {x : Int32} {L2 : List (Nat × AV)} {St : List AV} {S : SS} : ev c 84 25 [l0, l1, l2, l3, l4, l5] L2 (aI x :: St) S = ev c 84 27 [l0, l1, l2, l3, some (aI x), l5] (kil L2 4) St S := ev_go i84_25 rfl
theorem i84_27 : insAt 84 27 = some (.iload 4, 2, (0, 0, 0, 0), 0) := rfl
theorem s84_27 {c : Nat → List AV → SS → Option Out} {l0 l1 l2 l3 l5 : Option AV} {x : Int32} {L2 : List (Nat × AV)} {St : List AV} {S : SS} : ev c 84 27 [l0, l1, l2, l3, some (aI x), l5] L2 St S = ev c 84 29 [l0, l1, l2, l3, some (aI x), l5] L2 (aI x :: St) S := ev_go i84_27 rfl
theorem i84_29 : insAt 84 29 = some (.iconst (-1), 1, (0, 0, 0, 0), 0) := rfl
theorem s84_29 {c : Nat → List AV → SS → Option Out} {l0 l1 l2 l3 l4 l5 : Option AV} {L2 : List (Nat × AV)} {St : List AV} {S : SS} : ev c 84 29 [l0, l1, l2, l3, l4, l5] L2 St S = ev c 84 30 [l0, l1, l2, l3, l4, l5] L2 (aI (-1) :: St) S := ev_go i84_29 rfl
theorem i84_30 : insAt 84 30 = some (.if_icmp .ne 13, 3, (0, 0, 0, 0), 0) := rfl
theorem s84_30 {c : Nat → List AV → SS → Option Out} {l0 l1 l2 l3 l4 l5 : Option AV} {x y : Int32} {L2 : List (Nat × AV)} {St : List AV} {S : SS} : ev c 84 30 [l0, l1, l2, l3, l4, l5] L2 (aI y :: aI x :: St) S = if x = y then ev c 84 33 [l0, l1, l2, l3, l4, l5] L2 St S else ev c 84 43 [l0, l1, l2, l3, l4, l5] L2 St S := (ev_br i84_30 rfl).trans (ite_not _ _ _)
theorem i84_33 : insAt 84 33 = some (.new 120, 3, (2, 0, 1, 0), 182) := rfl
theorem s84_33 {c : Nat → List AV → SS → Option Out} {l0 l1 l2 l3 l4 l5 : Option AV} {L2 : List (Nat × AV)} {S : SS} : ev c 84 33 [l0, l1, l2, l3, l4, l5] L2 [] S = some (.inr "java/lang/UnsupportedOperationException", bump S 1 6) := ev_end i84_33 rfl
theorem i84_36 : insAt 84 36 = some (.dup, 1, (0, 0, 0, 0), 0) := rfl
theorem s84_36 {c : Nat → List AV → SS → Option Out} {l0 l1 l2 l3 l4 l5 : Option AV} {x : OId} {L2 : List (Nat × AV)} {St : List AV} {S : SS} : ev c 84 36 [l0, l1, l2, l3, l4, l5] L2 (aR x :: St) S = ev c 84 37 [l0, l1, l2, l3, l4, l5] L2 (aR x :: aR x :: St) S := ev_go i84_36 rfl
theorem i84_43 : insAt 84 43 = some (.aload_n 0, 1, (0, 0, 0, 0), 0) := rfl
theorem s84_43 {c : Nat → List AV → SS → Option Out} {l1 l2 l3 l4 l5 : Option AV} {o : OId} {L2 : List (Nat × AV)} {St : List AV} {S : SS} : ev c 84 43 [some (aR o), l1, l2, l3, l4, l5] L2 St S = ev c 84 44 [some (aR o), l1, l2, l3, l4, l5] L2 (aR o :: St) S := ev_go i84_43 rfl
theorem i84_44 : insAt 84 44 = some (.getfield 19, 3, (11, 1, 0, 0), 6) := rfl
theorem s84_44 {c : Nat → List AV → SS → Option Out} {l0 l1 l2 l3 l4 l5 : Option AV} {j t : Nat} {L2 : List (Nat × AV)} {St : List AV} {S : SS} : ev c 84 44 [l0, l1, l2, l3, l4, l5] L2 (aR (11, j, t) :: St) S = ev c 84 47 [l0, l1, l2, l3, l4, l5] L2 (S.2.2.1 (11, j, t) 1 :: St) S := ev_go i84_44 rfl
theorem i84_47 : insAt 84 47 = some (.aload_n 0, 1, (0, 0, 0, 0), 0) := rfl
theorem s84_47 {c : Nat → List AV → SS → Option Out} {l1 l2 l3 l4 l5 : Option AV} {o : OId} {L2 : List (Nat × AV)} {St : List AV} {S : SS} : ev c 84 47 [some (aR o), l1, l2, l3, l4, l5] L2 St S = ev c 84 48 [some (aR o), l1, l2, l3, l4, l5] L2 (aR o :: St) S := ev_go i84_47 rfl
theorem i84_48 : insAt 84 48 = some (.getfield 10, 3, (11, 0, 0, 0), 3) := rfl
theorem s84_48 {c : Nat → List AV → SS → Option Out} {l0 l1 l2 l3 l4 l5 : Option AV} {j t : Nat} {L2 : List (Nat × AV)} {St : List AV} {S : SS} : ev c 84 48 [l0, l1, l2, l3, l4, l5] L2 (aR (11, j, t) :: St) S = ev c 84 51 [l0, l1, l2, l3, l4, l5] L2 (S.2.2.1 (11, j, t) 0 :: St) S := ev_go i84_48 rfl
theorem i84_51 : insAt 84 51 = some (.invokevirtual 71, 3, (59, 1, 3, 5), 157) := rfl
theorem s84_51 {c : Nat → List AV → SS → Option Out} {l0 l1 l2 l3 l4 l5 : Option AV} {a0 : OId} {j t : Nat} {L2 : List (Nat × AV)} {S : SS} : ev c 84 51 [l0, l1, l2, l3, l4, l5] L2 [aR a0, aR (5, j, t)] S = ck (c 59 [aR (5, j, t), aR a0] S) (fun v S' => ev c 84 54 [l0, l1, l2, l3, l4, l5] L2 (v.toList ++ []) S') := ev_call i84_51 rfl
theorem i84_54 : insAt 84 54 = some (.aload_n 0, 1, (0, 0, 0, 0), 0) := rfl
theorem s84_54 {c : Nat → List AV → SS → Option Out} {l1 l2 l3 l4 l5 : Option AV} {o : OId} {L2 : List (Nat × AV)} {St : List AV} {S : SS} : ev c 84 54 [some (aR o), l1, l2, l3, l4, l5] L2 St S = ev c 84 55 [some (aR o), l1, l2, l3, l4, l5] L2 (aR o :: St) S := ev_go i84_54 rfl
theorem i84_55 : insAt 84 55 = some (.getfield 10, 3, (11, 0, 0, 0), 3) := rfl
theorem s84_55 {c : Nat → List AV → SS → Option Out} {l0 l1 l2 l3 l4 l5 : Option AV} {j t : Nat} {L2 : List (Nat × AV)} {St : List AV} {S : SS} : ev c 84 55 [l0, l1, l2, l3, l4, l5] L2 (aR (11, j, t) :: St) S = ev c 84 58 [l0, l1, l2, l3, l4, l5] L2 (S.2.2.1 (11, j, t) 0 :: St) S := ev_go i84_55 rfl
theorem i84_58 : insAt 84 58 = some (.iload_n 1, 1, (0, 0, 0, 0), 0) := rfl
theorem s84_58 {c : Nat → List AV → SS → Option Out} {l0 l2 l3 l4 l5 : Option AV} {x : Int32} {L2 : List (Nat × AV)} {St : List AV} {S : SS} : ev c 84 58 [l0, some (aI x), l2, l3, l4, l5] L2 St S = ev c 84 59 [l0, some (aI x), l2, l3, l4, l5] L2 (aI x :: St) S := ev_go i84_58 rfl
theorem i84_59 : insAt 84 59 = some (.iload_n 2, 1, (0, 0, 0, 0), 0) := rfl
theorem s84_59 {c : Nat → List AV → SS → Option Out} {l0 l1 l3 l4 l5 : Option AV} {x : Int32} {L2 : List (Nat × AV)} {St : List AV} {S : SS} : ev c 84 59 [l0, l1, some (aI x), l3, l4, l5] L2 St S = ev c 84 60 [l0, l1, some (aI x), l3, l4, l5] L2 (aI x :: St) S := ev_go i84_59 rfl
theorem i84_60 : insAt 84 60 = some (.aload_n 0, 1, (0, 0, 0, 0), 0) := rfl
theorem s84_60 {c : Nat → List AV → SS → Option Out} {l1 l2 l3 l4 l5 : Option AV} {o : OId} {L2 : List (Nat × AV)} {St : List AV} {S : SS} : ev c 84 60 [some (aR o), l1, l2, l3, l4, l5] L2 St S = ev c 84 61 [some (aR o), l1, l2, l3, l4, l5] L2 (aR o :: St) S := ev_go i84_60 rfl
theorem i84_61 : insAt 84 61 = some (.getfield 10, 3, (11, 0, 0, 0), 3) := rfl
theorem s84_61 {c : Nat → List AV → SS → Option Out} {l0 l1 l2 l3 l4 l5 : Option AV} {j t : Nat} {L2 : List (Nat × AV)} {St : List AV} {S : SS} : ev c 84 61 [l0, l1, l2, l3, l4, l5] L2 (aR (11, j, t) :: St) S = ev c 84 64 [l0, l1, l2, l3, l4, l5] L2 (S.2.2.1 (11, j, t) 0 :: St) S := ev_go i84_61 rfl
theorem i84_64 : insAt 84 64 = some (.getfield 98, 3, (4, 3, 1, 0), 78) := rfl
theorem s84_64 {c : Nat → List AV → SS → Option Out} {l0 l1 l2 l3 l4 l5 : Option AV} {j t : Nat} {L2 : List (Nat × AV)} {St : List AV} {S : SS} : ev c 84 64 [l0, l1, l2, l3, l4, l5] L2 (aR (4, j, t) :: St) S = ev c 84 67 [l0, l1, l2, l3, l4, l5] L2 (aI (S.1 (4, j, t) 3) :: St) S := ev_go i84_64 rfl
theorem i84_67 : insAt 84 67 = some (.iload_n 3, 1, (0, 0, 0, 0), 0) := rfl
theorem s84_67 {c : Nat → List AV → SS → Option Out} {l0 l1 l2 l4 l5 : Option AV} {x : Int32} {L2 : List (Nat × AV)} {St : List AV} {S : SS} : ev c 84 67 [l0, l1, l2, some (aI x), l4, l5] L2 St S = ev c 84 68 [l0, l1, l2, some (aI x), l4, l5] L2 (aI x :: St) S := ev_go i84_67 rfl
theorem i84_68 : insAt 84 68 = some (.iadd, 1, (0, 0, 0, 0), 0) := rfl
theorem s84_68 {c : Nat → List AV → SS → Option Out} {l0 l1 l2 l3 l4 l5 : Option AV} {x y : Int32} {L2 : List (Nat × AV)} {St : List AV} {S : SS} : ev c 84 68 [l0, l1, l2, l3, l4, l5] L2 (aI y :: aI x :: St) S = ev c 84 69 [l0, l1, l2, l3, l4, l5] L2 (aI (x + y) :: St) S := ev_go i84_68 rfl
theorem i84_69 : insAt 84 69 = some (.iconst 1, 1, (0, 0, 0, 0), 0) := rfl
theorem s84_69 {c : Nat → List AV → SS → Option Out} {l0 l1 l2 l3 l4 l5 : Option AV} {L2 : List (Nat × AV)} {St : List AV} {S : SS} : ev c 84 69 [l0, l1, l2, l3, l4, l5] L2 St S = ev c 84 70 [l0, l1, l2, l3, l4, l5] L2 (aI 1 :: St) S := ev_go i84_69 rfl
theorem i84_70 : insAt 84 70 = some (.invokevirtual 101, 3, (78, 4, 3, 4), 167) := rfl
theorem s84_70 {c : Nat → List AV → SS → Option Out} {l0 l1 l2 l3 l4 l5 : Option AV} {a0 : Int32} {a1 : Int32} {a2 : Int32} {a3 : Int32} {j t : Nat} {L2 : List (Nat × AV)} {S : SS} : ev c 84 70 [l0, l1, l2, l3, l4, l5] L2 [aI a3, aI a2, aI a1, aI a0, aR (4, j, t)] S = ck (c 78 [aR (4, j, t), aI a0, aI a1, aI a2, aI a3] S) (fun v S' => ev c 84 73 [l0, l1, l2, l3, l4, l5] L2 (v.toList ++ []) S') := ev_call i84_70 rfl
theorem i84_73 : insAt 84 73 = some (.istore 5, 2, (0, 0, 0, 0), 0) := rfl
theorem s84_73 {c : Nat → List AV → SS → Option Out} {l0 l1 l2 l3 l4 l5 : Option AV} {x : Int32} {L2 : List (Nat × AV)} {St : List AV} {S : SS} : ev c 84 73 [l0, l1, l2, l3, l4, l5] L2 (aI x :: St) S = ev c 84 75 [l0, l1, l2, l3, l4, some (aI x)] (kil L2 5) St S := ev_go i84_73 rfl
theorem i84_75 : insAt 84 75 = some (.aload_n 0, 1, (0, 0, 0, 0), 0) := rfl
theorem s84_75 {c : Nat → List AV → SS → Option Out} {l1 l2 l3 l4 l5 : Option AV} {o : OId} {L2 : List (Nat × AV)} {St : List AV} {S : SS} : ev c 84 75 [some (aR o), l1, l2, l3, l4, l5] L2 St S = ev c 84 76 [some (aR o), l1, l2, l3, l4, l5] L2 (aR o :: St) S := ev_go i84_75 rfl
theorem i84_76 : insAt 84 76 = some (.getfield 10, 3, (11, 0, 0, 0), 3) := rfl
theorem s84_76 {c : Nat → List AV → SS → Option Out} {l0 l1 l2 l3 l4 l5 : Option AV} {j t : Nat} {L2 : List (Nat × AV)} {St : List AV} {S : SS} : ev c 84 76 [l0, l1, l2, l3, l4, l5] L2 (aR (11, j, t) :: St) S = ev c 84 79 [l0, l1, l2, l3, l4, l5] L2 (S.2.2.1 (11, j, t) 0 :: St) S := ev_go i84_76 rfl
theorem i84_79 : insAt 84 79 = some (.iload 5, 2, (0, 0, 0, 0), 0) := rfl
theorem s84_79 {c : Nat → List AV → SS → Option Out} {l0 l1 l2 l3 l4 : Option AV} {x : Int32} {L2 : List (Nat × AV)} {St : List AV} {S : SS} : ev c 84 79 [l0, l1, l2, l3, l4, some (aI x)] L2 St S = ev c 84 81 [l0, l1, l2, l3, l4, some (aI x)] L2 (aI x :: St) S := ev_go i84_79 rfl
theorem i84_81 : insAt 84 81 = some (.invokevirtual 125, 3, (17, 1, 3, 4), 87) := rfl
theorem s84_81 {c : Nat → List AV → SS → Option Out} {l0 l1 l2 l3 l4 l5 : Option AV} {a0 : Int32} {j t : Nat} {L2 : List (Nat × AV)} {S : SS} : ev c 84 81 [l0, l1, l2, l3, l4, l5] L2 [aI a0, aR (4, j, t)] S = ck (c 17 [aR (4, j, t), aI a0] S) (fun v S' => ev c 84 84 [l0, l1, l2, l3, l4, l5] L2 (v.toList ++ []) S') := ev_call i84_81 rfl
theorem i84_84 : insAt 84 84 = some (.iload 4, 2, (0, 0, 0, 0), 0) := rfl
theorem s84_84 {c : Nat → List AV → SS → Option Out} {l0 l1 l2 l3 l5 : Option AV} {x : Int32} {L2 : List (Nat × AV)} {St : List AV} {S : SS} : ev c 84 84 [l0, l1, l2, l3, some (aI x), l5] L2 St S = ev c 84 86 [l0, l1, l2, l3, some (aI x), l5] L2 (aI x :: St) S := ev_go i84_84 rfl
theorem i84_86 : insAt 84 86 = some (.putfield 129, 3, (10, 3, 1, 0), 143) := rfl
theorem s84_86 {c : Nat → List AV → SS → Option Out} {l0 l1 l2 l3 l4 l5 : Option AV} {j t : Nat} {x : Int32} {L2 : List (Nat × AV)} {St : List AV} {S : SS} : ev c 84 86 [l0, l1, l2, l3, l4, l5] L2 (aI x :: aR (10, j, t) :: St) S = ev c 84 89 [l0, l1, l2, l3, l4, l5] L2 St (setI S.1 (10, j, t) 3 x, S.2) := ev_go i84_86 rfl
theorem i84_89 : insAt 84 89 = some (.aload_n 0, 1, (0, 0, 0, 0), 0) := rfl
theorem s84_89 {c : Nat → List AV → SS → Option Out} {l1 l2 l3 l4 l5 : Option AV} {o : OId} {L2 : List (Nat × AV)} {St : List AV} {S : SS} : ev c 84 89 [some (aR o), l1, l2, l3, l4, l5] L2 St S = ev c 84 90 [some (aR o), l1, l2, l3, l4, l5] L2 (aR o :: St) S := ev_go i84_89 rfl
theorem i84_90 : insAt 84 90 = some (.getfield 10, 3, (11, 0, 0, 0), 3) := rfl
theorem s84_90 {c : Nat → List AV → SS → Option Out} {l0 l1 l2 l3 l4 l5 : Option AV} {j t : Nat} {L2 : List (Nat × AV)} {St : List AV} {S : SS} : ev c 84 90 [l0, l1, l2, l3, l4, l5] L2 (aR (11, j, t) :: St) S = ev c 84 93 [l0, l1, l2, l3, l4, l5] L2 (S.2.2.1 (11, j, t) 0 :: St) S := ev_go i84_90 rfl
theorem i84_93 : insAt 84 93 = some (.getfield 113, 3, (4, 4, 1, 0), 170) := rfl
theorem s84_93 {c : Nat → List AV → SS → Option Out} {l0 l1 l2 l3 l4 l5 : Option AV} {j t : Nat} {L2 : List (Nat × AV)} {St : List AV} {S : SS} : ev c 84 93 [l0, l1, l2, l3, l4, l5] L2 (aR (4, j, t) :: St) S = ev c 84 96 [l0, l1, l2, l3, l4, l5] L2 (aI (S.1 (4, j, t) 4) :: St) S := ev_go i84_93 rfl
theorem i84_96 : insAt 84 96 = some (.ireturn, 1, (0, 0, 0, 0), 0) := rfl
theorem s84_96 {c : Nat → List AV → SS → Option Out} {l0 l1 l2 l3 l4 l5 : Option AV} {x : Int32} {L2 : List (Nat × AV)} {S : SS} : ev c 84 96 [l0, l1, l2, l3, l4, l5] L2 [aI x] S = some (.inl (some (aI x)), S) := ev_end i84_96 rfl
theorem m84 {d : Nat} {o : OId} {a0 : Int32} {a1 : Int32} {a2 : Int32} {S : SS} : evm (d + 1) 84 [aR o, aI a0, aI a1, aI a2] S = ev (evm d) 84 0 [some (aR o), some (aI a0), some (aI a1), some (aI a2), none, none] [] [] S := evm_s (n := 6) rfl (Nat.le_of_ble_eq_true rfl) rfl rfl
/-! FrequencyOffice.confirm(II)I -/
theorem i89_0 : insAt 89 0 = some (.aload_n 0, 1, (0, 0, 0, 0), 0) := rfl
theorem s89_0 {c : Nat → List AV → SS → Option Out} {l1 l2 l3 l4 : Option AV} {o : OId} {L2 : List (Nat × AV)} {St : List AV} {S : SS} : ev c 89 0 [some (aR o), l1, l2, l3, l4] L2 St S = ev c 89 1 [some (aR o), l1, l2, l3, l4] L2 (aR o :: St) S := ev_go i89_0 rfl
theorem i89_1 : insAt 89 1 = some (.iload_n 1, 1, (0, 0, 0, 0), 0) := rfl
theorem s89_1 {c : Nat → List AV → SS → Option Out} {l0 l2 l3 l4 : Option AV} {x : Int32} {L2 : List (Nat × AV)} {St : List AV} {S : SS} : ev c 89 1 [l0, some (aI x), l2, l3, l4] L2 St S = ev c 89 2 [l0, some (aI x), l2, l3, l4] L2 (aI x :: St) S := ev_go i89_1 rfl
theorem i89_2 : insAt 89 2 = some (.invokevirtual 134, 3, (90, 1, 2, 11), 220) := rfl
theorem s89_2 {c : Nat → List AV → SS → Option Out} {l0 l1 l2 l3 l4 : Option AV} {a0 : Int32} {j t : Nat} {L2 : List (Nat × AV)} {S : SS} : ev c 89 2 [l0, l1, l2, l3, l4] L2 [aI a0, aR (11, j, t)] S = ck (c 90 [aR (11, j, t), aI a0] S) (fun v S' => ev c 89 5 [l0, l1, l2, l3, l4] L2 (v.toList ++ []) S') := ev_call i89_2 rfl
theorem i89_5 : insAt 89 5 = some (.istore_n 3, 1, (0, 0, 0, 0), 0) := rfl
theorem s89_5 {c : Nat → List AV → SS → Option Out} {l0 l1 l2 l3 l4 : Option AV} {x : Int32} {L2 : List (Nat × AV)} {St : List AV} {S : SS} : ev c 89 5 [l0, l1, l2, l3, l4] L2 (aI x :: St) S = ev c 89 6 [l0, l1, l2, some (aI x), l4] (kil L2 3) St S := ev_go i89_5 rfl
theorem i89_6 : insAt 89 6 = some (.iload_n 2, 1, (0, 0, 0, 0), 0) := rfl
theorem s89_6 {c : Nat → List AV → SS → Option Out} {l0 l1 l3 l4 : Option AV} {x : Int32} {L2 : List (Nat × AV)} {St : List AV} {S : SS} : ev c 89 6 [l0, l1, some (aI x), l3, l4] L2 St S = ev c 89 7 [l0, l1, some (aI x), l3, l4] L2 (aI x :: St) S := ev_go i89_6 rfl
theorem i89_7 : insAt 89 7 = some (.iconst 1, 1, (0, 0, 0, 0), 0) := rfl
theorem s89_7 {c : Nat → List AV → SS → Option Out} {l0 l1 l2 l3 l4 : Option AV} {L2 : List (Nat × AV)} {St : List AV} {S : SS} : ev c 89 7 [l0, l1, l2, l3, l4] L2 St S = ev c 89 8 [l0, l1, l2, l3, l4] L2 (aI 1 :: St) S := ev_go i89_7 rfl
theorem i89_8 : insAt 89 8 = some (.sipush 365, 3, (0, 0, 0, 0), 0) := rfl
theorem s89_8 {c : Nat → List AV → SS → Option Out} {l0 l1 l2 l3 l4 : Option AV} {L2 : List (Nat × AV)} {St : List AV} {S : SS} : ev c 89 8 [l0, l1, l2, l3, l4] L2 St S = ev c 89 11 [l0, l1, l2, l3, l4] L2 (aI 365 :: St) S := ev_go i89_8 rfl
theorem i89_11 : insAt 89 11 = some (.invokestatic 56, 3, (58, 3, 0, 0), 155) := rfl
theorem s89_11 {c : Nat → List AV → SS → Option Out} {l0 l1 l2 l3 l4 : Option AV} {a0 : Int32} {a1 : Int32} {a2 : Int32} {L2 : List (Nat × AV)} {S : SS} : ev c 89 11 [l0, l1, l2, l3, l4] L2 [aI a2, aI a1, aI a0] S = ck (c 58 [aI a0, aI a1, aI a2] S) (fun v S' => ev c 89 14 [l0, l1, l2, l3, l4] L2 (v.toList ++ []) S') := ev_call i89_11 rfl
theorem i89_14 : insAt 89 14 = some (.aload_n 0, 1, (0, 0, 0, 0), 0) := rfl
theorem s89_14 {c : Nat → List AV → SS → Option Out} {l1 l2 l3 l4 : Option AV} {o : OId} {L2 : List (Nat × AV)} {St : List AV} {S : SS} : ev c 89 14 [some (aR o), l1, l2, l3, l4] L2 St S = ev c 89 15 [some (aR o), l1, l2, l3, l4] L2 (aR o :: St) S := ev_go i89_14 rfl
theorem i89_15 : insAt 89 15 = some (.getfield 10, 3, (11, 0, 0, 0), 3) := rfl
theorem s89_15 {c : Nat → List AV → SS → Option Out} {l0 l1 l2 l3 l4 : Option AV} {j t : Nat} {L2 : List (Nat × AV)} {St : List AV} {S : SS} : ev c 89 15 [l0, l1, l2, l3, l4] L2 (aR (11, j, t) :: St) S = ev c 89 18 [l0, l1, l2, l3, l4] L2 (S.2.2.1 (11, j, t) 0 :: St) S := ev_go i89_15 rfl
theorem i89_18 : insAt 89 18 = some (.iload_n 3, 1, (0, 0, 0, 0), 0) := rfl
theorem s89_18 {c : Nat → List AV → SS → Option Out} {l0 l1 l2 l4 : Option AV} {x : Int32} {L2 : List (Nat × AV)} {St : List AV} {S : SS} : ev c 89 18 [l0, l1, l2, some (aI x), l4] L2 St S = ev c 89 19 [l0, l1, l2, some (aI x), l4] L2 (aI x :: St) S := ev_go i89_18 rfl
theorem i89_19 : insAt 89 19 = some (.invokevirtual 125, 3, (17, 1, 3, 4), 87) := rfl
theorem s89_19 {c : Nat → List AV → SS → Option Out} {l0 l1 l2 l3 l4 : Option AV} {a0 : Int32} {j t : Nat} {L2 : List (Nat × AV)} {S : SS} : ev c 89 19 [l0, l1, l2, l3, l4] L2 [aI a0, aR (4, j, t)] S = ck (c 17 [aR (4, j, t), aI a0] S) (fun v S' => ev c 89 22 [l0, l1, l2, l3, l4] L2 (v.toList ++ []) S') := ev_call i89_19 rfl
theorem i89_22 : insAt 89 22 = some (.getfield 138, 3, (10, 5, 1, 0), 142) := rfl
theorem s89_22 {c : Nat → List AV → SS → Option Out} {l0 l1 l2 l3 l4 : Option AV} {j t : Nat} {L2 : List (Nat × AV)} {St : List AV} {S : SS} : ev c 89 22 [l0, l1, l2, l3, l4] L2 (aR (10, j, t) :: St) S = ev c 89 25 [l0, l1, l2, l3, l4] L2 (aI (bb (S.1 (10, j, t) 5)) :: St) S := ev_go i89_22 rfl
theorem i89_25 : insAt 89 25 = some (.ifCond .ne 13, 3, (0, 0, 0, 0), 0) := rfl
theorem s89_25 {c : Nat → List AV → SS → Option Out} {l0 l1 l2 l3 l4 : Option AV} {x : Int32} {L2 : List (Nat × AV)} {St : List AV} {S : SS} : ev c 89 25 [l0, l1, l2, l3, l4] L2 (aI x :: St) S = if x = 0 then ev c 89 28 [l0, l1, l2, l3, l4] L2 St S else ev c 89 38 [l0, l1, l2, l3, l4] L2 St S := (ev_br i89_25 rfl).trans (ite_not _ _ _)
theorem i89_28 : insAt 89 28 = some (.new 64, 3, (1, 0, 1, 0), 156) := rfl
theorem s89_28 {c : Nat → List AV → SS → Option Out} {l0 l1 l2 l3 l4 : Option AV} {L2 : List (Nat × AV)} {S : SS} : ev c 89 28 [l0, l1, l2, l3, l4] L2 [] S = some (.inr "java/lang/IllegalStateException", bump S 1 6) := ev_end i89_28 rfl
theorem i89_31 : insAt 89 31 = some (.dup, 1, (0, 0, 0, 0), 0) := rfl
theorem s89_31 {c : Nat → List AV → SS → Option Out} {l0 l1 l2 l3 l4 : Option AV} {x : OId} {L2 : List (Nat × AV)} {St : List AV} {S : SS} : ev c 89 31 [l0, l1, l2, l3, l4] L2 (aR x :: St) S = ev c 89 32 [l0, l1, l2, l3, l4] L2 (aR x :: aR x :: St) S := ev_go i89_31 rfl
theorem i89_38 : insAt 89 38 = some (.aload_n 0, 1, (0, 0, 0, 0), 0) := rfl
theorem s89_38 {c : Nat → List AV → SS → Option Out} {l1 l2 l3 l4 : Option AV} {o : OId} {L2 : List (Nat × AV)} {St : List AV} {S : SS} : ev c 89 38 [some (aR o), l1, l2, l3, l4] L2 St S = ev c 89 39 [some (aR o), l1, l2, l3, l4] L2 (aR o :: St) S := ev_go i89_38 rfl
theorem i89_39 : insAt 89 39 = some (.getfield 19, 3, (11, 1, 0, 0), 6) := rfl
theorem s89_39 {c : Nat → List AV → SS → Option Out} {l0 l1 l2 l3 l4 : Option AV} {j t : Nat} {L2 : List (Nat × AV)} {St : List AV} {S : SS} : ev c 89 39 [l0, l1, l2, l3, l4] L2 (aR (11, j, t) :: St) S = ev c 89 42 [l0, l1, l2, l3, l4] L2 (S.2.2.1 (11, j, t) 1 :: St) S := ev_go i89_39 rfl
theorem i89_42 : insAt 89 42 = some (.aload_n 0, 1, (0, 0, 0, 0), 0) := rfl
theorem s89_42 {c : Nat → List AV → SS → Option Out} {l1 l2 l3 l4 : Option AV} {o : OId} {L2 : List (Nat × AV)} {St : List AV} {S : SS} : ev c 89 42 [some (aR o), l1, l2, l3, l4] L2 St S = ev c 89 43 [some (aR o), l1, l2, l3, l4] L2 (aR o :: St) S := ev_go i89_42 rfl
theorem i89_43 : insAt 89 43 = some (.getfield 10, 3, (11, 0, 0, 0), 3) := rfl
theorem s89_43 {c : Nat → List AV → SS → Option Out} {l0 l1 l2 l3 l4 : Option AV} {j t : Nat} {L2 : List (Nat × AV)} {St : List AV} {S : SS} : ev c 89 43 [l0, l1, l2, l3, l4] L2 (aR (11, j, t) :: St) S = ev c 89 46 [l0, l1, l2, l3, l4] L2 (S.2.2.1 (11, j, t) 0 :: St) S := ev_go i89_43 rfl
theorem i89_46 : insAt 89 46 = some (.invokevirtual 71, 3, (59, 1, 3, 5), 157) := rfl
theorem s89_46 {c : Nat → List AV → SS → Option Out} {l0 l1 l2 l3 l4 : Option AV} {a0 : OId} {j t : Nat} {L2 : List (Nat × AV)} {S : SS} : ev c 89 46 [l0, l1, l2, l3, l4] L2 [aR a0, aR (5, j, t)] S = ck (c 59 [aR (5, j, t), aR a0] S) (fun v S' => ev c 89 49 [l0, l1, l2, l3, l4] L2 (v.toList ++ []) S') := ev_call i89_46 rfl
theorem i89_49 : insAt 89 49 = some (.aload_n 0, 1, (0, 0, 0, 0), 0) := rfl
theorem s89_49 {c : Nat → List AV → SS → Option Out} {l1 l2 l3 l4 : Option AV} {o : OId} {L2 : List (Nat × AV)} {St : List AV} {S : SS} : ev c 89 49 [some (aR o), l1, l2, l3, l4] L2 St S = ev c 89 50 [some (aR o), l1, l2, l3, l4] L2 (aR o :: St) S := ev_go i89_49 rfl
theorem i89_50 : insAt 89 50 = some (.getfield 10, 3, (11, 0, 0, 0), 3) := rfl
theorem s89_50 {c : Nat → List AV → SS → Option Out} {l0 l1 l2 l3 l4 : Option AV} {j t : Nat} {L2 : List (Nat × AV)} {St : List AV} {S : SS} : ev c 89 50 [l0, l1, l2, l3, l4] L2 (aR (11, j, t) :: St) S = ev c 89 53 [l0, l1, l2, l3, l4] L2 (S.2.2.1 (11, j, t) 0 :: St) S := ev_go i89_50 rfl
theorem i89_53 : insAt 89 53 = some (.iload_n 3, 1, (0, 0, 0, 0), 0) := rfl
theorem s89_53 {c : Nat → List AV → SS → Option Out} {l0 l1 l2 l4 : Option AV} {x : Int32} {L2 : List (Nat × AV)} {St : List AV} {S : SS} : ev c 89 53 [l0, l1, l2, some (aI x), l4] L2 St S = ev c 89 54 [l0, l1, l2, some (aI x), l4] L2 (aI x :: St) S := ev_go i89_53 rfl
theorem i89_54 : insAt 89 54 = some (.invokevirtual 125, 3, (17, 1, 3, 4), 87) := rfl
theorem s89_54 {c : Nat → List AV → SS → Option Out} {l0 l1 l2 l3 l4 : Option AV} {a0 : Int32} {j t : Nat} {L2 : List (Nat × AV)} {S : SS} : ev c 89 54 [l0, l1, l2, l3, l4] L2 [aI a0, aR (4, j, t)] S = ck (c 17 [aR (4, j, t), aI a0] S) (fun v S' => ev c 89 57 [l0, l1, l2, l3, l4] L2 (v.toList ++ []) S') := ev_call i89_54 rfl
theorem i89_57 : insAt 89 57 = some (.astore 4, 2, (0, 0, 0, 0), 0) := rfl
theorem s89_57 {c : Nat → List AV → SS → Option Out} {l0 l1 l2 l3 l4 : Option AV} {o : OId} {L2 : List (Nat × AV)} {St : List AV} {S : SS} : ev c 89 57 [l0, l1, l2, l3, l4] L2 (aR o :: St) S = ev c 89 59 [l0, l1, l2, l3, some (aR o)] (kil L2 4) St S := ev_go i89_57 rfl
theorem i89_59 : insAt 89 59 = some (.aload 4, 2, (0, 0, 0, 0), 0) := rfl
theorem s89_59 {c : Nat → List AV → SS → Option Out} {l0 l1 l2 l3 : Option AV} {o : OId} {L2 : List (Nat × AV)} {St : List AV} {S : SS} : ev c 89 59 [l0, l1, l2, l3, some (aR o)] L2 St S = ev c 89 61 [l0, l1, l2, l3, some (aR o)] L2 (aR o :: St) S := ev_go i89_59 rfl
theorem i89_61 : insAt 89 61 = some (.iconst 0, 1, (0, 0, 0, 0), 0) := rfl
theorem s89_61 {c : Nat → List AV → SS → Option Out} {l0 l1 l2 l3 l4 : Option AV} {L2 : List (Nat × AV)} {St : List AV} {S : SS} : ev c 89 61 [l0, l1, l2, l3, l4] L2 St S = ev c 89 62 [l0, l1, l2, l3, l4] L2 (aI 0 :: St) S := ev_go i89_61 rfl
theorem i89_62 : insAt 89 62 = some (.putfield 138, 3, (10, 5, 1, 0), 142) := rfl
theorem s89_62 {c : Nat → List AV → SS → Option Out} {l0 l1 l2 l3 l4 : Option AV} {j t : Nat} {x : Int32} {L2 : List (Nat × AV)} {St : List AV} {S : SS} : ev c 89 62 [l0, l1, l2, l3, l4] L2 (aI x :: aR (10, j, t) :: St) S = if x = 0 ∨ x = 1 then ev c 89 65 [l0, l1, l2, l3, l4] L2 St (setI S.1 (10, j, t) 5 x, S.2) else none := ev_if i89_62 rfl
theorem i89_65 : insAt 89 65 = some (.aload 4, 2, (0, 0, 0, 0), 0) := rfl
theorem s89_65 {c : Nat → List AV → SS → Option Out} {l0 l1 l2 l3 : Option AV} {o : OId} {L2 : List (Nat × AV)} {St : List AV} {S : SS} : ev c 89 65 [l0, l1, l2, l3, some (aR o)] L2 St S = ev c 89 67 [l0, l1, l2, l3, some (aR o)] L2 (aR o :: St) S := ev_go i89_65 rfl
theorem i89_67 : insAt 89 67 = some (.aload_n 0, 1, (0, 0, 0, 0), 0) := rfl
theorem s89_67 {c : Nat → List AV → SS → Option Out} {l1 l2 l3 l4 : Option AV} {o : OId} {L2 : List (Nat × AV)} {St : List AV} {S : SS} : ev c 89 67 [some (aR o), l1, l2, l3, l4] L2 St S = ev c 89 68 [some (aR o), l1, l2, l3, l4] L2 (aR o :: St) S := ev_go i89_67 rfl
theorem i89_68 : insAt 89 68 = some (.getfield 10, 3, (11, 0, 0, 0), 3) := rfl
theorem s89_68 {c : Nat → List AV → SS → Option Out} {l0 l1 l2 l3 l4 : Option AV} {j t : Nat} {L2 : List (Nat × AV)} {St : List AV} {S : SS} : ev c 89 68 [l0, l1, l2, l3, l4] L2 (aR (11, j, t) :: St) S = ev c 89 71 [l0, l1, l2, l3, l4] L2 (S.2.2.1 (11, j, t) 0 :: St) S := ev_go i89_68 rfl
theorem i89_71 : insAt 89 71 = some (.getfield 98, 3, (4, 3, 1, 0), 78) := rfl
theorem s89_71 {c : Nat → List AV → SS → Option Out} {l0 l1 l2 l3 l4 : Option AV} {j t : Nat} {L2 : List (Nat × AV)} {St : List AV} {S : SS} : ev c 89 71 [l0, l1, l2, l3, l4] L2 (aR (4, j, t) :: St) S = ev c 89 74 [l0, l1, l2, l3, l4] L2 (aI (S.1 (4, j, t) 3) :: St) S := ev_go i89_71 rfl
theorem i89_74 : insAt 89 74 = some (.iload_n 2, 1, (0, 0, 0, 0), 0) := rfl
theorem s89_74 {c : Nat → List AV → SS → Option Out} {l0 l1 l3 l4 : Option AV} {x : Int32} {L2 : List (Nat × AV)} {St : List AV} {S : SS} : ev c 89 74 [l0, l1, some (aI x), l3, l4] L2 St S = ev c 89 75 [l0, l1, some (aI x), l3, l4] L2 (aI x :: St) S := ev_go i89_74 rfl
theorem i89_75 : insAt 89 75 = some (.iadd, 1, (0, 0, 0, 0), 0) := rfl
theorem s89_75 {c : Nat → List AV → SS → Option Out} {l0 l1 l2 l3 l4 : Option AV} {x y : Int32} {L2 : List (Nat × AV)} {St : List AV} {S : SS} : ev c 89 75 [l0, l1, l2, l3, l4] L2 (aI y :: aI x :: St) S = ev c 89 76 [l0, l1, l2, l3, l4] L2 (aI (x + y) :: St) S := ev_go i89_75 rfl
theorem i89_76 : insAt 89 76 = some (.putfield 143, 3, (10, 4, 1, 0), 88) := rfl
theorem s89_76 {c : Nat → List AV → SS → Option Out} {l0 l1 l2 l3 l4 : Option AV} {j t : Nat} {x : Int32} {L2 : List (Nat × AV)} {St : List AV} {S : SS} : ev c 89 76 [l0, l1, l2, l3, l4] L2 (aI x :: aR (10, j, t) :: St) S = ev c 89 79 [l0, l1, l2, l3, l4] L2 St (setI S.1 (10, j, t) 4 x, S.2) := ev_go i89_76 rfl
theorem i89_79 : insAt 89 79 = some (.aload 4, 2, (0, 0, 0, 0), 0) := rfl
theorem s89_79 {c : Nat → List AV → SS → Option Out} {l0 l1 l2 l3 : Option AV} {o : OId} {L2 : List (Nat × AV)} {St : List AV} {S : SS} : ev c 89 79 [l0, l1, l2, l3, some (aR o)] L2 St S = ev c 89 81 [l0, l1, l2, l3, some (aR o)] L2 (aR o :: St) S := ev_go i89_79 rfl
theorem i89_81 : insAt 89 81 = some (.getfield 143, 3, (10, 4, 1, 0), 88) := rfl
theorem s89_81 {c : Nat → List AV → SS → Option Out} {l0 l1 l2 l3 l4 : Option AV} {j t : Nat} {L2 : List (Nat × AV)} {St : List AV} {S : SS} : ev c 89 81 [l0, l1, l2, l3, l4] L2 (aR (10, j, t) :: St) S = ev c 89 84 [l0, l1, l2, l3, l4] L2 (aI (S.1 (10, j, t) 4) :: St) S := ev_go i89_81 rfl
theorem i89_84 : insAt 89 84 = some (.ireturn, 1, (0, 0, 0, 0), 0) := rfl
theorem s89_84 {c : Nat → List AV → SS → Option Out} {l0 l1 l2 l3 l4 : Option AV} {x : Int32} {L2 : List (Nat × AV)} {S : SS} : ev c 89 84 [l0, l1, l2, l3, l4] L2 [aI x] S = some (.inl (some (aI x)), S) := ev_end i89_84 rfl
theorem m89 {d : Nat} {o : OId} {a0 : Int32} {a1 : Int32} {S : SS} : evm (d + 1) 89 [aR o, aI a0, aI a1] S = ev (evm d) 89 0 [some (aR o), some (aI a0), some (aI a1), none, none] [] [] S := evm_s (n := 5) rfl (Nat.le_of_ble_eq_true rfl) rfl rfl
/-! FrequencyOffice.placeOf(I)I -/
theorem i90_0 : insAt 90 0 = some (.aload_n 0, 1, (0, 0, 0, 0), 0) := rfl
theorem s90_0 {c : Nat → List AV → SS → Option Out} {l1 l2 : Option AV} {o : OId} {L2 : List (Nat × AV)} {St : List AV} {S : SS} : ev c 90 0 [some (aR o), l1, l2] L2 St S = ev c 90 1 [some (aR o), l1, l2] L2 (aR o :: St) S := ev_go i90_0 rfl
theorem i90_1 : insAt 90 1 = some (.getfield 10, 3, (11, 0, 0, 0), 3) := rfl
theorem s90_1 {c : Nat → List AV → SS → Option Out} {l0 l1 l2 : Option AV} {j t : Nat} {L2 : List (Nat × AV)} {St : List AV} {S : SS} : ev c 90 1 [l0, l1, l2] L2 (aR (11, j, t) :: St) S = ev c 90 4 [l0, l1, l2] L2 (S.2.2.1 (11, j, t) 0 :: St) S := ev_go i90_1 rfl
theorem i90_4 : insAt 90 4 = some (.iload_n 1, 1, (0, 0, 0, 0), 0) := rfl
theorem s90_4 {c : Nat → List AV → SS → Option Out} {l0 l2 : Option AV} {x : Int32} {L2 : List (Nat × AV)} {St : List AV} {S : SS} : ev c 90 4 [l0, some (aI x), l2] L2 St S = ev c 90 5 [l0, some (aI x), l2] L2 (aI x :: St) S := ev_go i90_4 rfl
theorem i90_5 : insAt 90 5 = some (.invokevirtual 168, 3, (19, 1, 3, 4), 83) := rfl
theorem s90_5 {c : Nat → List AV → SS → Option Out} {l0 l1 l2 : Option AV} {a0 : Int32} {j t : Nat} {L2 : List (Nat × AV)} {S : SS} : ev c 90 5 [l0, l1, l2] L2 [aI a0, aR (4, j, t)] S = ck (c 19 [aR (4, j, t), aI a0] S) (fun v S' => ev c 90 8 [l0, l1, l2] L2 (v.toList ++ []) S') := ev_call i90_5 rfl
theorem i90_8 : insAt 90 8 = some (.istore_n 2, 1, (0, 0, 0, 0), 0) := rfl
theorem s90_8 {c : Nat → List AV → SS → Option Out} {l0 l1 l2 : Option AV} {x : Int32} {L2 : List (Nat × AV)} {St : List AV} {S : SS} : ev c 90 8 [l0, l1, l2] L2 (aI x :: St) S = ev c 90 9 [l0, l1, some (aI x)] (kil L2 2) St S := ev_go i90_8 rfl
theorem i90_9 : insAt 90 9 = some (.iload_n 2, 1, (0, 0, 0, 0), 0) := rfl
theorem s90_9 {c : Nat → List AV → SS → Option Out} {l0 l1 : Option AV} {x : Int32} {L2 : List (Nat × AV)} {St : List AV} {S : SS} : ev c 90 9 [l0, l1, some (aI x)] L2 St S = ev c 90 10 [l0, l1, some (aI x)] L2 (aI x :: St) S := ev_go i90_9 rfl
theorem i90_10 : insAt 90 10 = some (.iconst (-1), 1, (0, 0, 0, 0), 0) := rfl
theorem s90_10 {c : Nat → List AV → SS → Option Out} {l0 l1 l2 : Option AV} {L2 : List (Nat × AV)} {St : List AV} {S : SS} : ev c 90 10 [l0, l1, l2] L2 St S = ev c 90 11 [l0, l1, l2] L2 (aI (-1) :: St) S := ev_go i90_10 rfl
theorem i90_11 : insAt 90 11 = some (.if_icmp .ne 14, 3, (0, 0, 0, 0), 0) := rfl
theorem s90_11 {c : Nat → List AV → SS → Option Out} {l0 l1 l2 : Option AV} {x y : Int32} {L2 : List (Nat × AV)} {St : List AV} {S : SS} : ev c 90 11 [l0, l1, l2] L2 (aI y :: aI x :: St) S = if x = y then ev c 90 14 [l0, l1, l2] L2 St S else ev c 90 25 [l0, l1, l2] L2 St S := (ev_br i90_11 rfl).trans (ite_not _ _ _)
theorem i90_14 : insAt 90 14 = some (.new 259, 3, (3, 0, 1, 0), 221) := rfl
theorem s90_14 {c : Nat → List AV → SS → Option Out} {l0 l1 l2 : Option AV} {L2 : List (Nat × AV)} {S : SS} : ev c 90 14 [l0, l1, l2] L2 [] S = some (.inr "java/util/NoSuchElementException", bump S 1 6) := ev_end i90_14 rfl
theorem i90_17 : insAt 90 17 = some (.dup, 1, (0, 0, 0, 0), 0) := rfl
theorem s90_17 {c : Nat → List AV → SS → Option Out} {l0 l1 l2 : Option AV} {x : OId} {L2 : List (Nat × AV)} {St : List AV} {S : SS} : ev c 90 17 [l0, l1, l2] L2 (aR x :: St) S = ev c 90 18 [l0, l1, l2] L2 (aR x :: aR x :: St) S := ev_go i90_17 rfl
theorem i90_25 : insAt 90 25 = some (.iload_n 2, 1, (0, 0, 0, 0), 0) := rfl
theorem s90_25 {c : Nat → List AV → SS → Option Out} {l0 l1 : Option AV} {x : Int32} {L2 : List (Nat × AV)} {St : List AV} {S : SS} : ev c 90 25 [l0, l1, some (aI x)] L2 St S = ev c 90 26 [l0, l1, some (aI x)] L2 (aI x :: St) S := ev_go i90_25 rfl
theorem i90_26 : insAt 90 26 = some (.ireturn, 1, (0, 0, 0, 0), 0) := rfl
theorem s90_26 {c : Nat → List AV → SS → Option Out} {l0 l1 l2 : Option AV} {x : Int32} {L2 : List (Nat × AV)} {S : SS} : ev c 90 26 [l0, l1, l2] L2 [aI x] S = some (.inl (some (aI x)), S) := ev_end i90_26 rfl
theorem m90 {d : Nat} {o : OId} {a0 : Int32} {S : SS} : evm (d + 1) 90 [aR o, aI a0] S = ev (evm d) 90 0 [some (aR o), some (aI a0), none] [] [] S := evm_s (n := 3) rfl (Nat.le_of_ble_eq_true rfl) rfl rfl
/-! FrequencyOffice.renew(II)I -/
theorem i92_0 : insAt 92 0 = some (.aload_n 0, 1, (0, 0, 0, 0), 0) := rfl
theorem s92_0 {c : Nat → List AV → SS → Option Out} {l1 l2 l3 : Option AV} {o : OId} {L2 : List (Nat × AV)} {St : List AV} {S : SS} : ev c 92 0 [some (aR o), l1, l2, l3] L2 St S = ev c 92 1 [some (aR o), l1, l2, l3] L2 (aR o :: St) S := ev_go i92_0 rfl
theorem i92_1 : insAt 92 1 = some (.getfield 10, 3, (11, 0, 0, 0), 3) := rfl
theorem s92_1 {c : Nat → List AV → SS → Option Out} {l0 l1 l2 l3 : Option AV} {j t : Nat} {L2 : List (Nat × AV)} {St : List AV} {S : SS} : ev c 92 1 [l0, l1, l2, l3] L2 (aR (11, j, t) :: St) S = ev c 92 4 [l0, l1, l2, l3] L2 (S.2.2.1 (11, j, t) 0 :: St) S := ev_go i92_1 rfl
theorem i92_4 : insAt 92 4 = some (.aload_n 0, 1, (0, 0, 0, 0), 0) := rfl
theorem s92_4 {c : Nat → List AV → SS → Option Out} {l1 l2 l3 : Option AV} {o : OId} {L2 : List (Nat × AV)} {St : List AV} {S : SS} : ev c 92 4 [some (aR o), l1, l2, l3] L2 St S = ev c 92 5 [some (aR o), l1, l2, l3] L2 (aR o :: St) S := ev_go i92_4 rfl
theorem i92_5 : insAt 92 5 = some (.iload_n 1, 1, (0, 0, 0, 0), 0) := rfl
theorem s92_5 {c : Nat → List AV → SS → Option Out} {l0 l2 l3 : Option AV} {x : Int32} {L2 : List (Nat × AV)} {St : List AV} {S : SS} : ev c 92 5 [l0, some (aI x), l2, l3] L2 St S = ev c 92 6 [l0, some (aI x), l2, l3] L2 (aI x :: St) S := ev_go i92_5 rfl
theorem i92_6 : insAt 92 6 = some (.invokevirtual 134, 3, (90, 1, 2, 11), 220) := rfl
theorem s92_6 {c : Nat → List AV → SS → Option Out} {l0 l1 l2 l3 : Option AV} {t0 : AV} {a0 : Int32} {j t : Nat} {L2 : List (Nat × AV)} {S : SS} : ev c 92 6 [l0, l1, l2, l3] L2 [aI a0, aR (11, j, t), t0] S = ck (c 90 [aR (11, j, t), aI a0] S) (fun v S' => ev c 92 9 [l0, l1, l2, l3] L2 (v.toList ++ [t0]) S') := ev_call i92_6 rfl
theorem i92_9 : insAt 92 9 = some (.invokevirtual 125, 3, (17, 1, 3, 4), 87) := rfl
theorem s92_9 {c : Nat → List AV → SS → Option Out} {l0 l1 l2 l3 : Option AV} {a0 : Int32} {j t : Nat} {L2 : List (Nat × AV)} {S : SS} : ev c 92 9 [l0, l1, l2, l3] L2 [aI a0, aR (4, j, t)] S = ck (c 17 [aR (4, j, t), aI a0] S) (fun v S' => ev c 92 12 [l0, l1, l2, l3] L2 (v.toList ++ []) S') := ev_call i92_9 rfl
theorem i92_12 : insAt 92 12 = some (.astore_n 3, 1, (0, 0, 0, 0), 0) := rfl
theorem s92_12 {c : Nat → List AV → SS → Option Out} {l0 l1 l2 l3 : Option AV} {o : OId} {L2 : List (Nat × AV)} {St : List AV} {S : SS} : ev c 92 12 [l0, l1, l2, l3] L2 (aR o :: St) S = ev c 92 13 [l0, l1, l2, some (aR o)] (kil L2 3) St S := ev_go i92_12 rfl
theorem i92_13 : insAt 92 13 = some (.iload_n 2, 1, (0, 0, 0, 0), 0) := rfl
theorem s92_13 {c : Nat → List AV → SS → Option Out} {l0 l1 l3 : Option AV} {x : Int32} {L2 : List (Nat × AV)} {St : List AV} {S : SS} : ev c 92 13 [l0, l1, some (aI x), l3] L2 St S = ev c 92 14 [l0, l1, some (aI x), l3] L2 (aI x :: St) S := ev_go i92_13 rfl
theorem i92_14 : insAt 92 14 = some (.iconst 1, 1, (0, 0, 0, 0), 0) := rfl
theorem s92_14 {c : Nat → List AV → SS → Option Out} {l0 l1 l2 l3 : Option AV} {L2 : List (Nat × AV)} {St : List AV} {S : SS} : ev c 92 14 [l0, l1, l2, l3] L2 St S = ev c 92 15 [l0, l1, l2, l3] L2 (aI 1 :: St) S := ev_go i92_14 rfl
theorem i92_15 : insAt 92 15 = some (.sipush 365, 3, (0, 0, 0, 0), 0) := rfl
theorem s92_15 {c : Nat → List AV → SS → Option Out} {l0 l1 l2 l3 : Option AV} {L2 : List (Nat × AV)} {St : List AV} {S : SS} : ev c 92 15 [l0, l1, l2, l3] L2 St S = ev c 92 18 [l0, l1, l2, l3] L2 (aI 365 :: St) S := ev_go i92_15 rfl
theorem i92_18 : insAt 92 18 = some (.invokestatic 56, 3, (58, 3, 0, 0), 155) := rfl
theorem s92_18 {c : Nat → List AV → SS → Option Out} {l0 l1 l2 l3 : Option AV} {a0 : Int32} {a1 : Int32} {a2 : Int32} {L2 : List (Nat × AV)} {S : SS} : ev c 92 18 [l0, l1, l2, l3] L2 [aI a2, aI a1, aI a0] S = ck (c 58 [aI a0, aI a1, aI a2] S) (fun v S' => ev c 92 21 [l0, l1, l2, l3] L2 (v.toList ++ []) S') := ev_call i92_18 rfl
theorem i92_21 : insAt 92 21 = some (.aload_n 3, 1, (0, 0, 0, 0), 0) := rfl
theorem s92_21 {c : Nat → List AV → SS → Option Out} {l0 l1 l2 : Option AV} {o : OId} {L2 : List (Nat × AV)} {St : List AV} {S : SS} : ev c 92 21 [l0, l1, l2, some (aR o)] L2 St S = ev c 92 22 [l0, l1, l2, some (aR o)] L2 (aR o :: St) S := ev_go i92_21 rfl
theorem i92_22 : insAt 92 22 = some (.invokestatic 146, 3, (93, 1, 0, 0), 223) := rfl
theorem s92_22 {c : Nat → List AV → SS → Option Out} {l0 l1 l2 l3 : Option AV} {a0 : OId} {L2 : List (Nat × AV)} {S : SS} : ev c 92 22 [l0, l1, l2, l3] L2 [aR a0] S = ck (c 93 [aR a0] S) (fun v S' => ev c 92 25 [l0, l1, l2, l3] L2 (v.toList ++ []) S') := ev_call i92_22 rfl
theorem i92_25 : insAt 92 25 = some (.aload_n 3, 1, (0, 0, 0, 0), 0) := rfl
theorem s92_25 {c : Nat → List AV → SS → Option Out} {l0 l1 l2 : Option AV} {o : OId} {L2 : List (Nat × AV)} {St : List AV} {S : SS} : ev c 92 25 [l0, l1, l2, some (aR o)] L2 St S = ev c 92 26 [l0, l1, l2, some (aR o)] L2 (aR o :: St) S := ev_go i92_25 rfl
theorem i92_26 : insAt 92 26 = some (.getfield 143, 3, (10, 4, 1, 0), 88) := rfl
theorem s92_26 {c : Nat → List AV → SS → Option Out} {l0 l1 l2 l3 : Option AV} {j t : Nat} {L2 : List (Nat × AV)} {St : List AV} {S : SS} : ev c 92 26 [l0, l1, l2, l3] L2 (aR (10, j, t) :: St) S = ev c 92 29 [l0, l1, l2, l3] L2 (aI (S.1 (10, j, t) 4) :: St) S := ev_go i92_26 rfl
theorem i92_29 : insAt 92 29 = some (.iload_n 2, 1, (0, 0, 0, 0), 0) := rfl
theorem s92_29 {c : Nat → List AV → SS → Option Out} {l0 l1 l3 : Option AV} {x : Int32} {L2 : List (Nat × AV)} {St : List AV} {S : SS} : ev c 92 29 [l0, l1, some (aI x), l3] L2 St S = ev c 92 30 [l0, l1, some (aI x), l3] L2 (aI x :: St) S := ev_go i92_29 rfl
theorem i92_30 : insAt 92 30 = some (.iadd, 1, (0, 0, 0, 0), 0) := rfl
theorem s92_30 {c : Nat → List AV → SS → Option Out} {l0 l1 l2 l3 : Option AV} {x y : Int32} {L2 : List (Nat × AV)} {St : List AV} {S : SS} : ev c 92 30 [l0, l1, l2, l3] L2 (aI y :: aI x :: St) S = ev c 92 31 [l0, l1, l2, l3] L2 (aI (x + y) :: St) S := ev_go i92_30 rfl
theorem i92_31 : insAt 92 31 = some (.aload_n 0, 1, (0, 0, 0, 0), 0) := rfl
theorem s92_31 {c : Nat → List AV → SS → Option Out} {l1 l2 l3 : Option AV} {o : OId} {L2 : List (Nat × AV)} {St : List AV} {S : SS} : ev c 92 31 [some (aR o), l1, l2, l3] L2 St S = ev c 92 32 [some (aR o), l1, l2, l3] L2 (aR o :: St) S := ev_go i92_31 rfl
theorem i92_32 : insAt 92 32 = some (.getfield 10, 3, (11, 0, 0, 0), 3) := rfl
theorem s92_32 {c : Nat → List AV → SS → Option Out} {l0 l1 l2 l3 : Option AV} {j t : Nat} {L2 : List (Nat × AV)} {St : List AV} {S : SS} : ev c 92 32 [l0, l1, l2, l3] L2 (aR (11, j, t) :: St) S = ev c 92 35 [l0, l1, l2, l3] L2 (S.2.2.1 (11, j, t) 0 :: St) S := ev_go i92_32 rfl
theorem i92_35 : insAt 92 35 = some (.getfield 98, 3, (4, 3, 1, 0), 78) := rfl
theorem s92_35 {c : Nat → List AV → SS → Option Out} {l0 l1 l2 l3 : Option AV} {j t : Nat} {L2 : List (Nat × AV)} {St : List AV} {S : SS} : ev c 92 35 [l0, l1, l2, l3] L2 (aR (4, j, t) :: St) S = ev c 92 38 [l0, l1, l2, l3] L2 (aI (S.1 (4, j, t) 3) :: St) S := ev_go i92_35 rfl
theorem i92_38 : insAt 92 38 = some (.sipush 365, 3, (0, 0, 0, 0), 0) := rfl
theorem s92_38 {c : Nat → List AV → SS → Option Out} {l0 l1 l2 l3 : Option AV} {L2 : List (Nat × AV)} {St : List AV} {S : SS} : ev c 92 38 [l0, l1, l2, l3] L2 St S = ev c 92 41 [l0, l1, l2, l3] L2 (aI 365 :: St) S := ev_go i92_38 rfl
theorem i92_41 : insAt 92 41 = some (.iadd, 1, (0, 0, 0, 0), 0) := rfl
theorem s92_41 {c : Nat → List AV → SS → Option Out} {l0 l1 l2 l3 : Option AV} {x y : Int32} {L2 : List (Nat × AV)} {St : List AV} {S : SS} : ev c 92 41 [l0, l1, l2, l3] L2 (aI y :: aI x :: St) S = ev c 92 42 [l0, l1, l2, l3] L2 (aI (x + y) :: St) S := ev_go i92_41 rfl
theorem i92_42 : insAt 92 42 = some (.if_icmp .le 13, 3, (0, 0, 0, 0), 0) := rfl
theorem s92_42 {c : Nat → List AV → SS → Option Out} {l0 l1 l2 l3 : Option AV} {x y : Int32} {L2 : List (Nat × AV)} {St : List AV} {S : SS} : ev c 92 42 [l0, l1, l2, l3] L2 (aI y :: aI x :: St) S = if x ≤ y then ev c 92 55 [l0, l1, l2, l3] L2 St S else ev c 92 45 [l0, l1, l2, l3] L2 St S := ev_br i92_42 rfl
theorem i92_45 : insAt 92 45 = some (.new 64, 3, (1, 0, 1, 0), 156) := rfl
theorem s92_45 {c : Nat → List AV → SS → Option Out} {l0 l1 l2 l3 : Option AV} {L2 : List (Nat × AV)} {S : SS} : ev c 92 45 [l0, l1, l2, l3] L2 [] S = some (.inr "java/lang/IllegalStateException", bump S 1 6) := ev_end i92_45 rfl
theorem i92_48 : insAt 92 48 = some (.dup, 1, (0, 0, 0, 0), 0) := rfl
theorem s92_48 {c : Nat → List AV → SS → Option Out} {l0 l1 l2 l3 : Option AV} {x : OId} {L2 : List (Nat × AV)} {St : List AV} {S : SS} : ev c 92 48 [l0, l1, l2, l3] L2 (aR x :: St) S = ev c 92 49 [l0, l1, l2, l3] L2 (aR x :: aR x :: St) S := ev_go i92_48 rfl
theorem i92_55 : insAt 92 55 = some (.aload_n 0, 1, (0, 0, 0, 0), 0) := rfl
theorem s92_55 {c : Nat → List AV → SS → Option Out} {l1 l2 l3 : Option AV} {o : OId} {L2 : List (Nat × AV)} {St : List AV} {S : SS} : ev c 92 55 [some (aR o), l1, l2, l3] L2 St S = ev c 92 56 [some (aR o), l1, l2, l3] L2 (aR o :: St) S := ev_go i92_55 rfl
theorem i92_56 : insAt 92 56 = some (.getfield 19, 3, (11, 1, 0, 0), 6) := rfl
theorem s92_56 {c : Nat → List AV → SS → Option Out} {l0 l1 l2 l3 : Option AV} {j t : Nat} {L2 : List (Nat × AV)} {St : List AV} {S : SS} : ev c 92 56 [l0, l1, l2, l3] L2 (aR (11, j, t) :: St) S = ev c 92 59 [l0, l1, l2, l3] L2 (S.2.2.1 (11, j, t) 1 :: St) S := ev_go i92_56 rfl
theorem i92_59 : insAt 92 59 = some (.aload_n 0, 1, (0, 0, 0, 0), 0) := rfl
theorem s92_59 {c : Nat → List AV → SS → Option Out} {l1 l2 l3 : Option AV} {o : OId} {L2 : List (Nat × AV)} {St : List AV} {S : SS} : ev c 92 59 [some (aR o), l1, l2, l3] L2 St S = ev c 92 60 [some (aR o), l1, l2, l3] L2 (aR o :: St) S := ev_go i92_59 rfl
theorem i92_60 : insAt 92 60 = some (.getfield 10, 3, (11, 0, 0, 0), 3) := rfl
theorem s92_60 {c : Nat → List AV → SS → Option Out} {l0 l1 l2 l3 : Option AV} {j t : Nat} {L2 : List (Nat × AV)} {St : List AV} {S : SS} : ev c 92 60 [l0, l1, l2, l3] L2 (aR (11, j, t) :: St) S = ev c 92 63 [l0, l1, l2, l3] L2 (S.2.2.1 (11, j, t) 0 :: St) S := ev_go i92_60 rfl
theorem i92_63 : insAt 92 63 = some (.invokevirtual 71, 3, (59, 1, 3, 5), 157) := rfl
theorem s92_63 {c : Nat → List AV → SS → Option Out} {l0 l1 l2 l3 : Option AV} {a0 : OId} {j t : Nat} {L2 : List (Nat × AV)} {S : SS} : ev c 92 63 [l0, l1, l2, l3] L2 [aR a0, aR (5, j, t)] S = ck (c 59 [aR (5, j, t), aR a0] S) (fun v S' => ev c 92 66 [l0, l1, l2, l3] L2 (v.toList ++ []) S') := ev_call i92_63 rfl
theorem i92_66 : insAt 92 66 = some (.aload_n 3, 1, (0, 0, 0, 0), 0) := rfl
theorem s92_66 {c : Nat → List AV → SS → Option Out} {l0 l1 l2 : Option AV} {o : OId} {L2 : List (Nat × AV)} {St : List AV} {S : SS} : ev c 92 66 [l0, l1, l2, some (aR o)] L2 St S = ev c 92 67 [l0, l1, l2, some (aR o)] L2 (aR o :: St) S := ev_go i92_66 rfl
theorem i92_67 : insAt 92 67 = some (.dup, 1, (0, 0, 0, 0), 0) := rfl
theorem s92_67 {c : Nat → List AV → SS → Option Out} {l0 l1 l2 l3 : Option AV} {x : OId} {L2 : List (Nat × AV)} {St : List AV} {S : SS} : ev c 92 67 [l0, l1, l2, l3] L2 (aR x :: St) S = ev c 92 68 [l0, l1, l2, l3] L2 (aR x :: aR x :: St) S := ev_go i92_67 rfl
theorem i92_68 : insAt 92 68 = some (.getfield 143, 3, (10, 4, 1, 0), 88) := rfl
theorem s92_68 {c : Nat → List AV → SS → Option Out} {l0 l1 l2 l3 : Option AV} {j t : Nat} {L2 : List (Nat × AV)} {St : List AV} {S : SS} : ev c 92 68 [l0, l1, l2, l3] L2 (aR (10, j, t) :: St) S = ev c 92 71 [l0, l1, l2, l3] L2 (aI (S.1 (10, j, t) 4) :: St) S := ev_go i92_68 rfl
theorem i92_71 : insAt 92 71 = some (.iload_n 2, 1, (0, 0, 0, 0), 0) := rfl
theorem s92_71 {c : Nat → List AV → SS → Option Out} {l0 l1 l3 : Option AV} {x : Int32} {L2 : List (Nat × AV)} {St : List AV} {S : SS} : ev c 92 71 [l0, l1, some (aI x), l3] L2 St S = ev c 92 72 [l0, l1, some (aI x), l3] L2 (aI x :: St) S := ev_go i92_71 rfl
theorem i92_72 : insAt 92 72 = some (.iadd, 1, (0, 0, 0, 0), 0) := rfl
theorem s92_72 {c : Nat → List AV → SS → Option Out} {l0 l1 l2 l3 : Option AV} {x y : Int32} {L2 : List (Nat × AV)} {St : List AV} {S : SS} : ev c 92 72 [l0, l1, l2, l3] L2 (aI y :: aI x :: St) S = ev c 92 73 [l0, l1, l2, l3] L2 (aI (x + y) :: St) S := ev_go i92_72 rfl
theorem i92_73 : insAt 92 73 = some (.putfield 143, 3, (10, 4, 1, 0), 88) := rfl
theorem s92_73 {c : Nat → List AV → SS → Option Out} {l0 l1 l2 l3 : Option AV} {j t : Nat} {x : Int32} {L2 : List (Nat × AV)} {St : List AV} {S : SS} : ev c 92 73 [l0, l1, l2, l3] L2 (aI x :: aR (10, j, t) :: St) S = ev c 92 76 [l0, l1, l2, l3] L2 St (setI S.1 (10, j, t) 4 x, S.2) := ev_go i92_73 rfl
theorem i92_76 : insAt 92 76 = some (.aload_n 3, 1, (0, 0, 0, 0), 0) := rfl
theorem s92_76 {c : Nat → List AV → SS → Option Out} {l0 l1 l2 : Option AV} {o : OId} {L2 : List (Nat × AV)} {St : List AV} {S : SS} : ev c 92 76 [l0, l1, l2, some (aR o)] L2 St S = ev c 92 77 [l0, l1, l2, some (aR o)] L2 (aR o :: St) S := ev_go i92_76 rfl
theorem i92_77 : insAt 92 77 = some (.getfield 143, 3, (10, 4, 1, 0), 88) := rfl
theorem s92_77 {c : Nat → List AV → SS → Option Out} {l0 l1 l2 l3 : Option AV} {j t : Nat} {L2 : List (Nat × AV)} {St : List AV} {S : SS} : ev c 92 77 [l0, l1, l2, l3] L2 (aR (10, j, t) :: St) S = ev c 92 80 [l0, l1, l2, l3] L2 (aI (S.1 (10, j, t) 4) :: St) S := ev_go i92_77 rfl
theorem i92_80 : insAt 92 80 = some (.ireturn, 1, (0, 0, 0, 0), 0) := rfl
theorem s92_80 {c : Nat → List AV → SS → Option Out} {l0 l1 l2 l3 : Option AV} {x : Int32} {L2 : List (Nat × AV)} {S : SS} : ev c 92 80 [l0, l1, l2, l3] L2 [aI x] S = some (.inl (some (aI x)), S) := ev_end i92_80 rfl
theorem m92 {d : Nat} {o : OId} {a0 : Int32} {a1 : Int32} {S : SS} : evm (d + 1) 92 [aR o, aI a0, aI a1] S = ev (evm d) 92 0 [some (aR o), some (aI a0), some (aI a1), none] [] [] S := evm_s (n := 4) rfl (Nat.le_of_ble_eq_true rfl) rfl rfl
/-! FrequencyOffice.checkLicensed(LFrequencyOffice$Station;)V -/
theorem i93_0 : insAt 93 0 = some (.aload_n 0, 1, (0, 0, 0, 0), 0) := rfl
theorem s93_0 {c : Nat → List AV → SS → Option Out} {o : OId} {L2 : List (Nat × AV)} {St : List AV} {S : SS} : ev c 93 0 [some (aR o)] L2 St S = ev c 93 1 [some (aR o)] L2 (aR o :: St) S := ev_go i93_0 rfl
theorem i93_1 : insAt 93 1 = some (.getfield 138, 3, (10, 5, 1, 0), 142) := rfl
theorem s93_1 {c : Nat → List AV → SS → Option Out} {l0 : Option AV} {j t : Nat} {L2 : List (Nat × AV)} {St : List AV} {S : SS} : ev c 93 1 [l0] L2 (aR (10, j, t) :: St) S = ev c 93 4 [l0] L2 (aI (bb (S.1 (10, j, t) 5)) :: St) S := ev_go i93_1 rfl
theorem i93_4 : insAt 93 4 = some (.ifCond .eq 14, 3, (0, 0, 0, 0), 0) := rfl
theorem s93_4 {c : Nat → List AV → SS → Option Out} {l0 : Option AV} {x : Int32} {L2 : List (Nat × AV)} {St : List AV} {S : SS} : ev c 93 4 [l0] L2 (aI x :: St) S = if x = 0 then ev c 93 18 [l0] L2 St S else ev c 93 7 [l0] L2 St S := ev_br i93_4 rfl
theorem i93_7 : insAt 93 7 = some (.new 64, 3, (1, 0, 1, 0), 156) := rfl
theorem s93_7 {c : Nat → List AV → SS → Option Out} {l0 : Option AV} {L2 : List (Nat × AV)} {S : SS} : ev c 93 7 [l0] L2 [] S = some (.inr "java/lang/IllegalStateException", bump S 1 6) := ev_end i93_7 rfl
theorem i93_10 : insAt 93 10 = some (.dup, 1, (0, 0, 0, 0), 0) := rfl
theorem s93_10 {c : Nat → List AV → SS → Option Out} {l0 : Option AV} {x : OId} {L2 : List (Nat × AV)} {St : List AV} {S : SS} : ev c 93 10 [l0] L2 (aR x :: St) S = ev c 93 11 [l0] L2 (aR x :: aR x :: St) S := ev_go i93_10 rfl
theorem i93_18 : insAt 93 18 = some (.return_, 1, (0, 0, 0, 0), 0) := rfl
theorem s93_18 {c : Nat → List AV → SS → Option Out} {l0 : Option AV} {L2 : List (Nat × AV)} {S : SS} : ev c 93 18 [l0] L2 [] S = some (.inl none, S) := ev_end i93_18 rfl
theorem m93 {d : Nat} {a0 : OId} {S : SS} : evm (d + 1) 93 [aR a0] S = ev (evm d) 93 0 [some (aR a0)] [] [] S := evm_s (n := 1) rfl (Nat.le_of_ble_eq_true rfl) rfl rfl
/-! FrequencyOffice.close(I)I -/
theorem i95_0 : insAt 95 0 = some (.aload_n 0, 1, (0, 0, 0, 0), 0) := rfl
theorem s95_0 {c : Nat → List AV → SS → Option Out} {l1 l2 : Option AV} {o : OId} {L2 : List (Nat × AV)} {St : List AV} {S : SS} : ev c 95 0 [some (aR o), l1, l2] L2 St S = ev c 95 1 [some (aR o), l1, l2] L2 (aR o :: St) S := ev_go i95_0 rfl
theorem i95_1 : insAt 95 1 = some (.iload_n 1, 1, (0, 0, 0, 0), 0) := rfl
theorem s95_1 {c : Nat → List AV → SS → Option Out} {l0 l2 : Option AV} {x : Int32} {L2 : List (Nat × AV)} {St : List AV} {S : SS} : ev c 95 1 [l0, some (aI x), l2] L2 St S = ev c 95 2 [l0, some (aI x), l2] L2 (aI x :: St) S := ev_go i95_1 rfl
theorem i95_2 : insAt 95 2 = some (.invokevirtual 134, 3, (90, 1, 2, 11), 220) := rfl
theorem s95_2 {c : Nat → List AV → SS → Option Out} {l0 l1 l2 : Option AV} {a0 : Int32} {j t : Nat} {L2 : List (Nat × AV)} {S : SS} : ev c 95 2 [l0, l1, l2] L2 [aI a0, aR (11, j, t)] S = ck (c 90 [aR (11, j, t), aI a0] S) (fun v S' => ev c 95 5 [l0, l1, l2] L2 (v.toList ++ []) S') := ev_call i95_2 rfl
theorem i95_5 : insAt 95 5 = some (.istore_n 2, 1, (0, 0, 0, 0), 0) := rfl
theorem s95_5 {c : Nat → List AV → SS → Option Out} {l0 l1 l2 : Option AV} {x : Int32} {L2 : List (Nat × AV)} {St : List AV} {S : SS} : ev c 95 5 [l0, l1, l2] L2 (aI x :: St) S = ev c 95 6 [l0, l1, some (aI x)] (kil L2 2) St S := ev_go i95_5 rfl
theorem i95_6 : insAt 95 6 = some (.aload_n 0, 1, (0, 0, 0, 0), 0) := rfl
theorem s95_6 {c : Nat → List AV → SS → Option Out} {l1 l2 : Option AV} {o : OId} {L2 : List (Nat × AV)} {St : List AV} {S : SS} : ev c 95 6 [some (aR o), l1, l2] L2 St S = ev c 95 7 [some (aR o), l1, l2] L2 (aR o :: St) S := ev_go i95_6 rfl
theorem i95_7 : insAt 95 7 = some (.getfield 19, 3, (11, 1, 0, 0), 6) := rfl
theorem s95_7 {c : Nat → List AV → SS → Option Out} {l0 l1 l2 : Option AV} {j t : Nat} {L2 : List (Nat × AV)} {St : List AV} {S : SS} : ev c 95 7 [l0, l1, l2] L2 (aR (11, j, t) :: St) S = ev c 95 10 [l0, l1, l2] L2 (S.2.2.1 (11, j, t) 1 :: St) S := ev_go i95_7 rfl
theorem i95_10 : insAt 95 10 = some (.aload_n 0, 1, (0, 0, 0, 0), 0) := rfl
theorem s95_10 {c : Nat → List AV → SS → Option Out} {l1 l2 : Option AV} {o : OId} {L2 : List (Nat × AV)} {St : List AV} {S : SS} : ev c 95 10 [some (aR o), l1, l2] L2 St S = ev c 95 11 [some (aR o), l1, l2] L2 (aR o :: St) S := ev_go i95_10 rfl
theorem i95_11 : insAt 95 11 = some (.getfield 10, 3, (11, 0, 0, 0), 3) := rfl
theorem s95_11 {c : Nat → List AV → SS → Option Out} {l0 l1 l2 : Option AV} {j t : Nat} {L2 : List (Nat × AV)} {St : List AV} {S : SS} : ev c 95 11 [l0, l1, l2] L2 (aR (11, j, t) :: St) S = ev c 95 14 [l0, l1, l2] L2 (S.2.2.1 (11, j, t) 0 :: St) S := ev_go i95_11 rfl
theorem i95_14 : insAt 95 14 = some (.invokevirtual 71, 3, (59, 1, 3, 5), 157) := rfl
theorem s95_14 {c : Nat → List AV → SS → Option Out} {l0 l1 l2 : Option AV} {a0 : OId} {j t : Nat} {L2 : List (Nat × AV)} {S : SS} : ev c 95 14 [l0, l1, l2] L2 [aR a0, aR (5, j, t)] S = ck (c 59 [aR (5, j, t), aR a0] S) (fun v S' => ev c 95 17 [l0, l1, l2] L2 (v.toList ++ []) S') := ev_call i95_14 rfl
theorem i95_17 : insAt 95 17 = some (.aload_n 0, 1, (0, 0, 0, 0), 0) := rfl
theorem s95_17 {c : Nat → List AV → SS → Option Out} {l1 l2 : Option AV} {o : OId} {L2 : List (Nat × AV)} {St : List AV} {S : SS} : ev c 95 17 [some (aR o), l1, l2] L2 St S = ev c 95 18 [some (aR o), l1, l2] L2 (aR o :: St) S := ev_go i95_17 rfl
theorem i95_18 : insAt 95 18 = some (.getfield 10, 3, (11, 0, 0, 0), 3) := rfl
theorem s95_18 {c : Nat → List AV → SS → Option Out} {l0 l1 l2 : Option AV} {j t : Nat} {L2 : List (Nat × AV)} {St : List AV} {S : SS} : ev c 95 18 [l0, l1, l2] L2 (aR (11, j, t) :: St) S = ev c 95 21 [l0, l1, l2] L2 (S.2.2.1 (11, j, t) 0 :: St) S := ev_go i95_18 rfl
theorem i95_21 : insAt 95 21 = some (.iload_n 2, 1, (0, 0, 0, 0), 0) := rfl
theorem s95_21 {c : Nat → List AV → SS → Option Out} {l0 l1 : Option AV} {x : Int32} {L2 : List (Nat × AV)} {St : List AV} {S : SS} : ev c 95 21 [l0, l1, some (aI x)] L2 St S = ev c 95 22 [l0, l1, some (aI x)] L2 (aI x :: St) S := ev_go i95_21 rfl
theorem i95_22 : insAt 95 22 = some (.invokevirtual 152, 3, (81, 1, 3, 4), 225) := rfl
theorem s95_22 {c : Nat → List AV → SS → Option Out} {l0 l1 l2 : Option AV} {a0 : Int32} {j t : Nat} {L2 : List (Nat × AV)} {S : SS} : ev c 95 22 [l0, l1, l2] L2 [aI a0, aR (4, j, t)] S = ck (c 81 [aR (4, j, t), aI a0] S) (fun v S' => ev c 95 25 [l0, l1, l2] L2 (v.toList ++ []) S') := ev_call i95_22 rfl
theorem i95_25 : insAt 95 25 = some (.aload_n 0, 1, (0, 0, 0, 0), 0) := rfl
theorem s95_25 {c : Nat → List AV → SS → Option Out} {l1 l2 : Option AV} {o : OId} {L2 : List (Nat × AV)} {St : List AV} {S : SS} : ev c 95 25 [some (aR o), l1, l2] L2 St S = ev c 95 26 [some (aR o), l1, l2] L2 (aR o :: St) S := ev_go i95_25 rfl
theorem i95_26 : insAt 95 26 = some (.getfield 10, 3, (11, 0, 0, 0), 3) := rfl
theorem s95_26 {c : Nat → List AV → SS → Option Out} {l0 l1 l2 : Option AV} {j t : Nat} {L2 : List (Nat × AV)} {St : List AV} {S : SS} : ev c 95 26 [l0, l1, l2] L2 (aR (11, j, t) :: St) S = ev c 95 29 [l0, l1, l2] L2 (S.2.2.1 (11, j, t) 0 :: St) S := ev_go i95_26 rfl
theorem i95_29 : insAt 95 29 = some (.getfield 60, 3, (4, 7, 1, 0), 79) := rfl
theorem s95_29 {c : Nat → List AV → SS → Option Out} {l0 l1 l2 : Option AV} {j t : Nat} {L2 : List (Nat × AV)} {St : List AV} {S : SS} : ev c 95 29 [l0, l1, l2] L2 (aR (4, j, t) :: St) S = ev c 95 32 [l0, l1, l2] L2 (aI (S.1 (4, j, t) 7) :: St) S := ev_go i95_29 rfl
theorem i95_32 : insAt 95 32 = some (.ireturn, 1, (0, 0, 0, 0), 0) := rfl
theorem s95_32 {c : Nat → List AV → SS → Option Out} {l0 l1 l2 : Option AV} {x : Int32} {L2 : List (Nat × AV)} {S : SS} : ev c 95 32 [l0, l1, l2] L2 [aI x] S = some (.inl (some (aI x)), S) := ev_end i95_32 rfl
theorem m95 {d : Nat} {o : OId} {a0 : Int32} {S : SS} : evm (d + 1) 95 [aR o, aI a0] S = ev (evm d) 95 0 [some (aR o), some (aI a0), none] [] [] S := evm_s (n := 3) rfl (Nat.le_of_ble_eq_true rfl) rfl rfl
/-! FrequencyOffice.pass(I)I -/
theorem i97_0 : insAt 97 0 = some (.iload_n 1, 1, (0, 0, 0, 0), 0) := rfl
theorem s97_0 {c : Nat → List AV → SS → Option Out} {l0 l2 l3 : Option AV} {x : Int32} {L2 : List (Nat × AV)} {St : List AV} {S : SS} : ev c 97 0 [l0, some (aI x), l2, l3] L2 St S = ev c 97 1 [l0, some (aI x), l2, l3] L2 (aI x :: St) S := ev_go i97_0 rfl
theorem i97_1 : insAt 97 1 = some (.iconst 1, 1, (0, 0, 0, 0), 0) := rfl
theorem s97_1 {c : Nat → List AV → SS → Option Out} {l0 l1 l2 l3 : Option AV} {L2 : List (Nat × AV)} {St : List AV} {S : SS} : ev c 97 1 [l0, l1, l2, l3] L2 St S = ev c 97 2 [l0, l1, l2, l3] L2 (aI 1 :: St) S := ev_go i97_1 rfl
theorem i97_2 : insAt 97 2 = some (.bipush 99, 2, (0, 0, 0, 0), 0) := rfl
theorem s97_2 {c : Nat → List AV → SS → Option Out} {l0 l1 l2 l3 : Option AV} {L2 : List (Nat × AV)} {St : List AV} {S : SS} : ev c 97 2 [l0, l1, l2, l3] L2 St S = ev c 97 4 [l0, l1, l2, l3] L2 (aI 99 :: St) S := ev_go i97_2 rfl
theorem i97_4 : insAt 97 4 = some (.invokestatic 56, 3, (58, 3, 0, 0), 155) := rfl
theorem s97_4 {c : Nat → List AV → SS → Option Out} {l0 l1 l2 l3 : Option AV} {a0 : Int32} {a1 : Int32} {a2 : Int32} {L2 : List (Nat × AV)} {S : SS} : ev c 97 4 [l0, l1, l2, l3] L2 [aI a2, aI a1, aI a0] S = ck (c 58 [aI a0, aI a1, aI a2] S) (fun v S' => ev c 97 7 [l0, l1, l2, l3] L2 (v.toList ++ []) S') := ev_call i97_4 rfl
theorem i97_7 : insAt 97 7 = some (.aload_n 0, 1, (0, 0, 0, 0), 0) := rfl
theorem s97_7 {c : Nat → List AV → SS → Option Out} {l1 l2 l3 : Option AV} {o : OId} {L2 : List (Nat × AV)} {St : List AV} {S : SS} : ev c 97 7 [some (aR o), l1, l2, l3] L2 St S = ev c 97 8 [some (aR o), l1, l2, l3] L2 (aR o :: St) S := ev_go i97_7 rfl
theorem i97_8 : insAt 97 8 = some (.getfield 10, 3, (11, 0, 0, 0), 3) := rfl
theorem s97_8 {c : Nat → List AV → SS → Option Out} {l0 l1 l2 l3 : Option AV} {j t : Nat} {L2 : List (Nat × AV)} {St : List AV} {S : SS} : ev c 97 8 [l0, l1, l2, l3] L2 (aR (11, j, t) :: St) S = ev c 97 11 [l0, l1, l2, l3] L2 (S.2.2.1 (11, j, t) 0 :: St) S := ev_go i97_8 rfl
theorem i97_11 : insAt 97 11 = some (.getfield 98, 3, (4, 3, 1, 0), 78) := rfl
theorem s97_11 {c : Nat → List AV → SS → Option Out} {l0 l1 l2 l3 : Option AV} {j t : Nat} {L2 : List (Nat × AV)} {St : List AV} {S : SS} : ev c 97 11 [l0, l1, l2, l3] L2 (aR (4, j, t) :: St) S = ev c 97 14 [l0, l1, l2, l3] L2 (aI (S.1 (4, j, t) 3) :: St) S := ev_go i97_11 rfl
theorem i97_14 : insAt 97 14 = some (.iload_n 1, 1, (0, 0, 0, 0), 0) := rfl
theorem s97_14 {c : Nat → List AV → SS → Option Out} {l0 l2 l3 : Option AV} {x : Int32} {L2 : List (Nat × AV)} {St : List AV} {S : SS} : ev c 97 14 [l0, some (aI x), l2, l3] L2 St S = ev c 97 15 [l0, some (aI x), l2, l3] L2 (aI x :: St) S := ev_go i97_14 rfl
theorem i97_15 : insAt 97 15 = some (.iadd, 1, (0, 0, 0, 0), 0) := rfl
theorem s97_15 {c : Nat → List AV → SS → Option Out} {l0 l1 l2 l3 : Option AV} {x y : Int32} {L2 : List (Nat × AV)} {St : List AV} {S : SS} : ev c 97 15 [l0, l1, l2, l3] L2 (aI y :: aI x :: St) S = ev c 97 16 [l0, l1, l2, l3] L2 (aI (x + y) :: St) S := ev_go i97_15 rfl
theorem i97_16 : insAt 97 16 = some (.sipush 999, 3, (0, 0, 0, 0), 0) := rfl
theorem s97_16 {c : Nat → List AV → SS → Option Out} {l0 l1 l2 l3 : Option AV} {L2 : List (Nat × AV)} {St : List AV} {S : SS} : ev c 97 16 [l0, l1, l2, l3] L2 St S = ev c 97 19 [l0, l1, l2, l3] L2 (aI 999 :: St) S := ev_go i97_16 rfl
theorem i97_19 : insAt 97 19 = some (.if_icmp .le 13, 3, (0, 0, 0, 0), 0) := rfl
theorem s97_19 {c : Nat → List AV → SS → Option Out} {l0 l1 l2 l3 : Option AV} {x y : Int32} {L2 : List (Nat × AV)} {St : List AV} {S : SS} : ev c 97 19 [l0, l1, l2, l3] L2 (aI y :: aI x :: St) S = if x ≤ y then ev c 97 32 [l0, l1, l2, l3] L2 St S else ev c 97 22 [l0, l1, l2, l3] L2 St S := ev_br i97_19 rfl
theorem i97_22 : insAt 97 22 = some (.new 64, 3, (1, 0, 1, 0), 156) := rfl
theorem s97_22 {c : Nat → List AV → SS → Option Out} {l0 l1 l2 l3 : Option AV} {L2 : List (Nat × AV)} {S : SS} : ev c 97 22 [l0, l1, l2, l3] L2 [] S = some (.inr "java/lang/IllegalStateException", bump S 1 6) := ev_end i97_22 rfl
theorem i97_25 : insAt 97 25 = some (.dup, 1, (0, 0, 0, 0), 0) := rfl
theorem s97_25 {c : Nat → List AV → SS → Option Out} {l0 l1 l2 l3 : Option AV} {x : OId} {L2 : List (Nat × AV)} {St : List AV} {S : SS} : ev c 97 25 [l0, l1, l2, l3] L2 (aR x :: St) S = ev c 97 26 [l0, l1, l2, l3] L2 (aR x :: aR x :: St) S := ev_go i97_25 rfl
theorem i97_32 : insAt 97 32 = some (.aload_n 0, 1, (0, 0, 0, 0), 0) := rfl
theorem s97_32 {c : Nat → List AV → SS → Option Out} {l1 l2 l3 : Option AV} {o : OId} {L2 : List (Nat × AV)} {St : List AV} {S : SS} : ev c 97 32 [some (aR o), l1, l2, l3] L2 St S = ev c 97 33 [some (aR o), l1, l2, l3] L2 (aR o :: St) S := ev_go i97_32 rfl
theorem i97_33 : insAt 97 33 = some (.getfield 19, 3, (11, 1, 0, 0), 6) := rfl
theorem s97_33 {c : Nat → List AV → SS → Option Out} {l0 l1 l2 l3 : Option AV} {j t : Nat} {L2 : List (Nat × AV)} {St : List AV} {S : SS} : ev c 97 33 [l0, l1, l2, l3] L2 (aR (11, j, t) :: St) S = ev c 97 36 [l0, l1, l2, l3] L2 (S.2.2.1 (11, j, t) 1 :: St) S := ev_go i97_33 rfl
theorem i97_36 : insAt 97 36 = some (.aload_n 0, 1, (0, 0, 0, 0), 0) := rfl
theorem s97_36 {c : Nat → List AV → SS → Option Out} {l1 l2 l3 : Option AV} {o : OId} {L2 : List (Nat × AV)} {St : List AV} {S : SS} : ev c 97 36 [some (aR o), l1, l2, l3] L2 St S = ev c 97 37 [some (aR o), l1, l2, l3] L2 (aR o :: St) S := ev_go i97_36 rfl
theorem i97_37 : insAt 97 37 = some (.getfield 10, 3, (11, 0, 0, 0), 3) := rfl
theorem s97_37 {c : Nat → List AV → SS → Option Out} {l0 l1 l2 l3 : Option AV} {j t : Nat} {L2 : List (Nat × AV)} {St : List AV} {S : SS} : ev c 97 37 [l0, l1, l2, l3] L2 (aR (11, j, t) :: St) S = ev c 97 40 [l0, l1, l2, l3] L2 (S.2.2.1 (11, j, t) 0 :: St) S := ev_go i97_37 rfl
theorem i97_40 : insAt 97 40 = some (.invokevirtual 71, 3, (59, 1, 3, 5), 157) := rfl
theorem s97_40 {c : Nat → List AV → SS → Option Out} {l0 l1 l2 l3 : Option AV} {a0 : OId} {j t : Nat} {L2 : List (Nat × AV)} {S : SS} : ev c 97 40 [l0, l1, l2, l3] L2 [aR a0, aR (5, j, t)] S = ck (c 59 [aR (5, j, t), aR a0] S) (fun v S' => ev c 97 43 [l0, l1, l2, l3] L2 (v.toList ++ []) S') := ev_call i97_40 rfl
theorem i97_43 : insAt 97 43 = some (.aload_n 0, 1, (0, 0, 0, 0), 0) := rfl
theorem s97_43 {c : Nat → List AV → SS → Option Out} {l1 l2 l3 : Option AV} {o : OId} {L2 : List (Nat × AV)} {St : List AV} {S : SS} : ev c 97 43 [some (aR o), l1, l2, l3] L2 St S = ev c 97 44 [some (aR o), l1, l2, l3] L2 (aR o :: St) S := ev_go i97_43 rfl
theorem i97_44 : insAt 97 44 = some (.getfield 10, 3, (11, 0, 0, 0), 3) := rfl
theorem s97_44 {c : Nat → List AV → SS → Option Out} {l0 l1 l2 l3 : Option AV} {j t : Nat} {L2 : List (Nat × AV)} {St : List AV} {S : SS} : ev c 97 44 [l0, l1, l2, l3] L2 (aR (11, j, t) :: St) S = ev c 97 47 [l0, l1, l2, l3] L2 (S.2.2.1 (11, j, t) 0 :: St) S := ev_go i97_44 rfl
theorem i97_47 : insAt 97 47 = some (.getfield 158, 3, (4, 5, 1, 0), 85) := rfl
theorem s97_47 {c : Nat → List AV → SS → Option Out} {l0 l1 l2 l3 : Option AV} {j t : Nat} {L2 : List (Nat × AV)} {St : List AV} {S : SS} : ev c 97 47 [l0, l1, l2, l3] L2 (aR (4, j, t) :: St) S = ev c 97 50 [l0, l1, l2, l3] L2 (aI (S.1 (4, j, t) 5) :: St) S := ev_go i97_47 rfl
theorem i97_50 : insAt 97 50 = some (.istore_n 2, 1, (0, 0, 0, 0), 0) := rfl
theorem s97_50 {c : Nat → List AV → SS → Option Out} {l0 l1 l2 l3 : Option AV} {x : Int32} {L2 : List (Nat × AV)} {St : List AV} {S : SS} : ev c 97 50 [l0, l1, l2, l3] L2 (aI x :: St) S = ev c 97 51 [l0, l1, some (aI x), l3] (kil L2 2) St S := ev_go i97_50 rfl
theorem i97_51 : insAt 97 51 = some (.iconst 0, 1, (0, 0, 0, 0), 0) := rfl
theorem s97_51 {c : Nat → List AV → SS → Option Out} {l0 l1 l2 l3 : Option AV} {L2 : List (Nat × AV)} {St : List AV} {S : SS} : ev c 97 51 [l0, l1, l2, l3] L2 St S = ev c 97 52 [l0, l1, l2, l3] L2 (aI 0 :: St) S := ev_go i97_51 rfl
theorem i97_52 : insAt 97 52 = some (.istore_n 3, 1, (0, 0, 0, 0), 0) := rfl
theorem s97_52 {c : Nat → List AV → SS → Option Out} {l0 l1 l2 l3 : Option AV} {x : Int32} {L2 : List (Nat × AV)} {St : List AV} {S : SS} : ev c 97 52 [l0, l1, l2, l3] L2 (aI x :: St) S = ev c 97 53 [l0, l1, l2, some (aI x)] (kil L2 3) St S := ev_go i97_52 rfl
theorem i97_53 : insAt 97 53 = some (.iload_n 3, 1, (0, 0, 0, 0), 0) := rfl
theorem s97_53 {c : Nat → List AV → SS → Option Out} {l0 l1 l2 : Option AV} {x : Int32} {L2 : List (Nat × AV)} {St : List AV} {S : SS} : ev c 97 53 [l0, l1, l2, some (aI x)] L2 St S = ev c 97 54 [l0, l1, l2, some (aI x)] L2 (aI x :: St) S := ev_go i97_53 rfl
theorem i97_54 : insAt 97 54 = some (.iload_n 1, 1, (0, 0, 0, 0), 0) := rfl
theorem s97_54 {c : Nat → List AV → SS → Option Out} {l0 l2 l3 : Option AV} {x : Int32} {L2 : List (Nat × AV)} {St : List AV} {S : SS} : ev c 97 54 [l0, some (aI x), l2, l3] L2 St S = ev c 97 55 [l0, some (aI x), l2, l3] L2 (aI x :: St) S := ev_go i97_54 rfl
theorem i97_55 : insAt 97 55 = some (.if_icmp .ge 16, 3, (0, 0, 0, 0), 0) := rfl
theorem s97_55 {c : Nat → List AV → SS → Option Out} {l0 l1 l2 l3 : Option AV} {x y : Int32} {L2 : List (Nat × AV)} {St : List AV} {S : SS} : ev c 97 55 [l0, l1, l2, l3] L2 (aI y :: aI x :: St) S = if y ≤ x then ev c 97 71 [l0, l1, l2, l3] L2 St S else ev c 97 58 [l0, l1, l2, l3] L2 St S := ev_br i97_55 rfl
theorem i97_58 : insAt 97 58 = some (.aload_n 0, 1, (0, 0, 0, 0), 0) := rfl
theorem s97_58 {c : Nat → List AV → SS → Option Out} {l1 l2 l3 : Option AV} {o : OId} {L2 : List (Nat × AV)} {St : List AV} {S : SS} : ev c 97 58 [some (aR o), l1, l2, l3] L2 St S = ev c 97 59 [some (aR o), l1, l2, l3] L2 (aR o :: St) S := ev_go i97_58 rfl
theorem i97_59 : insAt 97 59 = some (.getfield 10, 3, (11, 0, 0, 0), 3) := rfl
theorem s97_59 {c : Nat → List AV → SS → Option Out} {l0 l1 l2 l3 : Option AV} {j t : Nat} {L2 : List (Nat × AV)} {St : List AV} {S : SS} : ev c 97 59 [l0, l1, l2, l3] L2 (aR (11, j, t) :: St) S = ev c 97 62 [l0, l1, l2, l3] L2 (S.2.2.1 (11, j, t) 0 :: St) S := ev_go i97_59 rfl
theorem i97_62 : insAt 97 62 = some (.invokevirtual 161, 3, (98, 0, 3, 4), 227) := rfl
theorem s97_62 {c : Nat → List AV → SS → Option Out} {l0 l1 l2 l3 : Option AV} {j t : Nat} {L2 : List (Nat × AV)} {S : SS} : ev c 97 62 [l0, l1, l2, l3] L2 [aR (4, j, t)] S = ck (c 98 [aR (4, j, t)] S) (fun v S' => ev c 97 65 [l0, l1, l2, l3] L2 (v.toList ++ []) S') := ev_call i97_62 rfl
theorem i97_65 : insAt 97 65 = some (.iinc 3 1, 3, (0, 0, 0, 0), 0) := rfl
theorem s97_65 {c : Nat → List AV → SS → Option Out} {l0 l1 l2 : Option AV} {x : Int32} {L2 : List (Nat × AV)} {St : List AV} {S : SS} : ev c 97 65 [l0, l1, l2, some (aI x)] L2 St S = ev c 97 68 [l0, l1, l2, some (aI (x + 1))] (kil L2 3) St S := ev_go i97_65 rfl
theorem i97_68 : insAt 97 68 = some (.goto (-15), 3, (0, 0, 0, 0), 0) := rfl
theorem s97_68 {c : Nat → List AV → SS → Option Out} {l0 l1 l2 l3 : Option AV} {L2 : List (Nat × AV)} {St : List AV} {S : SS} : ev c 97 68 [l0, l1, l2, l3] L2 St S = ev c 97 53 [l0, l1, l2, l3] L2 St S := ev_go i97_68 rfl
theorem i97_71 : insAt 97 71 = some (.aload_n 0, 1, (0, 0, 0, 0), 0) := rfl
theorem s97_71 {c : Nat → List AV → SS → Option Out} {l1 l2 l3 : Option AV} {o : OId} {L2 : List (Nat × AV)} {St : List AV} {S : SS} : ev c 97 71 [some (aR o), l1, l2, l3] L2 St S = ev c 97 72 [some (aR o), l1, l2, l3] L2 (aR o :: St) S := ev_go i97_71 rfl
theorem i97_72 : insAt 97 72 = some (.getfield 10, 3, (11, 0, 0, 0), 3) := rfl
theorem s97_72 {c : Nat → List AV → SS → Option Out} {l0 l1 l2 l3 : Option AV} {j t : Nat} {L2 : List (Nat × AV)} {St : List AV} {S : SS} : ev c 97 72 [l0, l1, l2, l3] L2 (aR (11, j, t) :: St) S = ev c 97 75 [l0, l1, l2, l3] L2 (S.2.2.1 (11, j, t) 0 :: St) S := ev_go i97_72 rfl
theorem i97_75 : insAt 97 75 = some (.getfield 158, 3, (4, 5, 1, 0), 85) := rfl
theorem s97_75 {c : Nat → List AV → SS → Option Out} {l0 l1 l2 l3 : Option AV} {j t : Nat} {L2 : List (Nat × AV)} {St : List AV} {S : SS} : ev c 97 75 [l0, l1, l2, l3] L2 (aR (4, j, t) :: St) S = ev c 97 78 [l0, l1, l2, l3] L2 (aI (S.1 (4, j, t) 5) :: St) S := ev_go i97_75 rfl
theorem i97_78 : insAt 97 78 = some (.iload_n 2, 1, (0, 0, 0, 0), 0) := rfl
theorem s97_78 {c : Nat → List AV → SS → Option Out} {l0 l1 l3 : Option AV} {x : Int32} {L2 : List (Nat × AV)} {St : List AV} {S : SS} : ev c 97 78 [l0, l1, some (aI x), l3] L2 St S = ev c 97 79 [l0, l1, some (aI x), l3] L2 (aI x :: St) S := ev_go i97_78 rfl
theorem i97_79 : insAt 97 79 = some (.isub, 1, (0, 0, 0, 0), 0) := rfl
theorem s97_79 {c : Nat → List AV → SS → Option Out} {l0 l1 l2 l3 : Option AV} {x y : Int32} {L2 : List (Nat × AV)} {St : List AV} {S : SS} : ev c 97 79 [l0, l1, l2, l3] L2 (aI y :: aI x :: St) S = ev c 97 80 [l0, l1, l2, l3] L2 (aI (x - y) :: St) S := ev_go i97_79 rfl
theorem i97_80 : insAt 97 80 = some (.ireturn, 1, (0, 0, 0, 0), 0) := rfl
theorem s97_80 {c : Nat → List AV → SS → Option Out} {l0 l1 l2 l3 : Option AV} {x : Int32} {L2 : List (Nat × AV)} {S : SS} : ev c 97 80 [l0, l1, l2, l3] L2 [aI x] S = some (.inl (some (aI x)), S) := ev_end i97_80 rfl
theorem m97 {d : Nat} {o : OId} {a0 : Int32} {S : SS} : evm (d + 1) 97 [aR o, aI a0] S = ev (evm d) 97 0 [some (aR o), some (aI a0), none, none] [] [] S := evm_s (n := 4) rfl (Nat.le_of_ble_eq_true rfl) rfl rfl
/-! FrequencyOffice.stationAt(I)I -/
theorem i100_0 : insAt 100 0 = some (.aload_n 0, 1, (0, 0, 0, 0), 0) := rfl
theorem s100_0 {c : Nat → List AV → SS → Option Out} {l1 : Option AV} {o : OId} {L2 : List (Nat × AV)} {St : List AV} {S : SS} : ev c 100 0 [some (aR o), l1] L2 St S = ev c 100 1 [some (aR o), l1] L2 (aR o :: St) S := ev_go i100_0 rfl
theorem i100_1 : insAt 100 1 = some (.iload_n 1, 1, (0, 0, 0, 0), 0) := rfl
theorem s100_1 {c : Nat → List AV → SS → Option Out} {l0 : Option AV} {x : Int32} {L2 : List (Nat × AV)} {St : List AV} {S : SS} : ev c 100 1 [l0, some (aI x)] L2 St S = ev c 100 2 [l0, some (aI x)] L2 (aI x :: St) S := ev_go i100_1 rfl
theorem i100_2 : insAt 100 2 = some (.invokevirtual 171, 3, (101, 1, 2, 11), 229) := rfl
theorem s100_2 {c : Nat → List AV → SS → Option Out} {l0 l1 : Option AV} {a0 : Int32} {j t : Nat} {L2 : List (Nat × AV)} {S : SS} : ev c 100 2 [l0, l1] L2 [aI a0, aR (11, j, t)] S = ck (c 101 [aR (11, j, t), aI a0] S) (fun v S' => ev c 100 5 [l0, l1] L2 (v.toList ++ []) S') := ev_call i100_2 rfl
theorem i100_5 : insAt 100 5 = some (.aload_n 0, 1, (0, 0, 0, 0), 0) := rfl
theorem s100_5 {c : Nat → List AV → SS → Option Out} {l1 : Option AV} {o : OId} {L2 : List (Nat × AV)} {St : List AV} {S : SS} : ev c 100 5 [some (aR o), l1] L2 St S = ev c 100 6 [some (aR o), l1] L2 (aR o :: St) S := ev_go i100_5 rfl
theorem i100_6 : insAt 100 6 = some (.getfield 10, 3, (11, 0, 0, 0), 3) := rfl
theorem s100_6 {c : Nat → List AV → SS → Option Out} {l0 l1 : Option AV} {j t : Nat} {L2 : List (Nat × AV)} {St : List AV} {S : SS} : ev c 100 6 [l0, l1] L2 (aR (11, j, t) :: St) S = ev c 100 9 [l0, l1] L2 (S.2.2.1 (11, j, t) 0 :: St) S := ev_go i100_6 rfl
theorem i100_9 : insAt 100 9 = some (.iload_n 1, 1, (0, 0, 0, 0), 0) := rfl
theorem s100_9 {c : Nat → List AV → SS → Option Out} {l0 : Option AV} {x : Int32} {L2 : List (Nat × AV)} {St : List AV} {S : SS} : ev c 100 9 [l0, some (aI x)] L2 St S = ev c 100 10 [l0, some (aI x)] L2 (aI x :: St) S := ev_go i100_9 rfl
theorem i100_10 : insAt 100 10 = some (.invokevirtual 125, 3, (17, 1, 3, 4), 87) := rfl
theorem s100_10 {c : Nat → List AV → SS → Option Out} {l0 l1 : Option AV} {a0 : Int32} {j t : Nat} {L2 : List (Nat × AV)} {S : SS} : ev c 100 10 [l0, l1] L2 [aI a0, aR (4, j, t)] S = ck (c 17 [aR (4, j, t), aI a0] S) (fun v S' => ev c 100 13 [l0, l1] L2 (v.toList ++ []) S') := ev_call i100_10 rfl
theorem i100_13 : insAt 100 13 = some (.getfield 174, 3, (10, 0, 1, 0), 230) := rfl
theorem s100_13 {c : Nat → List AV → SS → Option Out} {l0 l1 : Option AV} {j t : Nat} {L2 : List (Nat × AV)} {St : List AV} {S : SS} : ev c 100 13 [l0, l1] L2 (aR (10, j, t) :: St) S = ev c 100 16 [l0, l1] L2 (aI (S.1 (10, j, t) 0) :: St) S := ev_go i100_13 rfl
theorem i100_16 : insAt 100 16 = some (.ireturn, 1, (0, 0, 0, 0), 0) := rfl
theorem s100_16 {c : Nat → List AV → SS → Option Out} {l0 l1 : Option AV} {x : Int32} {L2 : List (Nat × AV)} {S : SS} : ev c 100 16 [l0, l1] L2 [aI x] S = some (.inl (some (aI x)), S) := ev_end i100_16 rfl
theorem m100 {d : Nat} {o : OId} {a0 : Int32} {S : SS} : evm (d + 1) 100 [aR o, aI a0] S = ev (evm d) 100 0 [some (aR o), some (aI a0)] [] [] S := evm_s (n := 2) rfl (Nat.le_of_ble_eq_true rfl) rfl rfl
/-! FrequencyOffice.checkPosition(I)V -/
theorem i101_0 : insAt 101 0 = some (.iload_n 1, 1, (0, 0, 0, 0), 0) := rfl
theorem s101_0 {c : Nat → List AV → SS → Option Out} {l0 : Option AV} {x : Int32} {L2 : List (Nat × AV)} {St : List AV} {S : SS} : ev c 101 0 [l0, some (aI x)] L2 St S = ev c 101 1 [l0, some (aI x)] L2 (aI x :: St) S := ev_go i101_0 rfl
theorem i101_1 : insAt 101 1 = some (.ifCond .lt 14, 3, (0, 0, 0, 0), 0) := rfl
theorem s101_1 {c : Nat → List AV → SS → Option Out} {l0 l1 : Option AV} {x : Int32} {L2 : List (Nat × AV)} {St : List AV} {S : SS} : ev c 101 1 [l0, l1] L2 (aI x :: St) S = if x < 0 then ev c 101 15 [l0, l1] L2 St S else ev c 101 4 [l0, l1] L2 St S := ev_br i101_1 rfl
theorem i101_4 : insAt 101 4 = some (.iload_n 1, 1, (0, 0, 0, 0), 0) := rfl
theorem s101_4 {c : Nat → List AV → SS → Option Out} {l0 : Option AV} {x : Int32} {L2 : List (Nat × AV)} {St : List AV} {S : SS} : ev c 101 4 [l0, some (aI x)] L2 St S = ev c 101 5 [l0, some (aI x)] L2 (aI x :: St) S := ev_go i101_4 rfl
theorem i101_5 : insAt 101 5 = some (.aload_n 0, 1, (0, 0, 0, 0), 0) := rfl
theorem s101_5 {c : Nat → List AV → SS → Option Out} {l1 : Option AV} {o : OId} {L2 : List (Nat × AV)} {St : List AV} {S : SS} : ev c 101 5 [some (aR o), l1] L2 St S = ev c 101 6 [some (aR o), l1] L2 (aR o :: St) S := ev_go i101_5 rfl
theorem i101_6 : insAt 101 6 = some (.getfield 10, 3, (11, 0, 0, 0), 3) := rfl
theorem s101_6 {c : Nat → List AV → SS → Option Out} {l0 l1 : Option AV} {j t : Nat} {L2 : List (Nat × AV)} {St : List AV} {S : SS} : ev c 101 6 [l0, l1] L2 (aR (11, j, t) :: St) S = ev c 101 9 [l0, l1] L2 (S.2.2.1 (11, j, t) 0 :: St) S := ev_go i101_6 rfl
theorem i101_9 : insAt 101 9 = some (.getfield 60, 3, (4, 7, 1, 0), 79) := rfl
theorem s101_9 {c : Nat → List AV → SS → Option Out} {l0 l1 : Option AV} {j t : Nat} {L2 : List (Nat × AV)} {St : List AV} {S : SS} : ev c 101 9 [l0, l1] L2 (aR (4, j, t) :: St) S = ev c 101 12 [l0, l1] L2 (aI (S.1 (4, j, t) 7) :: St) S := ev_go i101_9 rfl
theorem i101_12 : insAt 101 12 = some (.if_icmp .lt 14, 3, (0, 0, 0, 0), 0) := rfl
theorem s101_12 {c : Nat → List AV → SS → Option Out} {l0 l1 : Option AV} {x y : Int32} {L2 : List (Nat × AV)} {St : List AV} {S : SS} : ev c 101 12 [l0, l1] L2 (aI y :: aI x :: St) S = if x < y then ev c 101 26 [l0, l1] L2 St S else ev c 101 15 [l0, l1] L2 St S := ev_br i101_12 rfl
theorem i101_15 : insAt 101 15 = some (.new 324, 3, (4, 0, 1, 0), 231) := rfl
theorem s101_15 {c : Nat → List AV → SS → Option Out} {l0 l1 : Option AV} {L2 : List (Nat × AV)} {S : SS} : ev c 101 15 [l0, l1] L2 [] S = some (.inr "java/lang/IndexOutOfBoundsException", bump S 1 6) := ev_end i101_15 rfl
theorem i101_18 : insAt 101 18 = some (.dup, 1, (0, 0, 0, 0), 0) := rfl
theorem s101_18 {c : Nat → List AV → SS → Option Out} {l0 l1 : Option AV} {x : OId} {L2 : List (Nat × AV)} {St : List AV} {S : SS} : ev c 101 18 [l0, l1] L2 (aR x :: St) S = ev c 101 19 [l0, l1] L2 (aR x :: aR x :: St) S := ev_go i101_18 rfl
theorem i101_26 : insAt 101 26 = some (.return_, 1, (0, 0, 0, 0), 0) := rfl
theorem s101_26 {c : Nat → List AV → SS → Option Out} {l0 l1 : Option AV} {L2 : List (Nat × AV)} {S : SS} : ev c 101 26 [l0, l1] L2 [] S = some (.inl none, S) := ev_end i101_26 rfl
theorem m101 {d : Nat} {o : OId} {a0 : Int32} {S : SS} : evm (d + 1) 101 [aR o, aI a0] S = ev (evm d) 101 0 [some (aR o), some (aI a0)] [] [] S := evm_s (n := 2) rfl (Nat.le_of_ble_eq_true rfl) rfl rfl
/-! FrequencyOffice.stationByExpiry(I)I -/
theorem i103_0 : insAt 103 0 = some (.aload_n 0, 1, (0, 0, 0, 0), 0) := rfl
theorem s103_0 {c : Nat → List AV → SS → Option Out} {l1 : Option AV} {o : OId} {L2 : List (Nat × AV)} {St : List AV} {S : SS} : ev c 103 0 [some (aR o), l1] L2 St S = ev c 103 1 [some (aR o), l1] L2 (aR o :: St) S := ev_go i103_0 rfl
theorem i103_1 : insAt 103 1 = some (.iload_n 1, 1, (0, 0, 0, 0), 0) := rfl
theorem s103_1 {c : Nat → List AV → SS → Option Out} {l0 : Option AV} {x : Int32} {L2 : List (Nat × AV)} {St : List AV} {S : SS} : ev c 103 1 [l0, some (aI x)] L2 St S = ev c 103 2 [l0, some (aI x)] L2 (aI x :: St) S := ev_go i103_1 rfl
theorem i103_2 : insAt 103 2 = some (.invokevirtual 171, 3, (101, 1, 2, 11), 229) := rfl
theorem s103_2 {c : Nat → List AV → SS → Option Out} {l0 l1 : Option AV} {a0 : Int32} {j t : Nat} {L2 : List (Nat × AV)} {S : SS} : ev c 103 2 [l0, l1] L2 [aI a0, aR (11, j, t)] S = ck (c 101 [aR (11, j, t), aI a0] S) (fun v S' => ev c 103 5 [l0, l1] L2 (v.toList ++ []) S') := ev_call i103_2 rfl
theorem i103_5 : insAt 103 5 = some (.aload_n 0, 1, (0, 0, 0, 0), 0) := rfl
theorem s103_5 {c : Nat → List AV → SS → Option Out} {l1 : Option AV} {o : OId} {L2 : List (Nat × AV)} {St : List AV} {S : SS} : ev c 103 5 [some (aR o), l1] L2 St S = ev c 103 6 [some (aR o), l1] L2 (aR o :: St) S := ev_go i103_5 rfl
theorem i103_6 : insAt 103 6 = some (.getfield 10, 3, (11, 0, 0, 0), 3) := rfl
theorem s103_6 {c : Nat → List AV → SS → Option Out} {l0 l1 : Option AV} {j t : Nat} {L2 : List (Nat × AV)} {St : List AV} {S : SS} : ev c 103 6 [l0, l1] L2 (aR (11, j, t) :: St) S = ev c 103 9 [l0, l1] L2 (S.2.2.1 (11, j, t) 0 :: St) S := ev_go i103_6 rfl
theorem i103_9 : insAt 103 9 = some (.aload_n 0, 1, (0, 0, 0, 0), 0) := rfl
theorem s103_9 {c : Nat → List AV → SS → Option Out} {l1 : Option AV} {o : OId} {L2 : List (Nat × AV)} {St : List AV} {S : SS} : ev c 103 9 [some (aR o), l1] L2 St S = ev c 103 10 [some (aR o), l1] L2 (aR o :: St) S := ev_go i103_9 rfl
theorem i103_10 : insAt 103 10 = some (.getfield 10, 3, (11, 0, 0, 0), 3) := rfl
theorem s103_10 {c : Nat → List AV → SS → Option Out} {l0 l1 : Option AV} {j t : Nat} {L2 : List (Nat × AV)} {St : List AV} {S : SS} : ev c 103 10 [l0, l1] L2 (aR (11, j, t) :: St) S = ev c 103 13 [l0, l1] L2 (S.2.2.1 (11, j, t) 0 :: St) S := ev_go i103_10 rfl
theorem i103_13 : insAt 103 13 = some (.iload_n 1, 1, (0, 0, 0, 0), 0) := rfl
theorem s103_13 {c : Nat → List AV → SS → Option Out} {l0 : Option AV} {x : Int32} {L2 : List (Nat × AV)} {St : List AV} {S : SS} : ev c 103 13 [l0, some (aI x)] L2 St S = ev c 103 14 [l0, some (aI x)] L2 (aI x :: St) S := ev_go i103_13 rfl
theorem i103_14 : insAt 103 14 = some (.invokevirtual 177, 3, (104, 1, 3, 4), 233) := rfl
theorem s103_14 {c : Nat → List AV → SS → Option Out} {l0 l1 : Option AV} {t0 : AV} {a0 : Int32} {j t : Nat} {L2 : List (Nat × AV)} {S : SS} : ev c 103 14 [l0, l1] L2 [aI a0, aR (4, j, t), t0] S = ck (c 104 [aR (4, j, t), aI a0] S) (fun v S' => ev c 103 17 [l0, l1] L2 (v.toList ++ [t0]) S') := ev_call i103_14 rfl
theorem i103_17 : insAt 103 17 = some (.invokevirtual 125, 3, (17, 1, 3, 4), 87) := rfl
theorem s103_17 {c : Nat → List AV → SS → Option Out} {l0 l1 : Option AV} {a0 : Int32} {j t : Nat} {L2 : List (Nat × AV)} {S : SS} : ev c 103 17 [l0, l1] L2 [aI a0, aR (4, j, t)] S = ck (c 17 [aR (4, j, t), aI a0] S) (fun v S' => ev c 103 20 [l0, l1] L2 (v.toList ++ []) S') := ev_call i103_17 rfl
theorem i103_20 : insAt 103 20 = some (.getfield 174, 3, (10, 0, 1, 0), 230) := rfl
theorem s103_20 {c : Nat → List AV → SS → Option Out} {l0 l1 : Option AV} {j t : Nat} {L2 : List (Nat × AV)} {St : List AV} {S : SS} : ev c 103 20 [l0, l1] L2 (aR (10, j, t) :: St) S = ev c 103 23 [l0, l1] L2 (aI (S.1 (10, j, t) 0) :: St) S := ev_go i103_20 rfl
theorem i103_23 : insAt 103 23 = some (.ireturn, 1, (0, 0, 0, 0), 0) := rfl
theorem s103_23 {c : Nat → List AV → SS → Option Out} {l0 l1 : Option AV} {x : Int32} {L2 : List (Nat × AV)} {S : SS} : ev c 103 23 [l0, l1] L2 [aI x] S = some (.inl (some (aI x)), S) := ev_end i103_23 rfl
theorem m103 {d : Nat} {o : OId} {a0 : Int32} {S : SS} : evm (d + 1) 103 [aR o, aI a0] S = ev (evm d) 103 0 [some (aR o), some (aI a0)] [] [] S := evm_s (n := 2) rfl (Nat.le_of_ble_eq_true rfl) rfl rfl
/-! FrequencyOffice.xOf(I)I -/
theorem i107_0 : insAt 107 0 = some (.aload_n 0, 1, (0, 0, 0, 0), 0) := rfl
theorem s107_0 {c : Nat → List AV → SS → Option Out} {l1 : Option AV} {o : OId} {L2 : List (Nat × AV)} {St : List AV} {S : SS} : ev c 107 0 [some (aR o), l1] L2 St S = ev c 107 1 [some (aR o), l1] L2 (aR o :: St) S := ev_go i107_0 rfl
theorem i107_1 : insAt 107 1 = some (.getfield 10, 3, (11, 0, 0, 0), 3) := rfl
theorem s107_1 {c : Nat → List AV → SS → Option Out} {l0 l1 : Option AV} {j t : Nat} {L2 : List (Nat × AV)} {St : List AV} {S : SS} : ev c 107 1 [l0, l1] L2 (aR (11, j, t) :: St) S = ev c 107 4 [l0, l1] L2 (S.2.2.1 (11, j, t) 0 :: St) S := ev_go i107_1 rfl
theorem i107_4 : insAt 107 4 = some (.aload_n 0, 1, (0, 0, 0, 0), 0) := rfl
theorem s107_4 {c : Nat → List AV → SS → Option Out} {l1 : Option AV} {o : OId} {L2 : List (Nat × AV)} {St : List AV} {S : SS} : ev c 107 4 [some (aR o), l1] L2 St S = ev c 107 5 [some (aR o), l1] L2 (aR o :: St) S := ev_go i107_4 rfl
theorem i107_5 : insAt 107 5 = some (.iload_n 1, 1, (0, 0, 0, 0), 0) := rfl
theorem s107_5 {c : Nat → List AV → SS → Option Out} {l0 : Option AV} {x : Int32} {L2 : List (Nat × AV)} {St : List AV} {S : SS} : ev c 107 5 [l0, some (aI x)] L2 St S = ev c 107 6 [l0, some (aI x)] L2 (aI x :: St) S := ev_go i107_5 rfl
theorem i107_6 : insAt 107 6 = some (.invokevirtual 134, 3, (90, 1, 2, 11), 220) := rfl
theorem s107_6 {c : Nat → List AV → SS → Option Out} {l0 l1 : Option AV} {t0 : AV} {a0 : Int32} {j t : Nat} {L2 : List (Nat × AV)} {S : SS} : ev c 107 6 [l0, l1] L2 [aI a0, aR (11, j, t), t0] S = ck (c 90 [aR (11, j, t), aI a0] S) (fun v S' => ev c 107 9 [l0, l1] L2 (v.toList ++ [t0]) S') := ev_call i107_6 rfl
theorem i107_9 : insAt 107 9 = some (.invokevirtual 125, 3, (17, 1, 3, 4), 87) := rfl
theorem s107_9 {c : Nat → List AV → SS → Option Out} {l0 l1 : Option AV} {a0 : Int32} {j t : Nat} {L2 : List (Nat × AV)} {S : SS} : ev c 107 9 [l0, l1] L2 [aI a0, aR (4, j, t)] S = ck (c 17 [aR (4, j, t), aI a0] S) (fun v S' => ev c 107 12 [l0, l1] L2 (v.toList ++ []) S') := ev_call i107_9 rfl
theorem i107_12 : insAt 107 12 = some (.getfield 180, 3, (10, 1, 1, 0), 236) := rfl
theorem s107_12 {c : Nat → List AV → SS → Option Out} {l0 l1 : Option AV} {j t : Nat} {L2 : List (Nat × AV)} {St : List AV} {S : SS} : ev c 107 12 [l0, l1] L2 (aR (10, j, t) :: St) S = ev c 107 15 [l0, l1] L2 (aI (S.1 (10, j, t) 1) :: St) S := ev_go i107_12 rfl
theorem i107_15 : insAt 107 15 = some (.ireturn, 1, (0, 0, 0, 0), 0) := rfl
theorem s107_15 {c : Nat → List AV → SS → Option Out} {l0 l1 : Option AV} {x : Int32} {L2 : List (Nat × AV)} {S : SS} : ev c 107 15 [l0, l1] L2 [aI x] S = some (.inl (some (aI x)), S) := ev_end i107_15 rfl
theorem m107 {d : Nat} {o : OId} {a0 : Int32} {S : SS} : evm (d + 1) 107 [aR o, aI a0] S = ev (evm d) 107 0 [some (aR o), some (aI a0)] [] [] S := evm_s (n := 2) rfl (Nat.le_of_ble_eq_true rfl) rfl rfl
/-! FrequencyOffice.yOf(I)I -/
theorem i109_0 : insAt 109 0 = some (.aload_n 0, 1, (0, 0, 0, 0), 0) := rfl
theorem s109_0 {c : Nat → List AV → SS → Option Out} {l1 : Option AV} {o : OId} {L2 : List (Nat × AV)} {St : List AV} {S : SS} : ev c 109 0 [some (aR o), l1] L2 St S = ev c 109 1 [some (aR o), l1] L2 (aR o :: St) S := ev_go i109_0 rfl
theorem i109_1 : insAt 109 1 = some (.getfield 10, 3, (11, 0, 0, 0), 3) := rfl
theorem s109_1 {c : Nat → List AV → SS → Option Out} {l0 l1 : Option AV} {j t : Nat} {L2 : List (Nat × AV)} {St : List AV} {S : SS} : ev c 109 1 [l0, l1] L2 (aR (11, j, t) :: St) S = ev c 109 4 [l0, l1] L2 (S.2.2.1 (11, j, t) 0 :: St) S := ev_go i109_1 rfl
theorem i109_4 : insAt 109 4 = some (.aload_n 0, 1, (0, 0, 0, 0), 0) := rfl
theorem s109_4 {c : Nat → List AV → SS → Option Out} {l1 : Option AV} {o : OId} {L2 : List (Nat × AV)} {St : List AV} {S : SS} : ev c 109 4 [some (aR o), l1] L2 St S = ev c 109 5 [some (aR o), l1] L2 (aR o :: St) S := ev_go i109_4 rfl
theorem i109_5 : insAt 109 5 = some (.iload_n 1, 1, (0, 0, 0, 0), 0) := rfl
theorem s109_5 {c : Nat → List AV → SS → Option Out} {l0 : Option AV} {x : Int32} {L2 : List (Nat × AV)} {St : List AV} {S : SS} : ev c 109 5 [l0, some (aI x)] L2 St S = ev c 109 6 [l0, some (aI x)] L2 (aI x :: St) S := ev_go i109_5 rfl
theorem i109_6 : insAt 109 6 = some (.invokevirtual 134, 3, (90, 1, 2, 11), 220) := rfl
theorem s109_6 {c : Nat → List AV → SS → Option Out} {l0 l1 : Option AV} {t0 : AV} {a0 : Int32} {j t : Nat} {L2 : List (Nat × AV)} {S : SS} : ev c 109 6 [l0, l1] L2 [aI a0, aR (11, j, t), t0] S = ck (c 90 [aR (11, j, t), aI a0] S) (fun v S' => ev c 109 9 [l0, l1] L2 (v.toList ++ [t0]) S') := ev_call i109_6 rfl
theorem i109_9 : insAt 109 9 = some (.invokevirtual 125, 3, (17, 1, 3, 4), 87) := rfl
theorem s109_9 {c : Nat → List AV → SS → Option Out} {l0 l1 : Option AV} {a0 : Int32} {j t : Nat} {L2 : List (Nat × AV)} {S : SS} : ev c 109 9 [l0, l1] L2 [aI a0, aR (4, j, t)] S = ck (c 17 [aR (4, j, t), aI a0] S) (fun v S' => ev c 109 12 [l0, l1] L2 (v.toList ++ []) S') := ev_call i109_9 rfl
theorem i109_12 : insAt 109 12 = some (.getfield 183, 3, (10, 2, 1, 0), 238) := rfl
theorem s109_12 {c : Nat → List AV → SS → Option Out} {l0 l1 : Option AV} {j t : Nat} {L2 : List (Nat × AV)} {St : List AV} {S : SS} : ev c 109 12 [l0, l1] L2 (aR (10, j, t) :: St) S = ev c 109 15 [l0, l1] L2 (aI (S.1 (10, j, t) 2) :: St) S := ev_go i109_12 rfl
theorem i109_15 : insAt 109 15 = some (.ireturn, 1, (0, 0, 0, 0), 0) := rfl
theorem s109_15 {c : Nat → List AV → SS → Option Out} {l0 l1 : Option AV} {x : Int32} {L2 : List (Nat × AV)} {S : SS} : ev c 109 15 [l0, l1] L2 [aI x] S = some (.inl (some (aI x)), S) := ev_end i109_15 rfl
theorem m109 {d : Nat} {o : OId} {a0 : Int32} {S : SS} : evm (d + 1) 109 [aR o, aI a0] S = ev (evm d) 109 0 [some (aR o), some (aI a0)] [] [] S := evm_s (n := 2) rfl (Nat.le_of_ble_eq_true rfl) rfl rfl
/-! FrequencyOffice.channelOf(I)I -/
theorem i111_0 : insAt 111 0 = some (.aload_n 0, 1, (0, 0, 0, 0), 0) := rfl
theorem s111_0 {c : Nat → List AV → SS → Option Out} {l1 : Option AV} {o : OId} {L2 : List (Nat × AV)} {St : List AV} {S : SS} : ev c 111 0 [some (aR o), l1] L2 St S = ev c 111 1 [some (aR o), l1] L2 (aR o :: St) S := ev_go i111_0 rfl
theorem i111_1 : insAt 111 1 = some (.getfield 10, 3, (11, 0, 0, 0), 3) := rfl
theorem s111_1 {c : Nat → List AV → SS → Option Out} {l0 l1 : Option AV} {j t : Nat} {L2 : List (Nat × AV)} {St : List AV} {S : SS} : ev c 111 1 [l0, l1] L2 (aR (11, j, t) :: St) S = ev c 111 4 [l0, l1] L2 (S.2.2.1 (11, j, t) 0 :: St) S := ev_go i111_1 rfl
theorem i111_4 : insAt 111 4 = some (.aload_n 0, 1, (0, 0, 0, 0), 0) := rfl
theorem s111_4 {c : Nat → List AV → SS → Option Out} {l1 : Option AV} {o : OId} {L2 : List (Nat × AV)} {St : List AV} {S : SS} : ev c 111 4 [some (aR o), l1] L2 St S = ev c 111 5 [some (aR o), l1] L2 (aR o :: St) S := ev_go i111_4 rfl
theorem i111_5 : insAt 111 5 = some (.iload_n 1, 1, (0, 0, 0, 0), 0) := rfl
theorem s111_5 {c : Nat → List AV → SS → Option Out} {l0 : Option AV} {x : Int32} {L2 : List (Nat × AV)} {St : List AV} {S : SS} : ev c 111 5 [l0, some (aI x)] L2 St S = ev c 111 6 [l0, some (aI x)] L2 (aI x :: St) S := ev_go i111_5 rfl
theorem i111_6 : insAt 111 6 = some (.invokevirtual 134, 3, (90, 1, 2, 11), 220) := rfl
theorem s111_6 {c : Nat → List AV → SS → Option Out} {l0 l1 : Option AV} {t0 : AV} {a0 : Int32} {j t : Nat} {L2 : List (Nat × AV)} {S : SS} : ev c 111 6 [l0, l1] L2 [aI a0, aR (11, j, t), t0] S = ck (c 90 [aR (11, j, t), aI a0] S) (fun v S' => ev c 111 9 [l0, l1] L2 (v.toList ++ [t0]) S') := ev_call i111_6 rfl
theorem i111_9 : insAt 111 9 = some (.invokevirtual 125, 3, (17, 1, 3, 4), 87) := rfl
theorem s111_9 {c : Nat → List AV → SS → Option Out} {l0 l1 : Option AV} {a0 : Int32} {j t : Nat} {L2 : List (Nat × AV)} {S : SS} : ev c 111 9 [l0, l1] L2 [aI a0, aR (4, j, t)] S = ck (c 17 [aR (4, j, t), aI a0] S) (fun v S' => ev c 111 12 [l0, l1] L2 (v.toList ++ []) S') := ev_call i111_9 rfl
theorem i111_12 : insAt 111 12 = some (.getfield 129, 3, (10, 3, 1, 0), 143) := rfl
theorem s111_12 {c : Nat → List AV → SS → Option Out} {l0 l1 : Option AV} {j t : Nat} {L2 : List (Nat × AV)} {St : List AV} {S : SS} : ev c 111 12 [l0, l1] L2 (aR (10, j, t) :: St) S = ev c 111 15 [l0, l1] L2 (aI (S.1 (10, j, t) 3) :: St) S := ev_go i111_12 rfl
theorem i111_15 : insAt 111 15 = some (.ireturn, 1, (0, 0, 0, 0), 0) := rfl
theorem s111_15 {c : Nat → List AV → SS → Option Out} {l0 l1 : Option AV} {x : Int32} {L2 : List (Nat × AV)} {S : SS} : ev c 111 15 [l0, l1] L2 [aI x] S = some (.inl (some (aI x)), S) := ev_end i111_15 rfl
theorem m111 {d : Nat} {o : OId} {a0 : Int32} {S : SS} : evm (d + 1) 111 [aR o, aI a0] S = ev (evm d) 111 0 [some (aR o), some (aI a0)] [] [] S := evm_s (n := 2) rfl (Nat.le_of_ble_eq_true rfl) rfl rfl
/-! FrequencyOffice.expiryOf(I)I -/
theorem i113_0 : insAt 113 0 = some (.aload_n 0, 1, (0, 0, 0, 0), 0) := rfl
theorem s113_0 {c : Nat → List AV → SS → Option Out} {l1 : Option AV} {o : OId} {L2 : List (Nat × AV)} {St : List AV} {S : SS} : ev c 113 0 [some (aR o), l1] L2 St S = ev c 113 1 [some (aR o), l1] L2 (aR o :: St) S := ev_go i113_0 rfl
theorem i113_1 : insAt 113 1 = some (.getfield 10, 3, (11, 0, 0, 0), 3) := rfl
theorem s113_1 {c : Nat → List AV → SS → Option Out} {l0 l1 : Option AV} {j t : Nat} {L2 : List (Nat × AV)} {St : List AV} {S : SS} : ev c 113 1 [l0, l1] L2 (aR (11, j, t) :: St) S = ev c 113 4 [l0, l1] L2 (S.2.2.1 (11, j, t) 0 :: St) S := ev_go i113_1 rfl
theorem i113_4 : insAt 113 4 = some (.aload_n 0, 1, (0, 0, 0, 0), 0) := rfl
theorem s113_4 {c : Nat → List AV → SS → Option Out} {l1 : Option AV} {o : OId} {L2 : List (Nat × AV)} {St : List AV} {S : SS} : ev c 113 4 [some (aR o), l1] L2 St S = ev c 113 5 [some (aR o), l1] L2 (aR o :: St) S := ev_go i113_4 rfl
theorem i113_5 : insAt 113 5 = some (.iload_n 1, 1, (0, 0, 0, 0), 0) := rfl
theorem s113_5 {c : Nat → List AV → SS → Option Out} {l0 : Option AV} {x : Int32} {L2 : List (Nat × AV)} {St : List AV} {S : SS} : ev c 113 5 [l0, some (aI x)] L2 St S = ev c 113 6 [l0, some (aI x)] L2 (aI x :: St) S := ev_go i113_5 rfl
theorem i113_6 : insAt 113 6 = some (.invokevirtual 134, 3, (90, 1, 2, 11), 220) := rfl
theorem s113_6 {c : Nat → List AV → SS → Option Out} {l0 l1 : Option AV} {t0 : AV} {a0 : Int32} {j t : Nat} {L2 : List (Nat × AV)} {S : SS} : ev c 113 6 [l0, l1] L2 [aI a0, aR (11, j, t), t0] S = ck (c 90 [aR (11, j, t), aI a0] S) (fun v S' => ev c 113 9 [l0, l1] L2 (v.toList ++ [t0]) S') := ev_call i113_6 rfl
theorem i113_9 : insAt 113 9 = some (.invokevirtual 125, 3, (17, 1, 3, 4), 87) := rfl
theorem s113_9 {c : Nat → List AV → SS → Option Out} {l0 l1 : Option AV} {a0 : Int32} {j t : Nat} {L2 : List (Nat × AV)} {S : SS} : ev c 113 9 [l0, l1] L2 [aI a0, aR (4, j, t)] S = ck (c 17 [aR (4, j, t), aI a0] S) (fun v S' => ev c 113 12 [l0, l1] L2 (v.toList ++ []) S') := ev_call i113_9 rfl
theorem i113_12 : insAt 113 12 = some (.getfield 143, 3, (10, 4, 1, 0), 88) := rfl
theorem s113_12 {c : Nat → List AV → SS → Option Out} {l0 l1 : Option AV} {j t : Nat} {L2 : List (Nat × AV)} {St : List AV} {S : SS} : ev c 113 12 [l0, l1] L2 (aR (10, j, t) :: St) S = ev c 113 15 [l0, l1] L2 (aI (S.1 (10, j, t) 4) :: St) S := ev_go i113_12 rfl
theorem i113_15 : insAt 113 15 = some (.ireturn, 1, (0, 0, 0, 0), 0) := rfl
theorem s113_15 {c : Nat → List AV → SS → Option Out} {l0 l1 : Option AV} {x : Int32} {L2 : List (Nat × AV)} {S : SS} : ev c 113 15 [l0, l1] L2 [aI x] S = some (.inl (some (aI x)), S) := ev_end i113_15 rfl
theorem m113 {d : Nat} {o : OId} {a0 : Int32} {S : SS} : evm (d + 1) 113 [aR o, aI a0] S = ev (evm d) 113 0 [some (aR o), some (aI a0)] [] [] S := evm_s (n := 2) rfl (Nat.le_of_ble_eq_true rfl) rfl rfl
/-! FrequencyOffice.isOnTrial(I)Z -/
theorem i115_0 : insAt 115 0 = some (.aload_n 0, 1, (0, 0, 0, 0), 0) := rfl
theorem s115_0 {c : Nat → List AV → SS → Option Out} {l1 : Option AV} {o : OId} {L2 : List (Nat × AV)} {St : List AV} {S : SS} : ev c 115 0 [some (aR o), l1] L2 St S = ev c 115 1 [some (aR o), l1] L2 (aR o :: St) S := ev_go i115_0 rfl
theorem i115_1 : insAt 115 1 = some (.getfield 10, 3, (11, 0, 0, 0), 3) := rfl
theorem s115_1 {c : Nat → List AV → SS → Option Out} {l0 l1 : Option AV} {j t : Nat} {L2 : List (Nat × AV)} {St : List AV} {S : SS} : ev c 115 1 [l0, l1] L2 (aR (11, j, t) :: St) S = ev c 115 4 [l0, l1] L2 (S.2.2.1 (11, j, t) 0 :: St) S := ev_go i115_1 rfl
theorem i115_4 : insAt 115 4 = some (.aload_n 0, 1, (0, 0, 0, 0), 0) := rfl
theorem s115_4 {c : Nat → List AV → SS → Option Out} {l1 : Option AV} {o : OId} {L2 : List (Nat × AV)} {St : List AV} {S : SS} : ev c 115 4 [some (aR o), l1] L2 St S = ev c 115 5 [some (aR o), l1] L2 (aR o :: St) S := ev_go i115_4 rfl
theorem i115_5 : insAt 115 5 = some (.iload_n 1, 1, (0, 0, 0, 0), 0) := rfl
theorem s115_5 {c : Nat → List AV → SS → Option Out} {l0 : Option AV} {x : Int32} {L2 : List (Nat × AV)} {St : List AV} {S : SS} : ev c 115 5 [l0, some (aI x)] L2 St S = ev c 115 6 [l0, some (aI x)] L2 (aI x :: St) S := ev_go i115_5 rfl
theorem i115_6 : insAt 115 6 = some (.invokevirtual 134, 3, (90, 1, 2, 11), 220) := rfl
theorem s115_6 {c : Nat → List AV → SS → Option Out} {l0 l1 : Option AV} {t0 : AV} {a0 : Int32} {j t : Nat} {L2 : List (Nat × AV)} {S : SS} : ev c 115 6 [l0, l1] L2 [aI a0, aR (11, j, t), t0] S = ck (c 90 [aR (11, j, t), aI a0] S) (fun v S' => ev c 115 9 [l0, l1] L2 (v.toList ++ [t0]) S') := ev_call i115_6 rfl
theorem i115_9 : insAt 115 9 = some (.invokevirtual 125, 3, (17, 1, 3, 4), 87) := rfl
theorem s115_9 {c : Nat → List AV → SS → Option Out} {l0 l1 : Option AV} {a0 : Int32} {j t : Nat} {L2 : List (Nat × AV)} {S : SS} : ev c 115 9 [l0, l1] L2 [aI a0, aR (4, j, t)] S = ck (c 17 [aR (4, j, t), aI a0] S) (fun v S' => ev c 115 12 [l0, l1] L2 (v.toList ++ []) S') := ev_call i115_9 rfl
theorem i115_12 : insAt 115 12 = some (.getfield 138, 3, (10, 5, 1, 0), 142) := rfl
theorem s115_12 {c : Nat → List AV → SS → Option Out} {l0 l1 : Option AV} {j t : Nat} {L2 : List (Nat × AV)} {St : List AV} {S : SS} : ev c 115 12 [l0, l1] L2 (aR (10, j, t) :: St) S = ev c 115 15 [l0, l1] L2 (aI (bb (S.1 (10, j, t) 5)) :: St) S := ev_go i115_12 rfl
theorem i115_15 : insAt 115 15 = some (.ireturn, 1, (0, 0, 0, 0), 0) := rfl
theorem s115_15 {c : Nat → List AV → SS → Option Out} {l0 l1 : Option AV} {x : Int32} {L2 : List (Nat × AV)} {S : SS} : ev c 115 15 [l0, l1] L2 [aI x] S = if x = 0 ∨ x = 1 then some (.inl (some (aI x)), S) else none := ev_rt i115_15 rfl
theorem m115 {d : Nat} {o : OId} {a0 : Int32} {S : SS} : evm (d + 1) 115 [aR o, aI a0] S = ev (evm d) 115 0 [some (aR o), some (aI a0)] [] [] S := evm_s (n := 2) rfl (Nat.le_of_ble_eq_true rfl) rfl rfl
/-! FrequencyOffice.squaredDistance(II)I -/
theorem i117_0 : insAt 117 0 = some (.aload_n 0, 1, (0, 0, 0, 0), 0) := rfl
theorem s117_0 {c : Nat → List AV → SS → Option Out} {l1 l2 l3 : Option AV} {o : OId} {L2 : List (Nat × AV)} {St : List AV} {S : SS} : ev c 117 0 [some (aR o), l1, l2, l3] L2 St S = ev c 117 1 [some (aR o), l1, l2, l3] L2 (aR o :: St) S := ev_go i117_0 rfl
theorem i117_1 : insAt 117 1 = some (.iload_n 1, 1, (0, 0, 0, 0), 0) := rfl
theorem s117_1 {c : Nat → List AV → SS → Option Out} {l0 l2 l3 : Option AV} {x : Int32} {L2 : List (Nat × AV)} {St : List AV} {S : SS} : ev c 117 1 [l0, some (aI x), l2, l3] L2 St S = ev c 117 2 [l0, some (aI x), l2, l3] L2 (aI x :: St) S := ev_go i117_1 rfl
theorem i117_2 : insAt 117 2 = some (.invokevirtual 134, 3, (90, 1, 2, 11), 220) := rfl
theorem s117_2 {c : Nat → List AV → SS → Option Out} {l0 l1 l2 l3 : Option AV} {a0 : Int32} {j t : Nat} {L2 : List (Nat × AV)} {S : SS} : ev c 117 2 [l0, l1, l2, l3] L2 [aI a0, aR (11, j, t)] S = ck (c 90 [aR (11, j, t), aI a0] S) (fun v S' => ev c 117 5 [l0, l1, l2, l3] L2 (v.toList ++ []) S') := ev_call i117_2 rfl
theorem i117_5 : insAt 117 5 = some (.istore_n 3, 1, (0, 0, 0, 0), 0) := rfl
theorem s117_5 {c : Nat → List AV → SS → Option Out} {l0 l1 l2 l3 : Option AV} {x : Int32} {L2 : List (Nat × AV)} {St : List AV} {S : SS} : ev c 117 5 [l0, l1, l2, l3] L2 (aI x :: St) S = ev c 117 6 [l0, l1, l2, some (aI x)] (kil L2 3) St S := ev_go i117_5 rfl
theorem i117_6 : insAt 117 6 = some (.aload_n 0, 1, (0, 0, 0, 0), 0) := rfl
theorem s117_6 {c : Nat → List AV → SS → Option Out} {l1 l2 l3 : Option AV} {o : OId} {L2 : List (Nat × AV)} {St : List AV} {S : SS} : ev c 117 6 [some (aR o), l1, l2, l3] L2 St S = ev c 117 7 [some (aR o), l1, l2, l3] L2 (aR o :: St) S := ev_go i117_6 rfl
theorem i117_7 : insAt 117 7 = some (.getfield 10, 3, (11, 0, 0, 0), 3) := rfl
theorem s117_7 {c : Nat → List AV → SS → Option Out} {l0 l1 l2 l3 : Option AV} {j t : Nat} {L2 : List (Nat × AV)} {St : List AV} {S : SS} : ev c 117 7 [l0, l1, l2, l3] L2 (aR (11, j, t) :: St) S = ev c 117 10 [l0, l1, l2, l3] L2 (S.2.2.1 (11, j, t) 0 :: St) S := ev_go i117_7 rfl
theorem i117_10 : insAt 117 10 = some (.iload_n 3, 1, (0, 0, 0, 0), 0) := rfl
theorem s117_10 {c : Nat → List AV → SS → Option Out} {l0 l1 l2 : Option AV} {x : Int32} {L2 : List (Nat × AV)} {St : List AV} {S : SS} : ev c 117 10 [l0, l1, l2, some (aI x)] L2 St S = ev c 117 11 [l0, l1, l2, some (aI x)] L2 (aI x :: St) S := ev_go i117_10 rfl
theorem i117_11 : insAt 117 11 = some (.aload_n 0, 1, (0, 0, 0, 0), 0) := rfl
theorem s117_11 {c : Nat → List AV → SS → Option Out} {l1 l2 l3 : Option AV} {o : OId} {L2 : List (Nat × AV)} {St : List AV} {S : SS} : ev c 117 11 [some (aR o), l1, l2, l3] L2 St S = ev c 117 12 [some (aR o), l1, l2, l3] L2 (aR o :: St) S := ev_go i117_11 rfl
theorem i117_12 : insAt 117 12 = some (.iload_n 1, 1, (0, 0, 0, 0), 0) := rfl
theorem s117_12 {c : Nat → List AV → SS → Option Out} {l0 l2 l3 : Option AV} {x : Int32} {L2 : List (Nat × AV)} {St : List AV} {S : SS} : ev c 117 12 [l0, some (aI x), l2, l3] L2 St S = ev c 117 13 [l0, some (aI x), l2, l3] L2 (aI x :: St) S := ev_go i117_12 rfl
theorem i117_13 : insAt 117 13 = some (.iload_n 2, 1, (0, 0, 0, 0), 0) := rfl
theorem s117_13 {c : Nat → List AV → SS → Option Out} {l0 l1 l3 : Option AV} {x : Int32} {L2 : List (Nat × AV)} {St : List AV} {S : SS} : ev c 117 13 [l0, l1, some (aI x), l3] L2 St S = ev c 117 14 [l0, l1, some (aI x), l3] L2 (aI x :: St) S := ev_go i117_13 rfl
theorem i117_14 : insAt 117 14 = some (.invokevirtual 189, 3, (118, 2, 2, 11), 243) := rfl
theorem s117_14 {c : Nat → List AV → SS → Option Out} {l0 l1 l2 l3 : Option AV} {t0 t1 : AV} {a0 : Int32} {a1 : Int32} {j t : Nat} {L2 : List (Nat × AV)} {S : SS} : ev c 117 14 [l0, l1, l2, l3] L2 [aI a1, aI a0, aR (11, j, t), t0, t1] S = ck (c 118 [aR (11, j, t), aI a0, aI a1] S) (fun v S' => ev c 117 17 [l0, l1, l2, l3] L2 (v.toList ++ [t0, t1]) S') := ev_call i117_14 rfl
theorem i117_17 : insAt 117 17 = some (.invokevirtual 192, 3, (119, 2, 3, 4), 244) := rfl
theorem s117_17 {c : Nat → List AV → SS → Option Out} {l0 l1 l2 l3 : Option AV} {a0 : Int32} {a1 : Int32} {j t : Nat} {L2 : List (Nat × AV)} {S : SS} : ev c 117 17 [l0, l1, l2, l3] L2 [aI a1, aI a0, aR (4, j, t)] S = ck (c 119 [aR (4, j, t), aI a0, aI a1] S) (fun v S' => ev c 117 20 [l0, l1, l2, l3] L2 (v.toList ++ []) S') := ev_call i117_17 rfl
theorem i117_20 : insAt 117 20 = some (.ireturn, 1, (0, 0, 0, 0), 0) := rfl
theorem s117_20 {c : Nat → List AV → SS → Option Out} {l0 l1 l2 l3 : Option AV} {x : Int32} {L2 : List (Nat × AV)} {S : SS} : ev c 117 20 [l0, l1, l2, l3] L2 [aI x] S = some (.inl (some (aI x)), S) := ev_end i117_20 rfl
theorem m117 {d : Nat} {o : OId} {a0 : Int32} {a1 : Int32} {S : SS} : evm (d + 1) 117 [aR o, aI a0, aI a1] S = ev (evm d) 117 0 [some (aR o), some (aI a0), some (aI a1), none] [] [] S := evm_s (n := 4) rfl (Nat.le_of_ble_eq_true rfl) rfl rfl
/-! FrequencyOffice.placeOfOther(II)I -/
theorem i118_0 : insAt 118 0 = some (.aload_n 0, 1, (0, 0, 0, 0), 0) := rfl
theorem s118_0 {c : Nat → List AV → SS → Option Out} {l1 l2 l3 : Option AV} {o : OId} {L2 : List (Nat × AV)} {St : List AV} {S : SS} : ev c 118 0 [some (aR o), l1, l2, l3] L2 St S = ev c 118 1 [some (aR o), l1, l2, l3] L2 (aR o :: St) S := ev_go i118_0 rfl
theorem i118_1 : insAt 118 1 = some (.iload_n 2, 1, (0, 0, 0, 0), 0) := rfl
theorem s118_1 {c : Nat → List AV → SS → Option Out} {l0 l1 l3 : Option AV} {x : Int32} {L2 : List (Nat × AV)} {St : List AV} {S : SS} : ev c 118 1 [l0, l1, some (aI x), l3] L2 St S = ev c 118 2 [l0, l1, some (aI x), l3] L2 (aI x :: St) S := ev_go i118_1 rfl
theorem i118_2 : insAt 118 2 = some (.invokevirtual 134, 3, (90, 1, 2, 11), 220) := rfl
theorem s118_2 {c : Nat → List AV → SS → Option Out} {l0 l1 l2 l3 : Option AV} {a0 : Int32} {j t : Nat} {L2 : List (Nat × AV)} {S : SS} : ev c 118 2 [l0, l1, l2, l3] L2 [aI a0, aR (11, j, t)] S = ck (c 90 [aR (11, j, t), aI a0] S) (fun v S' => ev c 118 5 [l0, l1, l2, l3] L2 (v.toList ++ []) S') := ev_call i118_2 rfl
theorem i118_5 : insAt 118 5 = some (.istore_n 3, 1, (0, 0, 0, 0), 0) := rfl
theorem s118_5 {c : Nat → List AV → SS → Option Out} {l0 l1 l2 l3 : Option AV} {x : Int32} {L2 : List (Nat × AV)} {St : List AV} {S : SS} : ev c 118 5 [l0, l1, l2, l3] L2 (aI x :: St) S = ev c 118 6 [l0, l1, l2, some (aI x)] (kil L2 3) St S := ev_go i118_5 rfl
theorem i118_6 : insAt 118 6 = some (.iload_n 1, 1, (0, 0, 0, 0), 0) := rfl
theorem s118_6 {c : Nat → List AV → SS → Option Out} {l0 l2 l3 : Option AV} {x : Int32} {L2 : List (Nat × AV)} {St : List AV} {S : SS} : ev c 118 6 [l0, some (aI x), l2, l3] L2 St S = ev c 118 7 [l0, some (aI x), l2, l3] L2 (aI x :: St) S := ev_go i118_6 rfl
theorem i118_7 : insAt 118 7 = some (.iload_n 2, 1, (0, 0, 0, 0), 0) := rfl
theorem s118_7 {c : Nat → List AV → SS → Option Out} {l0 l1 l3 : Option AV} {x : Int32} {L2 : List (Nat × AV)} {St : List AV} {S : SS} : ev c 118 7 [l0, l1, some (aI x), l3] L2 St S = ev c 118 8 [l0, l1, some (aI x), l3] L2 (aI x :: St) S := ev_go i118_7 rfl
theorem i118_8 : insAt 118 8 = some (.if_icmp .ne 14, 3, (0, 0, 0, 0), 0) := rfl
theorem s118_8 {c : Nat → List AV → SS → Option Out} {l0 l1 l2 l3 : Option AV} {x y : Int32} {L2 : List (Nat × AV)} {St : List AV} {S : SS} : ev c 118 8 [l0, l1, l2, l3] L2 (aI y :: aI x :: St) S = if x = y then ev c 118 11 [l0, l1, l2, l3] L2 St S else ev c 118 22 [l0, l1, l2, l3] L2 St S := (ev_br i118_8 rfl).trans (ite_not _ _ _)
theorem i118_11 : insAt 118 11 = some (.new 349, 3, (0, 0, 1, 0), 158) := rfl
theorem s118_11 {c : Nat → List AV → SS → Option Out} {l0 l1 l2 l3 : Option AV} {L2 : List (Nat × AV)} {S : SS} : ev c 118 11 [l0, l1, l2, l3] L2 [] S = some (.inr "java/lang/IllegalArgumentException", bump S 1 6) := ev_end i118_11 rfl
theorem i118_14 : insAt 118 14 = some (.dup, 1, (0, 0, 0, 0), 0) := rfl
theorem s118_14 {c : Nat → List AV → SS → Option Out} {l0 l1 l2 l3 : Option AV} {x : OId} {L2 : List (Nat × AV)} {St : List AV} {S : SS} : ev c 118 14 [l0, l1, l2, l3] L2 (aR x :: St) S = ev c 118 15 [l0, l1, l2, l3] L2 (aR x :: aR x :: St) S := ev_go i118_14 rfl
theorem i118_22 : insAt 118 22 = some (.iload_n 3, 1, (0, 0, 0, 0), 0) := rfl
theorem s118_22 {c : Nat → List AV → SS → Option Out} {l0 l1 l2 : Option AV} {x : Int32} {L2 : List (Nat × AV)} {St : List AV} {S : SS} : ev c 118 22 [l0, l1, l2, some (aI x)] L2 St S = ev c 118 23 [l0, l1, l2, some (aI x)] L2 (aI x :: St) S := ev_go i118_22 rfl
theorem i118_23 : insAt 118 23 = some (.ireturn, 1, (0, 0, 0, 0), 0) := rfl
theorem s118_23 {c : Nat → List AV → SS → Option Out} {l0 l1 l2 l3 : Option AV} {x : Int32} {L2 : List (Nat × AV)} {S : SS} : ev c 118 23 [l0, l1, l2, l3] L2 [aI x] S = some (.inl (some (aI x)), S) := ev_end i118_23 rfl
theorem m118 {d : Nat} {o : OId} {a0 : Int32} {a1 : Int32} {S : SS} : evm (d + 1) 118 [aR o, aI a0, aI a1] S = ev (evm d) 118 0 [some (aR o), some (aI a0), some (aI a1), none] [] [] S := evm_s (n := 4) rfl (Nat.le_of_ble_eq_true rfl) rfl rfl
/-! FrequencyOffice.baseSeparation(II)I -/
theorem i121_0 : insAt 121 0 = some (.aload_n 0, 1, (0, 0, 0, 0), 0) := rfl
theorem s121_0 {c : Nat → List AV → SS → Option Out} {l1 l2 l3 : Option AV} {o : OId} {L2 : List (Nat × AV)} {St : List AV} {S : SS} : ev c 121 0 [some (aR o), l1, l2, l3] L2 St S = ev c 121 1 [some (aR o), l1, l2, l3] L2 (aR o :: St) S := ev_go i121_0 rfl
theorem i121_1 : insAt 121 1 = some (.iload_n 1, 1, (0, 0, 0, 0), 0) := rfl
theorem s121_1 {c : Nat → List AV → SS → Option Out} {l0 l2 l3 : Option AV} {x : Int32} {L2 : List (Nat × AV)} {St : List AV} {S : SS} : ev c 121 1 [l0, some (aI x), l2, l3] L2 St S = ev c 121 2 [l0, some (aI x), l2, l3] L2 (aI x :: St) S := ev_go i121_1 rfl
theorem i121_2 : insAt 121 2 = some (.invokevirtual 134, 3, (90, 1, 2, 11), 220) := rfl
theorem s121_2 {c : Nat → List AV → SS → Option Out} {l0 l1 l2 l3 : Option AV} {a0 : Int32} {j t : Nat} {L2 : List (Nat × AV)} {S : SS} : ev c 121 2 [l0, l1, l2, l3] L2 [aI a0, aR (11, j, t)] S = ck (c 90 [aR (11, j, t), aI a0] S) (fun v S' => ev c 121 5 [l0, l1, l2, l3] L2 (v.toList ++ []) S') := ev_call i121_2 rfl
theorem i121_5 : insAt 121 5 = some (.istore_n 3, 1, (0, 0, 0, 0), 0) := rfl
theorem s121_5 {c : Nat → List AV → SS → Option Out} {l0 l1 l2 l3 : Option AV} {x : Int32} {L2 : List (Nat × AV)} {St : List AV} {S : SS} : ev c 121 5 [l0, l1, l2, l3] L2 (aI x :: St) S = ev c 121 6 [l0, l1, l2, some (aI x)] (kil L2 3) St S := ev_go i121_5 rfl
theorem i121_6 : insAt 121 6 = some (.aload_n 0, 1, (0, 0, 0, 0), 0) := rfl
theorem s121_6 {c : Nat → List AV → SS → Option Out} {l1 l2 l3 : Option AV} {o : OId} {L2 : List (Nat × AV)} {St : List AV} {S : SS} : ev c 121 6 [some (aR o), l1, l2, l3] L2 St S = ev c 121 7 [some (aR o), l1, l2, l3] L2 (aR o :: St) S := ev_go i121_6 rfl
theorem i121_7 : insAt 121 7 = some (.getfield 10, 3, (11, 0, 0, 0), 3) := rfl
theorem s121_7 {c : Nat → List AV → SS → Option Out} {l0 l1 l2 l3 : Option AV} {j t : Nat} {L2 : List (Nat × AV)} {St : List AV} {S : SS} : ev c 121 7 [l0, l1, l2, l3] L2 (aR (11, j, t) :: St) S = ev c 121 10 [l0, l1, l2, l3] L2 (S.2.2.1 (11, j, t) 0 :: St) S := ev_go i121_7 rfl
theorem i121_10 : insAt 121 10 = some (.iload_n 3, 1, (0, 0, 0, 0), 0) := rfl
theorem s121_10 {c : Nat → List AV → SS → Option Out} {l0 l1 l2 : Option AV} {x : Int32} {L2 : List (Nat × AV)} {St : List AV} {S : SS} : ev c 121 10 [l0, l1, l2, some (aI x)] L2 St S = ev c 121 11 [l0, l1, l2, some (aI x)] L2 (aI x :: St) S := ev_go i121_10 rfl
theorem i121_11 : insAt 121 11 = some (.aload_n 0, 1, (0, 0, 0, 0), 0) := rfl
theorem s121_11 {c : Nat → List AV → SS → Option Out} {l1 l2 l3 : Option AV} {o : OId} {L2 : List (Nat × AV)} {St : List AV} {S : SS} : ev c 121 11 [some (aR o), l1, l2, l3] L2 St S = ev c 121 12 [some (aR o), l1, l2, l3] L2 (aR o :: St) S := ev_go i121_11 rfl
theorem i121_12 : insAt 121 12 = some (.iload_n 1, 1, (0, 0, 0, 0), 0) := rfl
theorem s121_12 {c : Nat → List AV → SS → Option Out} {l0 l2 l3 : Option AV} {x : Int32} {L2 : List (Nat × AV)} {St : List AV} {S : SS} : ev c 121 12 [l0, some (aI x), l2, l3] L2 St S = ev c 121 13 [l0, some (aI x), l2, l3] L2 (aI x :: St) S := ev_go i121_12 rfl
theorem i121_13 : insAt 121 13 = some (.iload_n 2, 1, (0, 0, 0, 0), 0) := rfl
theorem s121_13 {c : Nat → List AV → SS → Option Out} {l0 l1 l3 : Option AV} {x : Int32} {L2 : List (Nat × AV)} {St : List AV} {S : SS} : ev c 121 13 [l0, l1, some (aI x), l3] L2 St S = ev c 121 14 [l0, l1, some (aI x), l3] L2 (aI x :: St) S := ev_go i121_13 rfl
theorem i121_14 : insAt 121 14 = some (.invokevirtual 189, 3, (118, 2, 2, 11), 243) := rfl
theorem s121_14 {c : Nat → List AV → SS → Option Out} {l0 l1 l2 l3 : Option AV} {t0 t1 : AV} {a0 : Int32} {a1 : Int32} {j t : Nat} {L2 : List (Nat × AV)} {S : SS} : ev c 121 14 [l0, l1, l2, l3] L2 [aI a1, aI a0, aR (11, j, t), t0, t1] S = ck (c 118 [aR (11, j, t), aI a0, aI a1] S) (fun v S' => ev c 121 17 [l0, l1, l2, l3] L2 (v.toList ++ [t0, t1]) S') := ev_call i121_14 rfl
theorem i121_17 : insAt 121 17 = some (.invokevirtual 195, 3, (26, 2, 3, 4), 246) := rfl
theorem s121_17 {c : Nat → List AV → SS → Option Out} {l0 l1 l2 l3 : Option AV} {a0 : Int32} {a1 : Int32} {j t : Nat} {L2 : List (Nat × AV)} {S : SS} : ev c 121 17 [l0, l1, l2, l3] L2 [aI a1, aI a0, aR (4, j, t)] S = ck (c 26 [aR (4, j, t), aI a0, aI a1] S) (fun v S' => ev c 121 20 [l0, l1, l2, l3] L2 (v.toList ++ []) S') := ev_call i121_17 rfl
theorem i121_20 : insAt 121 20 = some (.ireturn, 1, (0, 0, 0, 0), 0) := rfl
theorem s121_20 {c : Nat → List AV → SS → Option Out} {l0 l1 l2 l3 : Option AV} {x : Int32} {L2 : List (Nat × AV)} {S : SS} : ev c 121 20 [l0, l1, l2, l3] L2 [aI x] S = some (.inl (some (aI x)), S) := ev_end i121_20 rfl
theorem m121 {d : Nat} {o : OId} {a0 : Int32} {a1 : Int32} {S : SS} : evm (d + 1) 121 [aR o, aI a0, aI a1] S = ev (evm d) 121 0 [some (aR o), some (aI a0), some (aI a1), none] [] [] S := evm_s (n := 4) rfl (Nat.le_of_ble_eq_true rfl) rfl rfl
/-! FrequencyOffice.complaintCount(II)I -/
theorem i123_0 : insAt 123 0 = some (.aload_n 0, 1, (0, 0, 0, 0), 0) := rfl
theorem s123_0 {c : Nat → List AV → SS → Option Out} {l1 l2 l3 : Option AV} {o : OId} {L2 : List (Nat × AV)} {St : List AV} {S : SS} : ev c 123 0 [some (aR o), l1, l2, l3] L2 St S = ev c 123 1 [some (aR o), l1, l2, l3] L2 (aR o :: St) S := ev_go i123_0 rfl
theorem i123_1 : insAt 123 1 = some (.iload_n 1, 1, (0, 0, 0, 0), 0) := rfl
theorem s123_1 {c : Nat → List AV → SS → Option Out} {l0 l2 l3 : Option AV} {x : Int32} {L2 : List (Nat × AV)} {St : List AV} {S : SS} : ev c 123 1 [l0, some (aI x), l2, l3] L2 St S = ev c 123 2 [l0, some (aI x), l2, l3] L2 (aI x :: St) S := ev_go i123_1 rfl
theorem i123_2 : insAt 123 2 = some (.invokevirtual 134, 3, (90, 1, 2, 11), 220) := rfl
theorem s123_2 {c : Nat → List AV → SS → Option Out} {l0 l1 l2 l3 : Option AV} {a0 : Int32} {j t : Nat} {L2 : List (Nat × AV)} {S : SS} : ev c 123 2 [l0, l1, l2, l3] L2 [aI a0, aR (11, j, t)] S = ck (c 90 [aR (11, j, t), aI a0] S) (fun v S' => ev c 123 5 [l0, l1, l2, l3] L2 (v.toList ++ []) S') := ev_call i123_2 rfl
theorem i123_5 : insAt 123 5 = some (.istore_n 3, 1, (0, 0, 0, 0), 0) := rfl
theorem s123_5 {c : Nat → List AV → SS → Option Out} {l0 l1 l2 l3 : Option AV} {x : Int32} {L2 : List (Nat × AV)} {St : List AV} {S : SS} : ev c 123 5 [l0, l1, l2, l3] L2 (aI x :: St) S = ev c 123 6 [l0, l1, l2, some (aI x)] (kil L2 3) St S := ev_go i123_5 rfl
theorem i123_6 : insAt 123 6 = some (.aload_n 0, 1, (0, 0, 0, 0), 0) := rfl
theorem s123_6 {c : Nat → List AV → SS → Option Out} {l1 l2 l3 : Option AV} {o : OId} {L2 : List (Nat × AV)} {St : List AV} {S : SS} : ev c 123 6 [some (aR o), l1, l2, l3] L2 St S = ev c 123 7 [some (aR o), l1, l2, l3] L2 (aR o :: St) S := ev_go i123_6 rfl
theorem i123_7 : insAt 123 7 = some (.getfield 10, 3, (11, 0, 0, 0), 3) := rfl
theorem s123_7 {c : Nat → List AV → SS → Option Out} {l0 l1 l2 l3 : Option AV} {j t : Nat} {L2 : List (Nat × AV)} {St : List AV} {S : SS} : ev c 123 7 [l0, l1, l2, l3] L2 (aR (11, j, t) :: St) S = ev c 123 10 [l0, l1, l2, l3] L2 (S.2.2.1 (11, j, t) 0 :: St) S := ev_go i123_7 rfl
theorem i123_10 : insAt 123 10 = some (.iload_n 3, 1, (0, 0, 0, 0), 0) := rfl
theorem s123_10 {c : Nat → List AV → SS → Option Out} {l0 l1 l2 : Option AV} {x : Int32} {L2 : List (Nat × AV)} {St : List AV} {S : SS} : ev c 123 10 [l0, l1, l2, some (aI x)] L2 St S = ev c 123 11 [l0, l1, l2, some (aI x)] L2 (aI x :: St) S := ev_go i123_10 rfl
theorem i123_11 : insAt 123 11 = some (.aload_n 0, 1, (0, 0, 0, 0), 0) := rfl
theorem s123_11 {c : Nat → List AV → SS → Option Out} {l1 l2 l3 : Option AV} {o : OId} {L2 : List (Nat × AV)} {St : List AV} {S : SS} : ev c 123 11 [some (aR o), l1, l2, l3] L2 St S = ev c 123 12 [some (aR o), l1, l2, l3] L2 (aR o :: St) S := ev_go i123_11 rfl
theorem i123_12 : insAt 123 12 = some (.iload_n 1, 1, (0, 0, 0, 0), 0) := rfl
theorem s123_12 {c : Nat → List AV → SS → Option Out} {l0 l2 l3 : Option AV} {x : Int32} {L2 : List (Nat × AV)} {St : List AV} {S : SS} : ev c 123 12 [l0, some (aI x), l2, l3] L2 St S = ev c 123 13 [l0, some (aI x), l2, l3] L2 (aI x :: St) S := ev_go i123_12 rfl
theorem i123_13 : insAt 123 13 = some (.iload_n 2, 1, (0, 0, 0, 0), 0) := rfl
theorem s123_13 {c : Nat → List AV → SS → Option Out} {l0 l1 l3 : Option AV} {x : Int32} {L2 : List (Nat × AV)} {St : List AV} {S : SS} : ev c 123 13 [l0, l1, some (aI x), l3] L2 St S = ev c 123 14 [l0, l1, some (aI x), l3] L2 (aI x :: St) S := ev_go i123_13 rfl
theorem i123_14 : insAt 123 14 = some (.invokevirtual 189, 3, (118, 2, 2, 11), 243) := rfl
theorem s123_14 {c : Nat → List AV → SS → Option Out} {l0 l1 l2 l3 : Option AV} {t0 t1 : AV} {a0 : Int32} {a1 : Int32} {j t : Nat} {L2 : List (Nat × AV)} {S : SS} : ev c 123 14 [l0, l1, l2, l3] L2 [aI a1, aI a0, aR (11, j, t), t0, t1] S = ck (c 118 [aR (11, j, t), aI a0, aI a1] S) (fun v S' => ev c 123 17 [l0, l1, l2, l3] L2 (v.toList ++ [t0, t1]) S') := ev_call i123_14 rfl
theorem i123_17 : insAt 123 17 = some (.invokevirtual 198, 3, (29, 2, 3, 4), 248) := rfl
theorem s123_17 {c : Nat → List AV → SS → Option Out} {l0 l1 l2 l3 : Option AV} {a0 : Int32} {a1 : Int32} {j t : Nat} {L2 : List (Nat × AV)} {S : SS} : ev c 123 17 [l0, l1, l2, l3] L2 [aI a1, aI a0, aR (4, j, t)] S = ck (c 29 [aR (4, j, t), aI a0, aI a1] S) (fun v S' => ev c 123 20 [l0, l1, l2, l3] L2 (v.toList ++ []) S') := ev_call i123_17 rfl
theorem i123_20 : insAt 123 20 = some (.ireturn, 1, (0, 0, 0, 0), 0) := rfl
theorem s123_20 {c : Nat → List AV → SS → Option Out} {l0 l1 l2 l3 : Option AV} {x : Int32} {L2 : List (Nat × AV)} {S : SS} : ev c 123 20 [l0, l1, l2, l3] L2 [aI x] S = some (.inl (some (aI x)), S) := ev_end i123_20 rfl
theorem m123 {d : Nat} {o : OId} {a0 : Int32} {a1 : Int32} {S : SS} : evm (d + 1) 123 [aR o, aI a0, aI a1] S = ev (evm d) 123 0 [some (aR o), some (aI a0), some (aI a1), none] [] [] S := evm_s (n := 4) rfl (Nat.le_of_ble_eq_true rfl) rfl rfl
/-! FrequencyOffice.separation(II)I -/
theorem i125_0 : insAt 125 0 = some (.aload_n 0, 1, (0, 0, 0, 0), 0) := rfl
theorem s125_0 {c : Nat → List AV → SS → Option Out} {l1 l2 l3 : Option AV} {o : OId} {L2 : List (Nat × AV)} {St : List AV} {S : SS} : ev c 125 0 [some (aR o), l1, l2, l3] L2 St S = ev c 125 1 [some (aR o), l1, l2, l3] L2 (aR o :: St) S := ev_go i125_0 rfl
theorem i125_1 : insAt 125 1 = some (.iload_n 1, 1, (0, 0, 0, 0), 0) := rfl
theorem s125_1 {c : Nat → List AV → SS → Option Out} {l0 l2 l3 : Option AV} {x : Int32} {L2 : List (Nat × AV)} {St : List AV} {S : SS} : ev c 125 1 [l0, some (aI x), l2, l3] L2 St S = ev c 125 2 [l0, some (aI x), l2, l3] L2 (aI x :: St) S := ev_go i125_1 rfl
theorem i125_2 : insAt 125 2 = some (.invokevirtual 134, 3, (90, 1, 2, 11), 220) := rfl
theorem s125_2 {c : Nat → List AV → SS → Option Out} {l0 l1 l2 l3 : Option AV} {a0 : Int32} {j t : Nat} {L2 : List (Nat × AV)} {S : SS} : ev c 125 2 [l0, l1, l2, l3] L2 [aI a0, aR (11, j, t)] S = ck (c 90 [aR (11, j, t), aI a0] S) (fun v S' => ev c 125 5 [l0, l1, l2, l3] L2 (v.toList ++ []) S') := ev_call i125_2 rfl
theorem i125_5 : insAt 125 5 = some (.istore_n 3, 1, (0, 0, 0, 0), 0) := rfl
theorem s125_5 {c : Nat → List AV → SS → Option Out} {l0 l1 l2 l3 : Option AV} {x : Int32} {L2 : List (Nat × AV)} {St : List AV} {S : SS} : ev c 125 5 [l0, l1, l2, l3] L2 (aI x :: St) S = ev c 125 6 [l0, l1, l2, some (aI x)] (kil L2 3) St S := ev_go i125_5 rfl
theorem i125_6 : insAt 125 6 = some (.aload_n 0, 1, (0, 0, 0, 0), 0) := rfl
theorem s125_6 {c : Nat → List AV → SS → Option Out} {l1 l2 l3 : Option AV} {o : OId} {L2 : List (Nat × AV)} {St : List AV} {S : SS} : ev c 125 6 [some (aR o), l1, l2, l3] L2 St S = ev c 125 7 [some (aR o), l1, l2, l3] L2 (aR o :: St) S := ev_go i125_6 rfl
theorem i125_7 : insAt 125 7 = some (.getfield 10, 3, (11, 0, 0, 0), 3) := rfl
theorem s125_7 {c : Nat → List AV → SS → Option Out} {l0 l1 l2 l3 : Option AV} {j t : Nat} {L2 : List (Nat × AV)} {St : List AV} {S : SS} : ev c 125 7 [l0, l1, l2, l3] L2 (aR (11, j, t) :: St) S = ev c 125 10 [l0, l1, l2, l3] L2 (S.2.2.1 (11, j, t) 0 :: St) S := ev_go i125_7 rfl
theorem i125_10 : insAt 125 10 = some (.iload_n 3, 1, (0, 0, 0, 0), 0) := rfl
theorem s125_10 {c : Nat → List AV → SS → Option Out} {l0 l1 l2 : Option AV} {x : Int32} {L2 : List (Nat × AV)} {St : List AV} {S : SS} : ev c 125 10 [l0, l1, l2, some (aI x)] L2 St S = ev c 125 11 [l0, l1, l2, some (aI x)] L2 (aI x :: St) S := ev_go i125_10 rfl
theorem i125_11 : insAt 125 11 = some (.aload_n 0, 1, (0, 0, 0, 0), 0) := rfl
theorem s125_11 {c : Nat → List AV → SS → Option Out} {l1 l2 l3 : Option AV} {o : OId} {L2 : List (Nat × AV)} {St : List AV} {S : SS} : ev c 125 11 [some (aR o), l1, l2, l3] L2 St S = ev c 125 12 [some (aR o), l1, l2, l3] L2 (aR o :: St) S := ev_go i125_11 rfl
theorem i125_12 : insAt 125 12 = some (.iload_n 1, 1, (0, 0, 0, 0), 0) := rfl
theorem s125_12 {c : Nat → List AV → SS → Option Out} {l0 l2 l3 : Option AV} {x : Int32} {L2 : List (Nat × AV)} {St : List AV} {S : SS} : ev c 125 12 [l0, some (aI x), l2, l3] L2 St S = ev c 125 13 [l0, some (aI x), l2, l3] L2 (aI x :: St) S := ev_go i125_12 rfl
theorem i125_13 : insAt 125 13 = some (.iload_n 2, 1, (0, 0, 0, 0), 0) := rfl
theorem s125_13 {c : Nat → List AV → SS → Option Out} {l0 l1 l3 : Option AV} {x : Int32} {L2 : List (Nat × AV)} {St : List AV} {S : SS} : ev c 125 13 [l0, l1, some (aI x), l3] L2 St S = ev c 125 14 [l0, l1, some (aI x), l3] L2 (aI x :: St) S := ev_go i125_13 rfl
theorem i125_14 : insAt 125 14 = some (.invokevirtual 189, 3, (118, 2, 2, 11), 243) := rfl
theorem s125_14 {c : Nat → List AV → SS → Option Out} {l0 l1 l2 l3 : Option AV} {t0 t1 : AV} {a0 : Int32} {a1 : Int32} {j t : Nat} {L2 : List (Nat × AV)} {S : SS} : ev c 125 14 [l0, l1, l2, l3] L2 [aI a1, aI a0, aR (11, j, t), t0, t1] S = ck (c 118 [aR (11, j, t), aI a0, aI a1] S) (fun v S' => ev c 125 17 [l0, l1, l2, l3] L2 (v.toList ++ [t0, t1]) S') := ev_call i125_14 rfl
theorem i125_17 : insAt 125 17 = some (.invokevirtual 201, 3, (25, 2, 3, 4), 250) := rfl
theorem s125_17 {c : Nat → List AV → SS → Option Out} {l0 l1 l2 l3 : Option AV} {a0 : Int32} {a1 : Int32} {j t : Nat} {L2 : List (Nat × AV)} {S : SS} : ev c 125 17 [l0, l1, l2, l3] L2 [aI a1, aI a0, aR (4, j, t)] S = ck (c 25 [aR (4, j, t), aI a0, aI a1] S) (fun v S' => ev c 125 20 [l0, l1, l2, l3] L2 (v.toList ++ []) S') := ev_call i125_17 rfl
theorem i125_20 : insAt 125 20 = some (.ireturn, 1, (0, 0, 0, 0), 0) := rfl
theorem s125_20 {c : Nat → List AV → SS → Option Out} {l0 l1 l2 l3 : Option AV} {x : Int32} {L2 : List (Nat × AV)} {S : SS} : ev c 125 20 [l0, l1, l2, l3] L2 [aI x] S = some (.inl (some (aI x)), S) := ev_end i125_20 rfl
theorem m125 {d : Nat} {o : OId} {a0 : Int32} {a1 : Int32} {S : SS} : evm (d + 1) 125 [aR o, aI a0, aI a1] S = ev (evm d) 125 0 [some (aR o), some (aI a0), some (aI a1), none] [] [] S := evm_s (n := 4) rfl (Nat.le_of_ble_eq_true rfl) rfl rfl
/-! FrequencyOffice.margin(II)I -/
theorem i127_0 : insAt 127 0 = some (.aload_n 0, 1, (0, 0, 0, 0), 0) := rfl
theorem s127_0 {c : Nat → List AV → SS → Option Out} {l1 l2 l3 : Option AV} {o : OId} {L2 : List (Nat × AV)} {St : List AV} {S : SS} : ev c 127 0 [some (aR o), l1, l2, l3] L2 St S = ev c 127 1 [some (aR o), l1, l2, l3] L2 (aR o :: St) S := ev_go i127_0 rfl
theorem i127_1 : insAt 127 1 = some (.iload_n 1, 1, (0, 0, 0, 0), 0) := rfl
theorem s127_1 {c : Nat → List AV → SS → Option Out} {l0 l2 l3 : Option AV} {x : Int32} {L2 : List (Nat × AV)} {St : List AV} {S : SS} : ev c 127 1 [l0, some (aI x), l2, l3] L2 St S = ev c 127 2 [l0, some (aI x), l2, l3] L2 (aI x :: St) S := ev_go i127_1 rfl
theorem i127_2 : insAt 127 2 = some (.invokevirtual 134, 3, (90, 1, 2, 11), 220) := rfl
theorem s127_2 {c : Nat → List AV → SS → Option Out} {l0 l1 l2 l3 : Option AV} {a0 : Int32} {j t : Nat} {L2 : List (Nat × AV)} {S : SS} : ev c 127 2 [l0, l1, l2, l3] L2 [aI a0, aR (11, j, t)] S = ck (c 90 [aR (11, j, t), aI a0] S) (fun v S' => ev c 127 5 [l0, l1, l2, l3] L2 (v.toList ++ []) S') := ev_call i127_2 rfl
theorem i127_5 : insAt 127 5 = some (.istore_n 3, 1, (0, 0, 0, 0), 0) := rfl
theorem s127_5 {c : Nat → List AV → SS → Option Out} {l0 l1 l2 l3 : Option AV} {x : Int32} {L2 : List (Nat × AV)} {St : List AV} {S : SS} : ev c 127 5 [l0, l1, l2, l3] L2 (aI x :: St) S = ev c 127 6 [l0, l1, l2, some (aI x)] (kil L2 3) St S := ev_go i127_5 rfl
theorem i127_6 : insAt 127 6 = some (.aload_n 0, 1, (0, 0, 0, 0), 0) := rfl
theorem s127_6 {c : Nat → List AV → SS → Option Out} {l1 l2 l3 : Option AV} {o : OId} {L2 : List (Nat × AV)} {St : List AV} {S : SS} : ev c 127 6 [some (aR o), l1, l2, l3] L2 St S = ev c 127 7 [some (aR o), l1, l2, l3] L2 (aR o :: St) S := ev_go i127_6 rfl
theorem i127_7 : insAt 127 7 = some (.getfield 10, 3, (11, 0, 0, 0), 3) := rfl
theorem s127_7 {c : Nat → List AV → SS → Option Out} {l0 l1 l2 l3 : Option AV} {j t : Nat} {L2 : List (Nat × AV)} {St : List AV} {S : SS} : ev c 127 7 [l0, l1, l2, l3] L2 (aR (11, j, t) :: St) S = ev c 127 10 [l0, l1, l2, l3] L2 (S.2.2.1 (11, j, t) 0 :: St) S := ev_go i127_7 rfl
theorem i127_10 : insAt 127 10 = some (.iload_n 3, 1, (0, 0, 0, 0), 0) := rfl
theorem s127_10 {c : Nat → List AV → SS → Option Out} {l0 l1 l2 : Option AV} {x : Int32} {L2 : List (Nat × AV)} {St : List AV} {S : SS} : ev c 127 10 [l0, l1, l2, some (aI x)] L2 St S = ev c 127 11 [l0, l1, l2, some (aI x)] L2 (aI x :: St) S := ev_go i127_10 rfl
theorem i127_11 : insAt 127 11 = some (.aload_n 0, 1, (0, 0, 0, 0), 0) := rfl
theorem s127_11 {c : Nat → List AV → SS → Option Out} {l1 l2 l3 : Option AV} {o : OId} {L2 : List (Nat × AV)} {St : List AV} {S : SS} : ev c 127 11 [some (aR o), l1, l2, l3] L2 St S = ev c 127 12 [some (aR o), l1, l2, l3] L2 (aR o :: St) S := ev_go i127_11 rfl
theorem i127_12 : insAt 127 12 = some (.iload_n 1, 1, (0, 0, 0, 0), 0) := rfl
theorem s127_12 {c : Nat → List AV → SS → Option Out} {l0 l2 l3 : Option AV} {x : Int32} {L2 : List (Nat × AV)} {St : List AV} {S : SS} : ev c 127 12 [l0, some (aI x), l2, l3] L2 St S = ev c 127 13 [l0, some (aI x), l2, l3] L2 (aI x :: St) S := ev_go i127_12 rfl
theorem i127_13 : insAt 127 13 = some (.iload_n 2, 1, (0, 0, 0, 0), 0) := rfl
theorem s127_13 {c : Nat → List AV → SS → Option Out} {l0 l1 l3 : Option AV} {x : Int32} {L2 : List (Nat × AV)} {St : List AV} {S : SS} : ev c 127 13 [l0, l1, some (aI x), l3] L2 St S = ev c 127 14 [l0, l1, some (aI x), l3] L2 (aI x :: St) S := ev_go i127_13 rfl
theorem i127_14 : insAt 127 14 = some (.invokevirtual 189, 3, (118, 2, 2, 11), 243) := rfl
theorem s127_14 {c : Nat → List AV → SS → Option Out} {l0 l1 l2 l3 : Option AV} {t0 t1 : AV} {a0 : Int32} {a1 : Int32} {j t : Nat} {L2 : List (Nat × AV)} {S : SS} : ev c 127 14 [l0, l1, l2, l3] L2 [aI a1, aI a0, aR (11, j, t), t0, t1] S = ck (c 118 [aR (11, j, t), aI a0, aI a1] S) (fun v S' => ev c 127 17 [l0, l1, l2, l3] L2 (v.toList ++ [t0, t1]) S') := ev_call i127_14 rfl
theorem i127_17 : insAt 127 17 = some (.invokevirtual 204, 3, (24, 2, 3, 4), 252) := rfl
theorem s127_17 {c : Nat → List AV → SS → Option Out} {l0 l1 l2 l3 : Option AV} {a0 : Int32} {a1 : Int32} {j t : Nat} {L2 : List (Nat × AV)} {S : SS} : ev c 127 17 [l0, l1, l2, l3] L2 [aI a1, aI a0, aR (4, j, t)] S = ck (c 24 [aR (4, j, t), aI a0, aI a1] S) (fun v S' => ev c 127 20 [l0, l1, l2, l3] L2 (v.toList ++ []) S') := ev_call i127_17 rfl
theorem i127_20 : insAt 127 20 = some (.ireturn, 1, (0, 0, 0, 0), 0) := rfl
theorem s127_20 {c : Nat → List AV → SS → Option Out} {l0 l1 l2 l3 : Option AV} {x : Int32} {L2 : List (Nat × AV)} {S : SS} : ev c 127 20 [l0, l1, l2, l3] L2 [aI x] S = some (.inl (some (aI x)), S) := ev_end i127_20 rfl
theorem m127 {d : Nat} {o : OId} {a0 : Int32} {a1 : Int32} {S : SS} : evm (d + 1) 127 [aR o, aI a0, aI a1] S = ev (evm d) 127 0 [some (aR o), some (aI a0), some (aI a1), none] [] [] S := evm_s (n := 4) rfl (Nat.le_of_ble_eq_true rfl) rfl rfl
/-! FrequencyOffice.conflictsAt(III)I -/
theorem i129_0 : insAt 129 0 = some (.iload_n 1, 1, (0, 0, 0, 0), 0) := rfl
theorem s129_0 {c : Nat → List AV → SS → Option Out} {l0 l2 l3 : Option AV} {x : Int32} {L2 : List (Nat × AV)} {St : List AV} {S : SS} : ev c 129 0 [l0, some (aI x), l2, l3] L2 St S = ev c 129 1 [l0, some (aI x), l2, l3] L2 (aI x :: St) S := ev_go i129_0 rfl
theorem i129_1 : insAt 129 1 = some (.iload_n 2, 1, (0, 0, 0, 0), 0) := rfl
theorem s129_1 {c : Nat → List AV → SS → Option Out} {l0 l1 l3 : Option AV} {x : Int32} {L2 : List (Nat × AV)} {St : List AV} {S : SS} : ev c 129 1 [l0, l1, some (aI x), l3] L2 St S = ev c 129 2 [l0, l1, some (aI x), l3] L2 (aI x :: St) S := ev_go i129_1 rfl
theorem i129_2 : insAt 129 2 = some (.invokestatic 84, 3, (63, 2, 0, 0), 163) := rfl
theorem s129_2 {c : Nat → List AV → SS → Option Out} {l0 l1 l2 l3 : Option AV} {a0 : Int32} {a1 : Int32} {L2 : List (Nat × AV)} {S : SS} : ev c 129 2 [l0, l1, l2, l3] L2 [aI a1, aI a0] S = ck (c 63 [aI a0, aI a1] S) (fun v S' => ev c 129 5 [l0, l1, l2, l3] L2 (v.toList ++ []) S') := ev_call i129_2 rfl
theorem i129_5 : insAt 129 5 = some (.iload_n 3, 1, (0, 0, 0, 0), 0) := rfl
theorem s129_5 {c : Nat → List AV → SS → Option Out} {l0 l1 l2 : Option AV} {x : Int32} {L2 : List (Nat × AV)} {St : List AV} {S : SS} : ev c 129 5 [l0, l1, l2, some (aI x)] L2 St S = ev c 129 6 [l0, l1, l2, some (aI x)] L2 (aI x :: St) S := ev_go i129_5 rfl
theorem i129_6 : insAt 129 6 = some (.invokestatic 207, 3, (130, 1, 0, 0), 254) := rfl
theorem s129_6 {c : Nat → List AV → SS → Option Out} {l0 l1 l2 l3 : Option AV} {a0 : Int32} {L2 : List (Nat × AV)} {S : SS} : ev c 129 6 [l0, l1, l2, l3] L2 [aI a0] S = ck (c 130 [aI a0] S) (fun v S' => ev c 129 9 [l0, l1, l2, l3] L2 (v.toList ++ []) S') := ev_call i129_6 rfl
theorem i129_9 : insAt 129 9 = some (.aload_n 0, 1, (0, 0, 0, 0), 0) := rfl
theorem s129_9 {c : Nat → List AV → SS → Option Out} {l1 l2 l3 : Option AV} {o : OId} {L2 : List (Nat × AV)} {St : List AV} {S : SS} : ev c 129 9 [some (aR o), l1, l2, l3] L2 St S = ev c 129 10 [some (aR o), l1, l2, l3] L2 (aR o :: St) S := ev_go i129_9 rfl
theorem i129_10 : insAt 129 10 = some (.getfield 10, 3, (11, 0, 0, 0), 3) := rfl
theorem s129_10 {c : Nat → List AV → SS → Option Out} {l0 l1 l2 l3 : Option AV} {j t : Nat} {L2 : List (Nat × AV)} {St : List AV} {S : SS} : ev c 129 10 [l0, l1, l2, l3] L2 (aR (11, j, t) :: St) S = ev c 129 13 [l0, l1, l2, l3] L2 (S.2.2.1 (11, j, t) 0 :: St) S := ev_go i129_10 rfl
theorem i129_13 : insAt 129 13 = some (.iload_n 1, 1, (0, 0, 0, 0), 0) := rfl
theorem s129_13 {c : Nat → List AV → SS → Option Out} {l0 l2 l3 : Option AV} {x : Int32} {L2 : List (Nat × AV)} {St : List AV} {S : SS} : ev c 129 13 [l0, some (aI x), l2, l3] L2 St S = ev c 129 14 [l0, some (aI x), l2, l3] L2 (aI x :: St) S := ev_go i129_13 rfl
theorem i129_14 : insAt 129 14 = some (.iload_n 2, 1, (0, 0, 0, 0), 0) := rfl
theorem s129_14 {c : Nat → List AV → SS → Option Out} {l0 l1 l3 : Option AV} {x : Int32} {L2 : List (Nat × AV)} {St : List AV} {S : SS} : ev c 129 14 [l0, l1, some (aI x), l3] L2 St S = ev c 129 15 [l0, l1, some (aI x), l3] L2 (aI x :: St) S := ev_go i129_14 rfl
theorem i129_15 : insAt 129 15 = some (.iload_n 3, 1, (0, 0, 0, 0), 0) := rfl
theorem s129_15 {c : Nat → List AV → SS → Option Out} {l0 l1 l2 : Option AV} {x : Int32} {L2 : List (Nat × AV)} {St : List AV} {S : SS} : ev c 129 15 [l0, l1, l2, some (aI x)] L2 St S = ev c 129 16 [l0, l1, l2, some (aI x)] L2 (aI x :: St) S := ev_go i129_15 rfl
theorem i129_16 : insAt 129 16 = some (.invokevirtual 210, 3, (87, 3, 3, 4), 255) := rfl
theorem s129_16 {c : Nat → List AV → SS → Option Out} {l0 l1 l2 l3 : Option AV} {a0 : Int32} {a1 : Int32} {a2 : Int32} {j t : Nat} {L2 : List (Nat × AV)} {S : SS} : ev c 129 16 [l0, l1, l2, l3] L2 [aI a2, aI a1, aI a0, aR (4, j, t)] S = ck (c 87 [aR (4, j, t), aI a0, aI a1, aI a2] S) (fun v S' => ev c 129 19 [l0, l1, l2, l3] L2 (v.toList ++ []) S') := ev_call i129_16 rfl
theorem i129_19 : insAt 129 19 = some (.ireturn, 1, (0, 0, 0, 0), 0) := rfl
theorem s129_19 {c : Nat → List AV → SS → Option Out} {l0 l1 l2 l3 : Option AV} {x : Int32} {L2 : List (Nat × AV)} {S : SS} : ev c 129 19 [l0, l1, l2, l3] L2 [aI x] S = some (.inl (some (aI x)), S) := ev_end i129_19 rfl
theorem m129 {d : Nat} {o : OId} {a0 : Int32} {a1 : Int32} {a2 : Int32} {S : SS} : evm (d + 1) 129 [aR o, aI a0, aI a1, aI a2] S = ev (evm d) 129 0 [some (aR o), some (aI a0), some (aI a1), some (aI a2)] [] [] S := evm_s (n := 4) rfl (Nat.le_of_ble_eq_true rfl) rfl rfl
/-! FrequencyOffice.checkChannel(I)V -/
theorem i130_0 : insAt 130 0 = some (.iload_n 0, 1, (0, 0, 0, 0), 0) := rfl
theorem s130_0 {c : Nat → List AV → SS → Option Out} {x : Int32} {L2 : List (Nat × AV)} {St : List AV} {S : SS} : ev c 130 0 [some (aI x)] L2 St S = ev c 130 1 [some (aI x)] L2 (aI x :: St) S := ev_go i130_0 rfl
theorem i130_1 : insAt 130 1 = some (.iconst 0, 1, (0, 0, 0, 0), 0) := rfl
theorem s130_1 {c : Nat → List AV → SS → Option Out} {l0 : Option AV} {L2 : List (Nat × AV)} {St : List AV} {S : SS} : ev c 130 1 [l0] L2 St S = ev c 130 2 [l0] L2 (aI 0 :: St) S := ev_go i130_1 rfl
theorem i130_2 : insAt 130 2 = some (.bipush 7, 2, (0, 0, 0, 0), 0) := rfl
theorem s130_2 {c : Nat → List AV → SS → Option Out} {l0 : Option AV} {L2 : List (Nat × AV)} {St : List AV} {S : SS} : ev c 130 2 [l0] L2 St S = ev c 130 4 [l0] L2 (aI 7 :: St) S := ev_go i130_2 rfl
theorem i130_4 : insAt 130 4 = some (.invokestatic 56, 3, (58, 3, 0, 0), 155) := rfl
theorem s130_4 {c : Nat → List AV → SS → Option Out} {l0 : Option AV} {a0 : Int32} {a1 : Int32} {a2 : Int32} {L2 : List (Nat × AV)} {S : SS} : ev c 130 4 [l0] L2 [aI a2, aI a1, aI a0] S = ck (c 58 [aI a0, aI a1, aI a2] S) (fun v S' => ev c 130 7 [l0] L2 (v.toList ++ []) S') := ev_call i130_4 rfl
theorem i130_7 : insAt 130 7 = some (.return_, 1, (0, 0, 0, 0), 0) := rfl
theorem s130_7 {c : Nat → List AV → SS → Option Out} {l0 : Option AV} {L2 : List (Nat × AV)} {S : SS} : ev c 130 7 [l0] L2 [] S = some (.inl none, S) := ev_end i130_7 rfl
theorem m130 {d : Nat} {a0 : Int32} {S : SS} : evm (d + 1) 130 [aI a0] S = ev (evm d) 130 0 [some (aI a0)] [] [] S := evm_s (n := 1) rfl (Nat.le_of_ble_eq_true rfl) rfl rfl
/-! FrequencyOffice.disturbanceAt(III)I -/
theorem i132_0 : insAt 132 0 = some (.iload_n 1, 1, (0, 0, 0, 0), 0) := rfl
theorem s132_0 {c : Nat → List AV → SS → Option Out} {l0 l2 l3 : Option AV} {x : Int32} {L2 : List (Nat × AV)} {St : List AV} {S : SS} : ev c 132 0 [l0, some (aI x), l2, l3] L2 St S = ev c 132 1 [l0, some (aI x), l2, l3] L2 (aI x :: St) S := ev_go i132_0 rfl
theorem i132_1 : insAt 132 1 = some (.iload_n 2, 1, (0, 0, 0, 0), 0) := rfl
theorem s132_1 {c : Nat → List AV → SS → Option Out} {l0 l1 l3 : Option AV} {x : Int32} {L2 : List (Nat × AV)} {St : List AV} {S : SS} : ev c 132 1 [l0, l1, some (aI x), l3] L2 St S = ev c 132 2 [l0, l1, some (aI x), l3] L2 (aI x :: St) S := ev_go i132_1 rfl
theorem i132_2 : insAt 132 2 = some (.invokestatic 84, 3, (63, 2, 0, 0), 163) := rfl
theorem s132_2 {c : Nat → List AV → SS → Option Out} {l0 l1 l2 l3 : Option AV} {a0 : Int32} {a1 : Int32} {L2 : List (Nat × AV)} {S : SS} : ev c 132 2 [l0, l1, l2, l3] L2 [aI a1, aI a0] S = ck (c 63 [aI a0, aI a1] S) (fun v S' => ev c 132 5 [l0, l1, l2, l3] L2 (v.toList ++ []) S') := ev_call i132_2 rfl
theorem i132_5 : insAt 132 5 = some (.iload_n 3, 1, (0, 0, 0, 0), 0) := rfl
theorem s132_5 {c : Nat → List AV → SS → Option Out} {l0 l1 l2 : Option AV} {x : Int32} {L2 : List (Nat × AV)} {St : List AV} {S : SS} : ev c 132 5 [l0, l1, l2, some (aI x)] L2 St S = ev c 132 6 [l0, l1, l2, some (aI x)] L2 (aI x :: St) S := ev_go i132_5 rfl
theorem i132_6 : insAt 132 6 = some (.invokestatic 207, 3, (130, 1, 0, 0), 254) := rfl
theorem s132_6 {c : Nat → List AV → SS → Option Out} {l0 l1 l2 l3 : Option AV} {a0 : Int32} {L2 : List (Nat × AV)} {S : SS} : ev c 132 6 [l0, l1, l2, l3] L2 [aI a0] S = ck (c 130 [aI a0] S) (fun v S' => ev c 132 9 [l0, l1, l2, l3] L2 (v.toList ++ []) S') := ev_call i132_6 rfl
theorem i132_9 : insAt 132 9 = some (.aload_n 0, 1, (0, 0, 0, 0), 0) := rfl
theorem s132_9 {c : Nat → List AV → SS → Option Out} {l1 l2 l3 : Option AV} {o : OId} {L2 : List (Nat × AV)} {St : List AV} {S : SS} : ev c 132 9 [some (aR o), l1, l2, l3] L2 St S = ev c 132 10 [some (aR o), l1, l2, l3] L2 (aR o :: St) S := ev_go i132_9 rfl
theorem i132_10 : insAt 132 10 = some (.getfield 10, 3, (11, 0, 0, 0), 3) := rfl
theorem s132_10 {c : Nat → List AV → SS → Option Out} {l0 l1 l2 l3 : Option AV} {j t : Nat} {L2 : List (Nat × AV)} {St : List AV} {S : SS} : ev c 132 10 [l0, l1, l2, l3] L2 (aR (11, j, t) :: St) S = ev c 132 13 [l0, l1, l2, l3] L2 (S.2.2.1 (11, j, t) 0 :: St) S := ev_go i132_10 rfl
theorem i132_13 : insAt 132 13 = some (.iload_n 1, 1, (0, 0, 0, 0), 0) := rfl
theorem s132_13 {c : Nat → List AV → SS → Option Out} {l0 l2 l3 : Option AV} {x : Int32} {L2 : List (Nat × AV)} {St : List AV} {S : SS} : ev c 132 13 [l0, some (aI x), l2, l3] L2 St S = ev c 132 14 [l0, some (aI x), l2, l3] L2 (aI x :: St) S := ev_go i132_13 rfl
theorem i132_14 : insAt 132 14 = some (.iload_n 2, 1, (0, 0, 0, 0), 0) := rfl
theorem s132_14 {c : Nat → List AV → SS → Option Out} {l0 l1 l3 : Option AV} {x : Int32} {L2 : List (Nat × AV)} {St : List AV} {S : SS} : ev c 132 14 [l0, l1, some (aI x), l3] L2 St S = ev c 132 15 [l0, l1, some (aI x), l3] L2 (aI x :: St) S := ev_go i132_14 rfl
theorem i132_15 : insAt 132 15 = some (.iload_n 3, 1, (0, 0, 0, 0), 0) := rfl
theorem s132_15 {c : Nat → List AV → SS → Option Out} {l0 l1 l2 : Option AV} {x : Int32} {L2 : List (Nat × AV)} {St : List AV} {S : SS} : ev c 132 15 [l0, l1, l2, some (aI x)] L2 St S = ev c 132 16 [l0, l1, l2, some (aI x)] L2 (aI x :: St) S := ev_go i132_15 rfl
theorem i132_16 : insAt 132 16 = some (.iconst (-1), 1, (0, 0, 0, 0), 0) := rfl
theorem s132_16 {c : Nat → List AV → SS → Option Out} {l0 l1 l2 l3 : Option AV} {L2 : List (Nat × AV)} {St : List AV} {S : SS} : ev c 132 16 [l0, l1, l2, l3] L2 St S = ev c 132 17 [l0, l1, l2, l3] L2 (aI (-1) :: St) S := ev_go i132_16 rfl
theorem i132_17 : insAt 132 17 = some (.invokevirtual 214, 3, (86, 4, 3, 4), 257) := rfl
theorem s132_17 {c : Nat → List AV → SS → Option Out} {l0 l1 l2 l3 : Option AV} {a0 : Int32} {a1 : Int32} {a2 : Int32} {a3 : Int32} {j t : Nat} {L2 : List (Nat × AV)} {S : SS} : ev c 132 17 [l0, l1, l2, l3] L2 [aI a3, aI a2, aI a1, aI a0, aR (4, j, t)] S = ck (c 86 [aR (4, j, t), aI a0, aI a1, aI a2, aI a3] S) (fun v S' => ev c 132 20 [l0, l1, l2, l3] L2 (v.toList ++ []) S') := ev_call i132_17 rfl
theorem i132_20 : insAt 132 20 = some (.ireturn, 1, (0, 0, 0, 0), 0) := rfl
theorem s132_20 {c : Nat → List AV → SS → Option Out} {l0 l1 l2 l3 : Option AV} {x : Int32} {L2 : List (Nat × AV)} {S : SS} : ev c 132 20 [l0, l1, l2, l3] L2 [aI x] S = some (.inl (some (aI x)), S) := ev_end i132_20 rfl
theorem m132 {d : Nat} {o : OId} {a0 : Int32} {a1 : Int32} {a2 : Int32} {S : SS} : evm (d + 1) 132 [aR o, aI a0, aI a1, aI a2] S = ev (evm d) 132 0 [some (aR o), some (aI a0), some (aI a1), some (aI a2)] [] [] S := evm_s (n := 4) rfl (Nat.le_of_ble_eq_true rfl) rfl rfl
/-! FrequencyOffice.meanDisturbance()F -/
theorem i134_0 : insAt 134 0 = some (.aload_n 0, 1, (0, 0, 0, 0), 0) := rfl
theorem s134_0 {c : Nat → List AV → SS → Option Out} {l1 : Option AV} {o : OId} {L2 : List (Nat × AV)} {St : List AV} {S : SS} : ev c 134 0 [some (aR o), l1] L2 St S = ev c 134 1 [some (aR o), l1] L2 (aR o :: St) S := ev_go i134_0 rfl
theorem i134_1 : insAt 134 1 = some (.getfield 10, 3, (11, 0, 0, 0), 3) := rfl
theorem s134_1 {c : Nat → List AV → SS → Option Out} {l0 l1 : Option AV} {j t : Nat} {L2 : List (Nat × AV)} {St : List AV} {S : SS} : ev c 134 1 [l0, l1] L2 (aR (11, j, t) :: St) S = ev c 134 4 [l0, l1] L2 (S.2.2.1 (11, j, t) 0 :: St) S := ev_go i134_1 rfl
theorem i134_4 : insAt 134 4 = some (.invokevirtual 164, 3, (16, 0, 3, 4), 80) := rfl
theorem s134_4 {c : Nat → List AV → SS → Option Out} {l0 l1 : Option AV} {j t : Nat} {L2 : List (Nat × AV)} {S : SS} : ev c 134 4 [l0, l1] L2 [aR (4, j, t)] S = ck (c 16 [aR (4, j, t)] S) (fun v S' => ev c 134 7 [l0, l1] L2 (v.toList ++ []) S') := ev_call i134_4 rfl
theorem i134_7 : insAt 134 7 = some (.istore_n 1, 1, (0, 0, 0, 0), 0) := rfl
theorem s134_7 {c : Nat → List AV → SS → Option Out} {l0 l1 : Option AV} {x : Int32} {L2 : List (Nat × AV)} {St : List AV} {S : SS} : ev c 134 7 [l0, l1] L2 (aI x :: St) S = ev c 134 8 [l0, some (aI x)] (kil L2 1) St S := ev_go i134_7 rfl
theorem i134_8 : insAt 134 8 = some (.iload_n 1, 1, (0, 0, 0, 0), 0) := rfl
theorem s134_8 {c : Nat → List AV → SS → Option Out} {l0 : Option AV} {x : Int32} {L2 : List (Nat × AV)} {St : List AV} {S : SS} : ev c 134 8 [l0, some (aI x)] L2 St S = ev c 134 9 [l0, some (aI x)] L2 (aI x :: St) S := ev_go i134_8 rfl
theorem i134_9 : insAt 134 9 = some (.ifCond .ne 13, 3, (0, 0, 0, 0), 0) := rfl
theorem s134_9 {c : Nat → List AV → SS → Option Out} {l0 l1 : Option AV} {x : Int32} {L2 : List (Nat × AV)} {St : List AV} {S : SS} : ev c 134 9 [l0, l1] L2 (aI x :: St) S = if x = 0 then ev c 134 12 [l0, l1] L2 St S else ev c 134 22 [l0, l1] L2 St S := (ev_br i134_9 rfl).trans (ite_not _ _ _)
theorem i134_12 : insAt 134 12 = some (.new 218, 3, (5, 0, 1, 0), 259) := rfl
theorem s134_12 {c : Nat → List AV → SS → Option Out} {l0 l1 : Option AV} {L2 : List (Nat × AV)} {S : SS} : ev c 134 12 [l0, l1] L2 [] S = some (.inr "java/lang/ArithmeticException", bump S 1 6) := ev_end i134_12 rfl
theorem i134_15 : insAt 134 15 = some (.dup, 1, (0, 0, 0, 0), 0) := rfl
theorem s134_15 {c : Nat → List AV → SS → Option Out} {l0 l1 : Option AV} {x : OId} {L2 : List (Nat × AV)} {St : List AV} {S : SS} : ev c 134 15 [l0, l1] L2 (aR x :: St) S = ev c 134 16 [l0, l1] L2 (aR x :: aR x :: St) S := ev_go i134_15 rfl
theorem i134_22 : insAt 134 22 = some (.aload_n 0, 1, (0, 0, 0, 0), 0) := rfl
theorem s134_22 {c : Nat → List AV → SS → Option Out} {l1 : Option AV} {o : OId} {L2 : List (Nat × AV)} {St : List AV} {S : SS} : ev c 134 22 [some (aR o), l1] L2 St S = ev c 134 23 [some (aR o), l1] L2 (aR o :: St) S := ev_go i134_22 rfl
theorem i134_23 : insAt 134 23 = some (.getfield 10, 3, (11, 0, 0, 0), 3) := rfl
theorem s134_23 {c : Nat → List AV → SS → Option Out} {l0 l1 : Option AV} {j t : Nat} {L2 : List (Nat × AV)} {St : List AV} {S : SS} : ev c 134 23 [l0, l1] L2 (aR (11, j, t) :: St) S = ev c 134 26 [l0, l1] L2 (S.2.2.1 (11, j, t) 0 :: St) S := ev_go i134_23 rfl
theorem i134_26 : insAt 134 26 = some (.invokevirtual 223, 3, (135, 0, 3, 4), 260) := rfl
theorem s134_26 {c : Nat → List AV → SS → Option Out} {l0 l1 : Option AV} {j t : Nat} {L2 : List (Nat × AV)} {S : SS} : ev c 134 26 [l0, l1] L2 [aR (4, j, t)] S = ck (c 135 [aR (4, j, t)] S) (fun v S' => ev c 134 29 [l0, l1] L2 (v.toList ++ []) S') := ev_call i134_26 rfl
theorem i134_29 : insAt 134 29 = some (.i2f, 1, (0, 0, 0, 0), 0) := rfl
theorem s134_29 {c : Nat → List AV → SS → Option Out} {l0 l1 : Option AV} {x : Int32} {L2 : List (Nat × AV)} {St : List AV} {S : SS} : ev c 134 29 [l0, l1] L2 (aI x :: St) S = ev c 134 30 [l0, l1] L2 (aF (FP.i2f x) :: St) S := ev_go i134_29 rfl
theorem i134_30 : insAt 134 30 = some (.iload_n 1, 1, (0, 0, 0, 0), 0) := rfl
theorem s134_30 {c : Nat → List AV → SS → Option Out} {l0 : Option AV} {x : Int32} {L2 : List (Nat × AV)} {St : List AV} {S : SS} : ev c 134 30 [l0, some (aI x)] L2 St S = ev c 134 31 [l0, some (aI x)] L2 (aI x :: St) S := ev_go i134_30 rfl
theorem i134_31 : insAt 134 31 = some (.i2f, 1, (0, 0, 0, 0), 0) := rfl
theorem s134_31 {c : Nat → List AV → SS → Option Out} {l0 l1 : Option AV} {x : Int32} {L2 : List (Nat × AV)} {St : List AV} {S : SS} : ev c 134 31 [l0, l1] L2 (aI x :: St) S = ev c 134 32 [l0, l1] L2 (aF (FP.i2f x) :: St) S := ev_go i134_31 rfl
theorem i134_32 : insAt 134 32 = some (.fdiv, 1, (0, 0, 0, 0), 0) := rfl
theorem s134_32 {c : Nat → List AV → SS → Option Out} {l0 l1 : Option AV} {x y : UInt32} {L2 : List (Nat × AV)} {St : List AV} {S : SS} : ev c 134 32 [l0, l1] L2 (aF y :: aF x :: St) S = if FP.fdiv x y &&& 0x7fffffff ≤ 0x7f800000 then ev c 134 33 [l0, l1] L2 (aF (FP.fdiv x y) :: St) S else none := ev_if i134_32 rfl
theorem i134_33 : insAt 134 33 = some (.freturn, 1, (0, 0, 0, 0), 0) := rfl
theorem s134_33 {c : Nat → List AV → SS → Option Out} {l0 l1 : Option AV} {x : UInt32} {L2 : List (Nat × AV)} {S : SS} : ev c 134 33 [l0, l1] L2 [aF x] S = some (.inl (some (aF x)), S) := ev_end i134_33 rfl
theorem m134 {d : Nat} {o : OId} {S : SS} : evm (d + 1) 134 [aR o] S = ev (evm d) 134 0 [some (aR o), none] [] [] S := evm_s (n := 2) rfl (Nat.le_of_ble_eq_true rfl) rfl rfl
/-! FrequencyOffice.openChannels(II)I -/
theorem i137_0 : insAt 137 0 = some (.iload_n 1, 1, (0, 0, 0, 0), 0) := rfl
theorem s137_0 {c : Nat → List AV → SS → Option Out} {l0 l2 : Option AV} {x : Int32} {L2 : List (Nat × AV)} {St : List AV} {S : SS} : ev c 137 0 [l0, some (aI x), l2] L2 St S = ev c 137 1 [l0, some (aI x), l2] L2 (aI x :: St) S := ev_go i137_0 rfl
theorem i137_1 : insAt 137 1 = some (.iload_n 2, 1, (0, 0, 0, 0), 0) := rfl
theorem s137_1 {c : Nat → List AV → SS → Option Out} {l0 l1 : Option AV} {x : Int32} {L2 : List (Nat × AV)} {St : List AV} {S : SS} : ev c 137 1 [l0, l1, some (aI x)] L2 St S = ev c 137 2 [l0, l1, some (aI x)] L2 (aI x :: St) S := ev_go i137_1 rfl
theorem i137_2 : insAt 137 2 = some (.invokestatic 84, 3, (63, 2, 0, 0), 163) := rfl
theorem s137_2 {c : Nat → List AV → SS → Option Out} {l0 l1 l2 : Option AV} {a0 : Int32} {a1 : Int32} {L2 : List (Nat × AV)} {S : SS} : ev c 137 2 [l0, l1, l2] L2 [aI a1, aI a0] S = ck (c 63 [aI a0, aI a1] S) (fun v S' => ev c 137 5 [l0, l1, l2] L2 (v.toList ++ []) S') := ev_call i137_2 rfl
theorem i137_5 : insAt 137 5 = some (.aload_n 0, 1, (0, 0, 0, 0), 0) := rfl
theorem s137_5 {c : Nat → List AV → SS → Option Out} {l1 l2 : Option AV} {o : OId} {L2 : List (Nat × AV)} {St : List AV} {S : SS} : ev c 137 5 [some (aR o), l1, l2] L2 St S = ev c 137 6 [some (aR o), l1, l2] L2 (aR o :: St) S := ev_go i137_5 rfl
theorem i137_6 : insAt 137 6 = some (.getfield 38, 3, (11, 4, 0, 0), 13) := rfl
theorem s137_6 {c : Nat → List AV → SS → Option Out} {l0 l1 l2 : Option AV} {j t : Nat} {L2 : List (Nat × AV)} {St : List AV} {S : SS} : ev c 137 6 [l0, l1, l2] L2 (aR (11, j, t) :: St) S = ev c 137 9 [l0, l1, l2] L2 (S.2.2.1 (11, j, t) 4 :: St) S := ev_go i137_6 rfl
theorem i137_9 : insAt 137 9 = some (.aload_n 0, 1, (0, 0, 0, 0), 0) := rfl
theorem s137_9 {c : Nat → List AV → SS → Option Out} {l1 l2 : Option AV} {o : OId} {L2 : List (Nat × AV)} {St : List AV} {S : SS} : ev c 137 9 [some (aR o), l1, l2] L2 St S = ev c 137 10 [some (aR o), l1, l2] L2 (aR o :: St) S := ev_go i137_9 rfl
theorem i137_10 : insAt 137 10 = some (.getfield 10, 3, (11, 0, 0, 0), 3) := rfl
theorem s137_10 {c : Nat → List AV → SS → Option Out} {l0 l1 l2 : Option AV} {j t : Nat} {L2 : List (Nat × AV)} {St : List AV} {S : SS} : ev c 137 10 [l0, l1, l2] L2 (aR (11, j, t) :: St) S = ev c 137 13 [l0, l1, l2] L2 (S.2.2.1 (11, j, t) 0 :: St) S := ev_go i137_10 rfl
theorem i137_13 : insAt 137 13 = some (.iload_n 1, 1, (0, 0, 0, 0), 0) := rfl
theorem s137_13 {c : Nat → List AV → SS → Option Out} {l0 l2 : Option AV} {x : Int32} {L2 : List (Nat × AV)} {St : List AV} {S : SS} : ev c 137 13 [l0, some (aI x), l2] L2 St S = ev c 137 14 [l0, some (aI x), l2] L2 (aI x :: St) S := ev_go i137_13 rfl
theorem i137_14 : insAt 137 14 = some (.iload_n 2, 1, (0, 0, 0, 0), 0) := rfl
theorem s137_14 {c : Nat → List AV → SS → Option Out} {l0 l1 : Option AV} {x : Int32} {L2 : List (Nat × AV)} {St : List AV} {S : SS} : ev c 137 14 [l0, l1, some (aI x)] L2 St S = ev c 137 15 [l0, l1, some (aI x)] L2 (aI x :: St) S := ev_go i137_14 rfl
theorem i137_15 : insAt 137 15 = some (.invokevirtual 91, 3, (65, 3, 3, 8), 165) := rfl
theorem s137_15 {c : Nat → List AV → SS → Option Out} {l0 l1 l2 : Option AV} {a0 : OId} {a1 : Int32} {a2 : Int32} {j t : Nat} {L2 : List (Nat × AV)} {S : SS} : ev c 137 15 [l0, l1, l2] L2 [aI a2, aI a1, aR a0, aR (8, j, t)] S = ck (c 65 [aR (8, j, t), aR a0, aI a1, aI a2] S) (fun v S' => ev c 137 18 [l0, l1, l2] L2 (v.toList ++ []) S') := ev_call i137_15 rfl
theorem i137_18 : insAt 137 18 = some (.aload_n 0, 1, (0, 0, 0, 0), 0) := rfl
theorem s137_18 {c : Nat → List AV → SS → Option Out} {l1 l2 : Option AV} {o : OId} {L2 : List (Nat × AV)} {St : List AV} {S : SS} : ev c 137 18 [some (aR o), l1, l2] L2 St S = ev c 137 19 [some (aR o), l1, l2] L2 (aR o :: St) S := ev_go i137_18 rfl
theorem i137_19 : insAt 137 19 = some (.getfield 38, 3, (11, 4, 0, 0), 13) := rfl
theorem s137_19 {c : Nat → List AV → SS → Option Out} {l0 l1 l2 : Option AV} {j t : Nat} {L2 : List (Nat × AV)} {St : List AV} {S : SS} : ev c 137 19 [l0, l1, l2] L2 (aR (11, j, t) :: St) S = ev c 137 22 [l0, l1, l2] L2 (S.2.2.1 (11, j, t) 4 :: St) S := ev_go i137_19 rfl
theorem i137_22 : insAt 137 22 = some (.invokevirtual 230, 3, (71, 0, 3, 8), 262) := rfl
theorem s137_22 {c : Nat → List AV → SS → Option Out} {l0 l1 l2 : Option AV} {j t : Nat} {L2 : List (Nat × AV)} {S : SS} : ev c 137 22 [l0, l1, l2] L2 [aR (8, j, t)] S = ck (c 71 [aR (8, j, t)] S) (fun v S' => ev c 137 25 [l0, l1, l2] L2 (v.toList ++ []) S') := ev_call i137_22 rfl
theorem i137_25 : insAt 137 25 = some (.ireturn, 1, (0, 0, 0, 0), 0) := rfl
theorem s137_25 {c : Nat → List AV → SS → Option Out} {l0 l1 l2 : Option AV} {x : Int32} {L2 : List (Nat × AV)} {S : SS} : ev c 137 25 [l0, l1, l2] L2 [aI x] S = some (.inl (some (aI x)), S) := ev_end i137_25 rfl
theorem m137 {d : Nat} {o : OId} {a0 : Int32} {a1 : Int32} {S : SS} : evm (d + 1) 137 [aR o, aI a0, aI a1] S = ev (evm d) 137 0 [some (aR o), some (aI a0), some (aI a1)] [] [] S := evm_s (n := 3) rfl (Nat.le_of_ble_eq_true rfl) rfl rfl
/-! FrequencyOffice.movesFor(II)I -/
theorem i139_0 : insAt 139 0 = some (.iload_n 1, 1, (0, 0, 0, 0), 0) := rfl
theorem s139_0 {c : Nat → List AV → SS → Option Out} {l0 l2 : Option AV} {x : Int32} {L2 : List (Nat × AV)} {St : List AV} {S : SS} : ev c 139 0 [l0, some (aI x), l2] L2 St S = ev c 139 1 [l0, some (aI x), l2] L2 (aI x :: St) S := ev_go i139_0 rfl
theorem i139_1 : insAt 139 1 = some (.iload_n 2, 1, (0, 0, 0, 0), 0) := rfl
theorem s139_1 {c : Nat → List AV → SS → Option Out} {l0 l1 : Option AV} {x : Int32} {L2 : List (Nat × AV)} {St : List AV} {S : SS} : ev c 139 1 [l0, l1, some (aI x)] L2 St S = ev c 139 2 [l0, l1, some (aI x)] L2 (aI x :: St) S := ev_go i139_1 rfl
theorem i139_2 : insAt 139 2 = some (.invokestatic 84, 3, (63, 2, 0, 0), 163) := rfl
theorem s139_2 {c : Nat → List AV → SS → Option Out} {l0 l1 l2 : Option AV} {a0 : Int32} {a1 : Int32} {L2 : List (Nat × AV)} {S : SS} : ev c 139 2 [l0, l1, l2] L2 [aI a1, aI a0] S = ck (c 63 [aI a0, aI a1] S) (fun v S' => ev c 139 5 [l0, l1, l2] L2 (v.toList ++ []) S') := ev_call i139_2 rfl
theorem i139_5 : insAt 139 5 = some (.aload_n 0, 1, (0, 0, 0, 0), 0) := rfl
theorem s139_5 {c : Nat → List AV → SS → Option Out} {l1 l2 : Option AV} {o : OId} {L2 : List (Nat × AV)} {St : List AV} {S : SS} : ev c 139 5 [some (aR o), l1, l2] L2 St S = ev c 139 6 [some (aR o), l1, l2] L2 (aR o :: St) S := ev_go i139_5 rfl
theorem i139_6 : insAt 139 6 = some (.getfield 38, 3, (11, 4, 0, 0), 13) := rfl
theorem s139_6 {c : Nat → List AV → SS → Option Out} {l0 l1 l2 : Option AV} {j t : Nat} {L2 : List (Nat × AV)} {St : List AV} {S : SS} : ev c 139 6 [l0, l1, l2] L2 (aR (11, j, t) :: St) S = ev c 139 9 [l0, l1, l2] L2 (S.2.2.1 (11, j, t) 4 :: St) S := ev_go i139_6 rfl
theorem i139_9 : insAt 139 9 = some (.aload_n 0, 1, (0, 0, 0, 0), 0) := rfl
theorem s139_9 {c : Nat → List AV → SS → Option Out} {l1 l2 : Option AV} {o : OId} {L2 : List (Nat × AV)} {St : List AV} {S : SS} : ev c 139 9 [some (aR o), l1, l2] L2 St S = ev c 139 10 [some (aR o), l1, l2] L2 (aR o :: St) S := ev_go i139_9 rfl
theorem i139_10 : insAt 139 10 = some (.getfield 10, 3, (11, 0, 0, 0), 3) := rfl
theorem s139_10 {c : Nat → List AV → SS → Option Out} {l0 l1 l2 : Option AV} {j t : Nat} {L2 : List (Nat × AV)} {St : List AV} {S : SS} : ev c 139 10 [l0, l1, l2] L2 (aR (11, j, t) :: St) S = ev c 139 13 [l0, l1, l2] L2 (S.2.2.1 (11, j, t) 0 :: St) S := ev_go i139_10 rfl
theorem i139_13 : insAt 139 13 = some (.iload_n 1, 1, (0, 0, 0, 0), 0) := rfl
theorem s139_13 {c : Nat → List AV → SS → Option Out} {l0 l2 : Option AV} {x : Int32} {L2 : List (Nat × AV)} {St : List AV} {S : SS} : ev c 139 13 [l0, some (aI x), l2] L2 St S = ev c 139 14 [l0, some (aI x), l2] L2 (aI x :: St) S := ev_go i139_13 rfl
theorem i139_14 : insAt 139 14 = some (.iload_n 2, 1, (0, 0, 0, 0), 0) := rfl
theorem s139_14 {c : Nat → List AV → SS → Option Out} {l0 l1 : Option AV} {x : Int32} {L2 : List (Nat × AV)} {St : List AV} {S : SS} : ev c 139 14 [l0, l1, some (aI x)] L2 St S = ev c 139 15 [l0, l1, some (aI x)] L2 (aI x :: St) S := ev_go i139_14 rfl
theorem i139_15 : insAt 139 15 = some (.invokevirtual 91, 3, (65, 3, 3, 8), 165) := rfl
theorem s139_15 {c : Nat → List AV → SS → Option Out} {l0 l1 l2 : Option AV} {a0 : OId} {a1 : Int32} {a2 : Int32} {j t : Nat} {L2 : List (Nat × AV)} {S : SS} : ev c 139 15 [l0, l1, l2] L2 [aI a2, aI a1, aR a0, aR (8, j, t)] S = ck (c 65 [aR (8, j, t), aR a0, aI a1, aI a2] S) (fun v S' => ev c 139 18 [l0, l1, l2] L2 (v.toList ++ []) S') := ev_call i139_15 rfl
theorem i139_18 : insAt 139 18 = some (.aload_n 0, 1, (0, 0, 0, 0), 0) := rfl
theorem s139_18 {c : Nat → List AV → SS → Option Out} {l1 l2 : Option AV} {o : OId} {L2 : List (Nat × AV)} {St : List AV} {S : SS} : ev c 139 18 [some (aR o), l1, l2] L2 St S = ev c 139 19 [some (aR o), l1, l2] L2 (aR o :: St) S := ev_go i139_18 rfl
theorem i139_19 : insAt 139 19 = some (.invokevirtual 95, 3, (67, 0, 2, 11), 166) := rfl
theorem s139_19 {c : Nat → List AV → SS → Option Out} {l0 l1 l2 : Option AV} {j t : Nat} {L2 : List (Nat × AV)} {S : SS} : ev c 139 19 [l0, l1, l2] L2 [aR (11, j, t)] S = ck (c 67 [aR (11, j, t)] S) (fun v S' => ev c 139 22 [l0, l1, l2] L2 (v.toList ++ []) S') := ev_call i139_19 rfl
theorem i139_22 : insAt 139 22 = some (.aload_n 0, 1, (0, 0, 0, 0), 0) := rfl
theorem s139_22 {c : Nat → List AV → SS → Option Out} {l1 l2 : Option AV} {o : OId} {L2 : List (Nat × AV)} {St : List AV} {S : SS} : ev c 139 22 [some (aR o), l1, l2] L2 St S = ev c 139 23 [some (aR o), l1, l2] L2 (aR o :: St) S := ev_go i139_22 rfl
theorem i139_23 : insAt 139 23 = some (.getfield 38, 3, (11, 4, 0, 0), 13) := rfl
theorem s139_23 {c : Nat → List AV → SS → Option Out} {l0 l1 l2 : Option AV} {j t : Nat} {L2 : List (Nat × AV)} {St : List AV} {S : SS} : ev c 139 23 [l0, l1, l2] L2 (aR (11, j, t) :: St) S = ev c 139 26 [l0, l1, l2] L2 (S.2.2.1 (11, j, t) 4 :: St) S := ev_go i139_23 rfl
theorem i139_26 : insAt 139 26 = some (.getfield 105, 3, (8, 1, 1, 0), 168) := rfl
theorem s139_26 {c : Nat → List AV → SS → Option Out} {l0 l1 l2 : Option AV} {j t : Nat} {L2 : List (Nat × AV)} {St : List AV} {S : SS} : ev c 139 26 [l0, l1, l2] L2 (aR (8, j, t) :: St) S = ev c 139 29 [l0, l1, l2] L2 (S.2.2.1 (8, j, t) 1 :: St) S := ev_go i139_26 rfl
theorem i139_29 : insAt 139 29 = some (.getfield 233, 3, (7, 0, 1, 0), 264) := rfl
theorem s139_29 {c : Nat → List AV → SS → Option Out} {l0 l1 l2 : Option AV} {j t : Nat} {L2 : List (Nat × AV)} {St : List AV} {S : SS} : ev c 139 29 [l0, l1, l2] L2 (aR (7, j, t) :: St) S = ev c 139 32 [l0, l1, l2] L2 (aI (S.1 (7, j, t) 0) :: St) S := ev_go i139_29 rfl
theorem i139_32 : insAt 139 32 = some (.ireturn, 1, (0, 0, 0, 0), 0) := rfl
theorem s139_32 {c : Nat → List AV → SS → Option Out} {l0 l1 l2 : Option AV} {x : Int32} {L2 : List (Nat × AV)} {S : SS} : ev c 139 32 [l0, l1, l2] L2 [aI x] S = some (.inl (some (aI x)), S) := ev_end i139_32 rfl
theorem m139 {d : Nat} {o : OId} {a0 : Int32} {a1 : Int32} {S : SS} : evm (d + 1) 139 [aR o, aI a0, aI a1] S = ev (evm d) 139 0 [some (aR o), some (aI a0), some (aI a1)] [] [] S := evm_s (n := 3) rfl (Nat.le_of_ble_eq_true rfl) rfl rfl
/-! FrequencyOffice.movesForByQueue(II)I -/
theorem i141_0 : insAt 141 0 = some (.iload_n 1, 1, (0, 0, 0, 0), 0) := rfl
theorem s141_0 {c : Nat → List AV → SS → Option Out} {l0 l2 : Option AV} {x : Int32} {L2 : List (Nat × AV)} {St : List AV} {S : SS} : ev c 141 0 [l0, some (aI x), l2] L2 St S = ev c 141 1 [l0, some (aI x), l2] L2 (aI x :: St) S := ev_go i141_0 rfl
theorem i141_1 : insAt 141 1 = some (.iload_n 2, 1, (0, 0, 0, 0), 0) := rfl
theorem s141_1 {c : Nat → List AV → SS → Option Out} {l0 l1 : Option AV} {x : Int32} {L2 : List (Nat × AV)} {St : List AV} {S : SS} : ev c 141 1 [l0, l1, some (aI x)] L2 St S = ev c 141 2 [l0, l1, some (aI x)] L2 (aI x :: St) S := ev_go i141_1 rfl
theorem i141_2 : insAt 141 2 = some (.invokestatic 84, 3, (63, 2, 0, 0), 163) := rfl
theorem s141_2 {c : Nat → List AV → SS → Option Out} {l0 l1 l2 : Option AV} {a0 : Int32} {a1 : Int32} {L2 : List (Nat × AV)} {S : SS} : ev c 141 2 [l0, l1, l2] L2 [aI a1, aI a0] S = ck (c 63 [aI a0, aI a1] S) (fun v S' => ev c 141 5 [l0, l1, l2] L2 (v.toList ++ []) S') := ev_call i141_2 rfl
theorem i141_5 : insAt 141 5 = some (.aload_n 0, 1, (0, 0, 0, 0), 0) := rfl
theorem s141_5 {c : Nat → List AV → SS → Option Out} {l1 l2 : Option AV} {o : OId} {L2 : List (Nat × AV)} {St : List AV} {S : SS} : ev c 141 5 [some (aR o), l1, l2] L2 St S = ev c 141 6 [some (aR o), l1, l2] L2 (aR o :: St) S := ev_go i141_5 rfl
theorem i141_6 : insAt 141 6 = some (.getfield 38, 3, (11, 4, 0, 0), 13) := rfl
theorem s141_6 {c : Nat → List AV → SS → Option Out} {l0 l1 l2 : Option AV} {j t : Nat} {L2 : List (Nat × AV)} {St : List AV} {S : SS} : ev c 141 6 [l0, l1, l2] L2 (aR (11, j, t) :: St) S = ev c 141 9 [l0, l1, l2] L2 (S.2.2.1 (11, j, t) 4 :: St) S := ev_go i141_6 rfl
theorem i141_9 : insAt 141 9 = some (.aload_n 0, 1, (0, 0, 0, 0), 0) := rfl
theorem s141_9 {c : Nat → List AV → SS → Option Out} {l1 l2 : Option AV} {o : OId} {L2 : List (Nat × AV)} {St : List AV} {S : SS} : ev c 141 9 [some (aR o), l1, l2] L2 St S = ev c 141 10 [some (aR o), l1, l2] L2 (aR o :: St) S := ev_go i141_9 rfl
theorem i141_10 : insAt 141 10 = some (.getfield 10, 3, (11, 0, 0, 0), 3) := rfl
theorem s141_10 {c : Nat → List AV → SS → Option Out} {l0 l1 l2 : Option AV} {j t : Nat} {L2 : List (Nat × AV)} {St : List AV} {S : SS} : ev c 141 10 [l0, l1, l2] L2 (aR (11, j, t) :: St) S = ev c 141 13 [l0, l1, l2] L2 (S.2.2.1 (11, j, t) 0 :: St) S := ev_go i141_10 rfl
theorem i141_13 : insAt 141 13 = some (.iload_n 1, 1, (0, 0, 0, 0), 0) := rfl
theorem s141_13 {c : Nat → List AV → SS → Option Out} {l0 l2 : Option AV} {x : Int32} {L2 : List (Nat × AV)} {St : List AV} {S : SS} : ev c 141 13 [l0, some (aI x), l2] L2 St S = ev c 141 14 [l0, some (aI x), l2] L2 (aI x :: St) S := ev_go i141_13 rfl
theorem i141_14 : insAt 141 14 = some (.iload_n 2, 1, (0, 0, 0, 0), 0) := rfl
theorem s141_14 {c : Nat → List AV → SS → Option Out} {l0 l1 : Option AV} {x : Int32} {L2 : List (Nat × AV)} {St : List AV} {S : SS} : ev c 141 14 [l0, l1, some (aI x)] L2 St S = ev c 141 15 [l0, l1, some (aI x)] L2 (aI x :: St) S := ev_go i141_14 rfl
theorem i141_15 : insAt 141 15 = some (.invokevirtual 91, 3, (65, 3, 3, 8), 165) := rfl
theorem s141_15 {c : Nat → List AV → SS → Option Out} {l0 l1 l2 : Option AV} {a0 : OId} {a1 : Int32} {a2 : Int32} {j t : Nat} {L2 : List (Nat × AV)} {S : SS} : ev c 141 15 [l0, l1, l2] L2 [aI a2, aI a1, aR a0, aR (8, j, t)] S = ck (c 65 [aR (8, j, t), aR a0, aI a1, aI a2] S) (fun v S' => ev c 141 18 [l0, l1, l2] L2 (v.toList ++ []) S') := ev_call i141_15 rfl
theorem i141_18 : insAt 141 18 = some (.aload_n 0, 1, (0, 0, 0, 0), 0) := rfl
theorem s141_18 {c : Nat → List AV → SS → Option Out} {l1 l2 : Option AV} {o : OId} {L2 : List (Nat × AV)} {St : List AV} {S : SS} : ev c 141 18 [some (aR o), l1, l2] L2 St S = ev c 141 19 [some (aR o), l1, l2] L2 (aR o :: St) S := ev_go i141_18 rfl
theorem i141_19 : insAt 141 19 = some (.invokevirtual 238, 3, (142, 0, 2, 11), 266) := rfl
theorem s141_19 {c : Nat → List AV → SS → Option Out} {l0 l1 l2 : Option AV} {j t : Nat} {L2 : List (Nat × AV)} {S : SS} : ev c 141 19 [l0, l1, l2] L2 [aR (11, j, t)] S = ck (c 142 [aR (11, j, t)] S) (fun v S' => ev c 141 22 [l0, l1, l2] L2 (v.toList ++ []) S') := ev_call i141_19 rfl
theorem i141_22 : insAt 141 22 = some (.ireturn, 1, (0, 0, 0, 0), 0) := rfl
theorem s141_22 {c : Nat → List AV → SS → Option Out} {l0 l1 l2 : Option AV} {x : Int32} {L2 : List (Nat × AV)} {S : SS} : ev c 141 22 [l0, l1, l2] L2 [aI x] S = some (.inl (some (aI x)), S) := ev_end i141_22 rfl
theorem m141 {d : Nat} {o : OId} {a0 : Int32} {a1 : Int32} {S : SS} : evm (d + 1) 141 [aR o, aI a0, aI a1] S = ev (evm d) 141 0 [some (aR o), some (aI a0), some (aI a1)] [] [] S := evm_s (n := 3) rfl (Nat.le_of_ble_eq_true rfl) rfl rfl
/-! FrequencyOffice.movesByQueue()I -/
theorem i142_0 : insAt 142 0 = some (.aload_n 0, 1, (0, 0, 0, 0), 0) := rfl
theorem s142_0 {c : Nat → List AV → SS → Option Out} {l1 : Option AV} {o : OId} {L2 : List (Nat × AV)} {St : List AV} {S : SS} : ev c 142 0 [some (aR o), l1] L2 St S = ev c 142 1 [some (aR o), l1] L2 (aR o :: St) S := ev_go i142_0 rfl
theorem i142_1 : insAt 142 1 = some (.getfield 38, 3, (11, 4, 0, 0), 13) := rfl
theorem s142_1 {c : Nat → List AV → SS → Option Out} {l0 l1 : Option AV} {j t : Nat} {L2 : List (Nat × AV)} {St : List AV} {S : SS} : ev c 142 1 [l0, l1] L2 (aR (11, j, t) :: St) S = ev c 142 4 [l0, l1] L2 (S.2.2.1 (11, j, t) 4 :: St) S := ev_go i142_1 rfl
theorem i142_4 : insAt 142 4 = some (.invokevirtual 378, 3, (143, 0, 3, 8), 267) := rfl
theorem s142_4 {c : Nat → List AV → SS → Option Out} {l0 l1 : Option AV} {j t : Nat} {L2 : List (Nat × AV)} {S : SS} : ev c 142 4 [l0, l1] L2 [aR (8, j, t)] S = ck (c 143 [aR (8, j, t)] S) (fun v S' => ev c 142 7 [l0, l1] L2 (v.toList ++ []) S') := ev_call i142_4 rfl
theorem i142_7 : insAt 142 7 = some (.istore_n 1, 1, (0, 0, 0, 0), 0) := rfl
theorem s142_7 {c : Nat → List AV → SS → Option Out} {l0 l1 : Option AV} {x : Int32} {L2 : List (Nat × AV)} {St : List AV} {S : SS} : ev c 142 7 [l0, l1] L2 (aI x :: St) S = ev c 142 8 [l0, some (aI x)] (kil L2 1) St S := ev_go i142_7 rfl
theorem i142_8 : insAt 142 8 = some (.iload_n 1, 1, (0, 0, 0, 0), 0) := rfl
theorem s142_8 {c : Nat → List AV → SS → Option Out} {l0 : Option AV} {x : Int32} {L2 : List (Nat × AV)} {St : List AV} {S : SS} : ev c 142 8 [l0, some (aI x)] L2 St S = ev c 142 9 [l0, some (aI x)] L2 (aI x :: St) S := ev_go i142_8 rfl
theorem i142_9 : insAt 142 9 = some (.iconst (-1), 1, (0, 0, 0, 0), 0) := rfl
theorem s142_9 {c : Nat → List AV → SS → Option Out} {l0 l1 : Option AV} {L2 : List (Nat × AV)} {St : List AV} {S : SS} : ev c 142 9 [l0, l1] L2 St S = ev c 142 10 [l0, l1] L2 (aI (-1) :: St) S := ev_go i142_9 rfl
theorem i142_10 : insAt 142 10 = some (.if_icmp .ne 14, 3, (0, 0, 0, 0), 0) := rfl
theorem s142_10 {c : Nat → List AV → SS → Option Out} {l0 l1 : Option AV} {x y : Int32} {L2 : List (Nat × AV)} {St : List AV} {S : SS} : ev c 142 10 [l0, l1] L2 (aI y :: aI x :: St) S = if x = y then ev c 142 13 [l0, l1] L2 St S else ev c 142 24 [l0, l1] L2 St S := (ev_br i142_10 rfl).trans (ite_not _ _ _)
theorem i142_13 : insAt 142 13 = some (.new 120, 3, (2, 0, 1, 0), 182) := rfl
theorem s142_13 {c : Nat → List AV → SS → Option Out} {l0 l1 : Option AV} {L2 : List (Nat × AV)} {S : SS} : ev c 142 13 [l0, l1] L2 [] S = some (.inr "java/lang/UnsupportedOperationException", bump S 1 6) := ev_end i142_13 rfl
theorem i142_16 : insAt 142 16 = some (.dup, 1, (0, 0, 0, 0), 0) := rfl
theorem s142_16 {c : Nat → List AV → SS → Option Out} {l0 l1 : Option AV} {x : OId} {L2 : List (Nat × AV)} {St : List AV} {S : SS} : ev c 142 16 [l0, l1] L2 (aR x :: St) S = ev c 142 17 [l0, l1] L2 (aR x :: aR x :: St) S := ev_go i142_16 rfl
theorem i142_24 : insAt 142 24 = some (.iload_n 1, 1, (0, 0, 0, 0), 0) := rfl
theorem s142_24 {c : Nat → List AV → SS → Option Out} {l0 : Option AV} {x : Int32} {L2 : List (Nat × AV)} {St : List AV} {S : SS} : ev c 142 24 [l0, some (aI x)] L2 St S = ev c 142 25 [l0, some (aI x)] L2 (aI x :: St) S := ev_go i142_24 rfl
theorem i142_25 : insAt 142 25 = some (.ireturn, 1, (0, 0, 0, 0), 0) := rfl
theorem s142_25 {c : Nat → List AV → SS → Option Out} {l0 l1 : Option AV} {x : Int32} {L2 : List (Nat × AV)} {S : SS} : ev c 142 25 [l0, l1] L2 [aI x] S = some (.inl (some (aI x)), S) := ev_end i142_25 rfl
theorem m142 {d : Nat} {o : OId} {S : SS} : evm (d + 1) 142 [aR o] S = ev (evm d) 142 0 [some (aR o), none] [] [] S := evm_s (n := 2) rfl (Nat.le_of_ble_eq_true rfl) rfl rfl
/-! FrequencyOffice.movesToChange(II)I -/
theorem i148_0 : insAt 148 0 = some (.aload_n 0, 1, (0, 0, 0, 0), 0) := rfl
theorem s148_0 {c : Nat → List AV → SS → Option Out} {l1 l2 l3 : Option AV} {o : OId} {L2 : List (Nat × AV)} {St : List AV} {S : SS} : ev c 148 0 [some (aR o), l1, l2, l3] L2 St S = ev c 148 1 [some (aR o), l1, l2, l3] L2 (aR o :: St) S := ev_go i148_0 rfl
theorem i148_1 : insAt 148 1 = some (.iload_n 1, 1, (0, 0, 0, 0), 0) := rfl
theorem s148_1 {c : Nat → List AV → SS → Option Out} {l0 l2 l3 : Option AV} {x : Int32} {L2 : List (Nat × AV)} {St : List AV} {S : SS} : ev c 148 1 [l0, some (aI x), l2, l3] L2 St S = ev c 148 2 [l0, some (aI x), l2, l3] L2 (aI x :: St) S := ev_go i148_1 rfl
theorem i148_2 : insAt 148 2 = some (.invokevirtual 134, 3, (90, 1, 2, 11), 220) := rfl
theorem s148_2 {c : Nat → List AV → SS → Option Out} {l0 l1 l2 l3 : Option AV} {a0 : Int32} {j t : Nat} {L2 : List (Nat × AV)} {S : SS} : ev c 148 2 [l0, l1, l2, l3] L2 [aI a0, aR (11, j, t)] S = ck (c 90 [aR (11, j, t), aI a0] S) (fun v S' => ev c 148 5 [l0, l1, l2, l3] L2 (v.toList ++ []) S') := ev_call i148_2 rfl
theorem i148_5 : insAt 148 5 = some (.istore_n 3, 1, (0, 0, 0, 0), 0) := rfl
theorem s148_5 {c : Nat → List AV → SS → Option Out} {l0 l1 l2 l3 : Option AV} {x : Int32} {L2 : List (Nat × AV)} {St : List AV} {S : SS} : ev c 148 5 [l0, l1, l2, l3] L2 (aI x :: St) S = ev c 148 6 [l0, l1, l2, some (aI x)] (kil L2 3) St S := ev_go i148_5 rfl
theorem i148_6 : insAt 148 6 = some (.aload_n 0, 1, (0, 0, 0, 0), 0) := rfl
theorem s148_6 {c : Nat → List AV → SS → Option Out} {l1 l2 l3 : Option AV} {o : OId} {L2 : List (Nat × AV)} {St : List AV} {S : SS} : ev c 148 6 [some (aR o), l1, l2, l3] L2 St S = ev c 148 7 [some (aR o), l1, l2, l3] L2 (aR o :: St) S := ev_go i148_6 rfl
theorem i148_7 : insAt 148 7 = some (.iload_n 3, 1, (0, 0, 0, 0), 0) := rfl
theorem s148_7 {c : Nat → List AV → SS → Option Out} {l0 l1 l2 : Option AV} {x : Int32} {L2 : List (Nat × AV)} {St : List AV} {S : SS} : ev c 148 7 [l0, l1, l2, some (aI x)] L2 St S = ev c 148 8 [l0, l1, l2, some (aI x)] L2 (aI x :: St) S := ev_go i148_7 rfl
theorem i148_8 : insAt 148 8 = some (.iload_n 2, 1, (0, 0, 0, 0), 0) := rfl
theorem s148_8 {c : Nat → List AV → SS → Option Out} {l0 l1 l3 : Option AV} {x : Int32} {L2 : List (Nat × AV)} {St : List AV} {S : SS} : ev c 148 8 [l0, l1, some (aI x), l3] L2 St S = ev c 148 9 [l0, l1, some (aI x), l3] L2 (aI x :: St) S := ev_go i148_8 rfl
theorem i148_9 : insAt 148 9 = some (.invokevirtual 241, 3, (149, 2, 2, 11), 272) := rfl
theorem s148_9 {c : Nat → List AV → SS → Option Out} {l0 l1 l2 l3 : Option AV} {a0 : Int32} {a1 : Int32} {j t : Nat} {L2 : List (Nat × AV)} {S : SS} : ev c 148 9 [l0, l1, l2, l3] L2 [aI a1, aI a0, aR (11, j, t)] S = ck (c 149 [aR (11, j, t), aI a0, aI a1] S) (fun v S' => ev c 148 12 [l0, l1, l2, l3] L2 (v.toList ++ []) S') := ev_call i148_9 rfl
theorem i148_12 : insAt 148 12 = some (.aload_n 0, 1, (0, 0, 0, 0), 0) := rfl
theorem s148_12 {c : Nat → List AV → SS → Option Out} {l1 l2 l3 : Option AV} {o : OId} {L2 : List (Nat × AV)} {St : List AV} {S : SS} : ev c 148 12 [some (aR o), l1, l2, l3] L2 St S = ev c 148 13 [some (aR o), l1, l2, l3] L2 (aR o :: St) S := ev_go i148_12 rfl
theorem i148_13 : insAt 148 13 = some (.getfield 38, 3, (11, 4, 0, 0), 13) := rfl
theorem s148_13 {c : Nat → List AV → SS → Option Out} {l0 l1 l2 l3 : Option AV} {j t : Nat} {L2 : List (Nat × AV)} {St : List AV} {S : SS} : ev c 148 13 [l0, l1, l2, l3] L2 (aR (11, j, t) :: St) S = ev c 148 16 [l0, l1, l2, l3] L2 (S.2.2.1 (11, j, t) 4 :: St) S := ev_go i148_13 rfl
theorem i148_16 : insAt 148 16 = some (.aload_n 0, 1, (0, 0, 0, 0), 0) := rfl
theorem s148_16 {c : Nat → List AV → SS → Option Out} {l1 l2 l3 : Option AV} {o : OId} {L2 : List (Nat × AV)} {St : List AV} {S : SS} : ev c 148 16 [some (aR o), l1, l2, l3] L2 St S = ev c 148 17 [some (aR o), l1, l2, l3] L2 (aR o :: St) S := ev_go i148_16 rfl
theorem i148_17 : insAt 148 17 = some (.getfield 10, 3, (11, 0, 0, 0), 3) := rfl
theorem s148_17 {c : Nat → List AV → SS → Option Out} {l0 l1 l2 l3 : Option AV} {j t : Nat} {L2 : List (Nat × AV)} {St : List AV} {S : SS} : ev c 148 17 [l0, l1, l2, l3] L2 (aR (11, j, t) :: St) S = ev c 148 20 [l0, l1, l2, l3] L2 (S.2.2.1 (11, j, t) 0 :: St) S := ev_go i148_17 rfl
theorem i148_20 : insAt 148 20 = some (.iload_n 3, 1, (0, 0, 0, 0), 0) := rfl
theorem s148_20 {c : Nat → List AV → SS → Option Out} {l0 l1 l2 : Option AV} {x : Int32} {L2 : List (Nat × AV)} {St : List AV} {S : SS} : ev c 148 20 [l0, l1, l2, some (aI x)] L2 St S = ev c 148 21 [l0, l1, l2, some (aI x)] L2 (aI x :: St) S := ev_go i148_20 rfl
theorem i148_21 : insAt 148 21 = some (.iload_n 2, 1, (0, 0, 0, 0), 0) := rfl
theorem s148_21 {c : Nat → List AV → SS → Option Out} {l0 l1 l3 : Option AV} {x : Int32} {L2 : List (Nat × AV)} {St : List AV} {S : SS} : ev c 148 21 [l0, l1, some (aI x), l3] L2 St S = ev c 148 22 [l0, l1, some (aI x), l3] L2 (aI x :: St) S := ev_go i148_21 rfl
theorem i148_22 : insAt 148 22 = some (.invokevirtual 244, 3, (150, 3, 3, 8), 273) := rfl
theorem s148_22 {c : Nat → List AV → SS → Option Out} {l0 l1 l2 l3 : Option AV} {a0 : OId} {a1 : Int32} {a2 : Int32} {j t : Nat} {L2 : List (Nat × AV)} {S : SS} : ev c 148 22 [l0, l1, l2, l3] L2 [aI a2, aI a1, aR a0, aR (8, j, t)] S = ck (c 150 [aR (8, j, t), aR a0, aI a1, aI a2] S) (fun v S' => ev c 148 25 [l0, l1, l2, l3] L2 (v.toList ++ []) S') := ev_call i148_22 rfl
theorem i148_25 : insAt 148 25 = some (.aload_n 0, 1, (0, 0, 0, 0), 0) := rfl
theorem s148_25 {c : Nat → List AV → SS → Option Out} {l1 l2 l3 : Option AV} {o : OId} {L2 : List (Nat × AV)} {St : List AV} {S : SS} : ev c 148 25 [some (aR o), l1, l2, l3] L2 St S = ev c 148 26 [some (aR o), l1, l2, l3] L2 (aR o :: St) S := ev_go i148_25 rfl
theorem i148_26 : insAt 148 26 = some (.invokevirtual 95, 3, (67, 0, 2, 11), 166) := rfl
theorem s148_26 {c : Nat → List AV → SS → Option Out} {l0 l1 l2 l3 : Option AV} {j t : Nat} {L2 : List (Nat × AV)} {S : SS} : ev c 148 26 [l0, l1, l2, l3] L2 [aR (11, j, t)] S = ck (c 67 [aR (11, j, t)] S) (fun v S' => ev c 148 29 [l0, l1, l2, l3] L2 (v.toList ++ []) S') := ev_call i148_26 rfl
theorem i148_29 : insAt 148 29 = some (.aload_n 0, 1, (0, 0, 0, 0), 0) := rfl
theorem s148_29 {c : Nat → List AV → SS → Option Out} {l1 l2 l3 : Option AV} {o : OId} {L2 : List (Nat × AV)} {St : List AV} {S : SS} : ev c 148 29 [some (aR o), l1, l2, l3] L2 St S = ev c 148 30 [some (aR o), l1, l2, l3] L2 (aR o :: St) S := ev_go i148_29 rfl
theorem i148_30 : insAt 148 30 = some (.getfield 38, 3, (11, 4, 0, 0), 13) := rfl
theorem s148_30 {c : Nat → List AV → SS → Option Out} {l0 l1 l2 l3 : Option AV} {j t : Nat} {L2 : List (Nat × AV)} {St : List AV} {S : SS} : ev c 148 30 [l0, l1, l2, l3] L2 (aR (11, j, t) :: St) S = ev c 148 33 [l0, l1, l2, l3] L2 (S.2.2.1 (11, j, t) 4 :: St) S := ev_go i148_30 rfl
theorem i148_33 : insAt 148 33 = some (.getfield 105, 3, (8, 1, 1, 0), 168) := rfl
theorem s148_33 {c : Nat → List AV → SS → Option Out} {l0 l1 l2 l3 : Option AV} {j t : Nat} {L2 : List (Nat × AV)} {St : List AV} {S : SS} : ev c 148 33 [l0, l1, l2, l3] L2 (aR (8, j, t) :: St) S = ev c 148 36 [l0, l1, l2, l3] L2 (S.2.2.1 (8, j, t) 1 :: St) S := ev_go i148_33 rfl
theorem i148_36 : insAt 148 36 = some (.getfield 233, 3, (7, 0, 1, 0), 264) := rfl
theorem s148_36 {c : Nat → List AV → SS → Option Out} {l0 l1 l2 l3 : Option AV} {j t : Nat} {L2 : List (Nat × AV)} {St : List AV} {S : SS} : ev c 148 36 [l0, l1, l2, l3] L2 (aR (7, j, t) :: St) S = ev c 148 39 [l0, l1, l2, l3] L2 (aI (S.1 (7, j, t) 0) :: St) S := ev_go i148_36 rfl
theorem i148_39 : insAt 148 39 = some (.ireturn, 1, (0, 0, 0, 0), 0) := rfl
theorem s148_39 {c : Nat → List AV → SS → Option Out} {l0 l1 l2 l3 : Option AV} {x : Int32} {L2 : List (Nat × AV)} {S : SS} : ev c 148 39 [l0, l1, l2, l3] L2 [aI x] S = some (.inl (some (aI x)), S) := ev_end i148_39 rfl
theorem m148 {d : Nat} {o : OId} {a0 : Int32} {a1 : Int32} {S : SS} : evm (d + 1) 148 [aR o, aI a0, aI a1] S = ev (evm d) 148 0 [some (aR o), some (aI a0), some (aI a1), none] [] [] S := evm_s (n := 4) rfl (Nat.le_of_ble_eq_true rfl) rfl rfl
/-! FrequencyOffice.checkChange(II)V -/
theorem i149_0 : insAt 149 0 = some (.iload_n 2, 1, (0, 0, 0, 0), 0) := rfl
theorem s149_0 {c : Nat → List AV → SS → Option Out} {l0 l1 l3 : Option AV} {x : Int32} {L2 : List (Nat × AV)} {St : List AV} {S : SS} : ev c 149 0 [l0, l1, some (aI x), l3] L2 St S = ev c 149 1 [l0, l1, some (aI x), l3] L2 (aI x :: St) S := ev_go i149_0 rfl
theorem i149_1 : insAt 149 1 = some (.invokestatic 207, 3, (130, 1, 0, 0), 254) := rfl
theorem s149_1 {c : Nat → List AV → SS → Option Out} {l0 l1 l2 l3 : Option AV} {a0 : Int32} {L2 : List (Nat × AV)} {S : SS} : ev c 149 1 [l0, l1, l2, l3] L2 [aI a0] S = ck (c 130 [aI a0] S) (fun v S' => ev c 149 4 [l0, l1, l2, l3] L2 (v.toList ++ []) S') := ev_call i149_1 rfl
theorem i149_4 : insAt 149 4 = some (.aload_n 0, 1, (0, 0, 0, 0), 0) := rfl
theorem s149_4 {c : Nat → List AV → SS → Option Out} {l1 l2 l3 : Option AV} {o : OId} {L2 : List (Nat × AV)} {St : List AV} {S : SS} : ev c 149 4 [some (aR o), l1, l2, l3] L2 St S = ev c 149 5 [some (aR o), l1, l2, l3] L2 (aR o :: St) S := ev_go i149_4 rfl
theorem i149_5 : insAt 149 5 = some (.getfield 10, 3, (11, 0, 0, 0), 3) := rfl
theorem s149_5 {c : Nat → List AV → SS → Option Out} {l0 l1 l2 l3 : Option AV} {j t : Nat} {L2 : List (Nat × AV)} {St : List AV} {S : SS} : ev c 149 5 [l0, l1, l2, l3] L2 (aR (11, j, t) :: St) S = ev c 149 8 [l0, l1, l2, l3] L2 (S.2.2.1 (11, j, t) 0 :: St) S := ev_go i149_5 rfl
theorem i149_8 : insAt 149 8 = some (.iload_n 1, 1, (0, 0, 0, 0), 0) := rfl
theorem s149_8 {c : Nat → List AV → SS → Option Out} {l0 l2 l3 : Option AV} {x : Int32} {L2 : List (Nat × AV)} {St : List AV} {S : SS} : ev c 149 8 [l0, some (aI x), l2, l3] L2 St S = ev c 149 9 [l0, some (aI x), l2, l3] L2 (aI x :: St) S := ev_go i149_8 rfl
theorem i149_9 : insAt 149 9 = some (.invokevirtual 125, 3, (17, 1, 3, 4), 87) := rfl
theorem s149_9 {c : Nat → List AV → SS → Option Out} {l0 l1 l2 l3 : Option AV} {a0 : Int32} {j t : Nat} {L2 : List (Nat × AV)} {S : SS} : ev c 149 9 [l0, l1, l2, l3] L2 [aI a0, aR (4, j, t)] S = ck (c 17 [aR (4, j, t), aI a0] S) (fun v S' => ev c 149 12 [l0, l1, l2, l3] L2 (v.toList ++ []) S') := ev_call i149_9 rfl
theorem i149_12 : insAt 149 12 = some (.astore_n 3, 1, (0, 0, 0, 0), 0) := rfl
theorem s149_12 {c : Nat → List AV → SS → Option Out} {l0 l1 l2 l3 : Option AV} {o : OId} {L2 : List (Nat × AV)} {St : List AV} {S : SS} : ev c 149 12 [l0, l1, l2, l3] L2 (aR o :: St) S = ev c 149 13 [l0, l1, l2, some (aR o)] (kil L2 3) St S := ev_go i149_12 rfl
theorem i149_13 : insAt 149 13 = some (.aload_n 3, 1, (0, 0, 0, 0), 0) := rfl
theorem s149_13 {c : Nat → List AV → SS → Option Out} {l0 l1 l2 : Option AV} {o : OId} {L2 : List (Nat × AV)} {St : List AV} {S : SS} : ev c 149 13 [l0, l1, l2, some (aR o)] L2 St S = ev c 149 14 [l0, l1, l2, some (aR o)] L2 (aR o :: St) S := ev_go i149_13 rfl
theorem i149_14 : insAt 149 14 = some (.invokestatic 146, 3, (93, 1, 0, 0), 223) := rfl
theorem s149_14 {c : Nat → List AV → SS → Option Out} {l0 l1 l2 l3 : Option AV} {a0 : OId} {L2 : List (Nat × AV)} {S : SS} : ev c 149 14 [l0, l1, l2, l3] L2 [aR a0] S = ck (c 93 [aR a0] S) (fun v S' => ev c 149 17 [l0, l1, l2, l3] L2 (v.toList ++ []) S') := ev_call i149_14 rfl
theorem i149_17 : insAt 149 17 = some (.aload_n 3, 1, (0, 0, 0, 0), 0) := rfl
theorem s149_17 {c : Nat → List AV → SS → Option Out} {l0 l1 l2 : Option AV} {o : OId} {L2 : List (Nat × AV)} {St : List AV} {S : SS} : ev c 149 17 [l0, l1, l2, some (aR o)] L2 St S = ev c 149 18 [l0, l1, l2, some (aR o)] L2 (aR o :: St) S := ev_go i149_17 rfl
theorem i149_18 : insAt 149 18 = some (.getfield 129, 3, (10, 3, 1, 0), 143) := rfl
theorem s149_18 {c : Nat → List AV → SS → Option Out} {l0 l1 l2 l3 : Option AV} {j t : Nat} {L2 : List (Nat × AV)} {St : List AV} {S : SS} : ev c 149 18 [l0, l1, l2, l3] L2 (aR (10, j, t) :: St) S = ev c 149 21 [l0, l1, l2, l3] L2 (aI (S.1 (10, j, t) 3) :: St) S := ev_go i149_18 rfl
theorem i149_21 : insAt 149 21 = some (.iload_n 2, 1, (0, 0, 0, 0), 0) := rfl
theorem s149_21 {c : Nat → List AV → SS → Option Out} {l0 l1 l3 : Option AV} {x : Int32} {L2 : List (Nat × AV)} {St : List AV} {S : SS} : ev c 149 21 [l0, l1, some (aI x), l3] L2 St S = ev c 149 22 [l0, l1, some (aI x), l3] L2 (aI x :: St) S := ev_go i149_21 rfl
theorem i149_22 : insAt 149 22 = some (.if_icmp .ne 14, 3, (0, 0, 0, 0), 0) := rfl
theorem s149_22 {c : Nat → List AV → SS → Option Out} {l0 l1 l2 l3 : Option AV} {x y : Int32} {L2 : List (Nat × AV)} {St : List AV} {S : SS} : ev c 149 22 [l0, l1, l2, l3] L2 (aI y :: aI x :: St) S = if x = y then ev c 149 25 [l0, l1, l2, l3] L2 St S else ev c 149 36 [l0, l1, l2, l3] L2 St S := (ev_br i149_22 rfl).trans (ite_not _ _ _)
theorem i149_25 : insAt 149 25 = some (.new 64, 3, (1, 0, 1, 0), 156) := rfl
theorem s149_25 {c : Nat → List AV → SS → Option Out} {l0 l1 l2 l3 : Option AV} {L2 : List (Nat × AV)} {S : SS} : ev c 149 25 [l0, l1, l2, l3] L2 [] S = some (.inr "java/lang/IllegalStateException", bump S 1 6) := ev_end i149_25 rfl
theorem i149_28 : insAt 149 28 = some (.dup, 1, (0, 0, 0, 0), 0) := rfl
theorem s149_28 {c : Nat → List AV → SS → Option Out} {l0 l1 l2 l3 : Option AV} {x : OId} {L2 : List (Nat × AV)} {St : List AV} {S : SS} : ev c 149 28 [l0, l1, l2, l3] L2 (aR x :: St) S = ev c 149 29 [l0, l1, l2, l3] L2 (aR x :: aR x :: St) S := ev_go i149_28 rfl
theorem i149_36 : insAt 149 36 = some (.return_, 1, (0, 0, 0, 0), 0) := rfl
theorem s149_36 {c : Nat → List AV → SS → Option Out} {l0 l1 l2 l3 : Option AV} {L2 : List (Nat × AV)} {S : SS} : ev c 149 36 [l0, l1, l2, l3] L2 [] S = some (.inl none, S) := ev_end i149_36 rfl
theorem m149 {d : Nat} {o : OId} {a0 : Int32} {a1 : Int32} {S : SS} : evm (d + 1) 149 [aR o, aI a0, aI a1] S = ev (evm d) 149 0 [some (aR o), some (aI a0), some (aI a1), none] [] [] S := evm_s (n := 4) rfl (Nat.le_of_ble_eq_true rfl) rfl rfl
/-! FrequencyOffice.movesToChangeByQueue(II)I -/
theorem i153_0 : insAt 153 0 = some (.aload_n 0, 1, (0, 0, 0, 0), 0) := rfl
theorem s153_0 {c : Nat → List AV → SS → Option Out} {l1 l2 l3 : Option AV} {o : OId} {L2 : List (Nat × AV)} {St : List AV} {S : SS} : ev c 153 0 [some (aR o), l1, l2, l3] L2 St S = ev c 153 1 [some (aR o), l1, l2, l3] L2 (aR o :: St) S := ev_go i153_0 rfl
theorem i153_1 : insAt 153 1 = some (.iload_n 1, 1, (0, 0, 0, 0), 0) := rfl
theorem s153_1 {c : Nat → List AV → SS → Option Out} {l0 l2 l3 : Option AV} {x : Int32} {L2 : List (Nat × AV)} {St : List AV} {S : SS} : ev c 153 1 [l0, some (aI x), l2, l3] L2 St S = ev c 153 2 [l0, some (aI x), l2, l3] L2 (aI x :: St) S := ev_go i153_1 rfl
theorem i153_2 : insAt 153 2 = some (.invokevirtual 134, 3, (90, 1, 2, 11), 220) := rfl
theorem s153_2 {c : Nat → List AV → SS → Option Out} {l0 l1 l2 l3 : Option AV} {a0 : Int32} {j t : Nat} {L2 : List (Nat × AV)} {S : SS} : ev c 153 2 [l0, l1, l2, l3] L2 [aI a0, aR (11, j, t)] S = ck (c 90 [aR (11, j, t), aI a0] S) (fun v S' => ev c 153 5 [l0, l1, l2, l3] L2 (v.toList ++ []) S') := ev_call i153_2 rfl
theorem i153_5 : insAt 153 5 = some (.istore_n 3, 1, (0, 0, 0, 0), 0) := rfl
theorem s153_5 {c : Nat → List AV → SS → Option Out} {l0 l1 l2 l3 : Option AV} {x : Int32} {L2 : List (Nat × AV)} {St : List AV} {S : SS} : ev c 153 5 [l0, l1, l2, l3] L2 (aI x :: St) S = ev c 153 6 [l0, l1, l2, some (aI x)] (kil L2 3) St S := ev_go i153_5 rfl
theorem i153_6 : insAt 153 6 = some (.aload_n 0, 1, (0, 0, 0, 0), 0) := rfl
theorem s153_6 {c : Nat → List AV → SS → Option Out} {l1 l2 l3 : Option AV} {o : OId} {L2 : List (Nat × AV)} {St : List AV} {S : SS} : ev c 153 6 [some (aR o), l1, l2, l3] L2 St S = ev c 153 7 [some (aR o), l1, l2, l3] L2 (aR o :: St) S := ev_go i153_6 rfl
theorem i153_7 : insAt 153 7 = some (.iload_n 3, 1, (0, 0, 0, 0), 0) := rfl
theorem s153_7 {c : Nat → List AV → SS → Option Out} {l0 l1 l2 : Option AV} {x : Int32} {L2 : List (Nat × AV)} {St : List AV} {S : SS} : ev c 153 7 [l0, l1, l2, some (aI x)] L2 St S = ev c 153 8 [l0, l1, l2, some (aI x)] L2 (aI x :: St) S := ev_go i153_7 rfl
theorem i153_8 : insAt 153 8 = some (.iload_n 2, 1, (0, 0, 0, 0), 0) := rfl
theorem s153_8 {c : Nat → List AV → SS → Option Out} {l0 l1 l3 : Option AV} {x : Int32} {L2 : List (Nat × AV)} {St : List AV} {S : SS} : ev c 153 8 [l0, l1, some (aI x), l3] L2 St S = ev c 153 9 [l0, l1, some (aI x), l3] L2 (aI x :: St) S := ev_go i153_8 rfl
theorem i153_9 : insAt 153 9 = some (.invokevirtual 241, 3, (149, 2, 2, 11), 272) := rfl
theorem s153_9 {c : Nat → List AV → SS → Option Out} {l0 l1 l2 l3 : Option AV} {a0 : Int32} {a1 : Int32} {j t : Nat} {L2 : List (Nat × AV)} {S : SS} : ev c 153 9 [l0, l1, l2, l3] L2 [aI a1, aI a0, aR (11, j, t)] S = ck (c 149 [aR (11, j, t), aI a0, aI a1] S) (fun v S' => ev c 153 12 [l0, l1, l2, l3] L2 (v.toList ++ []) S') := ev_call i153_9 rfl
theorem i153_12 : insAt 153 12 = some (.aload_n 0, 1, (0, 0, 0, 0), 0) := rfl
theorem s153_12 {c : Nat → List AV → SS → Option Out} {l1 l2 l3 : Option AV} {o : OId} {L2 : List (Nat × AV)} {St : List AV} {S : SS} : ev c 153 12 [some (aR o), l1, l2, l3] L2 St S = ev c 153 13 [some (aR o), l1, l2, l3] L2 (aR o :: St) S := ev_go i153_12 rfl
theorem i153_13 : insAt 153 13 = some (.getfield 38, 3, (11, 4, 0, 0), 13) := rfl
theorem s153_13 {c : Nat → List AV → SS → Option Out} {l0 l1 l2 l3 : Option AV} {j t : Nat} {L2 : List (Nat × AV)} {St : List AV} {S : SS} : ev c 153 13 [l0, l1, l2, l3] L2 (aR (11, j, t) :: St) S = ev c 153 16 [l0, l1, l2, l3] L2 (S.2.2.1 (11, j, t) 4 :: St) S := ev_go i153_13 rfl
theorem i153_16 : insAt 153 16 = some (.aload_n 0, 1, (0, 0, 0, 0), 0) := rfl
theorem s153_16 {c : Nat → List AV → SS → Option Out} {l1 l2 l3 : Option AV} {o : OId} {L2 : List (Nat × AV)} {St : List AV} {S : SS} : ev c 153 16 [some (aR o), l1, l2, l3] L2 St S = ev c 153 17 [some (aR o), l1, l2, l3] L2 (aR o :: St) S := ev_go i153_16 rfl
theorem i153_17 : insAt 153 17 = some (.getfield 10, 3, (11, 0, 0, 0), 3) := rfl
theorem s153_17 {c : Nat → List AV → SS → Option Out} {l0 l1 l2 l3 : Option AV} {j t : Nat} {L2 : List (Nat × AV)} {St : List AV} {S : SS} : ev c 153 17 [l0, l1, l2, l3] L2 (aR (11, j, t) :: St) S = ev c 153 20 [l0, l1, l2, l3] L2 (S.2.2.1 (11, j, t) 0 :: St) S := ev_go i153_17 rfl
theorem i153_20 : insAt 153 20 = some (.iload_n 3, 1, (0, 0, 0, 0), 0) := rfl
theorem s153_20 {c : Nat → List AV → SS → Option Out} {l0 l1 l2 : Option AV} {x : Int32} {L2 : List (Nat × AV)} {St : List AV} {S : SS} : ev c 153 20 [l0, l1, l2, some (aI x)] L2 St S = ev c 153 21 [l0, l1, l2, some (aI x)] L2 (aI x :: St) S := ev_go i153_20 rfl
theorem i153_21 : insAt 153 21 = some (.iload_n 2, 1, (0, 0, 0, 0), 0) := rfl
theorem s153_21 {c : Nat → List AV → SS → Option Out} {l0 l1 l3 : Option AV} {x : Int32} {L2 : List (Nat × AV)} {St : List AV} {S : SS} : ev c 153 21 [l0, l1, some (aI x), l3] L2 St S = ev c 153 22 [l0, l1, some (aI x), l3] L2 (aI x :: St) S := ev_go i153_21 rfl
theorem i153_22 : insAt 153 22 = some (.invokevirtual 244, 3, (150, 3, 3, 8), 273) := rfl
theorem s153_22 {c : Nat → List AV → SS → Option Out} {l0 l1 l2 l3 : Option AV} {a0 : OId} {a1 : Int32} {a2 : Int32} {j t : Nat} {L2 : List (Nat × AV)} {S : SS} : ev c 153 22 [l0, l1, l2, l3] L2 [aI a2, aI a1, aR a0, aR (8, j, t)] S = ck (c 150 [aR (8, j, t), aR a0, aI a1, aI a2] S) (fun v S' => ev c 153 25 [l0, l1, l2, l3] L2 (v.toList ++ []) S') := ev_call i153_22 rfl
theorem i153_25 : insAt 153 25 = some (.aload_n 0, 1, (0, 0, 0, 0), 0) := rfl
theorem s153_25 {c : Nat → List AV → SS → Option Out} {l1 l2 l3 : Option AV} {o : OId} {L2 : List (Nat × AV)} {St : List AV} {S : SS} : ev c 153 25 [some (aR o), l1, l2, l3] L2 St S = ev c 153 26 [some (aR o), l1, l2, l3] L2 (aR o :: St) S := ev_go i153_25 rfl
theorem i153_26 : insAt 153 26 = some (.invokevirtual 238, 3, (142, 0, 2, 11), 266) := rfl
theorem s153_26 {c : Nat → List AV → SS → Option Out} {l0 l1 l2 l3 : Option AV} {j t : Nat} {L2 : List (Nat × AV)} {S : SS} : ev c 153 26 [l0, l1, l2, l3] L2 [aR (11, j, t)] S = ck (c 142 [aR (11, j, t)] S) (fun v S' => ev c 153 29 [l0, l1, l2, l3] L2 (v.toList ++ []) S') := ev_call i153_26 rfl
theorem i153_29 : insAt 153 29 = some (.ireturn, 1, (0, 0, 0, 0), 0) := rfl
theorem s153_29 {c : Nat → List AV → SS → Option Out} {l0 l1 l2 l3 : Option AV} {x : Int32} {L2 : List (Nat × AV)} {S : SS} : ev c 153 29 [l0, l1, l2, l3] L2 [aI x] S = some (.inl (some (aI x)), S) := ev_end i153_29 rfl
theorem m153 {d : Nat} {o : OId} {a0 : Int32} {a1 : Int32} {S : SS} : evm (d + 1) 153 [aR o, aI a0, aI a1] S = ev (evm d) 153 0 [some (aR o), some (aI a0), some (aI a1), none] [] [] S := evm_s (n := 4) rfl (Nat.le_of_ble_eq_true rfl) rfl rfl
/-! FrequencyOffice.change(II)I -/
theorem i155_0 : insAt 155 0 = some (.aload_n 0, 1, (0, 0, 0, 0), 0) := rfl
theorem s155_0 {c : Nat → List AV → SS → Option Out} {l1 l2 l3 : Option AV} {o : OId} {L2 : List (Nat × AV)} {St : List AV} {S : SS} : ev c 155 0 [some (aR o), l1, l2, l3] L2 St S = ev c 155 1 [some (aR o), l1, l2, l3] L2 (aR o :: St) S := ev_go i155_0 rfl
theorem i155_1 : insAt 155 1 = some (.iload_n 1, 1, (0, 0, 0, 0), 0) := rfl
theorem s155_1 {c : Nat → List AV → SS → Option Out} {l0 l2 l3 : Option AV} {x : Int32} {L2 : List (Nat × AV)} {St : List AV} {S : SS} : ev c 155 1 [l0, some (aI x), l2, l3] L2 St S = ev c 155 2 [l0, some (aI x), l2, l3] L2 (aI x :: St) S := ev_go i155_1 rfl
theorem i155_2 : insAt 155 2 = some (.invokevirtual 134, 3, (90, 1, 2, 11), 220) := rfl
theorem s155_2 {c : Nat → List AV → SS → Option Out} {l0 l1 l2 l3 : Option AV} {a0 : Int32} {j t : Nat} {L2 : List (Nat × AV)} {S : SS} : ev c 155 2 [l0, l1, l2, l3] L2 [aI a0, aR (11, j, t)] S = ck (c 90 [aR (11, j, t), aI a0] S) (fun v S' => ev c 155 5 [l0, l1, l2, l3] L2 (v.toList ++ []) S') := ev_call i155_2 rfl
theorem i155_5 : insAt 155 5 = some (.istore_n 3, 1, (0, 0, 0, 0), 0) := rfl
theorem s155_5 {c : Nat → List AV → SS → Option Out} {l0 l1 l2 l3 : Option AV} {x : Int32} {L2 : List (Nat × AV)} {St : List AV} {S : SS} : ev c 155 5 [l0, l1, l2, l3] L2 (aI x :: St) S = ev c 155 6 [l0, l1, l2, some (aI x)] (kil L2 3) St S := ev_go i155_5 rfl
theorem i155_6 : insAt 155 6 = some (.aload_n 0, 1, (0, 0, 0, 0), 0) := rfl
theorem s155_6 {c : Nat → List AV → SS → Option Out} {l1 l2 l3 : Option AV} {o : OId} {L2 : List (Nat × AV)} {St : List AV} {S : SS} : ev c 155 6 [some (aR o), l1, l2, l3] L2 St S = ev c 155 7 [some (aR o), l1, l2, l3] L2 (aR o :: St) S := ev_go i155_6 rfl
theorem i155_7 : insAt 155 7 = some (.iload_n 3, 1, (0, 0, 0, 0), 0) := rfl
theorem s155_7 {c : Nat → List AV → SS → Option Out} {l0 l1 l2 : Option AV} {x : Int32} {L2 : List (Nat × AV)} {St : List AV} {S : SS} : ev c 155 7 [l0, l1, l2, some (aI x)] L2 St S = ev c 155 8 [l0, l1, l2, some (aI x)] L2 (aI x :: St) S := ev_go i155_7 rfl
theorem i155_8 : insAt 155 8 = some (.iload_n 2, 1, (0, 0, 0, 0), 0) := rfl
theorem s155_8 {c : Nat → List AV → SS → Option Out} {l0 l1 l3 : Option AV} {x : Int32} {L2 : List (Nat × AV)} {St : List AV} {S : SS} : ev c 155 8 [l0, l1, some (aI x), l3] L2 St S = ev c 155 9 [l0, l1, some (aI x), l3] L2 (aI x :: St) S := ev_go i155_8 rfl
theorem i155_9 : insAt 155 9 = some (.invokevirtual 241, 3, (149, 2, 2, 11), 272) := rfl
theorem s155_9 {c : Nat → List AV → SS → Option Out} {l0 l1 l2 l3 : Option AV} {a0 : Int32} {a1 : Int32} {j t : Nat} {L2 : List (Nat × AV)} {S : SS} : ev c 155 9 [l0, l1, l2, l3] L2 [aI a1, aI a0, aR (11, j, t)] S = ck (c 149 [aR (11, j, t), aI a0, aI a1] S) (fun v S' => ev c 155 12 [l0, l1, l2, l3] L2 (v.toList ++ []) S') := ev_call i155_9 rfl
theorem i155_12 : insAt 155 12 = some (.aload_n 0, 1, (0, 0, 0, 0), 0) := rfl
theorem s155_12 {c : Nat → List AV → SS → Option Out} {l1 l2 l3 : Option AV} {o : OId} {L2 : List (Nat × AV)} {St : List AV} {S : SS} : ev c 155 12 [some (aR o), l1, l2, l3] L2 St S = ev c 155 13 [some (aR o), l1, l2, l3] L2 (aR o :: St) S := ev_go i155_12 rfl
theorem i155_13 : insAt 155 13 = some (.getfield 38, 3, (11, 4, 0, 0), 13) := rfl
theorem s155_13 {c : Nat → List AV → SS → Option Out} {l0 l1 l2 l3 : Option AV} {j t : Nat} {L2 : List (Nat × AV)} {St : List AV} {S : SS} : ev c 155 13 [l0, l1, l2, l3] L2 (aR (11, j, t) :: St) S = ev c 155 16 [l0, l1, l2, l3] L2 (S.2.2.1 (11, j, t) 4 :: St) S := ev_go i155_13 rfl
theorem i155_16 : insAt 155 16 = some (.aload_n 0, 1, (0, 0, 0, 0), 0) := rfl
theorem s155_16 {c : Nat → List AV → SS → Option Out} {l1 l2 l3 : Option AV} {o : OId} {L2 : List (Nat × AV)} {St : List AV} {S : SS} : ev c 155 16 [some (aR o), l1, l2, l3] L2 St S = ev c 155 17 [some (aR o), l1, l2, l3] L2 (aR o :: St) S := ev_go i155_16 rfl
theorem i155_17 : insAt 155 17 = some (.getfield 10, 3, (11, 0, 0, 0), 3) := rfl
theorem s155_17 {c : Nat → List AV → SS → Option Out} {l0 l1 l2 l3 : Option AV} {j t : Nat} {L2 : List (Nat × AV)} {St : List AV} {S : SS} : ev c 155 17 [l0, l1, l2, l3] L2 (aR (11, j, t) :: St) S = ev c 155 20 [l0, l1, l2, l3] L2 (S.2.2.1 (11, j, t) 0 :: St) S := ev_go i155_17 rfl
theorem i155_20 : insAt 155 20 = some (.iload_n 3, 1, (0, 0, 0, 0), 0) := rfl
theorem s155_20 {c : Nat → List AV → SS → Option Out} {l0 l1 l2 : Option AV} {x : Int32} {L2 : List (Nat × AV)} {St : List AV} {S : SS} : ev c 155 20 [l0, l1, l2, some (aI x)] L2 St S = ev c 155 21 [l0, l1, l2, some (aI x)] L2 (aI x :: St) S := ev_go i155_20 rfl
theorem i155_21 : insAt 155 21 = some (.iload_n 2, 1, (0, 0, 0, 0), 0) := rfl
theorem s155_21 {c : Nat → List AV → SS → Option Out} {l0 l1 l3 : Option AV} {x : Int32} {L2 : List (Nat × AV)} {St : List AV} {S : SS} : ev c 155 21 [l0, l1, some (aI x), l3] L2 St S = ev c 155 22 [l0, l1, some (aI x), l3] L2 (aI x :: St) S := ev_go i155_21 rfl
theorem i155_22 : insAt 155 22 = some (.invokevirtual 244, 3, (150, 3, 3, 8), 273) := rfl
theorem s155_22 {c : Nat → List AV → SS → Option Out} {l0 l1 l2 l3 : Option AV} {a0 : OId} {a1 : Int32} {a2 : Int32} {j t : Nat} {L2 : List (Nat × AV)} {S : SS} : ev c 155 22 [l0, l1, l2, l3] L2 [aI a2, aI a1, aR a0, aR (8, j, t)] S = ck (c 150 [aR (8, j, t), aR a0, aI a1, aI a2] S) (fun v S' => ev c 155 25 [l0, l1, l2, l3] L2 (v.toList ++ []) S') := ev_call i155_22 rfl
theorem i155_25 : insAt 155 25 = some (.aload_n 0, 1, (0, 0, 0, 0), 0) := rfl
theorem s155_25 {c : Nat → List AV → SS → Option Out} {l1 l2 l3 : Option AV} {o : OId} {L2 : List (Nat × AV)} {St : List AV} {S : SS} : ev c 155 25 [some (aR o), l1, l2, l3] L2 St S = ev c 155 26 [some (aR o), l1, l2, l3] L2 (aR o :: St) S := ev_go i155_25 rfl
theorem i155_26 : insAt 155 26 = some (.invokevirtual 95, 3, (67, 0, 2, 11), 166) := rfl
theorem s155_26 {c : Nat → List AV → SS → Option Out} {l0 l1 l2 l3 : Option AV} {j t : Nat} {L2 : List (Nat × AV)} {S : SS} : ev c 155 26 [l0, l1, l2, l3] L2 [aR (11, j, t)] S = ck (c 67 [aR (11, j, t)] S) (fun v S' => ev c 155 29 [l0, l1, l2, l3] L2 (v.toList ++ []) S') := ev_call i155_26 rfl
theorem i155_29 : insAt 155 29 = some (.aload_n 0, 1, (0, 0, 0, 0), 0) := rfl
theorem s155_29 {c : Nat → List AV → SS → Option Out} {l1 l2 l3 : Option AV} {o : OId} {L2 : List (Nat × AV)} {St : List AV} {S : SS} : ev c 155 29 [some (aR o), l1, l2, l3] L2 St S = ev c 155 30 [some (aR o), l1, l2, l3] L2 (aR o :: St) S := ev_go i155_29 rfl
theorem i155_30 : insAt 155 30 = some (.getfield 19, 3, (11, 1, 0, 0), 6) := rfl
theorem s155_30 {c : Nat → List AV → SS → Option Out} {l0 l1 l2 l3 : Option AV} {j t : Nat} {L2 : List (Nat × AV)} {St : List AV} {S : SS} : ev c 155 30 [l0, l1, l2, l3] L2 (aR (11, j, t) :: St) S = ev c 155 33 [l0, l1, l2, l3] L2 (S.2.2.1 (11, j, t) 1 :: St) S := ev_go i155_30 rfl
theorem i155_33 : insAt 155 33 = some (.aload_n 0, 1, (0, 0, 0, 0), 0) := rfl
theorem s155_33 {c : Nat → List AV → SS → Option Out} {l1 l2 l3 : Option AV} {o : OId} {L2 : List (Nat × AV)} {St : List AV} {S : SS} : ev c 155 33 [some (aR o), l1, l2, l3] L2 St S = ev c 155 34 [some (aR o), l1, l2, l3] L2 (aR o :: St) S := ev_go i155_33 rfl
theorem i155_34 : insAt 155 34 = some (.getfield 10, 3, (11, 0, 0, 0), 3) := rfl
theorem s155_34 {c : Nat → List AV → SS → Option Out} {l0 l1 l2 l3 : Option AV} {j t : Nat} {L2 : List (Nat × AV)} {St : List AV} {S : SS} : ev c 155 34 [l0, l1, l2, l3] L2 (aR (11, j, t) :: St) S = ev c 155 37 [l0, l1, l2, l3] L2 (S.2.2.1 (11, j, t) 0 :: St) S := ev_go i155_34 rfl
theorem i155_37 : insAt 155 37 = some (.invokevirtual 71, 3, (59, 1, 3, 5), 157) := rfl
theorem s155_37 {c : Nat → List AV → SS → Option Out} {l0 l1 l2 l3 : Option AV} {a0 : OId} {j t : Nat} {L2 : List (Nat × AV)} {S : SS} : ev c 155 37 [l0, l1, l2, l3] L2 [aR a0, aR (5, j, t)] S = ck (c 59 [aR (5, j, t), aR a0] S) (fun v S' => ev c 155 40 [l0, l1, l2, l3] L2 (v.toList ++ []) S') := ev_call i155_37 rfl
theorem i155_40 : insAt 155 40 = some (.aload_n 0, 1, (0, 0, 0, 0), 0) := rfl
theorem s155_40 {c : Nat → List AV → SS → Option Out} {l1 l2 l3 : Option AV} {o : OId} {L2 : List (Nat × AV)} {St : List AV} {S : SS} : ev c 155 40 [some (aR o), l1, l2, l3] L2 St S = ev c 155 41 [some (aR o), l1, l2, l3] L2 (aR o :: St) S := ev_go i155_40 rfl
theorem i155_41 : insAt 155 41 = some (.getfield 10, 3, (11, 0, 0, 0), 3) := rfl
theorem s155_41 {c : Nat → List AV → SS → Option Out} {l0 l1 l2 l3 : Option AV} {j t : Nat} {L2 : List (Nat × AV)} {St : List AV} {S : SS} : ev c 155 41 [l0, l1, l2, l3] L2 (aR (11, j, t) :: St) S = ev c 155 44 [l0, l1, l2, l3] L2 (S.2.2.1 (11, j, t) 0 :: St) S := ev_go i155_41 rfl
theorem i155_44 : insAt 155 44 = some (.aload_n 0, 1, (0, 0, 0, 0), 0) := rfl
theorem s155_44 {c : Nat → List AV → SS → Option Out} {l1 l2 l3 : Option AV} {o : OId} {L2 : List (Nat × AV)} {St : List AV} {S : SS} : ev c 155 44 [some (aR o), l1, l2, l3] L2 St S = ev c 155 45 [some (aR o), l1, l2, l3] L2 (aR o :: St) S := ev_go i155_44 rfl
theorem i155_45 : insAt 155 45 = some (.getfield 38, 3, (11, 4, 0, 0), 13) := rfl
theorem s155_45 {c : Nat → List AV → SS → Option Out} {l0 l1 l2 l3 : Option AV} {j t : Nat} {L2 : List (Nat × AV)} {St : List AV} {S : SS} : ev c 155 45 [l0, l1, l2, l3] L2 (aR (11, j, t) :: St) S = ev c 155 48 [l0, l1, l2, l3] L2 (S.2.2.1 (11, j, t) 4 :: St) S := ev_go i155_45 rfl
theorem i155_48 : insAt 155 48 = some (.getfield 105, 3, (8, 1, 1, 0), 168) := rfl
theorem s155_48 {c : Nat → List AV → SS → Option Out} {l0 l1 l2 l3 : Option AV} {j t : Nat} {L2 : List (Nat × AV)} {St : List AV} {S : SS} : ev c 155 48 [l0, l1, l2, l3] L2 (aR (8, j, t) :: St) S = ev c 155 51 [l0, l1, l2, l3] L2 (S.2.2.1 (8, j, t) 1 :: St) S := ev_go i155_48 rfl
theorem i155_51 : insAt 155 51 = some (.iload_n 3, 1, (0, 0, 0, 0), 0) := rfl
theorem s155_51 {c : Nat → List AV → SS → Option Out} {l0 l1 l2 : Option AV} {x : Int32} {L2 : List (Nat × AV)} {St : List AV} {S : SS} : ev c 155 51 [l0, l1, l2, some (aI x)] L2 St S = ev c 155 52 [l0, l1, l2, some (aI x)] L2 (aI x :: St) S := ev_go i155_51 rfl
theorem i155_52 : insAt 155 52 = some (.invokevirtual 109, 3, (79, 2, 3, 4), 169) := rfl
theorem s155_52 {c : Nat → List AV → SS → Option Out} {l0 l1 l2 l3 : Option AV} {a0 : OId} {a1 : Int32} {j t : Nat} {L2 : List (Nat × AV)} {S : SS} : ev c 155 52 [l0, l1, l2, l3] L2 [aI a1, aR a0, aR (4, j, t)] S = ck (c 79 [aR (4, j, t), aR a0, aI a1] S) (fun v S' => ev c 155 55 [l0, l1, l2, l3] L2 (v.toList ++ []) S') := ev_call i155_52 rfl
theorem i155_55 : insAt 155 55 = some (.aload_n 0, 1, (0, 0, 0, 0), 0) := rfl
theorem s155_55 {c : Nat → List AV → SS → Option Out} {l1 l2 l3 : Option AV} {o : OId} {L2 : List (Nat × AV)} {St : List AV} {S : SS} : ev c 155 55 [some (aR o), l1, l2, l3] L2 St S = ev c 155 56 [some (aR o), l1, l2, l3] L2 (aR o :: St) S := ev_go i155_55 rfl
theorem i155_56 : insAt 155 56 = some (.getfield 38, 3, (11, 4, 0, 0), 13) := rfl
theorem s155_56 {c : Nat → List AV → SS → Option Out} {l0 l1 l2 l3 : Option AV} {j t : Nat} {L2 : List (Nat × AV)} {St : List AV} {S : SS} : ev c 155 56 [l0, l1, l2, l3] L2 (aR (11, j, t) :: St) S = ev c 155 59 [l0, l1, l2, l3] L2 (S.2.2.1 (11, j, t) 4 :: St) S := ev_go i155_56 rfl
theorem i155_59 : insAt 155 59 = some (.getfield 105, 3, (8, 1, 1, 0), 168) := rfl
theorem s155_59 {c : Nat → List AV → SS → Option Out} {l0 l1 l2 l3 : Option AV} {j t : Nat} {L2 : List (Nat × AV)} {St : List AV} {S : SS} : ev c 155 59 [l0, l1, l2, l3] L2 (aR (8, j, t) :: St) S = ev c 155 62 [l0, l1, l2, l3] L2 (S.2.2.1 (8, j, t) 1 :: St) S := ev_go i155_59 rfl
theorem i155_62 : insAt 155 62 = some (.getfield 233, 3, (7, 0, 1, 0), 264) := rfl
theorem s155_62 {c : Nat → List AV → SS → Option Out} {l0 l1 l2 l3 : Option AV} {j t : Nat} {L2 : List (Nat × AV)} {St : List AV} {S : SS} : ev c 155 62 [l0, l1, l2, l3] L2 (aR (7, j, t) :: St) S = ev c 155 65 [l0, l1, l2, l3] L2 (aI (S.1 (7, j, t) 0) :: St) S := ev_go i155_62 rfl
theorem i155_65 : insAt 155 65 = some (.ireturn, 1, (0, 0, 0, 0), 0) := rfl
theorem s155_65 {c : Nat → List AV → SS → Option Out} {l0 l1 l2 l3 : Option AV} {x : Int32} {L2 : List (Nat × AV)} {S : SS} : ev c 155 65 [l0, l1, l2, l3] L2 [aI x] S = some (.inl (some (aI x)), S) := ev_end i155_65 rfl
theorem m155 {d : Nat} {o : OId} {a0 : Int32} {a1 : Int32} {S : SS} : evm (d + 1) 155 [aR o, aI a0, aI a1] S = ev (evm d) 155 0 [some (aR o), some (aI a0), some (aI a1), none] [] [] S := evm_s (n := 4) rfl (Nat.le_of_ble_eq_true rfl) rfl rfl
/-! FrequencyOffice.complain(II)I -/
theorem i157_0 : insAt 157 0 = some (.aload_n 0, 1, (0, 0, 0, 0), 0) := rfl
theorem s157_0 {c : Nat → List AV → SS → Option Out} {l1 l2 l3 l4 : Option AV} {o : OId} {L2 : List (Nat × AV)} {St : List AV} {S : SS} : ev c 157 0 [some (aR o), l1, l2, l3, l4] L2 St S = ev c 157 1 [some (aR o), l1, l2, l3, l4] L2 (aR o :: St) S := ev_go i157_0 rfl
theorem i157_1 : insAt 157 1 = some (.iload_n 1, 1, (0, 0, 0, 0), 0) := rfl
theorem s157_1 {c : Nat → List AV → SS → Option Out} {l0 l2 l3 l4 : Option AV} {x : Int32} {L2 : List (Nat × AV)} {St : List AV} {S : SS} : ev c 157 1 [l0, some (aI x), l2, l3, l4] L2 St S = ev c 157 2 [l0, some (aI x), l2, l3, l4] L2 (aI x :: St) S := ev_go i157_1 rfl
theorem i157_2 : insAt 157 2 = some (.invokevirtual 134, 3, (90, 1, 2, 11), 220) := rfl
theorem s157_2 {c : Nat → List AV → SS → Option Out} {l0 l1 l2 l3 l4 : Option AV} {a0 : Int32} {j t : Nat} {L2 : List (Nat × AV)} {S : SS} : ev c 157 2 [l0, l1, l2, l3, l4] L2 [aI a0, aR (11, j, t)] S = ck (c 90 [aR (11, j, t), aI a0] S) (fun v S' => ev c 157 5 [l0, l1, l2, l3, l4] L2 (v.toList ++ []) S') := ev_call i157_2 rfl
theorem i157_5 : insAt 157 5 = some (.istore_n 3, 1, (0, 0, 0, 0), 0) := rfl
theorem s157_5 {c : Nat → List AV → SS → Option Out} {l0 l1 l2 l3 l4 : Option AV} {x : Int32} {L2 : List (Nat × AV)} {St : List AV} {S : SS} : ev c 157 5 [l0, l1, l2, l3, l4] L2 (aI x :: St) S = ev c 157 6 [l0, l1, l2, some (aI x), l4] (kil L2 3) St S := ev_go i157_5 rfl
theorem i157_6 : insAt 157 6 = some (.aload_n 0, 1, (0, 0, 0, 0), 0) := rfl
theorem s157_6 {c : Nat → List AV → SS → Option Out} {l1 l2 l3 l4 : Option AV} {o : OId} {L2 : List (Nat × AV)} {St : List AV} {S : SS} : ev c 157 6 [some (aR o), l1, l2, l3, l4] L2 St S = ev c 157 7 [some (aR o), l1, l2, l3, l4] L2 (aR o :: St) S := ev_go i157_6 rfl
theorem i157_7 : insAt 157 7 = some (.iload_n 1, 1, (0, 0, 0, 0), 0) := rfl
theorem s157_7 {c : Nat → List AV → SS → Option Out} {l0 l2 l3 l4 : Option AV} {x : Int32} {L2 : List (Nat × AV)} {St : List AV} {S : SS} : ev c 157 7 [l0, some (aI x), l2, l3, l4] L2 St S = ev c 157 8 [l0, some (aI x), l2, l3, l4] L2 (aI x :: St) S := ev_go i157_7 rfl
theorem i157_8 : insAt 157 8 = some (.iload_n 2, 1, (0, 0, 0, 0), 0) := rfl
theorem s157_8 {c : Nat → List AV → SS → Option Out} {l0 l1 l3 l4 : Option AV} {x : Int32} {L2 : List (Nat × AV)} {St : List AV} {S : SS} : ev c 157 8 [l0, l1, some (aI x), l3, l4] L2 St S = ev c 157 9 [l0, l1, some (aI x), l3, l4] L2 (aI x :: St) S := ev_go i157_8 rfl
theorem i157_9 : insAt 157 9 = some (.invokevirtual 189, 3, (118, 2, 2, 11), 243) := rfl
theorem s157_9 {c : Nat → List AV → SS → Option Out} {l0 l1 l2 l3 l4 : Option AV} {a0 : Int32} {a1 : Int32} {j t : Nat} {L2 : List (Nat × AV)} {S : SS} : ev c 157 9 [l0, l1, l2, l3, l4] L2 [aI a1, aI a0, aR (11, j, t)] S = ck (c 118 [aR (11, j, t), aI a0, aI a1] S) (fun v S' => ev c 157 12 [l0, l1, l2, l3, l4] L2 (v.toList ++ []) S') := ev_call i157_9 rfl
theorem i157_12 : insAt 157 12 = some (.istore 4, 2, (0, 0, 0, 0), 0) := rfl
theorem s157_12 {c : Nat → List AV → SS → Option Out} {l0 l1 l2 l3 l4 : Option AV} {x : Int32} {L2 : List (Nat × AV)} {St : List AV} {S : SS} : ev c 157 12 [l0, l1, l2, l3, l4] L2 (aI x :: St) S = ev c 157 14 [l0, l1, l2, l3, some (aI x)] (kil L2 4) St S := ev_go i157_12 rfl
theorem i157_14 : insAt 157 14 = some (.aload_n 0, 1, (0, 0, 0, 0), 0) := rfl
theorem s157_14 {c : Nat → List AV → SS → Option Out} {l1 l2 l3 l4 : Option AV} {o : OId} {L2 : List (Nat × AV)} {St : List AV} {S : SS} : ev c 157 14 [some (aR o), l1, l2, l3, l4] L2 St S = ev c 157 15 [some (aR o), l1, l2, l3, l4] L2 (aR o :: St) S := ev_go i157_14 rfl
theorem i157_15 : insAt 157 15 = some (.iload_n 3, 1, (0, 0, 0, 0), 0) := rfl
theorem s157_15 {c : Nat → List AV → SS → Option Out} {l0 l1 l2 l4 : Option AV} {x : Int32} {L2 : List (Nat × AV)} {St : List AV} {S : SS} : ev c 157 15 [l0, l1, l2, some (aI x), l4] L2 St S = ev c 157 16 [l0, l1, l2, some (aI x), l4] L2 (aI x :: St) S := ev_go i157_15 rfl
theorem i157_16 : insAt 157 16 = some (.iload 4, 2, (0, 0, 0, 0), 0) := rfl
theorem s157_16 {c : Nat → List AV → SS → Option Out} {l0 l1 l2 l3 : Option AV} {x : Int32} {L2 : List (Nat × AV)} {St : List AV} {S : SS} : ev c 157 16 [l0, l1, l2, l3, some (aI x)] L2 St S = ev c 157 18 [l0, l1, l2, l3, some (aI x)] L2 (aI x :: St) S := ev_go i157_16 rfl
theorem i157_18 : insAt 157 18 = some (.invokevirtual 247, 3, (158, 2, 2, 11), 280) := rfl
theorem s157_18 {c : Nat → List AV → SS → Option Out} {l0 l1 l2 l3 l4 : Option AV} {a0 : Int32} {a1 : Int32} {j t : Nat} {L2 : List (Nat × AV)} {S : SS} : ev c 157 18 [l0, l1, l2, l3, l4] L2 [aI a1, aI a0, aR (11, j, t)] S = ck (c 158 [aR (11, j, t), aI a0, aI a1] S) (fun v S' => ev c 157 21 [l0, l1, l2, l3, l4] L2 (v.toList ++ []) S') := ev_call i157_18 rfl
theorem i157_21 : insAt 157 21 = some (.aload_n 0, 1, (0, 0, 0, 0), 0) := rfl
theorem s157_21 {c : Nat → List AV → SS → Option Out} {l1 l2 l3 l4 : Option AV} {o : OId} {L2 : List (Nat × AV)} {St : List AV} {S : SS} : ev c 157 21 [some (aR o), l1, l2, l3, l4] L2 St S = ev c 157 22 [some (aR o), l1, l2, l3, l4] L2 (aR o :: St) S := ev_go i157_21 rfl
theorem i157_22 : insAt 157 22 = some (.getfield 10, 3, (11, 0, 0, 0), 3) := rfl
theorem s157_22 {c : Nat → List AV → SS → Option Out} {l0 l1 l2 l3 l4 : Option AV} {j t : Nat} {L2 : List (Nat × AV)} {St : List AV} {S : SS} : ev c 157 22 [l0, l1, l2, l3, l4] L2 (aR (11, j, t) :: St) S = ev c 157 25 [l0, l1, l2, l3, l4] L2 (S.2.2.1 (11, j, t) 0 :: St) S := ev_go i157_22 rfl
theorem i157_25 : insAt 157 25 = some (.iload_n 3, 1, (0, 0, 0, 0), 0) := rfl
theorem s157_25 {c : Nat → List AV → SS → Option Out} {l0 l1 l2 l4 : Option AV} {x : Int32} {L2 : List (Nat × AV)} {St : List AV} {S : SS} : ev c 157 25 [l0, l1, l2, some (aI x), l4] L2 St S = ev c 157 26 [l0, l1, l2, some (aI x), l4] L2 (aI x :: St) S := ev_go i157_25 rfl
theorem i157_26 : insAt 157 26 = some (.iload 4, 2, (0, 0, 0, 0), 0) := rfl
theorem s157_26 {c : Nat → List AV → SS → Option Out} {l0 l1 l2 l3 : Option AV} {x : Int32} {L2 : List (Nat × AV)} {St : List AV} {S : SS} : ev c 157 26 [l0, l1, l2, l3, some (aI x)] L2 St S = ev c 157 28 [l0, l1, l2, l3, some (aI x)] L2 (aI x :: St) S := ev_go i157_26 rfl
theorem i157_28 : insAt 157 28 = some (.invokevirtual 204, 3, (24, 2, 3, 4), 252) := rfl
theorem s157_28 {c : Nat → List AV → SS → Option Out} {l0 l1 l2 l3 l4 : Option AV} {a0 : Int32} {a1 : Int32} {j t : Nat} {L2 : List (Nat × AV)} {S : SS} : ev c 157 28 [l0, l1, l2, l3, l4] L2 [aI a1, aI a0, aR (4, j, t)] S = ck (c 24 [aR (4, j, t), aI a0, aI a1] S) (fun v S' => ev c 157 31 [l0, l1, l2, l3, l4] L2 (v.toList ++ []) S') := ev_call i157_28 rfl
theorem i157_31 : insAt 157 31 = some (.ifCond .le 26, 3, (0, 0, 0, 0), 0) := rfl
theorem s157_31 {c : Nat → List AV → SS → Option Out} {l0 l1 l2 l3 l4 : Option AV} {x : Int32} {L2 : List (Nat × AV)} {St : List AV} {S : SS} : ev c 157 31 [l0, l1, l2, l3, l4] L2 (aI x :: St) S = if x ≤ 0 then ev c 157 57 [l0, l1, l2, l3, l4] L2 St S else ev c 157 34 [l0, l1, l2, l3, l4] L2 St S := ev_br i157_31 rfl
theorem i157_34 : insAt 157 34 = some (.aload_n 0, 1, (0, 0, 0, 0), 0) := rfl
theorem s157_34 {c : Nat → List AV → SS → Option Out} {l1 l2 l3 l4 : Option AV} {o : OId} {L2 : List (Nat × AV)} {St : List AV} {S : SS} : ev c 157 34 [some (aR o), l1, l2, l3, l4] L2 St S = ev c 157 35 [some (aR o), l1, l2, l3, l4] L2 (aR o :: St) S := ev_go i157_34 rfl
theorem i157_35 : insAt 157 35 = some (.getfield 19, 3, (11, 1, 0, 0), 6) := rfl
theorem s157_35 {c : Nat → List AV → SS → Option Out} {l0 l1 l2 l3 l4 : Option AV} {j t : Nat} {L2 : List (Nat × AV)} {St : List AV} {S : SS} : ev c 157 35 [l0, l1, l2, l3, l4] L2 (aR (11, j, t) :: St) S = ev c 157 38 [l0, l1, l2, l3, l4] L2 (S.2.2.1 (11, j, t) 1 :: St) S := ev_go i157_35 rfl
theorem i157_38 : insAt 157 38 = some (.aload_n 0, 1, (0, 0, 0, 0), 0) := rfl
theorem s157_38 {c : Nat → List AV → SS → Option Out} {l1 l2 l3 l4 : Option AV} {o : OId} {L2 : List (Nat × AV)} {St : List AV} {S : SS} : ev c 157 38 [some (aR o), l1, l2, l3, l4] L2 St S = ev c 157 39 [some (aR o), l1, l2, l3, l4] L2 (aR o :: St) S := ev_go i157_38 rfl
theorem i157_39 : insAt 157 39 = some (.getfield 10, 3, (11, 0, 0, 0), 3) := rfl
theorem s157_39 {c : Nat → List AV → SS → Option Out} {l0 l1 l2 l3 l4 : Option AV} {j t : Nat} {L2 : List (Nat × AV)} {St : List AV} {S : SS} : ev c 157 39 [l0, l1, l2, l3, l4] L2 (aR (11, j, t) :: St) S = ev c 157 42 [l0, l1, l2, l3, l4] L2 (S.2.2.1 (11, j, t) 0 :: St) S := ev_go i157_39 rfl
theorem i157_42 : insAt 157 42 = some (.invokevirtual 71, 3, (59, 1, 3, 5), 157) := rfl
theorem s157_42 {c : Nat → List AV → SS → Option Out} {l0 l1 l2 l3 l4 : Option AV} {a0 : OId} {j t : Nat} {L2 : List (Nat × AV)} {S : SS} : ev c 157 42 [l0, l1, l2, l3, l4] L2 [aR a0, aR (5, j, t)] S = ck (c 59 [aR (5, j, t), aR a0] S) (fun v S' => ev c 157 45 [l0, l1, l2, l3, l4] L2 (v.toList ++ []) S') := ev_call i157_42 rfl
theorem i157_45 : insAt 157 45 = some (.aload_n 0, 1, (0, 0, 0, 0), 0) := rfl
theorem s157_45 {c : Nat → List AV → SS → Option Out} {l1 l2 l3 l4 : Option AV} {o : OId} {L2 : List (Nat × AV)} {St : List AV} {S : SS} : ev c 157 45 [some (aR o), l1, l2, l3, l4] L2 St S = ev c 157 46 [some (aR o), l1, l2, l3, l4] L2 (aR o :: St) S := ev_go i157_45 rfl
theorem i157_46 : insAt 157 46 = some (.getfield 10, 3, (11, 0, 0, 0), 3) := rfl
theorem s157_46 {c : Nat → List AV → SS → Option Out} {l0 l1 l2 l3 l4 : Option AV} {j t : Nat} {L2 : List (Nat × AV)} {St : List AV} {S : SS} : ev c 157 46 [l0, l1, l2, l3, l4] L2 (aR (11, j, t) :: St) S = ev c 157 49 [l0, l1, l2, l3, l4] L2 (S.2.2.1 (11, j, t) 0 :: St) S := ev_go i157_46 rfl
theorem i157_49 : insAt 157 49 = some (.iload_n 3, 1, (0, 0, 0, 0), 0) := rfl
theorem s157_49 {c : Nat → List AV → SS → Option Out} {l0 l1 l2 l4 : Option AV} {x : Int32} {L2 : List (Nat × AV)} {St : List AV} {S : SS} : ev c 157 49 [l0, l1, l2, some (aI x), l4] L2 St S = ev c 157 50 [l0, l1, l2, some (aI x), l4] L2 (aI x :: St) S := ev_go i157_49 rfl
theorem i157_50 : insAt 157 50 = some (.iload 4, 2, (0, 0, 0, 0), 0) := rfl
theorem s157_50 {c : Nat → List AV → SS → Option Out} {l0 l1 l2 l3 : Option AV} {x : Int32} {L2 : List (Nat × AV)} {St : List AV} {S : SS} : ev c 157 50 [l0, l1, l2, l3, some (aI x)] L2 St S = ev c 157 52 [l0, l1, l2, l3, some (aI x)] L2 (aI x :: St) S := ev_go i157_50 rfl
theorem i157_52 : insAt 157 52 = some (.invokevirtual 250, 3, (159, 2, 3, 4), 281) := rfl
theorem s157_52 {c : Nat → List AV → SS → Option Out} {l0 l1 l2 l3 l4 : Option AV} {a0 : Int32} {a1 : Int32} {j t : Nat} {L2 : List (Nat × AV)} {S : SS} : ev c 157 52 [l0, l1, l2, l3, l4] L2 [aI a1, aI a0, aR (4, j, t)] S = ck (c 159 [aR (4, j, t), aI a0, aI a1] S) (fun v S' => ev c 157 55 [l0, l1, l2, l3, l4] L2 (v.toList ++ []) S') := ev_call i157_52 rfl
theorem i157_55 : insAt 157 55 = some (.iconst 0, 1, (0, 0, 0, 0), 0) := rfl
theorem s157_55 {c : Nat → List AV → SS → Option Out} {l0 l1 l2 l3 l4 : Option AV} {L2 : List (Nat × AV)} {St : List AV} {S : SS} : ev c 157 55 [l0, l1, l2, l3, l4] L2 St S = ev c 157 56 [l0, l1, l2, l3, l4] L2 (aI 0 :: St) S := ev_go i157_55 rfl
theorem i157_56 : insAt 157 56 = some (.ireturn, 1, (0, 0, 0, 0), 0) := rfl
theorem s157_56 {c : Nat → List AV → SS → Option Out} {l0 l1 l2 l3 l4 : Option AV} {x : Int32} {L2 : List (Nat × AV)} {S : SS} : ev c 157 56 [l0, l1, l2, l3, l4] L2 [aI x] S = some (.inl (some (aI x)), S) := ev_end i157_56 rfl
theorem i157_57 : insAt 157 57 = some (.aload_n 0, 1, (0, 0, 0, 0), 0) := rfl
theorem s157_57 {c : Nat → List AV → SS → Option Out} {l1 l2 l3 l4 : Option AV} {o : OId} {L2 : List (Nat × AV)} {St : List AV} {S : SS} : ev c 157 57 [some (aR o), l1, l2, l3, l4] L2 St S = ev c 157 58 [some (aR o), l1, l2, l3, l4] L2 (aR o :: St) S := ev_go i157_57 rfl
theorem i157_58 : insAt 157 58 = some (.getfield 38, 3, (11, 4, 0, 0), 13) := rfl
theorem s157_58 {c : Nat → List AV → SS → Option Out} {l0 l1 l2 l3 l4 : Option AV} {j t : Nat} {L2 : List (Nat × AV)} {St : List AV} {S : SS} : ev c 157 58 [l0, l1, l2, l3, l4] L2 (aR (11, j, t) :: St) S = ev c 157 61 [l0, l1, l2, l3, l4] L2 (S.2.2.1 (11, j, t) 4 :: St) S := ev_go i157_58 rfl
theorem i157_61 : insAt 157 61 = some (.aload_n 0, 1, (0, 0, 0, 0), 0) := rfl
theorem s157_61 {c : Nat → List AV → SS → Option Out} {l1 l2 l3 l4 : Option AV} {o : OId} {L2 : List (Nat × AV)} {St : List AV} {S : SS} : ev c 157 61 [some (aR o), l1, l2, l3, l4] L2 St S = ev c 157 62 [some (aR o), l1, l2, l3, l4] L2 (aR o :: St) S := ev_go i157_61 rfl
theorem i157_62 : insAt 157 62 = some (.getfield 10, 3, (11, 0, 0, 0), 3) := rfl
theorem s157_62 {c : Nat → List AV → SS → Option Out} {l0 l1 l2 l3 l4 : Option AV} {j t : Nat} {L2 : List (Nat × AV)} {St : List AV} {S : SS} : ev c 157 62 [l0, l1, l2, l3, l4] L2 (aR (11, j, t) :: St) S = ev c 157 65 [l0, l1, l2, l3, l4] L2 (S.2.2.1 (11, j, t) 0 :: St) S := ev_go i157_62 rfl
theorem i157_65 : insAt 157 65 = some (.iload_n 1, 1, (0, 0, 0, 0), 0) := rfl
theorem s157_65 {c : Nat → List AV → SS → Option Out} {l0 l2 l3 l4 : Option AV} {x : Int32} {L2 : List (Nat × AV)} {St : List AV} {S : SS} : ev c 157 65 [l0, some (aI x), l2, l3, l4] L2 St S = ev c 157 66 [l0, some (aI x), l2, l3, l4] L2 (aI x :: St) S := ev_go i157_65 rfl
theorem i157_66 : insAt 157 66 = some (.iload 4, 2, (0, 0, 0, 0), 0) := rfl
theorem s157_66 {c : Nat → List AV → SS → Option Out} {l0 l1 l2 l3 : Option AV} {x : Int32} {L2 : List (Nat × AV)} {St : List AV} {S : SS} : ev c 157 66 [l0, l1, l2, l3, some (aI x)] L2 St S = ev c 157 68 [l0, l1, l2, l3, some (aI x)] L2 (aI x :: St) S := ev_go i157_66 rfl
theorem i157_68 : insAt 157 68 = some (.invokevirtual 253, 3, (160, 3, 3, 8), 282) := rfl
theorem s157_68 {c : Nat → List AV → SS → Option Out} {l0 l1 l2 l3 l4 : Option AV} {a0 : OId} {a1 : Int32} {a2 : Int32} {j t : Nat} {L2 : List (Nat × AV)} {S : SS} : ev c 157 68 [l0, l1, l2, l3, l4] L2 [aI a2, aI a1, aR a0, aR (8, j, t)] S = ck (c 160 [aR (8, j, t), aR a0, aI a1, aI a2] S) (fun v S' => ev c 157 71 [l0, l1, l2, l3, l4] L2 (v.toList ++ []) S') := ev_call i157_68 rfl
theorem i157_71 : insAt 157 71 = some (.aload_n 0, 1, (0, 0, 0, 0), 0) := rfl
theorem s157_71 {c : Nat → List AV → SS → Option Out} {l1 l2 l3 l4 : Option AV} {o : OId} {L2 : List (Nat × AV)} {St : List AV} {S : SS} : ev c 157 71 [some (aR o), l1, l2, l3, l4] L2 St S = ev c 157 72 [some (aR o), l1, l2, l3, l4] L2 (aR o :: St) S := ev_go i157_71 rfl
theorem i157_72 : insAt 157 72 = some (.invokevirtual 95, 3, (67, 0, 2, 11), 166) := rfl
theorem s157_72 {c : Nat → List AV → SS → Option Out} {l0 l1 l2 l3 l4 : Option AV} {j t : Nat} {L2 : List (Nat × AV)} {S : SS} : ev c 157 72 [l0, l1, l2, l3, l4] L2 [aR (11, j, t)] S = ck (c 67 [aR (11, j, t)] S) (fun v S' => ev c 157 75 [l0, l1, l2, l3, l4] L2 (v.toList ++ []) S') := ev_call i157_72 rfl
theorem i157_75 : insAt 157 75 = some (.aload_n 0, 1, (0, 0, 0, 0), 0) := rfl
theorem s157_75 {c : Nat → List AV → SS → Option Out} {l1 l2 l3 l4 : Option AV} {o : OId} {L2 : List (Nat × AV)} {St : List AV} {S : SS} : ev c 157 75 [some (aR o), l1, l2, l3, l4] L2 St S = ev c 157 76 [some (aR o), l1, l2, l3, l4] L2 (aR o :: St) S := ev_go i157_75 rfl
theorem i157_76 : insAt 157 76 = some (.getfield 19, 3, (11, 1, 0, 0), 6) := rfl
theorem s157_76 {c : Nat → List AV → SS → Option Out} {l0 l1 l2 l3 l4 : Option AV} {j t : Nat} {L2 : List (Nat × AV)} {St : List AV} {S : SS} : ev c 157 76 [l0, l1, l2, l3, l4] L2 (aR (11, j, t) :: St) S = ev c 157 79 [l0, l1, l2, l3, l4] L2 (S.2.2.1 (11, j, t) 1 :: St) S := ev_go i157_76 rfl
theorem i157_79 : insAt 157 79 = some (.aload_n 0, 1, (0, 0, 0, 0), 0) := rfl
theorem s157_79 {c : Nat → List AV → SS → Option Out} {l1 l2 l3 l4 : Option AV} {o : OId} {L2 : List (Nat × AV)} {St : List AV} {S : SS} : ev c 157 79 [some (aR o), l1, l2, l3, l4] L2 St S = ev c 157 80 [some (aR o), l1, l2, l3, l4] L2 (aR o :: St) S := ev_go i157_79 rfl
theorem i157_80 : insAt 157 80 = some (.getfield 10, 3, (11, 0, 0, 0), 3) := rfl
theorem s157_80 {c : Nat → List AV → SS → Option Out} {l0 l1 l2 l3 l4 : Option AV} {j t : Nat} {L2 : List (Nat × AV)} {St : List AV} {S : SS} : ev c 157 80 [l0, l1, l2, l3, l4] L2 (aR (11, j, t) :: St) S = ev c 157 83 [l0, l1, l2, l3, l4] L2 (S.2.2.1 (11, j, t) 0 :: St) S := ev_go i157_80 rfl
theorem i157_83 : insAt 157 83 = some (.invokevirtual 71, 3, (59, 1, 3, 5), 157) := rfl
theorem s157_83 {c : Nat → List AV → SS → Option Out} {l0 l1 l2 l3 l4 : Option AV} {a0 : OId} {j t : Nat} {L2 : List (Nat × AV)} {S : SS} : ev c 157 83 [l0, l1, l2, l3, l4] L2 [aR a0, aR (5, j, t)] S = ck (c 59 [aR (5, j, t), aR a0] S) (fun v S' => ev c 157 86 [l0, l1, l2, l3, l4] L2 (v.toList ++ []) S') := ev_call i157_83 rfl
theorem i157_86 : insAt 157 86 = some (.aload_n 0, 1, (0, 0, 0, 0), 0) := rfl
theorem s157_86 {c : Nat → List AV → SS → Option Out} {l1 l2 l3 l4 : Option AV} {o : OId} {L2 : List (Nat × AV)} {St : List AV} {S : SS} : ev c 157 86 [some (aR o), l1, l2, l3, l4] L2 St S = ev c 157 87 [some (aR o), l1, l2, l3, l4] L2 (aR o :: St) S := ev_go i157_86 rfl
theorem i157_87 : insAt 157 87 = some (.getfield 10, 3, (11, 0, 0, 0), 3) := rfl
theorem s157_87 {c : Nat → List AV → SS → Option Out} {l0 l1 l2 l3 l4 : Option AV} {j t : Nat} {L2 : List (Nat × AV)} {St : List AV} {S : SS} : ev c 157 87 [l0, l1, l2, l3, l4] L2 (aR (11, j, t) :: St) S = ev c 157 90 [l0, l1, l2, l3, l4] L2 (S.2.2.1 (11, j, t) 0 :: St) S := ev_go i157_87 rfl
theorem i157_90 : insAt 157 90 = some (.iload_n 3, 1, (0, 0, 0, 0), 0) := rfl
theorem s157_90 {c : Nat → List AV → SS → Option Out} {l0 l1 l2 l4 : Option AV} {x : Int32} {L2 : List (Nat × AV)} {St : List AV} {S : SS} : ev c 157 90 [l0, l1, l2, some (aI x), l4] L2 St S = ev c 157 91 [l0, l1, l2, some (aI x), l4] L2 (aI x :: St) S := ev_go i157_90 rfl
theorem i157_91 : insAt 157 91 = some (.iload 4, 2, (0, 0, 0, 0), 0) := rfl
theorem s157_91 {c : Nat → List AV → SS → Option Out} {l0 l1 l2 l3 : Option AV} {x : Int32} {L2 : List (Nat × AV)} {St : List AV} {S : SS} : ev c 157 91 [l0, l1, l2, l3, some (aI x)] L2 St S = ev c 157 93 [l0, l1, l2, l3, some (aI x)] L2 (aI x :: St) S := ev_go i157_91 rfl
theorem i157_93 : insAt 157 93 = some (.invokevirtual 250, 3, (159, 2, 3, 4), 281) := rfl
theorem s157_93 {c : Nat → List AV → SS → Option Out} {l0 l1 l2 l3 l4 : Option AV} {a0 : Int32} {a1 : Int32} {j t : Nat} {L2 : List (Nat × AV)} {S : SS} : ev c 157 93 [l0, l1, l2, l3, l4] L2 [aI a1, aI a0, aR (4, j, t)] S = ck (c 159 [aR (4, j, t), aI a0, aI a1] S) (fun v S' => ev c 157 96 [l0, l1, l2, l3, l4] L2 (v.toList ++ []) S') := ev_call i157_93 rfl
theorem i157_96 : insAt 157 96 = some (.aload_n 0, 1, (0, 0, 0, 0), 0) := rfl
theorem s157_96 {c : Nat → List AV → SS → Option Out} {l1 l2 l3 l4 : Option AV} {o : OId} {L2 : List (Nat × AV)} {St : List AV} {S : SS} : ev c 157 96 [some (aR o), l1, l2, l3, l4] L2 St S = ev c 157 97 [some (aR o), l1, l2, l3, l4] L2 (aR o :: St) S := ev_go i157_96 rfl
theorem i157_97 : insAt 157 97 = some (.getfield 10, 3, (11, 0, 0, 0), 3) := rfl
theorem s157_97 {c : Nat → List AV → SS → Option Out} {l0 l1 l2 l3 l4 : Option AV} {j t : Nat} {L2 : List (Nat × AV)} {St : List AV} {S : SS} : ev c 157 97 [l0, l1, l2, l3, l4] L2 (aR (11, j, t) :: St) S = ev c 157 100 [l0, l1, l2, l3, l4] L2 (S.2.2.1 (11, j, t) 0 :: St) S := ev_go i157_97 rfl
theorem i157_100 : insAt 157 100 = some (.aload_n 0, 1, (0, 0, 0, 0), 0) := rfl
theorem s157_100 {c : Nat → List AV → SS → Option Out} {l1 l2 l3 l4 : Option AV} {o : OId} {L2 : List (Nat × AV)} {St : List AV} {S : SS} : ev c 157 100 [some (aR o), l1, l2, l3, l4] L2 St S = ev c 157 101 [some (aR o), l1, l2, l3, l4] L2 (aR o :: St) S := ev_go i157_100 rfl
theorem i157_101 : insAt 157 101 = some (.getfield 38, 3, (11, 4, 0, 0), 13) := rfl
theorem s157_101 {c : Nat → List AV → SS → Option Out} {l0 l1 l2 l3 l4 : Option AV} {j t : Nat} {L2 : List (Nat × AV)} {St : List AV} {S : SS} : ev c 157 101 [l0, l1, l2, l3, l4] L2 (aR (11, j, t) :: St) S = ev c 157 104 [l0, l1, l2, l3, l4] L2 (S.2.2.1 (11, j, t) 4 :: St) S := ev_go i157_101 rfl
theorem i157_104 : insAt 157 104 = some (.getfield 105, 3, (8, 1, 1, 0), 168) := rfl
theorem s157_104 {c : Nat → List AV → SS → Option Out} {l0 l1 l2 l3 l4 : Option AV} {j t : Nat} {L2 : List (Nat × AV)} {St : List AV} {S : SS} : ev c 157 104 [l0, l1, l2, l3, l4] L2 (aR (8, j, t) :: St) S = ev c 157 107 [l0, l1, l2, l3, l4] L2 (S.2.2.1 (8, j, t) 1 :: St) S := ev_go i157_104 rfl
theorem i157_107 : insAt 157 107 = some (.iload 4, 2, (0, 0, 0, 0), 0) := rfl
theorem s157_107 {c : Nat → List AV → SS → Option Out} {l0 l1 l2 l3 : Option AV} {x : Int32} {L2 : List (Nat × AV)} {St : List AV} {S : SS} : ev c 157 107 [l0, l1, l2, l3, some (aI x)] L2 St S = ev c 157 109 [l0, l1, l2, l3, some (aI x)] L2 (aI x :: St) S := ev_go i157_107 rfl
theorem i157_109 : insAt 157 109 = some (.invokevirtual 109, 3, (79, 2, 3, 4), 169) := rfl
theorem s157_109 {c : Nat → List AV → SS → Option Out} {l0 l1 l2 l3 l4 : Option AV} {a0 : OId} {a1 : Int32} {j t : Nat} {L2 : List (Nat × AV)} {S : SS} : ev c 157 109 [l0, l1, l2, l3, l4] L2 [aI a1, aR a0, aR (4, j, t)] S = ck (c 79 [aR (4, j, t), aR a0, aI a1] S) (fun v S' => ev c 157 112 [l0, l1, l2, l3, l4] L2 (v.toList ++ []) S') := ev_call i157_109 rfl
theorem i157_112 : insAt 157 112 = some (.aload_n 0, 1, (0, 0, 0, 0), 0) := rfl
theorem s157_112 {c : Nat → List AV → SS → Option Out} {l1 l2 l3 l4 : Option AV} {o : OId} {L2 : List (Nat × AV)} {St : List AV} {S : SS} : ev c 157 112 [some (aR o), l1, l2, l3, l4] L2 St S = ev c 157 113 [some (aR o), l1, l2, l3, l4] L2 (aR o :: St) S := ev_go i157_112 rfl
theorem i157_113 : insAt 157 113 = some (.getfield 38, 3, (11, 4, 0, 0), 13) := rfl
theorem s157_113 {c : Nat → List AV → SS → Option Out} {l0 l1 l2 l3 l4 : Option AV} {j t : Nat} {L2 : List (Nat × AV)} {St : List AV} {S : SS} : ev c 157 113 [l0, l1, l2, l3, l4] L2 (aR (11, j, t) :: St) S = ev c 157 116 [l0, l1, l2, l3, l4] L2 (S.2.2.1 (11, j, t) 4 :: St) S := ev_go i157_113 rfl
theorem i157_116 : insAt 157 116 = some (.getfield 105, 3, (8, 1, 1, 0), 168) := rfl
theorem s157_116 {c : Nat → List AV → SS → Option Out} {l0 l1 l2 l3 l4 : Option AV} {j t : Nat} {L2 : List (Nat × AV)} {St : List AV} {S : SS} : ev c 157 116 [l0, l1, l2, l3, l4] L2 (aR (8, j, t) :: St) S = ev c 157 119 [l0, l1, l2, l3, l4] L2 (S.2.2.1 (8, j, t) 1 :: St) S := ev_go i157_116 rfl
theorem i157_119 : insAt 157 119 = some (.getfield 233, 3, (7, 0, 1, 0), 264) := rfl
theorem s157_119 {c : Nat → List AV → SS → Option Out} {l0 l1 l2 l3 l4 : Option AV} {j t : Nat} {L2 : List (Nat × AV)} {St : List AV} {S : SS} : ev c 157 119 [l0, l1, l2, l3, l4] L2 (aR (7, j, t) :: St) S = ev c 157 122 [l0, l1, l2, l3, l4] L2 (aI (S.1 (7, j, t) 0) :: St) S := ev_go i157_119 rfl
theorem i157_122 : insAt 157 122 = some (.iconst 1, 1, (0, 0, 0, 0), 0) := rfl
theorem s157_122 {c : Nat → List AV → SS → Option Out} {l0 l1 l2 l3 l4 : Option AV} {L2 : List (Nat × AV)} {St : List AV} {S : SS} : ev c 157 122 [l0, l1, l2, l3, l4] L2 St S = ev c 157 123 [l0, l1, l2, l3, l4] L2 (aI 1 :: St) S := ev_go i157_122 rfl
theorem i157_123 : insAt 157 123 = some (.iadd, 1, (0, 0, 0, 0), 0) := rfl
theorem s157_123 {c : Nat → List AV → SS → Option Out} {l0 l1 l2 l3 l4 : Option AV} {x y : Int32} {L2 : List (Nat × AV)} {St : List AV} {S : SS} : ev c 157 123 [l0, l1, l2, l3, l4] L2 (aI y :: aI x :: St) S = ev c 157 124 [l0, l1, l2, l3, l4] L2 (aI (x + y) :: St) S := ev_go i157_123 rfl
theorem i157_124 : insAt 157 124 = some (.ireturn, 1, (0, 0, 0, 0), 0) := rfl
theorem s157_124 {c : Nat → List AV → SS → Option Out} {l0 l1 l2 l3 l4 : Option AV} {x : Int32} {L2 : List (Nat × AV)} {S : SS} : ev c 157 124 [l0, l1, l2, l3, l4] L2 [aI x] S = some (.inl (some (aI x)), S) := ev_end i157_124 rfl
theorem m157 {d : Nat} {o : OId} {a0 : Int32} {a1 : Int32} {S : SS} : evm (d + 1) 157 [aR o, aI a0, aI a1] S = ev (evm d) 157 0 [some (aR o), some (aI a0), some (aI a1), none, none] [] [] S := evm_s (n := 5) rfl (Nat.le_of_ble_eq_true rfl) rfl rfl
/-! FrequencyOffice.checkComplaint(II)V -/
theorem i158_0 : insAt 158 0 = some (.aload_n 0, 1, (0, 0, 0, 0), 0) := rfl
theorem s158_0 {c : Nat → List AV → SS → Option Out} {l1 l2 : Option AV} {o : OId} {L2 : List (Nat × AV)} {St : List AV} {S : SS} : ev c 158 0 [some (aR o), l1, l2] L2 St S = ev c 158 1 [some (aR o), l1, l2] L2 (aR o :: St) S := ev_go i158_0 rfl
theorem i158_1 : insAt 158 1 = some (.getfield 10, 3, (11, 0, 0, 0), 3) := rfl
theorem s158_1 {c : Nat → List AV → SS → Option Out} {l0 l1 l2 : Option AV} {j t : Nat} {L2 : List (Nat × AV)} {St : List AV} {S : SS} : ev c 158 1 [l0, l1, l2] L2 (aR (11, j, t) :: St) S = ev c 158 4 [l0, l1, l2] L2 (S.2.2.1 (11, j, t) 0 :: St) S := ev_go i158_1 rfl
theorem i158_4 : insAt 158 4 = some (.iload_n 1, 1, (0, 0, 0, 0), 0) := rfl
theorem s158_4 {c : Nat → List AV → SS → Option Out} {l0 l2 : Option AV} {x : Int32} {L2 : List (Nat × AV)} {St : List AV} {S : SS} : ev c 158 4 [l0, some (aI x), l2] L2 St S = ev c 158 5 [l0, some (aI x), l2] L2 (aI x :: St) S := ev_go i158_4 rfl
theorem i158_5 : insAt 158 5 = some (.invokevirtual 125, 3, (17, 1, 3, 4), 87) := rfl
theorem s158_5 {c : Nat → List AV → SS → Option Out} {l0 l1 l2 : Option AV} {a0 : Int32} {j t : Nat} {L2 : List (Nat × AV)} {S : SS} : ev c 158 5 [l0, l1, l2] L2 [aI a0, aR (4, j, t)] S = ck (c 17 [aR (4, j, t), aI a0] S) (fun v S' => ev c 158 8 [l0, l1, l2] L2 (v.toList ++ []) S') := ev_call i158_5 rfl
theorem i158_8 : insAt 158 8 = some (.invokestatic 146, 3, (93, 1, 0, 0), 223) := rfl
theorem s158_8 {c : Nat → List AV → SS → Option Out} {l0 l1 l2 : Option AV} {a0 : OId} {L2 : List (Nat × AV)} {S : SS} : ev c 158 8 [l0, l1, l2] L2 [aR a0] S = ck (c 93 [aR a0] S) (fun v S' => ev c 158 11 [l0, l1, l2] L2 (v.toList ++ []) S') := ev_call i158_8 rfl
theorem i158_11 : insAt 158 11 = some (.aload_n 0, 1, (0, 0, 0, 0), 0) := rfl
theorem s158_11 {c : Nat → List AV → SS → Option Out} {l1 l2 : Option AV} {o : OId} {L2 : List (Nat × AV)} {St : List AV} {S : SS} : ev c 158 11 [some (aR o), l1, l2] L2 St S = ev c 158 12 [some (aR o), l1, l2] L2 (aR o :: St) S := ev_go i158_11 rfl
theorem i158_12 : insAt 158 12 = some (.getfield 10, 3, (11, 0, 0, 0), 3) := rfl
theorem s158_12 {c : Nat → List AV → SS → Option Out} {l0 l1 l2 : Option AV} {j t : Nat} {L2 : List (Nat × AV)} {St : List AV} {S : SS} : ev c 158 12 [l0, l1, l2] L2 (aR (11, j, t) :: St) S = ev c 158 15 [l0, l1, l2] L2 (S.2.2.1 (11, j, t) 0 :: St) S := ev_go i158_12 rfl
theorem i158_15 : insAt 158 15 = some (.iload_n 2, 1, (0, 0, 0, 0), 0) := rfl
theorem s158_15 {c : Nat → List AV → SS → Option Out} {l0 l1 : Option AV} {x : Int32} {L2 : List (Nat × AV)} {St : List AV} {S : SS} : ev c 158 15 [l0, l1, some (aI x)] L2 St S = ev c 158 16 [l0, l1, some (aI x)] L2 (aI x :: St) S := ev_go i158_15 rfl
theorem i158_16 : insAt 158 16 = some (.invokevirtual 125, 3, (17, 1, 3, 4), 87) := rfl
theorem s158_16 {c : Nat → List AV → SS → Option Out} {l0 l1 l2 : Option AV} {a0 : Int32} {j t : Nat} {L2 : List (Nat × AV)} {S : SS} : ev c 158 16 [l0, l1, l2] L2 [aI a0, aR (4, j, t)] S = ck (c 17 [aR (4, j, t), aI a0] S) (fun v S' => ev c 158 19 [l0, l1, l2] L2 (v.toList ++ []) S') := ev_call i158_16 rfl
theorem i158_19 : insAt 158 19 = some (.invokestatic 146, 3, (93, 1, 0, 0), 223) := rfl
theorem s158_19 {c : Nat → List AV → SS → Option Out} {l0 l1 l2 : Option AV} {a0 : OId} {L2 : List (Nat × AV)} {S : SS} : ev c 158 19 [l0, l1, l2] L2 [aR a0] S = ck (c 93 [aR a0] S) (fun v S' => ev c 158 22 [l0, l1, l2] L2 (v.toList ++ []) S') := ev_call i158_19 rfl
theorem i158_22 : insAt 158 22 = some (.aload_n 0, 1, (0, 0, 0, 0), 0) := rfl
theorem s158_22 {c : Nat → List AV → SS → Option Out} {l1 l2 : Option AV} {o : OId} {L2 : List (Nat × AV)} {St : List AV} {S : SS} : ev c 158 22 [some (aR o), l1, l2] L2 St S = ev c 158 23 [some (aR o), l1, l2] L2 (aR o :: St) S := ev_go i158_22 rfl
theorem i158_23 : insAt 158 23 = some (.getfield 10, 3, (11, 0, 0, 0), 3) := rfl
theorem s158_23 {c : Nat → List AV → SS → Option Out} {l0 l1 l2 : Option AV} {j t : Nat} {L2 : List (Nat × AV)} {St : List AV} {S : SS} : ev c 158 23 [l0, l1, l2] L2 (aR (11, j, t) :: St) S = ev c 158 26 [l0, l1, l2] L2 (S.2.2.1 (11, j, t) 0 :: St) S := ev_go i158_23 rfl
theorem i158_26 : insAt 158 26 = some (.iload_n 1, 1, (0, 0, 0, 0), 0) := rfl
theorem s158_26 {c : Nat → List AV → SS → Option Out} {l0 l2 : Option AV} {x : Int32} {L2 : List (Nat × AV)} {St : List AV} {S : SS} : ev c 158 26 [l0, some (aI x), l2] L2 St S = ev c 158 27 [l0, some (aI x), l2] L2 (aI x :: St) S := ev_go i158_26 rfl
theorem i158_27 : insAt 158 27 = some (.iload_n 2, 1, (0, 0, 0, 0), 0) := rfl
theorem s158_27 {c : Nat → List AV → SS → Option Out} {l0 l1 : Option AV} {x : Int32} {L2 : List (Nat × AV)} {St : List AV} {S : SS} : ev c 158 27 [l0, l1, some (aI x)] L2 St S = ev c 158 28 [l0, l1, some (aI x)] L2 (aI x :: St) S := ev_go i158_27 rfl
theorem i158_28 : insAt 158 28 = some (.invokevirtual 195, 3, (26, 2, 3, 4), 246) := rfl
theorem s158_28 {c : Nat → List AV → SS → Option Out} {l0 l1 l2 : Option AV} {a0 : Int32} {a1 : Int32} {j t : Nat} {L2 : List (Nat × AV)} {S : SS} : ev c 158 28 [l0, l1, l2] L2 [aI a1, aI a0, aR (4, j, t)] S = ck (c 26 [aR (4, j, t), aI a0, aI a1] S) (fun v S' => ev c 158 31 [l0, l1, l2] L2 (v.toList ++ []) S') := ev_call i158_28 rfl
theorem i158_31 : insAt 158 31 = some (.ifCond .ne 14, 3, (0, 0, 0, 0), 0) := rfl
theorem s158_31 {c : Nat → List AV → SS → Option Out} {l0 l1 l2 : Option AV} {x : Int32} {L2 : List (Nat × AV)} {St : List AV} {S : SS} : ev c 158 31 [l0, l1, l2] L2 (aI x :: St) S = if x = 0 then ev c 158 34 [l0, l1, l2] L2 St S else ev c 158 45 [l0, l1, l2] L2 St S := (ev_br i158_31 rfl).trans (ite_not _ _ _)
theorem i158_34 : insAt 158 34 = some (.new 64, 3, (1, 0, 1, 0), 156) := rfl
theorem s158_34 {c : Nat → List AV → SS → Option Out} {l0 l1 l2 : Option AV} {L2 : List (Nat × AV)} {S : SS} : ev c 158 34 [l0, l1, l2] L2 [] S = some (.inr "java/lang/IllegalStateException", bump S 1 6) := ev_end i158_34 rfl
theorem i158_37 : insAt 158 37 = some (.dup, 1, (0, 0, 0, 0), 0) := rfl
theorem s158_37 {c : Nat → List AV → SS → Option Out} {l0 l1 l2 : Option AV} {x : OId} {L2 : List (Nat × AV)} {St : List AV} {S : SS} : ev c 158 37 [l0, l1, l2] L2 (aR x :: St) S = ev c 158 38 [l0, l1, l2] L2 (aR x :: aR x :: St) S := ev_go i158_37 rfl
theorem i158_45 : insAt 158 45 = some (.aload_n 0, 1, (0, 0, 0, 0), 0) := rfl
theorem s158_45 {c : Nat → List AV → SS → Option Out} {l1 l2 : Option AV} {o : OId} {L2 : List (Nat × AV)} {St : List AV} {S : SS} : ev c 158 45 [some (aR o), l1, l2] L2 St S = ev c 158 46 [some (aR o), l1, l2] L2 (aR o :: St) S := ev_go i158_45 rfl
theorem i158_46 : insAt 158 46 = some (.getfield 10, 3, (11, 0, 0, 0), 3) := rfl
theorem s158_46 {c : Nat → List AV → SS → Option Out} {l0 l1 l2 : Option AV} {j t : Nat} {L2 : List (Nat × AV)} {St : List AV} {S : SS} : ev c 158 46 [l0, l1, l2] L2 (aR (11, j, t) :: St) S = ev c 158 49 [l0, l1, l2] L2 (S.2.2.1 (11, j, t) 0 :: St) S := ev_go i158_46 rfl
theorem i158_49 : insAt 158 49 = some (.iload_n 1, 1, (0, 0, 0, 0), 0) := rfl
theorem s158_49 {c : Nat → List AV → SS → Option Out} {l0 l2 : Option AV} {x : Int32} {L2 : List (Nat × AV)} {St : List AV} {S : SS} : ev c 158 49 [l0, some (aI x), l2] L2 St S = ev c 158 50 [l0, some (aI x), l2] L2 (aI x :: St) S := ev_go i158_49 rfl
theorem i158_50 : insAt 158 50 = some (.iload_n 2, 1, (0, 0, 0, 0), 0) := rfl
theorem s158_50 {c : Nat → List AV → SS → Option Out} {l0 l1 : Option AV} {x : Int32} {L2 : List (Nat × AV)} {St : List AV} {S : SS} : ev c 158 50 [l0, l1, some (aI x)] L2 St S = ev c 158 51 [l0, l1, some (aI x)] L2 (aI x :: St) S := ev_go i158_50 rfl
theorem i158_51 : insAt 158 51 = some (.invokevirtual 198, 3, (29, 2, 3, 4), 248) := rfl
theorem s158_51 {c : Nat → List AV → SS → Option Out} {l0 l1 l2 : Option AV} {a0 : Int32} {a1 : Int32} {j t : Nat} {L2 : List (Nat × AV)} {S : SS} : ev c 158 51 [l0, l1, l2] L2 [aI a1, aI a0, aR (4, j, t)] S = ck (c 29 [aR (4, j, t), aI a0, aI a1] S) (fun v S' => ev c 158 54 [l0, l1, l2] L2 (v.toList ++ []) S') := ev_call i158_51 rfl
theorem i158_54 : insAt 158 54 = some (.iconst 2, 1, (0, 0, 0, 0), 0) := rfl
theorem s158_54 {c : Nat → List AV → SS → Option Out} {l0 l1 l2 : Option AV} {L2 : List (Nat × AV)} {St : List AV} {S : SS} : ev c 158 54 [l0, l1, l2] L2 St S = ev c 158 55 [l0, l1, l2] L2 (aI 2 :: St) S := ev_go i158_54 rfl
theorem i158_55 : insAt 158 55 = some (.if_icmp .lt 14, 3, (0, 0, 0, 0), 0) := rfl
theorem s158_55 {c : Nat → List AV → SS → Option Out} {l0 l1 l2 : Option AV} {x y : Int32} {L2 : List (Nat × AV)} {St : List AV} {S : SS} : ev c 158 55 [l0, l1, l2] L2 (aI y :: aI x :: St) S = if x < y then ev c 158 69 [l0, l1, l2] L2 St S else ev c 158 58 [l0, l1, l2] L2 St S := ev_br i158_55 rfl
theorem i158_58 : insAt 158 58 = some (.new 64, 3, (1, 0, 1, 0), 156) := rfl
theorem s158_58 {c : Nat → List AV → SS → Option Out} {l0 l1 l2 : Option AV} {L2 : List (Nat × AV)} {S : SS} : ev c 158 58 [l0, l1, l2] L2 [] S = some (.inr "java/lang/IllegalStateException", bump S 1 6) := ev_end i158_58 rfl
theorem i158_61 : insAt 158 61 = some (.dup, 1, (0, 0, 0, 0), 0) := rfl
theorem s158_61 {c : Nat → List AV → SS → Option Out} {l0 l1 l2 : Option AV} {x : OId} {L2 : List (Nat × AV)} {St : List AV} {S : SS} : ev c 158 61 [l0, l1, l2] L2 (aR x :: St) S = ev c 158 62 [l0, l1, l2] L2 (aR x :: aR x :: St) S := ev_go i158_61 rfl
theorem i158_69 : insAt 158 69 = some (.return_, 1, (0, 0, 0, 0), 0) := rfl
theorem s158_69 {c : Nat → List AV → SS → Option Out} {l0 l1 l2 : Option AV} {L2 : List (Nat × AV)} {S : SS} : ev c 158 69 [l0, l1, l2] L2 [] S = some (.inl none, S) := ev_end i158_69 rfl
theorem m158 {d : Nat} {o : OId} {a0 : Int32} {a1 : Int32} {S : SS} : evm (d + 1) 158 [aR o, aI a0, aI a1] S = ev (evm d) 158 0 [some (aR o), some (aI a0), some (aI a1)] [] [] S := evm_s (n := 3) rfl (Nat.le_of_ble_eq_true rfl) rfl rfl
/-! FrequencyOffice.moveCount()I -/
theorem i162_0 : insAt 162 0 = some (.aload_n 0, 1, (0, 0, 0, 0), 0) := rfl
theorem s162_0 {c : Nat → List AV → SS → Option Out} {o : OId} {L2 : List (Nat × AV)} {St : List AV} {S : SS} : ev c 162 0 [some (aR o)] L2 St S = ev c 162 1 [some (aR o)] L2 (aR o :: St) S := ev_go i162_0 rfl
theorem i162_1 : insAt 162 1 = some (.getfield 10, 3, (11, 0, 0, 0), 3) := rfl
theorem s162_1 {c : Nat → List AV → SS → Option Out} {l0 : Option AV} {j t : Nat} {L2 : List (Nat × AV)} {St : List AV} {S : SS} : ev c 162 1 [l0] L2 (aR (11, j, t) :: St) S = ev c 162 4 [l0] L2 (S.2.2.1 (11, j, t) 0 :: St) S := ev_go i162_1 rfl
theorem i162_4 : insAt 162 4 = some (.getfield 256, 3, (4, 11, 1, 0), 284) := rfl
theorem s162_4 {c : Nat → List AV → SS → Option Out} {l0 : Option AV} {j t : Nat} {L2 : List (Nat × AV)} {St : List AV} {S : SS} : ev c 162 4 [l0] L2 (aR (4, j, t) :: St) S = ev c 162 7 [l0] L2 (S.2.2.1 (4, j, t) 11 :: St) S := ev_go i162_4 rfl
theorem i162_7 : insAt 162 7 = some (.getfield 233, 3, (7, 0, 1, 0), 264) := rfl
theorem s162_7 {c : Nat → List AV → SS → Option Out} {l0 : Option AV} {j t : Nat} {L2 : List (Nat × AV)} {St : List AV} {S : SS} : ev c 162 7 [l0] L2 (aR (7, j, t) :: St) S = ev c 162 10 [l0] L2 (aI (S.1 (7, j, t) 0) :: St) S := ev_go i162_7 rfl
theorem i162_10 : insAt 162 10 = some (.iconst (-1), 1, (0, 0, 0, 0), 0) := rfl
theorem s162_10 {c : Nat → List AV → SS → Option Out} {l0 : Option AV} {L2 : List (Nat × AV)} {St : List AV} {S : SS} : ev c 162 10 [l0] L2 St S = ev c 162 11 [l0] L2 (aI (-1) :: St) S := ev_go i162_10 rfl
theorem i162_11 : insAt 162 11 = some (.if_icmp .ne 14, 3, (0, 0, 0, 0), 0) := rfl
theorem s162_11 {c : Nat → List AV → SS → Option Out} {l0 : Option AV} {x y : Int32} {L2 : List (Nat × AV)} {St : List AV} {S : SS} : ev c 162 11 [l0] L2 (aI y :: aI x :: St) S = if x = y then ev c 162 14 [l0] L2 St S else ev c 162 25 [l0] L2 St S := (ev_br i162_11 rfl).trans (ite_not _ _ _)
theorem i162_14 : insAt 162 14 = some (.new 259, 3, (3, 0, 1, 0), 221) := rfl
theorem s162_14 {c : Nat → List AV → SS → Option Out} {l0 : Option AV} {L2 : List (Nat × AV)} {S : SS} : ev c 162 14 [l0] L2 [] S = some (.inr "java/util/NoSuchElementException", bump S 1 6) := ev_end i162_14 rfl
theorem i162_17 : insAt 162 17 = some (.dup, 1, (0, 0, 0, 0), 0) := rfl
theorem s162_17 {c : Nat → List AV → SS → Option Out} {l0 : Option AV} {x : OId} {L2 : List (Nat × AV)} {St : List AV} {S : SS} : ev c 162 17 [l0] L2 (aR x :: St) S = ev c 162 18 [l0] L2 (aR x :: aR x :: St) S := ev_go i162_17 rfl
theorem i162_25 : insAt 162 25 = some (.aload_n 0, 1, (0, 0, 0, 0), 0) := rfl
theorem s162_25 {c : Nat → List AV → SS → Option Out} {o : OId} {L2 : List (Nat × AV)} {St : List AV} {S : SS} : ev c 162 25 [some (aR o)] L2 St S = ev c 162 26 [some (aR o)] L2 (aR o :: St) S := ev_go i162_25 rfl
theorem i162_26 : insAt 162 26 = some (.getfield 10, 3, (11, 0, 0, 0), 3) := rfl
theorem s162_26 {c : Nat → List AV → SS → Option Out} {l0 : Option AV} {j t : Nat} {L2 : List (Nat × AV)} {St : List AV} {S : SS} : ev c 162 26 [l0] L2 (aR (11, j, t) :: St) S = ev c 162 29 [l0] L2 (S.2.2.1 (11, j, t) 0 :: St) S := ev_go i162_26 rfl
theorem i162_29 : insAt 162 29 = some (.getfield 256, 3, (4, 11, 1, 0), 284) := rfl
theorem s162_29 {c : Nat → List AV → SS → Option Out} {l0 : Option AV} {j t : Nat} {L2 : List (Nat × AV)} {St : List AV} {S : SS} : ev c 162 29 [l0] L2 (aR (4, j, t) :: St) S = ev c 162 32 [l0] L2 (S.2.2.1 (4, j, t) 11 :: St) S := ev_go i162_29 rfl
theorem i162_32 : insAt 162 32 = some (.getfield 233, 3, (7, 0, 1, 0), 264) := rfl
theorem s162_32 {c : Nat → List AV → SS → Option Out} {l0 : Option AV} {j t : Nat} {L2 : List (Nat × AV)} {St : List AV} {S : SS} : ev c 162 32 [l0] L2 (aR (7, j, t) :: St) S = ev c 162 35 [l0] L2 (aI (S.1 (7, j, t) 0) :: St) S := ev_go i162_32 rfl
theorem i162_35 : insAt 162 35 = some (.ireturn, 1, (0, 0, 0, 0), 0) := rfl
theorem s162_35 {c : Nat → List AV → SS → Option Out} {l0 : Option AV} {x : Int32} {L2 : List (Nat × AV)} {S : SS} : ev c 162 35 [l0] L2 [aI x] S = some (.inl (some (aI x)), S) := ev_end i162_35 rfl
theorem m162 {d : Nat} {o : OId} {S : SS} : evm (d + 1) 162 [aR o] S = ev (evm d) 162 0 [some (aR o)] [] [] S := evm_s (n := 1) rfl (Nat.le_of_ble_eq_true rfl) rfl rfl
/-! FrequencyOffice.movedStation(I)I -/
theorem i164_0 : insAt 164 0 = some (.aload_n 0, 1, (0, 0, 0, 0), 0) := rfl
theorem s164_0 {c : Nat → List AV → SS → Option Out} {l1 : Option AV} {o : OId} {L2 : List (Nat × AV)} {St : List AV} {S : SS} : ev c 164 0 [some (aR o), l1] L2 St S = ev c 164 1 [some (aR o), l1] L2 (aR o :: St) S := ev_go i164_0 rfl
theorem i164_1 : insAt 164 1 = some (.iload_n 1, 1, (0, 0, 0, 0), 0) := rfl
theorem s164_1 {c : Nat → List AV → SS → Option Out} {l0 : Option AV} {x : Int32} {L2 : List (Nat × AV)} {St : List AV} {S : SS} : ev c 164 1 [l0, some (aI x)] L2 St S = ev c 164 2 [l0, some (aI x)] L2 (aI x :: St) S := ev_go i164_1 rfl
theorem i164_2 : insAt 164 2 = some (.invokevirtual 264, 3, (165, 1, 2, 11), 286) := rfl
theorem s164_2 {c : Nat → List AV → SS → Option Out} {l0 l1 : Option AV} {a0 : Int32} {j t : Nat} {L2 : List (Nat × AV)} {S : SS} : ev c 164 2 [l0, l1] L2 [aI a0, aR (11, j, t)] S = ck (c 165 [aR (11, j, t), aI a0] S) (fun v S' => ev c 164 5 [l0, l1] L2 (v.toList ++ []) S') := ev_call i164_2 rfl
theorem i164_5 : insAt 164 5 = some (.aload_n 0, 1, (0, 0, 0, 0), 0) := rfl
theorem s164_5 {c : Nat → List AV → SS → Option Out} {l1 : Option AV} {o : OId} {L2 : List (Nat × AV)} {St : List AV} {S : SS} : ev c 164 5 [some (aR o), l1] L2 St S = ev c 164 6 [some (aR o), l1] L2 (aR o :: St) S := ev_go i164_5 rfl
theorem i164_6 : insAt 164 6 = some (.getfield 10, 3, (11, 0, 0, 0), 3) := rfl
theorem s164_6 {c : Nat → List AV → SS → Option Out} {l0 l1 : Option AV} {j t : Nat} {L2 : List (Nat × AV)} {St : List AV} {S : SS} : ev c 164 6 [l0, l1] L2 (aR (11, j, t) :: St) S = ev c 164 9 [l0, l1] L2 (S.2.2.1 (11, j, t) 0 :: St) S := ev_go i164_6 rfl
theorem i164_9 : insAt 164 9 = some (.getfield 256, 3, (4, 11, 1, 0), 284) := rfl
theorem s164_9 {c : Nat → List AV → SS → Option Out} {l0 l1 : Option AV} {j t : Nat} {L2 : List (Nat × AV)} {St : List AV} {S : SS} : ev c 164 9 [l0, l1] L2 (aR (4, j, t) :: St) S = ev c 164 12 [l0, l1] L2 (S.2.2.1 (4, j, t) 11 :: St) S := ev_go i164_9 rfl
theorem i164_12 : insAt 164 12 = some (.getfield 267, 3, (7, 2, 1, 0), 287) := rfl
theorem s164_12 {c : Nat → List AV → SS → Option Out} {l0 l1 : Option AV} {j t : Nat} {L2 : List (Nat × AV)} {St : List AV} {S : SS} : ev c 164 12 [l0, l1] L2 (aR (7, j, t) :: St) S = ev c 164 15 [l0, l1] L2 (S.2.2.1 (7, j, t) 2 :: St) S := ev_go i164_12 rfl
theorem i164_15 : insAt 164 15 = some (.iload_n 1, 1, (0, 0, 0, 0), 0) := rfl
theorem s164_15 {c : Nat → List AV → SS → Option Out} {l0 : Option AV} {x : Int32} {L2 : List (Nat × AV)} {St : List AV} {S : SS} : ev c 164 15 [l0, some (aI x)] L2 St S = ev c 164 16 [l0, some (aI x)] L2 (aI x :: St) S := ev_go i164_15 rfl
theorem i164_16 : insAt 164 16 = some (.invokestatic 271, 3, (31, 2, 0, 0), 288) := rfl
theorem s164_16 {c : Nat → List AV → SS → Option Out} {l0 l1 : Option AV} {a0 : OId} {a1 : Int32} {L2 : List (Nat × AV)} {S : SS} : ev c 164 16 [l0, l1] L2 [aI a1, aR a0] S = ck (c 31 [aR a0, aI a1] S) (fun v S' => ev c 164 19 [l0, l1] L2 (v.toList ++ []) S') := ev_call i164_16 rfl
theorem i164_19 : insAt 164 19 = some (.ireturn, 1, (0, 0, 0, 0), 0) := rfl
theorem s164_19 {c : Nat → List AV → SS → Option Out} {l0 l1 : Option AV} {x : Int32} {L2 : List (Nat × AV)} {S : SS} : ev c 164 19 [l0, l1] L2 [aI x] S = some (.inl (some (aI x)), S) := ev_end i164_19 rfl
theorem m164 {d : Nat} {o : OId} {a0 : Int32} {S : SS} : evm (d + 1) 164 [aR o, aI a0] S = ev (evm d) 164 0 [some (aR o), some (aI a0)] [] [] S := evm_s (n := 2) rfl (Nat.le_of_ble_eq_true rfl) rfl rfl
/-! FrequencyOffice.checkMove(I)V -/
theorem i165_0 : insAt 165 0 = some (.iload_n 1, 1, (0, 0, 0, 0), 0) := rfl
theorem s165_0 {c : Nat → List AV → SS → Option Out} {l0 : Option AV} {x : Int32} {L2 : List (Nat × AV)} {St : List AV} {S : SS} : ev c 165 0 [l0, some (aI x)] L2 St S = ev c 165 1 [l0, some (aI x)] L2 (aI x :: St) S := ev_go i165_0 rfl
theorem i165_1 : insAt 165 1 = some (.ifCond .lt 17, 3, (0, 0, 0, 0), 0) := rfl
theorem s165_1 {c : Nat → List AV → SS → Option Out} {l0 l1 : Option AV} {x : Int32} {L2 : List (Nat × AV)} {St : List AV} {S : SS} : ev c 165 1 [l0, l1] L2 (aI x :: St) S = if x < 0 then ev c 165 18 [l0, l1] L2 St S else ev c 165 4 [l0, l1] L2 St S := ev_br i165_1 rfl
theorem i165_4 : insAt 165 4 = some (.iload_n 1, 1, (0, 0, 0, 0), 0) := rfl
theorem s165_4 {c : Nat → List AV → SS → Option Out} {l0 : Option AV} {x : Int32} {L2 : List (Nat × AV)} {St : List AV} {S : SS} : ev c 165 4 [l0, some (aI x)] L2 St S = ev c 165 5 [l0, some (aI x)] L2 (aI x :: St) S := ev_go i165_4 rfl
theorem i165_5 : insAt 165 5 = some (.aload_n 0, 1, (0, 0, 0, 0), 0) := rfl
theorem s165_5 {c : Nat → List AV → SS → Option Out} {l1 : Option AV} {o : OId} {L2 : List (Nat × AV)} {St : List AV} {S : SS} : ev c 165 5 [some (aR o), l1] L2 St S = ev c 165 6 [some (aR o), l1] L2 (aR o :: St) S := ev_go i165_5 rfl
theorem i165_6 : insAt 165 6 = some (.getfield 10, 3, (11, 0, 0, 0), 3) := rfl
theorem s165_6 {c : Nat → List AV → SS → Option Out} {l0 l1 : Option AV} {j t : Nat} {L2 : List (Nat × AV)} {St : List AV} {S : SS} : ev c 165 6 [l0, l1] L2 (aR (11, j, t) :: St) S = ev c 165 9 [l0, l1] L2 (S.2.2.1 (11, j, t) 0 :: St) S := ev_go i165_6 rfl
theorem i165_9 : insAt 165 9 = some (.getfield 256, 3, (4, 11, 1, 0), 284) := rfl
theorem s165_9 {c : Nat → List AV → SS → Option Out} {l0 l1 : Option AV} {j t : Nat} {L2 : List (Nat × AV)} {St : List AV} {S : SS} : ev c 165 9 [l0, l1] L2 (aR (4, j, t) :: St) S = ev c 165 12 [l0, l1] L2 (S.2.2.1 (4, j, t) 11 :: St) S := ev_go i165_9 rfl
theorem i165_12 : insAt 165 12 = some (.getfield 233, 3, (7, 0, 1, 0), 264) := rfl
theorem s165_12 {c : Nat → List AV → SS → Option Out} {l0 l1 : Option AV} {j t : Nat} {L2 : List (Nat × AV)} {St : List AV} {S : SS} : ev c 165 12 [l0, l1] L2 (aR (7, j, t) :: St) S = ev c 165 15 [l0, l1] L2 (aI (S.1 (7, j, t) 0) :: St) S := ev_go i165_12 rfl
theorem i165_15 : insAt 165 15 = some (.if_icmp .lt 14, 3, (0, 0, 0, 0), 0) := rfl
theorem s165_15 {c : Nat → List AV → SS → Option Out} {l0 l1 : Option AV} {x y : Int32} {L2 : List (Nat × AV)} {St : List AV} {S : SS} : ev c 165 15 [l0, l1] L2 (aI y :: aI x :: St) S = if x < y then ev c 165 29 [l0, l1] L2 St S else ev c 165 18 [l0, l1] L2 St S := ev_br i165_15 rfl
theorem i165_18 : insAt 165 18 = some (.new 259, 3, (3, 0, 1, 0), 221) := rfl
theorem s165_18 {c : Nat → List AV → SS → Option Out} {l0 l1 : Option AV} {L2 : List (Nat × AV)} {S : SS} : ev c 165 18 [l0, l1] L2 [] S = some (.inr "java/util/NoSuchElementException", bump S 1 6) := ev_end i165_18 rfl
theorem i165_21 : insAt 165 21 = some (.dup, 1, (0, 0, 0, 0), 0) := rfl
theorem s165_21 {c : Nat → List AV → SS → Option Out} {l0 l1 : Option AV} {x : OId} {L2 : List (Nat × AV)} {St : List AV} {S : SS} : ev c 165 21 [l0, l1] L2 (aR x :: St) S = ev c 165 22 [l0, l1] L2 (aR x :: aR x :: St) S := ev_go i165_21 rfl
theorem i165_29 : insAt 165 29 = some (.return_, 1, (0, 0, 0, 0), 0) := rfl
theorem s165_29 {c : Nat → List AV → SS → Option Out} {l0 l1 : Option AV} {L2 : List (Nat × AV)} {S : SS} : ev c 165 29 [l0, l1] L2 [] S = some (.inl none, S) := ev_end i165_29 rfl
theorem m165 {d : Nat} {o : OId} {a0 : Int32} {S : SS} : evm (d + 1) 165 [aR o, aI a0] S = ev (evm d) 165 0 [some (aR o), some (aI a0)] [] [] S := evm_s (n := 2) rfl (Nat.le_of_ble_eq_true rfl) rfl rfl
/-! FrequencyOffice.movedFrom(I)I -/
theorem i167_0 : insAt 167 0 = some (.aload_n 0, 1, (0, 0, 0, 0), 0) := rfl
theorem s167_0 {c : Nat → List AV → SS → Option Out} {l1 : Option AV} {o : OId} {L2 : List (Nat × AV)} {St : List AV} {S : SS} : ev c 167 0 [some (aR o), l1] L2 St S = ev c 167 1 [some (aR o), l1] L2 (aR o :: St) S := ev_go i167_0 rfl
theorem i167_1 : insAt 167 1 = some (.iload_n 1, 1, (0, 0, 0, 0), 0) := rfl
theorem s167_1 {c : Nat → List AV → SS → Option Out} {l0 : Option AV} {x : Int32} {L2 : List (Nat × AV)} {St : List AV} {S : SS} : ev c 167 1 [l0, some (aI x)] L2 St S = ev c 167 2 [l0, some (aI x)] L2 (aI x :: St) S := ev_go i167_1 rfl
theorem i167_2 : insAt 167 2 = some (.invokevirtual 264, 3, (165, 1, 2, 11), 286) := rfl
theorem s167_2 {c : Nat → List AV → SS → Option Out} {l0 l1 : Option AV} {a0 : Int32} {j t : Nat} {L2 : List (Nat × AV)} {S : SS} : ev c 167 2 [l0, l1] L2 [aI a0, aR (11, j, t)] S = ck (c 165 [aR (11, j, t), aI a0] S) (fun v S' => ev c 167 5 [l0, l1] L2 (v.toList ++ []) S') := ev_call i167_2 rfl
theorem i167_5 : insAt 167 5 = some (.aload_n 0, 1, (0, 0, 0, 0), 0) := rfl
theorem s167_5 {c : Nat → List AV → SS → Option Out} {l1 : Option AV} {o : OId} {L2 : List (Nat × AV)} {St : List AV} {S : SS} : ev c 167 5 [some (aR o), l1] L2 St S = ev c 167 6 [some (aR o), l1] L2 (aR o :: St) S := ev_go i167_5 rfl
theorem i167_6 : insAt 167 6 = some (.getfield 10, 3, (11, 0, 0, 0), 3) := rfl
theorem s167_6 {c : Nat → List AV → SS → Option Out} {l0 l1 : Option AV} {j t : Nat} {L2 : List (Nat × AV)} {St : List AV} {S : SS} : ev c 167 6 [l0, l1] L2 (aR (11, j, t) :: St) S = ev c 167 9 [l0, l1] L2 (S.2.2.1 (11, j, t) 0 :: St) S := ev_go i167_6 rfl
theorem i167_9 : insAt 167 9 = some (.getfield 256, 3, (4, 11, 1, 0), 284) := rfl
theorem s167_9 {c : Nat → List AV → SS → Option Out} {l0 l1 : Option AV} {j t : Nat} {L2 : List (Nat × AV)} {St : List AV} {S : SS} : ev c 167 9 [l0, l1] L2 (aR (4, j, t) :: St) S = ev c 167 12 [l0, l1] L2 (S.2.2.1 (4, j, t) 11 :: St) S := ev_go i167_9 rfl
theorem i167_12 : insAt 167 12 = some (.getfield 275, 3, (7, 3, 1, 0), 290) := rfl
theorem s167_12 {c : Nat → List AV → SS → Option Out} {l0 l1 : Option AV} {j t : Nat} {L2 : List (Nat × AV)} {St : List AV} {S : SS} : ev c 167 12 [l0, l1] L2 (aR (7, j, t) :: St) S = ev c 167 15 [l0, l1] L2 (S.2.2.1 (7, j, t) 3 :: St) S := ev_go i167_12 rfl
theorem i167_15 : insAt 167 15 = some (.iload_n 1, 1, (0, 0, 0, 0), 0) := rfl
theorem s167_15 {c : Nat → List AV → SS → Option Out} {l0 : Option AV} {x : Int32} {L2 : List (Nat × AV)} {St : List AV} {S : SS} : ev c 167 15 [l0, some (aI x)] L2 St S = ev c 167 16 [l0, some (aI x)] L2 (aI x :: St) S := ev_go i167_15 rfl
theorem i167_16 : insAt 167 16 = some (.invokestatic 271, 3, (31, 2, 0, 0), 288) := rfl
theorem s167_16 {c : Nat → List AV → SS → Option Out} {l0 l1 : Option AV} {a0 : OId} {a1 : Int32} {L2 : List (Nat × AV)} {S : SS} : ev c 167 16 [l0, l1] L2 [aI a1, aR a0] S = ck (c 31 [aR a0, aI a1] S) (fun v S' => ev c 167 19 [l0, l1] L2 (v.toList ++ []) S') := ev_call i167_16 rfl
theorem i167_19 : insAt 167 19 = some (.ireturn, 1, (0, 0, 0, 0), 0) := rfl
theorem s167_19 {c : Nat → List AV → SS → Option Out} {l0 l1 : Option AV} {x : Int32} {L2 : List (Nat × AV)} {S : SS} : ev c 167 19 [l0, l1] L2 [aI x] S = some (.inl (some (aI x)), S) := ev_end i167_19 rfl
theorem m167 {d : Nat} {o : OId} {a0 : Int32} {S : SS} : evm (d + 1) 167 [aR o, aI a0] S = ev (evm d) 167 0 [some (aR o), some (aI a0)] [] [] S := evm_s (n := 2) rfl (Nat.le_of_ble_eq_true rfl) rfl rfl
/-! FrequencyOffice.movedTo(I)I -/
theorem i169_0 : insAt 169 0 = some (.aload_n 0, 1, (0, 0, 0, 0), 0) := rfl
theorem s169_0 {c : Nat → List AV → SS → Option Out} {l1 : Option AV} {o : OId} {L2 : List (Nat × AV)} {St : List AV} {S : SS} : ev c 169 0 [some (aR o), l1] L2 St S = ev c 169 1 [some (aR o), l1] L2 (aR o :: St) S := ev_go i169_0 rfl
theorem i169_1 : insAt 169 1 = some (.iload_n 1, 1, (0, 0, 0, 0), 0) := rfl
theorem s169_1 {c : Nat → List AV → SS → Option Out} {l0 : Option AV} {x : Int32} {L2 : List (Nat × AV)} {St : List AV} {S : SS} : ev c 169 1 [l0, some (aI x)] L2 St S = ev c 169 2 [l0, some (aI x)] L2 (aI x :: St) S := ev_go i169_1 rfl
theorem i169_2 : insAt 169 2 = some (.invokevirtual 264, 3, (165, 1, 2, 11), 286) := rfl
theorem s169_2 {c : Nat → List AV → SS → Option Out} {l0 l1 : Option AV} {a0 : Int32} {j t : Nat} {L2 : List (Nat × AV)} {S : SS} : ev c 169 2 [l0, l1] L2 [aI a0, aR (11, j, t)] S = ck (c 165 [aR (11, j, t), aI a0] S) (fun v S' => ev c 169 5 [l0, l1] L2 (v.toList ++ []) S') := ev_call i169_2 rfl
theorem i169_5 : insAt 169 5 = some (.aload_n 0, 1, (0, 0, 0, 0), 0) := rfl
theorem s169_5 {c : Nat → List AV → SS → Option Out} {l1 : Option AV} {o : OId} {L2 : List (Nat × AV)} {St : List AV} {S : SS} : ev c 169 5 [some (aR o), l1] L2 St S = ev c 169 6 [some (aR o), l1] L2 (aR o :: St) S := ev_go i169_5 rfl
theorem i169_6 : insAt 169 6 = some (.getfield 10, 3, (11, 0, 0, 0), 3) := rfl
theorem s169_6 {c : Nat → List AV → SS → Option Out} {l0 l1 : Option AV} {j t : Nat} {L2 : List (Nat × AV)} {St : List AV} {S : SS} : ev c 169 6 [l0, l1] L2 (aR (11, j, t) :: St) S = ev c 169 9 [l0, l1] L2 (S.2.2.1 (11, j, t) 0 :: St) S := ev_go i169_6 rfl
theorem i169_9 : insAt 169 9 = some (.getfield 256, 3, (4, 11, 1, 0), 284) := rfl
theorem s169_9 {c : Nat → List AV → SS → Option Out} {l0 l1 : Option AV} {j t : Nat} {L2 : List (Nat × AV)} {St : List AV} {S : SS} : ev c 169 9 [l0, l1] L2 (aR (4, j, t) :: St) S = ev c 169 12 [l0, l1] L2 (S.2.2.1 (4, j, t) 11 :: St) S := ev_go i169_9 rfl
theorem i169_12 : insAt 169 12 = some (.getfield 278, 3, (7, 4, 1, 0), 292) := rfl
theorem s169_12 {c : Nat → List AV → SS → Option Out} {l0 l1 : Option AV} {j t : Nat} {L2 : List (Nat × AV)} {St : List AV} {S : SS} : ev c 169 12 [l0, l1] L2 (aR (7, j, t) :: St) S = ev c 169 15 [l0, l1] L2 (S.2.2.1 (7, j, t) 4 :: St) S := ev_go i169_12 rfl
theorem i169_15 : insAt 169 15 = some (.iload_n 1, 1, (0, 0, 0, 0), 0) := rfl
theorem s169_15 {c : Nat → List AV → SS → Option Out} {l0 : Option AV} {x : Int32} {L2 : List (Nat × AV)} {St : List AV} {S : SS} : ev c 169 15 [l0, some (aI x)] L2 St S = ev c 169 16 [l0, some (aI x)] L2 (aI x :: St) S := ev_go i169_15 rfl
theorem i169_16 : insAt 169 16 = some (.invokestatic 271, 3, (31, 2, 0, 0), 288) := rfl
theorem s169_16 {c : Nat → List AV → SS → Option Out} {l0 l1 : Option AV} {a0 : OId} {a1 : Int32} {L2 : List (Nat × AV)} {S : SS} : ev c 169 16 [l0, l1] L2 [aI a1, aR a0] S = ck (c 31 [aR a0, aI a1] S) (fun v S' => ev c 169 19 [l0, l1] L2 (v.toList ++ []) S') := ev_call i169_16 rfl
theorem i169_19 : insAt 169 19 = some (.ireturn, 1, (0, 0, 0, 0), 0) := rfl
theorem s169_19 {c : Nat → List AV → SS → Option Out} {l0 l1 : Option AV} {x : Int32} {L2 : List (Nat × AV)} {S : SS} : ev c 169 19 [l0, l1] L2 [aI x] S = some (.inl (some (aI x)), S) := ev_end i169_19 rfl
theorem m169 {d : Nat} {o : OId} {a0 : Int32} {S : SS} : evm (d + 1) 169 [aR o, aI a0] S = ev (evm d) 169 0 [some (aR o), some (aI a0)] [] [] S := evm_s (n := 2) rfl (Nat.le_of_ble_eq_true rfl) rfl rfl
/-! FrequencyOffice.writeStation(I)I -/
theorem i171_0 : insAt 171 0 = some (.aload_n 0, 1, (0, 0, 0, 0), 0) := rfl
theorem s171_0 {c : Nat → List AV → SS → Option Out} {l1 l2 : Option AV} {o : OId} {L2 : List (Nat × AV)} {St : List AV} {S : SS} : ev c 171 0 [some (aR o), l1, l2] L2 St S = ev c 171 1 [some (aR o), l1, l2] L2 (aR o :: St) S := ev_go i171_0 rfl
theorem i171_1 : insAt 171 1 = some (.getfield 10, 3, (11, 0, 0, 0), 3) := rfl
theorem s171_1 {c : Nat → List AV → SS → Option Out} {l0 l1 l2 : Option AV} {j t : Nat} {L2 : List (Nat × AV)} {St : List AV} {S : SS} : ev c 171 1 [l0, l1, l2] L2 (aR (11, j, t) :: St) S = ev c 171 4 [l0, l1, l2] L2 (S.2.2.1 (11, j, t) 0 :: St) S := ev_go i171_1 rfl
theorem i171_4 : insAt 171 4 = some (.aload_n 0, 1, (0, 0, 0, 0), 0) := rfl
theorem s171_4 {c : Nat → List AV → SS → Option Out} {l1 l2 : Option AV} {o : OId} {L2 : List (Nat × AV)} {St : List AV} {S : SS} : ev c 171 4 [some (aR o), l1, l2] L2 St S = ev c 171 5 [some (aR o), l1, l2] L2 (aR o :: St) S := ev_go i171_4 rfl
theorem i171_5 : insAt 171 5 = some (.iload_n 1, 1, (0, 0, 0, 0), 0) := rfl
theorem s171_5 {c : Nat → List AV → SS → Option Out} {l0 l2 : Option AV} {x : Int32} {L2 : List (Nat × AV)} {St : List AV} {S : SS} : ev c 171 5 [l0, some (aI x), l2] L2 St S = ev c 171 6 [l0, some (aI x), l2] L2 (aI x :: St) S := ev_go i171_5 rfl
theorem i171_6 : insAt 171 6 = some (.invokevirtual 134, 3, (90, 1, 2, 11), 220) := rfl
theorem s171_6 {c : Nat → List AV → SS → Option Out} {l0 l1 l2 : Option AV} {t0 : AV} {a0 : Int32} {j t : Nat} {L2 : List (Nat × AV)} {S : SS} : ev c 171 6 [l0, l1, l2] L2 [aI a0, aR (11, j, t), t0] S = ck (c 90 [aR (11, j, t), aI a0] S) (fun v S' => ev c 171 9 [l0, l1, l2] L2 (v.toList ++ [t0]) S') := ev_call i171_6 rfl
theorem i171_9 : insAt 171 9 = some (.invokevirtual 125, 3, (17, 1, 3, 4), 87) := rfl
theorem s171_9 {c : Nat → List AV → SS → Option Out} {l0 l1 l2 : Option AV} {a0 : Int32} {j t : Nat} {L2 : List (Nat × AV)} {S : SS} : ev c 171 9 [l0, l1, l2] L2 [aI a0, aR (4, j, t)] S = ck (c 17 [aR (4, j, t), aI a0] S) (fun v S' => ev c 171 12 [l0, l1, l2] L2 (v.toList ++ []) S') := ev_call i171_9 rfl
theorem i171_12 : insAt 171 12 = some (.astore_n 2, 1, (0, 0, 0, 0), 0) := rfl
theorem s171_12 {c : Nat → List AV → SS → Option Out} {l0 l1 l2 : Option AV} {o : OId} {L2 : List (Nat × AV)} {St : List AV} {S : SS} : ev c 171 12 [l0, l1, l2] L2 (aR o :: St) S = ev c 171 13 [l0, l1, some (aR o)] (kil L2 2) St S := ev_go i171_12 rfl
theorem i171_13 : insAt 171 13 = some (.aload_n 0, 1, (0, 0, 0, 0), 0) := rfl
theorem s171_13 {c : Nat → List AV → SS → Option Out} {l1 l2 : Option AV} {o : OId} {L2 : List (Nat × AV)} {St : List AV} {S : SS} : ev c 171 13 [some (aR o), l1, l2] L2 St S = ev c 171 14 [some (aR o), l1, l2] L2 (aR o :: St) S := ev_go i171_13 rfl
theorem i171_14 : insAt 171 14 = some (.getfield 52, 3, (11, 6, 0, 0), 19) := rfl
theorem s171_14 {c : Nat → List AV → SS → Option Out} {l0 l1 l2 : Option AV} {j t : Nat} {L2 : List (Nat × AV)} {St : List AV} {S : SS} : ev c 171 14 [l0, l1, l2] L2 (aR (11, j, t) :: St) S = ev c 171 17 [l0, l1, l2] L2 (S.2.2.1 (11, j, t) 6 :: St) S := ev_go i171_14 rfl
theorem i171_17 : insAt 171 17 = some (.iconst 0, 1, (0, 0, 0, 0), 0) := rfl
theorem s171_17 {c : Nat → List AV → SS → Option Out} {l0 l1 l2 : Option AV} {L2 : List (Nat × AV)} {St : List AV} {S : SS} : ev c 171 17 [l0, l1, l2] L2 St S = ev c 171 18 [l0, l1, l2] L2 (aI 0 :: St) S := ev_go i171_17 rfl
theorem i171_18 : insAt 171 18 = some (.invokevirtual 303, 3, (172, 1, 2, 1), 294) := rfl
theorem s171_18 {c : Nat → List AV → SS → Option Out} {l0 l1 l2 : Option AV} {a0 : Int32} {j t : Nat} {L2 : List (Nat × AV)} {S : SS} : ev c 171 18 [l0, l1, l2] L2 [aI a0, aR (1, j, t)] S = ck (c 172 [aR (1, j, t), aI a0] S) (fun v S' => ev c 171 21 [l0, l1, l2] L2 (v.toList ++ []) S') := ev_call i171_18 rfl
theorem i171_21 : insAt 171 21 = some (.aload_n 0, 1, (0, 0, 0, 0), 0) := rfl
theorem s171_21 {c : Nat → List AV → SS → Option Out} {l1 l2 : Option AV} {o : OId} {L2 : List (Nat × AV)} {St : List AV} {S : SS} : ev c 171 21 [some (aR o), l1, l2] L2 St S = ev c 171 22 [some (aR o), l1, l2] L2 (aR o :: St) S := ev_go i171_21 rfl
theorem i171_22 : insAt 171 22 = some (.getfield 52, 3, (11, 6, 0, 0), 19) := rfl
theorem s171_22 {c : Nat → List AV → SS → Option Out} {l0 l1 l2 : Option AV} {j t : Nat} {L2 : List (Nat × AV)} {St : List AV} {S : SS} : ev c 171 22 [l0, l1, l2] L2 (aR (11, j, t) :: St) S = ev c 171 25 [l0, l1, l2] L2 (S.2.2.1 (11, j, t) 6 :: St) S := ev_go i171_22 rfl
theorem i171_25 : insAt 171 25 = some (.aload_n 2, 1, (0, 0, 0, 0), 0) := rfl
theorem s171_25 {c : Nat → List AV → SS → Option Out} {l0 l1 : Option AV} {o : OId} {L2 : List (Nat × AV)} {St : List AV} {S : SS} : ev c 171 25 [l0, l1, some (aR o)] L2 St S = ev c 171 26 [l0, l1, some (aR o)] L2 (aR o :: St) S := ev_go i171_25 rfl
theorem i171_26 : insAt 171 26 = some (.getfield 174, 3, (10, 0, 1, 0), 230) := rfl
theorem s171_26 {c : Nat → List AV → SS → Option Out} {l0 l1 l2 : Option AV} {j t : Nat} {L2 : List (Nat × AV)} {St : List AV} {S : SS} : ev c 171 26 [l0, l1, l2] L2 (aR (10, j, t) :: St) S = ev c 171 29 [l0, l1, l2] L2 (aI (S.1 (10, j, t) 0) :: St) S := ev_go i171_26 rfl
theorem i171_29 : insAt 171 29 = some (.invokevirtual 306, 3, (186, 1, 2, 1), 295) := rfl
theorem s171_29 {c : Nat → List AV → SS → Option Out} {l0 l1 l2 : Option AV} {a0 : Int32} {j t : Nat} {L2 : List (Nat × AV)} {S : SS} : ev c 171 29 [l0, l1, l2] L2 [aI a0, aR (1, j, t)] S = ck (c 186 [aR (1, j, t), aI a0] S) (fun v S' => ev c 171 32 [l0, l1, l2] L2 (v.toList ++ []) S') := ev_call i171_29 rfl
theorem i171_32 : insAt 171 32 = some (.bipush 64, 2, (0, 0, 0, 0), 0) := rfl
theorem s171_32 {c : Nat → List AV → SS → Option Out} {l0 l1 l2 : Option AV} {L2 : List (Nat × AV)} {St : List AV} {S : SS} : ev c 171 32 [l0, l1, l2] L2 St S = ev c 171 34 [l0, l1, l2] L2 (aI 64 :: St) S := ev_go i171_32 rfl
theorem i171_34 : insAt 171 34 = some (.invokevirtual 309, 3, (199, 1, 2, 1), 296) := rfl
theorem s171_34 {c : Nat → List AV → SS → Option Out} {l0 l1 l2 : Option AV} {a0 : Int32} {j t : Nat} {L2 : List (Nat × AV)} {S : SS} : ev c 171 34 [l0, l1, l2] L2 [aI a0, aR (1, j, t)] S = ck (c 199 [aR (1, j, t), aI a0] S) (fun v S' => ev c 171 37 [l0, l1, l2] L2 (v.toList ++ []) S') := ev_call i171_34 rfl
theorem i171_37 : insAt 171 37 = some (.aload_n 2, 1, (0, 0, 0, 0), 0) := rfl
theorem s171_37 {c : Nat → List AV → SS → Option Out} {l0 l1 : Option AV} {o : OId} {L2 : List (Nat × AV)} {St : List AV} {S : SS} : ev c 171 37 [l0, l1, some (aR o)] L2 St S = ev c 171 38 [l0, l1, some (aR o)] L2 (aR o :: St) S := ev_go i171_37 rfl
theorem i171_38 : insAt 171 38 = some (.getfield 180, 3, (10, 1, 1, 0), 236) := rfl
theorem s171_38 {c : Nat → List AV → SS → Option Out} {l0 l1 l2 : Option AV} {j t : Nat} {L2 : List (Nat × AV)} {St : List AV} {S : SS} : ev c 171 38 [l0, l1, l2] L2 (aR (10, j, t) :: St) S = ev c 171 41 [l0, l1, l2] L2 (aI (S.1 (10, j, t) 1) :: St) S := ev_go i171_38 rfl
theorem i171_41 : insAt 171 41 = some (.invokevirtual 306, 3, (186, 1, 2, 1), 295) := rfl
theorem s171_41 {c : Nat → List AV → SS → Option Out} {l0 l1 l2 : Option AV} {a0 : Int32} {j t : Nat} {L2 : List (Nat × AV)} {S : SS} : ev c 171 41 [l0, l1, l2] L2 [aI a0, aR (1, j, t)] S = ck (c 186 [aR (1, j, t), aI a0] S) (fun v S' => ev c 171 44 [l0, l1, l2] L2 (v.toList ++ []) S') := ev_call i171_41 rfl
theorem i171_44 : insAt 171 44 = some (.bipush 44, 2, (0, 0, 0, 0), 0) := rfl
theorem s171_44 {c : Nat → List AV → SS → Option Out} {l0 l1 l2 : Option AV} {L2 : List (Nat × AV)} {St : List AV} {S : SS} : ev c 171 44 [l0, l1, l2] L2 St S = ev c 171 46 [l0, l1, l2] L2 (aI 44 :: St) S := ev_go i171_44 rfl
theorem i171_46 : insAt 171 46 = some (.invokevirtual 309, 3, (199, 1, 2, 1), 296) := rfl
theorem s171_46 {c : Nat → List AV → SS → Option Out} {l0 l1 l2 : Option AV} {a0 : Int32} {j t : Nat} {L2 : List (Nat × AV)} {S : SS} : ev c 171 46 [l0, l1, l2] L2 [aI a0, aR (1, j, t)] S = ck (c 199 [aR (1, j, t), aI a0] S) (fun v S' => ev c 171 49 [l0, l1, l2] L2 (v.toList ++ []) S') := ev_call i171_46 rfl
theorem i171_49 : insAt 171 49 = some (.aload_n 2, 1, (0, 0, 0, 0), 0) := rfl
theorem s171_49 {c : Nat → List AV → SS → Option Out} {l0 l1 : Option AV} {o : OId} {L2 : List (Nat × AV)} {St : List AV} {S : SS} : ev c 171 49 [l0, l1, some (aR o)] L2 St S = ev c 171 50 [l0, l1, some (aR o)] L2 (aR o :: St) S := ev_go i171_49 rfl
theorem i171_50 : insAt 171 50 = some (.getfield 183, 3, (10, 2, 1, 0), 238) := rfl
theorem s171_50 {c : Nat → List AV → SS → Option Out} {l0 l1 l2 : Option AV} {j t : Nat} {L2 : List (Nat × AV)} {St : List AV} {S : SS} : ev c 171 50 [l0, l1, l2] L2 (aR (10, j, t) :: St) S = ev c 171 53 [l0, l1, l2] L2 (aI (S.1 (10, j, t) 2) :: St) S := ev_go i171_50 rfl
theorem i171_53 : insAt 171 53 = some (.invokevirtual 306, 3, (186, 1, 2, 1), 295) := rfl
theorem s171_53 {c : Nat → List AV → SS → Option Out} {l0 l1 l2 : Option AV} {a0 : Int32} {j t : Nat} {L2 : List (Nat × AV)} {S : SS} : ev c 171 53 [l0, l1, l2] L2 [aI a0, aR (1, j, t)] S = ck (c 186 [aR (1, j, t), aI a0] S) (fun v S' => ev c 171 56 [l0, l1, l2] L2 (v.toList ++ []) S') := ev_call i171_53 rfl
theorem i171_56 : insAt 171 56 = some (.pop, 1, (0, 0, 0, 0), 0) := rfl
theorem s171_56 {c : Nat → List AV → SS → Option Out} {l0 l1 l2 : Option AV} {x : OId} {L2 : List (Nat × AV)} {St : List AV} {S : SS} : ev c 171 56 [l0, l1, l2] L2 (aR x :: St) S = ev c 171 57 [l0, l1, l2] L2 (St) S := ev_go i171_56 rfl
theorem i171_57 : insAt 171 57 = some (.aload_n 0, 1, (0, 0, 0, 0), 0) := rfl
theorem s171_57 {c : Nat → List AV → SS → Option Out} {l1 l2 : Option AV} {o : OId} {L2 : List (Nat × AV)} {St : List AV} {S : SS} : ev c 171 57 [some (aR o), l1, l2] L2 St S = ev c 171 58 [some (aR o), l1, l2] L2 (aR o :: St) S := ev_go i171_57 rfl
theorem i171_58 : insAt 171 58 = some (.getfield 52, 3, (11, 6, 0, 0), 19) := rfl
theorem s171_58 {c : Nat → List AV → SS → Option Out} {l0 l1 l2 : Option AV} {j t : Nat} {L2 : List (Nat × AV)} {St : List AV} {S : SS} : ev c 171 58 [l0, l1, l2] L2 (aR (11, j, t) :: St) S = ev c 171 61 [l0, l1, l2] L2 (S.2.2.1 (11, j, t) 6 :: St) S := ev_go i171_58 rfl
theorem i171_64 : insAt 171 64 = some (.invokevirtual 314, 3, (174, 1, 2, 1), 297) := rfl
theorem s171_64 {c : Nat → List AV → SS → Option Out} {l0 l1 l2 : Option AV} {a0 : OId} {j t : Nat} {L2 : List (Nat × AV)} {S : SS} : ev c 171 64 [l0, l1, l2] L2 [aR a0, aR (1, j, t)] S = ck (c 174 [aR (1, j, t), aR a0] S) (fun v S' => ev c 171 67 [l0, l1, l2] L2 (v.toList ++ []) S') := ev_call i171_64 rfl
theorem i171_67 : insAt 171 67 = some (.aload_n 2, 1, (0, 0, 0, 0), 0) := rfl
theorem s171_67 {c : Nat → List AV → SS → Option Out} {l0 l1 : Option AV} {o : OId} {L2 : List (Nat × AV)} {St : List AV} {S : SS} : ev c 171 67 [l0, l1, some (aR o)] L2 St S = ev c 171 68 [l0, l1, some (aR o)] L2 (aR o :: St) S := ev_go i171_67 rfl
theorem i171_68 : insAt 171 68 = some (.getfield 129, 3, (10, 3, 1, 0), 143) := rfl
theorem s171_68 {c : Nat → List AV → SS → Option Out} {l0 l1 l2 : Option AV} {j t : Nat} {L2 : List (Nat × AV)} {St : List AV} {S : SS} : ev c 171 68 [l0, l1, l2] L2 (aR (10, j, t) :: St) S = ev c 171 71 [l0, l1, l2] L2 (aI (S.1 (10, j, t) 3) :: St) S := ev_go i171_68 rfl
theorem i171_71 : insAt 171 71 = some (.invokevirtual 306, 3, (186, 1, 2, 1), 295) := rfl
theorem s171_71 {c : Nat → List AV → SS → Option Out} {l0 l1 l2 : Option AV} {a0 : Int32} {j t : Nat} {L2 : List (Nat × AV)} {S : SS} : ev c 171 71 [l0, l1, l2] L2 [aI a0, aR (1, j, t)] S = ck (c 186 [aR (1, j, t), aI a0] S) (fun v S' => ev c 171 74 [l0, l1, l2] L2 (v.toList ++ []) S') := ev_call i171_71 rfl
theorem i171_74 : insAt 171 74 = some (.pop, 1, (0, 0, 0, 0), 0) := rfl
theorem s171_74 {c : Nat → List AV → SS → Option Out} {l0 l1 l2 : Option AV} {x : OId} {L2 : List (Nat × AV)} {St : List AV} {S : SS} : ev c 171 74 [l0, l1, l2] L2 (aR x :: St) S = ev c 171 75 [l0, l1, l2] L2 (St) S := ev_go i171_74 rfl
theorem i171_75 : insAt 171 75 = some (.aload_n 0, 1, (0, 0, 0, 0), 0) := rfl
theorem s171_75 {c : Nat → List AV → SS → Option Out} {l1 l2 : Option AV} {o : OId} {L2 : List (Nat × AV)} {St : List AV} {S : SS} : ev c 171 75 [some (aR o), l1, l2] L2 St S = ev c 171 76 [some (aR o), l1, l2] L2 (aR o :: St) S := ev_go i171_75 rfl
theorem i171_76 : insAt 171 76 = some (.getfield 52, 3, (11, 6, 0, 0), 19) := rfl
theorem s171_76 {c : Nat → List AV → SS → Option Out} {l0 l1 l2 : Option AV} {j t : Nat} {L2 : List (Nat × AV)} {St : List AV} {S : SS} : ev c 171 76 [l0, l1, l2] L2 (aR (11, j, t) :: St) S = ev c 171 79 [l0, l1, l2] L2 (S.2.2.1 (11, j, t) 6 :: St) S := ev_go i171_76 rfl
theorem i171_79 : insAt 171 79 = some (.aload_n 2, 1, (0, 0, 0, 0), 0) := rfl
theorem s171_79 {c : Nat → List AV → SS → Option Out} {l0 l1 : Option AV} {o : OId} {L2 : List (Nat × AV)} {St : List AV} {S : SS} : ev c 171 79 [l0, l1, some (aR o)] L2 St S = ev c 171 80 [l0, l1, some (aR o)] L2 (aR o :: St) S := ev_go i171_79 rfl
theorem i171_80 : insAt 171 80 = some (.getfield 138, 3, (10, 5, 1, 0), 142) := rfl
theorem s171_80 {c : Nat → List AV → SS → Option Out} {l0 l1 l2 : Option AV} {j t : Nat} {L2 : List (Nat × AV)} {St : List AV} {S : SS} : ev c 171 80 [l0, l1, l2] L2 (aR (10, j, t) :: St) S = ev c 171 83 [l0, l1, l2] L2 (aI (bb (S.1 (10, j, t) 5)) :: St) S := ev_go i171_80 rfl
theorem i171_83 : insAt 171 83 = some (.ifCond .eq 9, 3, (0, 0, 0, 0), 0) := rfl
theorem s171_83 {c : Nat → List AV → SS → Option Out} {l0 l1 l2 : Option AV} {x : Int32} {L2 : List (Nat × AV)} {St : List AV} {S : SS} : ev c 171 83 [l0, l1, l2] L2 (aI x :: St) S = if x = 0 then ev c 171 92 [l0, l1, l2] L2 St S else ev c 171 86 [l0, l1, l2] L2 St S := ev_br i171_83 rfl
theorem i171_89 : insAt 171 89 = some (.goto 6, 3, (0, 0, 0, 0), 0) := rfl
theorem s171_89 {c : Nat → List AV → SS → Option Out} {l0 l1 l2 : Option AV} {L2 : List (Nat × AV)} {St : List AV} {S : SS} : ev c 171 89 [l0, l1, l2] L2 St S = ev c 171 95 [l0, l1, l2] L2 St S := ev_go i171_89 rfl
theorem i171_95 : insAt 171 95 = some (.invokevirtual 314, 3, (174, 1, 2, 1), 297) := rfl
theorem s171_95 {c : Nat → List AV → SS → Option Out} {l0 l1 l2 : Option AV} {a0 : OId} {j t : Nat} {L2 : List (Nat × AV)} {S : SS} : ev c 171 95 [l0, l1, l2] L2 [aR a0, aR (1, j, t)] S = ck (c 174 [aR (1, j, t), aR a0] S) (fun v S' => ev c 171 98 [l0, l1, l2] L2 (v.toList ++ []) S') := ev_call i171_95 rfl
theorem i171_98 : insAt 171 98 = some (.aload_n 2, 1, (0, 0, 0, 0), 0) := rfl
theorem s171_98 {c : Nat → List AV → SS → Option Out} {l0 l1 : Option AV} {o : OId} {L2 : List (Nat × AV)} {St : List AV} {S : SS} : ev c 171 98 [l0, l1, some (aR o)] L2 St S = ev c 171 99 [l0, l1, some (aR o)] L2 (aR o :: St) S := ev_go i171_98 rfl
theorem i171_99 : insAt 171 99 = some (.getfield 143, 3, (10, 4, 1, 0), 88) := rfl
theorem s171_99 {c : Nat → List AV → SS → Option Out} {l0 l1 l2 : Option AV} {j t : Nat} {L2 : List (Nat × AV)} {St : List AV} {S : SS} : ev c 171 99 [l0, l1, l2] L2 (aR (10, j, t) :: St) S = ev c 171 102 [l0, l1, l2] L2 (aI (S.1 (10, j, t) 4) :: St) S := ev_go i171_99 rfl
theorem i171_102 : insAt 171 102 = some (.invokevirtual 306, 3, (186, 1, 2, 1), 295) := rfl
theorem s171_102 {c : Nat → List AV → SS → Option Out} {l0 l1 l2 : Option AV} {a0 : Int32} {j t : Nat} {L2 : List (Nat × AV)} {S : SS} : ev c 171 102 [l0, l1, l2] L2 [aI a0, aR (1, j, t)] S = ck (c 186 [aR (1, j, t), aI a0] S) (fun v S' => ev c 171 105 [l0, l1, l2] L2 (v.toList ++ []) S') := ev_call i171_102 rfl
theorem i171_105 : insAt 171 105 = some (.pop, 1, (0, 0, 0, 0), 0) := rfl
theorem s171_105 {c : Nat → List AV → SS → Option Out} {l0 l1 l2 : Option AV} {x : OId} {L2 : List (Nat × AV)} {St : List AV} {S : SS} : ev c 171 105 [l0, l1, l2] L2 (aR x :: St) S = ev c 171 106 [l0, l1, l2] L2 (St) S := ev_go i171_105 rfl
theorem i171_106 : insAt 171 106 = some (.aload_n 0, 1, (0, 0, 0, 0), 0) := rfl
theorem s171_106 {c : Nat → List AV → SS → Option Out} {l1 l2 : Option AV} {o : OId} {L2 : List (Nat × AV)} {St : List AV} {S : SS} : ev c 171 106 [some (aR o), l1, l2] L2 St S = ev c 171 107 [some (aR o), l1, l2] L2 (aR o :: St) S := ev_go i171_106 rfl
theorem i171_107 : insAt 171 107 = some (.getfield 52, 3, (11, 6, 0, 0), 19) := rfl
theorem s171_107 {c : Nat → List AV → SS → Option Out} {l0 l1 l2 : Option AV} {j t : Nat} {L2 : List (Nat × AV)} {St : List AV} {S : SS} : ev c 171 107 [l0, l1, l2] L2 (aR (11, j, t) :: St) S = ev c 171 110 [l0, l1, l2] L2 (S.2.2.1 (11, j, t) 6 :: St) S := ev_go i171_107 rfl
theorem i171_110 : insAt 171 110 = some (.invokevirtual 321, 3, (194, 0, 2, 1), 298) := rfl
theorem s171_110 {c : Nat → List AV → SS → Option Out} {l0 l1 l2 : Option AV} {j t : Nat} {L2 : List (Nat × AV)} {S : SS} : ev c 171 110 [l0, l1, l2] L2 [aR (1, j, t)] S = ck (c 194 [aR (1, j, t)] S) (fun v S' => ev c 171 113 [l0, l1, l2] L2 (v.toList ++ []) S') := ev_call i171_110 rfl
theorem i171_113 : insAt 171 113 = some (.ireturn, 1, (0, 0, 0, 0), 0) := rfl
theorem s171_113 {c : Nat → List AV → SS → Option Out} {l0 l1 l2 : Option AV} {x : Int32} {L2 : List (Nat × AV)} {S : SS} : ev c 171 113 [l0, l1, l2] L2 [aI x] S = some (.inl (some (aI x)), S) := ev_end i171_113 rfl
theorem m171 {d : Nat} {o : OId} {a0 : Int32} {S : SS} : evm (d + 1) 171 [aR o, aI a0] S = ev (evm d) 171 0 [some (aR o), some (aI a0), none] [] [] S := evm_s (n := 3) rfl (Nat.le_of_ble_eq_true rfl) rfl rfl
/-! FrequencyOffice.lineAt(I)C -/
theorem i205_0 : insAt 205 0 = some (.iload_n 1, 1, (0, 0, 0, 0), 0) := rfl
theorem s205_0 {c : Nat → List AV → SS → Option Out} {l0 : Option AV} {x : Int32} {L2 : List (Nat × AV)} {St : List AV} {S : SS} : ev c 205 0 [l0, some (aI x)] L2 St S = ev c 205 1 [l0, some (aI x)] L2 (aI x :: St) S := ev_go i205_0 rfl
theorem i205_1 : insAt 205 1 = some (.ifCond .lt 14, 3, (0, 0, 0, 0), 0) := rfl
theorem s205_1 {c : Nat → List AV → SS → Option Out} {l0 l1 : Option AV} {x : Int32} {L2 : List (Nat × AV)} {St : List AV} {S : SS} : ev c 205 1 [l0, l1] L2 (aI x :: St) S = if x < 0 then ev c 205 15 [l0, l1] L2 St S else ev c 205 4 [l0, l1] L2 St S := ev_br i205_1 rfl
theorem i205_4 : insAt 205 4 = some (.iload_n 1, 1, (0, 0, 0, 0), 0) := rfl
theorem s205_4 {c : Nat → List AV → SS → Option Out} {l0 : Option AV} {x : Int32} {L2 : List (Nat × AV)} {St : List AV} {S : SS} : ev c 205 4 [l0, some (aI x)] L2 St S = ev c 205 5 [l0, some (aI x)] L2 (aI x :: St) S := ev_go i205_4 rfl
theorem i205_5 : insAt 205 5 = some (.aload_n 0, 1, (0, 0, 0, 0), 0) := rfl
theorem s205_5 {c : Nat → List AV → SS → Option Out} {l1 : Option AV} {o : OId} {L2 : List (Nat × AV)} {St : List AV} {S : SS} : ev c 205 5 [some (aR o), l1] L2 St S = ev c 205 6 [some (aR o), l1] L2 (aR o :: St) S := ev_go i205_5 rfl
theorem i205_6 : insAt 205 6 = some (.getfield 52, 3, (11, 6, 0, 0), 19) := rfl
theorem s205_6 {c : Nat → List AV → SS → Option Out} {l0 l1 : Option AV} {j t : Nat} {L2 : List (Nat × AV)} {St : List AV} {S : SS} : ev c 205 6 [l0, l1] L2 (aR (11, j, t) :: St) S = ev c 205 9 [l0, l1] L2 (S.2.2.1 (11, j, t) 6 :: St) S := ev_go i205_6 rfl
theorem i205_9 : insAt 205 9 = some (.invokevirtual 321, 3, (194, 0, 2, 1), 298) := rfl
theorem s205_9 {c : Nat → List AV → SS → Option Out} {l0 l1 : Option AV} {t0 : AV} {j t : Nat} {L2 : List (Nat × AV)} {S : SS} : ev c 205 9 [l0, l1] L2 [aR (1, j, t), t0] S = ck (c 194 [aR (1, j, t)] S) (fun v S' => ev c 205 12 [l0, l1] L2 (v.toList ++ [t0]) S') := ev_call i205_9 rfl
theorem i205_12 : insAt 205 12 = some (.if_icmp .lt 14, 3, (0, 0, 0, 0), 0) := rfl
theorem s205_12 {c : Nat → List AV → SS → Option Out} {l0 l1 : Option AV} {x y : Int32} {L2 : List (Nat × AV)} {St : List AV} {S : SS} : ev c 205 12 [l0, l1] L2 (aI y :: aI x :: St) S = if x < y then ev c 205 26 [l0, l1] L2 St S else ev c 205 15 [l0, l1] L2 St S := ev_br i205_12 rfl
theorem i205_15 : insAt 205 15 = some (.new 324, 3, (4, 0, 1, 0), 231) := rfl
theorem s205_15 {c : Nat → List AV → SS → Option Out} {l0 l1 : Option AV} {L2 : List (Nat × AV)} {S : SS} : ev c 205 15 [l0, l1] L2 [] S = some (.inr "java/lang/IndexOutOfBoundsException", bump S 1 6) := ev_end i205_15 rfl
theorem i205_18 : insAt 205 18 = some (.dup, 1, (0, 0, 0, 0), 0) := rfl
theorem s205_18 {c : Nat → List AV → SS → Option Out} {l0 l1 : Option AV} {x : OId} {L2 : List (Nat × AV)} {St : List AV} {S : SS} : ev c 205 18 [l0, l1] L2 (aR x :: St) S = ev c 205 19 [l0, l1] L2 (aR x :: aR x :: St) S := ev_go i205_18 rfl
theorem i205_26 : insAt 205 26 = some (.aload_n 0, 1, (0, 0, 0, 0), 0) := rfl
theorem s205_26 {c : Nat → List AV → SS → Option Out} {l1 : Option AV} {o : OId} {L2 : List (Nat × AV)} {St : List AV} {S : SS} : ev c 205 26 [some (aR o), l1] L2 St S = ev c 205 27 [some (aR o), l1] L2 (aR o :: St) S := ev_go i205_26 rfl
theorem i205_27 : insAt 205 27 = some (.getfield 52, 3, (11, 6, 0, 0), 19) := rfl
theorem s205_27 {c : Nat → List AV → SS → Option Out} {l0 l1 : Option AV} {j t : Nat} {L2 : List (Nat × AV)} {St : List AV} {S : SS} : ev c 205 27 [l0, l1] L2 (aR (11, j, t) :: St) S = ev c 205 30 [l0, l1] L2 (S.2.2.1 (11, j, t) 6 :: St) S := ev_go i205_27 rfl
theorem i205_30 : insAt 205 30 = some (.iload_n 1, 1, (0, 0, 0, 0), 0) := rfl
theorem s205_30 {c : Nat → List AV → SS → Option Out} {l0 : Option AV} {x : Int32} {L2 : List (Nat × AV)} {St : List AV} {S : SS} : ev c 205 30 [l0, some (aI x)] L2 St S = ev c 205 31 [l0, some (aI x)] L2 (aI x :: St) S := ev_go i205_30 rfl
theorem i205_31 : insAt 205 31 = some (.invokevirtual 329, 3, (206, 1, 2, 1), 354) := rfl
theorem s205_31 {c : Nat → List AV → SS → Option Out} {l0 l1 : Option AV} {a0 : Int32} {j t : Nat} {L2 : List (Nat × AV)} {S : SS} : ev c 205 31 [l0, l1] L2 [aI a0, aR (1, j, t)] S = ck (c 206 [aR (1, j, t), aI a0] S) (fun v S' => ev c 205 34 [l0, l1] L2 (v.toList ++ []) S') := ev_call i205_31 rfl
theorem i205_34 : insAt 205 34 = some (.ireturn, 1, (0, 0, 0, 0), 0) := rfl
theorem s205_34 {c : Nat → List AV → SS → Option Out} {l0 l1 : Option AV} {x : Int32} {L2 : List (Nat × AV)} {S : SS} : ev c 205 34 [l0, l1] L2 [aI x] S = if (x.toUInt32 % 65536).toInt32 = x then some (.inl (some (aI x)), S) else none := ev_rt i205_34 rfl
theorem m205 {d : Nat} {o : OId} {a0 : Int32} {S : SS} : evm (d + 1) 205 [aR o, aI a0] S = ev (evm d) 205 0 [some (aR o), some (aI a0)] [] [] S := evm_s (n := 2) rfl (Nat.le_of_ble_eq_true rfl) rfl rfl
/-! FrequencyOffice.undo()I -/
theorem i209_0 : insAt 209 0 = some (.aload_n 0, 1, (0, 0, 0, 0), 0) := rfl
theorem s209_0 {c : Nat → List AV → SS → Option Out} {o : OId} {L2 : List (Nat × AV)} {St : List AV} {S : SS} : ev c 209 0 [some (aR o)] L2 St S = ev c 209 1 [some (aR o)] L2 (aR o :: St) S := ev_go i209_0 rfl
theorem i209_1 : insAt 209 1 = some (.getfield 19, 3, (11, 1, 0, 0), 6) := rfl
theorem s209_1 {c : Nat → List AV → SS → Option Out} {l0 : Option AV} {j t : Nat} {L2 : List (Nat × AV)} {St : List AV} {S : SS} : ev c 209 1 [l0] L2 (aR (11, j, t) :: St) S = ev c 209 4 [l0] L2 (S.2.2.1 (11, j, t) 1 :: St) S := ev_go i209_1 rfl
theorem i209_4 : insAt 209 4 = some (.getfield 333, 3, (5, 2, 1, 0), 359) := rfl
theorem s209_4 {c : Nat → List AV → SS → Option Out} {l0 : Option AV} {j t : Nat} {L2 : List (Nat × AV)} {St : List AV} {S : SS} : ev c 209 4 [l0] L2 (aR (5, j, t) :: St) S = ev c 209 7 [l0] L2 (aI (S.1 (5, j, t) 2) :: St) S := ev_go i209_4 rfl
theorem i209_7 : insAt 209 7 = some (.ifCond .ne 14, 3, (0, 0, 0, 0), 0) := rfl
theorem s209_7 {c : Nat → List AV → SS → Option Out} {l0 : Option AV} {x : Int32} {L2 : List (Nat × AV)} {St : List AV} {S : SS} : ev c 209 7 [l0] L2 (aI x :: St) S = if x = 0 then ev c 209 10 [l0] L2 St S else ev c 209 21 [l0] L2 St S := (ev_br i209_7 rfl).trans (ite_not _ _ _)
theorem i209_10 : insAt 209 10 = some (.new 64, 3, (1, 0, 1, 0), 156) := rfl
theorem s209_10 {c : Nat → List AV → SS → Option Out} {l0 : Option AV} {L2 : List (Nat × AV)} {S : SS} : ev c 209 10 [l0] L2 [] S = some (.inr "java/lang/IllegalStateException", bump S 1 6) := ev_end i209_10 rfl
theorem i209_13 : insAt 209 13 = some (.dup, 1, (0, 0, 0, 0), 0) := rfl
theorem s209_13 {c : Nat → List AV → SS → Option Out} {l0 : Option AV} {x : OId} {L2 : List (Nat × AV)} {St : List AV} {S : SS} : ev c 209 13 [l0] L2 (aR x :: St) S = ev c 209 14 [l0] L2 (aR x :: aR x :: St) S := ev_go i209_13 rfl
theorem i209_21 : insAt 209 21 = some (.aload_n 0, 1, (0, 0, 0, 0), 0) := rfl
theorem s209_21 {c : Nat → List AV → SS → Option Out} {o : OId} {L2 : List (Nat × AV)} {St : List AV} {S : SS} : ev c 209 21 [some (aR o)] L2 St S = ev c 209 22 [some (aR o)] L2 (aR o :: St) S := ev_go i209_21 rfl
theorem i209_22 : insAt 209 22 = some (.getfield 19, 3, (11, 1, 0, 0), 6) := rfl
theorem s209_22 {c : Nat → List AV → SS → Option Out} {l0 : Option AV} {j t : Nat} {L2 : List (Nat × AV)} {St : List AV} {S : SS} : ev c 209 22 [l0] L2 (aR (11, j, t) :: St) S = ev c 209 25 [l0] L2 (S.2.2.1 (11, j, t) 1 :: St) S := ev_go i209_22 rfl
theorem i209_25 : insAt 209 25 = some (.aload_n 0, 1, (0, 0, 0, 0), 0) := rfl
theorem s209_25 {c : Nat → List AV → SS → Option Out} {o : OId} {L2 : List (Nat × AV)} {St : List AV} {S : SS} : ev c 209 25 [some (aR o)] L2 St S = ev c 209 26 [some (aR o)] L2 (aR o :: St) S := ev_go i209_25 rfl
theorem i209_26 : insAt 209 26 = some (.getfield 10, 3, (11, 0, 0, 0), 3) := rfl
theorem s209_26 {c : Nat → List AV → SS → Option Out} {l0 : Option AV} {j t : Nat} {L2 : List (Nat × AV)} {St : List AV} {S : SS} : ev c 209 26 [l0] L2 (aR (11, j, t) :: St) S = ev c 209 29 [l0] L2 (S.2.2.1 (11, j, t) 0 :: St) S := ev_go i209_26 rfl
theorem i209_29 : insAt 209 29 = some (.invokevirtual 338, 3, (210, 1, 3, 5), 360) := rfl
theorem s209_29 {c : Nat → List AV → SS → Option Out} {l0 : Option AV} {a0 : OId} {j t : Nat} {L2 : List (Nat × AV)} {S : SS} : ev c 209 29 [l0] L2 [aR a0, aR (5, j, t)] S = ck (c 210 [aR (5, j, t), aR a0] S) (fun v S' => ev c 209 32 [l0] L2 (v.toList ++ []) S') := ev_call i209_29 rfl
theorem i209_32 : insAt 209 32 = some (.aload_n 0, 1, (0, 0, 0, 0), 0) := rfl
theorem s209_32 {c : Nat → List AV → SS → Option Out} {o : OId} {L2 : List (Nat × AV)} {St : List AV} {S : SS} : ev c 209 32 [some (aR o)] L2 St S = ev c 209 33 [some (aR o)] L2 (aR o :: St) S := ev_go i209_32 rfl
theorem i209_33 : insAt 209 33 = some (.getfield 19, 3, (11, 1, 0, 0), 6) := rfl
theorem s209_33 {c : Nat → List AV → SS → Option Out} {l0 : Option AV} {j t : Nat} {L2 : List (Nat × AV)} {St : List AV} {S : SS} : ev c 209 33 [l0] L2 (aR (11, j, t) :: St) S = ev c 209 36 [l0] L2 (S.2.2.1 (11, j, t) 1 :: St) S := ev_go i209_33 rfl
theorem i209_36 : insAt 209 36 = some (.getfield 333, 3, (5, 2, 1, 0), 359) := rfl
theorem s209_36 {c : Nat → List AV → SS → Option Out} {l0 : Option AV} {j t : Nat} {L2 : List (Nat × AV)} {St : List AV} {S : SS} : ev c 209 36 [l0] L2 (aR (5, j, t) :: St) S = ev c 209 39 [l0] L2 (aI (S.1 (5, j, t) 2) :: St) S := ev_go i209_36 rfl
theorem i209_39 : insAt 209 39 = some (.ireturn, 1, (0, 0, 0, 0), 0) := rfl
theorem s209_39 {c : Nat → List AV → SS → Option Out} {l0 : Option AV} {x : Int32} {L2 : List (Nat × AV)} {S : SS} : ev c 209 39 [l0] L2 [aI x] S = some (.inl (some (aI x)), S) := ev_end i209_39 rfl
theorem m209 {d : Nat} {o : OId} {S : SS} : evm (d + 1) 209 [aR o] S = ev (evm d) 209 0 [some (aR o)] [] [] S := evm_s (n := 1) rfl (Nat.le_of_ble_eq_true rfl) rfl rfl
/-! FrequencyOffice.restore()I -/
theorem i212_0 : insAt 212 0 = some (.aload_n 0, 1, (0, 0, 0, 0), 0) := rfl
theorem s212_0 {c : Nat → List AV → SS → Option Out} {o : OId} {L2 : List (Nat × AV)} {St : List AV} {S : SS} : ev c 212 0 [some (aR o)] L2 St S = ev c 212 1 [some (aR o)] L2 (aR o :: St) S := ev_go i212_0 rfl
theorem i212_1 : insAt 212 1 = some (.getfield 26, 3, (11, 3, 0, 0), 8) := rfl
theorem s212_1 {c : Nat → List AV → SS → Option Out} {l0 : Option AV} {j t : Nat} {L2 : List (Nat × AV)} {St : List AV} {S : SS} : ev c 212 1 [l0] L2 (aR (11, j, t) :: St) S = ev c 212 4 [l0] L2 (aI (bb (S.1 (11, j, t) 3)) :: St) S := ev_go i212_1 rfl
theorem i212_4 : insAt 212 4 = some (.ifCond .ne 14, 3, (0, 0, 0, 0), 0) := rfl
theorem s212_4 {c : Nat → List AV → SS → Option Out} {l0 : Option AV} {x : Int32} {L2 : List (Nat × AV)} {St : List AV} {S : SS} : ev c 212 4 [l0] L2 (aI x :: St) S = if x = 0 then ev c 212 7 [l0] L2 St S else ev c 212 18 [l0] L2 St S := (ev_br i212_4 rfl).trans (ite_not _ _ _)
theorem i212_7 : insAt 212 7 = some (.new 64, 3, (1, 0, 1, 0), 156) := rfl
theorem s212_7 {c : Nat → List AV → SS → Option Out} {l0 : Option AV} {L2 : List (Nat × AV)} {S : SS} : ev c 212 7 [l0] L2 [] S = some (.inr "java/lang/IllegalStateException", bump S 1 6) := ev_end i212_7 rfl
theorem i212_10 : insAt 212 10 = some (.dup, 1, (0, 0, 0, 0), 0) := rfl
theorem s212_10 {c : Nat → List AV → SS → Option Out} {l0 : Option AV} {x : OId} {L2 : List (Nat × AV)} {St : List AV} {S : SS} : ev c 212 10 [l0] L2 (aR x :: St) S = ev c 212 11 [l0] L2 (aR x :: aR x :: St) S := ev_go i212_10 rfl
theorem i212_18 : insAt 212 18 = some (.aload_n 0, 1, (0, 0, 0, 0), 0) := rfl
theorem s212_18 {c : Nat → List AV → SS → Option Out} {o : OId} {L2 : List (Nat × AV)} {St : List AV} {S : SS} : ev c 212 18 [some (aR o)] L2 St S = ev c 212 19 [some (aR o)] L2 (aR o :: St) S := ev_go i212_18 rfl
theorem i212_19 : insAt 212 19 = some (.getfield 10, 3, (11, 0, 0, 0), 3) := rfl
theorem s212_19 {c : Nat → List AV → SS → Option Out} {l0 : Option AV} {j t : Nat} {L2 : List (Nat × AV)} {St : List AV} {S : SS} : ev c 212 19 [l0] L2 (aR (11, j, t) :: St) S = ev c 212 22 [l0] L2 (S.2.2.1 (11, j, t) 0 :: St) S := ev_go i212_19 rfl
theorem i212_22 : insAt 212 22 = some (.aload_n 0, 1, (0, 0, 0, 0), 0) := rfl
theorem s212_22 {c : Nat → List AV → SS → Option Out} {o : OId} {L2 : List (Nat × AV)} {St : List AV} {S : SS} : ev c 212 22 [some (aR o)] L2 St S = ev c 212 23 [some (aR o)] L2 (aR o :: St) S := ev_go i212_22 rfl
theorem i212_23 : insAt 212 23 = some (.getfield 23, 3, (11, 2, 0, 0), 7) := rfl
theorem s212_23 {c : Nat → List AV → SS → Option Out} {l0 : Option AV} {j t : Nat} {L2 : List (Nat × AV)} {St : List AV} {S : SS} : ev c 212 23 [l0] L2 (aR (11, j, t) :: St) S = ev c 212 26 [l0] L2 (S.2.2.1 (11, j, t) 2 :: St) S := ev_go i212_23 rfl
theorem i212_26 : insAt 212 26 = some (.invokevirtual 341, 3, (53, 1, 3, 4), 145) := rfl
theorem s212_26 {c : Nat → List AV → SS → Option Out} {l0 : Option AV} {a0 : OId} {j t : Nat} {L2 : List (Nat × AV)} {S : SS} : ev c 212 26 [l0] L2 [aR a0, aR (4, j, t)] S = ck (c 53 [aR (4, j, t), aR a0] S) (fun v S' => ev c 212 29 [l0] L2 (v.toList ++ []) S') := ev_call i212_26 rfl
theorem i212_29 : insAt 212 29 = some (.aload_n 0, 1, (0, 0, 0, 0), 0) := rfl
theorem s212_29 {c : Nat → List AV → SS → Option Out} {o : OId} {L2 : List (Nat × AV)} {St : List AV} {S : SS} : ev c 212 29 [some (aR o)] L2 St S = ev c 212 30 [some (aR o)] L2 (aR o :: St) S := ev_go i212_29 rfl
theorem i212_30 : insAt 212 30 = some (.getfield 19, 3, (11, 1, 0, 0), 6) := rfl
theorem s212_30 {c : Nat → List AV → SS → Option Out} {l0 : Option AV} {j t : Nat} {L2 : List (Nat × AV)} {St : List AV} {S : SS} : ev c 212 30 [l0] L2 (aR (11, j, t) :: St) S = ev c 212 33 [l0] L2 (S.2.2.1 (11, j, t) 1 :: St) S := ev_go i212_30 rfl
theorem i212_33 : insAt 212 33 = some (.invokevirtual 346, 3, (213, 0, 3, 5), 362) := rfl
theorem s212_33 {c : Nat → List AV → SS → Option Out} {l0 : Option AV} {j t : Nat} {L2 : List (Nat × AV)} {S : SS} : ev c 212 33 [l0] L2 [aR (5, j, t)] S = ck (c 213 [aR (5, j, t)] S) (fun v S' => ev c 212 36 [l0] L2 (v.toList ++ []) S') := ev_call i212_33 rfl
theorem i212_36 : insAt 212 36 = some (.aload_n 0, 1, (0, 0, 0, 0), 0) := rfl
theorem s212_36 {c : Nat → List AV → SS → Option Out} {o : OId} {L2 : List (Nat × AV)} {St : List AV} {S : SS} : ev c 212 36 [some (aR o)] L2 St S = ev c 212 37 [some (aR o)] L2 (aR o :: St) S := ev_go i212_36 rfl
theorem i212_37 : insAt 212 37 = some (.getfield 10, 3, (11, 0, 0, 0), 3) := rfl
theorem s212_37 {c : Nat → List AV → SS → Option Out} {l0 : Option AV} {j t : Nat} {L2 : List (Nat × AV)} {St : List AV} {S : SS} : ev c 212 37 [l0] L2 (aR (11, j, t) :: St) S = ev c 212 40 [l0] L2 (S.2.2.1 (11, j, t) 0 :: St) S := ev_go i212_37 rfl
theorem i212_40 : insAt 212 40 = some (.getfield 60, 3, (4, 7, 1, 0), 79) := rfl
theorem s212_40 {c : Nat → List AV → SS → Option Out} {l0 : Option AV} {j t : Nat} {L2 : List (Nat × AV)} {St : List AV} {S : SS} : ev c 212 40 [l0] L2 (aR (4, j, t) :: St) S = ev c 212 43 [l0] L2 (aI (S.1 (4, j, t) 7) :: St) S := ev_go i212_40 rfl
theorem i212_43 : insAt 212 43 = some (.ireturn, 1, (0, 0, 0, 0), 0) := rfl
theorem s212_43 {c : Nat → List AV → SS → Option Out} {l0 : Option AV} {x : Int32} {L2 : List (Nat × AV)} {S : SS} : ev c 212 43 [l0] L2 [aI x] S = some (.inl (some (aI x)), S) := ev_end i212_43 rfl
theorem m212 {d : Nat} {o : OId} {S : SS} : evm (d + 1) 212 [aR o] S = ev (evm d) 212 0 [some (aR o)] [] [] S := evm_s (n := 1) rfl (Nat.le_of_ble_eq_true rfl) rfl rfl
