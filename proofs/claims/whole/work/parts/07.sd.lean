/-! java/lang/StringBuilder.<init>()V -/
theorem i8_0 : insAt 8 0 = some (.aload_n 0, 1, (0, 0, 0, 0), 0) := rfl
theorem s8_0 {c : Nat → List AV → SS → Option Out} {o : OId} {L2 : List (Nat × AV)} {St : List AV} {S : SS} : ev c 8 0 [some (aR o)] L2 St S = ev c 8 1 [some (aR o)] L2 (aR o :: St) S := ev_go i8_0 rfl
theorem i8_1 : insAt 8 1 = some (.bipush 16, 2, (0, 0, 0, 0), 0) := rfl
theorem s8_1 {c : Nat → List AV → SS → Option Out} {l0 : Option AV} {L2 : List (Nat × AV)} {St : List AV} {S : SS} : ev c 8 1 [l0] L2 St S = ev c 8 3 [l0] L2 (aI 16 :: St) S := ev_go i8_1 rfl
theorem i8_3 : insAt 8 3 = some (.invokespecial 1, 3, (9, 1, 5, 1), 0) := rfl
theorem s8_3 {c : Nat → List AV → SS → Option Out} {l0 : Option AV} {a0 : Int32} {j t : Nat} {L2 : List (Nat × AV)} {S : SS} : ev c 8 3 [l0] L2 [aI a0, aR (1, j, t)] S = ck (c 9 [aR (1, j, t), aI a0] S) (fun v S' => ev c 8 6 [l0] L2 (v.toList ++ []) S') := ev_call i8_3 rfl
theorem i8_6 : insAt 8 6 = some (.return_, 1, (0, 0, 0, 0), 0) := rfl
theorem s8_6 {c : Nat → List AV → SS → Option Out} {l0 : Option AV} {L2 : List (Nat × AV)} {St : List AV} {S : SS} : ev c 8 6 [l0] L2 [] S = some (.inl none, S) := ev_end i8_6 rfl
theorem m8 {d : Nat} {o : OId} {S : SS} : evm (d + 1) 8 [aR o] S = ev (evm d) 8 0 [some (aR o)] [] [] S := evm_s (n := 1) rfl (Nat.le_of_ble_eq_true rfl) rfl rfl
/-! java/lang/AbstractStringBuilder.<init>(I)V -/
theorem i9_0 : insAt 9 0 = some (.aload_n 0, 1, (0, 0, 0, 0), 0) := rfl
theorem s9_0 {c : Nat → List AV → SS → Option Out} {l1 : Option AV} {o : OId} {L2 : List (Nat × AV)} {St : List AV} {S : SS} : ev c 9 0 [some (aR o), l1] L2 St S = ev c 9 1 [some (aR o), l1] L2 (aR o :: St) S := ev_go i9_0 rfl
theorem i9_1 : insAt 9 1 = some (.invokespecial 3, 3, (0, 0, 20, 0), 0) := rfl
theorem s9_1 {c : Nat → List AV → SS → Option Out} {l0 l1 : Option AV} {o : OId} {L2 : List (Nat × AV)} {St : List AV} {S : SS} : ev c 9 1 [l0, l1] L2 (aR o :: St) S = ev c 9 4 [l0, l1] L2 St S := ev_go i9_1 rfl
theorem i9_4 : insAt 9 4 = some (.getstatic 18, 3, (0, 0, 0, 0), 0) := rfl
theorem s9_4 {c : Nat → List AV → SS → Option Out} {l0 l1 : Option AV} {L2 : List (Nat × AV)} {St : List AV} {S : SS} : ev c 9 4 [l0, l1] L2 St S = ev c 9 7 [l0, l1] L2 (aI 1 :: St) S := ev_go i9_4 rfl
theorem i9_7 : insAt 9 7 = some (.ifCond .eq 18, 3, (0, 0, 0, 0), 0) := rfl
theorem s9_7 {c : Nat → List AV → SS → Option Out} {l0 l1 : Option AV} {x : Int32} {L2 : List (Nat × AV)} {St : List AV} {S : SS} : ev c 9 7 [l0, l1] L2 (aI x :: St) S = if x = 0 then ev c 9 25 [l0, l1] L2 St S else ev c 9 10 [l0, l1] L2 St S := ev_br i9_7 rfl
theorem i9_10 : insAt 9 10 = some (.aload_n 0, 1, (0, 0, 0, 0), 0) := rfl
theorem s9_10 {c : Nat → List AV → SS → Option Out} {l1 : Option AV} {o : OId} {L2 : List (Nat × AV)} {St : List AV} {S : SS} : ev c 9 10 [some (aR o), l1] L2 St S = ev c 9 11 [some (aR o), l1] L2 (aR o :: St) S := ev_go i9_10 rfl
theorem i9_11 : insAt 9 11 = some (.iload_n 1, 1, (0, 0, 0, 0), 0) := rfl
theorem s9_11 {c : Nat → List AV → SS → Option Out} {l0 : Option AV} {x : Int32} {L2 : List (Nat × AV)} {St : List AV} {S : SS} : ev c 9 11 [l0, some (aI x)] L2 St S = ev c 9 12 [l0, some (aI x)] L2 (aI x :: St) S := ev_go i9_11 rfl
theorem i9_12 : insAt 9 12 = some (.newarray .byte, 2, (0, 0, 0, 0), 0) := rfl
theorem i9_14 : insAt 9 14 = some (.putfield 15, 3, (1, 0, 0, 0), 0) := rfl
theorem s9_14 {c : Nat → List AV → SS → Option Out} {l0 l1 : Option AV} {j t : Nat} {p : OId} {L2 : List (Nat × AV)} {St : List AV} {S : SS} : ev c 9 14 [l0, l1] L2 (aR p :: aR (1, j, t) :: St) S = ev c 9 17 [l0, l1] L2 St (S.1, setV S.2.1 (1, j, t) 0 (aR p), S.2.2) := ev_go i9_14 rfl
theorem i9_17 : insAt 9 17 = some (.aload_n 0, 1, (0, 0, 0, 0), 0) := rfl
theorem s9_17 {c : Nat → List AV → SS → Option Out} {l1 : Option AV} {o : OId} {L2 : List (Nat × AV)} {St : List AV} {S : SS} : ev c 9 17 [some (aR o), l1] L2 St S = ev c 9 18 [some (aR o), l1] L2 (aR o :: St) S := ev_go i9_17 rfl
theorem i9_18 : insAt 9 18 = some (.iconst 0, 1, (0, 0, 0, 0), 0) := rfl
theorem s9_18 {c : Nat → List AV → SS → Option Out} {l0 l1 : Option AV} {L2 : List (Nat × AV)} {St : List AV} {S : SS} : ev c 9 18 [l0, l1] L2 St S = ev c 9 19 [l0, l1] L2 (aI 0 :: St) S := ev_go i9_18 rfl
theorem i9_19 : insAt 9 19 = some (.putfield 22, 3, (1, 1, 0, 0), 0) := rfl
theorem s9_19 {c : Nat → List AV → SS → Option Out} {l0 l1 : Option AV} {j t : Nat} {x : Int32} {L2 : List (Nat × AV)} {St : List AV} {S : SS} : ev c 9 19 [l0, l1] L2 (aI x :: aR (1, j, t) :: St) S = if by8 x = x then ev c 9 22 [l0, l1] L2 St (setI S.1 (1, j, t) 1 x, S.2) else none := ev_if i9_19 rfl
theorem i9_22 : insAt 9 22 = some (.goto 16, 3, (0, 0, 0, 0), 0) := rfl
theorem s9_22 {c : Nat → List AV → SS → Option Out} {l0 l1 : Option AV} {L2 : List (Nat × AV)} {St : List AV} {S : SS} : ev c 9 22 [l0, l1] L2 St S = ev c 9 38 [l0, l1] L2 St S := ev_go i9_22 rfl
theorem i9_25 : insAt 9 25 = some (.aload_n 0, 1, (0, 0, 0, 0), 0) := rfl
theorem s9_25 {c : Nat → List AV → SS → Option Out} {l1 : Option AV} {o : OId} {L2 : List (Nat × AV)} {St : List AV} {S : SS} : ev c 9 25 [some (aR o), l1] L2 St S = ev c 9 26 [some (aR o), l1] L2 (aR o :: St) S := ev_go i9_25 rfl
theorem i9_26 : insAt 9 26 = some (.iload_n 1, 1, (0, 0, 0, 0), 0) := rfl
theorem s9_26 {c : Nat → List AV → SS → Option Out} {l0 : Option AV} {x : Int32} {L2 : List (Nat × AV)} {St : List AV} {S : SS} : ev c 9 26 [l0, some (aI x)] L2 St S = ev c 9 27 [l0, some (aI x)] L2 (aI x :: St) S := ev_go i9_26 rfl
theorem i9_30 : insAt 9 30 = some (.putfield 15, 3, (1, 0, 0, 0), 0) := rfl
theorem s9_30 {c : Nat → List AV → SS → Option Out} {l0 l1 : Option AV} {j t : Nat} {p : OId} {L2 : List (Nat × AV)} {St : List AV} {S : SS} : ev c 9 30 [l0, l1] L2 (aR p :: aR (1, j, t) :: St) S = ev c 9 33 [l0, l1] L2 St (S.1, setV S.2.1 (1, j, t) 0 (aR p), S.2.2) := ev_go i9_30 rfl
theorem i9_33 : insAt 9 33 = some (.aload_n 0, 1, (0, 0, 0, 0), 0) := rfl
theorem s9_33 {c : Nat → List AV → SS → Option Out} {l1 : Option AV} {o : OId} {L2 : List (Nat × AV)} {St : List AV} {S : SS} : ev c 9 33 [some (aR o), l1] L2 St S = ev c 9 34 [some (aR o), l1] L2 (aR o :: St) S := ev_go i9_33 rfl
theorem i9_34 : insAt 9 34 = some (.iconst 1, 1, (0, 0, 0, 0), 0) := rfl
theorem s9_34 {c : Nat → List AV → SS → Option Out} {l0 l1 : Option AV} {L2 : List (Nat × AV)} {St : List AV} {S : SS} : ev c 9 34 [l0, l1] L2 St S = ev c 9 35 [l0, l1] L2 (aI 1 :: St) S := ev_go i9_34 rfl
theorem i9_35 : insAt 9 35 = some (.putfield 22, 3, (1, 1, 0, 0), 0) := rfl
theorem s9_35 {c : Nat → List AV → SS → Option Out} {l0 l1 : Option AV} {j t : Nat} {x : Int32} {L2 : List (Nat × AV)} {St : List AV} {S : SS} : ev c 9 35 [l0, l1] L2 (aI x :: aR (1, j, t) :: St) S = if by8 x = x then ev c 9 38 [l0, l1] L2 St (setI S.1 (1, j, t) 1 x, S.2) else none := ev_if i9_35 rfl
theorem i9_38 : insAt 9 38 = some (.return_, 1, (0, 0, 0, 0), 0) := rfl
theorem s9_38 {c : Nat → List AV → SS → Option Out} {l0 l1 : Option AV} {L2 : List (Nat × AV)} {St : List AV} {S : SS} : ev c 9 38 [l0, l1] L2 [] S = some (.inl none, S) := ev_end i9_38 rfl
theorem m9 {d : Nat} {o : OId} {a0 : Int32} {S : SS} : evm (d + 1) 9 [aR o, aI a0] S = ev (evm d) 9 0 [some (aR o), some (aI a0)] [] [] S := evm_s (n := 2) rfl (Nat.le_of_ble_eq_true rfl) rfl rfl
/-! java/lang/Math.abs(I)I -/
theorem i25_0 : insAt 25 0 = some (.iload_n 0, 1, (0, 0, 0, 0), 0) := rfl
theorem s25_0 {c : Nat → List AV → SS → Option Out} {x : Int32} {L2 : List (Nat × AV)} {St : List AV} {S : SS} : ev c 25 0 [some (aI x)] L2 St S = ev c 25 1 [some (aI x)] L2 (aI x :: St) S := ev_go i25_0 rfl
theorem i25_1 : insAt 25 1 = some (.ifCond .ge 8, 3, (0, 0, 0, 0), 0) := rfl
theorem s25_1 {c : Nat → List AV → SS → Option Out} {l0 : Option AV} {x : Int32} {L2 : List (Nat × AV)} {St : List AV} {S : SS} : ev c 25 1 [l0] L2 (aI x :: St) S = if 0 ≤ x then ev c 25 9 [l0] L2 St S else ev c 25 4 [l0] L2 St S := ev_br i25_1 rfl
theorem i25_4 : insAt 25 4 = some (.iload_n 0, 1, (0, 0, 0, 0), 0) := rfl
theorem s25_4 {c : Nat → List AV → SS → Option Out} {x : Int32} {L2 : List (Nat × AV)} {St : List AV} {S : SS} : ev c 25 4 [some (aI x)] L2 St S = ev c 25 5 [some (aI x)] L2 (aI x :: St) S := ev_go i25_4 rfl
theorem i25_5 : insAt 25 5 = some (.ineg, 1, (0, 0, 0, 0), 0) := rfl
theorem s25_5 {c : Nat → List AV → SS → Option Out} {l0 : Option AV} {x : Int32} {L2 : List (Nat × AV)} {St : List AV} {S : SS} : ev c 25 5 [l0] L2 (aI x :: St) S = ev c 25 6 [l0] L2 (aI (-x) :: St) S := ev_go i25_5 rfl
theorem i25_6 : insAt 25 6 = some (.goto 4, 3, (0, 0, 0, 0), 0) := rfl
theorem s25_6 {c : Nat → List AV → SS → Option Out} {l0 : Option AV} {L2 : List (Nat × AV)} {St : List AV} {S : SS} : ev c 25 6 [l0] L2 St S = ev c 25 10 [l0] L2 St S := ev_go i25_6 rfl
theorem i25_9 : insAt 25 9 = some (.iload_n 0, 1, (0, 0, 0, 0), 0) := rfl
theorem s25_9 {c : Nat → List AV → SS → Option Out} {x : Int32} {L2 : List (Nat × AV)} {St : List AV} {S : SS} : ev c 25 9 [some (aI x)] L2 St S = ev c 25 10 [some (aI x)] L2 (aI x :: St) S := ev_go i25_9 rfl
theorem i25_10 : insAt 25 10 = some (.ireturn, 1, (0, 0, 0, 0), 0) := rfl
theorem s25_10 {c : Nat → List AV → SS → Option Out} {l0 : Option AV} {x : Int32} {L2 : List (Nat × AV)} {St : List AV} {S : SS} : ev c 25 10 [l0] L2 [aI x] S = some (.inl (some (aI x)), S) := ev_end i25_10 rfl
theorem m25 {d : Nat} {a0 : Int32} {S : SS} : evm (d + 1) 25 [aI a0] S = ev (evm d) 25 0 [some (aI a0)] [] [] S := evm_s (n := 1) rfl (Nat.le_of_ble_eq_true rfl) rfl rfl
/-! java/lang/Math.max(II)I -/
theorem i46_0 : insAt 46 0 = some (.iload_n 0, 1, (0, 0, 0, 0), 0) := rfl
theorem s46_0 {c : Nat → List AV → SS → Option Out} {l1 : Option AV} {x : Int32} {L2 : List (Nat × AV)} {St : List AV} {S : SS} : ev c 46 0 [some (aI x), l1] L2 St S = ev c 46 1 [some (aI x), l1] L2 (aI x :: St) S := ev_go i46_0 rfl
theorem i46_1 : insAt 46 1 = some (.iload_n 1, 1, (0, 0, 0, 0), 0) := rfl
theorem s46_1 {c : Nat → List AV → SS → Option Out} {l0 : Option AV} {x : Int32} {L2 : List (Nat × AV)} {St : List AV} {S : SS} : ev c 46 1 [l0, some (aI x)] L2 St S = ev c 46 2 [l0, some (aI x)] L2 (aI x :: St) S := ev_go i46_1 rfl
theorem i46_2 : insAt 46 2 = some (.if_icmp .lt 7, 3, (0, 0, 0, 0), 0) := rfl
theorem s46_2 {c : Nat → List AV → SS → Option Out} {l0 l1 : Option AV} {x y : Int32} {L2 : List (Nat × AV)} {St : List AV} {S : SS} : ev c 46 2 [l0, l1] L2 (aI y :: aI x :: St) S = if x < y then ev c 46 9 [l0, l1] L2 St S else ev c 46 5 [l0, l1] L2 St S := ev_br i46_2 rfl
theorem i46_5 : insAt 46 5 = some (.iload_n 0, 1, (0, 0, 0, 0), 0) := rfl
theorem s46_5 {c : Nat → List AV → SS → Option Out} {l1 : Option AV} {x : Int32} {L2 : List (Nat × AV)} {St : List AV} {S : SS} : ev c 46 5 [some (aI x), l1] L2 St S = ev c 46 6 [some (aI x), l1] L2 (aI x :: St) S := ev_go i46_5 rfl
theorem i46_6 : insAt 46 6 = some (.goto 4, 3, (0, 0, 0, 0), 0) := rfl
theorem s46_6 {c : Nat → List AV → SS → Option Out} {l0 l1 : Option AV} {L2 : List (Nat × AV)} {St : List AV} {S : SS} : ev c 46 6 [l0, l1] L2 St S = ev c 46 10 [l0, l1] L2 St S := ev_go i46_6 rfl
theorem i46_9 : insAt 46 9 = some (.iload_n 1, 1, (0, 0, 0, 0), 0) := rfl
theorem s46_9 {c : Nat → List AV → SS → Option Out} {l0 : Option AV} {x : Int32} {L2 : List (Nat × AV)} {St : List AV} {S : SS} : ev c 46 9 [l0, some (aI x)] L2 St S = ev c 46 10 [l0, some (aI x)] L2 (aI x :: St) S := ev_go i46_9 rfl
theorem i46_10 : insAt 46 10 = some (.ireturn, 1, (0, 0, 0, 0), 0) := rfl
theorem s46_10 {c : Nat → List AV → SS → Option Out} {l0 l1 : Option AV} {x : Int32} {L2 : List (Nat × AV)} {St : List AV} {S : SS} : ev c 46 10 [l0, l1] L2 [aI x] S = some (.inl (some (aI x)), S) := ev_end i46_10 rfl
theorem m46 {d : Nat} {a0 : Int32} {a1 : Int32} {S : SS} : evm (d + 1) 46 [aI a0, aI a1] S = ev (evm d) 46 0 [some (aI a0), some (aI a1)] [] [] S := evm_s (n := 2) rfl (Nat.le_of_ble_eq_true rfl) rfl rfl
/-! java/lang/Long.bitCount(J)I -/
theorem i52_0 : insAt 52 0 = some (.lload_n 0, 1, (0, 0, 0, 0), 0) := rfl
theorem s52_0 {c : Nat → List AV → SS → Option Out} {l0 l1 : Option AV} {x : Int64} {L2 : List (Nat × AV)} {St : List AV} {S : SS} (h : ldL L2 0 = some x) : ev c 52 0 [l0, l1] L2 St S = ev c 52 1 [l0, l1] L2 (aL x :: St) S := ev_go i52_0 (by simp only [stepI]; exact (congrArg (fun q => match q with | some x => nx (0 + 1) [l0, l1] L2 (aL x :: St) S | none => none) h))
theorem i52_1 : insAt 52 1 = some (.lload_n 0, 1, (0, 0, 0, 0), 0) := rfl
theorem s52_1 {c : Nat → List AV → SS → Option Out} {l0 l1 : Option AV} {x : Int64} {L2 : List (Nat × AV)} {St : List AV} {S : SS} (h : ldL L2 0 = some x) : ev c 52 1 [l0, l1] L2 St S = ev c 52 2 [l0, l1] L2 (aL x :: St) S := ev_go i52_1 (by simp only [stepI]; exact (congrArg (fun q => match q with | some x => nx (1 + 1) [l0, l1] L2 (aL x :: St) S | none => none) h))
theorem i52_2 : insAt 52 2 = some (.iconst 1, 1, (0, 0, 0, 0), 0) := rfl
theorem s52_2 {c : Nat → List AV → SS → Option Out} {l0 l1 : Option AV} {L2 : List (Nat × AV)} {St : List AV} {S : SS} : ev c 52 2 [l0, l1] L2 St S = ev c 52 3 [l0, l1] L2 (aI 1 :: St) S := ev_go i52_2 rfl
theorem i52_3 : insAt 52 3 = some (.lushr, 1, (0, 0, 0, 0), 0) := rfl
theorem s52_3 {c : Nat → List AV → SS → Option Out} {l0 l1 : Option AV} {x : Int64} {y : Int32} {L2 : List (Nat × AV)} {St : List AV} {S : SS} : ev c 52 3 [l0, l1] L2 (aI y :: aL x :: St) S = ev c 52 4 [l0, l1] L2 (aL ((x.toUInt64 >>> (y.toInt64.toUInt64 &&& Int64.toUInt64 63)).toInt64) :: St) S := ev_go i52_3 rfl
theorem i52_4 : insAt 52 4 = some (.ldc2_w 314, 3, (0, 0, 0, 0), 6148914691236517205) := rfl
theorem s52_4 {c : Nat → List AV → SS → Option Out} {l0 l1 : Option AV} {L2 : List (Nat × AV)} {St : List AV} {S : SS} : ev c 52 4 [l0, l1] L2 St S = ev c 52 7 [l0, l1] L2 (aL 6148914691236517205 :: St) S := ev_go i52_4 rfl
theorem i52_7 : insAt 52 7 = some (.land, 1, (0, 0, 0, 0), 0) := rfl
theorem s52_7 {c : Nat → List AV → SS → Option Out} {l0 l1 : Option AV} {x y : Int64} {L2 : List (Nat × AV)} {St : List AV} {S : SS} : ev c 52 7 [l0, l1] L2 (aL y :: aL x :: St) S = ev c 52 8 [l0, l1] L2 (aL (x &&& y) :: St) S := ev_go i52_7 rfl
theorem i52_8 : insAt 52 8 = some (.lsub, 1, (0, 0, 0, 0), 0) := rfl
theorem s52_8 {c : Nat → List AV → SS → Option Out} {l0 l1 : Option AV} {x y : Int64} {L2 : List (Nat × AV)} {St : List AV} {S : SS} : ev c 52 8 [l0, l1] L2 (aL y :: aL x :: St) S = ev c 52 9 [l0, l1] L2 (aL (x - y) :: St) S := ev_go i52_8 rfl
theorem i52_9 : insAt 52 9 = some (.lstore_n 0, 1, (0, 0, 0, 0), 0) := rfl
theorem s52_9 {c : Nat → List AV → SS → Option Out} {l0 l1 : Option AV} {x : Int64} {L2 : List (Nat × AV)} {St : List AV} {S : SS} : ev c 52 9 [l0, l1] L2 (aL x :: St) S = ev c 52 10 [none, none] ((0, aL x) :: kil2 L2 0) St S := ev_go i52_9 rfl
theorem i52_10 : insAt 52 10 = some (.lload_n 0, 1, (0, 0, 0, 0), 0) := rfl
theorem s52_10 {c : Nat → List AV → SS → Option Out} {l0 l1 : Option AV} {x : Int64} {L2 : List (Nat × AV)} {St : List AV} {S : SS} (h : ldL L2 0 = some x) : ev c 52 10 [l0, l1] L2 St S = ev c 52 11 [l0, l1] L2 (aL x :: St) S := ev_go i52_10 (by simp only [stepI]; exact (congrArg (fun q => match q with | some x => nx (10 + 1) [l0, l1] L2 (aL x :: St) S | none => none) h))
theorem i52_11 : insAt 52 11 = some (.ldc2_w 316, 3, (0, 0, 0, 0), 3689348814741910323) := rfl
theorem s52_11 {c : Nat → List AV → SS → Option Out} {l0 l1 : Option AV} {L2 : List (Nat × AV)} {St : List AV} {S : SS} : ev c 52 11 [l0, l1] L2 St S = ev c 52 14 [l0, l1] L2 (aL 3689348814741910323 :: St) S := ev_go i52_11 rfl
theorem i52_14 : insAt 52 14 = some (.land, 1, (0, 0, 0, 0), 0) := rfl
theorem s52_14 {c : Nat → List AV → SS → Option Out} {l0 l1 : Option AV} {x y : Int64} {L2 : List (Nat × AV)} {St : List AV} {S : SS} : ev c 52 14 [l0, l1] L2 (aL y :: aL x :: St) S = ev c 52 15 [l0, l1] L2 (aL (x &&& y) :: St) S := ev_go i52_14 rfl
theorem i52_15 : insAt 52 15 = some (.lload_n 0, 1, (0, 0, 0, 0), 0) := rfl
theorem s52_15 {c : Nat → List AV → SS → Option Out} {l0 l1 : Option AV} {x : Int64} {L2 : List (Nat × AV)} {St : List AV} {S : SS} (h : ldL L2 0 = some x) : ev c 52 15 [l0, l1] L2 St S = ev c 52 16 [l0, l1] L2 (aL x :: St) S := ev_go i52_15 (by simp only [stepI]; exact (congrArg (fun q => match q with | some x => nx (15 + 1) [l0, l1] L2 (aL x :: St) S | none => none) h))
theorem i52_16 : insAt 52 16 = some (.iconst 2, 1, (0, 0, 0, 0), 0) := rfl
theorem s52_16 {c : Nat → List AV → SS → Option Out} {l0 l1 : Option AV} {L2 : List (Nat × AV)} {St : List AV} {S : SS} : ev c 52 16 [l0, l1] L2 St S = ev c 52 17 [l0, l1] L2 (aI 2 :: St) S := ev_go i52_16 rfl
theorem i52_17 : insAt 52 17 = some (.lushr, 1, (0, 0, 0, 0), 0) := rfl
theorem s52_17 {c : Nat → List AV → SS → Option Out} {l0 l1 : Option AV} {x : Int64} {y : Int32} {L2 : List (Nat × AV)} {St : List AV} {S : SS} : ev c 52 17 [l0, l1] L2 (aI y :: aL x :: St) S = ev c 52 18 [l0, l1] L2 (aL ((x.toUInt64 >>> (y.toInt64.toUInt64 &&& Int64.toUInt64 63)).toInt64) :: St) S := ev_go i52_17 rfl
theorem i52_18 : insAt 52 18 = some (.ldc2_w 316, 3, (0, 0, 0, 0), 3689348814741910323) := rfl
theorem s52_18 {c : Nat → List AV → SS → Option Out} {l0 l1 : Option AV} {L2 : List (Nat × AV)} {St : List AV} {S : SS} : ev c 52 18 [l0, l1] L2 St S = ev c 52 21 [l0, l1] L2 (aL 3689348814741910323 :: St) S := ev_go i52_18 rfl
theorem i52_21 : insAt 52 21 = some (.land, 1, (0, 0, 0, 0), 0) := rfl
theorem s52_21 {c : Nat → List AV → SS → Option Out} {l0 l1 : Option AV} {x y : Int64} {L2 : List (Nat × AV)} {St : List AV} {S : SS} : ev c 52 21 [l0, l1] L2 (aL y :: aL x :: St) S = ev c 52 22 [l0, l1] L2 (aL (x &&& y) :: St) S := ev_go i52_21 rfl
theorem i52_22 : insAt 52 22 = some (.ladd, 1, (0, 0, 0, 0), 0) := rfl
theorem s52_22 {c : Nat → List AV → SS → Option Out} {l0 l1 : Option AV} {x y : Int64} {L2 : List (Nat × AV)} {St : List AV} {S : SS} : ev c 52 22 [l0, l1] L2 (aL y :: aL x :: St) S = ev c 52 23 [l0, l1] L2 (aL (x + y) :: St) S := ev_go i52_22 rfl
theorem i52_23 : insAt 52 23 = some (.lstore_n 0, 1, (0, 0, 0, 0), 0) := rfl
theorem s52_23 {c : Nat → List AV → SS → Option Out} {l0 l1 : Option AV} {x : Int64} {L2 : List (Nat × AV)} {St : List AV} {S : SS} : ev c 52 23 [l0, l1] L2 (aL x :: St) S = ev c 52 24 [none, none] ((0, aL x) :: kil2 L2 0) St S := ev_go i52_23 rfl
theorem i52_24 : insAt 52 24 = some (.lload_n 0, 1, (0, 0, 0, 0), 0) := rfl
theorem s52_24 {c : Nat → List AV → SS → Option Out} {l0 l1 : Option AV} {x : Int64} {L2 : List (Nat × AV)} {St : List AV} {S : SS} (h : ldL L2 0 = some x) : ev c 52 24 [l0, l1] L2 St S = ev c 52 25 [l0, l1] L2 (aL x :: St) S := ev_go i52_24 (by simp only [stepI]; exact (congrArg (fun q => match q with | some x => nx (24 + 1) [l0, l1] L2 (aL x :: St) S | none => none) h))
theorem i52_25 : insAt 52 25 = some (.lload_n 0, 1, (0, 0, 0, 0), 0) := rfl
theorem s52_25 {c : Nat → List AV → SS → Option Out} {l0 l1 : Option AV} {x : Int64} {L2 : List (Nat × AV)} {St : List AV} {S : SS} (h : ldL L2 0 = some x) : ev c 52 25 [l0, l1] L2 St S = ev c 52 26 [l0, l1] L2 (aL x :: St) S := ev_go i52_25 (by simp only [stepI]; exact (congrArg (fun q => match q with | some x => nx (25 + 1) [l0, l1] L2 (aL x :: St) S | none => none) h))
theorem i52_26 : insAt 52 26 = some (.iconst 4, 1, (0, 0, 0, 0), 0) := rfl
theorem s52_26 {c : Nat → List AV → SS → Option Out} {l0 l1 : Option AV} {L2 : List (Nat × AV)} {St : List AV} {S : SS} : ev c 52 26 [l0, l1] L2 St S = ev c 52 27 [l0, l1] L2 (aI 4 :: St) S := ev_go i52_26 rfl
theorem i52_27 : insAt 52 27 = some (.lushr, 1, (0, 0, 0, 0), 0) := rfl
theorem s52_27 {c : Nat → List AV → SS → Option Out} {l0 l1 : Option AV} {x : Int64} {y : Int32} {L2 : List (Nat × AV)} {St : List AV} {S : SS} : ev c 52 27 [l0, l1] L2 (aI y :: aL x :: St) S = ev c 52 28 [l0, l1] L2 (aL ((x.toUInt64 >>> (y.toInt64.toUInt64 &&& Int64.toUInt64 63)).toInt64) :: St) S := ev_go i52_27 rfl
theorem i52_28 : insAt 52 28 = some (.ladd, 1, (0, 0, 0, 0), 0) := rfl
theorem s52_28 {c : Nat → List AV → SS → Option Out} {l0 l1 : Option AV} {x y : Int64} {L2 : List (Nat × AV)} {St : List AV} {S : SS} : ev c 52 28 [l0, l1] L2 (aL y :: aL x :: St) S = ev c 52 29 [l0, l1] L2 (aL (x + y) :: St) S := ev_go i52_28 rfl
theorem i52_29 : insAt 52 29 = some (.ldc2_w 318, 3, (0, 0, 0, 0), 1085102592571150095) := rfl
theorem s52_29 {c : Nat → List AV → SS → Option Out} {l0 l1 : Option AV} {L2 : List (Nat × AV)} {St : List AV} {S : SS} : ev c 52 29 [l0, l1] L2 St S = ev c 52 32 [l0, l1] L2 (aL 1085102592571150095 :: St) S := ev_go i52_29 rfl
theorem i52_32 : insAt 52 32 = some (.land, 1, (0, 0, 0, 0), 0) := rfl
theorem s52_32 {c : Nat → List AV → SS → Option Out} {l0 l1 : Option AV} {x y : Int64} {L2 : List (Nat × AV)} {St : List AV} {S : SS} : ev c 52 32 [l0, l1] L2 (aL y :: aL x :: St) S = ev c 52 33 [l0, l1] L2 (aL (x &&& y) :: St) S := ev_go i52_32 rfl
theorem i52_33 : insAt 52 33 = some (.lstore_n 0, 1, (0, 0, 0, 0), 0) := rfl
theorem s52_33 {c : Nat → List AV → SS → Option Out} {l0 l1 : Option AV} {x : Int64} {L2 : List (Nat × AV)} {St : List AV} {S : SS} : ev c 52 33 [l0, l1] L2 (aL x :: St) S = ev c 52 34 [none, none] ((0, aL x) :: kil2 L2 0) St S := ev_go i52_33 rfl
theorem i52_34 : insAt 52 34 = some (.lload_n 0, 1, (0, 0, 0, 0), 0) := rfl
theorem s52_34 {c : Nat → List AV → SS → Option Out} {l0 l1 : Option AV} {x : Int64} {L2 : List (Nat × AV)} {St : List AV} {S : SS} (h : ldL L2 0 = some x) : ev c 52 34 [l0, l1] L2 St S = ev c 52 35 [l0, l1] L2 (aL x :: St) S := ev_go i52_34 (by simp only [stepI]; exact (congrArg (fun q => match q with | some x => nx (34 + 1) [l0, l1] L2 (aL x :: St) S | none => none) h))
theorem i52_35 : insAt 52 35 = some (.lload_n 0, 1, (0, 0, 0, 0), 0) := rfl
theorem s52_35 {c : Nat → List AV → SS → Option Out} {l0 l1 : Option AV} {x : Int64} {L2 : List (Nat × AV)} {St : List AV} {S : SS} (h : ldL L2 0 = some x) : ev c 52 35 [l0, l1] L2 St S = ev c 52 36 [l0, l1] L2 (aL x :: St) S := ev_go i52_35 (by simp only [stepI]; exact (congrArg (fun q => match q with | some x => nx (35 + 1) [l0, l1] L2 (aL x :: St) S | none => none) h))
theorem i52_36 : insAt 52 36 = some (.bipush 8, 2, (0, 0, 0, 0), 0) := rfl
theorem s52_36 {c : Nat → List AV → SS → Option Out} {l0 l1 : Option AV} {L2 : List (Nat × AV)} {St : List AV} {S : SS} : ev c 52 36 [l0, l1] L2 St S = ev c 52 38 [l0, l1] L2 (aI 8 :: St) S := ev_go i52_36 rfl
theorem i52_38 : insAt 52 38 = some (.lushr, 1, (0, 0, 0, 0), 0) := rfl
theorem s52_38 {c : Nat → List AV → SS → Option Out} {l0 l1 : Option AV} {x : Int64} {y : Int32} {L2 : List (Nat × AV)} {St : List AV} {S : SS} : ev c 52 38 [l0, l1] L2 (aI y :: aL x :: St) S = ev c 52 39 [l0, l1] L2 (aL ((x.toUInt64 >>> (y.toInt64.toUInt64 &&& Int64.toUInt64 63)).toInt64) :: St) S := ev_go i52_38 rfl
theorem i52_39 : insAt 52 39 = some (.ladd, 1, (0, 0, 0, 0), 0) := rfl
theorem s52_39 {c : Nat → List AV → SS → Option Out} {l0 l1 : Option AV} {x y : Int64} {L2 : List (Nat × AV)} {St : List AV} {S : SS} : ev c 52 39 [l0, l1] L2 (aL y :: aL x :: St) S = ev c 52 40 [l0, l1] L2 (aL (x + y) :: St) S := ev_go i52_39 rfl
theorem i52_40 : insAt 52 40 = some (.lstore_n 0, 1, (0, 0, 0, 0), 0) := rfl
theorem s52_40 {c : Nat → List AV → SS → Option Out} {l0 l1 : Option AV} {x : Int64} {L2 : List (Nat × AV)} {St : List AV} {S : SS} : ev c 52 40 [l0, l1] L2 (aL x :: St) S = ev c 52 41 [none, none] ((0, aL x) :: kil2 L2 0) St S := ev_go i52_40 rfl
theorem i52_41 : insAt 52 41 = some (.lload_n 0, 1, (0, 0, 0, 0), 0) := rfl
theorem s52_41 {c : Nat → List AV → SS → Option Out} {l0 l1 : Option AV} {x : Int64} {L2 : List (Nat × AV)} {St : List AV} {S : SS} (h : ldL L2 0 = some x) : ev c 52 41 [l0, l1] L2 St S = ev c 52 42 [l0, l1] L2 (aL x :: St) S := ev_go i52_41 (by simp only [stepI]; exact (congrArg (fun q => match q with | some x => nx (41 + 1) [l0, l1] L2 (aL x :: St) S | none => none) h))
theorem i52_42 : insAt 52 42 = some (.lload_n 0, 1, (0, 0, 0, 0), 0) := rfl
theorem s52_42 {c : Nat → List AV → SS → Option Out} {l0 l1 : Option AV} {x : Int64} {L2 : List (Nat × AV)} {St : List AV} {S : SS} (h : ldL L2 0 = some x) : ev c 52 42 [l0, l1] L2 St S = ev c 52 43 [l0, l1] L2 (aL x :: St) S := ev_go i52_42 (by simp only [stepI]; exact (congrArg (fun q => match q with | some x => nx (42 + 1) [l0, l1] L2 (aL x :: St) S | none => none) h))
theorem i52_43 : insAt 52 43 = some (.bipush 16, 2, (0, 0, 0, 0), 0) := rfl
theorem s52_43 {c : Nat → List AV → SS → Option Out} {l0 l1 : Option AV} {L2 : List (Nat × AV)} {St : List AV} {S : SS} : ev c 52 43 [l0, l1] L2 St S = ev c 52 45 [l0, l1] L2 (aI 16 :: St) S := ev_go i52_43 rfl
theorem i52_45 : insAt 52 45 = some (.lushr, 1, (0, 0, 0, 0), 0) := rfl
theorem s52_45 {c : Nat → List AV → SS → Option Out} {l0 l1 : Option AV} {x : Int64} {y : Int32} {L2 : List (Nat × AV)} {St : List AV} {S : SS} : ev c 52 45 [l0, l1] L2 (aI y :: aL x :: St) S = ev c 52 46 [l0, l1] L2 (aL ((x.toUInt64 >>> (y.toInt64.toUInt64 &&& Int64.toUInt64 63)).toInt64) :: St) S := ev_go i52_45 rfl
theorem i52_46 : insAt 52 46 = some (.ladd, 1, (0, 0, 0, 0), 0) := rfl
theorem s52_46 {c : Nat → List AV → SS → Option Out} {l0 l1 : Option AV} {x y : Int64} {L2 : List (Nat × AV)} {St : List AV} {S : SS} : ev c 52 46 [l0, l1] L2 (aL y :: aL x :: St) S = ev c 52 47 [l0, l1] L2 (aL (x + y) :: St) S := ev_go i52_46 rfl
theorem i52_47 : insAt 52 47 = some (.lstore_n 0, 1, (0, 0, 0, 0), 0) := rfl
theorem s52_47 {c : Nat → List AV → SS → Option Out} {l0 l1 : Option AV} {x : Int64} {L2 : List (Nat × AV)} {St : List AV} {S : SS} : ev c 52 47 [l0, l1] L2 (aL x :: St) S = ev c 52 48 [none, none] ((0, aL x) :: kil2 L2 0) St S := ev_go i52_47 rfl
theorem i52_48 : insAt 52 48 = some (.lload_n 0, 1, (0, 0, 0, 0), 0) := rfl
theorem s52_48 {c : Nat → List AV → SS → Option Out} {l0 l1 : Option AV} {x : Int64} {L2 : List (Nat × AV)} {St : List AV} {S : SS} (h : ldL L2 0 = some x) : ev c 52 48 [l0, l1] L2 St S = ev c 52 49 [l0, l1] L2 (aL x :: St) S := ev_go i52_48 (by simp only [stepI]; exact (congrArg (fun q => match q with | some x => nx (48 + 1) [l0, l1] L2 (aL x :: St) S | none => none) h))
theorem i52_49 : insAt 52 49 = some (.lload_n 0, 1, (0, 0, 0, 0), 0) := rfl
theorem s52_49 {c : Nat → List AV → SS → Option Out} {l0 l1 : Option AV} {x : Int64} {L2 : List (Nat × AV)} {St : List AV} {S : SS} (h : ldL L2 0 = some x) : ev c 52 49 [l0, l1] L2 St S = ev c 52 50 [l0, l1] L2 (aL x :: St) S := ev_go i52_49 (by simp only [stepI]; exact (congrArg (fun q => match q with | some x => nx (49 + 1) [l0, l1] L2 (aL x :: St) S | none => none) h))
theorem i52_50 : insAt 52 50 = some (.bipush 32, 2, (0, 0, 0, 0), 0) := rfl
theorem s52_50 {c : Nat → List AV → SS → Option Out} {l0 l1 : Option AV} {L2 : List (Nat × AV)} {St : List AV} {S : SS} : ev c 52 50 [l0, l1] L2 St S = ev c 52 52 [l0, l1] L2 (aI 32 :: St) S := ev_go i52_50 rfl
theorem i52_52 : insAt 52 52 = some (.lushr, 1, (0, 0, 0, 0), 0) := rfl
theorem s52_52 {c : Nat → List AV → SS → Option Out} {l0 l1 : Option AV} {x : Int64} {y : Int32} {L2 : List (Nat × AV)} {St : List AV} {S : SS} : ev c 52 52 [l0, l1] L2 (aI y :: aL x :: St) S = ev c 52 53 [l0, l1] L2 (aL ((x.toUInt64 >>> (y.toInt64.toUInt64 &&& Int64.toUInt64 63)).toInt64) :: St) S := ev_go i52_52 rfl
theorem i52_53 : insAt 52 53 = some (.ladd, 1, (0, 0, 0, 0), 0) := rfl
theorem s52_53 {c : Nat → List AV → SS → Option Out} {l0 l1 : Option AV} {x y : Int64} {L2 : List (Nat × AV)} {St : List AV} {S : SS} : ev c 52 53 [l0, l1] L2 (aL y :: aL x :: St) S = ev c 52 54 [l0, l1] L2 (aL (x + y) :: St) S := ev_go i52_53 rfl
theorem i52_54 : insAt 52 54 = some (.lstore_n 0, 1, (0, 0, 0, 0), 0) := rfl
theorem s52_54 {c : Nat → List AV → SS → Option Out} {l0 l1 : Option AV} {x : Int64} {L2 : List (Nat × AV)} {St : List AV} {S : SS} : ev c 52 54 [l0, l1] L2 (aL x :: St) S = ev c 52 55 [none, none] ((0, aL x) :: kil2 L2 0) St S := ev_go i52_54 rfl
theorem i52_55 : insAt 52 55 = some (.lload_n 0, 1, (0, 0, 0, 0), 0) := rfl
theorem s52_55 {c : Nat → List AV → SS → Option Out} {l0 l1 : Option AV} {x : Int64} {L2 : List (Nat × AV)} {St : List AV} {S : SS} (h : ldL L2 0 = some x) : ev c 52 55 [l0, l1] L2 St S = ev c 52 56 [l0, l1] L2 (aL x :: St) S := ev_go i52_55 (by simp only [stepI]; exact (congrArg (fun q => match q with | some x => nx (55 + 1) [l0, l1] L2 (aL x :: St) S | none => none) h))
theorem i52_56 : insAt 52 56 = some (.l2i, 1, (0, 0, 0, 0), 0) := rfl
theorem s52_56 {c : Nat → List AV → SS → Option Out} {l0 l1 : Option AV} {x : Int64} {L2 : List (Nat × AV)} {St : List AV} {S : SS} : ev c 52 56 [l0, l1] L2 (aL x :: St) S = ev c 52 57 [l0, l1] L2 (aI x.toInt32 :: St) S := ev_go i52_56 rfl
theorem i52_57 : insAt 52 57 = some (.bipush 127, 2, (0, 0, 0, 0), 0) := rfl
theorem s52_57 {c : Nat → List AV → SS → Option Out} {l0 l1 : Option AV} {L2 : List (Nat × AV)} {St : List AV} {S : SS} : ev c 52 57 [l0, l1] L2 St S = ev c 52 59 [l0, l1] L2 (aI 127 :: St) S := ev_go i52_57 rfl
theorem i52_59 : insAt 52 59 = some (.iand, 1, (0, 0, 0, 0), 0) := rfl
theorem s52_59 {c : Nat → List AV → SS → Option Out} {l0 l1 : Option AV} {x y : Int32} {L2 : List (Nat × AV)} {St : List AV} {S : SS} : ev c 52 59 [l0, l1] L2 (aI y :: aI x :: St) S = ev c 52 60 [l0, l1] L2 (aI (x &&& y) :: St) S := ev_go i52_59 rfl
theorem i52_60 : insAt 52 60 = some (.ireturn, 1, (0, 0, 0, 0), 0) := rfl
theorem s52_60 {c : Nat → List AV → SS → Option Out} {l0 l1 : Option AV} {x : Int32} {L2 : List (Nat × AV)} {St : List AV} {S : SS} : ev c 52 60 [l0, l1] L2 [aI x] S = some (.inl (some (aI x)), S) := ev_end i52_60 rfl
theorem m52 {d : Nat} {a0 : Int64} {S : SS} : evm (d + 1) 52 [aL a0] S = ev (evm d) 52 0 [none, none] [(0, aL a0)] [] S := evm_s (n := 2) rfl (Nat.le_of_ble_eq_true rfl) rfl rfl
/-! java/lang/Math.min(II)I -/
theorem i53_0 : insAt 53 0 = some (.iload_n 0, 1, (0, 0, 0, 0), 0) := rfl
theorem s53_0 {c : Nat → List AV → SS → Option Out} {l1 : Option AV} {x : Int32} {L2 : List (Nat × AV)} {St : List AV} {S : SS} : ev c 53 0 [some (aI x), l1] L2 St S = ev c 53 1 [some (aI x), l1] L2 (aI x :: St) S := ev_go i53_0 rfl
theorem i53_1 : insAt 53 1 = some (.iload_n 1, 1, (0, 0, 0, 0), 0) := rfl
theorem s53_1 {c : Nat → List AV → SS → Option Out} {l0 : Option AV} {x : Int32} {L2 : List (Nat × AV)} {St : List AV} {S : SS} : ev c 53 1 [l0, some (aI x)] L2 St S = ev c 53 2 [l0, some (aI x)] L2 (aI x :: St) S := ev_go i53_1 rfl
theorem i53_2 : insAt 53 2 = some (.if_icmp .gt 7, 3, (0, 0, 0, 0), 0) := rfl
theorem s53_2 {c : Nat → List AV → SS → Option Out} {l0 l1 : Option AV} {x y : Int32} {L2 : List (Nat × AV)} {St : List AV} {S : SS} : ev c 53 2 [l0, l1] L2 (aI y :: aI x :: St) S = if y < x then ev c 53 9 [l0, l1] L2 St S else ev c 53 5 [l0, l1] L2 St S := ev_br i53_2 rfl
theorem i53_5 : insAt 53 5 = some (.iload_n 0, 1, (0, 0, 0, 0), 0) := rfl
theorem s53_5 {c : Nat → List AV → SS → Option Out} {l1 : Option AV} {x : Int32} {L2 : List (Nat × AV)} {St : List AV} {S : SS} : ev c 53 5 [some (aI x), l1] L2 St S = ev c 53 6 [some (aI x), l1] L2 (aI x :: St) S := ev_go i53_5 rfl
theorem i53_6 : insAt 53 6 = some (.goto 4, 3, (0, 0, 0, 0), 0) := rfl
theorem s53_6 {c : Nat → List AV → SS → Option Out} {l0 l1 : Option AV} {L2 : List (Nat × AV)} {St : List AV} {S : SS} : ev c 53 6 [l0, l1] L2 St S = ev c 53 10 [l0, l1] L2 St S := ev_go i53_6 rfl
theorem i53_9 : insAt 53 9 = some (.iload_n 1, 1, (0, 0, 0, 0), 0) := rfl
theorem s53_9 {c : Nat → List AV → SS → Option Out} {l0 : Option AV} {x : Int32} {L2 : List (Nat × AV)} {St : List AV} {S : SS} : ev c 53 9 [l0, some (aI x)] L2 St S = ev c 53 10 [l0, some (aI x)] L2 (aI x :: St) S := ev_go i53_9 rfl
theorem i53_10 : insAt 53 10 = some (.ireturn, 1, (0, 0, 0, 0), 0) := rfl
theorem s53_10 {c : Nat → List AV → SS → Option Out} {l0 l1 : Option AV} {x : Int32} {L2 : List (Nat × AV)} {St : List AV} {S : SS} : ev c 53 10 [l0, l1] L2 [aI x] S = some (.inl (some (aI x)), S) := ev_end i53_10 rfl
theorem m53 {d : Nat} {a0 : Int32} {a1 : Int32} {S : SS} : evm (d + 1) 53 [aI a0, aI a1] S = ev (evm d) 53 0 [some (aI a0), some (aI a1)] [] [] S := evm_s (n := 2) rfl (Nat.le_of_ble_eq_true rfl) rfl rfl
/-! java/lang/StringBuilder.setLength(I)V -/
theorem i175_0 : insAt 175 0 = some (.aload_n 0, 1, (0, 0, 0, 0), 0) := rfl
theorem s175_0 {c : Nat → List AV → SS → Option Out} {l1 : Option AV} {o : OId} {L2 : List (Nat × AV)} {St : List AV} {S : SS} : ev c 175 0 [some (aR o), l1] L2 St S = ev c 175 1 [some (aR o), l1] L2 (aR o :: St) S := ev_go i175_0 rfl
theorem i175_1 : insAt 175 1 = some (.iload_n 1, 1, (0, 0, 0, 0), 0) := rfl
theorem s175_1 {c : Nat → List AV → SS → Option Out} {l0 : Option AV} {x : Int32} {L2 : List (Nat × AV)} {St : List AV} {S : SS} : ev c 175 1 [l0, some (aI x)] L2 St S = ev c 175 2 [l0, some (aI x)] L2 (aI x :: St) S := ev_go i175_1 rfl
theorem i175_2 : insAt 175 2 = some (.invokespecial 333, 3, (176, 1, 7, 1), 0) := rfl
theorem s175_2 {c : Nat → List AV → SS → Option Out} {l0 l1 : Option AV} {a0 : Int32} {j t : Nat} {L2 : List (Nat × AV)} {S : SS} : ev c 175 2 [l0, l1] L2 [aI a0, aR (1, j, t)] S = ck (c 176 [aR (1, j, t), aI a0] S) (fun v S' => ev c 175 5 [l0, l1] L2 (v.toList ++ []) S') := ev_call i175_2 rfl
theorem i175_5 : insAt 175 5 = some (.return_, 1, (0, 0, 0, 0), 0) := rfl
theorem s175_5 {c : Nat → List AV → SS → Option Out} {l0 l1 : Option AV} {L2 : List (Nat × AV)} {St : List AV} {S : SS} : ev c 175 5 [l0, l1] L2 [] S = some (.inl none, S) := ev_end i175_5 rfl
theorem m175 {d : Nat} {o : OId} {a0 : Int32} {S : SS} : evm (d + 1) 175 [aR o, aI a0] S = ev (evm d) 175 0 [some (aR o), some (aI a0)] [] [] S := evm_s (n := 2) rfl (Nat.le_of_ble_eq_true rfl) rfl rfl
/-! java/lang/AbstractStringBuilder.setLength(I)V -/
theorem i176_0 : insAt 176 0 = some (.iload_n 1, 1, (0, 0, 0, 0), 0) := rfl
theorem s176_0 {c : Nat → List AV → SS → Option Out} {l0 : Option AV} {x : Int32} {L2 : List (Nat × AV)} {St : List AV} {S : SS} : ev c 176 0 [l0, some (aI x)] L2 St S = ev c 176 1 [l0, some (aI x)] L2 (aI x :: St) S := ev_go i176_0 rfl
theorem i176_1 : insAt 176 1 = some (.ifCond .ge 12, 3, (0, 0, 0, 0), 0) := rfl
theorem s176_1 {c : Nat → List AV → SS → Option Out} {l0 l1 : Option AV} {x : Int32} {L2 : List (Nat × AV)} {St : List AV} {S : SS} : ev c 176 1 [l0, l1] L2 (aI x :: St) S = if 0 ≤ x then ev c 176 13 [l0, l1] L2 St S else ev c 176 4 [l0, l1] L2 St S := ev_br i176_1 rfl
theorem i176_4 : insAt 176 4 = some (.new 129, 3, (3, 0, 0, 0), 0) := rfl
theorem i176_7 : insAt 176 7 = some (.dup, 1, (0, 0, 0, 0), 0) := rfl
theorem s176_7 {c : Nat → List AV → SS → Option Out} {l0 l1 : Option AV} {x : OId} {L2 : List (Nat × AV)} {St : List AV} {S : SS} : ev c 176 7 [l0, l1] L2 (aR x :: St) S = ev c 176 8 [l0, l1] L2 (aR x :: aR x :: St) S := ev_go i176_7 rfl
theorem i176_8 : insAt 176 8 = some (.iload_n 1, 1, (0, 0, 0, 0), 0) := rfl
theorem s176_8 {c : Nat → List AV → SS → Option Out} {l0 : Option AV} {x : Int32} {L2 : List (Nat × AV)} {St : List AV} {S : SS} : ev c 176 8 [l0, some (aI x)] L2 St S = ev c 176 9 [l0, some (aI x)] L2 (aI x :: St) S := ev_go i176_8 rfl
theorem i176_13 : insAt 176 13 = some (.aload_n 0, 1, (0, 0, 0, 0), 0) := rfl
theorem s176_13 {c : Nat → List AV → SS → Option Out} {l1 : Option AV} {o : OId} {L2 : List (Nat × AV)} {St : List AV} {S : SS} : ev c 176 13 [some (aR o), l1] L2 St S = ev c 176 14 [some (aR o), l1] L2 (aR o :: St) S := ev_go i176_13 rfl
theorem i176_14 : insAt 176 14 = some (.iload_n 1, 1, (0, 0, 0, 0), 0) := rfl
theorem s176_14 {c : Nat → List AV → SS → Option Out} {l0 : Option AV} {x : Int32} {L2 : List (Nat × AV)} {St : List AV} {S : SS} : ev c 176 14 [l0, some (aI x)] L2 St S = ev c 176 15 [l0, some (aI x)] L2 (aI x :: St) S := ev_go i176_14 rfl
theorem i176_15 : insAt 176 15 = some (.invokevirtual 100, 3, (179, 1, 4, 1), 0) := rfl
theorem s176_15 {c : Nat → List AV → SS → Option Out} {l0 l1 : Option AV} {a0 : Int32} {j t : Nat} {L2 : List (Nat × AV)} {S : SS} : ev c 176 15 [l0, l1] L2 [aI a0, aR (1, j, t)] S = ck (c 179 [aR (1, j, t), aI a0] S) (fun v S' => ev c 176 18 [l0, l1] L2 (v.toList ++ []) S') := ev_call i176_15 rfl
theorem i176_18 : insAt 176 18 = some (.aload_n 0, 1, (0, 0, 0, 0), 0) := rfl
theorem s176_18 {c : Nat → List AV → SS → Option Out} {l1 : Option AV} {o : OId} {L2 : List (Nat × AV)} {St : List AV} {S : SS} : ev c 176 18 [some (aR o), l1] L2 St S = ev c 176 19 [some (aR o), l1] L2 (aR o :: St) S := ev_go i176_18 rfl
theorem i176_19 : insAt 176 19 = some (.getfield 79, 3, (1, 3, 0, 0), 0) := rfl
theorem s176_19 {c : Nat → List AV → SS → Option Out} {l0 l1 : Option AV} {j t : Nat} {L2 : List (Nat × AV)} {St : List AV} {S : SS} : ev c 176 19 [l0, l1] L2 (aR (1, j, t) :: St) S = ev c 176 22 [l0, l1] L2 (aI (S.1 (1, j, t) 3) :: St) S := ev_go i176_19 rfl
theorem i176_22 : insAt 176 22 = some (.iload_n 1, 1, (0, 0, 0, 0), 0) := rfl
theorem s176_22 {c : Nat → List AV → SS → Option Out} {l0 : Option AV} {x : Int32} {L2 : List (Nat × AV)} {St : List AV} {S : SS} : ev c 176 22 [l0, some (aI x)] L2 St S = ev c 176 23 [l0, some (aI x)] L2 (aI x :: St) S := ev_go i176_22 rfl
theorem i176_23 : insAt 176 23 = some (.if_icmp .ge 40, 3, (0, 0, 0, 0), 0) := rfl
theorem s176_23 {c : Nat → List AV → SS → Option Out} {l0 l1 : Option AV} {x y : Int32} {L2 : List (Nat × AV)} {St : List AV} {S : SS} : ev c 176 23 [l0, l1] L2 (aI y :: aI x :: St) S = if y ≤ x then ev c 176 63 [l0, l1] L2 St S else ev c 176 26 [l0, l1] L2 St S := ev_br i176_23 rfl
theorem i176_26 : insAt 176 26 = some (.aload_n 0, 1, (0, 0, 0, 0), 0) := rfl
theorem s176_26 {c : Nat → List AV → SS → Option Out} {l1 : Option AV} {o : OId} {L2 : List (Nat × AV)} {St : List AV} {S : SS} : ev c 176 26 [some (aR o), l1] L2 St S = ev c 176 27 [some (aR o), l1] L2 (aR o :: St) S := ev_go i176_26 rfl
theorem i176_27 : insAt 176 27 = some (.invokevirtual 83, 3, (183, 0, 4, 1), 0) := rfl
theorem s176_27 {c : Nat → List AV → SS → Option Out} {l0 l1 : Option AV} {j t : Nat} {L2 : List (Nat × AV)} {S : SS} : ev c 176 27 [l0, l1] L2 [aR (1, j, t)] S = ck (c 183 [aR (1, j, t)] S) (fun v S' => ev c 176 30 [l0, l1] L2 (v.toList ++ []) S') := ev_call i176_27 rfl
theorem i176_30 : insAt 176 30 = some (.ifCond .eq 18, 3, (0, 0, 0, 0), 0) := rfl
theorem s176_30 {c : Nat → List AV → SS → Option Out} {l0 l1 : Option AV} {x : Int32} {L2 : List (Nat × AV)} {St : List AV} {S : SS} : ev c 176 30 [l0, l1] L2 (aI x :: St) S = if x = 0 then ev c 176 48 [l0, l1] L2 St S else ev c 176 33 [l0, l1] L2 St S := ev_br i176_30 rfl
theorem i176_33 : insAt 176 33 = some (.aload_n 0, 1, (0, 0, 0, 0), 0) := rfl
theorem s176_33 {c : Nat → List AV → SS → Option Out} {l1 : Option AV} {o : OId} {L2 : List (Nat × AV)} {St : List AV} {S : SS} : ev c 176 33 [some (aR o), l1] L2 St S = ev c 176 34 [some (aR o), l1] L2 (aR o :: St) S := ev_go i176_33 rfl
theorem i176_34 : insAt 176 34 = some (.getfield 15, 3, (1, 0, 0, 0), 0) := rfl
theorem s176_34 {c : Nat → List AV → SS → Option Out} {l0 l1 : Option AV} {j t : Nat} {L2 : List (Nat × AV)} {St : List AV} {S : SS} : ev c 176 34 [l0, l1] L2 (aR (1, j, t) :: St) S = ev c 176 37 [l0, l1] L2 (S.2.1 (1, j, t) 0 :: St) S := ev_go i176_34 rfl
theorem i176_37 : insAt 176 37 = some (.aload_n 0, 1, (0, 0, 0, 0), 0) := rfl
theorem s176_37 {c : Nat → List AV → SS → Option Out} {l1 : Option AV} {o : OId} {L2 : List (Nat × AV)} {St : List AV} {S : SS} : ev c 176 37 [some (aR o), l1] L2 St S = ev c 176 38 [some (aR o), l1] L2 (aR o :: St) S := ev_go i176_37 rfl
theorem i176_38 : insAt 176 38 = some (.getfield 79, 3, (1, 3, 0, 0), 0) := rfl
theorem s176_38 {c : Nat → List AV → SS → Option Out} {l0 l1 : Option AV} {j t : Nat} {L2 : List (Nat × AV)} {St : List AV} {S : SS} : ev c 176 38 [l0, l1] L2 (aR (1, j, t) :: St) S = ev c 176 41 [l0, l1] L2 (aI (S.1 (1, j, t) 3) :: St) S := ev_go i176_38 rfl
theorem i176_41 : insAt 176 41 = some (.iload_n 1, 1, (0, 0, 0, 0), 0) := rfl
theorem s176_41 {c : Nat → List AV → SS → Option Out} {l0 : Option AV} {x : Int32} {L2 : List (Nat × AV)} {St : List AV} {S : SS} : ev c 176 41 [l0, some (aI x)] L2 St S = ev c 176 42 [l0, some (aI x)] L2 (aI x :: St) S := ev_go i176_41 rfl
theorem i176_45 : insAt 176 45 = some (.goto 31, 3, (0, 0, 0, 0), 0) := rfl
theorem s176_45 {c : Nat → List AV → SS → Option Out} {l0 l1 : Option AV} {L2 : List (Nat × AV)} {St : List AV} {S : SS} : ev c 176 45 [l0, l1] L2 St S = ev c 176 76 [l0, l1] L2 St S := ev_go i176_45 rfl
theorem i176_48 : insAt 176 48 = some (.aload_n 0, 1, (0, 0, 0, 0), 0) := rfl
theorem s176_48 {c : Nat → List AV → SS → Option Out} {l1 : Option AV} {o : OId} {L2 : List (Nat × AV)} {St : List AV} {S : SS} : ev c 176 48 [some (aR o), l1] L2 St S = ev c 176 49 [some (aR o), l1] L2 (aR o :: St) S := ev_go i176_48 rfl
theorem i176_49 : insAt 176 49 = some (.getfield 15, 3, (1, 0, 0, 0), 0) := rfl
theorem s176_49 {c : Nat → List AV → SS → Option Out} {l0 l1 : Option AV} {j t : Nat} {L2 : List (Nat × AV)} {St : List AV} {S : SS} : ev c 176 49 [l0, l1] L2 (aR (1, j, t) :: St) S = ev c 176 52 [l0, l1] L2 (S.2.1 (1, j, t) 0 :: St) S := ev_go i176_49 rfl
theorem i176_52 : insAt 176 52 = some (.aload_n 0, 1, (0, 0, 0, 0), 0) := rfl
theorem s176_52 {c : Nat → List AV → SS → Option Out} {l1 : Option AV} {o : OId} {L2 : List (Nat × AV)} {St : List AV} {S : SS} : ev c 176 52 [some (aR o), l1] L2 St S = ev c 176 53 [some (aR o), l1] L2 (aR o :: St) S := ev_go i176_52 rfl
theorem i176_53 : insAt 176 53 = some (.getfield 79, 3, (1, 3, 0, 0), 0) := rfl
theorem s176_53 {c : Nat → List AV → SS → Option Out} {l0 l1 : Option AV} {j t : Nat} {L2 : List (Nat × AV)} {St : List AV} {S : SS} : ev c 176 53 [l0, l1] L2 (aR (1, j, t) :: St) S = ev c 176 56 [l0, l1] L2 (aI (S.1 (1, j, t) 3) :: St) S := ev_go i176_53 rfl
theorem i176_56 : insAt 176 56 = some (.iload_n 1, 1, (0, 0, 0, 0), 0) := rfl
theorem s176_56 {c : Nat → List AV → SS → Option Out} {l0 : Option AV} {x : Int32} {L2 : List (Nat × AV)} {St : List AV} {S : SS} : ev c 176 56 [l0, some (aI x)] L2 St S = ev c 176 57 [l0, some (aI x)] L2 (aI x :: St) S := ev_go i176_56 rfl
theorem i176_60 : insAt 176 60 = some (.goto 16, 3, (0, 0, 0, 0), 0) := rfl
theorem s176_60 {c : Nat → List AV → SS → Option Out} {l0 l1 : Option AV} {L2 : List (Nat × AV)} {St : List AV} {S : SS} : ev c 176 60 [l0, l1] L2 St S = ev c 176 76 [l0, l1] L2 St S := ev_go i176_60 rfl
theorem i176_63 : insAt 176 63 = some (.aload_n 0, 1, (0, 0, 0, 0), 0) := rfl
theorem s176_63 {c : Nat → List AV → SS → Option Out} {l1 : Option AV} {o : OId} {L2 : List (Nat × AV)} {St : List AV} {S : SS} : ev c 176 63 [some (aR o), l1] L2 St S = ev c 176 64 [some (aR o), l1] L2 (aR o :: St) S := ev_go i176_63 rfl
theorem i176_64 : insAt 176 64 = some (.getfield 79, 3, (1, 3, 0, 0), 0) := rfl
theorem s176_64 {c : Nat → List AV → SS → Option Out} {l0 l1 : Option AV} {j t : Nat} {L2 : List (Nat × AV)} {St : List AV} {S : SS} : ev c 176 64 [l0, l1] L2 (aR (1, j, t) :: St) S = ev c 176 67 [l0, l1] L2 (aI (S.1 (1, j, t) 3) :: St) S := ev_go i176_64 rfl
theorem i176_67 : insAt 176 67 = some (.iload_n 1, 1, (0, 0, 0, 0), 0) := rfl
theorem s176_67 {c : Nat → List AV → SS → Option Out} {l0 : Option AV} {x : Int32} {L2 : List (Nat × AV)} {St : List AV} {S : SS} : ev c 176 67 [l0, some (aI x)] L2 St S = ev c 176 68 [l0, some (aI x)] L2 (aI x :: St) S := ev_go i176_67 rfl
theorem i176_68 : insAt 176 68 = some (.if_icmp .le 8, 3, (0, 0, 0, 0), 0) := rfl
theorem s176_68 {c : Nat → List AV → SS → Option Out} {l0 l1 : Option AV} {x y : Int32} {L2 : List (Nat × AV)} {St : List AV} {S : SS} : ev c 176 68 [l0, l1] L2 (aI y :: aI x :: St) S = if x ≤ y then ev c 176 76 [l0, l1] L2 St S else ev c 176 71 [l0, l1] L2 St S := ev_br i176_68 rfl
theorem i176_71 : insAt 176 71 = some (.aload_n 0, 1, (0, 0, 0, 0), 0) := rfl
theorem s176_71 {c : Nat → List AV → SS → Option Out} {l1 : Option AV} {o : OId} {L2 : List (Nat × AV)} {St : List AV} {S : SS} : ev c 176 71 [some (aR o), l1] L2 St S = ev c 176 72 [some (aR o), l1] L2 (aR o :: St) S := ev_go i176_71 rfl
theorem i176_72 : insAt 176 72 = some (.iconst 1, 1, (0, 0, 0, 0), 0) := rfl
theorem s176_72 {c : Nat → List AV → SS → Option Out} {l0 l1 : Option AV} {L2 : List (Nat × AV)} {St : List AV} {S : SS} : ev c 176 72 [l0, l1] L2 St S = ev c 176 73 [l0, l1] L2 (aI 1 :: St) S := ev_go i176_72 rfl
theorem i176_73 : insAt 176 73 = some (.putfield 73, 3, (1, 2, 0, 0), 0) := rfl
theorem s176_73 {c : Nat → List AV → SS → Option Out} {l0 l1 : Option AV} {j t : Nat} {x : Int32} {L2 : List (Nat × AV)} {St : List AV} {S : SS} : ev c 176 73 [l0, l1] L2 (aI x :: aR (1, j, t) :: St) S = if x = 0 ∨ x = 1 then ev c 176 76 [l0, l1] L2 St (setI S.1 (1, j, t) 2 x, S.2) else none := ev_if i176_73 rfl
theorem i176_76 : insAt 176 76 = some (.aload_n 0, 1, (0, 0, 0, 0), 0) := rfl
theorem s176_76 {c : Nat → List AV → SS → Option Out} {l1 : Option AV} {o : OId} {L2 : List (Nat × AV)} {St : List AV} {S : SS} : ev c 176 76 [some (aR o), l1] L2 St S = ev c 176 77 [some (aR o), l1] L2 (aR o :: St) S := ev_go i176_76 rfl
theorem i176_77 : insAt 176 77 = some (.iload_n 1, 1, (0, 0, 0, 0), 0) := rfl
theorem s176_77 {c : Nat → List AV → SS → Option Out} {l0 : Option AV} {x : Int32} {L2 : List (Nat × AV)} {St : List AV} {S : SS} : ev c 176 77 [l0, some (aI x)] L2 St S = ev c 176 78 [l0, some (aI x)] L2 (aI x :: St) S := ev_go i176_77 rfl
theorem i176_78 : insAt 176 78 = some (.putfield 79, 3, (1, 3, 0, 0), 0) := rfl
theorem s176_78 {c : Nat → List AV → SS → Option Out} {l0 l1 : Option AV} {j t : Nat} {x : Int32} {L2 : List (Nat × AV)} {St : List AV} {S : SS} : ev c 176 78 [l0, l1] L2 (aI x :: aR (1, j, t) :: St) S = ev c 176 81 [l0, l1] L2 St (setI S.1 (1, j, t) 3 x, S.2) := ev_go i176_78 rfl
theorem i176_81 : insAt 176 81 = some (.return_, 1, (0, 0, 0, 0), 0) := rfl
theorem s176_81 {c : Nat → List AV → SS → Option Out} {l0 l1 : Option AV} {L2 : List (Nat × AV)} {St : List AV} {S : SS} : ev c 176 81 [l0, l1] L2 [] S = some (.inl none, S) := ev_end i176_81 rfl
theorem m176 {d : Nat} {o : OId} {a0 : Int32} {S : SS} : evm (d + 1) 176 [aR o, aI a0] S = ev (evm d) 176 0 [some (aR o), some (aI a0)] [] [] S := evm_s (n := 2) rfl (Nat.le_of_ble_eq_true rfl) rfl rfl
/-! java/lang/StringBuilder.append(Ljava/lang/String;)Ljava/lang/StringBuilder; -/
theorem i177_0 : insAt 177 0 = some (.aload_n 0, 1, (0, 0, 0, 0), 0) := rfl
theorem s177_0 {c : Nat → List AV → SS → Option Out} {l1 : Option AV} {o : OId} {L2 : List (Nat × AV)} {St : List AV} {S : SS} : ev c 177 0 [some (aR o), l1] L2 St S = ev c 177 1 [some (aR o), l1] L2 (aR o :: St) S := ev_go i177_0 rfl
theorem i177_1 : insAt 177 1 = some (.aload_n 1, 1, (0, 0, 0, 0), 0) := rfl
theorem s177_1 {c : Nat → List AV → SS → Option Out} {l0 : Option AV} {o : OId} {L2 : List (Nat × AV)} {St : List AV} {S : SS} : ev c 177 1 [l0, some (aR o)] L2 St S = ev c 177 2 [l0, some (aR o)] L2 (aR o :: St) S := ev_go i177_1 rfl
theorem i177_2 : insAt 177 2 = some (.invokespecial 29, 3, (178, 1, 7, 1), 0) := rfl
theorem s177_2 {c : Nat → List AV → SS → Option Out} {l0 l1 : Option AV} {a0 : OId} {j t : Nat} {L2 : List (Nat × AV)} {S : SS} : ev c 177 2 [l0, l1] L2 [aR a0, aR (1, j, t)] S = ck (c 178 [aR (1, j, t), aR a0] S) (fun v S' => ev c 177 5 [l0, l1] L2 (v.toList ++ []) S') := ev_call i177_2 rfl
theorem i177_5 : insAt 177 5 = some (.pop, 1, (0, 0, 0, 0), 0) := rfl
theorem s177_5 {c : Nat → List AV → SS → Option Out} {l0 l1 : Option AV} {x : OId} {L2 : List (Nat × AV)} {St : List AV} {S : SS} : ev c 177 5 [l0, l1] L2 (aR x :: St) S = ev c 177 6 [l0, l1] L2 (St) S := ev_go i177_5 rfl
theorem i177_6 : insAt 177 6 = some (.aload_n 0, 1, (0, 0, 0, 0), 0) := rfl
theorem s177_6 {c : Nat → List AV → SS → Option Out} {l1 : Option AV} {o : OId} {L2 : List (Nat × AV)} {St : List AV} {S : SS} : ev c 177 6 [some (aR o), l1] L2 St S = ev c 177 7 [some (aR o), l1] L2 (aR o :: St) S := ev_go i177_6 rfl
theorem i177_7 : insAt 177 7 = some (.areturn, 1, (0, 0, 0, 0), 0) := rfl
theorem s177_7 {c : Nat → List AV → SS → Option Out} {l0 l1 : Option AV} {o : OId} {L2 : List (Nat × AV)} {St : List AV} {S : SS} : ev c 177 7 [l0, l1] L2 [aR o] S = some (.inl (some (aR o)), S) := ev_end i177_7 rfl
theorem s177_7N {c : Nat → List AV → SS → Option Out} {l0 l1 : Option AV} {L2 : List (Nat × AV)} {S : SS} : ev c 177 7 [l0, l1] L2 [aN] S = some (.inl (some aN), S) := ev_end i177_7 rfl
theorem m177 {d : Nat} {o : OId} {a0 : OId} {S : SS} : evm (d + 1) 177 [aR o, aR a0] S = ev (evm d) 177 0 [some (aR o), some (aR a0)] [] [] S := evm_s (n := 2) rfl (Nat.le_of_ble_eq_true rfl) rfl rfl
/-! java/lang/AbstractStringBuilder.append(Ljava/lang/String;)Ljava/lang/AbstractStringBuilder; -/
theorem i178_0 : insAt 178 0 = some (.aload_n 1, 1, (0, 0, 0, 0), 0) := rfl
theorem s178_0 {c : Nat → List AV → SS → Option Out} {l0 l2 : Option AV} {o : OId} {L2 : List (Nat × AV)} {St : List AV} {S : SS} : ev c 178 0 [l0, some (aR o), l2] L2 St S = ev c 178 1 [l0, some (aR o), l2] L2 (aR o :: St) S := ev_go i178_0 rfl
theorem i178_1 : insAt 178 1 = some (.ifnonnull 8, 3, (0, 0, 0, 0), 0) := rfl
theorem s178_1 {c : Nat → List AV → SS → Option Out} {l0 l1 l2 : Option AV} {j t : Nat} {L2 : List (Nat × AV)} {St : List AV} {S : SS} : ev c 178 1 [l0, l1, l2] L2 (aR (0, j, t) :: St) S = ev c 178 9 [l0, l1, l2] L2 St S := ev_go i178_1 rfl
theorem s178_1N {c : Nat → List AV → SS → Option Out} {l0 l1 l2 : Option AV} {L2 : List (Nat × AV)} {St : List AV} {S : SS} : ev c 178 1 [l0, l1, l2] L2 (aN :: St) S = ev c 178 4 [l0, l1, l2] L2 St S := ev_go i178_1 rfl
theorem i178_4 : insAt 178 4 = some (.aload_n 0, 1, (0, 0, 0, 0), 0) := rfl
theorem s178_4 {c : Nat → List AV → SS → Option Out} {l1 l2 : Option AV} {o : OId} {L2 : List (Nat × AV)} {St : List AV} {S : SS} : ev c 178 4 [some (aR o), l1, l2] L2 St S = ev c 178 5 [some (aR o), l1, l2] L2 (aR o :: St) S := ev_go i178_4 rfl
theorem i178_8 : insAt 178 8 = some (.areturn, 1, (0, 0, 0, 0), 0) := rfl
theorem s178_8 {c : Nat → List AV → SS → Option Out} {l0 l1 l2 : Option AV} {o : OId} {L2 : List (Nat × AV)} {St : List AV} {S : SS} : ev c 178 8 [l0, l1, l2] L2 [aR o] S = some (.inl (some (aR o)), S) := ev_end i178_8 rfl
theorem s178_8N {c : Nat → List AV → SS → Option Out} {l0 l1 l2 : Option AV} {L2 : List (Nat × AV)} {S : SS} : ev c 178 8 [l0, l1, l2] L2 [aN] S = some (.inl (some aN), S) := ev_end i178_8 rfl
theorem i178_9 : insAt 178 9 = some (.aload_n 1, 1, (0, 0, 0, 0), 0) := rfl
theorem s178_9 {c : Nat → List AV → SS → Option Out} {l0 l2 : Option AV} {o : OId} {L2 : List (Nat × AV)} {St : List AV} {S : SS} : ev c 178 9 [l0, some (aR o), l2] L2 St S = ev c 178 10 [l0, some (aR o), l2] L2 (aR o :: St) S := ev_go i178_9 rfl
theorem i178_10 : insAt 178 10 = some (.invokevirtual 32, 3, (184, 0, 2, 0), 0) := rfl
theorem s178_10 {c : Nat → List AV → SS → Option Out} {l0 l1 l2 : Option AV} {j t : Nat} {L2 : List (Nat × AV)} {S : SS} : ev c 178 10 [l0, l1, l2] L2 [aR (0, j, t)] S = ck (c 184 [aR (0, j, t)] S) (fun v S' => ev c 178 13 [l0, l1, l2] L2 (v.toList ++ []) S') := ev_call i178_10 rfl
theorem i178_13 : insAt 178 13 = some (.istore_n 2, 1, (0, 0, 0, 0), 0) := rfl
theorem s178_13 {c : Nat → List AV → SS → Option Out} {l0 l1 l2 : Option AV} {x : Int32} {L2 : List (Nat × AV)} {St : List AV} {S : SS} : ev c 178 13 [l0, l1, l2] L2 (aI x :: St) S = ev c 178 14 [l0, l1, some (aI x)] (kil L2 2) St S := ev_go i178_13 rfl
theorem i178_14 : insAt 178 14 = some (.aload_n 0, 1, (0, 0, 0, 0), 0) := rfl
theorem s178_14 {c : Nat → List AV → SS → Option Out} {l1 l2 : Option AV} {o : OId} {L2 : List (Nat × AV)} {St : List AV} {S : SS} : ev c 178 14 [some (aR o), l1, l2] L2 St S = ev c 178 15 [some (aR o), l1, l2] L2 (aR o :: St) S := ev_go i178_14 rfl
theorem i178_15 : insAt 178 15 = some (.aload_n 0, 1, (0, 0, 0, 0), 0) := rfl
theorem s178_15 {c : Nat → List AV → SS → Option Out} {l1 l2 : Option AV} {o : OId} {L2 : List (Nat × AV)} {St : List AV} {S : SS} : ev c 178 15 [some (aR o), l1, l2] L2 St S = ev c 178 16 [some (aR o), l1, l2] L2 (aR o :: St) S := ev_go i178_15 rfl
theorem i178_16 : insAt 178 16 = some (.getfield 79, 3, (1, 3, 0, 0), 0) := rfl
theorem s178_16 {c : Nat → List AV → SS → Option Out} {l0 l1 l2 : Option AV} {j t : Nat} {L2 : List (Nat × AV)} {St : List AV} {S : SS} : ev c 178 16 [l0, l1, l2] L2 (aR (1, j, t) :: St) S = ev c 178 19 [l0, l1, l2] L2 (aI (S.1 (1, j, t) 3) :: St) S := ev_go i178_16 rfl
theorem i178_19 : insAt 178 19 = some (.iload_n 2, 1, (0, 0, 0, 0), 0) := rfl
theorem s178_19 {c : Nat → List AV → SS → Option Out} {l0 l1 : Option AV} {x : Int32} {L2 : List (Nat × AV)} {St : List AV} {S : SS} : ev c 178 19 [l0, l1, some (aI x)] L2 St S = ev c 178 20 [l0, l1, some (aI x)] L2 (aI x :: St) S := ev_go i178_19 rfl
theorem i178_20 : insAt 178 20 = some (.iadd, 1, (0, 0, 0, 0), 0) := rfl
theorem s178_20 {c : Nat → List AV → SS → Option Out} {l0 l1 l2 : Option AV} {x y : Int32} {L2 : List (Nat × AV)} {St : List AV} {S : SS} : ev c 178 20 [l0, l1, l2] L2 (aI y :: aI x :: St) S = ev c 178 21 [l0, l1, l2] L2 (aI (x + y) :: St) S := ev_go i178_20 rfl
theorem i178_21 : insAt 178 21 = some (.invokevirtual 100, 3, (179, 1, 4, 1), 0) := rfl
theorem s178_21 {c : Nat → List AV → SS → Option Out} {l0 l1 l2 : Option AV} {a0 : Int32} {j t : Nat} {L2 : List (Nat × AV)} {S : SS} : ev c 178 21 [l0, l1, l2] L2 [aI a0, aR (1, j, t)] S = ck (c 179 [aR (1, j, t), aI a0] S) (fun v S' => ev c 178 24 [l0, l1, l2] L2 (v.toList ++ []) S') := ev_call i178_21 rfl
theorem i178_24 : insAt 178 24 = some (.aload_n 0, 1, (0, 0, 0, 0), 0) := rfl
theorem s178_24 {c : Nat → List AV → SS → Option Out} {l1 l2 : Option AV} {o : OId} {L2 : List (Nat × AV)} {St : List AV} {S : SS} : ev c 178 24 [some (aR o), l1, l2] L2 St S = ev c 178 25 [some (aR o), l1, l2] L2 (aR o :: St) S := ev_go i178_24 rfl
theorem i178_25 : insAt 178 25 = some (.aload_n 0, 1, (0, 0, 0, 0), 0) := rfl
theorem s178_25 {c : Nat → List AV → SS → Option Out} {l1 l2 : Option AV} {o : OId} {L2 : List (Nat × AV)} {St : List AV} {S : SS} : ev c 178 25 [some (aR o), l1, l2] L2 St S = ev c 178 26 [some (aR o), l1, l2] L2 (aR o :: St) S := ev_go i178_25 rfl
theorem i178_26 : insAt 178 26 = some (.getfield 79, 3, (1, 3, 0, 0), 0) := rfl
theorem s178_26 {c : Nat → List AV → SS → Option Out} {l0 l1 l2 : Option AV} {j t : Nat} {L2 : List (Nat × AV)} {St : List AV} {S : SS} : ev c 178 26 [l0, l1, l2] L2 (aR (1, j, t) :: St) S = ev c 178 29 [l0, l1, l2] L2 (aI (S.1 (1, j, t) 3) :: St) S := ev_go i178_26 rfl
theorem i178_29 : insAt 178 29 = some (.aload_n 1, 1, (0, 0, 0, 0), 0) := rfl
theorem s178_29 {c : Nat → List AV → SS → Option Out} {l0 l2 : Option AV} {o : OId} {L2 : List (Nat × AV)} {St : List AV} {S : SS} : ev c 178 29 [l0, some (aR o), l2] L2 St S = ev c 178 30 [l0, some (aR o), l2] L2 (aR o :: St) S := ev_go i178_29 rfl
theorem i178_30 : insAt 178 30 = some (.invokevirtual 208, 3, (186, 2, 4, 1), 0) := rfl
theorem s178_30 {c : Nat → List AV → SS → Option Out} {l0 l1 l2 : Option AV} {a0 : Int32} {a1 : OId} {j t : Nat} {L2 : List (Nat × AV)} {S : SS} : ev c 178 30 [l0, l1, l2] L2 [aR a1, aI a0, aR (1, j, t)] S = ck (c 186 [aR (1, j, t), aI a0, aR a1] S) (fun v S' => ev c 178 33 [l0, l1, l2] L2 (v.toList ++ []) S') := ev_call i178_30 rfl
theorem i178_33 : insAt 178 33 = some (.aload_n 0, 1, (0, 0, 0, 0), 0) := rfl
theorem s178_33 {c : Nat → List AV → SS → Option Out} {l1 l2 : Option AV} {o : OId} {L2 : List (Nat × AV)} {St : List AV} {S : SS} : ev c 178 33 [some (aR o), l1, l2] L2 St S = ev c 178 34 [some (aR o), l1, l2] L2 (aR o :: St) S := ev_go i178_33 rfl
theorem i178_34 : insAt 178 34 = some (.dup, 1, (0, 0, 0, 0), 0) := rfl
theorem s178_34 {c : Nat → List AV → SS → Option Out} {l0 l1 l2 : Option AV} {x : OId} {L2 : List (Nat × AV)} {St : List AV} {S : SS} : ev c 178 34 [l0, l1, l2] L2 (aR x :: St) S = ev c 178 35 [l0, l1, l2] L2 (aR x :: aR x :: St) S := ev_go i178_34 rfl
theorem i178_35 : insAt 178 35 = some (.getfield 79, 3, (1, 3, 0, 0), 0) := rfl
theorem s178_35 {c : Nat → List AV → SS → Option Out} {l0 l1 l2 : Option AV} {j t : Nat} {L2 : List (Nat × AV)} {St : List AV} {S : SS} : ev c 178 35 [l0, l1, l2] L2 (aR (1, j, t) :: St) S = ev c 178 38 [l0, l1, l2] L2 (aI (S.1 (1, j, t) 3) :: St) S := ev_go i178_35 rfl
theorem i178_38 : insAt 178 38 = some (.iload_n 2, 1, (0, 0, 0, 0), 0) := rfl
theorem s178_38 {c : Nat → List AV → SS → Option Out} {l0 l1 : Option AV} {x : Int32} {L2 : List (Nat × AV)} {St : List AV} {S : SS} : ev c 178 38 [l0, l1, some (aI x)] L2 St S = ev c 178 39 [l0, l1, some (aI x)] L2 (aI x :: St) S := ev_go i178_38 rfl
theorem i178_39 : insAt 178 39 = some (.iadd, 1, (0, 0, 0, 0), 0) := rfl
theorem s178_39 {c : Nat → List AV → SS → Option Out} {l0 l1 l2 : Option AV} {x y : Int32} {L2 : List (Nat × AV)} {St : List AV} {S : SS} : ev c 178 39 [l0, l1, l2] L2 (aI y :: aI x :: St) S = ev c 178 40 [l0, l1, l2] L2 (aI (x + y) :: St) S := ev_go i178_39 rfl
theorem i178_40 : insAt 178 40 = some (.putfield 79, 3, (1, 3, 0, 0), 0) := rfl
theorem s178_40 {c : Nat → List AV → SS → Option Out} {l0 l1 l2 : Option AV} {j t : Nat} {x : Int32} {L2 : List (Nat × AV)} {St : List AV} {S : SS} : ev c 178 40 [l0, l1, l2] L2 (aI x :: aR (1, j, t) :: St) S = ev c 178 43 [l0, l1, l2] L2 St (setI S.1 (1, j, t) 3 x, S.2) := ev_go i178_40 rfl
theorem i178_43 : insAt 178 43 = some (.aload_n 0, 1, (0, 0, 0, 0), 0) := rfl
theorem s178_43 {c : Nat → List AV → SS → Option Out} {l1 l2 : Option AV} {o : OId} {L2 : List (Nat × AV)} {St : List AV} {S : SS} : ev c 178 43 [some (aR o), l1, l2] L2 St S = ev c 178 44 [some (aR o), l1, l2] L2 (aR o :: St) S := ev_go i178_43 rfl
theorem i178_44 : insAt 178 44 = some (.areturn, 1, (0, 0, 0, 0), 0) := rfl
theorem s178_44 {c : Nat → List AV → SS → Option Out} {l0 l1 l2 : Option AV} {o : OId} {L2 : List (Nat × AV)} {St : List AV} {S : SS} : ev c 178 44 [l0, l1, l2] L2 [aR o] S = some (.inl (some (aR o)), S) := ev_end i178_44 rfl
theorem s178_44N {c : Nat → List AV → SS → Option Out} {l0 l1 l2 : Option AV} {L2 : List (Nat × AV)} {S : SS} : ev c 178 44 [l0, l1, l2] L2 [aN] S = some (.inl (some aN), S) := ev_end i178_44 rfl
theorem m178 {d : Nat} {o : OId} {a0 : OId} {S : SS} : evm (d + 1) 178 [aR o, aR a0] S = ev (evm d) 178 0 [some (aR o), some (aR a0), none] [] [] S := evm_s (n := 3) rfl (Nat.le_of_ble_eq_true rfl) rfl rfl
/-! java/lang/AbstractStringBuilder.ensureCapacityInternal(I)V -/
theorem i179_0 : insAt 179 0 = some (.aload_n 0, 1, (0, 0, 0, 0), 0) := rfl
theorem s179_0 {c : Nat → List AV → SS → Option Out} {l1 l2 : Option AV} {o : OId} {L2 : List (Nat × AV)} {St : List AV} {S : SS} : ev c 179 0 [some (aR o), l1, l2] L2 St S = ev c 179 1 [some (aR o), l1, l2] L2 (aR o :: St) S := ev_go i179_0 rfl
theorem i179_1 : insAt 179 1 = some (.getfield 15, 3, (1, 0, 0, 0), 0) := rfl
theorem s179_1 {c : Nat → List AV → SS → Option Out} {l0 l1 l2 : Option AV} {j t : Nat} {L2 : List (Nat × AV)} {St : List AV} {S : SS} : ev c 179 1 [l0, l1, l2] L2 (aR (1, j, t) :: St) S = ev c 179 4 [l0, l1, l2] L2 (S.2.1 (1, j, t) 0 :: St) S := ev_go i179_1 rfl
theorem i179_4 : insAt 179 4 = some (.arraylength, 1, (0, 0, 0, 0), 0) := rfl
theorem s179_4 {c : Nat → List AV → SS → Option Out} {l0 l1 l2 : Option AV} {o : OId} {L2 : List (Nat × AV)} {St : List AV} {S : SS} : ev c 179 4 [l0, l1, l2] L2 (aR o :: St) S = kN o (fun x => ev c 179 5 [l0, l1, l2] L2 (aI x :: St) S) := ev_alen i179_4
theorem i179_5 : insAt 179 5 = some (.aload_n 0, 1, (0, 0, 0, 0), 0) := rfl
theorem s179_5 {c : Nat → List AV → SS → Option Out} {l1 l2 : Option AV} {o : OId} {L2 : List (Nat × AV)} {St : List AV} {S : SS} : ev c 179 5 [some (aR o), l1, l2] L2 St S = ev c 179 6 [some (aR o), l1, l2] L2 (aR o :: St) S := ev_go i179_5 rfl
theorem i179_6 : insAt 179 6 = some (.getfield 22, 3, (1, 1, 0, 0), 0) := rfl
theorem s179_6 {c : Nat → List AV → SS → Option Out} {l0 l1 l2 : Option AV} {j t : Nat} {L2 : List (Nat × AV)} {St : List AV} {S : SS} : ev c 179 6 [l0, l1, l2] L2 (aR (1, j, t) :: St) S = ev c 179 9 [l0, l1, l2] L2 (aI (by8 (S.1 (1, j, t) 1)) :: St) S := ev_go i179_6 rfl
theorem i179_9 : insAt 179 9 = some (.ishr, 1, (0, 0, 0, 0), 0) := rfl
theorem s179_9 {c : Nat → List AV → SS → Option Out} {l0 l1 l2 : Option AV} {x y : Int32} {L2 : List (Nat × AV)} {St : List AV} {S : SS} : ev c 179 9 [l0, l1, l2] L2 (aI y :: aI x :: St) S = ev c 179 10 [l0, l1, l2] L2 (aI (x >>> (y &&& 31)) :: St) S := ev_go i179_9 rfl
theorem i179_10 : insAt 179 10 = some (.istore_n 2, 1, (0, 0, 0, 0), 0) := rfl
theorem s179_10 {c : Nat → List AV → SS → Option Out} {l0 l1 l2 : Option AV} {x : Int32} {L2 : List (Nat × AV)} {St : List AV} {S : SS} : ev c 179 10 [l0, l1, l2] L2 (aI x :: St) S = ev c 179 11 [l0, l1, some (aI x)] (kil L2 2) St S := ev_go i179_10 rfl
theorem i179_11 : insAt 179 11 = some (.iload_n 1, 1, (0, 0, 0, 0), 0) := rfl
theorem s179_11 {c : Nat → List AV → SS → Option Out} {l0 l2 : Option AV} {x : Int32} {L2 : List (Nat × AV)} {St : List AV} {S : SS} : ev c 179 11 [l0, some (aI x), l2] L2 St S = ev c 179 12 [l0, some (aI x), l2] L2 (aI x :: St) S := ev_go i179_11 rfl
theorem i179_12 : insAt 179 12 = some (.iload_n 2, 1, (0, 0, 0, 0), 0) := rfl
theorem s179_12 {c : Nat → List AV → SS → Option Out} {l0 l1 : Option AV} {x : Int32} {L2 : List (Nat × AV)} {St : List AV} {S : SS} : ev c 179 12 [l0, l1, some (aI x)] L2 St S = ev c 179 13 [l0, l1, some (aI x)] L2 (aI x :: St) S := ev_go i179_12 rfl
theorem i179_13 : insAt 179 13 = some (.isub, 1, (0, 0, 0, 0), 0) := rfl
theorem s179_13 {c : Nat → List AV → SS → Option Out} {l0 l1 l2 : Option AV} {x y : Int32} {L2 : List (Nat × AV)} {St : List AV} {S : SS} : ev c 179 13 [l0, l1, l2] L2 (aI y :: aI x :: St) S = ev c 179 14 [l0, l1, l2] L2 (aI (x - y) :: St) S := ev_go i179_13 rfl
theorem i179_14 : insAt 179 14 = some (.ifCond .le 24, 3, (0, 0, 0, 0), 0) := rfl
theorem s179_14 {c : Nat → List AV → SS → Option Out} {l0 l1 l2 : Option AV} {x : Int32} {L2 : List (Nat × AV)} {St : List AV} {S : SS} : ev c 179 14 [l0, l1, l2] L2 (aI x :: St) S = if x ≤ 0 then ev c 179 38 [l0, l1, l2] L2 St S else ev c 179 17 [l0, l1, l2] L2 St S := ev_br i179_14 rfl
theorem i179_17 : insAt 179 17 = some (.aload_n 0, 1, (0, 0, 0, 0), 0) := rfl
theorem s179_17 {c : Nat → List AV → SS → Option Out} {l1 l2 : Option AV} {o : OId} {L2 : List (Nat × AV)} {St : List AV} {S : SS} : ev c 179 17 [some (aR o), l1, l2] L2 St S = ev c 179 18 [some (aR o), l1, l2] L2 (aR o :: St) S := ev_go i179_17 rfl
theorem i179_18 : insAt 179 18 = some (.aload_n 0, 1, (0, 0, 0, 0), 0) := rfl
theorem s179_18 {c : Nat → List AV → SS → Option Out} {l1 l2 : Option AV} {o : OId} {L2 : List (Nat × AV)} {St : List AV} {S : SS} : ev c 179 18 [some (aR o), l1, l2] L2 St S = ev c 179 19 [some (aR o), l1, l2] L2 (aR o :: St) S := ev_go i179_18 rfl
theorem i179_19 : insAt 179 19 = some (.getfield 15, 3, (1, 0, 0, 0), 0) := rfl
theorem s179_19 {c : Nat → List AV → SS → Option Out} {l0 l1 l2 : Option AV} {j t : Nat} {L2 : List (Nat × AV)} {St : List AV} {S : SS} : ev c 179 19 [l0, l1, l2] L2 (aR (1, j, t) :: St) S = ev c 179 22 [l0, l1, l2] L2 (S.2.1 (1, j, t) 0 :: St) S := ev_go i179_19 rfl
theorem i179_22 : insAt 179 22 = some (.aload_n 0, 1, (0, 0, 0, 0), 0) := rfl
theorem s179_22 {c : Nat → List AV → SS → Option Out} {l1 l2 : Option AV} {o : OId} {L2 : List (Nat × AV)} {St : List AV} {S : SS} : ev c 179 22 [some (aR o), l1, l2] L2 St S = ev c 179 23 [some (aR o), l1, l2] L2 (aR o :: St) S := ev_go i179_22 rfl
theorem i179_23 : insAt 179 23 = some (.iload_n 1, 1, (0, 0, 0, 0), 0) := rfl
theorem s179_23 {c : Nat → List AV → SS → Option Out} {l0 l2 : Option AV} {x : Int32} {L2 : List (Nat × AV)} {St : List AV} {S : SS} : ev c 179 23 [l0, some (aI x), l2] L2 St S = ev c 179 24 [l0, some (aI x), l2] L2 (aI x :: St) S := ev_go i179_23 rfl
theorem i179_24 : insAt 179 24 = some (.invokevirtual 104, 3, (180, 1, 4, 1), 0) := rfl
theorem s179_24 {c : Nat → List AV → SS → Option Out} {l0 l1 l2 : Option AV} {t0 t1 : AV} {a0 : Int32} {j t : Nat} {L2 : List (Nat × AV)} {S : SS} : ev c 179 24 [l0, l1, l2] L2 [aI a0, aR (1, j, t), t0, t1] S = ck (c 180 [aR (1, j, t), aI a0] S) (fun v S' => ev c 179 27 [l0, l1, l2] L2 (v.toList ++ [t0, t1]) S') := ev_call i179_24 rfl
theorem i179_27 : insAt 179 27 = some (.aload_n 0, 1, (0, 0, 0, 0), 0) := rfl
theorem s179_27 {c : Nat → List AV → SS → Option Out} {l1 l2 : Option AV} {o : OId} {L2 : List (Nat × AV)} {St : List AV} {S : SS} : ev c 179 27 [some (aR o), l1, l2] L2 St S = ev c 179 28 [some (aR o), l1, l2] L2 (aR o :: St) S := ev_go i179_27 rfl
theorem i179_28 : insAt 179 28 = some (.getfield 22, 3, (1, 1, 0, 0), 0) := rfl
theorem s179_28 {c : Nat → List AV → SS → Option Out} {l0 l1 l2 : Option AV} {j t : Nat} {L2 : List (Nat × AV)} {St : List AV} {S : SS} : ev c 179 28 [l0, l1, l2] L2 (aR (1, j, t) :: St) S = ev c 179 31 [l0, l1, l2] L2 (aI (by8 (S.1 (1, j, t) 1)) :: St) S := ev_go i179_28 rfl
theorem i179_31 : insAt 179 31 = some (.ishl, 1, (0, 0, 0, 0), 0) := rfl
theorem s179_31 {c : Nat → List AV → SS → Option Out} {l0 l1 l2 : Option AV} {x y : Int32} {L2 : List (Nat × AV)} {St : List AV} {S : SS} : ev c 179 31 [l0, l1, l2] L2 (aI y :: aI x :: St) S = ev c 179 32 [l0, l1, l2] L2 (aI (x <<< (y &&& 31)) :: St) S := ev_go i179_31 rfl
theorem i179_32 : insAt 179 32 = some (.invokestatic 108, 3, (182, 2, 0, 0), 0) := rfl
theorem s179_32 {c : Nat → List AV → SS → Option Out} {l0 l1 l2 : Option AV} {t0 : AV} {a0 : OId} {a1 : Int32} {L2 : List (Nat × AV)} {S : SS} : ev c 179 32 [l0, l1, l2] L2 [aI a1, aR a0, t0] S = ck (c 182 [aR a0, aI a1] S) (fun v S' => ev c 179 35 [l0, l1, l2] L2 (v.toList ++ [t0]) S') := ev_call i179_32 rfl
theorem i179_35 : insAt 179 35 = some (.putfield 15, 3, (1, 0, 0, 0), 0) := rfl
theorem s179_35 {c : Nat → List AV → SS → Option Out} {l0 l1 l2 : Option AV} {j t : Nat} {p : OId} {L2 : List (Nat × AV)} {St : List AV} {S : SS} : ev c 179 35 [l0, l1, l2] L2 (aR p :: aR (1, j, t) :: St) S = ev c 179 38 [l0, l1, l2] L2 St (S.1, setV S.2.1 (1, j, t) 0 (aR p), S.2.2) := ev_go i179_35 rfl
theorem i179_38 : insAt 179 38 = some (.return_, 1, (0, 0, 0, 0), 0) := rfl
theorem s179_38 {c : Nat → List AV → SS → Option Out} {l0 l1 l2 : Option AV} {L2 : List (Nat × AV)} {St : List AV} {S : SS} : ev c 179 38 [l0, l1, l2] L2 [] S = some (.inl none, S) := ev_end i179_38 rfl
theorem m179 {d : Nat} {o : OId} {a0 : Int32} {S : SS} : evm (d + 1) 179 [aR o, aI a0] S = ev (evm d) 179 0 [some (aR o), some (aI a0), none] [] [] S := evm_s (n := 3) rfl (Nat.le_of_ble_eq_true rfl) rfl rfl
/-! java/lang/AbstractStringBuilder.newCapacity(I)I -/
theorem i180_0 : insAt 180 0 = some (.aload_n 0, 1, (0, 0, 0, 0), 0) := rfl
theorem s180_0 {c : Nat → List AV → SS → Option Out} {l1 l2 l3 l4 l5 : Option AV} {o : OId} {L2 : List (Nat × AV)} {St : List AV} {S : SS} : ev c 180 0 [some (aR o), l1, l2, l3, l4, l5] L2 St S = ev c 180 1 [some (aR o), l1, l2, l3, l4, l5] L2 (aR o :: St) S := ev_go i180_0 rfl
theorem i180_1 : insAt 180 1 = some (.getfield 15, 3, (1, 0, 0, 0), 0) := rfl
theorem s180_1 {c : Nat → List AV → SS → Option Out} {l0 l1 l2 l3 l4 l5 : Option AV} {j t : Nat} {L2 : List (Nat × AV)} {St : List AV} {S : SS} : ev c 180 1 [l0, l1, l2, l3, l4, l5] L2 (aR (1, j, t) :: St) S = ev c 180 4 [l0, l1, l2, l3, l4, l5] L2 (S.2.1 (1, j, t) 0 :: St) S := ev_go i180_1 rfl
theorem i180_4 : insAt 180 4 = some (.arraylength, 1, (0, 0, 0, 0), 0) := rfl
theorem s180_4 {c : Nat → List AV → SS → Option Out} {l0 l1 l2 l3 l4 l5 : Option AV} {o : OId} {L2 : List (Nat × AV)} {St : List AV} {S : SS} : ev c 180 4 [l0, l1, l2, l3, l4, l5] L2 (aR o :: St) S = kN o (fun x => ev c 180 5 [l0, l1, l2, l3, l4, l5] L2 (aI x :: St) S) := ev_alen i180_4
theorem i180_5 : insAt 180 5 = some (.istore_n 2, 1, (0, 0, 0, 0), 0) := rfl
theorem s180_5 {c : Nat → List AV → SS → Option Out} {l0 l1 l2 l3 l4 l5 : Option AV} {x : Int32} {L2 : List (Nat × AV)} {St : List AV} {S : SS} : ev c 180 5 [l0, l1, l2, l3, l4, l5] L2 (aI x :: St) S = ev c 180 6 [l0, l1, some (aI x), l3, l4, l5] (kil L2 2) St S := ev_go i180_5 rfl
theorem i180_6 : insAt 180 6 = some (.iload_n 1, 1, (0, 0, 0, 0), 0) := rfl
theorem s180_6 {c : Nat → List AV → SS → Option Out} {l0 l2 l3 l4 l5 : Option AV} {x : Int32} {L2 : List (Nat × AV)} {St : List AV} {S : SS} : ev c 180 6 [l0, some (aI x), l2, l3, l4, l5] L2 St S = ev c 180 7 [l0, some (aI x), l2, l3, l4, l5] L2 (aI x :: St) S := ev_go i180_6 rfl
theorem i180_7 : insAt 180 7 = some (.aload_n 0, 1, (0, 0, 0, 0), 0) := rfl
theorem s180_7 {c : Nat → List AV → SS → Option Out} {l1 l2 l3 l4 l5 : Option AV} {o : OId} {L2 : List (Nat × AV)} {St : List AV} {S : SS} : ev c 180 7 [some (aR o), l1, l2, l3, l4, l5] L2 St S = ev c 180 8 [some (aR o), l1, l2, l3, l4, l5] L2 (aR o :: St) S := ev_go i180_7 rfl
theorem i180_8 : insAt 180 8 = some (.getfield 22, 3, (1, 1, 0, 0), 0) := rfl
theorem s180_8 {c : Nat → List AV → SS → Option Out} {l0 l1 l2 l3 l4 l5 : Option AV} {j t : Nat} {L2 : List (Nat × AV)} {St : List AV} {S : SS} : ev c 180 8 [l0, l1, l2, l3, l4, l5] L2 (aR (1, j, t) :: St) S = ev c 180 11 [l0, l1, l2, l3, l4, l5] L2 (aI (by8 (S.1 (1, j, t) 1)) :: St) S := ev_go i180_8 rfl
theorem i180_11 : insAt 180 11 = some (.ishl, 1, (0, 0, 0, 0), 0) := rfl
theorem s180_11 {c : Nat → List AV → SS → Option Out} {l0 l1 l2 l3 l4 l5 : Option AV} {x y : Int32} {L2 : List (Nat × AV)} {St : List AV} {S : SS} : ev c 180 11 [l0, l1, l2, l3, l4, l5] L2 (aI y :: aI x :: St) S = ev c 180 12 [l0, l1, l2, l3, l4, l5] L2 (aI (x <<< (y &&& 31)) :: St) S := ev_go i180_11 rfl
theorem i180_12 : insAt 180 12 = some (.istore_n 3, 1, (0, 0, 0, 0), 0) := rfl
theorem s180_12 {c : Nat → List AV → SS → Option Out} {l0 l1 l2 l3 l4 l5 : Option AV} {x : Int32} {L2 : List (Nat × AV)} {St : List AV} {S : SS} : ev c 180 12 [l0, l1, l2, l3, l4, l5] L2 (aI x :: St) S = ev c 180 13 [l0, l1, l2, some (aI x), l4, l5] (kil L2 3) St S := ev_go i180_12 rfl
theorem i180_13 : insAt 180 13 = some (.iload_n 3, 1, (0, 0, 0, 0), 0) := rfl
theorem s180_13 {c : Nat → List AV → SS → Option Out} {l0 l1 l2 l4 l5 : Option AV} {x : Int32} {L2 : List (Nat × AV)} {St : List AV} {S : SS} : ev c 180 13 [l0, l1, l2, some (aI x), l4, l5] L2 St S = ev c 180 14 [l0, l1, l2, some (aI x), l4, l5] L2 (aI x :: St) S := ev_go i180_13 rfl
theorem i180_14 : insAt 180 14 = some (.iload_n 2, 1, (0, 0, 0, 0), 0) := rfl
theorem s180_14 {c : Nat → List AV → SS → Option Out} {l0 l1 l3 l4 l5 : Option AV} {x : Int32} {L2 : List (Nat × AV)} {St : List AV} {S : SS} : ev c 180 14 [l0, l1, some (aI x), l3, l4, l5] L2 St S = ev c 180 15 [l0, l1, some (aI x), l3, l4, l5] L2 (aI x :: St) S := ev_go i180_14 rfl
theorem i180_15 : insAt 180 15 = some (.isub, 1, (0, 0, 0, 0), 0) := rfl
theorem s180_15 {c : Nat → List AV → SS → Option Out} {l0 l1 l2 l3 l4 l5 : Option AV} {x y : Int32} {L2 : List (Nat × AV)} {St : List AV} {S : SS} : ev c 180 15 [l0, l1, l2, l3, l4, l5] L2 (aI y :: aI x :: St) S = ev c 180 16 [l0, l1, l2, l3, l4, l5] L2 (aI (x - y) :: St) S := ev_go i180_15 rfl
theorem i180_16 : insAt 180 16 = some (.istore 4, 2, (0, 0, 0, 0), 0) := rfl
theorem s180_16 {c : Nat → List AV → SS → Option Out} {l0 l1 l2 l3 l4 l5 : Option AV} {x : Int32} {L2 : List (Nat × AV)} {St : List AV} {S : SS} : ev c 180 16 [l0, l1, l2, l3, l4, l5] L2 (aI x :: St) S = ev c 180 18 [l0, l1, l2, l3, some (aI x), l5] (kil L2 4) St S := ev_go i180_16 rfl
theorem i180_18 : insAt 180 18 = some (.iload_n 2, 1, (0, 0, 0, 0), 0) := rfl
theorem s180_18 {c : Nat → List AV → SS → Option Out} {l0 l1 l3 l4 l5 : Option AV} {x : Int32} {L2 : List (Nat × AV)} {St : List AV} {S : SS} : ev c 180 18 [l0, l1, some (aI x), l3, l4, l5] L2 St S = ev c 180 19 [l0, l1, some (aI x), l3, l4, l5] L2 (aI x :: St) S := ev_go i180_18 rfl
theorem i180_19 : insAt 180 19 = some (.iload 4, 2, (0, 0, 0, 0), 0) := rfl
theorem s180_19 {c : Nat → List AV → SS → Option Out} {l0 l1 l2 l3 l5 : Option AV} {x : Int32} {L2 : List (Nat × AV)} {St : List AV} {S : SS} : ev c 180 19 [l0, l1, l2, l3, some (aI x), l5] L2 St S = ev c 180 21 [l0, l1, l2, l3, some (aI x), l5] L2 (aI x :: St) S := ev_go i180_19 rfl
theorem i180_21 : insAt 180 21 = some (.iload_n 2, 1, (0, 0, 0, 0), 0) := rfl
theorem s180_21 {c : Nat → List AV → SS → Option Out} {l0 l1 l3 l4 l5 : Option AV} {x : Int32} {L2 : List (Nat × AV)} {St : List AV} {S : SS} : ev c 180 21 [l0, l1, some (aI x), l3, l4, l5] L2 St S = ev c 180 22 [l0, l1, some (aI x), l3, l4, l5] L2 (aI x :: St) S := ev_go i180_21 rfl
theorem i180_22 : insAt 180 22 = some (.iconst 2, 1, (0, 0, 0, 0), 0) := rfl
theorem s180_22 {c : Nat → List AV → SS → Option Out} {l0 l1 l2 l3 l4 l5 : Option AV} {L2 : List (Nat × AV)} {St : List AV} {S : SS} : ev c 180 22 [l0, l1, l2, l3, l4, l5] L2 St S = ev c 180 23 [l0, l1, l2, l3, l4, l5] L2 (aI 2 :: St) S := ev_go i180_22 rfl
theorem i180_23 : insAt 180 23 = some (.aload_n 0, 1, (0, 0, 0, 0), 0) := rfl
theorem s180_23 {c : Nat → List AV → SS → Option Out} {l1 l2 l3 l4 l5 : Option AV} {o : OId} {L2 : List (Nat × AV)} {St : List AV} {S : SS} : ev c 180 23 [some (aR o), l1, l2, l3, l4, l5] L2 St S = ev c 180 24 [some (aR o), l1, l2, l3, l4, l5] L2 (aR o :: St) S := ev_go i180_23 rfl
theorem i180_24 : insAt 180 24 = some (.getfield 22, 3, (1, 1, 0, 0), 0) := rfl
theorem s180_24 {c : Nat → List AV → SS → Option Out} {l0 l1 l2 l3 l4 l5 : Option AV} {j t : Nat} {L2 : List (Nat × AV)} {St : List AV} {S : SS} : ev c 180 24 [l0, l1, l2, l3, l4, l5] L2 (aR (1, j, t) :: St) S = ev c 180 27 [l0, l1, l2, l3, l4, l5] L2 (aI (by8 (S.1 (1, j, t) 1)) :: St) S := ev_go i180_24 rfl
theorem i180_27 : insAt 180 27 = some (.ishl, 1, (0, 0, 0, 0), 0) := rfl
theorem s180_27 {c : Nat → List AV → SS → Option Out} {l0 l1 l2 l3 l4 l5 : Option AV} {x y : Int32} {L2 : List (Nat × AV)} {St : List AV} {S : SS} : ev c 180 27 [l0, l1, l2, l3, l4, l5] L2 (aI y :: aI x :: St) S = ev c 180 28 [l0, l1, l2, l3, l4, l5] L2 (aI (x <<< (y &&& 31)) :: St) S := ev_go i180_27 rfl
theorem i180_28 : insAt 180 28 = some (.iadd, 1, (0, 0, 0, 0), 0) := rfl
theorem s180_28 {c : Nat → List AV → SS → Option Out} {l0 l1 l2 l3 l4 l5 : Option AV} {x y : Int32} {L2 : List (Nat × AV)} {St : List AV} {S : SS} : ev c 180 28 [l0, l1, l2, l3, l4, l5] L2 (aI y :: aI x :: St) S = ev c 180 29 [l0, l1, l2, l3, l4, l5] L2 (aI (x + y) :: St) S := ev_go i180_28 rfl
theorem i180_29 : insAt 180 29 = some (.invokestatic 114, 3, (181, 3, 0, 0), 0) := rfl
theorem s180_29 {c : Nat → List AV → SS → Option Out} {l0 l1 l2 l3 l4 l5 : Option AV} {a0 : Int32} {a1 : Int32} {a2 : Int32} {L2 : List (Nat × AV)} {S : SS} : ev c 180 29 [l0, l1, l2, l3, l4, l5] L2 [aI a2, aI a1, aI a0] S = ck (c 181 [aI a0, aI a1, aI a2] S) (fun v S' => ev c 180 32 [l0, l1, l2, l3, l4, l5] L2 (v.toList ++ []) S') := ev_call i180_29 rfl
theorem i180_32 : insAt 180 32 = some (.istore 5, 2, (0, 0, 0, 0), 0) := rfl
theorem s180_32 {c : Nat → List AV → SS → Option Out} {l0 l1 l2 l3 l4 l5 : Option AV} {x : Int32} {L2 : List (Nat × AV)} {St : List AV} {S : SS} : ev c 180 32 [l0, l1, l2, l3, l4, l5] L2 (aI x :: St) S = ev c 180 34 [l0, l1, l2, l3, l4, some (aI x)] (kil L2 5) St S := ev_go i180_32 rfl
theorem i180_34 : insAt 180 34 = some (.iload 5, 2, (0, 0, 0, 0), 0) := rfl
theorem s180_34 {c : Nat → List AV → SS → Option Out} {l0 l1 l2 l3 l4 : Option AV} {x : Int32} {L2 : List (Nat × AV)} {St : List AV} {S : SS} : ev c 180 34 [l0, l1, l2, l3, l4, some (aI x)] L2 St S = ev c 180 36 [l0, l1, l2, l3, l4, some (aI x)] L2 (aI x :: St) S := ev_go i180_34 rfl
theorem i180_36 : insAt 180 36 = some (.ldc 39, 2, (0, 0, 0, 0), 2147483647) := rfl
theorem s180_36 {c : Nat → List AV → SS → Option Out} {l0 l1 l2 l3 l4 l5 : Option AV} {L2 : List (Nat × AV)} {St : List AV} {S : SS} : ev c 180 36 [l0, l1, l2, l3, l4, l5] L2 St S = ev c 180 38 [l0, l1, l2, l3, l4, l5] L2 (aI 2147483647 :: St) S := ev_go i180_36 rfl
theorem i180_38 : insAt 180 38 = some (.if_icmp .ne 13, 3, (0, 0, 0, 0), 0) := rfl
theorem s180_38 {c : Nat → List AV → SS → Option Out} {l0 l1 l2 l3 l4 l5 : Option AV} {x y : Int32} {L2 : List (Nat × AV)} {St : List AV} {S : SS} : ev c 180 38 [l0, l1, l2, l3, l4, l5] L2 (aI y :: aI x :: St) S = if x = y then ev c 180 41 [l0, l1, l2, l3, l4, l5] L2 St S else ev c 180 51 [l0, l1, l2, l3, l4, l5] L2 St S := (ev_br i180_38 rfl).trans (ite_not _ _ _)
theorem i180_41 : insAt 180 41 = some (.new 120, 3, (9, 9, 9, 9), 0) := rfl
theorem i180_44 : insAt 180 44 = some (.dup, 1, (0, 0, 0, 0), 0) := rfl
theorem s180_44 {c : Nat → List AV → SS → Option Out} {l0 l1 l2 l3 l4 l5 : Option AV} {x : OId} {L2 : List (Nat × AV)} {St : List AV} {S : SS} : ev c 180 44 [l0, l1, l2, l3, l4, l5] L2 (aR x :: St) S = ev c 180 45 [l0, l1, l2, l3, l4, l5] L2 (aR x :: aR x :: St) S := ev_go i180_44 rfl
theorem i180_51 : insAt 180 51 = some (.iload 5, 2, (0, 0, 0, 0), 0) := rfl
theorem s180_51 {c : Nat → List AV → SS → Option Out} {l0 l1 l2 l3 l4 : Option AV} {x : Int32} {L2 : List (Nat × AV)} {St : List AV} {S : SS} : ev c 180 51 [l0, l1, l2, l3, l4, some (aI x)] L2 St S = ev c 180 53 [l0, l1, l2, l3, l4, some (aI x)] L2 (aI x :: St) S := ev_go i180_51 rfl
theorem i180_53 : insAt 180 53 = some (.aload_n 0, 1, (0, 0, 0, 0), 0) := rfl
theorem s180_53 {c : Nat → List AV → SS → Option Out} {l1 l2 l3 l4 l5 : Option AV} {o : OId} {L2 : List (Nat × AV)} {St : List AV} {S : SS} : ev c 180 53 [some (aR o), l1, l2, l3, l4, l5] L2 St S = ev c 180 54 [some (aR o), l1, l2, l3, l4, l5] L2 (aR o :: St) S := ev_go i180_53 rfl
theorem i180_54 : insAt 180 54 = some (.getfield 22, 3, (1, 1, 0, 0), 0) := rfl
theorem s180_54 {c : Nat → List AV → SS → Option Out} {l0 l1 l2 l3 l4 l5 : Option AV} {j t : Nat} {L2 : List (Nat × AV)} {St : List AV} {S : SS} : ev c 180 54 [l0, l1, l2, l3, l4, l5] L2 (aR (1, j, t) :: St) S = ev c 180 57 [l0, l1, l2, l3, l4, l5] L2 (aI (by8 (S.1 (1, j, t) 1)) :: St) S := ev_go i180_54 rfl
theorem i180_57 : insAt 180 57 = some (.ishr, 1, (0, 0, 0, 0), 0) := rfl
theorem s180_57 {c : Nat → List AV → SS → Option Out} {l0 l1 l2 l3 l4 l5 : Option AV} {x y : Int32} {L2 : List (Nat × AV)} {St : List AV} {S : SS} : ev c 180 57 [l0, l1, l2, l3, l4, l5] L2 (aI y :: aI x :: St) S = ev c 180 58 [l0, l1, l2, l3, l4, l5] L2 (aI (x >>> (y &&& 31)) :: St) S := ev_go i180_57 rfl
theorem i180_58 : insAt 180 58 = some (.ireturn, 1, (0, 0, 0, 0), 0) := rfl
theorem s180_58 {c : Nat → List AV → SS → Option Out} {l0 l1 l2 l3 l4 l5 : Option AV} {x : Int32} {L2 : List (Nat × AV)} {St : List AV} {S : SS} : ev c 180 58 [l0, l1, l2, l3, l4, l5] L2 [aI x] S = some (.inl (some (aI x)), S) := ev_end i180_58 rfl
theorem m180 {d : Nat} {o : OId} {a0 : Int32} {S : SS} : evm (d + 1) 180 [aR o, aI a0] S = ev (evm d) 180 0 [some (aR o), some (aI a0), none, none, none, none] [] [] S := evm_s (n := 6) rfl (Nat.le_of_ble_eq_true rfl) rfl rfl
/-! jdk/internal/util/ArraysSupport.newLength(III)I -/
theorem i181_0 : insAt 181 0 = some (.iload_n 0, 1, (0, 0, 0, 0), 0) := rfl
theorem s181_0 {c : Nat → List AV → SS → Option Out} {l1 l2 l3 : Option AV} {x : Int32} {L2 : List (Nat × AV)} {St : List AV} {S : SS} : ev c 181 0 [some (aI x), l1, l2, l3] L2 St S = ev c 181 1 [some (aI x), l1, l2, l3] L2 (aI x :: St) S := ev_go i181_0 rfl
theorem i181_1 : insAt 181 1 = some (.iload_n 1, 1, (0, 0, 0, 0), 0) := rfl
theorem s181_1 {c : Nat → List AV → SS → Option Out} {l0 l2 l3 : Option AV} {x : Int32} {L2 : List (Nat × AV)} {St : List AV} {S : SS} : ev c 181 1 [l0, some (aI x), l2, l3] L2 St S = ev c 181 2 [l0, some (aI x), l2, l3] L2 (aI x :: St) S := ev_go i181_1 rfl
theorem i181_2 : insAt 181 2 = some (.iload_n 2, 1, (0, 0, 0, 0), 0) := rfl
theorem s181_2 {c : Nat → List AV → SS → Option Out} {l0 l1 l3 : Option AV} {x : Int32} {L2 : List (Nat × AV)} {St : List AV} {S : SS} : ev c 181 2 [l0, l1, some (aI x), l3] L2 St S = ev c 181 3 [l0, l1, some (aI x), l3] L2 (aI x :: St) S := ev_go i181_2 rfl
theorem i181_3 : insAt 181 3 = some (.invokestatic 194, 3, (46, 2, 0, 0), 0) := rfl
theorem s181_3 {c : Nat → List AV → SS → Option Out} {l0 l1 l2 l3 : Option AV} {t0 : AV} {a0 : Int32} {a1 : Int32} {L2 : List (Nat × AV)} {S : SS} : ev c 181 3 [l0, l1, l2, l3] L2 [aI a1, aI a0, t0] S = ck (c 46 [aI a0, aI a1] S) (fun v S' => ev c 181 6 [l0, l1, l2, l3] L2 (v.toList ++ [t0]) S') := ev_call i181_3 rfl
theorem i181_6 : insAt 181 6 = some (.iadd, 1, (0, 0, 0, 0), 0) := rfl
theorem s181_6 {c : Nat → List AV → SS → Option Out} {l0 l1 l2 l3 : Option AV} {x y : Int32} {L2 : List (Nat × AV)} {St : List AV} {S : SS} : ev c 181 6 [l0, l1, l2, l3] L2 (aI y :: aI x :: St) S = ev c 181 7 [l0, l1, l2, l3] L2 (aI (x + y) :: St) S := ev_go i181_6 rfl
theorem i181_7 : insAt 181 7 = some (.istore_n 3, 1, (0, 0, 0, 0), 0) := rfl
theorem s181_7 {c : Nat → List AV → SS → Option Out} {l0 l1 l2 l3 : Option AV} {x : Int32} {L2 : List (Nat × AV)} {St : List AV} {S : SS} : ev c 181 7 [l0, l1, l2, l3] L2 (aI x :: St) S = ev c 181 8 [l0, l1, l2, some (aI x)] (kil L2 3) St S := ev_go i181_7 rfl
theorem i181_8 : insAt 181 8 = some (.iconst 0, 1, (0, 0, 0, 0), 0) := rfl
theorem s181_8 {c : Nat → List AV → SS → Option Out} {l0 l1 l2 l3 : Option AV} {L2 : List (Nat × AV)} {St : List AV} {S : SS} : ev c 181 8 [l0, l1, l2, l3] L2 St S = ev c 181 9 [l0, l1, l2, l3] L2 (aI 0 :: St) S := ev_go i181_8 rfl
theorem i181_9 : insAt 181 9 = some (.iload_n 3, 1, (0, 0, 0, 0), 0) := rfl
theorem s181_9 {c : Nat → List AV → SS → Option Out} {l0 l1 l2 : Option AV} {x : Int32} {L2 : List (Nat × AV)} {St : List AV} {S : SS} : ev c 181 9 [l0, l1, l2, some (aI x)] L2 St S = ev c 181 10 [l0, l1, l2, some (aI x)] L2 (aI x :: St) S := ev_go i181_9 rfl
theorem i181_10 : insAt 181 10 = some (.if_icmp .ge 11, 3, (0, 0, 0, 0), 0) := rfl
theorem s181_10 {c : Nat → List AV → SS → Option Out} {l0 l1 l2 l3 : Option AV} {x y : Int32} {L2 : List (Nat × AV)} {St : List AV} {S : SS} : ev c 181 10 [l0, l1, l2, l3] L2 (aI y :: aI x :: St) S = if y ≤ x then ev c 181 21 [l0, l1, l2, l3] L2 St S else ev c 181 13 [l0, l1, l2, l3] L2 St S := ev_br i181_10 rfl
theorem i181_13 : insAt 181 13 = some (.iload_n 3, 1, (0, 0, 0, 0), 0) := rfl
theorem s181_13 {c : Nat → List AV → SS → Option Out} {l0 l1 l2 : Option AV} {x : Int32} {L2 : List (Nat × AV)} {St : List AV} {S : SS} : ev c 181 13 [l0, l1, l2, some (aI x)] L2 St S = ev c 181 14 [l0, l1, l2, some (aI x)] L2 (aI x :: St) S := ev_go i181_13 rfl
theorem i181_14 : insAt 181 14 = some (.ldc 200, 2, (0, 0, 0, 0), 2147483639) := rfl
theorem s181_14 {c : Nat → List AV → SS → Option Out} {l0 l1 l2 l3 : Option AV} {L2 : List (Nat × AV)} {St : List AV} {S : SS} : ev c 181 14 [l0, l1, l2, l3] L2 St S = ev c 181 16 [l0, l1, l2, l3] L2 (aI 2147483639 :: St) S := ev_go i181_14 rfl
theorem i181_16 : insAt 181 16 = some (.if_icmp .gt 5, 3, (0, 0, 0, 0), 0) := rfl
theorem s181_16 {c : Nat → List AV → SS → Option Out} {l0 l1 l2 l3 : Option AV} {x y : Int32} {L2 : List (Nat × AV)} {St : List AV} {S : SS} : ev c 181 16 [l0, l1, l2, l3] L2 (aI y :: aI x :: St) S = if y < x then ev c 181 21 [l0, l1, l2, l3] L2 St S else ev c 181 19 [l0, l1, l2, l3] L2 St S := ev_br i181_16 rfl
theorem i181_19 : insAt 181 19 = some (.iload_n 3, 1, (0, 0, 0, 0), 0) := rfl
theorem s181_19 {c : Nat → List AV → SS → Option Out} {l0 l1 l2 : Option AV} {x : Int32} {L2 : List (Nat × AV)} {St : List AV} {S : SS} : ev c 181 19 [l0, l1, l2, some (aI x)] L2 St S = ev c 181 20 [l0, l1, l2, some (aI x)] L2 (aI x :: St) S := ev_go i181_19 rfl
theorem i181_20 : insAt 181 20 = some (.ireturn, 1, (0, 0, 0, 0), 0) := rfl
theorem s181_20 {c : Nat → List AV → SS → Option Out} {l0 l1 l2 l3 : Option AV} {x : Int32} {L2 : List (Nat × AV)} {St : List AV} {S : SS} : ev c 181 20 [l0, l1, l2, l3] L2 [aI x] S = some (.inl (some (aI x)), S) := ev_end i181_20 rfl
theorem i181_21 : insAt 181 21 = some (.iload_n 0, 1, (0, 0, 0, 0), 0) := rfl
theorem s181_21 {c : Nat → List AV → SS → Option Out} {l1 l2 l3 : Option AV} {x : Int32} {L2 : List (Nat × AV)} {St : List AV} {S : SS} : ev c 181 21 [some (aI x), l1, l2, l3] L2 St S = ev c 181 22 [some (aI x), l1, l2, l3] L2 (aI x :: St) S := ev_go i181_21 rfl
theorem i181_22 : insAt 181 22 = some (.iload_n 1, 1, (0, 0, 0, 0), 0) := rfl
theorem s181_22 {c : Nat → List AV → SS → Option Out} {l0 l2 l3 : Option AV} {x : Int32} {L2 : List (Nat × AV)} {St : List AV} {S : SS} : ev c 181 22 [l0, some (aI x), l2, l3] L2 St S = ev c 181 23 [l0, some (aI x), l2, l3] L2 (aI x :: St) S := ev_go i181_22 rfl
theorem i181_26 : insAt 181 26 = some (.ireturn, 1, (0, 0, 0, 0), 0) := rfl
theorem s181_26 {c : Nat → List AV → SS → Option Out} {l0 l1 l2 l3 : Option AV} {x : Int32} {L2 : List (Nat × AV)} {St : List AV} {S : SS} : ev c 181 26 [l0, l1, l2, l3] L2 [aI x] S = some (.inl (some (aI x)), S) := ev_end i181_26 rfl
theorem m181 {d : Nat} {a0 : Int32} {a1 : Int32} {a2 : Int32} {S : SS} : evm (d + 1) 181 [aI a0, aI a1, aI a2] S = ev (evm d) 181 0 [some (aI a0), some (aI a1), some (aI a2), none] [] [] S := evm_s (n := 4) rfl (Nat.le_of_ble_eq_true rfl) rfl rfl
/-! java/util/Arrays.copyOf([BI)[B -/
theorem i182_0 : insAt 182 0 = some (.iload_n 1, 1, (0, 0, 0, 0), 0) := rfl
theorem s182_0 {c : Nat → List AV → SS → Option Out} {l0 l2 : Option AV} {x : Int32} {L2 : List (Nat × AV)} {St : List AV} {S : SS} : ev c 182 0 [l0, some (aI x), l2] L2 St S = ev c 182 1 [l0, some (aI x), l2] L2 (aI x :: St) S := ev_go i182_0 rfl
theorem i182_1 : insAt 182 1 = some (.aload_n 0, 1, (0, 0, 0, 0), 0) := rfl
theorem s182_1 {c : Nat → List AV → SS → Option Out} {l1 l2 : Option AV} {o : OId} {L2 : List (Nat × AV)} {St : List AV} {S : SS} : ev c 182 1 [some (aR o), l1, l2] L2 St S = ev c 182 2 [some (aR o), l1, l2] L2 (aR o :: St) S := ev_go i182_1 rfl
theorem i182_2 : insAt 182 2 = some (.arraylength, 1, (0, 0, 0, 0), 0) := rfl
theorem s182_2 {c : Nat → List AV → SS → Option Out} {l0 l1 l2 : Option AV} {o : OId} {L2 : List (Nat × AV)} {St : List AV} {S : SS} : ev c 182 2 [l0, l1, l2] L2 (aR o :: St) S = kN o (fun x => ev c 182 3 [l0, l1, l2] L2 (aI x :: St) S) := ev_alen i182_2
theorem i182_3 : insAt 182 3 = some (.if_icmp .ne 11, 3, (0, 0, 0, 0), 0) := rfl
theorem s182_3 {c : Nat → List AV → SS → Option Out} {l0 l1 l2 : Option AV} {x y : Int32} {L2 : List (Nat × AV)} {St : List AV} {S : SS} : ev c 182 3 [l0, l1, l2] L2 (aI y :: aI x :: St) S = if x = y then ev c 182 6 [l0, l1, l2] L2 St S else ev c 182 14 [l0, l1, l2] L2 St S := (ev_br i182_3 rfl).trans (ite_not _ _ _)
theorem i182_6 : insAt 182 6 = some (.aload_n 0, 1, (0, 0, 0, 0), 0) := rfl
theorem s182_6 {c : Nat → List AV → SS → Option Out} {l1 l2 : Option AV} {o : OId} {L2 : List (Nat × AV)} {St : List AV} {S : SS} : ev c 182 6 [some (aR o), l1, l2] L2 St S = ev c 182 7 [some (aR o), l1, l2] L2 (aR o :: St) S := ev_go i182_6 rfl
theorem i182_7 : insAt 182 7 = some (.invokevirtual 310, 3, (0, 0, 22, 0), 0) := rfl
theorem i182_10 : insAt 182 10 = some (.checkcast 311, 3, (0, 0, 0, 0), 0) := rfl
theorem i182_13 : insAt 182 13 = some (.areturn, 1, (0, 0, 0, 0), 0) := rfl
theorem s182_13 {c : Nat → List AV → SS → Option Out} {l0 l1 l2 : Option AV} {o : OId} {L2 : List (Nat × AV)} {St : List AV} {S : SS} : ev c 182 13 [l0, l1, l2] L2 [aR o] S = some (.inl (some (aR o)), S) := ev_end i182_13 rfl
theorem s182_13N {c : Nat → List AV → SS → Option Out} {l0 l1 l2 : Option AV} {L2 : List (Nat × AV)} {S : SS} : ev c 182 13 [l0, l1, l2] L2 [aN] S = some (.inl (some aN), S) := ev_end i182_13 rfl
theorem i182_14 : insAt 182 14 = some (.iload_n 1, 1, (0, 0, 0, 0), 0) := rfl
theorem s182_14 {c : Nat → List AV → SS → Option Out} {l0 l2 : Option AV} {x : Int32} {L2 : List (Nat × AV)} {St : List AV} {S : SS} : ev c 182 14 [l0, some (aI x), l2] L2 St S = ev c 182 15 [l0, some (aI x), l2] L2 (aI x :: St) S := ev_go i182_14 rfl
theorem i182_15 : insAt 182 15 = some (.newarray .byte, 2, (0, 0, 0, 0), 0) := rfl
theorem i182_17 : insAt 182 17 = some (.astore_n 2, 1, (0, 0, 0, 0), 0) := rfl
theorem s182_17 {c : Nat → List AV → SS → Option Out} {l0 l1 l2 : Option AV} {o : OId} {L2 : List (Nat × AV)} {St : List AV} {S : SS} : ev c 182 17 [l0, l1, l2] L2 (aR o :: St) S = ev c 182 18 [l0, l1, some (aR o)] (kil L2 2) St S := ev_go i182_17 rfl
theorem i182_18 : insAt 182 18 = some (.aload_n 0, 1, (0, 0, 0, 0), 0) := rfl
theorem s182_18 {c : Nat → List AV → SS → Option Out} {l1 l2 : Option AV} {o : OId} {L2 : List (Nat × AV)} {St : List AV} {S : SS} : ev c 182 18 [some (aR o), l1, l2] L2 St S = ev c 182 19 [some (aR o), l1, l2] L2 (aR o :: St) S := ev_go i182_18 rfl
theorem i182_19 : insAt 182 19 = some (.iconst 0, 1, (0, 0, 0, 0), 0) := rfl
theorem s182_19 {c : Nat → List AV → SS → Option Out} {l0 l1 l2 : Option AV} {L2 : List (Nat × AV)} {St : List AV} {S : SS} : ev c 182 19 [l0, l1, l2] L2 St S = ev c 182 20 [l0, l1, l2] L2 (aI 0 :: St) S := ev_go i182_19 rfl
theorem i182_20 : insAt 182 20 = some (.aload_n 2, 1, (0, 0, 0, 0), 0) := rfl
theorem s182_20 {c : Nat → List AV → SS → Option Out} {l0 l1 : Option AV} {o : OId} {L2 : List (Nat × AV)} {St : List AV} {S : SS} : ev c 182 20 [l0, l1, some (aR o)] L2 St S = ev c 182 21 [l0, l1, some (aR o)] L2 (aR o :: St) S := ev_go i182_20 rfl
theorem i182_21 : insAt 182 21 = some (.iconst 0, 1, (0, 0, 0, 0), 0) := rfl
theorem s182_21 {c : Nat → List AV → SS → Option Out} {l0 l1 l2 : Option AV} {L2 : List (Nat × AV)} {St : List AV} {S : SS} : ev c 182 21 [l0, l1, l2] L2 St S = ev c 182 22 [l0, l1, l2] L2 (aI 0 :: St) S := ev_go i182_21 rfl
theorem i182_22 : insAt 182 22 = some (.aload_n 0, 1, (0, 0, 0, 0), 0) := rfl
theorem s182_22 {c : Nat → List AV → SS → Option Out} {l1 l2 : Option AV} {o : OId} {L2 : List (Nat × AV)} {St : List AV} {S : SS} : ev c 182 22 [some (aR o), l1, l2] L2 St S = ev c 182 23 [some (aR o), l1, l2] L2 (aR o :: St) S := ev_go i182_22 rfl
theorem i182_23 : insAt 182 23 = some (.arraylength, 1, (0, 0, 0, 0), 0) := rfl
theorem s182_23 {c : Nat → List AV → SS → Option Out} {l0 l1 l2 : Option AV} {o : OId} {L2 : List (Nat × AV)} {St : List AV} {S : SS} : ev c 182 23 [l0, l1, l2] L2 (aR o :: St) S = kN o (fun x => ev c 182 24 [l0, l1, l2] L2 (aI x :: St) S) := ev_alen i182_23
theorem i182_24 : insAt 182 24 = some (.iload_n 1, 1, (0, 0, 0, 0), 0) := rfl
theorem s182_24 {c : Nat → List AV → SS → Option Out} {l0 l2 : Option AV} {x : Int32} {L2 : List (Nat × AV)} {St : List AV} {S : SS} : ev c 182 24 [l0, some (aI x), l2] L2 St S = ev c 182 25 [l0, some (aI x), l2] L2 (aI x :: St) S := ev_go i182_24 rfl
theorem i182_25 : insAt 182 25 = some (.invokestatic 304, 3, (53, 2, 0, 0), 0) := rfl
theorem s182_25 {c : Nat → List AV → SS → Option Out} {l0 l1 l2 : Option AV} {t0 t1 t2 t3 : AV} {a0 : Int32} {a1 : Int32} {L2 : List (Nat × AV)} {S : SS} : ev c 182 25 [l0, l1, l2] L2 [aI a1, aI a0, t0, t1, t2, t3] S = ck (c 53 [aI a0, aI a1] S) (fun v S' => ev c 182 28 [l0, l1, l2] L2 (v.toList ++ [t0, t1, t2, t3]) S') := ev_call i182_25 rfl
theorem i182_28 : insAt 182 28 = some (.invokestatic 150, 3, (0, 5, 21, 0), 0) := rfl
theorem s182_28 {c : Nat → List AV → SS → Option Out} {l0 l1 l2 : Option AV} {x dp sp : Int32} {d s : OId} {L2 : List (Nat × AV)} {S : SS} : ev c 182 28 [l0, l1, l2] L2 [aI x, aI dp, aR d, aI sp, aR s] S = kA (acp S s sp d dp x) (fun S' => ev c 182 31 [l0, l1, l2] L2 [] S') := ev_acopy rfl i182_28 (by decide)
theorem i182_31 : insAt 182 31 = some (.aload_n 2, 1, (0, 0, 0, 0), 0) := rfl
theorem s182_31 {c : Nat → List AV → SS → Option Out} {l0 l1 : Option AV} {o : OId} {L2 : List (Nat × AV)} {St : List AV} {S : SS} : ev c 182 31 [l0, l1, some (aR o)] L2 St S = ev c 182 32 [l0, l1, some (aR o)] L2 (aR o :: St) S := ev_go i182_31 rfl
theorem i182_32 : insAt 182 32 = some (.areturn, 1, (0, 0, 0, 0), 0) := rfl
theorem s182_32 {c : Nat → List AV → SS → Option Out} {l0 l1 l2 : Option AV} {o : OId} {L2 : List (Nat × AV)} {St : List AV} {S : SS} : ev c 182 32 [l0, l1, l2] L2 [aR o] S = some (.inl (some (aR o)), S) := ev_end i182_32 rfl
theorem s182_32N {c : Nat → List AV → SS → Option Out} {l0 l1 l2 : Option AV} {L2 : List (Nat × AV)} {S : SS} : ev c 182 32 [l0, l1, l2] L2 [aN] S = some (.inl (some aN), S) := ev_end i182_32 rfl
theorem m182 {d : Nat} {a0 : OId} {a1 : Int32} {S : SS} : evm (d + 1) 182 [aR a0, aI a1] S = ev (evm d) 182 0 [some (aR a0), some (aI a1), none] [] [] S := evm_s (n := 3) rfl (Nat.le_of_ble_eq_true rfl) rfl rfl
/-! java/lang/AbstractStringBuilder.isLatin1()Z -/
theorem i183_0 : insAt 183 0 = some (.getstatic 18, 3, (0, 0, 0, 0), 0) := rfl
theorem s183_0 {c : Nat → List AV → SS → Option Out} {l0 : Option AV} {L2 : List (Nat × AV)} {St : List AV} {S : SS} : ev c 183 0 [l0] L2 St S = ev c 183 3 [l0] L2 (aI 1 :: St) S := ev_go i183_0 rfl
theorem i183_3 : insAt 183 3 = some (.ifCond .eq 14, 3, (0, 0, 0, 0), 0) := rfl
theorem s183_3 {c : Nat → List AV → SS → Option Out} {l0 : Option AV} {x : Int32} {L2 : List (Nat × AV)} {St : List AV} {S : SS} : ev c 183 3 [l0] L2 (aI x :: St) S = if x = 0 then ev c 183 17 [l0] L2 St S else ev c 183 6 [l0] L2 St S := ev_br i183_3 rfl
theorem i183_6 : insAt 183 6 = some (.aload_n 0, 1, (0, 0, 0, 0), 0) := rfl
theorem s183_6 {c : Nat → List AV → SS → Option Out} {o : OId} {L2 : List (Nat × AV)} {St : List AV} {S : SS} : ev c 183 6 [some (aR o)] L2 St S = ev c 183 7 [some (aR o)] L2 (aR o :: St) S := ev_go i183_6 rfl
theorem i183_7 : insAt 183 7 = some (.getfield 22, 3, (1, 1, 0, 0), 0) := rfl
theorem s183_7 {c : Nat → List AV → SS → Option Out} {l0 : Option AV} {j t : Nat} {L2 : List (Nat × AV)} {St : List AV} {S : SS} : ev c 183 7 [l0] L2 (aR (1, j, t) :: St) S = ev c 183 10 [l0] L2 (aI (by8 (S.1 (1, j, t) 1)) :: St) S := ev_go i183_7 rfl
theorem i183_10 : insAt 183 10 = some (.ifCond .ne 7, 3, (0, 0, 0, 0), 0) := rfl
theorem s183_10 {c : Nat → List AV → SS → Option Out} {l0 : Option AV} {x : Int32} {L2 : List (Nat × AV)} {St : List AV} {S : SS} : ev c 183 10 [l0] L2 (aI x :: St) S = if x = 0 then ev c 183 13 [l0] L2 St S else ev c 183 17 [l0] L2 St S := (ev_br i183_10 rfl).trans (ite_not _ _ _)
theorem i183_13 : insAt 183 13 = some (.iconst 1, 1, (0, 0, 0, 0), 0) := rfl
theorem s183_13 {c : Nat → List AV → SS → Option Out} {l0 : Option AV} {L2 : List (Nat × AV)} {St : List AV} {S : SS} : ev c 183 13 [l0] L2 St S = ev c 183 14 [l0] L2 (aI 1 :: St) S := ev_go i183_13 rfl
theorem i183_14 : insAt 183 14 = some (.goto 4, 3, (0, 0, 0, 0), 0) := rfl
theorem s183_14 {c : Nat → List AV → SS → Option Out} {l0 : Option AV} {L2 : List (Nat × AV)} {St : List AV} {S : SS} : ev c 183 14 [l0] L2 St S = ev c 183 18 [l0] L2 St S := ev_go i183_14 rfl
theorem i183_17 : insAt 183 17 = some (.iconst 0, 1, (0, 0, 0, 0), 0) := rfl
theorem s183_17 {c : Nat → List AV → SS → Option Out} {l0 : Option AV} {L2 : List (Nat × AV)} {St : List AV} {S : SS} : ev c 183 17 [l0] L2 St S = ev c 183 18 [l0] L2 (aI 0 :: St) S := ev_go i183_17 rfl
theorem i183_18 : insAt 183 18 = some (.ireturn, 1, (0, 0, 0, 0), 0) := rfl
theorem s183_18 {c : Nat → List AV → SS → Option Out} {l0 : Option AV} {x : Int32} {L2 : List (Nat × AV)} {St : List AV} {S : SS} : ev c 183 18 [l0] L2 [aI x] S = if x = 0 ∨ x = 1 then some (.inl (some (aI x)), S) else none := ev_rt i183_18 rfl
theorem m183 {d : Nat} {o : OId} {S : SS} : evm (d + 1) 183 [aR o] S = ev (evm d) 183 0 [some (aR o)] [] [] S := evm_s (n := 1) rfl (Nat.le_of_ble_eq_true rfl) rfl rfl
/-! java/lang/String.length()I -/
theorem i184_0 : insAt 184 0 = some (.aload_n 0, 1, (0, 0, 0, 0), 0) := rfl
theorem s184_0 {c : Nat → List AV → SS → Option Out} {o : OId} {L2 : List (Nat × AV)} {St : List AV} {S : SS} : ev c 184 0 [some (aR o)] L2 St S = ev c 184 1 [some (aR o)] L2 (aR o :: St) S := ev_go i184_0 rfl
theorem i184_1 : insAt 184 1 = some (.getfield 9, 3, (0, 0, 0, 0), 0) := rfl
theorem s184_1 {c : Nat → List AV → SS → Option Out} {l0 : Option AV} {j t : Nat} {L2 : List (Nat × AV)} {St : List AV} {S : SS} : ev c 184 1 [l0] L2 (aR (0, j, t) :: St) S = ev c 184 4 [l0] L2 (fget S 0 0 (0, j, t) :: St) S := ev_go i184_1 rfl
theorem i184_4 : insAt 184 4 = some (.arraylength, 1, (0, 0, 0, 0), 0) := rfl
theorem s184_4 {c : Nat → List AV → SS → Option Out} {l0 : Option AV} {o : OId} {L2 : List (Nat × AV)} {St : List AV} {S : SS} : ev c 184 4 [l0] L2 (aR o :: St) S = kN o (fun x => ev c 184 5 [l0] L2 (aI x :: St) S) := ev_alen i184_4
theorem i184_5 : insAt 184 5 = some (.aload_n 0, 1, (0, 0, 0, 0), 0) := rfl
theorem s184_5 {c : Nat → List AV → SS → Option Out} {o : OId} {L2 : List (Nat × AV)} {St : List AV} {S : SS} : ev c 184 5 [some (aR o)] L2 St S = ev c 184 6 [some (aR o)] L2 (aR o :: St) S := ev_go i184_5 rfl
theorem i184_6 : insAt 184 6 = some (.invokevirtual 335, 3, (185, 0, 2, 0), 0) := rfl
theorem s184_6 {c : Nat → List AV → SS → Option Out} {l0 : Option AV} {t0 : AV} {j t : Nat} {L2 : List (Nat × AV)} {S : SS} : ev c 184 6 [l0] L2 [aR (0, j, t), t0] S = ck (c 185 [aR (0, j, t)] S) (fun v S' => ev c 184 9 [l0] L2 (v.toList ++ [t0]) S') := ev_call i184_6 rfl
theorem i184_9 : insAt 184 9 = some (.ishr, 1, (0, 0, 0, 0), 0) := rfl
theorem s184_9 {c : Nat → List AV → SS → Option Out} {l0 : Option AV} {x y : Int32} {L2 : List (Nat × AV)} {St : List AV} {S : SS} : ev c 184 9 [l0] L2 (aI y :: aI x :: St) S = ev c 184 10 [l0] L2 (aI (x >>> (y &&& 31)) :: St) S := ev_go i184_9 rfl
theorem i184_10 : insAt 184 10 = some (.ireturn, 1, (0, 0, 0, 0), 0) := rfl
theorem s184_10 {c : Nat → List AV → SS → Option Out} {l0 : Option AV} {x : Int32} {L2 : List (Nat × AV)} {St : List AV} {S : SS} : ev c 184 10 [l0] L2 [aI x] S = some (.inl (some (aI x)), S) := ev_end i184_10 rfl
theorem m184 {d : Nat} {o : OId} {S : SS} : evm (d + 1) 184 [aR o] S = ev (evm d) 184 0 [some (aR o)] [] [] S := evm_s (n := 1) rfl (Nat.le_of_ble_eq_true rfl) rfl rfl
/-! java/lang/String.coder()B -/
theorem i185_0 : insAt 185 0 = some (.getstatic 38, 3, (0, 0, 0, 0), 0) := rfl
theorem s185_0 {c : Nat → List AV → SS → Option Out} {l0 : Option AV} {L2 : List (Nat × AV)} {St : List AV} {S : SS} : ev c 185 0 [l0] L2 St S = ev c 185 3 [l0] L2 (aI 1 :: St) S := ev_go i185_0 rfl
theorem i185_3 : insAt 185 3 = some (.ifCond .eq 10, 3, (0, 0, 0, 0), 0) := rfl
theorem s185_3 {c : Nat → List AV → SS → Option Out} {l0 : Option AV} {x : Int32} {L2 : List (Nat × AV)} {St : List AV} {S : SS} : ev c 185 3 [l0] L2 (aI x :: St) S = if x = 0 then ev c 185 13 [l0] L2 St S else ev c 185 6 [l0] L2 St S := ev_br i185_3 rfl
theorem i185_6 : insAt 185 6 = some (.aload_n 0, 1, (0, 0, 0, 0), 0) := rfl
theorem s185_6 {c : Nat → List AV → SS → Option Out} {o : OId} {L2 : List (Nat × AV)} {St : List AV} {S : SS} : ev c 185 6 [some (aR o)] L2 St S = ev c 185 7 [some (aR o)] L2 (aR o :: St) S := ev_go i185_6 rfl
theorem i185_7 : insAt 185 7 = some (.getfield 15, 3, (0, 1, 0, 0), 0) := rfl
theorem s185_7 {c : Nat → List AV → SS → Option Out} {l0 : Option AV} {j t : Nat} {L2 : List (Nat × AV)} {St : List AV} {S : SS} : ev c 185 7 [l0] L2 (aR (0, j, t) :: St) S = ev c 185 10 [l0] L2 (fget S 0 1 (0, j, t) :: St) S := ev_go i185_7 rfl
theorem i185_10 : insAt 185 10 = some (.goto 4, 3, (0, 0, 0, 0), 0) := rfl
theorem s185_10 {c : Nat → List AV → SS → Option Out} {l0 : Option AV} {L2 : List (Nat × AV)} {St : List AV} {S : SS} : ev c 185 10 [l0] L2 St S = ev c 185 14 [l0] L2 St S := ev_go i185_10 rfl
theorem i185_13 : insAt 185 13 = some (.iconst 1, 1, (0, 0, 0, 0), 0) := rfl
theorem s185_13 {c : Nat → List AV → SS → Option Out} {l0 : Option AV} {L2 : List (Nat × AV)} {St : List AV} {S : SS} : ev c 185 13 [l0] L2 St S = ev c 185 14 [l0] L2 (aI 1 :: St) S := ev_go i185_13 rfl
theorem i185_14 : insAt 185 14 = some (.ireturn, 1, (0, 0, 0, 0), 0) := rfl
theorem s185_14 {c : Nat → List AV → SS → Option Out} {l0 : Option AV} {x : Int32} {L2 : List (Nat × AV)} {St : List AV} {S : SS} : ev c 185 14 [l0] L2 [aI x] S = if by8 x = x then some (.inl (some (aI x)), S) else none := ev_rt i185_14 rfl
theorem m185 {d : Nat} {o : OId} {S : SS} : evm (d + 1) 185 [aR o] S = ev (evm d) 185 0 [some (aR o)] [] [] S := evm_s (n := 1) rfl (Nat.le_of_ble_eq_true rfl) rfl rfl
/-! java/lang/AbstractStringBuilder.putStringAt(ILjava/lang/String;)V -/
theorem i186_0 : insAt 186 0 = some (.aload_n 0, 1, (0, 0, 0, 0), 0) := rfl
theorem s186_0 {c : Nat → List AV → SS → Option Out} {l1 l2 : Option AV} {o : OId} {L2 : List (Nat × AV)} {St : List AV} {S : SS} : ev c 186 0 [some (aR o), l1, l2] L2 St S = ev c 186 1 [some (aR o), l1, l2] L2 (aR o :: St) S := ev_go i186_0 rfl
theorem i186_1 : insAt 186 1 = some (.aload_n 2, 1, (0, 0, 0, 0), 0) := rfl
theorem s186_1 {c : Nat → List AV → SS → Option Out} {l0 l1 : Option AV} {o : OId} {L2 : List (Nat × AV)} {St : List AV} {S : SS} : ev c 186 1 [l0, l1, some (aR o)] L2 St S = ev c 186 2 [l0, l1, some (aR o)] L2 (aR o :: St) S := ev_go i186_1 rfl
theorem i186_2 : insAt 186 2 = some (.invokevirtual 397, 3, (187, 1, 4, 1), 0) := rfl
theorem s186_2 {c : Nat → List AV → SS → Option Out} {l0 l1 l2 : Option AV} {a0 : OId} {j t : Nat} {L2 : List (Nat × AV)} {S : SS} : ev c 186 2 [l0, l1, l2] L2 [aR a0, aR (1, j, t)] S = ck (c 187 [aR (1, j, t), aR a0] S) (fun v S' => ev c 186 5 [l0, l1, l2] L2 (v.toList ++ []) S') := ev_call i186_2 rfl
theorem i186_5 : insAt 186 5 = some (.aload_n 2, 1, (0, 0, 0, 0), 0) := rfl
theorem s186_5 {c : Nat → List AV → SS → Option Out} {l0 l1 : Option AV} {o : OId} {L2 : List (Nat × AV)} {St : List AV} {S : SS} : ev c 186 5 [l0, l1, some (aR o)] L2 St S = ev c 186 6 [l0, l1, some (aR o)] L2 (aR o :: St) S := ev_go i186_5 rfl
theorem i186_6 : insAt 186 6 = some (.aload_n 0, 1, (0, 0, 0, 0), 0) := rfl
theorem s186_6 {c : Nat → List AV → SS → Option Out} {l1 l2 : Option AV} {o : OId} {L2 : List (Nat × AV)} {St : List AV} {S : SS} : ev c 186 6 [some (aR o), l1, l2] L2 St S = ev c 186 7 [some (aR o), l1, l2] L2 (aR o :: St) S := ev_go i186_6 rfl
theorem i186_7 : insAt 186 7 = some (.getfield 15, 3, (1, 0, 0, 0), 0) := rfl
theorem s186_7 {c : Nat → List AV → SS → Option Out} {l0 l1 l2 : Option AV} {j t : Nat} {L2 : List (Nat × AV)} {St : List AV} {S : SS} : ev c 186 7 [l0, l1, l2] L2 (aR (1, j, t) :: St) S = ev c 186 10 [l0, l1, l2] L2 (S.2.1 (1, j, t) 0 :: St) S := ev_go i186_7 rfl
theorem i186_10 : insAt 186 10 = some (.iload_n 1, 1, (0, 0, 0, 0), 0) := rfl
theorem s186_10 {c : Nat → List AV → SS → Option Out} {l0 l2 : Option AV} {x : Int32} {L2 : List (Nat × AV)} {St : List AV} {S : SS} : ev c 186 10 [l0, some (aI x), l2] L2 St S = ev c 186 11 [l0, some (aI x), l2] L2 (aI x :: St) S := ev_go i186_10 rfl
theorem i186_11 : insAt 186 11 = some (.aload_n 0, 1, (0, 0, 0, 0), 0) := rfl
theorem s186_11 {c : Nat → List AV → SS → Option Out} {l1 l2 : Option AV} {o : OId} {L2 : List (Nat × AV)} {St : List AV} {S : SS} : ev c 186 11 [some (aR o), l1, l2] L2 St S = ev c 186 12 [some (aR o), l1, l2] L2 (aR o :: St) S := ev_go i186_11 rfl
theorem i186_12 : insAt 186 12 = some (.getfield 22, 3, (1, 1, 0, 0), 0) := rfl
theorem s186_12 {c : Nat → List AV → SS → Option Out} {l0 l1 l2 : Option AV} {j t : Nat} {L2 : List (Nat × AV)} {St : List AV} {S : SS} : ev c 186 12 [l0, l1, l2] L2 (aR (1, j, t) :: St) S = ev c 186 15 [l0, l1, l2] L2 (aI (by8 (S.1 (1, j, t) 1)) :: St) S := ev_go i186_12 rfl
theorem i186_15 : insAt 186 15 = some (.invokevirtual 399, 3, (188, 3, 2, 0), 0) := rfl
theorem s186_15 {c : Nat → List AV → SS → Option Out} {l0 l1 l2 : Option AV} {a0 : OId} {a1 : Int32} {a2 : Int32} {j t : Nat} {L2 : List (Nat × AV)} {S : SS} : ev c 186 15 [l0, l1, l2] L2 [aI a2, aI a1, aR a0, aR (0, j, t)] S = ck (c 188 [aR (0, j, t), aR a0, aI a1, aI a2] S) (fun v S' => ev c 186 18 [l0, l1, l2] L2 (v.toList ++ []) S') := ev_call i186_15 rfl
theorem i186_18 : insAt 186 18 = some (.return_, 1, (0, 0, 0, 0), 0) := rfl
theorem s186_18 {c : Nat → List AV → SS → Option Out} {l0 l1 l2 : Option AV} {L2 : List (Nat × AV)} {St : List AV} {S : SS} : ev c 186 18 [l0, l1, l2] L2 [] S = some (.inl none, S) := ev_end i186_18 rfl
theorem m186 {d : Nat} {o : OId} {a0 : Int32} {a1 : OId} {S : SS} : evm (d + 1) 186 [aR o, aI a0, aR a1] S = ev (evm d) 186 0 [some (aR o), some (aI a0), some (aR a1)] [] [] S := evm_s (n := 3) rfl (Nat.le_of_ble_eq_true rfl) rfl rfl
/-! java/lang/AbstractStringBuilder.inflateIfNeededFor(Ljava/lang/String;)V -/
theorem i187_0 : insAt 187 0 = some (.getstatic 18, 3, (0, 0, 0, 0), 0) := rfl
theorem s187_0 {c : Nat → List AV → SS → Option Out} {l0 l1 : Option AV} {L2 : List (Nat × AV)} {St : List AV} {S : SS} : ev c 187 0 [l0, l1] L2 St S = ev c 187 3 [l0, l1] L2 (aI 1 :: St) S := ev_go i187_0 rfl
theorem i187_3 : insAt 187 3 = some (.ifCond .eq 18, 3, (0, 0, 0, 0), 0) := rfl
theorem s187_3 {c : Nat → List AV → SS → Option Out} {l0 l1 : Option AV} {x : Int32} {L2 : List (Nat × AV)} {St : List AV} {S : SS} : ev c 187 3 [l0, l1] L2 (aI x :: St) S = if x = 0 then ev c 187 21 [l0, l1] L2 St S else ev c 187 6 [l0, l1] L2 St S := ev_br i187_3 rfl
theorem i187_6 : insAt 187 6 = some (.aload_n 0, 1, (0, 0, 0, 0), 0) := rfl
theorem s187_6 {c : Nat → List AV → SS → Option Out} {l1 : Option AV} {o : OId} {L2 : List (Nat × AV)} {St : List AV} {S : SS} : ev c 187 6 [some (aR o), l1] L2 St S = ev c 187 7 [some (aR o), l1] L2 (aR o :: St) S := ev_go i187_6 rfl
theorem i187_7 : insAt 187 7 = some (.getfield 22, 3, (1, 1, 0, 0), 0) := rfl
theorem s187_7 {c : Nat → List AV → SS → Option Out} {l0 l1 : Option AV} {j t : Nat} {L2 : List (Nat × AV)} {St : List AV} {S : SS} : ev c 187 7 [l0, l1] L2 (aR (1, j, t) :: St) S = ev c 187 10 [l0, l1] L2 (aI (by8 (S.1 (1, j, t) 1)) :: St) S := ev_go i187_7 rfl
theorem i187_10 : insAt 187 10 = some (.aload_n 1, 1, (0, 0, 0, 0), 0) := rfl
theorem s187_10 {c : Nat → List AV → SS → Option Out} {l0 : Option AV} {o : OId} {L2 : List (Nat × AV)} {St : List AV} {S : SS} : ev c 187 10 [l0, some (aR o)] L2 St S = ev c 187 11 [l0, some (aR o)] L2 (aR o :: St) S := ev_go i187_10 rfl
theorem i187_11 : insAt 187 11 = some (.invokevirtual 40, 3, (185, 0, 2, 0), 0) := rfl
theorem s187_11 {c : Nat → List AV → SS → Option Out} {l0 l1 : Option AV} {t0 : AV} {j t : Nat} {L2 : List (Nat × AV)} {S : SS} : ev c 187 11 [l0, l1] L2 [aR (0, j, t), t0] S = ck (c 185 [aR (0, j, t)] S) (fun v S' => ev c 187 14 [l0, l1] L2 (v.toList ++ [t0]) S') := ev_call i187_11 rfl
theorem i187_14 : insAt 187 14 = some (.if_icmp .eq 7, 3, (0, 0, 0, 0), 0) := rfl
theorem s187_14 {c : Nat → List AV → SS → Option Out} {l0 l1 : Option AV} {x y : Int32} {L2 : List (Nat × AV)} {St : List AV} {S : SS} : ev c 187 14 [l0, l1] L2 (aI y :: aI x :: St) S = if x = y then ev c 187 21 [l0, l1] L2 St S else ev c 187 17 [l0, l1] L2 St S := ev_br i187_14 rfl
theorem i187_17 : insAt 187 17 = some (.aload_n 0, 1, (0, 0, 0, 0), 0) := rfl
theorem s187_17 {c : Nat → List AV → SS → Option Out} {l1 : Option AV} {o : OId} {L2 : List (Nat × AV)} {St : List AV} {S : SS} : ev c 187 17 [some (aR o), l1] L2 St S = ev c 187 18 [some (aR o), l1] L2 (aR o :: St) S := ev_go i187_17 rfl
theorem i187_21 : insAt 187 21 = some (.return_, 1, (0, 0, 0, 0), 0) := rfl
theorem s187_21 {c : Nat → List AV → SS → Option Out} {l0 l1 : Option AV} {L2 : List (Nat × AV)} {St : List AV} {S : SS} : ev c 187 21 [l0, l1] L2 [] S = some (.inl none, S) := ev_end i187_21 rfl
theorem m187 {d : Nat} {o : OId} {a0 : OId} {S : SS} : evm (d + 1) 187 [aR o, aR a0] S = ev (evm d) 187 0 [some (aR o), some (aR a0)] [] [] S := evm_s (n := 2) rfl (Nat.le_of_ble_eq_true rfl) rfl rfl
/-! java/lang/String.getBytes([BIB)V -/
theorem i188_0 : insAt 188 0 = some (.aload_n 0, 1, (0, 0, 0, 0), 0) := rfl
theorem s188_0 {c : Nat → List AV → SS → Option Out} {l1 l2 l3 : Option AV} {o : OId} {L2 : List (Nat × AV)} {St : List AV} {S : SS} : ev c 188 0 [some (aR o), l1, l2, l3] L2 St S = ev c 188 1 [some (aR o), l1, l2, l3] L2 (aR o :: St) S := ev_go i188_0 rfl
theorem i188_1 : insAt 188 1 = some (.invokevirtual 335, 3, (185, 0, 2, 0), 0) := rfl
theorem s188_1 {c : Nat → List AV → SS → Option Out} {l0 l1 l2 l3 : Option AV} {j t : Nat} {L2 : List (Nat × AV)} {S : SS} : ev c 188 1 [l0, l1, l2, l3] L2 [aR (0, j, t)] S = ck (c 185 [aR (0, j, t)] S) (fun v S' => ev c 188 4 [l0, l1, l2, l3] L2 (v.toList ++ []) S') := ev_call i188_1 rfl
theorem i188_4 : insAt 188 4 = some (.iload_n 3, 1, (0, 0, 0, 0), 0) := rfl
theorem s188_4 {c : Nat → List AV → SS → Option Out} {l0 l1 l2 : Option AV} {x : Int32} {L2 : List (Nat × AV)} {St : List AV} {S : SS} : ev c 188 4 [l0, l1, l2, some (aI x)] L2 St S = ev c 188 5 [l0, l1, l2, some (aI x)] L2 (aI x :: St) S := ev_go i188_4 rfl
theorem i188_5 : insAt 188 5 = some (.if_icmp .ne 23, 3, (0, 0, 0, 0), 0) := rfl
theorem s188_5 {c : Nat → List AV → SS → Option Out} {l0 l1 l2 l3 : Option AV} {x y : Int32} {L2 : List (Nat × AV)} {St : List AV} {S : SS} : ev c 188 5 [l0, l1, l2, l3] L2 (aI y :: aI x :: St) S = if x = y then ev c 188 8 [l0, l1, l2, l3] L2 St S else ev c 188 28 [l0, l1, l2, l3] L2 St S := (ev_br i188_5 rfl).trans (ite_not _ _ _)
theorem i188_8 : insAt 188 8 = some (.aload_n 0, 1, (0, 0, 0, 0), 0) := rfl
theorem s188_8 {c : Nat → List AV → SS → Option Out} {l1 l2 l3 : Option AV} {o : OId} {L2 : List (Nat × AV)} {St : List AV} {S : SS} : ev c 188 8 [some (aR o), l1, l2, l3] L2 St S = ev c 188 9 [some (aR o), l1, l2, l3] L2 (aR o :: St) S := ev_go i188_8 rfl
theorem i188_9 : insAt 188 9 = some (.getfield 9, 3, (0, 0, 0, 0), 0) := rfl
theorem s188_9 {c : Nat → List AV → SS → Option Out} {l0 l1 l2 l3 : Option AV} {j t : Nat} {L2 : List (Nat × AV)} {St : List AV} {S : SS} : ev c 188 9 [l0, l1, l2, l3] L2 (aR (0, j, t) :: St) S = ev c 188 12 [l0, l1, l2, l3] L2 (fget S 0 0 (0, j, t) :: St) S := ev_go i188_9 rfl
theorem i188_12 : insAt 188 12 = some (.iconst 0, 1, (0, 0, 0, 0), 0) := rfl
theorem s188_12 {c : Nat → List AV → SS → Option Out} {l0 l1 l2 l3 : Option AV} {L2 : List (Nat × AV)} {St : List AV} {S : SS} : ev c 188 12 [l0, l1, l2, l3] L2 St S = ev c 188 13 [l0, l1, l2, l3] L2 (aI 0 :: St) S := ev_go i188_12 rfl
theorem i188_13 : insAt 188 13 = some (.aload_n 1, 1, (0, 0, 0, 0), 0) := rfl
theorem s188_13 {c : Nat → List AV → SS → Option Out} {l0 l2 l3 : Option AV} {o : OId} {L2 : List (Nat × AV)} {St : List AV} {S : SS} : ev c 188 13 [l0, some (aR o), l2, l3] L2 St S = ev c 188 14 [l0, some (aR o), l2, l3] L2 (aR o :: St) S := ev_go i188_13 rfl
theorem i188_14 : insAt 188 14 = some (.iload_n 2, 1, (0, 0, 0, 0), 0) := rfl
theorem s188_14 {c : Nat → List AV → SS → Option Out} {l0 l1 l3 : Option AV} {x : Int32} {L2 : List (Nat × AV)} {St : List AV} {S : SS} : ev c 188 14 [l0, l1, some (aI x), l3] L2 St S = ev c 188 15 [l0, l1, some (aI x), l3] L2 (aI x :: St) S := ev_go i188_14 rfl
theorem i188_15 : insAt 188 15 = some (.iload_n 3, 1, (0, 0, 0, 0), 0) := rfl
theorem s188_15 {c : Nat → List AV → SS → Option Out} {l0 l1 l2 : Option AV} {x : Int32} {L2 : List (Nat × AV)} {St : List AV} {S : SS} : ev c 188 15 [l0, l1, l2, some (aI x)] L2 St S = ev c 188 16 [l0, l1, l2, some (aI x)] L2 (aI x :: St) S := ev_go i188_15 rfl
theorem i188_16 : insAt 188 16 = some (.ishl, 1, (0, 0, 0, 0), 0) := rfl
theorem s188_16 {c : Nat → List AV → SS → Option Out} {l0 l1 l2 l3 : Option AV} {x y : Int32} {L2 : List (Nat × AV)} {St : List AV} {S : SS} : ev c 188 16 [l0, l1, l2, l3] L2 (aI y :: aI x :: St) S = ev c 188 17 [l0, l1, l2, l3] L2 (aI (x <<< (y &&& 31)) :: St) S := ev_go i188_16 rfl
theorem i188_17 : insAt 188 17 = some (.aload_n 0, 1, (0, 0, 0, 0), 0) := rfl
theorem s188_17 {c : Nat → List AV → SS → Option Out} {l1 l2 l3 : Option AV} {o : OId} {L2 : List (Nat × AV)} {St : List AV} {S : SS} : ev c 188 17 [some (aR o), l1, l2, l3] L2 St S = ev c 188 18 [some (aR o), l1, l2, l3] L2 (aR o :: St) S := ev_go i188_17 rfl
theorem i188_18 : insAt 188 18 = some (.getfield 9, 3, (0, 0, 0, 0), 0) := rfl
theorem s188_18 {c : Nat → List AV → SS → Option Out} {l0 l1 l2 l3 : Option AV} {j t : Nat} {L2 : List (Nat × AV)} {St : List AV} {S : SS} : ev c 188 18 [l0, l1, l2, l3] L2 (aR (0, j, t) :: St) S = ev c 188 21 [l0, l1, l2, l3] L2 (fget S 0 0 (0, j, t) :: St) S := ev_go i188_18 rfl
theorem i188_21 : insAt 188 21 = some (.arraylength, 1, (0, 0, 0, 0), 0) := rfl
theorem s188_21 {c : Nat → List AV → SS → Option Out} {l0 l1 l2 l3 : Option AV} {o : OId} {L2 : List (Nat × AV)} {St : List AV} {S : SS} : ev c 188 21 [l0, l1, l2, l3] L2 (aR o :: St) S = kN o (fun x => ev c 188 22 [l0, l1, l2, l3] L2 (aI x :: St) S) := ev_alen i188_21
theorem i188_22 : insAt 188 22 = some (.invokestatic 212, 3, (0, 5, 21, 0), 0) := rfl
theorem s188_22 {c : Nat → List AV → SS → Option Out} {l0 l1 l2 l3 : Option AV} {x dp sp : Int32} {d s : OId} {L2 : List (Nat × AV)} {S : SS} : ev c 188 22 [l0, l1, l2, l3] L2 [aI x, aI dp, aR d, aI sp, aR s] S = kA (acp S s sp d dp x) (fun S' => ev c 188 25 [l0, l1, l2, l3] L2 [] S') := ev_acopy rfl i188_22 (by decide)
theorem i188_25 : insAt 188 25 = some (.goto 18, 3, (0, 0, 0, 0), 0) := rfl
theorem s188_25 {c : Nat → List AV → SS → Option Out} {l0 l1 l2 l3 : Option AV} {L2 : List (Nat × AV)} {St : List AV} {S : SS} : ev c 188 25 [l0, l1, l2, l3] L2 St S = ev c 188 43 [l0, l1, l2, l3] L2 St S := ev_go i188_25 rfl
theorem i188_28 : insAt 188 28 = some (.aload_n 0, 1, (0, 0, 0, 0), 0) := rfl
theorem s188_28 {c : Nat → List AV → SS → Option Out} {l1 l2 l3 : Option AV} {o : OId} {L2 : List (Nat × AV)} {St : List AV} {S : SS} : ev c 188 28 [some (aR o), l1, l2, l3] L2 St S = ev c 188 29 [some (aR o), l1, l2, l3] L2 (aR o :: St) S := ev_go i188_28 rfl
theorem i188_29 : insAt 188 29 = some (.getfield 9, 3, (0, 0, 0, 0), 0) := rfl
theorem s188_29 {c : Nat → List AV → SS → Option Out} {l0 l1 l2 l3 : Option AV} {j t : Nat} {L2 : List (Nat × AV)} {St : List AV} {S : SS} : ev c 188 29 [l0, l1, l2, l3] L2 (aR (0, j, t) :: St) S = ev c 188 32 [l0, l1, l2, l3] L2 (fget S 0 0 (0, j, t) :: St) S := ev_go i188_29 rfl
theorem i188_32 : insAt 188 32 = some (.iconst 0, 1, (0, 0, 0, 0), 0) := rfl
theorem s188_32 {c : Nat → List AV → SS → Option Out} {l0 l1 l2 l3 : Option AV} {L2 : List (Nat × AV)} {St : List AV} {S : SS} : ev c 188 32 [l0, l1, l2, l3] L2 St S = ev c 188 33 [l0, l1, l2, l3] L2 (aI 0 :: St) S := ev_go i188_32 rfl
theorem i188_33 : insAt 188 33 = some (.aload_n 1, 1, (0, 0, 0, 0), 0) := rfl
theorem s188_33 {c : Nat → List AV → SS → Option Out} {l0 l2 l3 : Option AV} {o : OId} {L2 : List (Nat × AV)} {St : List AV} {S : SS} : ev c 188 33 [l0, some (aR o), l2, l3] L2 St S = ev c 188 34 [l0, some (aR o), l2, l3] L2 (aR o :: St) S := ev_go i188_33 rfl
theorem i188_34 : insAt 188 34 = some (.iload_n 2, 1, (0, 0, 0, 0), 0) := rfl
theorem s188_34 {c : Nat → List AV → SS → Option Out} {l0 l1 l3 : Option AV} {x : Int32} {L2 : List (Nat × AV)} {St : List AV} {S : SS} : ev c 188 34 [l0, l1, some (aI x), l3] L2 St S = ev c 188 35 [l0, l1, some (aI x), l3] L2 (aI x :: St) S := ev_go i188_34 rfl
theorem i188_35 : insAt 188 35 = some (.aload_n 0, 1, (0, 0, 0, 0), 0) := rfl
theorem s188_35 {c : Nat → List AV → SS → Option Out} {l1 l2 l3 : Option AV} {o : OId} {L2 : List (Nat × AV)} {St : List AV} {S : SS} : ev c 188 35 [some (aR o), l1, l2, l3] L2 St S = ev c 188 36 [some (aR o), l1, l2, l3] L2 (aR o :: St) S := ev_go i188_35 rfl
theorem i188_36 : insAt 188 36 = some (.getfield 9, 3, (0, 0, 0, 0), 0) := rfl
theorem s188_36 {c : Nat → List AV → SS → Option Out} {l0 l1 l2 l3 : Option AV} {j t : Nat} {L2 : List (Nat × AV)} {St : List AV} {S : SS} : ev c 188 36 [l0, l1, l2, l3] L2 (aR (0, j, t) :: St) S = ev c 188 39 [l0, l1, l2, l3] L2 (fget S 0 0 (0, j, t) :: St) S := ev_go i188_36 rfl
theorem i188_39 : insAt 188 39 = some (.arraylength, 1, (0, 0, 0, 0), 0) := rfl
theorem s188_39 {c : Nat → List AV → SS → Option Out} {l0 l1 l2 l3 : Option AV} {o : OId} {L2 : List (Nat × AV)} {St : List AV} {S : SS} : ev c 188 39 [l0, l1, l2, l3] L2 (aR o :: St) S = kN o (fun x => ev c 188 40 [l0, l1, l2, l3] L2 (aI x :: St) S) := ev_alen i188_39
theorem i188_43 : insAt 188 43 = some (.return_, 1, (0, 0, 0, 0), 0) := rfl
theorem s188_43 {c : Nat → List AV → SS → Option Out} {l0 l1 l2 l3 : Option AV} {L2 : List (Nat × AV)} {St : List AV} {S : SS} : ev c 188 43 [l0, l1, l2, l3] L2 [] S = some (.inl none, S) := ev_end i188_43 rfl
theorem m188 {d : Nat} {o : OId} {a0 : OId} {a1 : Int32} {a2 : Int32} {S : SS} : evm (d + 1) 188 [aR o, aR a0, aI a1, aI a2] S = ev (evm d) 188 0 [some (aR o), some (aR a0), some (aI a1), some (aI a2)] [] [] S := evm_s (n := 4) rfl (Nat.le_of_ble_eq_true rfl) rfl rfl
/-! java/lang/StringBuilder.append(I)Ljava/lang/StringBuilder; -/
theorem i189_0 : insAt 189 0 = some (.aload_n 0, 1, (0, 0, 0, 0), 0) := rfl
theorem s189_0 {c : Nat → List AV → SS → Option Out} {l1 : Option AV} {o : OId} {L2 : List (Nat × AV)} {St : List AV} {S : SS} : ev c 189 0 [some (aR o), l1] L2 St S = ev c 189 1 [some (aR o), l1] L2 (aR o :: St) S := ev_go i189_0 rfl
theorem i189_1 : insAt 189 1 = some (.iload_n 1, 1, (0, 0, 0, 0), 0) := rfl
theorem s189_1 {c : Nat → List AV → SS → Option Out} {l0 : Option AV} {x : Int32} {L2 : List (Nat × AV)} {St : List AV} {S : SS} : ev c 189 1 [l0, some (aI x)] L2 St S = ev c 189 2 [l0, some (aI x)] L2 (aI x :: St) S := ev_go i189_1 rfl
theorem i189_2 : insAt 189 2 = some (.invokespecial 53, 3, (190, 1, 7, 1), 0) := rfl
theorem s189_2 {c : Nat → List AV → SS → Option Out} {l0 l1 : Option AV} {a0 : Int32} {j t : Nat} {L2 : List (Nat × AV)} {S : SS} : ev c 189 2 [l0, l1] L2 [aI a0, aR (1, j, t)] S = ck (c 190 [aR (1, j, t), aI a0] S) (fun v S' => ev c 189 5 [l0, l1] L2 (v.toList ++ []) S') := ev_call i189_2 rfl
theorem i189_5 : insAt 189 5 = some (.pop, 1, (0, 0, 0, 0), 0) := rfl
theorem s189_5 {c : Nat → List AV → SS → Option Out} {l0 l1 : Option AV} {x : OId} {L2 : List (Nat × AV)} {St : List AV} {S : SS} : ev c 189 5 [l0, l1] L2 (aR x :: St) S = ev c 189 6 [l0, l1] L2 (St) S := ev_go i189_5 rfl
theorem i189_6 : insAt 189 6 = some (.aload_n 0, 1, (0, 0, 0, 0), 0) := rfl
theorem s189_6 {c : Nat → List AV → SS → Option Out} {l1 : Option AV} {o : OId} {L2 : List (Nat × AV)} {St : List AV} {S : SS} : ev c 189 6 [some (aR o), l1] L2 St S = ev c 189 7 [some (aR o), l1] L2 (aR o :: St) S := ev_go i189_6 rfl
theorem i189_7 : insAt 189 7 = some (.areturn, 1, (0, 0, 0, 0), 0) := rfl
theorem s189_7 {c : Nat → List AV → SS → Option Out} {l0 l1 : Option AV} {o : OId} {L2 : List (Nat × AV)} {St : List AV} {S : SS} : ev c 189 7 [l0, l1] L2 [aR o] S = some (.inl (some (aR o)), S) := ev_end i189_7 rfl
theorem s189_7N {c : Nat → List AV → SS → Option Out} {l0 l1 : Option AV} {L2 : List (Nat × AV)} {S : SS} : ev c 189 7 [l0, l1] L2 [aN] S = some (.inl (some aN), S) := ev_end i189_7 rfl
theorem m189 {d : Nat} {o : OId} {a0 : Int32} {S : SS} : evm (d + 1) 189 [aR o, aI a0] S = ev (evm d) 189 0 [some (aR o), some (aI a0)] [] [] S := evm_s (n := 2) rfl (Nat.le_of_ble_eq_true rfl) rfl rfl
/-! java/lang/AbstractStringBuilder.append(I)Ljava/lang/AbstractStringBuilder; -/
theorem i190_0 : insAt 190 0 = some (.aload_n 0, 1, (0, 0, 0, 0), 0) := rfl
theorem s190_0 {c : Nat → List AV → SS → Option Out} {l1 l2 l3 : Option AV} {o : OId} {L2 : List (Nat × AV)} {St : List AV} {S : SS} : ev c 190 0 [some (aR o), l1, l2, l3] L2 St S = ev c 190 1 [some (aR o), l1, l2, l3] L2 (aR o :: St) S := ev_go i190_0 rfl
theorem i190_1 : insAt 190 1 = some (.getfield 79, 3, (1, 3, 0, 0), 0) := rfl
theorem s190_1 {c : Nat → List AV → SS → Option Out} {l0 l1 l2 l3 : Option AV} {j t : Nat} {L2 : List (Nat × AV)} {St : List AV} {S : SS} : ev c 190 1 [l0, l1, l2, l3] L2 (aR (1, j, t) :: St) S = ev c 190 4 [l0, l1, l2, l3] L2 (aI (S.1 (1, j, t) 3) :: St) S := ev_go i190_1 rfl
theorem i190_4 : insAt 190 4 = some (.istore_n 2, 1, (0, 0, 0, 0), 0) := rfl
theorem s190_4 {c : Nat → List AV → SS → Option Out} {l0 l1 l2 l3 : Option AV} {x : Int32} {L2 : List (Nat × AV)} {St : List AV} {S : SS} : ev c 190 4 [l0, l1, l2, l3] L2 (aI x :: St) S = ev c 190 5 [l0, l1, some (aI x), l3] (kil L2 2) St S := ev_go i190_4 rfl
theorem i190_5 : insAt 190 5 = some (.iload_n 2, 1, (0, 0, 0, 0), 0) := rfl
theorem s190_5 {c : Nat → List AV → SS → Option Out} {l0 l1 l3 : Option AV} {x : Int32} {L2 : List (Nat × AV)} {St : List AV} {S : SS} : ev c 190 5 [l0, l1, some (aI x), l3] L2 St S = ev c 190 6 [l0, l1, some (aI x), l3] L2 (aI x :: St) S := ev_go i190_5 rfl
theorem i190_6 : insAt 190 6 = some (.iload_n 1, 1, (0, 0, 0, 0), 0) := rfl
theorem s190_6 {c : Nat → List AV → SS → Option Out} {l0 l2 l3 : Option AV} {x : Int32} {L2 : List (Nat × AV)} {St : List AV} {S : SS} : ev c 190 6 [l0, some (aI x), l2, l3] L2 St S = ev c 190 7 [l0, some (aI x), l2, l3] L2 (aI x :: St) S := ev_go i190_6 rfl
theorem i190_7 : insAt 190 7 = some (.invokestatic 245, 3, (191, 1, 0, 0), 0) := rfl
theorem s190_7 {c : Nat → List AV → SS → Option Out} {l0 l1 l2 l3 : Option AV} {t0 : AV} {a0 : Int32} {L2 : List (Nat × AV)} {S : SS} : ev c 190 7 [l0, l1, l2, l3] L2 [aI a0, t0] S = ck (c 191 [aI a0] S) (fun v S' => ev c 190 10 [l0, l1, l2, l3] L2 (v.toList ++ [t0]) S') := ev_call i190_7 rfl
theorem i190_10 : insAt 190 10 = some (.iadd, 1, (0, 0, 0, 0), 0) := rfl
theorem s190_10 {c : Nat → List AV → SS → Option Out} {l0 l1 l2 l3 : Option AV} {x y : Int32} {L2 : List (Nat × AV)} {St : List AV} {S : SS} : ev c 190 10 [l0, l1, l2, l3] L2 (aI y :: aI x :: St) S = ev c 190 11 [l0, l1, l2, l3] L2 (aI (x + y) :: St) S := ev_go i190_10 rfl
theorem i190_11 : insAt 190 11 = some (.istore_n 3, 1, (0, 0, 0, 0), 0) := rfl
theorem s190_11 {c : Nat → List AV → SS → Option Out} {l0 l1 l2 l3 : Option AV} {x : Int32} {L2 : List (Nat × AV)} {St : List AV} {S : SS} : ev c 190 11 [l0, l1, l2, l3] L2 (aI x :: St) S = ev c 190 12 [l0, l1, l2, some (aI x)] (kil L2 3) St S := ev_go i190_11 rfl
theorem i190_12 : insAt 190 12 = some (.aload_n 0, 1, (0, 0, 0, 0), 0) := rfl
theorem s190_12 {c : Nat → List AV → SS → Option Out} {l1 l2 l3 : Option AV} {o : OId} {L2 : List (Nat × AV)} {St : List AV} {S : SS} : ev c 190 12 [some (aR o), l1, l2, l3] L2 St S = ev c 190 13 [some (aR o), l1, l2, l3] L2 (aR o :: St) S := ev_go i190_12 rfl
theorem i190_13 : insAt 190 13 = some (.iload_n 3, 1, (0, 0, 0, 0), 0) := rfl
theorem s190_13 {c : Nat → List AV → SS → Option Out} {l0 l1 l2 : Option AV} {x : Int32} {L2 : List (Nat × AV)} {St : List AV} {S : SS} : ev c 190 13 [l0, l1, l2, some (aI x)] L2 St S = ev c 190 14 [l0, l1, l2, some (aI x)] L2 (aI x :: St) S := ev_go i190_13 rfl
theorem i190_14 : insAt 190 14 = some (.invokevirtual 100, 3, (179, 1, 4, 1), 0) := rfl
theorem s190_14 {c : Nat → List AV → SS → Option Out} {l0 l1 l2 l3 : Option AV} {a0 : Int32} {j t : Nat} {L2 : List (Nat × AV)} {S : SS} : ev c 190 14 [l0, l1, l2, l3] L2 [aI a0, aR (1, j, t)] S = ck (c 179 [aR (1, j, t), aI a0] S) (fun v S' => ev c 190 17 [l0, l1, l2, l3] L2 (v.toList ++ []) S') := ev_call i190_14 rfl
theorem i190_17 : insAt 190 17 = some (.aload_n 0, 1, (0, 0, 0, 0), 0) := rfl
theorem s190_17 {c : Nat → List AV → SS → Option Out} {l1 l2 l3 : Option AV} {o : OId} {L2 : List (Nat × AV)} {St : List AV} {S : SS} : ev c 190 17 [some (aR o), l1, l2, l3] L2 St S = ev c 190 18 [some (aR o), l1, l2, l3] L2 (aR o :: St) S := ev_go i190_17 rfl
theorem i190_18 : insAt 190 18 = some (.invokevirtual 83, 3, (183, 0, 4, 1), 0) := rfl
theorem s190_18 {c : Nat → List AV → SS → Option Out} {l0 l1 l2 l3 : Option AV} {j t : Nat} {L2 : List (Nat × AV)} {S : SS} : ev c 190 18 [l0, l1, l2, l3] L2 [aR (1, j, t)] S = ck (c 183 [aR (1, j, t)] S) (fun v S' => ev c 190 21 [l0, l1, l2, l3] L2 (v.toList ++ []) S') := ev_call i190_18 rfl
theorem i190_21 : insAt 190 21 = some (.ifCond .eq 16, 3, (0, 0, 0, 0), 0) := rfl
theorem s190_21 {c : Nat → List AV → SS → Option Out} {l0 l1 l2 l3 : Option AV} {x : Int32} {L2 : List (Nat × AV)} {St : List AV} {S : SS} : ev c 190 21 [l0, l1, l2, l3] L2 (aI x :: St) S = if x = 0 then ev c 190 37 [l0, l1, l2, l3] L2 St S else ev c 190 24 [l0, l1, l2, l3] L2 St S := ev_br i190_21 rfl
theorem i190_24 : insAt 190 24 = some (.iload_n 1, 1, (0, 0, 0, 0), 0) := rfl
theorem s190_24 {c : Nat → List AV → SS → Option Out} {l0 l2 l3 : Option AV} {x : Int32} {L2 : List (Nat × AV)} {St : List AV} {S : SS} : ev c 190 24 [l0, some (aI x), l2, l3] L2 St S = ev c 190 25 [l0, some (aI x), l2, l3] L2 (aI x :: St) S := ev_go i190_24 rfl
theorem i190_25 : insAt 190 25 = some (.iload_n 3, 1, (0, 0, 0, 0), 0) := rfl
theorem s190_25 {c : Nat → List AV → SS → Option Out} {l0 l1 l2 : Option AV} {x : Int32} {L2 : List (Nat × AV)} {St : List AV} {S : SS} : ev c 190 25 [l0, l1, l2, some (aI x)] L2 St S = ev c 190 26 [l0, l1, l2, some (aI x)] L2 (aI x :: St) S := ev_go i190_25 rfl
theorem i190_26 : insAt 190 26 = some (.aload_n 0, 1, (0, 0, 0, 0), 0) := rfl
theorem s190_26 {c : Nat → List AV → SS → Option Out} {l1 l2 l3 : Option AV} {o : OId} {L2 : List (Nat × AV)} {St : List AV} {S : SS} : ev c 190 26 [some (aR o), l1, l2, l3] L2 St S = ev c 190 27 [some (aR o), l1, l2, l3] L2 (aR o :: St) S := ev_go i190_26 rfl
theorem i190_27 : insAt 190 27 = some (.getfield 15, 3, (1, 0, 0, 0), 0) := rfl
theorem s190_27 {c : Nat → List AV → SS → Option Out} {l0 l1 l2 l3 : Option AV} {j t : Nat} {L2 : List (Nat × AV)} {St : List AV} {S : SS} : ev c 190 27 [l0, l1, l2, l3] L2 (aR (1, j, t) :: St) S = ev c 190 30 [l0, l1, l2, l3] L2 (S.2.1 (1, j, t) 0 :: St) S := ev_go i190_27 rfl
theorem i190_30 : insAt 190 30 = some (.invokestatic 248, 3, (192, 3, 0, 0), 0) := rfl
theorem s190_30 {c : Nat → List AV → SS → Option Out} {l0 l1 l2 l3 : Option AV} {a0 : Int32} {a1 : Int32} {a2 : OId} {L2 : List (Nat × AV)} {S : SS} : ev c 190 30 [l0, l1, l2, l3] L2 [aR a2, aI a1, aI a0] S = ck (c 192 [aI a0, aI a1, aR a2] S) (fun v S' => ev c 190 33 [l0, l1, l2, l3] L2 (v.toList ++ []) S') := ev_call i190_30 rfl
theorem i190_33 : insAt 190 33 = some (.pop, 1, (0, 0, 0, 0), 0) := rfl
theorem s190_33 {c : Nat → List AV → SS → Option Out} {l0 l1 l2 l3 : Option AV} {x : Int32} {L2 : List (Nat × AV)} {St : List AV} {S : SS} : ev c 190 33 [l0, l1, l2, l3] L2 (aI x :: St) S = ev c 190 34 [l0, l1, l2, l3] L2 (St) S := ev_go i190_33 rfl
theorem i190_34 : insAt 190 34 = some (.goto 14, 3, (0, 0, 0, 0), 0) := rfl
theorem s190_34 {c : Nat → List AV → SS → Option Out} {l0 l1 l2 l3 : Option AV} {L2 : List (Nat × AV)} {St : List AV} {S : SS} : ev c 190 34 [l0, l1, l2, l3] L2 St S = ev c 190 48 [l0, l1, l2, l3] L2 St S := ev_go i190_34 rfl
theorem i190_37 : insAt 190 37 = some (.iload_n 1, 1, (0, 0, 0, 0), 0) := rfl
theorem s190_37 {c : Nat → List AV → SS → Option Out} {l0 l2 l3 : Option AV} {x : Int32} {L2 : List (Nat × AV)} {St : List AV} {S : SS} : ev c 190 37 [l0, some (aI x), l2, l3] L2 St S = ev c 190 38 [l0, some (aI x), l2, l3] L2 (aI x :: St) S := ev_go i190_37 rfl
theorem i190_38 : insAt 190 38 = some (.iload_n 2, 1, (0, 0, 0, 0), 0) := rfl
theorem s190_38 {c : Nat → List AV → SS → Option Out} {l0 l1 l3 : Option AV} {x : Int32} {L2 : List (Nat × AV)} {St : List AV} {S : SS} : ev c 190 38 [l0, l1, some (aI x), l3] L2 St S = ev c 190 39 [l0, l1, some (aI x), l3] L2 (aI x :: St) S := ev_go i190_38 rfl
theorem i190_39 : insAt 190 39 = some (.iload_n 3, 1, (0, 0, 0, 0), 0) := rfl
theorem s190_39 {c : Nat → List AV → SS → Option Out} {l0 l1 l2 : Option AV} {x : Int32} {L2 : List (Nat × AV)} {St : List AV} {S : SS} : ev c 190 39 [l0, l1, l2, some (aI x)] L2 St S = ev c 190 40 [l0, l1, l2, some (aI x)] L2 (aI x :: St) S := ev_go i190_39 rfl
theorem i190_40 : insAt 190 40 = some (.aload_n 0, 1, (0, 0, 0, 0), 0) := rfl
theorem s190_40 {c : Nat → List AV → SS → Option Out} {l1 l2 l3 : Option AV} {o : OId} {L2 : List (Nat × AV)} {St : List AV} {S : SS} : ev c 190 40 [some (aR o), l1, l2, l3] L2 St S = ev c 190 41 [some (aR o), l1, l2, l3] L2 (aR o :: St) S := ev_go i190_40 rfl
theorem i190_41 : insAt 190 41 = some (.getfield 15, 3, (1, 0, 0, 0), 0) := rfl
theorem s190_41 {c : Nat → List AV → SS → Option Out} {l0 l1 l2 l3 : Option AV} {j t : Nat} {L2 : List (Nat × AV)} {St : List AV} {S : SS} : ev c 190 41 [l0, l1, l2, l3] L2 (aR (1, j, t) :: St) S = ev c 190 44 [l0, l1, l2, l3] L2 (S.2.1 (1, j, t) 0 :: St) S := ev_go i190_41 rfl
theorem i190_47 : insAt 190 47 = some (.pop, 1, (0, 0, 0, 0), 0) := rfl
theorem s190_47 {c : Nat → List AV → SS → Option Out} {l0 l1 l2 l3 : Option AV} {x : Int32} {L2 : List (Nat × AV)} {St : List AV} {S : SS} : ev c 190 47 [l0, l1, l2, l3] L2 (aI x :: St) S = ev c 190 48 [l0, l1, l2, l3] L2 (St) S := ev_go i190_47 rfl
theorem i190_48 : insAt 190 48 = some (.aload_n 0, 1, (0, 0, 0, 0), 0) := rfl
theorem s190_48 {c : Nat → List AV → SS → Option Out} {l1 l2 l3 : Option AV} {o : OId} {L2 : List (Nat × AV)} {St : List AV} {S : SS} : ev c 190 48 [some (aR o), l1, l2, l3] L2 St S = ev c 190 49 [some (aR o), l1, l2, l3] L2 (aR o :: St) S := ev_go i190_48 rfl
theorem i190_49 : insAt 190 49 = some (.iload_n 3, 1, (0, 0, 0, 0), 0) := rfl
theorem s190_49 {c : Nat → List AV → SS → Option Out} {l0 l1 l2 : Option AV} {x : Int32} {L2 : List (Nat × AV)} {St : List AV} {S : SS} : ev c 190 49 [l0, l1, l2, some (aI x)] L2 St S = ev c 190 50 [l0, l1, l2, some (aI x)] L2 (aI x :: St) S := ev_go i190_49 rfl
theorem i190_50 : insAt 190 50 = some (.putfield 79, 3, (1, 3, 0, 0), 0) := rfl
theorem s190_50 {c : Nat → List AV → SS → Option Out} {l0 l1 l2 l3 : Option AV} {j t : Nat} {x : Int32} {L2 : List (Nat × AV)} {St : List AV} {S : SS} : ev c 190 50 [l0, l1, l2, l3] L2 (aI x :: aR (1, j, t) :: St) S = ev c 190 53 [l0, l1, l2, l3] L2 St (setI S.1 (1, j, t) 3 x, S.2) := ev_go i190_50 rfl
theorem i190_53 : insAt 190 53 = some (.aload_n 0, 1, (0, 0, 0, 0), 0) := rfl
theorem s190_53 {c : Nat → List AV → SS → Option Out} {l1 l2 l3 : Option AV} {o : OId} {L2 : List (Nat × AV)} {St : List AV} {S : SS} : ev c 190 53 [some (aR o), l1, l2, l3] L2 St S = ev c 190 54 [some (aR o), l1, l2, l3] L2 (aR o :: St) S := ev_go i190_53 rfl
theorem i190_54 : insAt 190 54 = some (.areturn, 1, (0, 0, 0, 0), 0) := rfl
theorem s190_54 {c : Nat → List AV → SS → Option Out} {l0 l1 l2 l3 : Option AV} {o : OId} {L2 : List (Nat × AV)} {St : List AV} {S : SS} : ev c 190 54 [l0, l1, l2, l3] L2 [aR o] S = some (.inl (some (aR o)), S) := ev_end i190_54 rfl
theorem s190_54N {c : Nat → List AV → SS → Option Out} {l0 l1 l2 l3 : Option AV} {L2 : List (Nat × AV)} {S : SS} : ev c 190 54 [l0, l1, l2, l3] L2 [aN] S = some (.inl (some aN), S) := ev_end i190_54 rfl
theorem m190 {d : Nat} {o : OId} {a0 : Int32} {S : SS} : evm (d + 1) 190 [aR o, aI a0] S = ev (evm d) 190 0 [some (aR o), some (aI a0), none, none] [] [] S := evm_s (n := 4) rfl (Nat.le_of_ble_eq_true rfl) rfl rfl
/-! java/lang/Integer.stringSize(I)I -/
theorem i191_0 : insAt 191 0 = some (.iconst 1, 1, (0, 0, 0, 0), 0) := rfl
theorem s191_0 {c : Nat → List AV → SS → Option Out} {l0 l1 l2 l3 : Option AV} {L2 : List (Nat × AV)} {St : List AV} {S : SS} : ev c 191 0 [l0, l1, l2, l3] L2 St S = ev c 191 1 [l0, l1, l2, l3] L2 (aI 1 :: St) S := ev_go i191_0 rfl
theorem i191_1 : insAt 191 1 = some (.istore_n 1, 1, (0, 0, 0, 0), 0) := rfl
theorem s191_1 {c : Nat → List AV → SS → Option Out} {l0 l1 l2 l3 : Option AV} {x : Int32} {L2 : List (Nat × AV)} {St : List AV} {S : SS} : ev c 191 1 [l0, l1, l2, l3] L2 (aI x :: St) S = ev c 191 2 [l0, some (aI x), l2, l3] (kil L2 1) St S := ev_go i191_1 rfl
theorem i191_2 : insAt 191 2 = some (.iload_n 0, 1, (0, 0, 0, 0), 0) := rfl
theorem s191_2 {c : Nat → List AV → SS → Option Out} {l1 l2 l3 : Option AV} {x : Int32} {L2 : List (Nat × AV)} {St : List AV} {S : SS} : ev c 191 2 [some (aI x), l1, l2, l3] L2 St S = ev c 191 3 [some (aI x), l1, l2, l3] L2 (aI x :: St) S := ev_go i191_2 rfl
theorem i191_3 : insAt 191 3 = some (.ifCond .lt 8, 3, (0, 0, 0, 0), 0) := rfl
theorem s191_3 {c : Nat → List AV → SS → Option Out} {l0 l1 l2 l3 : Option AV} {x : Int32} {L2 : List (Nat × AV)} {St : List AV} {S : SS} : ev c 191 3 [l0, l1, l2, l3] L2 (aI x :: St) S = if x < 0 then ev c 191 11 [l0, l1, l2, l3] L2 St S else ev c 191 6 [l0, l1, l2, l3] L2 St S := ev_br i191_3 rfl
theorem i191_6 : insAt 191 6 = some (.iconst 0, 1, (0, 0, 0, 0), 0) := rfl
theorem s191_6 {c : Nat → List AV → SS → Option Out} {l0 l1 l2 l3 : Option AV} {L2 : List (Nat × AV)} {St : List AV} {S : SS} : ev c 191 6 [l0, l1, l2, l3] L2 St S = ev c 191 7 [l0, l1, l2, l3] L2 (aI 0 :: St) S := ev_go i191_6 rfl
theorem i191_7 : insAt 191 7 = some (.istore_n 1, 1, (0, 0, 0, 0), 0) := rfl
theorem s191_7 {c : Nat → List AV → SS → Option Out} {l0 l1 l2 l3 : Option AV} {x : Int32} {L2 : List (Nat × AV)} {St : List AV} {S : SS} : ev c 191 7 [l0, l1, l2, l3] L2 (aI x :: St) S = ev c 191 8 [l0, some (aI x), l2, l3] (kil L2 1) St S := ev_go i191_7 rfl
theorem i191_8 : insAt 191 8 = some (.iload_n 0, 1, (0, 0, 0, 0), 0) := rfl
theorem s191_8 {c : Nat → List AV → SS → Option Out} {l1 l2 l3 : Option AV} {x : Int32} {L2 : List (Nat × AV)} {St : List AV} {S : SS} : ev c 191 8 [some (aI x), l1, l2, l3] L2 St S = ev c 191 9 [some (aI x), l1, l2, l3] L2 (aI x :: St) S := ev_go i191_8 rfl
theorem i191_9 : insAt 191 9 = some (.ineg, 1, (0, 0, 0, 0), 0) := rfl
theorem s191_9 {c : Nat → List AV → SS → Option Out} {l0 l1 l2 l3 : Option AV} {x : Int32} {L2 : List (Nat × AV)} {St : List AV} {S : SS} : ev c 191 9 [l0, l1, l2, l3] L2 (aI x :: St) S = ev c 191 10 [l0, l1, l2, l3] L2 (aI (-x) :: St) S := ev_go i191_9 rfl
theorem i191_10 : insAt 191 10 = some (.istore_n 0, 1, (0, 0, 0, 0), 0) := rfl
theorem s191_10 {c : Nat → List AV → SS → Option Out} {l0 l1 l2 l3 : Option AV} {x : Int32} {L2 : List (Nat × AV)} {St : List AV} {S : SS} : ev c 191 10 [l0, l1, l2, l3] L2 (aI x :: St) S = ev c 191 11 [some (aI x), l1, l2, l3] (kil L2 0) St S := ev_go i191_10 rfl
theorem i191_11 : insAt 191 11 = some (.bipush (-10), 2, (0, 0, 0, 0), 0) := rfl
theorem s191_11 {c : Nat → List AV → SS → Option Out} {l0 l1 l2 l3 : Option AV} {L2 : List (Nat × AV)} {St : List AV} {S : SS} : ev c 191 11 [l0, l1, l2, l3] L2 St S = ev c 191 13 [l0, l1, l2, l3] L2 (aI (-10) :: St) S := ev_go i191_11 rfl
theorem i191_13 : insAt 191 13 = some (.istore_n 2, 1, (0, 0, 0, 0), 0) := rfl
theorem s191_13 {c : Nat → List AV → SS → Option Out} {l0 l1 l2 l3 : Option AV} {x : Int32} {L2 : List (Nat × AV)} {St : List AV} {S : SS} : ev c 191 13 [l0, l1, l2, l3] L2 (aI x :: St) S = ev c 191 14 [l0, l1, some (aI x), l3] (kil L2 2) St S := ev_go i191_13 rfl
theorem i191_14 : insAt 191 14 = some (.iconst 1, 1, (0, 0, 0, 0), 0) := rfl
theorem s191_14 {c : Nat → List AV → SS → Option Out} {l0 l1 l2 l3 : Option AV} {L2 : List (Nat × AV)} {St : List AV} {S : SS} : ev c 191 14 [l0, l1, l2, l3] L2 St S = ev c 191 15 [l0, l1, l2, l3] L2 (aI 1 :: St) S := ev_go i191_14 rfl
theorem i191_15 : insAt 191 15 = some (.istore_n 3, 1, (0, 0, 0, 0), 0) := rfl
theorem s191_15 {c : Nat → List AV → SS → Option Out} {l0 l1 l2 l3 : Option AV} {x : Int32} {L2 : List (Nat × AV)} {St : List AV} {S : SS} : ev c 191 15 [l0, l1, l2, l3] L2 (aI x :: St) S = ev c 191 16 [l0, l1, l2, some (aI x)] (kil L2 3) St S := ev_go i191_15 rfl
theorem i191_16 : insAt 191 16 = some (.iload_n 3, 1, (0, 0, 0, 0), 0) := rfl
theorem s191_16 {c : Nat → List AV → SS → Option Out} {l0 l1 l2 : Option AV} {x : Int32} {L2 : List (Nat × AV)} {St : List AV} {S : SS} : ev c 191 16 [l0, l1, l2, some (aI x)] L2 St S = ev c 191 17 [l0, l1, l2, some (aI x)] L2 (aI x :: St) S := ev_go i191_16 rfl
theorem i191_17 : insAt 191 17 = some (.bipush 10, 2, (0, 0, 0, 0), 0) := rfl
theorem s191_17 {c : Nat → List AV → SS → Option Out} {l0 l1 l2 l3 : Option AV} {L2 : List (Nat × AV)} {St : List AV} {S : SS} : ev c 191 17 [l0, l1, l2, l3] L2 St S = ev c 191 19 [l0, l1, l2, l3] L2 (aI 10 :: St) S := ev_go i191_17 rfl
theorem i191_19 : insAt 191 19 = some (.if_icmp .ge 23, 3, (0, 0, 0, 0), 0) := rfl
theorem s191_19 {c : Nat → List AV → SS → Option Out} {l0 l1 l2 l3 : Option AV} {x y : Int32} {L2 : List (Nat × AV)} {St : List AV} {S : SS} : ev c 191 19 [l0, l1, l2, l3] L2 (aI y :: aI x :: St) S = if y ≤ x then ev c 191 42 [l0, l1, l2, l3] L2 St S else ev c 191 22 [l0, l1, l2, l3] L2 St S := ev_br i191_19 rfl
theorem i191_22 : insAt 191 22 = some (.iload_n 0, 1, (0, 0, 0, 0), 0) := rfl
theorem s191_22 {c : Nat → List AV → SS → Option Out} {l1 l2 l3 : Option AV} {x : Int32} {L2 : List (Nat × AV)} {St : List AV} {S : SS} : ev c 191 22 [some (aI x), l1, l2, l3] L2 St S = ev c 191 23 [some (aI x), l1, l2, l3] L2 (aI x :: St) S := ev_go i191_22 rfl
theorem i191_23 : insAt 191 23 = some (.iload_n 2, 1, (0, 0, 0, 0), 0) := rfl
theorem s191_23 {c : Nat → List AV → SS → Option Out} {l0 l1 l3 : Option AV} {x : Int32} {L2 : List (Nat × AV)} {St : List AV} {S : SS} : ev c 191 23 [l0, l1, some (aI x), l3] L2 St S = ev c 191 24 [l0, l1, some (aI x), l3] L2 (aI x :: St) S := ev_go i191_23 rfl
theorem i191_24 : insAt 191 24 = some (.if_icmp .le 7, 3, (0, 0, 0, 0), 0) := rfl
theorem s191_24 {c : Nat → List AV → SS → Option Out} {l0 l1 l2 l3 : Option AV} {x y : Int32} {L2 : List (Nat × AV)} {St : List AV} {S : SS} : ev c 191 24 [l0, l1, l2, l3] L2 (aI y :: aI x :: St) S = if x ≤ y then ev c 191 31 [l0, l1, l2, l3] L2 St S else ev c 191 27 [l0, l1, l2, l3] L2 St S := ev_br i191_24 rfl
theorem i191_27 : insAt 191 27 = some (.iload_n 3, 1, (0, 0, 0, 0), 0) := rfl
theorem s191_27 {c : Nat → List AV → SS → Option Out} {l0 l1 l2 : Option AV} {x : Int32} {L2 : List (Nat × AV)} {St : List AV} {S : SS} : ev c 191 27 [l0, l1, l2, some (aI x)] L2 St S = ev c 191 28 [l0, l1, l2, some (aI x)] L2 (aI x :: St) S := ev_go i191_27 rfl
theorem i191_28 : insAt 191 28 = some (.iload_n 1, 1, (0, 0, 0, 0), 0) := rfl
theorem s191_28 {c : Nat → List AV → SS → Option Out} {l0 l2 l3 : Option AV} {x : Int32} {L2 : List (Nat × AV)} {St : List AV} {S : SS} : ev c 191 28 [l0, some (aI x), l2, l3] L2 St S = ev c 191 29 [l0, some (aI x), l2, l3] L2 (aI x :: St) S := ev_go i191_28 rfl
theorem i191_29 : insAt 191 29 = some (.iadd, 1, (0, 0, 0, 0), 0) := rfl
theorem s191_29 {c : Nat → List AV → SS → Option Out} {l0 l1 l2 l3 : Option AV} {x y : Int32} {L2 : List (Nat × AV)} {St : List AV} {S : SS} : ev c 191 29 [l0, l1, l2, l3] L2 (aI y :: aI x :: St) S = ev c 191 30 [l0, l1, l2, l3] L2 (aI (x + y) :: St) S := ev_go i191_29 rfl
theorem i191_30 : insAt 191 30 = some (.ireturn, 1, (0, 0, 0, 0), 0) := rfl
theorem s191_30 {c : Nat → List AV → SS → Option Out} {l0 l1 l2 l3 : Option AV} {x : Int32} {L2 : List (Nat × AV)} {St : List AV} {S : SS} : ev c 191 30 [l0, l1, l2, l3] L2 [aI x] S = some (.inl (some (aI x)), S) := ev_end i191_30 rfl
theorem i191_31 : insAt 191 31 = some (.bipush 10, 2, (0, 0, 0, 0), 0) := rfl
theorem s191_31 {c : Nat → List AV → SS → Option Out} {l0 l1 l2 l3 : Option AV} {L2 : List (Nat × AV)} {St : List AV} {S : SS} : ev c 191 31 [l0, l1, l2, l3] L2 St S = ev c 191 33 [l0, l1, l2, l3] L2 (aI 10 :: St) S := ev_go i191_31 rfl
theorem i191_33 : insAt 191 33 = some (.iload_n 2, 1, (0, 0, 0, 0), 0) := rfl
theorem s191_33 {c : Nat → List AV → SS → Option Out} {l0 l1 l3 : Option AV} {x : Int32} {L2 : List (Nat × AV)} {St : List AV} {S : SS} : ev c 191 33 [l0, l1, some (aI x), l3] L2 St S = ev c 191 34 [l0, l1, some (aI x), l3] L2 (aI x :: St) S := ev_go i191_33 rfl
theorem i191_34 : insAt 191 34 = some (.imul, 1, (0, 0, 0, 0), 0) := rfl
theorem s191_34 {c : Nat → List AV → SS → Option Out} {l0 l1 l2 l3 : Option AV} {x y : Int32} {L2 : List (Nat × AV)} {St : List AV} {S : SS} : ev c 191 34 [l0, l1, l2, l3] L2 (aI y :: aI x :: St) S = ev c 191 35 [l0, l1, l2, l3] L2 (aI (x * y) :: St) S := ev_go i191_34 rfl
theorem i191_35 : insAt 191 35 = some (.istore_n 2, 1, (0, 0, 0, 0), 0) := rfl
theorem s191_35 {c : Nat → List AV → SS → Option Out} {l0 l1 l2 l3 : Option AV} {x : Int32} {L2 : List (Nat × AV)} {St : List AV} {S : SS} : ev c 191 35 [l0, l1, l2, l3] L2 (aI x :: St) S = ev c 191 36 [l0, l1, some (aI x), l3] (kil L2 2) St S := ev_go i191_35 rfl
theorem i191_36 : insAt 191 36 = some (.iinc 3 1, 3, (0, 0, 0, 0), 0) := rfl
theorem s191_36 {c : Nat → List AV → SS → Option Out} {l0 l1 l2 : Option AV} {x : Int32} {L2 : List (Nat × AV)} {St : List AV} {S : SS} : ev c 191 36 [l0, l1, l2, some (aI x)] L2 St S = ev c 191 39 [l0, l1, l2, some (aI (x + 1))] (kil L2 3) St S := ev_go i191_36 rfl
theorem i191_39 : insAt 191 39 = some (.goto (-23), 3, (0, 0, 0, 0), 0) := rfl
theorem s191_39 {c : Nat → List AV → SS → Option Out} {l0 l1 l2 l3 : Option AV} {L2 : List (Nat × AV)} {St : List AV} {S : SS} : ev c 191 39 [l0, l1, l2, l3] L2 St S = ev c 191 16 [l0, l1, l2, l3] L2 St S := ev_go i191_39 rfl
theorem i191_42 : insAt 191 42 = some (.bipush 10, 2, (0, 0, 0, 0), 0) := rfl
theorem s191_42 {c : Nat → List AV → SS → Option Out} {l0 l1 l2 l3 : Option AV} {L2 : List (Nat × AV)} {St : List AV} {S : SS} : ev c 191 42 [l0, l1, l2, l3] L2 St S = ev c 191 44 [l0, l1, l2, l3] L2 (aI 10 :: St) S := ev_go i191_42 rfl
theorem i191_44 : insAt 191 44 = some (.iload_n 1, 1, (0, 0, 0, 0), 0) := rfl
theorem s191_44 {c : Nat → List AV → SS → Option Out} {l0 l2 l3 : Option AV} {x : Int32} {L2 : List (Nat × AV)} {St : List AV} {S : SS} : ev c 191 44 [l0, some (aI x), l2, l3] L2 St S = ev c 191 45 [l0, some (aI x), l2, l3] L2 (aI x :: St) S := ev_go i191_44 rfl
theorem i191_45 : insAt 191 45 = some (.iadd, 1, (0, 0, 0, 0), 0) := rfl
theorem s191_45 {c : Nat → List AV → SS → Option Out} {l0 l1 l2 l3 : Option AV} {x y : Int32} {L2 : List (Nat × AV)} {St : List AV} {S : SS} : ev c 191 45 [l0, l1, l2, l3] L2 (aI y :: aI x :: St) S = ev c 191 46 [l0, l1, l2, l3] L2 (aI (x + y) :: St) S := ev_go i191_45 rfl
theorem i191_46 : insAt 191 46 = some (.ireturn, 1, (0, 0, 0, 0), 0) := rfl
theorem s191_46 {c : Nat → List AV → SS → Option Out} {l0 l1 l2 l3 : Option AV} {x : Int32} {L2 : List (Nat × AV)} {St : List AV} {S : SS} : ev c 191 46 [l0, l1, l2, l3] L2 [aI x] S = some (.inl (some (aI x)), S) := ev_end i191_46 rfl
theorem m191 {d : Nat} {a0 : Int32} {S : SS} : evm (d + 1) 191 [aI a0] S = ev (evm d) 191 0 [some (aI a0), none, none, none] [] [] S := evm_s (n := 4) rfl (Nat.le_of_ble_eq_true rfl) rfl rfl
/-! java/lang/Integer.getChars(II[B)I -/
theorem i192_0 : insAt 192 0 = some (.iload_n 1, 1, (0, 0, 0, 0), 0) := rfl
theorem s192_0 {c : Nat → List AV → SS → Option Out} {l0 l2 l3 l4 l5 l6 : Option AV} {x : Int32} {L2 : List (Nat × AV)} {St : List AV} {S : SS} : ev c 192 0 [l0, some (aI x), l2, l3, l4, l5, l6] L2 St S = ev c 192 1 [l0, some (aI x), l2, l3, l4, l5, l6] L2 (aI x :: St) S := ev_go i192_0 rfl
theorem i192_1 : insAt 192 1 = some (.istore 5, 2, (0, 0, 0, 0), 0) := rfl
theorem s192_1 {c : Nat → List AV → SS → Option Out} {l0 l1 l2 l3 l4 l5 l6 : Option AV} {x : Int32} {L2 : List (Nat × AV)} {St : List AV} {S : SS} : ev c 192 1 [l0, l1, l2, l3, l4, l5, l6] L2 (aI x :: St) S = ev c 192 3 [l0, l1, l2, l3, l4, some (aI x), l6] (kil L2 5) St S := ev_go i192_1 rfl
theorem i192_3 : insAt 192 3 = some (.iload_n 0, 1, (0, 0, 0, 0), 0) := rfl
theorem s192_3 {c : Nat → List AV → SS → Option Out} {l1 l2 l3 l4 l5 l6 : Option AV} {x : Int32} {L2 : List (Nat × AV)} {St : List AV} {S : SS} : ev c 192 3 [some (aI x), l1, l2, l3, l4, l5, l6] L2 St S = ev c 192 4 [some (aI x), l1, l2, l3, l4, l5, l6] L2 (aI x :: St) S := ev_go i192_3 rfl
theorem i192_4 : insAt 192 4 = some (.ifCond .ge 7, 3, (0, 0, 0, 0), 0) := rfl
theorem s192_4 {c : Nat → List AV → SS → Option Out} {l0 l1 l2 l3 l4 l5 l6 : Option AV} {x : Int32} {L2 : List (Nat × AV)} {St : List AV} {S : SS} : ev c 192 4 [l0, l1, l2, l3, l4, l5, l6] L2 (aI x :: St) S = if 0 ≤ x then ev c 192 11 [l0, l1, l2, l3, l4, l5, l6] L2 St S else ev c 192 7 [l0, l1, l2, l3, l4, l5, l6] L2 St S := ev_br i192_4 rfl
theorem i192_7 : insAt 192 7 = some (.iconst 1, 1, (0, 0, 0, 0), 0) := rfl
theorem s192_7 {c : Nat → List AV → SS → Option Out} {l0 l1 l2 l3 l4 l5 l6 : Option AV} {L2 : List (Nat × AV)} {St : List AV} {S : SS} : ev c 192 7 [l0, l1, l2, l3, l4, l5, l6] L2 St S = ev c 192 8 [l0, l1, l2, l3, l4, l5, l6] L2 (aI 1 :: St) S := ev_go i192_7 rfl
theorem i192_8 : insAt 192 8 = some (.goto 4, 3, (0, 0, 0, 0), 0) := rfl
theorem s192_8 {c : Nat → List AV → SS → Option Out} {l0 l1 l2 l3 l4 l5 l6 : Option AV} {L2 : List (Nat × AV)} {St : List AV} {S : SS} : ev c 192 8 [l0, l1, l2, l3, l4, l5, l6] L2 St S = ev c 192 12 [l0, l1, l2, l3, l4, l5, l6] L2 St S := ev_go i192_8 rfl
theorem i192_11 : insAt 192 11 = some (.iconst 0, 1, (0, 0, 0, 0), 0) := rfl
theorem s192_11 {c : Nat → List AV → SS → Option Out} {l0 l1 l2 l3 l4 l5 l6 : Option AV} {L2 : List (Nat × AV)} {St : List AV} {S : SS} : ev c 192 11 [l0, l1, l2, l3, l4, l5, l6] L2 St S = ev c 192 12 [l0, l1, l2, l3, l4, l5, l6] L2 (aI 0 :: St) S := ev_go i192_11 rfl
theorem i192_12 : insAt 192 12 = some (.istore 6, 2, (0, 0, 0, 0), 0) := rfl
theorem s192_12 {c : Nat → List AV → SS → Option Out} {l0 l1 l2 l3 l4 l5 l6 : Option AV} {x : Int32} {L2 : List (Nat × AV)} {St : List AV} {S : SS} : ev c 192 12 [l0, l1, l2, l3, l4, l5, l6] L2 (aI x :: St) S = ev c 192 14 [l0, l1, l2, l3, l4, l5, some (aI x)] (kil L2 6) St S := ev_go i192_12 rfl
theorem i192_14 : insAt 192 14 = some (.iload 6, 2, (0, 0, 0, 0), 0) := rfl
theorem s192_14 {c : Nat → List AV → SS → Option Out} {l0 l1 l2 l3 l4 l5 : Option AV} {x : Int32} {L2 : List (Nat × AV)} {St : List AV} {S : SS} : ev c 192 14 [l0, l1, l2, l3, l4, l5, some (aI x)] L2 St S = ev c 192 16 [l0, l1, l2, l3, l4, l5, some (aI x)] L2 (aI x :: St) S := ev_go i192_14 rfl
theorem i192_16 : insAt 192 16 = some (.ifCond .ne 6, 3, (0, 0, 0, 0), 0) := rfl
theorem s192_16 {c : Nat → List AV → SS → Option Out} {l0 l1 l2 l3 l4 l5 l6 : Option AV} {x : Int32} {L2 : List (Nat × AV)} {St : List AV} {S : SS} : ev c 192 16 [l0, l1, l2, l3, l4, l5, l6] L2 (aI x :: St) S = if x = 0 then ev c 192 19 [l0, l1, l2, l3, l4, l5, l6] L2 St S else ev c 192 22 [l0, l1, l2, l3, l4, l5, l6] L2 St S := (ev_br i192_16 rfl).trans (ite_not _ _ _)
theorem i192_19 : insAt 192 19 = some (.iload_n 0, 1, (0, 0, 0, 0), 0) := rfl
theorem s192_19 {c : Nat → List AV → SS → Option Out} {l1 l2 l3 l4 l5 l6 : Option AV} {x : Int32} {L2 : List (Nat × AV)} {St : List AV} {S : SS} : ev c 192 19 [some (aI x), l1, l2, l3, l4, l5, l6] L2 St S = ev c 192 20 [some (aI x), l1, l2, l3, l4, l5, l6] L2 (aI x :: St) S := ev_go i192_19 rfl
theorem i192_20 : insAt 192 20 = some (.ineg, 1, (0, 0, 0, 0), 0) := rfl
theorem s192_20 {c : Nat → List AV → SS → Option Out} {l0 l1 l2 l3 l4 l5 l6 : Option AV} {x : Int32} {L2 : List (Nat × AV)} {St : List AV} {S : SS} : ev c 192 20 [l0, l1, l2, l3, l4, l5, l6] L2 (aI x :: St) S = ev c 192 21 [l0, l1, l2, l3, l4, l5, l6] L2 (aI (-x) :: St) S := ev_go i192_20 rfl
theorem i192_21 : insAt 192 21 = some (.istore_n 0, 1, (0, 0, 0, 0), 0) := rfl
theorem s192_21 {c : Nat → List AV → SS → Option Out} {l0 l1 l2 l3 l4 l5 l6 : Option AV} {x : Int32} {L2 : List (Nat × AV)} {St : List AV} {S : SS} : ev c 192 21 [l0, l1, l2, l3, l4, l5, l6] L2 (aI x :: St) S = ev c 192 22 [some (aI x), l1, l2, l3, l4, l5, l6] (kil L2 0) St S := ev_go i192_21 rfl
theorem i192_22 : insAt 192 22 = some (.iload_n 0, 1, (0, 0, 0, 0), 0) := rfl
theorem s192_22 {c : Nat → List AV → SS → Option Out} {l1 l2 l3 l4 l5 l6 : Option AV} {x : Int32} {L2 : List (Nat × AV)} {St : List AV} {S : SS} : ev c 192 22 [some (aI x), l1, l2, l3, l4, l5, l6] L2 St S = ev c 192 23 [some (aI x), l1, l2, l3, l4, l5, l6] L2 (aI x :: St) S := ev_go i192_22 rfl
theorem i192_23 : insAt 192 23 = some (.bipush (-100), 2, (0, 0, 0, 0), 0) := rfl
theorem s192_23 {c : Nat → List AV → SS → Option Out} {l0 l1 l2 l3 l4 l5 l6 : Option AV} {L2 : List (Nat × AV)} {St : List AV} {S : SS} : ev c 192 23 [l0, l1, l2, l3, l4, l5, l6] L2 St S = ev c 192 25 [l0, l1, l2, l3, l4, l5, l6] L2 (aI (-100) :: St) S := ev_go i192_23 rfl
theorem i192_25 : insAt 192 25 = some (.if_icmp .gt 47, 3, (0, 0, 0, 0), 0) := rfl
theorem s192_25 {c : Nat → List AV → SS → Option Out} {l0 l1 l2 l3 l4 l5 l6 : Option AV} {x y : Int32} {L2 : List (Nat × AV)} {St : List AV} {S : SS} : ev c 192 25 [l0, l1, l2, l3, l4, l5, l6] L2 (aI y :: aI x :: St) S = if y < x then ev c 192 72 [l0, l1, l2, l3, l4, l5, l6] L2 St S else ev c 192 28 [l0, l1, l2, l3, l4, l5, l6] L2 St S := ev_br i192_25 rfl
theorem i192_28 : insAt 192 28 = some (.iload_n 0, 1, (0, 0, 0, 0), 0) := rfl
theorem s192_28 {c : Nat → List AV → SS → Option Out} {l1 l2 l3 l4 l5 l6 : Option AV} {x : Int32} {L2 : List (Nat × AV)} {St : List AV} {S : SS} : ev c 192 28 [some (aI x), l1, l2, l3, l4, l5, l6] L2 St S = ev c 192 29 [some (aI x), l1, l2, l3, l4, l5, l6] L2 (aI x :: St) S := ev_go i192_28 rfl
theorem i192_29 : insAt 192 29 = some (.bipush 100, 2, (0, 0, 0, 0), 0) := rfl
theorem s192_29 {c : Nat → List AV → SS → Option Out} {l0 l1 l2 l3 l4 l5 l6 : Option AV} {L2 : List (Nat × AV)} {St : List AV} {S : SS} : ev c 192 29 [l0, l1, l2, l3, l4, l5, l6] L2 St S = ev c 192 31 [l0, l1, l2, l3, l4, l5, l6] L2 (aI 100 :: St) S := ev_go i192_29 rfl
theorem i192_31 : insAt 192 31 = some (.idiv, 1, (0, 0, 0, 0), 0) := rfl
theorem s192_31 {c : Nat → List AV → SS → Option Out} {l0 l1 l2 l3 l4 l5 l6 : Option AV} {x y : Int32} {L2 : List (Nat × AV)} {St : List AV} {S : SS} (h : ¬ y = 0) : ev c 192 31 [l0, l1, l2, l3, l4, l5, l6] L2 (aI y :: aI x :: St) S = ev c 192 32 [l0, l1, l2, l3, l4, l5, l6] L2 (aI (x / y) :: St) S := ev_go i192_31 (if_neg h)
theorem i192_32 : insAt 192 32 = some (.istore_n 3, 1, (0, 0, 0, 0), 0) := rfl
theorem s192_32 {c : Nat → List AV → SS → Option Out} {l0 l1 l2 l3 l4 l5 l6 : Option AV} {x : Int32} {L2 : List (Nat × AV)} {St : List AV} {S : SS} : ev c 192 32 [l0, l1, l2, l3, l4, l5, l6] L2 (aI x :: St) S = ev c 192 33 [l0, l1, l2, some (aI x), l4, l5, l6] (kil L2 3) St S := ev_go i192_32 rfl
theorem i192_33 : insAt 192 33 = some (.iload_n 3, 1, (0, 0, 0, 0), 0) := rfl
theorem s192_33 {c : Nat → List AV → SS → Option Out} {l0 l1 l2 l4 l5 l6 : Option AV} {x : Int32} {L2 : List (Nat × AV)} {St : List AV} {S : SS} : ev c 192 33 [l0, l1, l2, some (aI x), l4, l5, l6] L2 St S = ev c 192 34 [l0, l1, l2, some (aI x), l4, l5, l6] L2 (aI x :: St) S := ev_go i192_33 rfl
theorem i192_34 : insAt 192 34 = some (.bipush 100, 2, (0, 0, 0, 0), 0) := rfl
theorem s192_34 {c : Nat → List AV → SS → Option Out} {l0 l1 l2 l3 l4 l5 l6 : Option AV} {L2 : List (Nat × AV)} {St : List AV} {S : SS} : ev c 192 34 [l0, l1, l2, l3, l4, l5, l6] L2 St S = ev c 192 36 [l0, l1, l2, l3, l4, l5, l6] L2 (aI 100 :: St) S := ev_go i192_34 rfl
theorem i192_36 : insAt 192 36 = some (.imul, 1, (0, 0, 0, 0), 0) := rfl
theorem s192_36 {c : Nat → List AV → SS → Option Out} {l0 l1 l2 l3 l4 l5 l6 : Option AV} {x y : Int32} {L2 : List (Nat × AV)} {St : List AV} {S : SS} : ev c 192 36 [l0, l1, l2, l3, l4, l5, l6] L2 (aI y :: aI x :: St) S = ev c 192 37 [l0, l1, l2, l3, l4, l5, l6] L2 (aI (x * y) :: St) S := ev_go i192_36 rfl
theorem i192_37 : insAt 192 37 = some (.iload_n 0, 1, (0, 0, 0, 0), 0) := rfl
theorem s192_37 {c : Nat → List AV → SS → Option Out} {l1 l2 l3 l4 l5 l6 : Option AV} {x : Int32} {L2 : List (Nat × AV)} {St : List AV} {S : SS} : ev c 192 37 [some (aI x), l1, l2, l3, l4, l5, l6] L2 St S = ev c 192 38 [some (aI x), l1, l2, l3, l4, l5, l6] L2 (aI x :: St) S := ev_go i192_37 rfl
theorem i192_38 : insAt 192 38 = some (.isub, 1, (0, 0, 0, 0), 0) := rfl
theorem s192_38 {c : Nat → List AV → SS → Option Out} {l0 l1 l2 l3 l4 l5 l6 : Option AV} {x y : Int32} {L2 : List (Nat × AV)} {St : List AV} {S : SS} : ev c 192 38 [l0, l1, l2, l3, l4, l5, l6] L2 (aI y :: aI x :: St) S = ev c 192 39 [l0, l1, l2, l3, l4, l5, l6] L2 (aI (x - y) :: St) S := ev_go i192_38 rfl
theorem i192_39 : insAt 192 39 = some (.istore 4, 2, (0, 0, 0, 0), 0) := rfl
theorem s192_39 {c : Nat → List AV → SS → Option Out} {l0 l1 l2 l3 l4 l5 l6 : Option AV} {x : Int32} {L2 : List (Nat × AV)} {St : List AV} {S : SS} : ev c 192 39 [l0, l1, l2, l3, l4, l5, l6] L2 (aI x :: St) S = ev c 192 41 [l0, l1, l2, l3, some (aI x), l5, l6] (kil L2 4) St S := ev_go i192_39 rfl
theorem i192_41 : insAt 192 41 = some (.iload_n 3, 1, (0, 0, 0, 0), 0) := rfl
theorem s192_41 {c : Nat → List AV → SS → Option Out} {l0 l1 l2 l4 l5 l6 : Option AV} {x : Int32} {L2 : List (Nat × AV)} {St : List AV} {S : SS} : ev c 192 41 [l0, l1, l2, some (aI x), l4, l5, l6] L2 St S = ev c 192 42 [l0, l1, l2, some (aI x), l4, l5, l6] L2 (aI x :: St) S := ev_go i192_41 rfl
theorem i192_42 : insAt 192 42 = some (.istore_n 0, 1, (0, 0, 0, 0), 0) := rfl
theorem s192_42 {c : Nat → List AV → SS → Option Out} {l0 l1 l2 l3 l4 l5 l6 : Option AV} {x : Int32} {L2 : List (Nat × AV)} {St : List AV} {S : SS} : ev c 192 42 [l0, l1, l2, l3, l4, l5, l6] L2 (aI x :: St) S = ev c 192 43 [some (aI x), l1, l2, l3, l4, l5, l6] (kil L2 0) St S := ev_go i192_42 rfl
theorem i192_43 : insAt 192 43 = some (.aload_n 2, 1, (0, 0, 0, 0), 0) := rfl
theorem s192_43 {c : Nat → List AV → SS → Option Out} {l0 l1 l3 l4 l5 l6 : Option AV} {o : OId} {L2 : List (Nat × AV)} {St : List AV} {S : SS} : ev c 192 43 [l0, l1, some (aR o), l3, l4, l5, l6] L2 St S = ev c 192 44 [l0, l1, some (aR o), l3, l4, l5, l6] L2 (aR o :: St) S := ev_go i192_43 rfl
theorem i192_44 : insAt 192 44 = some (.iinc 5 (-1), 3, (0, 0, 0, 0), 0) := rfl
theorem s192_44 {c : Nat → List AV → SS → Option Out} {l0 l1 l2 l3 l4 l6 : Option AV} {x : Int32} {L2 : List (Nat × AV)} {St : List AV} {S : SS} : ev c 192 44 [l0, l1, l2, l3, l4, some (aI x), l6] L2 St S = ev c 192 47 [l0, l1, l2, l3, l4, some (aI (x + (-1))), l6] (kil L2 5) St S := ev_go i192_44 rfl
theorem i192_47 : insAt 192 47 = some (.iload 5, 2, (0, 0, 0, 0), 0) := rfl
theorem s192_47 {c : Nat → List AV → SS → Option Out} {l0 l1 l2 l3 l4 l6 : Option AV} {x : Int32} {L2 : List (Nat × AV)} {St : List AV} {S : SS} : ev c 192 47 [l0, l1, l2, l3, l4, some (aI x), l6] L2 St S = ev c 192 49 [l0, l1, l2, l3, l4, some (aI x), l6] L2 (aI x :: St) S := ev_go i192_47 rfl
theorem i192_49 : insAt 192 49 = some (.getstatic 83, 3, (2, 0, 0, 0), 0) := rfl
theorem s192_49 {c : Nat → List AV → SS → Option Out} {l0 l1 l2 l3 l4 l5 l6 : Option AV} {L2 : List (Nat × AV)} {St : List AV} {S : SS} : ev c 192 49 [l0, l1, l2, l3, l4, l5, l6] L2 St S = ev c 192 52 [l0, l1, l2, l3, l4, l5, l6] L2 (aR (46, 0, 0) :: St) S := ev_go i192_49 rfl
theorem i192_52 : insAt 192 52 = some (.iload 4, 2, (0, 0, 0, 0), 0) := rfl
theorem s192_52 {c : Nat → List AV → SS → Option Out} {l0 l1 l2 l3 l5 l6 : Option AV} {x : Int32} {L2 : List (Nat × AV)} {St : List AV} {S : SS} : ev c 192 52 [l0, l1, l2, l3, some (aI x), l5, l6] L2 St S = ev c 192 54 [l0, l1, l2, l3, some (aI x), l5, l6] L2 (aI x :: St) S := ev_go i192_52 rfl
theorem i192_54 : insAt 192 54 = some (.baload, 1, (0, 0, 0, 0), 0) := rfl
theorem s192_54 {c : Nat → List AV → SS → Option Out} {l0 l1 l2 l3 l4 l5 l6 : Option AV} {i : Int32} {o : OId} {L2 : List (Nat × AV)} {St : List AV} {S : SS} : ev c 192 54 [l0, l1, l2, l3, l4, l5, l6] L2 (aI i :: aR o :: St) S = kB o i (ev c 192 55 [l0, l1, l2, l3, l4, l5, l6] L2 (aI (agB S o i.toNatClampNeg) :: St) S) (ev c 192 55 [l0, l1, l2, l3, l4, l5, l6] L2 (aI (bb (S.1 o i.toNatClampNeg)) :: St) S) := ev_baload i192_54
theorem i192_55 : insAt 192 55 = some (.bastore, 1, (0, 0, 0, 0), 0) := rfl
theorem s192_55 {c : Nat → List AV → SS → Option Out} {l0 l1 l2 l3 l4 l5 l6 : Option AV} {x i : Int32} {o : OId} {L2 : List (Nat × AV)} {St : List AV} {S : SS} : ev c 192 55 [l0, l1, l2, l3, l4, l5, l6] L2 (aI x :: aI i :: aR o :: St) S = kBw o i x (ev c 192 56 [l0, l1, l2, l3, l4, l5, l6] L2 St (setI S.1 o i.toNatClampNeg x, S.2)) := ev_bastore i192_55
theorem i192_56 : insAt 192 56 = some (.aload_n 2, 1, (0, 0, 0, 0), 0) := rfl
theorem s192_56 {c : Nat → List AV → SS → Option Out} {l0 l1 l3 l4 l5 l6 : Option AV} {o : OId} {L2 : List (Nat × AV)} {St : List AV} {S : SS} : ev c 192 56 [l0, l1, some (aR o), l3, l4, l5, l6] L2 St S = ev c 192 57 [l0, l1, some (aR o), l3, l4, l5, l6] L2 (aR o :: St) S := ev_go i192_56 rfl
theorem i192_57 : insAt 192 57 = some (.iinc 5 (-1), 3, (0, 0, 0, 0), 0) := rfl
theorem s192_57 {c : Nat → List AV → SS → Option Out} {l0 l1 l2 l3 l4 l6 : Option AV} {x : Int32} {L2 : List (Nat × AV)} {St : List AV} {S : SS} : ev c 192 57 [l0, l1, l2, l3, l4, some (aI x), l6] L2 St S = ev c 192 60 [l0, l1, l2, l3, l4, some (aI (x + (-1))), l6] (kil L2 5) St S := ev_go i192_57 rfl
theorem i192_60 : insAt 192 60 = some (.iload 5, 2, (0, 0, 0, 0), 0) := rfl
theorem s192_60 {c : Nat → List AV → SS → Option Out} {l0 l1 l2 l3 l4 l6 : Option AV} {x : Int32} {L2 : List (Nat × AV)} {St : List AV} {S : SS} : ev c 192 60 [l0, l1, l2, l3, l4, some (aI x), l6] L2 St S = ev c 192 62 [l0, l1, l2, l3, l4, some (aI x), l6] L2 (aI x :: St) S := ev_go i192_60 rfl
theorem i192_62 : insAt 192 62 = some (.getstatic 87, 3, (1, 0, 0, 0), 0) := rfl
theorem s192_62 {c : Nat → List AV → SS → Option Out} {l0 l1 l2 l3 l4 l5 l6 : Option AV} {L2 : List (Nat × AV)} {St : List AV} {S : SS} : ev c 192 62 [l0, l1, l2, l3, l4, l5, l6] L2 St S = ev c 192 65 [l0, l1, l2, l3, l4, l5, l6] L2 (aR (45, 0, 0) :: St) S := ev_go i192_62 rfl
theorem i192_65 : insAt 192 65 = some (.iload 4, 2, (0, 0, 0, 0), 0) := rfl
theorem s192_65 {c : Nat → List AV → SS → Option Out} {l0 l1 l2 l3 l5 l6 : Option AV} {x : Int32} {L2 : List (Nat × AV)} {St : List AV} {S : SS} : ev c 192 65 [l0, l1, l2, l3, some (aI x), l5, l6] L2 St S = ev c 192 67 [l0, l1, l2, l3, some (aI x), l5, l6] L2 (aI x :: St) S := ev_go i192_65 rfl
theorem i192_67 : insAt 192 67 = some (.baload, 1, (0, 0, 0, 0), 0) := rfl
theorem s192_67 {c : Nat → List AV → SS → Option Out} {l0 l1 l2 l3 l4 l5 l6 : Option AV} {i : Int32} {o : OId} {L2 : List (Nat × AV)} {St : List AV} {S : SS} : ev c 192 67 [l0, l1, l2, l3, l4, l5, l6] L2 (aI i :: aR o :: St) S = kB o i (ev c 192 68 [l0, l1, l2, l3, l4, l5, l6] L2 (aI (agB S o i.toNatClampNeg) :: St) S) (ev c 192 68 [l0, l1, l2, l3, l4, l5, l6] L2 (aI (bb (S.1 o i.toNatClampNeg)) :: St) S) := ev_baload i192_67
theorem i192_68 : insAt 192 68 = some (.bastore, 1, (0, 0, 0, 0), 0) := rfl
theorem s192_68 {c : Nat → List AV → SS → Option Out} {l0 l1 l2 l3 l4 l5 l6 : Option AV} {x i : Int32} {o : OId} {L2 : List (Nat × AV)} {St : List AV} {S : SS} : ev c 192 68 [l0, l1, l2, l3, l4, l5, l6] L2 (aI x :: aI i :: aR o :: St) S = kBw o i x (ev c 192 69 [l0, l1, l2, l3, l4, l5, l6] L2 St (setI S.1 o i.toNatClampNeg x, S.2)) := ev_bastore i192_68
theorem i192_69 : insAt 192 69 = some (.goto (-47), 3, (0, 0, 0, 0), 0) := rfl
theorem s192_69 {c : Nat → List AV → SS → Option Out} {l0 l1 l2 l3 l4 l5 l6 : Option AV} {L2 : List (Nat × AV)} {St : List AV} {S : SS} : ev c 192 69 [l0, l1, l2, l3, l4, l5, l6] L2 St S = ev c 192 22 [l0, l1, l2, l3, l4, l5, l6] L2 St S := ev_go i192_69 rfl
theorem i192_72 : insAt 192 72 = some (.aload_n 2, 1, (0, 0, 0, 0), 0) := rfl
theorem s192_72 {c : Nat → List AV → SS → Option Out} {l0 l1 l3 l4 l5 l6 : Option AV} {o : OId} {L2 : List (Nat × AV)} {St : List AV} {S : SS} : ev c 192 72 [l0, l1, some (aR o), l3, l4, l5, l6] L2 St S = ev c 192 73 [l0, l1, some (aR o), l3, l4, l5, l6] L2 (aR o :: St) S := ev_go i192_72 rfl
theorem i192_73 : insAt 192 73 = some (.iinc 5 (-1), 3, (0, 0, 0, 0), 0) := rfl
theorem s192_73 {c : Nat → List AV → SS → Option Out} {l0 l1 l2 l3 l4 l6 : Option AV} {x : Int32} {L2 : List (Nat × AV)} {St : List AV} {S : SS} : ev c 192 73 [l0, l1, l2, l3, l4, some (aI x), l6] L2 St S = ev c 192 76 [l0, l1, l2, l3, l4, some (aI (x + (-1))), l6] (kil L2 5) St S := ev_go i192_73 rfl
theorem i192_76 : insAt 192 76 = some (.iload 5, 2, (0, 0, 0, 0), 0) := rfl
theorem s192_76 {c : Nat → List AV → SS → Option Out} {l0 l1 l2 l3 l4 l6 : Option AV} {x : Int32} {L2 : List (Nat × AV)} {St : List AV} {S : SS} : ev c 192 76 [l0, l1, l2, l3, l4, some (aI x), l6] L2 St S = ev c 192 78 [l0, l1, l2, l3, l4, some (aI x), l6] L2 (aI x :: St) S := ev_go i192_76 rfl
theorem i192_78 : insAt 192 78 = some (.getstatic 83, 3, (2, 0, 0, 0), 0) := rfl
theorem s192_78 {c : Nat → List AV → SS → Option Out} {l0 l1 l2 l3 l4 l5 l6 : Option AV} {L2 : List (Nat × AV)} {St : List AV} {S : SS} : ev c 192 78 [l0, l1, l2, l3, l4, l5, l6] L2 St S = ev c 192 81 [l0, l1, l2, l3, l4, l5, l6] L2 (aR (46, 0, 0) :: St) S := ev_go i192_78 rfl
theorem i192_81 : insAt 192 81 = some (.iload_n 0, 1, (0, 0, 0, 0), 0) := rfl
theorem s192_81 {c : Nat → List AV → SS → Option Out} {l1 l2 l3 l4 l5 l6 : Option AV} {x : Int32} {L2 : List (Nat × AV)} {St : List AV} {S : SS} : ev c 192 81 [some (aI x), l1, l2, l3, l4, l5, l6] L2 St S = ev c 192 82 [some (aI x), l1, l2, l3, l4, l5, l6] L2 (aI x :: St) S := ev_go i192_81 rfl
theorem i192_82 : insAt 192 82 = some (.ineg, 1, (0, 0, 0, 0), 0) := rfl
theorem s192_82 {c : Nat → List AV → SS → Option Out} {l0 l1 l2 l3 l4 l5 l6 : Option AV} {x : Int32} {L2 : List (Nat × AV)} {St : List AV} {S : SS} : ev c 192 82 [l0, l1, l2, l3, l4, l5, l6] L2 (aI x :: St) S = ev c 192 83 [l0, l1, l2, l3, l4, l5, l6] L2 (aI (-x) :: St) S := ev_go i192_82 rfl
theorem i192_83 : insAt 192 83 = some (.baload, 1, (0, 0, 0, 0), 0) := rfl
theorem s192_83 {c : Nat → List AV → SS → Option Out} {l0 l1 l2 l3 l4 l5 l6 : Option AV} {i : Int32} {o : OId} {L2 : List (Nat × AV)} {St : List AV} {S : SS} : ev c 192 83 [l0, l1, l2, l3, l4, l5, l6] L2 (aI i :: aR o :: St) S = kB o i (ev c 192 84 [l0, l1, l2, l3, l4, l5, l6] L2 (aI (agB S o i.toNatClampNeg) :: St) S) (ev c 192 84 [l0, l1, l2, l3, l4, l5, l6] L2 (aI (bb (S.1 o i.toNatClampNeg)) :: St) S) := ev_baload i192_83
theorem i192_84 : insAt 192 84 = some (.bastore, 1, (0, 0, 0, 0), 0) := rfl
theorem s192_84 {c : Nat → List AV → SS → Option Out} {l0 l1 l2 l3 l4 l5 l6 : Option AV} {x i : Int32} {o : OId} {L2 : List (Nat × AV)} {St : List AV} {S : SS} : ev c 192 84 [l0, l1, l2, l3, l4, l5, l6] L2 (aI x :: aI i :: aR o :: St) S = kBw o i x (ev c 192 85 [l0, l1, l2, l3, l4, l5, l6] L2 St (setI S.1 o i.toNatClampNeg x, S.2)) := ev_bastore i192_84
theorem i192_85 : insAt 192 85 = some (.iload_n 0, 1, (0, 0, 0, 0), 0) := rfl
theorem s192_85 {c : Nat → List AV → SS → Option Out} {l1 l2 l3 l4 l5 l6 : Option AV} {x : Int32} {L2 : List (Nat × AV)} {St : List AV} {S : SS} : ev c 192 85 [some (aI x), l1, l2, l3, l4, l5, l6] L2 St S = ev c 192 86 [some (aI x), l1, l2, l3, l4, l5, l6] L2 (aI x :: St) S := ev_go i192_85 rfl
theorem i192_86 : insAt 192 86 = some (.bipush (-9), 2, (0, 0, 0, 0), 0) := rfl
theorem s192_86 {c : Nat → List AV → SS → Option Out} {l0 l1 l2 l3 l4 l5 l6 : Option AV} {L2 : List (Nat × AV)} {St : List AV} {S : SS} : ev c 192 86 [l0, l1, l2, l3, l4, l5, l6] L2 St S = ev c 192 88 [l0, l1, l2, l3, l4, l5, l6] L2 (aI (-9) :: St) S := ev_go i192_86 rfl
theorem i192_88 : insAt 192 88 = some (.if_icmp .ge 16, 3, (0, 0, 0, 0), 0) := rfl
theorem s192_88 {c : Nat → List AV → SS → Option Out} {l0 l1 l2 l3 l4 l5 l6 : Option AV} {x y : Int32} {L2 : List (Nat × AV)} {St : List AV} {S : SS} : ev c 192 88 [l0, l1, l2, l3, l4, l5, l6] L2 (aI y :: aI x :: St) S = if y ≤ x then ev c 192 104 [l0, l1, l2, l3, l4, l5, l6] L2 St S else ev c 192 91 [l0, l1, l2, l3, l4, l5, l6] L2 St S := ev_br i192_88 rfl
theorem i192_91 : insAt 192 91 = some (.aload_n 2, 1, (0, 0, 0, 0), 0) := rfl
theorem s192_91 {c : Nat → List AV → SS → Option Out} {l0 l1 l3 l4 l5 l6 : Option AV} {o : OId} {L2 : List (Nat × AV)} {St : List AV} {S : SS} : ev c 192 91 [l0, l1, some (aR o), l3, l4, l5, l6] L2 St S = ev c 192 92 [l0, l1, some (aR o), l3, l4, l5, l6] L2 (aR o :: St) S := ev_go i192_91 rfl
theorem i192_92 : insAt 192 92 = some (.iinc 5 (-1), 3, (0, 0, 0, 0), 0) := rfl
theorem s192_92 {c : Nat → List AV → SS → Option Out} {l0 l1 l2 l3 l4 l6 : Option AV} {x : Int32} {L2 : List (Nat × AV)} {St : List AV} {S : SS} : ev c 192 92 [l0, l1, l2, l3, l4, some (aI x), l6] L2 St S = ev c 192 95 [l0, l1, l2, l3, l4, some (aI (x + (-1))), l6] (kil L2 5) St S := ev_go i192_92 rfl
theorem i192_95 : insAt 192 95 = some (.iload 5, 2, (0, 0, 0, 0), 0) := rfl
theorem s192_95 {c : Nat → List AV → SS → Option Out} {l0 l1 l2 l3 l4 l6 : Option AV} {x : Int32} {L2 : List (Nat × AV)} {St : List AV} {S : SS} : ev c 192 95 [l0, l1, l2, l3, l4, some (aI x), l6] L2 St S = ev c 192 97 [l0, l1, l2, l3, l4, some (aI x), l6] L2 (aI x :: St) S := ev_go i192_95 rfl
theorem i192_97 : insAt 192 97 = some (.getstatic 87, 3, (1, 0, 0, 0), 0) := rfl
theorem s192_97 {c : Nat → List AV → SS → Option Out} {l0 l1 l2 l3 l4 l5 l6 : Option AV} {L2 : List (Nat × AV)} {St : List AV} {S : SS} : ev c 192 97 [l0, l1, l2, l3, l4, l5, l6] L2 St S = ev c 192 100 [l0, l1, l2, l3, l4, l5, l6] L2 (aR (45, 0, 0) :: St) S := ev_go i192_97 rfl
theorem i192_100 : insAt 192 100 = some (.iload_n 0, 1, (0, 0, 0, 0), 0) := rfl
theorem s192_100 {c : Nat → List AV → SS → Option Out} {l1 l2 l3 l4 l5 l6 : Option AV} {x : Int32} {L2 : List (Nat × AV)} {St : List AV} {S : SS} : ev c 192 100 [some (aI x), l1, l2, l3, l4, l5, l6] L2 St S = ev c 192 101 [some (aI x), l1, l2, l3, l4, l5, l6] L2 (aI x :: St) S := ev_go i192_100 rfl
theorem i192_101 : insAt 192 101 = some (.ineg, 1, (0, 0, 0, 0), 0) := rfl
theorem s192_101 {c : Nat → List AV → SS → Option Out} {l0 l1 l2 l3 l4 l5 l6 : Option AV} {x : Int32} {L2 : List (Nat × AV)} {St : List AV} {S : SS} : ev c 192 101 [l0, l1, l2, l3, l4, l5, l6] L2 (aI x :: St) S = ev c 192 102 [l0, l1, l2, l3, l4, l5, l6] L2 (aI (-x) :: St) S := ev_go i192_101 rfl
theorem i192_102 : insAt 192 102 = some (.baload, 1, (0, 0, 0, 0), 0) := rfl
theorem s192_102 {c : Nat → List AV → SS → Option Out} {l0 l1 l2 l3 l4 l5 l6 : Option AV} {i : Int32} {o : OId} {L2 : List (Nat × AV)} {St : List AV} {S : SS} : ev c 192 102 [l0, l1, l2, l3, l4, l5, l6] L2 (aI i :: aR o :: St) S = kB o i (ev c 192 103 [l0, l1, l2, l3, l4, l5, l6] L2 (aI (agB S o i.toNatClampNeg) :: St) S) (ev c 192 103 [l0, l1, l2, l3, l4, l5, l6] L2 (aI (bb (S.1 o i.toNatClampNeg)) :: St) S) := ev_baload i192_102
theorem i192_103 : insAt 192 103 = some (.bastore, 1, (0, 0, 0, 0), 0) := rfl
theorem s192_103 {c : Nat → List AV → SS → Option Out} {l0 l1 l2 l3 l4 l5 l6 : Option AV} {x i : Int32} {o : OId} {L2 : List (Nat × AV)} {St : List AV} {S : SS} : ev c 192 103 [l0, l1, l2, l3, l4, l5, l6] L2 (aI x :: aI i :: aR o :: St) S = kBw o i x (ev c 192 104 [l0, l1, l2, l3, l4, l5, l6] L2 St (setI S.1 o i.toNatClampNeg x, S.2)) := ev_bastore i192_103
theorem i192_104 : insAt 192 104 = some (.iload 6, 2, (0, 0, 0, 0), 0) := rfl
theorem s192_104 {c : Nat → List AV → SS → Option Out} {l0 l1 l2 l3 l4 l5 : Option AV} {x : Int32} {L2 : List (Nat × AV)} {St : List AV} {S : SS} : ev c 192 104 [l0, l1, l2, l3, l4, l5, some (aI x)] L2 St S = ev c 192 106 [l0, l1, l2, l3, l4, l5, some (aI x)] L2 (aI x :: St) S := ev_go i192_104 rfl
theorem i192_106 : insAt 192 106 = some (.ifCond .eq 12, 3, (0, 0, 0, 0), 0) := rfl
theorem s192_106 {c : Nat → List AV → SS → Option Out} {l0 l1 l2 l3 l4 l5 l6 : Option AV} {x : Int32} {L2 : List (Nat × AV)} {St : List AV} {S : SS} : ev c 192 106 [l0, l1, l2, l3, l4, l5, l6] L2 (aI x :: St) S = if x = 0 then ev c 192 118 [l0, l1, l2, l3, l4, l5, l6] L2 St S else ev c 192 109 [l0, l1, l2, l3, l4, l5, l6] L2 St S := ev_br i192_106 rfl
theorem i192_109 : insAt 192 109 = some (.aload_n 2, 1, (0, 0, 0, 0), 0) := rfl
theorem s192_109 {c : Nat → List AV → SS → Option Out} {l0 l1 l3 l4 l5 l6 : Option AV} {o : OId} {L2 : List (Nat × AV)} {St : List AV} {S : SS} : ev c 192 109 [l0, l1, some (aR o), l3, l4, l5, l6] L2 St S = ev c 192 110 [l0, l1, some (aR o), l3, l4, l5, l6] L2 (aR o :: St) S := ev_go i192_109 rfl
theorem i192_110 : insAt 192 110 = some (.iinc 5 (-1), 3, (0, 0, 0, 0), 0) := rfl
theorem s192_110 {c : Nat → List AV → SS → Option Out} {l0 l1 l2 l3 l4 l6 : Option AV} {x : Int32} {L2 : List (Nat × AV)} {St : List AV} {S : SS} : ev c 192 110 [l0, l1, l2, l3, l4, some (aI x), l6] L2 St S = ev c 192 113 [l0, l1, l2, l3, l4, some (aI (x + (-1))), l6] (kil L2 5) St S := ev_go i192_110 rfl
theorem i192_113 : insAt 192 113 = some (.iload 5, 2, (0, 0, 0, 0), 0) := rfl
theorem s192_113 {c : Nat → List AV → SS → Option Out} {l0 l1 l2 l3 l4 l6 : Option AV} {x : Int32} {L2 : List (Nat × AV)} {St : List AV} {S : SS} : ev c 192 113 [l0, l1, l2, l3, l4, some (aI x), l6] L2 St S = ev c 192 115 [l0, l1, l2, l3, l4, some (aI x), l6] L2 (aI x :: St) S := ev_go i192_113 rfl
theorem i192_115 : insAt 192 115 = some (.bipush 45, 2, (0, 0, 0, 0), 0) := rfl
theorem s192_115 {c : Nat → List AV → SS → Option Out} {l0 l1 l2 l3 l4 l5 l6 : Option AV} {L2 : List (Nat × AV)} {St : List AV} {S : SS} : ev c 192 115 [l0, l1, l2, l3, l4, l5, l6] L2 St S = ev c 192 117 [l0, l1, l2, l3, l4, l5, l6] L2 (aI 45 :: St) S := ev_go i192_115 rfl
theorem i192_117 : insAt 192 117 = some (.bastore, 1, (0, 0, 0, 0), 0) := rfl
theorem s192_117 {c : Nat → List AV → SS → Option Out} {l0 l1 l2 l3 l4 l5 l6 : Option AV} {x i : Int32} {o : OId} {L2 : List (Nat × AV)} {St : List AV} {S : SS} : ev c 192 117 [l0, l1, l2, l3, l4, l5, l6] L2 (aI x :: aI i :: aR o :: St) S = kBw o i x (ev c 192 118 [l0, l1, l2, l3, l4, l5, l6] L2 St (setI S.1 o i.toNatClampNeg x, S.2)) := ev_bastore i192_117
theorem i192_118 : insAt 192 118 = some (.iload 5, 2, (0, 0, 0, 0), 0) := rfl
theorem s192_118 {c : Nat → List AV → SS → Option Out} {l0 l1 l2 l3 l4 l6 : Option AV} {x : Int32} {L2 : List (Nat × AV)} {St : List AV} {S : SS} : ev c 192 118 [l0, l1, l2, l3, l4, some (aI x), l6] L2 St S = ev c 192 120 [l0, l1, l2, l3, l4, some (aI x), l6] L2 (aI x :: St) S := ev_go i192_118 rfl
theorem i192_120 : insAt 192 120 = some (.ireturn, 1, (0, 0, 0, 0), 0) := rfl
theorem s192_120 {c : Nat → List AV → SS → Option Out} {l0 l1 l2 l3 l4 l5 l6 : Option AV} {x : Int32} {L2 : List (Nat × AV)} {St : List AV} {S : SS} : ev c 192 120 [l0, l1, l2, l3, l4, l5, l6] L2 [aI x] S = some (.inl (some (aI x)), S) := ev_end i192_120 rfl
theorem m192 {d : Nat} {a0 : Int32} {a1 : Int32} {a2 : OId} {S : SS} : evm (d + 1) 192 [aI a0, aI a1, aR a2] S = ev (evm d) 192 0 [some (aI a0), some (aI a1), some (aR a2), none, none, none, none] [] [] S := evm_s (n := 7) rfl (Nat.le_of_ble_eq_true rfl) rfl rfl
/-! java/lang/StringBuilder.toString()Ljava/lang/String; -/
theorem i193_0 : insAt 193 0 = some (.new 18, 3, (0, 0, 0, 0), 0) := rfl
theorem i193_3 : insAt 193 3 = some (.dup, 1, (0, 0, 0, 0), 0) := rfl
theorem s193_3 {c : Nat → List AV → SS → Option Out} {l0 : Option AV} {x : OId} {L2 : List (Nat × AV)} {St : List AV} {S : SS} : ev c 193 3 [l0] L2 (aR x :: St) S = ev c 193 4 [l0] L2 (aR x :: aR x :: St) S := ev_go i193_3 rfl
theorem i193_4 : insAt 193 4 = some (.aload_n 0, 1, (0, 0, 0, 0), 0) := rfl
theorem s193_4 {c : Nat → List AV → SS → Option Out} {o : OId} {L2 : List (Nat × AV)} {St : List AV} {S : SS} : ev c 193 4 [some (aR o)] L2 St S = ev c 193 5 [some (aR o)] L2 (aR o :: St) S := ev_go i193_4 rfl
theorem i193_5 : insAt 193 5 = some (.invokespecial 137, 3, (194, 1, 5, 0), 0) := rfl
theorem s193_5 {c : Nat → List AV → SS → Option Out} {l0 : Option AV} {t0 : AV} {a0 : OId} {j : Nat} {L2 : List (Nat × AV)} {S : SS} : ev c 193 5 [l0] L2 [aR a0, aR (0, j, 2), t0] S = ck (c 194 [aR (0, j, 2), aR a0] S) (fun v S' => ev c 193 8 [l0] L2 (v.toList ++ [t0]) S') := ev_call i193_5 rfl
theorem i193_8 : insAt 193 8 = some (.areturn, 1, (0, 0, 0, 0), 0) := rfl
theorem s193_8 {c : Nat → List AV → SS → Option Out} {l0 : Option AV} {o : OId} {L2 : List (Nat × AV)} {St : List AV} {S : SS} : ev c 193 8 [l0] L2 [aR o] S = some (.inl (some (aR o)), S) := ev_end i193_8 rfl
theorem s193_8N {c : Nat → List AV → SS → Option Out} {l0 : Option AV} {L2 : List (Nat × AV)} {S : SS} : ev c 193 8 [l0] L2 [aN] S = some (.inl (some aN), S) := ev_end i193_8 rfl
theorem m193 {d : Nat} {o : OId} {S : SS} : evm (d + 1) 193 [aR o] S = ev (evm d) 193 0 [some (aR o)] [] [] S := evm_s (n := 1) rfl (Nat.le_of_ble_eq_true rfl) rfl rfl
/-! java/lang/String.<init>(Ljava/lang/StringBuilder;)V -/
theorem i194_0 : insAt 194 0 = some (.aload_n 0, 1, (0, 0, 0, 0), 0) := rfl
theorem s194_0 {c : Nat → List AV → SS → Option Out} {l1 : Option AV} {o : OId} {L2 : List (Nat × AV)} {St : List AV} {S : SS} : ev c 194 0 [some (aR o), l1] L2 St S = ev c 194 1 [some (aR o), l1] L2 (aR o :: St) S := ev_go i194_0 rfl
theorem i194_1 : insAt 194 1 = some (.aload_n 1, 1, (0, 0, 0, 0), 0) := rfl
theorem s194_1 {c : Nat → List AV → SS → Option Out} {l0 : Option AV} {o : OId} {L2 : List (Nat × AV)} {St : List AV} {S : SS} : ev c 194 1 [l0, some (aR o)] L2 St S = ev c 194 2 [l0, some (aR o)] L2 (aR o :: St) S := ev_go i194_1 rfl
theorem i194_2 : insAt 194 2 = some (.aconst_null, 1, (0, 0, 0, 0), 0) := rfl
theorem s194_2 {c : Nat → List AV → SS → Option Out} {l0 l1 : Option AV} {L2 : List (Nat × AV)} {St : List AV} {S : SS} : ev c 194 2 [l0, l1] L2 St S = ev c 194 3 [l0, l1] L2 (aN :: St) S := ev_go i194_2 rfl
theorem i194_3 : insAt 194 3 = some (.invokespecial 489, 3, (195, 2, 5, 0), 0) := rfl
theorem s194_3 {c : Nat → List AV → SS → Option Out} {l0 l1 : Option AV} {a0 : OId} {j : Nat} {L2 : List (Nat × AV)} {S : SS} : ev c 194 3 [l0, l1] L2 [aN, aR a0, aR (0, j, 2)] S = ck (c 195 [aR (0, j, 2), aR a0, aN] S) (fun v S' => ev c 194 6 [l0, l1] L2 (v.toList ++ []) S') := ev_call i194_3 rfl
theorem i194_6 : insAt 194 6 = some (.return_, 1, (0, 0, 0, 0), 0) := rfl
theorem s194_6 {c : Nat → List AV → SS → Option Out} {l0 l1 : Option AV} {L2 : List (Nat × AV)} {St : List AV} {S : SS} : ev c 194 6 [l0, l1] L2 [] S = some (.inl none, S) := ev_end i194_6 rfl
theorem m194 {d : Nat} {o : OId} {a0 : OId} {S : SS} : evm (d + 1) 194 [aR o, aR a0] S = ev (evm d) 194 0 [some (aR o), some (aR a0)] [] [] S := evm_s (n := 2) rfl (Nat.le_of_ble_eq_true rfl) rfl rfl
/-! java/lang/String.<init>(Ljava/lang/AbstractStringBuilder;Ljava/lang/Void;)V -/
theorem i195_0 : insAt 195 0 = some (.aload_n 0, 1, (0, 0, 0, 0), 0) := rfl
theorem s195_0 {c : Nat → List AV → SS → Option Out} {l1 l2 l3 l4 : Option AV} {o : OId} {L2 : List (Nat × AV)} {St : List AV} {S : SS} : ev c 195 0 [some (aR o), l1, l2, l3, l4] L2 St S = ev c 195 1 [some (aR o), l1, l2, l3, l4] L2 (aR o :: St) S := ev_go i195_0 rfl
theorem i195_1 : insAt 195 1 = some (.invokespecial 1, 3, (0, 0, 20, 0), 0) := rfl
theorem s195_1 {c : Nat → List AV → SS → Option Out} {l0 l1 l2 l3 l4 : Option AV} {o : OId} {L2 : List (Nat × AV)} {St : List AV} {S : SS} : ev c 195 1 [l0, l1, l2, l3, l4] L2 (aR o :: St) S = ev c 195 4 [l0, l1, l2, l3, l4] L2 St S := ev_go i195_1 rfl
theorem i195_4 : insAt 195 4 = some (.aload_n 1, 1, (0, 0, 0, 0), 0) := rfl
theorem s195_4 {c : Nat → List AV → SS → Option Out} {l0 l2 l3 l4 : Option AV} {o : OId} {L2 : List (Nat × AV)} {St : List AV} {S : SS} : ev c 195 4 [l0, some (aR o), l2, l3, l4] L2 St S = ev c 195 5 [l0, some (aR o), l2, l3, l4] L2 (aR o :: St) S := ev_go i195_4 rfl
theorem i195_5 : insAt 195 5 = some (.invokevirtual 552, 3, (196, 0, 4, 1), 0) := rfl
theorem s195_5 {c : Nat → List AV → SS → Option Out} {l0 l1 l2 l3 l4 : Option AV} {j t : Nat} {L2 : List (Nat × AV)} {S : SS} : ev c 195 5 [l0, l1, l2, l3, l4] L2 [aR (1, j, t)] S = ck (c 196 [aR (1, j, t)] S) (fun v S' => ev c 195 8 [l0, l1, l2, l3, l4] L2 (v.toList ++ []) S') := ev_call i195_5 rfl
theorem i195_8 : insAt 195 8 = some (.astore_n 3, 1, (0, 0, 0, 0), 0) := rfl
theorem s195_8 {c : Nat → List AV → SS → Option Out} {l0 l1 l2 l3 l4 : Option AV} {o : OId} {L2 : List (Nat × AV)} {St : List AV} {S : SS} : ev c 195 8 [l0, l1, l2, l3, l4] L2 (aR o :: St) S = ev c 195 9 [l0, l1, l2, some (aR o), l4] (kil L2 3) St S := ev_go i195_8 rfl
theorem i195_9 : insAt 195 9 = some (.aload_n 1, 1, (0, 0, 0, 0), 0) := rfl
theorem s195_9 {c : Nat → List AV → SS → Option Out} {l0 l2 l3 l4 : Option AV} {o : OId} {L2 : List (Nat × AV)} {St : List AV} {S : SS} : ev c 195 9 [l0, some (aR o), l2, l3, l4] L2 St S = ev c 195 10 [l0, some (aR o), l2, l3, l4] L2 (aR o :: St) S := ev_go i195_9 rfl
theorem i195_10 : insAt 195 10 = some (.invokevirtual 549, 3, (197, 0, 8, 1), 0) := rfl
theorem s195_10 {c : Nat → List AV → SS → Option Out} {l0 l1 l2 l3 l4 : Option AV} {j t : Nat} {L2 : List (Nat × AV)} {S : SS} : ev c 195 10 [l0, l1, l2, l3, l4] L2 [aR (1, j, t)] S = ck (c 197 [aR (1, j, t)] S) (fun v S' => ev c 195 13 [l0, l1, l2, l3, l4] L2 (v.toList ++ []) S') := ev_call i195_10 rfl
theorem i195_13 : insAt 195 13 = some (.istore 4, 2, (0, 0, 0, 0), 0) := rfl
theorem s195_13 {c : Nat → List AV → SS → Option Out} {l0 l1 l2 l3 l4 : Option AV} {x : Int32} {L2 : List (Nat × AV)} {St : List AV} {S : SS} : ev c 195 13 [l0, l1, l2, l3, l4] L2 (aI x :: St) S = ev c 195 15 [l0, l1, l2, l3, some (aI x)] (kil L2 4) St S := ev_go i195_13 rfl
theorem i195_15 : insAt 195 15 = some (.aload_n 1, 1, (0, 0, 0, 0), 0) := rfl
theorem s195_15 {c : Nat → List AV → SS → Option Out} {l0 l2 l3 l4 : Option AV} {o : OId} {L2 : List (Nat × AV)} {St : List AV} {S : SS} : ev c 195 15 [l0, some (aR o), l2, l3, l4] L2 St S = ev c 195 16 [l0, some (aR o), l2, l3, l4] L2 (aR o :: St) S := ev_go i195_15 rfl
theorem i195_16 : insAt 195 16 = some (.invokevirtual 1047, 3, (183, 0, 4, 1), 0) := rfl
theorem s195_16 {c : Nat → List AV → SS → Option Out} {l0 l1 l2 l3 l4 : Option AV} {j t : Nat} {L2 : List (Nat × AV)} {S : SS} : ev c 195 16 [l0, l1, l2, l3, l4] L2 [aR (1, j, t)] S = ck (c 183 [aR (1, j, t)] S) (fun v S' => ev c 195 19 [l0, l1, l2, l3, l4] L2 (v.toList ++ []) S') := ev_call i195_16 rfl
theorem i195_19 : insAt 195 19 = some (.ifCond .eq 22, 3, (0, 0, 0, 0), 0) := rfl
theorem s195_19 {c : Nat → List AV → SS → Option Out} {l0 l1 l2 l3 l4 : Option AV} {x : Int32} {L2 : List (Nat × AV)} {St : List AV} {S : SS} : ev c 195 19 [l0, l1, l2, l3, l4] L2 (aI x :: St) S = if x = 0 then ev c 195 41 [l0, l1, l2, l3, l4] L2 St S else ev c 195 22 [l0, l1, l2, l3, l4] L2 St S := ev_br i195_19 rfl
theorem i195_22 : insAt 195 22 = some (.aload_n 0, 1, (0, 0, 0, 0), 0) := rfl
theorem s195_22 {c : Nat → List AV → SS → Option Out} {l1 l2 l3 l4 : Option AV} {o : OId} {L2 : List (Nat × AV)} {St : List AV} {S : SS} : ev c 195 22 [some (aR o), l1, l2, l3, l4] L2 St S = ev c 195 23 [some (aR o), l1, l2, l3, l4] L2 (aR o :: St) S := ev_go i195_22 rfl
theorem i195_23 : insAt 195 23 = some (.iconst 0, 1, (0, 0, 0, 0), 0) := rfl
theorem s195_23 {c : Nat → List AV → SS → Option Out} {l0 l1 l2 l3 l4 : Option AV} {L2 : List (Nat × AV)} {St : List AV} {S : SS} : ev c 195 23 [l0, l1, l2, l3, l4] L2 St S = ev c 195 24 [l0, l1, l2, l3, l4] L2 (aI 0 :: St) S := ev_go i195_23 rfl
theorem i195_24 : insAt 195 24 = some (.putfield 15, 3, (0, 1, 0, 0), 0) := rfl
theorem s195_24 {c : Nat → List AV → SS → Option Out} {l0 l1 l2 l3 l4 : Option AV} {j : Nat} {x : Int32} {L2 : List (Nat × AV)} {St : List AV} {S : SS} : ev c 195 24 [l0, l1, l2, l3, l4] L2 (aI x :: aR (0, j, 2) :: St) S = if by8 x = x then ev c 195 27 [l0, l1, l2, l3, l4] L2 St (setI S.1 (0, j, 2) 1 x, S.2) else none := ev_if i195_24 rfl
theorem i195_27 : insAt 195 27 = some (.aload_n 0, 1, (0, 0, 0, 0), 0) := rfl
theorem s195_27 {c : Nat → List AV → SS → Option Out} {l1 l2 l3 l4 : Option AV} {o : OId} {L2 : List (Nat × AV)} {St : List AV} {S : SS} : ev c 195 27 [some (aR o), l1, l2, l3, l4] L2 St S = ev c 195 28 [some (aR o), l1, l2, l3, l4] L2 (aR o :: St) S := ev_go i195_27 rfl
theorem i195_28 : insAt 195 28 = some (.aload_n 3, 1, (0, 0, 0, 0), 0) := rfl
theorem s195_28 {c : Nat → List AV → SS → Option Out} {l0 l1 l2 l4 : Option AV} {o : OId} {L2 : List (Nat × AV)} {St : List AV} {S : SS} : ev c 195 28 [l0, l1, l2, some (aR o), l4] L2 St S = ev c 195 29 [l0, l1, l2, some (aR o), l4] L2 (aR o :: St) S := ev_go i195_28 rfl
theorem i195_29 : insAt 195 29 = some (.iconst 0, 1, (0, 0, 0, 0), 0) := rfl
theorem s195_29 {c : Nat → List AV → SS → Option Out} {l0 l1 l2 l3 l4 : Option AV} {L2 : List (Nat × AV)} {St : List AV} {S : SS} : ev c 195 29 [l0, l1, l2, l3, l4] L2 St S = ev c 195 30 [l0, l1, l2, l3, l4] L2 (aI 0 :: St) S := ev_go i195_29 rfl
theorem i195_30 : insAt 195 30 = some (.iload 4, 2, (0, 0, 0, 0), 0) := rfl
theorem s195_30 {c : Nat → List AV → SS → Option Out} {l0 l1 l2 l3 : Option AV} {x : Int32} {L2 : List (Nat × AV)} {St : List AV} {S : SS} : ev c 195 30 [l0, l1, l2, l3, some (aI x)] L2 St S = ev c 195 32 [l0, l1, l2, l3, some (aI x)] L2 (aI x :: St) S := ev_go i195_30 rfl
theorem i195_32 : insAt 195 32 = some (.invokestatic 54, 3, (199, 3, 0, 0), 0) := rfl
theorem s195_32 {c : Nat → List AV → SS → Option Out} {l0 l1 l2 l3 l4 : Option AV} {t0 : AV} {a0 : OId} {a1 : Int32} {a2 : Int32} {L2 : List (Nat × AV)} {S : SS} : ev c 195 32 [l0, l1, l2, l3, l4] L2 [aI a2, aI a1, aR a0, t0] S = ck (c 199 [aR a0, aI a1, aI a2] S) (fun v S' => ev c 195 35 [l0, l1, l2, l3, l4] L2 (v.toList ++ [t0]) S') := ev_call i195_32 rfl
theorem i195_35 : insAt 195 35 = some (.putfield 9, 3, (0, 0, 0, 0), 0) := rfl
theorem s195_35 {c : Nat → List AV → SS → Option Out} {l0 l1 l2 l3 l4 : Option AV} {j : Nat} {p : OId} {L2 : List (Nat × AV)} {St : List AV} {S : SS} : ev c 195 35 [l0, l1, l2, l3, l4] L2 (aR p :: aR (0, j, 2) :: St) S = ev c 195 38 [l0, l1, l2, l3, l4] L2 St (S.1, setV S.2.1 (0, j, 2) 0 (aR p), S.2.2) := ev_go i195_35 rfl
theorem i195_38 : insAt 195 38 = some (.goto 59, 3, (0, 0, 0, 0), 0) := rfl
theorem s195_38 {c : Nat → List AV → SS → Option Out} {l0 l1 l2 l3 l4 : Option AV} {L2 : List (Nat × AV)} {St : List AV} {S : SS} : ev c 195 38 [l0, l1, l2, l3, l4] L2 St S = ev c 195 97 [l0, l1, l2, l3, l4] L2 St S := ev_go i195_38 rfl
theorem i195_41 : insAt 195 41 = some (.getstatic 38, 3, (0, 0, 0, 0), 0) := rfl
theorem s195_41 {c : Nat → List AV → SS → Option Out} {l0 l1 l2 l3 l4 : Option AV} {L2 : List (Nat × AV)} {St : List AV} {S : SS} : ev c 195 41 [l0, l1, l2, l3, l4] L2 St S = ev c 195 44 [l0, l1, l2, l3, l4] L2 (aI 1 :: St) S := ev_go i195_41 rfl
theorem i195_44 : insAt 195 44 = some (.ifCond .eq 35, 3, (0, 0, 0, 0), 0) := rfl
theorem s195_44 {c : Nat → List AV → SS → Option Out} {l0 l1 l2 l3 l4 : Option AV} {x : Int32} {L2 : List (Nat × AV)} {St : List AV} {S : SS} : ev c 195 44 [l0, l1, l2, l3, l4] L2 (aI x :: St) S = if x = 0 then ev c 195 79 [l0, l1, l2, l3, l4] L2 St S else ev c 195 47 [l0, l1, l2, l3, l4] L2 St S := ev_br i195_44 rfl
theorem i195_47 : insAt 195 47 = some (.aload_n 1, 1, (0, 0, 0, 0), 0) := rfl
theorem s195_47 {c : Nat → List AV → SS → Option Out} {l0 l2 l3 l4 : Option AV} {o : OId} {L2 : List (Nat × AV)} {St : List AV} {S : SS} : ev c 195 47 [l0, some (aR o), l2, l3, l4] L2 St S = ev c 195 48 [l0, some (aR o), l2, l3, l4] L2 (aR o :: St) S := ev_go i195_47 rfl
theorem i195_48 : insAt 195 48 = some (.getfield 1048, 3, (1, 2, 0, 0), 0) := rfl
theorem s195_48 {c : Nat → List AV → SS → Option Out} {l0 l1 l2 l3 l4 : Option AV} {j t : Nat} {L2 : List (Nat × AV)} {St : List AV} {S : SS} : ev c 195 48 [l0, l1, l2, l3, l4] L2 (aR (1, j, t) :: St) S = ev c 195 51 [l0, l1, l2, l3, l4] L2 (aI (bb (S.1 (1, j, t) 2)) :: St) S := ev_go i195_48 rfl
theorem i195_51 : insAt 195 51 = some (.ifCond .eq 28, 3, (0, 0, 0, 0), 0) := rfl
theorem s195_51 {c : Nat → List AV → SS → Option Out} {l0 l1 l2 l3 l4 : Option AV} {x : Int32} {L2 : List (Nat × AV)} {St : List AV} {S : SS} : ev c 195 51 [l0, l1, l2, l3, l4] L2 (aI x :: St) S = if x = 0 then ev c 195 79 [l0, l1, l2, l3, l4] L2 St S else ev c 195 54 [l0, l1, l2, l3, l4] L2 St S := ev_br i195_51 rfl
theorem i195_54 : insAt 195 54 = some (.aload_n 0, 1, (0, 0, 0, 0), 0) := rfl
theorem s195_54 {c : Nat → List AV → SS → Option Out} {l1 l2 l3 l4 : Option AV} {o : OId} {L2 : List (Nat × AV)} {St : List AV} {S : SS} : ev c 195 54 [some (aR o), l1, l2, l3, l4] L2 St S = ev c 195 55 [some (aR o), l1, l2, l3, l4] L2 (aR o :: St) S := ev_go i195_54 rfl
theorem i195_55 : insAt 195 55 = some (.aload_n 3, 1, (0, 0, 0, 0), 0) := rfl
theorem s195_55 {c : Nat → List AV → SS → Option Out} {l0 l1 l2 l4 : Option AV} {o : OId} {L2 : List (Nat × AV)} {St : List AV} {S : SS} : ev c 195 55 [l0, l1, l2, some (aR o), l4] L2 St S = ev c 195 56 [l0, l1, l2, some (aR o), l4] L2 (aR o :: St) S := ev_go i195_55 rfl
theorem i195_56 : insAt 195 56 = some (.iconst 0, 1, (0, 0, 0, 0), 0) := rfl
theorem s195_56 {c : Nat → List AV → SS → Option Out} {l0 l1 l2 l3 l4 : Option AV} {L2 : List (Nat × AV)} {St : List AV} {S : SS} : ev c 195 56 [l0, l1, l2, l3, l4] L2 St S = ev c 195 57 [l0, l1, l2, l3, l4] L2 (aI 0 :: St) S := ev_go i195_56 rfl
theorem i195_57 : insAt 195 57 = some (.iload 4, 2, (0, 0, 0, 0), 0) := rfl
theorem s195_57 {c : Nat → List AV → SS → Option Out} {l0 l1 l2 l3 : Option AV} {x : Int32} {L2 : List (Nat × AV)} {St : List AV} {S : SS} : ev c 195 57 [l0, l1, l2, l3, some (aI x)] L2 St S = ev c 195 59 [l0, l1, l2, l3, some (aI x)] L2 (aI x :: St) S := ev_go i195_57 rfl
theorem i195_62 : insAt 195 62 = some (.putfield 9, 3, (0, 0, 0, 0), 0) := rfl
theorem s195_62 {c : Nat → List AV → SS → Option Out} {l0 l1 l2 l3 l4 : Option AV} {j : Nat} {p : OId} {L2 : List (Nat × AV)} {St : List AV} {S : SS} : ev c 195 62 [l0, l1, l2, l3, l4] L2 (aR p :: aR (0, j, 2) :: St) S = ev c 195 65 [l0, l1, l2, l3, l4] L2 St (S.1, setV S.2.1 (0, j, 2) 0 (aR p), S.2.2) := ev_go i195_62 rfl
theorem i195_65 : insAt 195 65 = some (.aload_n 0, 1, (0, 0, 0, 0), 0) := rfl
theorem s195_65 {c : Nat → List AV → SS → Option Out} {l1 l2 l3 l4 : Option AV} {o : OId} {L2 : List (Nat × AV)} {St : List AV} {S : SS} : ev c 195 65 [some (aR o), l1, l2, l3, l4] L2 St S = ev c 195 66 [some (aR o), l1, l2, l3, l4] L2 (aR o :: St) S := ev_go i195_65 rfl
theorem i195_66 : insAt 195 66 = some (.aload_n 0, 1, (0, 0, 0, 0), 0) := rfl
theorem s195_66 {c : Nat → List AV → SS → Option Out} {l1 l2 l3 l4 : Option AV} {o : OId} {L2 : List (Nat × AV)} {St : List AV} {S : SS} : ev c 195 66 [some (aR o), l1, l2, l3, l4] L2 St S = ev c 195 67 [some (aR o), l1, l2, l3, l4] L2 (aR o :: St) S := ev_go i195_66 rfl
theorem i195_67 : insAt 195 67 = some (.getfield 9, 3, (0, 0, 0, 0), 0) := rfl
theorem s195_67 {c : Nat → List AV → SS → Option Out} {l0 l1 l2 l3 l4 : Option AV} {j t : Nat} {L2 : List (Nat × AV)} {St : List AV} {S : SS} : ev c 195 67 [l0, l1, l2, l3, l4] L2 (aR (0, j, t) :: St) S = ev c 195 70 [l0, l1, l2, l3, l4] L2 (fget S 0 0 (0, j, t) :: St) S := ev_go i195_67 rfl
theorem i195_70 : insAt 195 70 = some (.iload 4, 2, (0, 0, 0, 0), 0) := rfl
theorem s195_70 {c : Nat → List AV → SS → Option Out} {l0 l1 l2 l3 : Option AV} {x : Int32} {L2 : List (Nat × AV)} {St : List AV} {S : SS} : ev c 195 70 [l0, l1, l2, l3, some (aI x)] L2 St S = ev c 195 72 [l0, l1, l2, l3, some (aI x)] L2 (aI x :: St) S := ev_go i195_70 rfl
theorem i195_75 : insAt 195 75 = some (.putfield 15, 3, (0, 1, 0, 0), 0) := rfl
theorem s195_75 {c : Nat → List AV → SS → Option Out} {l0 l1 l2 l3 l4 : Option AV} {j : Nat} {x : Int32} {L2 : List (Nat × AV)} {St : List AV} {S : SS} : ev c 195 75 [l0, l1, l2, l3, l4] L2 (aI x :: aR (0, j, 2) :: St) S = if by8 x = x then ev c 195 78 [l0, l1, l2, l3, l4] L2 St (setI S.1 (0, j, 2) 1 x, S.2) else none := ev_if i195_75 rfl
theorem i195_78 : insAt 195 78 = some (.return_, 1, (0, 0, 0, 0), 0) := rfl
theorem s195_78 {c : Nat → List AV → SS → Option Out} {l0 l1 l2 l3 l4 : Option AV} {L2 : List (Nat × AV)} {St : List AV} {S : SS} : ev c 195 78 [l0, l1, l2, l3, l4] L2 [] S = some (.inl none, S) := ev_end i195_78 rfl
theorem i195_79 : insAt 195 79 = some (.aload_n 0, 1, (0, 0, 0, 0), 0) := rfl
theorem s195_79 {c : Nat → List AV → SS → Option Out} {l1 l2 l3 l4 : Option AV} {o : OId} {L2 : List (Nat × AV)} {St : List AV} {S : SS} : ev c 195 79 [some (aR o), l1, l2, l3, l4] L2 St S = ev c 195 80 [some (aR o), l1, l2, l3, l4] L2 (aR o :: St) S := ev_go i195_79 rfl
theorem i195_80 : insAt 195 80 = some (.iconst 1, 1, (0, 0, 0, 0), 0) := rfl
theorem s195_80 {c : Nat → List AV → SS → Option Out} {l0 l1 l2 l3 l4 : Option AV} {L2 : List (Nat × AV)} {St : List AV} {S : SS} : ev c 195 80 [l0, l1, l2, l3, l4] L2 St S = ev c 195 81 [l0, l1, l2, l3, l4] L2 (aI 1 :: St) S := ev_go i195_80 rfl
theorem i195_81 : insAt 195 81 = some (.putfield 15, 3, (0, 1, 0, 0), 0) := rfl
theorem s195_81 {c : Nat → List AV → SS → Option Out} {l0 l1 l2 l3 l4 : Option AV} {j : Nat} {x : Int32} {L2 : List (Nat × AV)} {St : List AV} {S : SS} : ev c 195 81 [l0, l1, l2, l3, l4] L2 (aI x :: aR (0, j, 2) :: St) S = if by8 x = x then ev c 195 84 [l0, l1, l2, l3, l4] L2 St (setI S.1 (0, j, 2) 1 x, S.2) else none := ev_if i195_81 rfl
theorem i195_84 : insAt 195 84 = some (.aload_n 0, 1, (0, 0, 0, 0), 0) := rfl
theorem s195_84 {c : Nat → List AV → SS → Option Out} {l1 l2 l3 l4 : Option AV} {o : OId} {L2 : List (Nat × AV)} {St : List AV} {S : SS} : ev c 195 84 [some (aR o), l1, l2, l3, l4] L2 St S = ev c 195 85 [some (aR o), l1, l2, l3, l4] L2 (aR o :: St) S := ev_go i195_84 rfl
theorem i195_85 : insAt 195 85 = some (.aload_n 3, 1, (0, 0, 0, 0), 0) := rfl
theorem s195_85 {c : Nat → List AV → SS → Option Out} {l0 l1 l2 l4 : Option AV} {o : OId} {L2 : List (Nat × AV)} {St : List AV} {S : SS} : ev c 195 85 [l0, l1, l2, some (aR o), l4] L2 St S = ev c 195 86 [l0, l1, l2, some (aR o), l4] L2 (aR o :: St) S := ev_go i195_85 rfl
theorem i195_86 : insAt 195 86 = some (.iconst 0, 1, (0, 0, 0, 0), 0) := rfl
theorem s195_86 {c : Nat → List AV → SS → Option Out} {l0 l1 l2 l3 l4 : Option AV} {L2 : List (Nat × AV)} {St : List AV} {S : SS} : ev c 195 86 [l0, l1, l2, l3, l4] L2 St S = ev c 195 87 [l0, l1, l2, l3, l4] L2 (aI 0 :: St) S := ev_go i195_86 rfl
theorem i195_87 : insAt 195 87 = some (.iload 4, 2, (0, 0, 0, 0), 0) := rfl
theorem s195_87 {c : Nat → List AV → SS → Option Out} {l0 l1 l2 l3 : Option AV} {x : Int32} {L2 : List (Nat × AV)} {St : List AV} {S : SS} : ev c 195 87 [l0, l1, l2, l3, some (aI x)] L2 St S = ev c 195 89 [l0, l1, l2, l3, some (aI x)] L2 (aI x :: St) S := ev_go i195_87 rfl
theorem i195_89 : insAt 195 89 = some (.iconst 1, 1, (0, 0, 0, 0), 0) := rfl
theorem s195_89 {c : Nat → List AV → SS → Option Out} {l0 l1 l2 l3 l4 : Option AV} {L2 : List (Nat × AV)} {St : List AV} {S : SS} : ev c 195 89 [l0, l1, l2, l3, l4] L2 St S = ev c 195 90 [l0, l1, l2, l3, l4] L2 (aI 1 :: St) S := ev_go i195_89 rfl
theorem i195_90 : insAt 195 90 = some (.ishl, 1, (0, 0, 0, 0), 0) := rfl
theorem s195_90 {c : Nat → List AV → SS → Option Out} {l0 l1 l2 l3 l4 : Option AV} {x y : Int32} {L2 : List (Nat × AV)} {St : List AV} {S : SS} : ev c 195 90 [l0, l1, l2, l3, l4] L2 (aI y :: aI x :: St) S = ev c 195 91 [l0, l1, l2, l3, l4] L2 (aI (x <<< (y &&& 31)) :: St) S := ev_go i195_90 rfl
theorem i195_91 : insAt 195 91 = some (.invokestatic 54, 3, (199, 3, 0, 0), 0) := rfl
theorem s195_91 {c : Nat → List AV → SS → Option Out} {l0 l1 l2 l3 l4 : Option AV} {t0 : AV} {a0 : OId} {a1 : Int32} {a2 : Int32} {L2 : List (Nat × AV)} {S : SS} : ev c 195 91 [l0, l1, l2, l3, l4] L2 [aI a2, aI a1, aR a0, t0] S = ck (c 199 [aR a0, aI a1, aI a2] S) (fun v S' => ev c 195 94 [l0, l1, l2, l3, l4] L2 (v.toList ++ [t0]) S') := ev_call i195_91 rfl
theorem i195_94 : insAt 195 94 = some (.putfield 9, 3, (0, 0, 0, 0), 0) := rfl
theorem s195_94 {c : Nat → List AV → SS → Option Out} {l0 l1 l2 l3 l4 : Option AV} {j : Nat} {p : OId} {L2 : List (Nat × AV)} {St : List AV} {S : SS} : ev c 195 94 [l0, l1, l2, l3, l4] L2 (aR p :: aR (0, j, 2) :: St) S = ev c 195 97 [l0, l1, l2, l3, l4] L2 St (S.1, setV S.2.1 (0, j, 2) 0 (aR p), S.2.2) := ev_go i195_94 rfl
theorem i195_97 : insAt 195 97 = some (.return_, 1, (0, 0, 0, 0), 0) := rfl
theorem s195_97 {c : Nat → List AV → SS → Option Out} {l0 l1 l2 l3 l4 : Option AV} {L2 : List (Nat × AV)} {St : List AV} {S : SS} : ev c 195 97 [l0, l1, l2, l3, l4] L2 [] S = some (.inl none, S) := ev_end i195_97 rfl
theorem m195 {d : Nat} {o : OId} {a0 : OId} {S : SS} : evm (d + 1) 195 [aR o, aR a0, aN] S = ev (evm d) 195 0 [some (aR o), some (aR a0), some aN, none, none] [] [] S := evm_s (n := 5) rfl (Nat.le_of_ble_eq_true rfl) rfl rfl
/-! java/lang/AbstractStringBuilder.getValue()[B -/
theorem i196_0 : insAt 196 0 = some (.aload_n 0, 1, (0, 0, 0, 0), 0) := rfl
theorem s196_0 {c : Nat → List AV → SS → Option Out} {o : OId} {L2 : List (Nat × AV)} {St : List AV} {S : SS} : ev c 196 0 [some (aR o)] L2 St S = ev c 196 1 [some (aR o)] L2 (aR o :: St) S := ev_go i196_0 rfl
theorem i196_1 : insAt 196 1 = some (.getfield 15, 3, (1, 0, 0, 0), 0) := rfl
theorem s196_1 {c : Nat → List AV → SS → Option Out} {l0 : Option AV} {j t : Nat} {L2 : List (Nat × AV)} {St : List AV} {S : SS} : ev c 196 1 [l0] L2 (aR (1, j, t) :: St) S = ev c 196 4 [l0] L2 (S.2.1 (1, j, t) 0 :: St) S := ev_go i196_1 rfl
theorem i196_4 : insAt 196 4 = some (.areturn, 1, (0, 0, 0, 0), 0) := rfl
theorem s196_4 {c : Nat → List AV → SS → Option Out} {l0 : Option AV} {o : OId} {L2 : List (Nat × AV)} {St : List AV} {S : SS} : ev c 196 4 [l0] L2 [aR o] S = some (.inl (some (aR o)), S) := ev_end i196_4 rfl
theorem s196_4N {c : Nat → List AV → SS → Option Out} {l0 : Option AV} {L2 : List (Nat × AV)} {S : SS} : ev c 196 4 [l0] L2 [aN] S = some (.inl (some aN), S) := ev_end i196_4 rfl
theorem m196 {d : Nat} {o : OId} {S : SS} : evm (d + 1) 196 [aR o] S = ev (evm d) 196 0 [some (aR o)] [] [] S := evm_s (n := 1) rfl (Nat.le_of_ble_eq_true rfl) rfl rfl
/-! java/lang/StringBuilder.length()I -/
theorem i197_0 : insAt 197 0 = some (.aload_n 0, 1, (0, 0, 0, 0), 0) := rfl
theorem s197_0 {c : Nat → List AV → SS → Option Out} {o : OId} {L2 : List (Nat × AV)} {St : List AV} {S : SS} : ev c 197 0 [some (aR o)] L2 St S = ev c 197 1 [some (aR o)] L2 (aR o :: St) S := ev_go i197_0 rfl
theorem i197_1 : insAt 197 1 = some (.invokespecial 343, 3, (198, 0, 7, 1), 0) := rfl
theorem s197_1 {c : Nat → List AV → SS → Option Out} {l0 : Option AV} {j t : Nat} {L2 : List (Nat × AV)} {S : SS} : ev c 197 1 [l0] L2 [aR (1, j, t)] S = ck (c 198 [aR (1, j, t)] S) (fun v S' => ev c 197 4 [l0] L2 (v.toList ++ []) S') := ev_call i197_1 rfl
theorem i197_4 : insAt 197 4 = some (.ireturn, 1, (0, 0, 0, 0), 0) := rfl
theorem s197_4 {c : Nat → List AV → SS → Option Out} {l0 : Option AV} {x : Int32} {L2 : List (Nat × AV)} {St : List AV} {S : SS} : ev c 197 4 [l0] L2 [aI x] S = some (.inl (some (aI x)), S) := ev_end i197_4 rfl
theorem m197 {d : Nat} {o : OId} {S : SS} : evm (d + 1) 197 [aR o] S = ev (evm d) 197 0 [some (aR o)] [] [] S := evm_s (n := 1) rfl (Nat.le_of_ble_eq_true rfl) rfl rfl
/-! java/lang/AbstractStringBuilder.length()I -/
theorem i198_0 : insAt 198 0 = some (.aload_n 0, 1, (0, 0, 0, 0), 0) := rfl
theorem s198_0 {c : Nat → List AV → SS → Option Out} {o : OId} {L2 : List (Nat × AV)} {St : List AV} {S : SS} : ev c 198 0 [some (aR o)] L2 St S = ev c 198 1 [some (aR o)] L2 (aR o :: St) S := ev_go i198_0 rfl
theorem i198_1 : insAt 198 1 = some (.getfield 79, 3, (1, 3, 0, 0), 0) := rfl
theorem s198_1 {c : Nat → List AV → SS → Option Out} {l0 : Option AV} {j t : Nat} {L2 : List (Nat × AV)} {St : List AV} {S : SS} : ev c 198 1 [l0] L2 (aR (1, j, t) :: St) S = ev c 198 4 [l0] L2 (aI (S.1 (1, j, t) 3) :: St) S := ev_go i198_1 rfl
theorem i198_4 : insAt 198 4 = some (.ireturn, 1, (0, 0, 0, 0), 0) := rfl
theorem s198_4 {c : Nat → List AV → SS → Option Out} {l0 : Option AV} {x : Int32} {L2 : List (Nat × AV)} {St : List AV} {S : SS} : ev c 198 4 [l0] L2 [aI x] S = some (.inl (some (aI x)), S) := ev_end i198_4 rfl
theorem m198 {d : Nat} {o : OId} {S : SS} : evm (d + 1) 198 [aR o] S = ev (evm d) 198 0 [some (aR o)] [] [] S := evm_s (n := 1) rfl (Nat.le_of_ble_eq_true rfl) rfl rfl
/-! java/util/Arrays.copyOfRange([BII)[B -/
theorem i199_0 : insAt 199 0 = some (.iload_n 1, 1, (0, 0, 0, 0), 0) := rfl
theorem s199_0 {c : Nat → List AV → SS → Option Out} {l0 l2 : Option AV} {x : Int32} {L2 : List (Nat × AV)} {St : List AV} {S : SS} : ev c 199 0 [l0, some (aI x), l2] L2 St S = ev c 199 1 [l0, some (aI x), l2] L2 (aI x :: St) S := ev_go i199_0 rfl
theorem i199_1 : insAt 199 1 = some (.ifCond .ne 9, 3, (0, 0, 0, 0), 0) := rfl
theorem s199_1 {c : Nat → List AV → SS → Option Out} {l0 l1 l2 : Option AV} {x : Int32} {L2 : List (Nat × AV)} {St : List AV} {S : SS} : ev c 199 1 [l0, l1, l2] L2 (aI x :: St) S = if x = 0 then ev c 199 4 [l0, l1, l2] L2 St S else ev c 199 10 [l0, l1, l2] L2 St S := (ev_br i199_1 rfl).trans (ite_not _ _ _)
theorem i199_4 : insAt 199 4 = some (.iload_n 2, 1, (0, 0, 0, 0), 0) := rfl
theorem s199_4 {c : Nat → List AV → SS → Option Out} {l0 l1 : Option AV} {x : Int32} {L2 : List (Nat × AV)} {St : List AV} {S : SS} : ev c 199 4 [l0, l1, some (aI x)] L2 St S = ev c 199 5 [l0, l1, some (aI x)] L2 (aI x :: St) S := ev_go i199_4 rfl
theorem i199_5 : insAt 199 5 = some (.aload_n 0, 1, (0, 0, 0, 0), 0) := rfl
theorem s199_5 {c : Nat → List AV → SS → Option Out} {l1 l2 : Option AV} {o : OId} {L2 : List (Nat × AV)} {St : List AV} {S : SS} : ev c 199 5 [some (aR o), l1, l2] L2 St S = ev c 199 6 [some (aR o), l1, l2] L2 (aR o :: St) S := ev_go i199_5 rfl
theorem i199_6 : insAt 199 6 = some (.arraylength, 1, (0, 0, 0, 0), 0) := rfl
theorem s199_6 {c : Nat → List AV → SS → Option Out} {l0 l1 l2 : Option AV} {o : OId} {L2 : List (Nat × AV)} {St : List AV} {S : SS} : ev c 199 6 [l0, l1, l2] L2 (aR o :: St) S = kN o (fun x => ev c 199 7 [l0, l1, l2] L2 (aI x :: St) S) := ev_alen i199_6
theorem i199_7 : insAt 199 7 = some (.if_icmp .eq 10, 3, (0, 0, 0, 0), 0) := rfl
theorem s199_7 {c : Nat → List AV → SS → Option Out} {l0 l1 l2 : Option AV} {x y : Int32} {L2 : List (Nat × AV)} {St : List AV} {S : SS} : ev c 199 7 [l0, l1, l2] L2 (aI y :: aI x :: St) S = if x = y then ev c 199 17 [l0, l1, l2] L2 St S else ev c 199 10 [l0, l1, l2] L2 St S := ev_br i199_7 rfl
theorem i199_10 : insAt 199 10 = some (.aload_n 0, 1, (0, 0, 0, 0), 0) := rfl
theorem s199_10 {c : Nat → List AV → SS → Option Out} {l1 l2 : Option AV} {o : OId} {L2 : List (Nat × AV)} {St : List AV} {S : SS} : ev c 199 10 [some (aR o), l1, l2] L2 St S = ev c 199 11 [some (aR o), l1, l2] L2 (aR o :: St) S := ev_go i199_10 rfl
theorem i199_11 : insAt 199 11 = some (.iload_n 1, 1, (0, 0, 0, 0), 0) := rfl
theorem s199_11 {c : Nat → List AV → SS → Option Out} {l0 l2 : Option AV} {x : Int32} {L2 : List (Nat × AV)} {St : List AV} {S : SS} : ev c 199 11 [l0, some (aI x), l2] L2 St S = ev c 199 12 [l0, some (aI x), l2] L2 (aI x :: St) S := ev_go i199_11 rfl
theorem i199_12 : insAt 199 12 = some (.iload_n 2, 1, (0, 0, 0, 0), 0) := rfl
theorem s199_12 {c : Nat → List AV → SS → Option Out} {l0 l1 : Option AV} {x : Int32} {L2 : List (Nat × AV)} {St : List AV} {S : SS} : ev c 199 12 [l0, l1, some (aI x)] L2 St S = ev c 199 13 [l0, l1, some (aI x)] L2 (aI x :: St) S := ev_go i199_12 rfl
theorem i199_13 : insAt 199 13 = some (.invokestatic 339, 3, (200, 3, 0, 0), 0) := rfl
theorem s199_13 {c : Nat → List AV → SS → Option Out} {l0 l1 l2 : Option AV} {a0 : OId} {a1 : Int32} {a2 : Int32} {L2 : List (Nat × AV)} {S : SS} : ev c 199 13 [l0, l1, l2] L2 [aI a2, aI a1, aR a0] S = ck (c 200 [aR a0, aI a1, aI a2] S) (fun v S' => ev c 199 16 [l0, l1, l2] L2 (v.toList ++ []) S') := ev_call i199_13 rfl
theorem i199_16 : insAt 199 16 = some (.areturn, 1, (0, 0, 0, 0), 0) := rfl
theorem s199_16 {c : Nat → List AV → SS → Option Out} {l0 l1 l2 : Option AV} {o : OId} {L2 : List (Nat × AV)} {St : List AV} {S : SS} : ev c 199 16 [l0, l1, l2] L2 [aR o] S = some (.inl (some (aR o)), S) := ev_end i199_16 rfl
theorem s199_16N {c : Nat → List AV → SS → Option Out} {l0 l1 l2 : Option AV} {L2 : List (Nat × AV)} {S : SS} : ev c 199 16 [l0, l1, l2] L2 [aN] S = some (.inl (some aN), S) := ev_end i199_16 rfl
theorem i199_17 : insAt 199 17 = some (.aload_n 0, 1, (0, 0, 0, 0), 0) := rfl
theorem s199_17 {c : Nat → List AV → SS → Option Out} {l1 l2 : Option AV} {o : OId} {L2 : List (Nat × AV)} {St : List AV} {S : SS} : ev c 199 17 [some (aR o), l1, l2] L2 St S = ev c 199 18 [some (aR o), l1, l2] L2 (aR o :: St) S := ev_go i199_17 rfl
theorem i199_18 : insAt 199 18 = some (.invokevirtual 310, 3, (0, 0, 22, 0), 0) := rfl
theorem i199_21 : insAt 199 21 = some (.checkcast 311, 3, (0, 0, 0, 0), 0) := rfl
theorem i199_24 : insAt 199 24 = some (.areturn, 1, (0, 0, 0, 0), 0) := rfl
theorem s199_24 {c : Nat → List AV → SS → Option Out} {l0 l1 l2 : Option AV} {o : OId} {L2 : List (Nat × AV)} {St : List AV} {S : SS} : ev c 199 24 [l0, l1, l2] L2 [aR o] S = some (.inl (some (aR o)), S) := ev_end i199_24 rfl
theorem s199_24N {c : Nat → List AV → SS → Option Out} {l0 l1 l2 : Option AV} {L2 : List (Nat × AV)} {S : SS} : ev c 199 24 [l0, l1, l2] L2 [aN] S = some (.inl (some aN), S) := ev_end i199_24 rfl
theorem m199 {d : Nat} {a0 : OId} {a1 : Int32} {a2 : Int32} {S : SS} : evm (d + 1) 199 [aR a0, aI a1, aI a2] S = ev (evm d) 199 0 [some (aR a0), some (aI a1), some (aI a2)] [] [] S := evm_s (n := 3) rfl (Nat.le_of_ble_eq_true rfl) rfl rfl
/-! java/util/Arrays.copyOfRangeByte([BII)[B -/
theorem i200_0 : insAt 200 0 = some (.iload_n 1, 1, (0, 0, 0, 0), 0) := rfl
theorem s200_0 {c : Nat → List AV → SS → Option Out} {l0 l2 l3 l4 : Option AV} {x : Int32} {L2 : List (Nat × AV)} {St : List AV} {S : SS} : ev c 200 0 [l0, some (aI x), l2, l3, l4] L2 St S = ev c 200 1 [l0, some (aI x), l2, l3, l4] L2 (aI x :: St) S := ev_go i200_0 rfl
theorem i200_1 : insAt 200 1 = some (.iload_n 2, 1, (0, 0, 0, 0), 0) := rfl
theorem s200_1 {c : Nat → List AV → SS → Option Out} {l0 l1 l3 l4 : Option AV} {x : Int32} {L2 : List (Nat × AV)} {St : List AV} {S : SS} : ev c 200 1 [l0, l1, some (aI x), l3, l4] L2 St S = ev c 200 2 [l0, l1, some (aI x), l3, l4] L2 (aI x :: St) S := ev_go i200_1 rfl
theorem i200_2 : insAt 200 2 = some (.invokestatic 343, 3, (201, 2, 0, 0), 0) := rfl
theorem s200_2 {c : Nat → List AV → SS → Option Out} {l0 l1 l2 l3 l4 : Option AV} {a0 : Int32} {a1 : Int32} {L2 : List (Nat × AV)} {S : SS} : ev c 200 2 [l0, l1, l2, l3, l4] L2 [aI a1, aI a0] S = ck (c 201 [aI a0, aI a1] S) (fun v S' => ev c 200 5 [l0, l1, l2, l3, l4] L2 (v.toList ++ []) S') := ev_call i200_2 rfl
theorem i200_5 : insAt 200 5 = some (.iload_n 2, 1, (0, 0, 0, 0), 0) := rfl
theorem s200_5 {c : Nat → List AV → SS → Option Out} {l0 l1 l3 l4 : Option AV} {x : Int32} {L2 : List (Nat × AV)} {St : List AV} {S : SS} : ev c 200 5 [l0, l1, some (aI x), l3, l4] L2 St S = ev c 200 6 [l0, l1, some (aI x), l3, l4] L2 (aI x :: St) S := ev_go i200_5 rfl
theorem i200_6 : insAt 200 6 = some (.iload_n 1, 1, (0, 0, 0, 0), 0) := rfl
theorem s200_6 {c : Nat → List AV → SS → Option Out} {l0 l2 l3 l4 : Option AV} {x : Int32} {L2 : List (Nat × AV)} {St : List AV} {S : SS} : ev c 200 6 [l0, some (aI x), l2, l3, l4] L2 St S = ev c 200 7 [l0, some (aI x), l2, l3, l4] L2 (aI x :: St) S := ev_go i200_6 rfl
theorem i200_7 : insAt 200 7 = some (.isub, 1, (0, 0, 0, 0), 0) := rfl
theorem s200_7 {c : Nat → List AV → SS → Option Out} {l0 l1 l2 l3 l4 : Option AV} {x y : Int32} {L2 : List (Nat × AV)} {St : List AV} {S : SS} : ev c 200 7 [l0, l1, l2, l3, l4] L2 (aI y :: aI x :: St) S = ev c 200 8 [l0, l1, l2, l3, l4] L2 (aI (x - y) :: St) S := ev_go i200_7 rfl
theorem i200_8 : insAt 200 8 = some (.istore_n 3, 1, (0, 0, 0, 0), 0) := rfl
theorem s200_8 {c : Nat → List AV → SS → Option Out} {l0 l1 l2 l3 l4 : Option AV} {x : Int32} {L2 : List (Nat × AV)} {St : List AV} {S : SS} : ev c 200 8 [l0, l1, l2, l3, l4] L2 (aI x :: St) S = ev c 200 9 [l0, l1, l2, some (aI x), l4] (kil L2 3) St S := ev_go i200_8 rfl
theorem i200_9 : insAt 200 9 = some (.iload_n 3, 1, (0, 0, 0, 0), 0) := rfl
theorem s200_9 {c : Nat → List AV → SS → Option Out} {l0 l1 l2 l4 : Option AV} {x : Int32} {L2 : List (Nat × AV)} {St : List AV} {S : SS} : ev c 200 9 [l0, l1, l2, some (aI x), l4] L2 St S = ev c 200 10 [l0, l1, l2, some (aI x), l4] L2 (aI x :: St) S := ev_go i200_9 rfl
theorem i200_10 : insAt 200 10 = some (.newarray .byte, 2, (0, 0, 0, 0), 0) := rfl
theorem i200_12 : insAt 200 12 = some (.astore 4, 2, (0, 0, 0, 0), 0) := rfl
theorem s200_12 {c : Nat → List AV → SS → Option Out} {l0 l1 l2 l3 l4 : Option AV} {o : OId} {L2 : List (Nat × AV)} {St : List AV} {S : SS} : ev c 200 12 [l0, l1, l2, l3, l4] L2 (aR o :: St) S = ev c 200 14 [l0, l1, l2, l3, some (aR o)] (kil L2 4) St S := ev_go i200_12 rfl
theorem i200_14 : insAt 200 14 = some (.aload_n 0, 1, (0, 0, 0, 0), 0) := rfl
theorem s200_14 {c : Nat → List AV → SS → Option Out} {l1 l2 l3 l4 : Option AV} {o : OId} {L2 : List (Nat × AV)} {St : List AV} {S : SS} : ev c 200 14 [some (aR o), l1, l2, l3, l4] L2 St S = ev c 200 15 [some (aR o), l1, l2, l3, l4] L2 (aR o :: St) S := ev_go i200_14 rfl
theorem i200_15 : insAt 200 15 = some (.iload_n 1, 1, (0, 0, 0, 0), 0) := rfl
theorem s200_15 {c : Nat → List AV → SS → Option Out} {l0 l2 l3 l4 : Option AV} {x : Int32} {L2 : List (Nat × AV)} {St : List AV} {S : SS} : ev c 200 15 [l0, some (aI x), l2, l3, l4] L2 St S = ev c 200 16 [l0, some (aI x), l2, l3, l4] L2 (aI x :: St) S := ev_go i200_15 rfl
theorem i200_16 : insAt 200 16 = some (.aload 4, 2, (0, 0, 0, 0), 0) := rfl
theorem s200_16 {c : Nat → List AV → SS → Option Out} {l0 l1 l2 l3 : Option AV} {o : OId} {L2 : List (Nat × AV)} {St : List AV} {S : SS} : ev c 200 16 [l0, l1, l2, l3, some (aR o)] L2 St S = ev c 200 18 [l0, l1, l2, l3, some (aR o)] L2 (aR o :: St) S := ev_go i200_16 rfl
theorem i200_18 : insAt 200 18 = some (.iconst 0, 1, (0, 0, 0, 0), 0) := rfl
theorem s200_18 {c : Nat → List AV → SS → Option Out} {l0 l1 l2 l3 l4 : Option AV} {L2 : List (Nat × AV)} {St : List AV} {S : SS} : ev c 200 18 [l0, l1, l2, l3, l4] L2 St S = ev c 200 19 [l0, l1, l2, l3, l4] L2 (aI 0 :: St) S := ev_go i200_18 rfl
theorem i200_19 : insAt 200 19 = some (.aload_n 0, 1, (0, 0, 0, 0), 0) := rfl
theorem s200_19 {c : Nat → List AV → SS → Option Out} {l1 l2 l3 l4 : Option AV} {o : OId} {L2 : List (Nat × AV)} {St : List AV} {S : SS} : ev c 200 19 [some (aR o), l1, l2, l3, l4] L2 St S = ev c 200 20 [some (aR o), l1, l2, l3, l4] L2 (aR o :: St) S := ev_go i200_19 rfl
theorem i200_20 : insAt 200 20 = some (.arraylength, 1, (0, 0, 0, 0), 0) := rfl
theorem s200_20 {c : Nat → List AV → SS → Option Out} {l0 l1 l2 l3 l4 : Option AV} {o : OId} {L2 : List (Nat × AV)} {St : List AV} {S : SS} : ev c 200 20 [l0, l1, l2, l3, l4] L2 (aR o :: St) S = kN o (fun x => ev c 200 21 [l0, l1, l2, l3, l4] L2 (aI x :: St) S) := ev_alen i200_20
theorem i200_21 : insAt 200 21 = some (.iload_n 1, 1, (0, 0, 0, 0), 0) := rfl
theorem s200_21 {c : Nat → List AV → SS → Option Out} {l0 l2 l3 l4 : Option AV} {x : Int32} {L2 : List (Nat × AV)} {St : List AV} {S : SS} : ev c 200 21 [l0, some (aI x), l2, l3, l4] L2 St S = ev c 200 22 [l0, some (aI x), l2, l3, l4] L2 (aI x :: St) S := ev_go i200_21 rfl
theorem i200_22 : insAt 200 22 = some (.isub, 1, (0, 0, 0, 0), 0) := rfl
theorem s200_22 {c : Nat → List AV → SS → Option Out} {l0 l1 l2 l3 l4 : Option AV} {x y : Int32} {L2 : List (Nat × AV)} {St : List AV} {S : SS} : ev c 200 22 [l0, l1, l2, l3, l4] L2 (aI y :: aI x :: St) S = ev c 200 23 [l0, l1, l2, l3, l4] L2 (aI (x - y) :: St) S := ev_go i200_22 rfl
theorem i200_23 : insAt 200 23 = some (.iload_n 3, 1, (0, 0, 0, 0), 0) := rfl
theorem s200_23 {c : Nat → List AV → SS → Option Out} {l0 l1 l2 l4 : Option AV} {x : Int32} {L2 : List (Nat × AV)} {St : List AV} {S : SS} : ev c 200 23 [l0, l1, l2, some (aI x), l4] L2 St S = ev c 200 24 [l0, l1, l2, some (aI x), l4] L2 (aI x :: St) S := ev_go i200_23 rfl
theorem i200_24 : insAt 200 24 = some (.invokestatic 304, 3, (53, 2, 0, 0), 0) := rfl
theorem s200_24 {c : Nat → List AV → SS → Option Out} {l0 l1 l2 l3 l4 : Option AV} {t0 t1 t2 t3 : AV} {a0 : Int32} {a1 : Int32} {L2 : List (Nat × AV)} {S : SS} : ev c 200 24 [l0, l1, l2, l3, l4] L2 [aI a1, aI a0, t0, t1, t2, t3] S = ck (c 53 [aI a0, aI a1] S) (fun v S' => ev c 200 27 [l0, l1, l2, l3, l4] L2 (v.toList ++ [t0, t1, t2, t3]) S') := ev_call i200_24 rfl
theorem i200_27 : insAt 200 27 = some (.invokestatic 150, 3, (0, 5, 21, 0), 0) := rfl
theorem s200_27 {c : Nat → List AV → SS → Option Out} {l0 l1 l2 l3 l4 : Option AV} {x dp sp : Int32} {d s : OId} {L2 : List (Nat × AV)} {S : SS} : ev c 200 27 [l0, l1, l2, l3, l4] L2 [aI x, aI dp, aR d, aI sp, aR s] S = kA (acp S s sp d dp x) (fun S' => ev c 200 30 [l0, l1, l2, l3, l4] L2 [] S') := ev_acopy rfl i200_27 (by decide)
theorem i200_30 : insAt 200 30 = some (.aload 4, 2, (0, 0, 0, 0), 0) := rfl
theorem s200_30 {c : Nat → List AV → SS → Option Out} {l0 l1 l2 l3 : Option AV} {o : OId} {L2 : List (Nat × AV)} {St : List AV} {S : SS} : ev c 200 30 [l0, l1, l2, l3, some (aR o)] L2 St S = ev c 200 32 [l0, l1, l2, l3, some (aR o)] L2 (aR o :: St) S := ev_go i200_30 rfl
theorem i200_32 : insAt 200 32 = some (.areturn, 1, (0, 0, 0, 0), 0) := rfl
theorem s200_32 {c : Nat → List AV → SS → Option Out} {l0 l1 l2 l3 l4 : Option AV} {o : OId} {L2 : List (Nat × AV)} {St : List AV} {S : SS} : ev c 200 32 [l0, l1, l2, l3, l4] L2 [aR o] S = some (.inl (some (aR o)), S) := ev_end i200_32 rfl
theorem s200_32N {c : Nat → List AV → SS → Option Out} {l0 l1 l2 l3 l4 : Option AV} {L2 : List (Nat × AV)} {S : SS} : ev c 200 32 [l0, l1, l2, l3, l4] L2 [aN] S = some (.inl (some aN), S) := ev_end i200_32 rfl
theorem m200 {d : Nat} {a0 : OId} {a1 : Int32} {a2 : Int32} {S : SS} : evm (d + 1) 200 [aR a0, aI a1, aI a2] S = ev (evm d) 200 0 [some (aR a0), some (aI a1), some (aI a2), none, none] [] [] S := evm_s (n := 5) rfl (Nat.le_of_ble_eq_true rfl) rfl rfl
/-! java/util/Arrays.checkLength(II)V -/
theorem i201_0 : insAt 201 0 = some (.iload_n 1, 1, (0, 0, 0, 0), 0) := rfl
theorem s201_0 {c : Nat → List AV → SS → Option Out} {l0 : Option AV} {x : Int32} {L2 : List (Nat × AV)} {St : List AV} {S : SS} : ev c 201 0 [l0, some (aI x)] L2 St S = ev c 201 1 [l0, some (aI x)] L2 (aI x :: St) S := ev_go i201_0 rfl
theorem i201_1 : insAt 201 1 = some (.iload_n 0, 1, (0, 0, 0, 0), 0) := rfl
theorem s201_1 {c : Nat → List AV → SS → Option Out} {l1 : Option AV} {x : Int32} {L2 : List (Nat × AV)} {St : List AV} {S : SS} : ev c 201 1 [some (aI x), l1] L2 St S = ev c 201 2 [some (aI x), l1] L2 (aI x :: St) S := ev_go i201_1 rfl
theorem i201_2 : insAt 201 2 = some (.if_icmp .ge 35, 3, (0, 0, 0, 0), 0) := rfl
theorem s201_2 {c : Nat → List AV → SS → Option Out} {l0 l1 : Option AV} {x y : Int32} {L2 : List (Nat × AV)} {St : List AV} {S : SS} : ev c 201 2 [l0, l1] L2 (aI y :: aI x :: St) S = if y ≤ x then ev c 201 37 [l0, l1] L2 St S else ev c 201 5 [l0, l1] L2 St S := ev_br i201_2 rfl
theorem i201_5 : insAt 201 5 = some (.new 43, 3, (0, 0, 1, 0), 0) := rfl
theorem s201_5 {c : Nat → List AV → SS → Option Out} {l0 l1 : Option AV} {L2 : List (Nat × AV)} {S : SS} : ev c 201 5 [l0, l1] L2 [] S = some (.inr "java/lang/IllegalArgumentException", bump S 1 6) := ev_end i201_5 rfl
theorem i201_8 : insAt 201 8 = some (.dup, 1, (0, 0, 0, 0), 0) := rfl
theorem s201_8 {c : Nat → List AV → SS → Option Out} {l0 l1 : Option AV} {x : OId} {L2 : List (Nat × AV)} {St : List AV} {S : SS} : ev c 201 8 [l0, l1] L2 (aR x :: St) S = ev c 201 9 [l0, l1] L2 (aR x :: aR x :: St) S := ev_go i201_8 rfl
theorem i201_9 : insAt 201 9 = some (.new 45, 3, (1, 0, 0, 0), 0) := rfl
theorem i201_12 : insAt 201 12 = some (.dup, 1, (0, 0, 0, 0), 0) := rfl
theorem s201_12 {c : Nat → List AV → SS → Option Out} {l0 l1 : Option AV} {x : OId} {L2 : List (Nat × AV)} {St : List AV} {S : SS} : ev c 201 12 [l0, l1] L2 (aR x :: St) S = ev c 201 13 [l0, l1] L2 (aR x :: aR x :: St) S := ev_go i201_12 rfl
theorem i201_13 : insAt 201 13 = some (.invokespecial 47, 3, (8, 0, 5, 1), 0) := rfl
theorem s201_13 {c : Nat → List AV → SS → Option Out} {l0 l1 : Option AV} {t0 t1 t2 : AV} {j t : Nat} {L2 : List (Nat × AV)} {S : SS} : ev c 201 13 [l0, l1] L2 [aR (1, j, t), t0, t1, t2] S = ck (c 8 [aR (1, j, t)] S) (fun v S' => ev c 201 16 [l0, l1] L2 (v.toList ++ [t0, t1, t2]) S') := ev_call i201_13 rfl
theorem i201_16 : insAt 201 16 = some (.iload_n 0, 1, (0, 0, 0, 0), 0) := rfl
theorem s201_16 {c : Nat → List AV → SS → Option Out} {l1 : Option AV} {x : Int32} {L2 : List (Nat × AV)} {St : List AV} {S : SS} : ev c 201 16 [some (aI x), l1] L2 St S = ev c 201 17 [some (aI x), l1] L2 (aI x :: St) S := ev_go i201_16 rfl
theorem i201_17 : insAt 201 17 = some (.invokevirtual 54, 3, (189, 1, 2, 1), 0) := rfl
theorem s201_17 {c : Nat → List AV → SS → Option Out} {l0 l1 : Option AV} {t0 t1 : AV} {a0 : Int32} {j t : Nat} {L2 : List (Nat × AV)} {S : SS} : ev c 201 17 [l0, l1] L2 [aI a0, aR (1, j, t), t0, t1] S = ck (c 189 [aR (1, j, t), aI a0] S) (fun v S' => ev c 201 20 [l0, l1] L2 (v.toList ++ [t0, t1]) S') := ev_call i201_17 rfl
theorem i201_23 : insAt 201 23 = some (.invokevirtual 50, 3, (177, 1, 2, 1), 0) := rfl
theorem s201_23 {c : Nat → List AV → SS → Option Out} {l0 l1 : Option AV} {t0 t1 : AV} {a0 : OId} {j t : Nat} {L2 : List (Nat × AV)} {S : SS} : ev c 201 23 [l0, l1] L2 [aR a0, aR (1, j, t), t0, t1] S = ck (c 177 [aR (1, j, t), aR a0] S) (fun v S' => ev c 201 26 [l0, l1] L2 (v.toList ++ [t0, t1]) S') := ev_call i201_23 rfl
theorem i201_26 : insAt 201 26 = some (.iload_n 1, 1, (0, 0, 0, 0), 0) := rfl
theorem s201_26 {c : Nat → List AV → SS → Option Out} {l0 : Option AV} {x : Int32} {L2 : List (Nat × AV)} {St : List AV} {S : SS} : ev c 201 26 [l0, some (aI x)] L2 St S = ev c 201 27 [l0, some (aI x)] L2 (aI x :: St) S := ev_go i201_26 rfl
theorem i201_27 : insAt 201 27 = some (.invokevirtual 54, 3, (189, 1, 2, 1), 0) := rfl
theorem s201_27 {c : Nat → List AV → SS → Option Out} {l0 l1 : Option AV} {t0 t1 : AV} {a0 : Int32} {j t : Nat} {L2 : List (Nat × AV)} {S : SS} : ev c 201 27 [l0, l1] L2 [aI a0, aR (1, j, t), t0, t1] S = ck (c 189 [aR (1, j, t), aI a0] S) (fun v S' => ev c 201 30 [l0, l1] L2 (v.toList ++ [t0, t1]) S') := ev_call i201_27 rfl
theorem i201_30 : insAt 201 30 = some (.invokevirtual 61, 3, (193, 0, 2, 1), 0) := rfl
theorem s201_30 {c : Nat → List AV → SS → Option Out} {l0 l1 : Option AV} {t0 t1 : AV} {j t : Nat} {L2 : List (Nat × AV)} {S : SS} : ev c 201 30 [l0, l1] L2 [aR (1, j, t), t0, t1] S = ck (c 193 [aR (1, j, t)] S) (fun v S' => ev c 201 33 [l0, l1] L2 (v.toList ++ [t0, t1]) S') := ev_call i201_30 rfl
theorem i201_37 : insAt 201 37 = some (.return_, 1, (0, 0, 0, 0), 0) := rfl
theorem s201_37 {c : Nat → List AV → SS → Option Out} {l0 l1 : Option AV} {L2 : List (Nat × AV)} {St : List AV} {S : SS} : ev c 201 37 [l0, l1] L2 [] S = some (.inl none, S) := ev_end i201_37 rfl
theorem m201 {d : Nat} {a0 : Int32} {a1 : Int32} {S : SS} : evm (d + 1) 201 [aI a0, aI a1] S = ev (evm d) 201 0 [some (aI a0), some (aI a1)] [] [] S := evm_s (n := 2) rfl (Nat.le_of_ble_eq_true rfl) rfl rfl
/-! java/lang/StringBuilder.append(C)Ljava/lang/StringBuilder; -/
theorem i202_0 : insAt 202 0 = some (.aload_n 0, 1, (0, 0, 0, 0), 0) := rfl
theorem s202_0 {c : Nat → List AV → SS → Option Out} {l1 : Option AV} {o : OId} {L2 : List (Nat × AV)} {St : List AV} {S : SS} : ev c 202 0 [some (aR o), l1] L2 St S = ev c 202 1 [some (aR o), l1] L2 (aR o :: St) S := ev_go i202_0 rfl
theorem i202_1 : insAt 202 1 = some (.iload_n 1, 1, (0, 0, 0, 0), 0) := rfl
theorem s202_1 {c : Nat → List AV → SS → Option Out} {l0 : Option AV} {x : Int32} {L2 : List (Nat × AV)} {St : List AV} {S : SS} : ev c 202 1 [l0, some (aI x)] L2 St S = ev c 202 2 [l0, some (aI x)] L2 (aI x :: St) S := ev_go i202_1 rfl
theorem i202_2 : insAt 202 2 = some (.invokespecial 50, 3, (203, 1, 7, 1), 0) := rfl
theorem s202_2 {c : Nat → List AV → SS → Option Out} {l0 l1 : Option AV} {a0 : Int32} {j t : Nat} {L2 : List (Nat × AV)} {S : SS} : ev c 202 2 [l0, l1] L2 [aI a0, aR (1, j, t)] S = ck (c 203 [aR (1, j, t), aI a0] S) (fun v S' => ev c 202 5 [l0, l1] L2 (v.toList ++ []) S') := ev_call i202_2 rfl
theorem i202_5 : insAt 202 5 = some (.pop, 1, (0, 0, 0, 0), 0) := rfl
theorem s202_5 {c : Nat → List AV → SS → Option Out} {l0 l1 : Option AV} {x : OId} {L2 : List (Nat × AV)} {St : List AV} {S : SS} : ev c 202 5 [l0, l1] L2 (aR x :: St) S = ev c 202 6 [l0, l1] L2 (St) S := ev_go i202_5 rfl
theorem i202_6 : insAt 202 6 = some (.aload_n 0, 1, (0, 0, 0, 0), 0) := rfl
theorem s202_6 {c : Nat → List AV → SS → Option Out} {l1 : Option AV} {o : OId} {L2 : List (Nat × AV)} {St : List AV} {S : SS} : ev c 202 6 [some (aR o), l1] L2 St S = ev c 202 7 [some (aR o), l1] L2 (aR o :: St) S := ev_go i202_6 rfl
theorem i202_7 : insAt 202 7 = some (.areturn, 1, (0, 0, 0, 0), 0) := rfl
theorem s202_7 {c : Nat → List AV → SS → Option Out} {l0 l1 : Option AV} {o : OId} {L2 : List (Nat × AV)} {St : List AV} {S : SS} : ev c 202 7 [l0, l1] L2 [aR o] S = some (.inl (some (aR o)), S) := ev_end i202_7 rfl
theorem s202_7N {c : Nat → List AV → SS → Option Out} {l0 l1 : Option AV} {L2 : List (Nat × AV)} {S : SS} : ev c 202 7 [l0, l1] L2 [aN] S = some (.inl (some aN), S) := ev_end i202_7 rfl
theorem m202 {d : Nat} {o : OId} {a0 : Int32} {S : SS} : evm (d + 1) 202 [aR o, aI a0] S = ev (evm d) 202 0 [some (aR o), some (aI a0)] [] [] S := evm_s (n := 2) rfl (Nat.le_of_ble_eq_true rfl) rfl rfl
/-! java/lang/AbstractStringBuilder.append(C)Ljava/lang/AbstractStringBuilder; -/
theorem i203_0 : insAt 203 0 = some (.aload_n 0, 1, (0, 0, 0, 0), 0) := rfl
theorem s203_0 {c : Nat → List AV → SS → Option Out} {l1 : Option AV} {o : OId} {L2 : List (Nat × AV)} {St : List AV} {S : SS} : ev c 203 0 [some (aR o), l1] L2 St S = ev c 203 1 [some (aR o), l1] L2 (aR o :: St) S := ev_go i203_0 rfl
theorem i203_1 : insAt 203 1 = some (.aload_n 0, 1, (0, 0, 0, 0), 0) := rfl
theorem s203_1 {c : Nat → List AV → SS → Option Out} {l1 : Option AV} {o : OId} {L2 : List (Nat × AV)} {St : List AV} {S : SS} : ev c 203 1 [some (aR o), l1] L2 St S = ev c 203 2 [some (aR o), l1] L2 (aR o :: St) S := ev_go i203_1 rfl
theorem i203_2 : insAt 203 2 = some (.getfield 79, 3, (1, 3, 0, 0), 0) := rfl
theorem s203_2 {c : Nat → List AV → SS → Option Out} {l0 l1 : Option AV} {j t : Nat} {L2 : List (Nat × AV)} {St : List AV} {S : SS} : ev c 203 2 [l0, l1] L2 (aR (1, j, t) :: St) S = ev c 203 5 [l0, l1] L2 (aI (S.1 (1, j, t) 3) :: St) S := ev_go i203_2 rfl
theorem i203_5 : insAt 203 5 = some (.iconst 1, 1, (0, 0, 0, 0), 0) := rfl
theorem s203_5 {c : Nat → List AV → SS → Option Out} {l0 l1 : Option AV} {L2 : List (Nat × AV)} {St : List AV} {S : SS} : ev c 203 5 [l0, l1] L2 St S = ev c 203 6 [l0, l1] L2 (aI 1 :: St) S := ev_go i203_5 rfl
theorem i203_6 : insAt 203 6 = some (.iadd, 1, (0, 0, 0, 0), 0) := rfl
theorem s203_6 {c : Nat → List AV → SS → Option Out} {l0 l1 : Option AV} {x y : Int32} {L2 : List (Nat × AV)} {St : List AV} {S : SS} : ev c 203 6 [l0, l1] L2 (aI y :: aI x :: St) S = ev c 203 7 [l0, l1] L2 (aI (x + y) :: St) S := ev_go i203_6 rfl
theorem i203_7 : insAt 203 7 = some (.invokevirtual 100, 3, (179, 1, 4, 1), 0) := rfl
theorem s203_7 {c : Nat → List AV → SS → Option Out} {l0 l1 : Option AV} {a0 : Int32} {j t : Nat} {L2 : List (Nat × AV)} {S : SS} : ev c 203 7 [l0, l1] L2 [aI a0, aR (1, j, t)] S = ck (c 179 [aR (1, j, t), aI a0] S) (fun v S' => ev c 203 10 [l0, l1] L2 (v.toList ++ []) S') := ev_call i203_7 rfl
theorem i203_10 : insAt 203 10 = some (.aload_n 0, 1, (0, 0, 0, 0), 0) := rfl
theorem s203_10 {c : Nat → List AV → SS → Option Out} {l1 : Option AV} {o : OId} {L2 : List (Nat × AV)} {St : List AV} {S : SS} : ev c 203 10 [some (aR o), l1] L2 St S = ev c 203 11 [some (aR o), l1] L2 (aR o :: St) S := ev_go i203_10 rfl
theorem i203_11 : insAt 203 11 = some (.invokevirtual 83, 3, (183, 0, 4, 1), 0) := rfl
theorem s203_11 {c : Nat → List AV → SS → Option Out} {l0 l1 : Option AV} {j t : Nat} {L2 : List (Nat × AV)} {S : SS} : ev c 203 11 [l0, l1] L2 [aR (1, j, t)] S = ck (c 183 [aR (1, j, t)] S) (fun v S' => ev c 203 14 [l0, l1] L2 (v.toList ++ []) S') := ev_call i203_11 rfl
theorem i203_14 : insAt 203 14 = some (.ifCond .eq 31, 3, (0, 0, 0, 0), 0) := rfl
theorem s203_14 {c : Nat → List AV → SS → Option Out} {l0 l1 : Option AV} {x : Int32} {L2 : List (Nat × AV)} {St : List AV} {S : SS} : ev c 203 14 [l0, l1] L2 (aI x :: St) S = if x = 0 then ev c 203 45 [l0, l1] L2 St S else ev c 203 17 [l0, l1] L2 St S := ev_br i203_14 rfl
theorem i203_17 : insAt 203 17 = some (.iload_n 1, 1, (0, 0, 0, 0), 0) := rfl
theorem s203_17 {c : Nat → List AV → SS → Option Out} {l0 : Option AV} {x : Int32} {L2 : List (Nat × AV)} {St : List AV} {S : SS} : ev c 203 17 [l0, some (aI x)] L2 St S = ev c 203 18 [l0, some (aI x)] L2 (aI x :: St) S := ev_go i203_17 rfl
theorem i203_18 : insAt 203 18 = some (.invokestatic 191, 3, (204, 1, 0, 0), 0) := rfl
theorem s203_18 {c : Nat → List AV → SS → Option Out} {l0 l1 : Option AV} {a0 : Int32} {L2 : List (Nat × AV)} {S : SS} : ev c 203 18 [l0, l1] L2 [aI a0] S = ck (c 204 [aI a0] S) (fun v S' => ev c 203 21 [l0, l1] L2 (v.toList ++ []) S') := ev_call i203_18 rfl
theorem i203_21 : insAt 203 21 = some (.ifCond .eq 24, 3, (0, 0, 0, 0), 0) := rfl
theorem s203_21 {c : Nat → List AV → SS → Option Out} {l0 l1 : Option AV} {x : Int32} {L2 : List (Nat × AV)} {St : List AV} {S : SS} : ev c 203 21 [l0, l1] L2 (aI x :: St) S = if x = 0 then ev c 203 45 [l0, l1] L2 St S else ev c 203 24 [l0, l1] L2 St S := ev_br i203_21 rfl
theorem i203_24 : insAt 203 24 = some (.aload_n 0, 1, (0, 0, 0, 0), 0) := rfl
theorem s203_24 {c : Nat → List AV → SS → Option Out} {l1 : Option AV} {o : OId} {L2 : List (Nat × AV)} {St : List AV} {S : SS} : ev c 203 24 [some (aR o), l1] L2 St S = ev c 203 25 [some (aR o), l1] L2 (aR o :: St) S := ev_go i203_24 rfl
theorem i203_25 : insAt 203 25 = some (.getfield 15, 3, (1, 0, 0, 0), 0) := rfl
theorem s203_25 {c : Nat → List AV → SS → Option Out} {l0 l1 : Option AV} {j t : Nat} {L2 : List (Nat × AV)} {St : List AV} {S : SS} : ev c 203 25 [l0, l1] L2 (aR (1, j, t) :: St) S = ev c 203 28 [l0, l1] L2 (S.2.1 (1, j, t) 0 :: St) S := ev_go i203_25 rfl
theorem i203_28 : insAt 203 28 = some (.aload_n 0, 1, (0, 0, 0, 0), 0) := rfl
theorem s203_28 {c : Nat → List AV → SS → Option Out} {l1 : Option AV} {o : OId} {L2 : List (Nat × AV)} {St : List AV} {S : SS} : ev c 203 28 [some (aR o), l1] L2 St S = ev c 203 29 [some (aR o), l1] L2 (aR o :: St) S := ev_go i203_28 rfl
theorem i203_29 : insAt 203 29 = some (.dup, 1, (0, 0, 0, 0), 0) := rfl
theorem s203_29 {c : Nat → List AV → SS → Option Out} {l0 l1 : Option AV} {x : OId} {L2 : List (Nat × AV)} {St : List AV} {S : SS} : ev c 203 29 [l0, l1] L2 (aR x :: St) S = ev c 203 30 [l0, l1] L2 (aR x :: aR x :: St) S := ev_go i203_29 rfl
theorem i203_30 : insAt 203 30 = some (.getfield 79, 3, (1, 3, 0, 0), 0) := rfl
theorem s203_30 {c : Nat → List AV → SS → Option Out} {l0 l1 : Option AV} {j t : Nat} {L2 : List (Nat × AV)} {St : List AV} {S : SS} : ev c 203 30 [l0, l1] L2 (aR (1, j, t) :: St) S = ev c 203 33 [l0, l1] L2 (aI (S.1 (1, j, t) 3) :: St) S := ev_go i203_30 rfl
theorem i203_33 : insAt 203 33 = some (.dup_x1, 1, (0, 0, 0, 0), 0) := rfl
theorem s203_33 {c : Nat → List AV → SS → Option Out} {l0 l1 : Option AV} {x : Int32} {y : OId} {L2 : List (Nat × AV)} {St : List AV} {S : SS} : ev c 203 33 [l0, l1] L2 (aI x :: aR y :: St) S = ev c 203 34 [l0, l1] L2 (aI x :: aR y :: aI x :: St) S := ev_go i203_33 rfl
theorem i203_34 : insAt 203 34 = some (.iconst 1, 1, (0, 0, 0, 0), 0) := rfl
theorem s203_34 {c : Nat → List AV → SS → Option Out} {l0 l1 : Option AV} {L2 : List (Nat × AV)} {St : List AV} {S : SS} : ev c 203 34 [l0, l1] L2 St S = ev c 203 35 [l0, l1] L2 (aI 1 :: St) S := ev_go i203_34 rfl
theorem i203_35 : insAt 203 35 = some (.iadd, 1, (0, 0, 0, 0), 0) := rfl
theorem s203_35 {c : Nat → List AV → SS → Option Out} {l0 l1 : Option AV} {x y : Int32} {L2 : List (Nat × AV)} {St : List AV} {S : SS} : ev c 203 35 [l0, l1] L2 (aI y :: aI x :: St) S = ev c 203 36 [l0, l1] L2 (aI (x + y) :: St) S := ev_go i203_35 rfl
theorem i203_36 : insAt 203 36 = some (.putfield 79, 3, (1, 3, 0, 0), 0) := rfl
theorem s203_36 {c : Nat → List AV → SS → Option Out} {l0 l1 : Option AV} {j t : Nat} {x : Int32} {L2 : List (Nat × AV)} {St : List AV} {S : SS} : ev c 203 36 [l0, l1] L2 (aI x :: aR (1, j, t) :: St) S = ev c 203 39 [l0, l1] L2 St (setI S.1 (1, j, t) 3 x, S.2) := ev_go i203_36 rfl
theorem i203_39 : insAt 203 39 = some (.iload_n 1, 1, (0, 0, 0, 0), 0) := rfl
theorem s203_39 {c : Nat → List AV → SS → Option Out} {l0 : Option AV} {x : Int32} {L2 : List (Nat × AV)} {St : List AV} {S : SS} : ev c 203 39 [l0, some (aI x)] L2 St S = ev c 203 40 [l0, some (aI x)] L2 (aI x :: St) S := ev_go i203_39 rfl
theorem i203_40 : insAt 203 40 = some (.i2b, 1, (0, 0, 0, 0), 0) := rfl
theorem s203_40 {c : Nat → List AV → SS → Option Out} {l0 l1 : Option AV} {x : Int32} {L2 : List (Nat × AV)} {St : List AV} {S : SS} : ev c 203 40 [l0, l1] L2 (aI x :: St) S = ev c 203 41 [l0, l1] L2 (aI (by8 x) :: St) S := ev_go i203_40 rfl
theorem i203_41 : insAt 203 41 = some (.bastore, 1, (0, 0, 0, 0), 0) := rfl
theorem s203_41 {c : Nat → List AV → SS → Option Out} {l0 l1 : Option AV} {x i : Int32} {o : OId} {L2 : List (Nat × AV)} {St : List AV} {S : SS} : ev c 203 41 [l0, l1] L2 (aI x :: aI i :: aR o :: St) S = kBw o i x (ev c 203 42 [l0, l1] L2 St (setI S.1 o i.toNatClampNeg x, S.2)) := ev_bastore i203_41
theorem i203_42 : insAt 203 42 = some (.goto 33, 3, (0, 0, 0, 0), 0) := rfl
theorem s203_42 {c : Nat → List AV → SS → Option Out} {l0 l1 : Option AV} {L2 : List (Nat × AV)} {St : List AV} {S : SS} : ev c 203 42 [l0, l1] L2 St S = ev c 203 75 [l0, l1] L2 St S := ev_go i203_42 rfl
theorem i203_45 : insAt 203 45 = some (.aload_n 0, 1, (0, 0, 0, 0), 0) := rfl
theorem s203_45 {c : Nat → List AV → SS → Option Out} {l1 : Option AV} {o : OId} {L2 : List (Nat × AV)} {St : List AV} {S : SS} : ev c 203 45 [some (aR o), l1] L2 St S = ev c 203 46 [some (aR o), l1] L2 (aR o :: St) S := ev_go i203_45 rfl
theorem i203_46 : insAt 203 46 = some (.invokevirtual 83, 3, (183, 0, 4, 1), 0) := rfl
theorem s203_46 {c : Nat → List AV → SS → Option Out} {l0 l1 : Option AV} {j t : Nat} {L2 : List (Nat × AV)} {S : SS} : ev c 203 46 [l0, l1] L2 [aR (1, j, t)] S = ck (c 183 [aR (1, j, t)] S) (fun v S' => ev c 203 49 [l0, l1] L2 (v.toList ++ []) S') := ev_call i203_46 rfl
theorem i203_49 : insAt 203 49 = some (.ifCond .eq 7, 3, (0, 0, 0, 0), 0) := rfl
theorem s203_49 {c : Nat → List AV → SS → Option Out} {l0 l1 : Option AV} {x : Int32} {L2 : List (Nat × AV)} {St : List AV} {S : SS} : ev c 203 49 [l0, l1] L2 (aI x :: St) S = if x = 0 then ev c 203 56 [l0, l1] L2 St S else ev c 203 52 [l0, l1] L2 St S := ev_br i203_49 rfl
theorem i203_52 : insAt 203 52 = some (.aload_n 0, 1, (0, 0, 0, 0), 0) := rfl
theorem s203_52 {c : Nat → List AV → SS → Option Out} {l1 : Option AV} {o : OId} {L2 : List (Nat × AV)} {St : List AV} {S : SS} : ev c 203 52 [some (aR o), l1] L2 St S = ev c 203 53 [some (aR o), l1] L2 (aR o :: St) S := ev_go i203_52 rfl
theorem i203_56 : insAt 203 56 = some (.aload_n 0, 1, (0, 0, 0, 0), 0) := rfl
theorem s203_56 {c : Nat → List AV → SS → Option Out} {l1 : Option AV} {o : OId} {L2 : List (Nat × AV)} {St : List AV} {S : SS} : ev c 203 56 [some (aR o), l1] L2 St S = ev c 203 57 [some (aR o), l1] L2 (aR o :: St) S := ev_go i203_56 rfl
theorem i203_57 : insAt 203 57 = some (.getfield 15, 3, (1, 0, 0, 0), 0) := rfl
theorem s203_57 {c : Nat → List AV → SS → Option Out} {l0 l1 : Option AV} {j t : Nat} {L2 : List (Nat × AV)} {St : List AV} {S : SS} : ev c 203 57 [l0, l1] L2 (aR (1, j, t) :: St) S = ev c 203 60 [l0, l1] L2 (S.2.1 (1, j, t) 0 :: St) S := ev_go i203_57 rfl
theorem i203_60 : insAt 203 60 = some (.aload_n 0, 1, (0, 0, 0, 0), 0) := rfl
theorem s203_60 {c : Nat → List AV → SS → Option Out} {l1 : Option AV} {o : OId} {L2 : List (Nat × AV)} {St : List AV} {S : SS} : ev c 203 60 [some (aR o), l1] L2 St S = ev c 203 61 [some (aR o), l1] L2 (aR o :: St) S := ev_go i203_60 rfl
theorem i203_61 : insAt 203 61 = some (.dup, 1, (0, 0, 0, 0), 0) := rfl
theorem s203_61 {c : Nat → List AV → SS → Option Out} {l0 l1 : Option AV} {x : OId} {L2 : List (Nat × AV)} {St : List AV} {S : SS} : ev c 203 61 [l0, l1] L2 (aR x :: St) S = ev c 203 62 [l0, l1] L2 (aR x :: aR x :: St) S := ev_go i203_61 rfl
theorem i203_62 : insAt 203 62 = some (.getfield 79, 3, (1, 3, 0, 0), 0) := rfl
theorem s203_62 {c : Nat → List AV → SS → Option Out} {l0 l1 : Option AV} {j t : Nat} {L2 : List (Nat × AV)} {St : List AV} {S : SS} : ev c 203 62 [l0, l1] L2 (aR (1, j, t) :: St) S = ev c 203 65 [l0, l1] L2 (aI (S.1 (1, j, t) 3) :: St) S := ev_go i203_62 rfl
theorem i203_65 : insAt 203 65 = some (.dup_x1, 1, (0, 0, 0, 0), 0) := rfl
theorem s203_65 {c : Nat → List AV → SS → Option Out} {l0 l1 : Option AV} {x : Int32} {y : OId} {L2 : List (Nat × AV)} {St : List AV} {S : SS} : ev c 203 65 [l0, l1] L2 (aI x :: aR y :: St) S = ev c 203 66 [l0, l1] L2 (aI x :: aR y :: aI x :: St) S := ev_go i203_65 rfl
theorem i203_66 : insAt 203 66 = some (.iconst 1, 1, (0, 0, 0, 0), 0) := rfl
theorem s203_66 {c : Nat → List AV → SS → Option Out} {l0 l1 : Option AV} {L2 : List (Nat × AV)} {St : List AV} {S : SS} : ev c 203 66 [l0, l1] L2 St S = ev c 203 67 [l0, l1] L2 (aI 1 :: St) S := ev_go i203_66 rfl
theorem i203_67 : insAt 203 67 = some (.iadd, 1, (0, 0, 0, 0), 0) := rfl
theorem s203_67 {c : Nat → List AV → SS → Option Out} {l0 l1 : Option AV} {x y : Int32} {L2 : List (Nat × AV)} {St : List AV} {S : SS} : ev c 203 67 [l0, l1] L2 (aI y :: aI x :: St) S = ev c 203 68 [l0, l1] L2 (aI (x + y) :: St) S := ev_go i203_67 rfl
theorem i203_68 : insAt 203 68 = some (.putfield 79, 3, (1, 3, 0, 0), 0) := rfl
theorem s203_68 {c : Nat → List AV → SS → Option Out} {l0 l1 : Option AV} {j t : Nat} {x : Int32} {L2 : List (Nat × AV)} {St : List AV} {S : SS} : ev c 203 68 [l0, l1] L2 (aI x :: aR (1, j, t) :: St) S = ev c 203 71 [l0, l1] L2 St (setI S.1 (1, j, t) 3 x, S.2) := ev_go i203_68 rfl
theorem i203_71 : insAt 203 71 = some (.iload_n 1, 1, (0, 0, 0, 0), 0) := rfl
theorem s203_71 {c : Nat → List AV → SS → Option Out} {l0 : Option AV} {x : Int32} {L2 : List (Nat × AV)} {St : List AV} {S : SS} : ev c 203 71 [l0, some (aI x)] L2 St S = ev c 203 72 [l0, some (aI x)] L2 (aI x :: St) S := ev_go i203_71 rfl
theorem i203_75 : insAt 203 75 = some (.aload_n 0, 1, (0, 0, 0, 0), 0) := rfl
theorem s203_75 {c : Nat → List AV → SS → Option Out} {l1 : Option AV} {o : OId} {L2 : List (Nat × AV)} {St : List AV} {S : SS} : ev c 203 75 [some (aR o), l1] L2 St S = ev c 203 76 [some (aR o), l1] L2 (aR o :: St) S := ev_go i203_75 rfl
theorem i203_76 : insAt 203 76 = some (.areturn, 1, (0, 0, 0, 0), 0) := rfl
theorem s203_76 {c : Nat → List AV → SS → Option Out} {l0 l1 : Option AV} {o : OId} {L2 : List (Nat × AV)} {St : List AV} {S : SS} : ev c 203 76 [l0, l1] L2 [aR o] S = some (.inl (some (aR o)), S) := ev_end i203_76 rfl
theorem s203_76N {c : Nat → List AV → SS → Option Out} {l0 l1 : Option AV} {L2 : List (Nat × AV)} {S : SS} : ev c 203 76 [l0, l1] L2 [aN] S = some (.inl (some aN), S) := ev_end i203_76 rfl
theorem m203 {d : Nat} {o : OId} {a0 : Int32} {S : SS} : evm (d + 1) 203 [aR o, aI a0] S = ev (evm d) 203 0 [some (aR o), some (aI a0)] [] [] S := evm_s (n := 2) rfl (Nat.le_of_ble_eq_true rfl) rfl rfl
/-! java/lang/StringLatin1.canEncode(C)Z -/
theorem i204_0 : insAt 204 0 = some (.iload_n 0, 1, (0, 0, 0, 0), 0) := rfl
theorem s204_0 {c : Nat → List AV → SS → Option Out} {x : Int32} {L2 : List (Nat × AV)} {St : List AV} {S : SS} : ev c 204 0 [some (aI x)] L2 St S = ev c 204 1 [some (aI x)] L2 (aI x :: St) S := ev_go i204_0 rfl
theorem i204_1 : insAt 204 1 = some (.sipush 255, 3, (0, 0, 0, 0), 0) := rfl
theorem s204_1 {c : Nat → List AV → SS → Option Out} {l0 : Option AV} {L2 : List (Nat × AV)} {St : List AV} {S : SS} : ev c 204 1 [l0] L2 St S = ev c 204 4 [l0] L2 (aI 255 :: St) S := ev_go i204_1 rfl
theorem i204_4 : insAt 204 4 = some (.if_icmp .gt 7, 3, (0, 0, 0, 0), 0) := rfl
theorem s204_4 {c : Nat → List AV → SS → Option Out} {l0 : Option AV} {x y : Int32} {L2 : List (Nat × AV)} {St : List AV} {S : SS} : ev c 204 4 [l0] L2 (aI y :: aI x :: St) S = if y < x then ev c 204 11 [l0] L2 St S else ev c 204 7 [l0] L2 St S := ev_br i204_4 rfl
theorem i204_7 : insAt 204 7 = some (.iconst 1, 1, (0, 0, 0, 0), 0) := rfl
theorem s204_7 {c : Nat → List AV → SS → Option Out} {l0 : Option AV} {L2 : List (Nat × AV)} {St : List AV} {S : SS} : ev c 204 7 [l0] L2 St S = ev c 204 8 [l0] L2 (aI 1 :: St) S := ev_go i204_7 rfl
theorem i204_8 : insAt 204 8 = some (.goto 4, 3, (0, 0, 0, 0), 0) := rfl
theorem s204_8 {c : Nat → List AV → SS → Option Out} {l0 : Option AV} {L2 : List (Nat × AV)} {St : List AV} {S : SS} : ev c 204 8 [l0] L2 St S = ev c 204 12 [l0] L2 St S := ev_go i204_8 rfl
theorem i204_11 : insAt 204 11 = some (.iconst 0, 1, (0, 0, 0, 0), 0) := rfl
theorem s204_11 {c : Nat → List AV → SS → Option Out} {l0 : Option AV} {L2 : List (Nat × AV)} {St : List AV} {S : SS} : ev c 204 11 [l0] L2 St S = ev c 204 12 [l0] L2 (aI 0 :: St) S := ev_go i204_11 rfl
theorem i204_12 : insAt 204 12 = some (.ireturn, 1, (0, 0, 0, 0), 0) := rfl
theorem s204_12 {c : Nat → List AV → SS → Option Out} {l0 : Option AV} {x : Int32} {L2 : List (Nat × AV)} {St : List AV} {S : SS} : ev c 204 12 [l0] L2 [aI x] S = if x = 0 ∨ x = 1 then some (.inl (some (aI x)), S) else none := ev_rt i204_12 rfl
theorem m204 {d : Nat} {a0 : Int32} {S : SS} : evm (d + 1) 204 [aI a0] S = ev (evm d) 204 0 [some (aI a0)] [] [] S := evm_s (n := 1) rfl (Nat.le_of_ble_eq_true rfl) rfl rfl
/-! java/lang/String.checkIndex(II)V -/
theorem i205_0 : insAt 205 0 = some (.iload_n 0, 1, (0, 0, 0, 0), 0) := rfl
theorem s205_0 {c : Nat → List AV → SS → Option Out} {l1 : Option AV} {x : Int32} {L2 : List (Nat × AV)} {St : List AV} {S : SS} : ev c 205 0 [some (aI x), l1] L2 St S = ev c 205 1 [some (aI x), l1] L2 (aI x :: St) S := ev_go i205_0 rfl
theorem i205_1 : insAt 205 1 = some (.iload_n 1, 1, (0, 0, 0, 0), 0) := rfl
theorem s205_1 {c : Nat → List AV → SS → Option Out} {l0 : Option AV} {x : Int32} {L2 : List (Nat × AV)} {St : List AV} {S : SS} : ev c 205 1 [l0, some (aI x)] L2 St S = ev c 205 2 [l0, some (aI x)] L2 (aI x :: St) S := ev_go i205_1 rfl
theorem i205_2 : insAt 205 2 = some (.getstatic 1053, 3, (3, 0, 0, 0), 0) := rfl
theorem s205_2 {c : Nat → List AV → SS → Option Out} {l0 l1 : Option AV} {L2 : List (Nat × AV)} {St : List AV} {S : SS} : ev c 205 2 [l0, l1] L2 St S = ev c 205 5 [l0, l1] L2 (aR (48, 0, 0) :: St) S := ev_go i205_2 rfl
theorem i205_5 : insAt 205 5 = some (.invokestatic 1059, 3, (206, 3, 0, 0), 0) := rfl
theorem s205_5 {c : Nat → List AV → SS → Option Out} {l0 l1 : Option AV} {a0 : Int32} {a1 : Int32} {a2 : OId} {L2 : List (Nat × AV)} {S : SS} : ev c 205 5 [l0, l1] L2 [aR a2, aI a1, aI a0] S = ck (c 206 [aI a0, aI a1, aR a2] S) (fun v S' => ev c 205 8 [l0, l1] L2 (v.toList ++ []) S') := ev_call i205_5 rfl
theorem i205_8 : insAt 205 8 = some (.pop, 1, (0, 0, 0, 0), 0) := rfl
theorem s205_8 {c : Nat → List AV → SS → Option Out} {l0 l1 : Option AV} {x : Int32} {L2 : List (Nat × AV)} {St : List AV} {S : SS} : ev c 205 8 [l0, l1] L2 (aI x :: St) S = ev c 205 9 [l0, l1] L2 (St) S := ev_go i205_8 rfl
theorem i205_9 : insAt 205 9 = some (.return_, 1, (0, 0, 0, 0), 0) := rfl
theorem s205_9 {c : Nat → List AV → SS → Option Out} {l0 l1 : Option AV} {L2 : List (Nat × AV)} {St : List AV} {S : SS} : ev c 205 9 [l0, l1] L2 [] S = some (.inl none, S) := ev_end i205_9 rfl
theorem m205 {d : Nat} {a0 : Int32} {a1 : Int32} {S : SS} : evm (d + 1) 205 [aI a0, aI a1] S = ev (evm d) 205 0 [some (aI a0), some (aI a1)] [] [] S := evm_s (n := 2) rfl (Nat.le_of_ble_eq_true rfl) rfl rfl
/-! jdk/internal/util/Preconditions.checkIndex(IILjava/util/function/BiFunction;)I -/
theorem i206_0 : insAt 206 0 = some (.iload_n 0, 1, (0, 0, 0, 0), 0) := rfl
theorem s206_0 {c : Nat → List AV → SS → Option Out} {l1 l2 : Option AV} {x : Int32} {L2 : List (Nat × AV)} {St : List AV} {S : SS} : ev c 206 0 [some (aI x), l1, l2] L2 St S = ev c 206 1 [some (aI x), l1, l2] L2 (aI x :: St) S := ev_go i206_0 rfl
theorem i206_1 : insAt 206 1 = some (.ifCond .lt 8, 3, (0, 0, 0, 0), 0) := rfl
theorem s206_1 {c : Nat → List AV → SS → Option Out} {l0 l1 l2 : Option AV} {x : Int32} {L2 : List (Nat × AV)} {St : List AV} {S : SS} : ev c 206 1 [l0, l1, l2] L2 (aI x :: St) S = if x < 0 then ev c 206 9 [l0, l1, l2] L2 St S else ev c 206 4 [l0, l1, l2] L2 St S := ev_br i206_1 rfl
theorem i206_4 : insAt 206 4 = some (.iload_n 0, 1, (0, 0, 0, 0), 0) := rfl
theorem s206_4 {c : Nat → List AV → SS → Option Out} {l1 l2 : Option AV} {x : Int32} {L2 : List (Nat × AV)} {St : List AV} {S : SS} : ev c 206 4 [some (aI x), l1, l2] L2 St S = ev c 206 5 [some (aI x), l1, l2] L2 (aI x :: St) S := ev_go i206_4 rfl
theorem i206_5 : insAt 206 5 = some (.iload_n 1, 1, (0, 0, 0, 0), 0) := rfl
theorem s206_5 {c : Nat → List AV → SS → Option Out} {l0 l2 : Option AV} {x : Int32} {L2 : List (Nat × AV)} {St : List AV} {S : SS} : ev c 206 5 [l0, some (aI x), l2] L2 St S = ev c 206 6 [l0, some (aI x), l2] L2 (aI x :: St) S := ev_go i206_5 rfl
theorem i206_6 : insAt 206 6 = some (.if_icmp .lt 10, 3, (0, 0, 0, 0), 0) := rfl
theorem s206_6 {c : Nat → List AV → SS → Option Out} {l0 l1 l2 : Option AV} {x y : Int32} {L2 : List (Nat × AV)} {St : List AV} {S : SS} : ev c 206 6 [l0, l1, l2] L2 (aI y :: aI x :: St) S = if x < y then ev c 206 16 [l0, l1, l2] L2 St S else ev c 206 9 [l0, l1, l2] L2 St S := ev_br i206_6 rfl
theorem i206_9 : insAt 206 9 = some (.aload_n 2, 1, (0, 0, 0, 0), 0) := rfl
theorem s206_9 {c : Nat → List AV → SS → Option Out} {l0 l1 : Option AV} {o : OId} {L2 : List (Nat × AV)} {St : List AV} {S : SS} : ev c 206 9 [l0, l1, some (aR o)] L2 St S = ev c 206 10 [l0, l1, some (aR o)] L2 (aR o :: St) S := ev_go i206_9 rfl
theorem i206_10 : insAt 206 10 = some (.iload_n 0, 1, (0, 0, 0, 0), 0) := rfl
theorem s206_10 {c : Nat → List AV → SS → Option Out} {l1 l2 : Option AV} {x : Int32} {L2 : List (Nat × AV)} {St : List AV} {S : SS} : ev c 206 10 [some (aI x), l1, l2] L2 St S = ev c 206 11 [some (aI x), l1, l2] L2 (aI x :: St) S := ev_go i206_10 rfl
theorem i206_11 : insAt 206 11 = some (.iload_n 1, 1, (0, 0, 0, 0), 0) := rfl
theorem s206_11 {c : Nat → List AV → SS → Option Out} {l0 l2 : Option AV} {x : Int32} {L2 : List (Nat × AV)} {St : List AV} {S : SS} : ev c 206 11 [l0, some (aI x), l2] L2 St S = ev c 206 12 [l0, some (aI x), l2] L2 (aI x :: St) S := ev_go i206_11 rfl
theorem i206_16 : insAt 206 16 = some (.iload_n 0, 1, (0, 0, 0, 0), 0) := rfl
theorem s206_16 {c : Nat → List AV → SS → Option Out} {l1 l2 : Option AV} {x : Int32} {L2 : List (Nat × AV)} {St : List AV} {S : SS} : ev c 206 16 [some (aI x), l1, l2] L2 St S = ev c 206 17 [some (aI x), l1, l2] L2 (aI x :: St) S := ev_go i206_16 rfl
theorem i206_17 : insAt 206 17 = some (.ireturn, 1, (0, 0, 0, 0), 0) := rfl
theorem s206_17 {c : Nat → List AV → SS → Option Out} {l0 l1 l2 : Option AV} {x : Int32} {L2 : List (Nat × AV)} {St : List AV} {S : SS} : ev c 206 17 [l0, l1, l2] L2 [aI x] S = some (.inl (some (aI x)), S) := ev_end i206_17 rfl
theorem m206 {d : Nat} {a0 : Int32} {a1 : Int32} {a2 : OId} {S : SS} : evm (d + 1) 206 [aI a0, aI a1, aR a2] S = ev (evm d) 206 0 [some (aI a0), some (aI a1), some (aR a2)] [] [] S := evm_s (n := 3) rfl (Nat.le_of_ble_eq_true rfl) rfl rfl
/-! java/lang/StringBuilder.charAt(I)C -/
theorem i209_0 : insAt 209 0 = some (.aload_n 0, 1, (0, 0, 0, 0), 0) := rfl
theorem s209_0 {c : Nat → List AV → SS → Option Out} {l1 : Option AV} {o : OId} {L2 : List (Nat × AV)} {St : List AV} {S : SS} : ev c 209 0 [some (aR o), l1] L2 St S = ev c 209 1 [some (aR o), l1] L2 (aR o :: St) S := ev_go i209_0 rfl
theorem i209_1 : insAt 209 1 = some (.iload_n 1, 1, (0, 0, 0, 0), 0) := rfl
theorem s209_1 {c : Nat → List AV → SS → Option Out} {l0 : Option AV} {x : Int32} {L2 : List (Nat × AV)} {St : List AV} {S : SS} : ev c 209 1 [l0, some (aI x)] L2 St S = ev c 209 2 [l0, some (aI x)] L2 (aI x :: St) S := ev_go i209_1 rfl
theorem i209_2 : insAt 209 2 = some (.invokespecial 329, 3, (210, 1, 7, 1), 0) := rfl
theorem s209_2 {c : Nat → List AV → SS → Option Out} {l0 l1 : Option AV} {a0 : Int32} {j t : Nat} {L2 : List (Nat × AV)} {S : SS} : ev c 209 2 [l0, l1] L2 [aI a0, aR (1, j, t)] S = ck (c 210 [aR (1, j, t), aI a0] S) (fun v S' => ev c 209 5 [l0, l1] L2 (v.toList ++ []) S') := ev_call i209_2 rfl
theorem i209_5 : insAt 209 5 = some (.ireturn, 1, (0, 0, 0, 0), 0) := rfl
theorem s209_5 {c : Nat → List AV → SS → Option Out} {l0 l1 : Option AV} {x : Int32} {L2 : List (Nat × AV)} {St : List AV} {S : SS} : ev c 209 5 [l0, l1] L2 [aI x] S = if (x.toUInt32 % 65536).toInt32 = x then some (.inl (some (aI x)), S) else none := ev_rt i209_5 rfl
theorem m209 {d : Nat} {o : OId} {a0 : Int32} {S : SS} : evm (d + 1) 209 [aR o, aI a0] S = ev (evm d) 209 0 [some (aR o), some (aI a0)] [] [] S := evm_s (n := 2) rfl (Nat.le_of_ble_eq_true rfl) rfl rfl
/-! java/lang/AbstractStringBuilder.charAt(I)C -/
theorem i210_0 : insAt 210 0 = some (.aload_n 0, 1, (0, 0, 0, 0), 0) := rfl
theorem s210_0 {c : Nat → List AV → SS → Option Out} {l1 l2 l3 l4 : Option AV} {o : OId} {L2 : List (Nat × AV)} {St : List AV} {S : SS} : ev c 210 0 [some (aR o), l1, l2, l3, l4] L2 St S = ev c 210 1 [some (aR o), l1, l2, l3, l4] L2 (aR o :: St) S := ev_go i210_0 rfl
theorem i210_1 : insAt 210 1 = some (.getfield 22, 3, (1, 1, 0, 0), 0) := rfl
theorem s210_1 {c : Nat → List AV → SS → Option Out} {l0 l1 l2 l3 l4 : Option AV} {j t : Nat} {L2 : List (Nat × AV)} {St : List AV} {S : SS} : ev c 210 1 [l0, l1, l2, l3, l4] L2 (aR (1, j, t) :: St) S = ev c 210 4 [l0, l1, l2, l3, l4] L2 (aI (by8 (S.1 (1, j, t) 1)) :: St) S := ev_go i210_1 rfl
theorem i210_4 : insAt 210 4 = some (.istore_n 2, 1, (0, 0, 0, 0), 0) := rfl
theorem s210_4 {c : Nat → List AV → SS → Option Out} {l0 l1 l2 l3 l4 : Option AV} {x : Int32} {L2 : List (Nat × AV)} {St : List AV} {S : SS} : ev c 210 4 [l0, l1, l2, l3, l4] L2 (aI x :: St) S = ev c 210 5 [l0, l1, some (aI x), l3, l4] (kil L2 2) St S := ev_go i210_4 rfl
theorem i210_5 : insAt 210 5 = some (.aload_n 0, 1, (0, 0, 0, 0), 0) := rfl
theorem s210_5 {c : Nat → List AV → SS → Option Out} {l1 l2 l3 l4 : Option AV} {o : OId} {L2 : List (Nat × AV)} {St : List AV} {S : SS} : ev c 210 5 [some (aR o), l1, l2, l3, l4] L2 St S = ev c 210 6 [some (aR o), l1, l2, l3, l4] L2 (aR o :: St) S := ev_go i210_5 rfl
theorem i210_6 : insAt 210 6 = some (.getfield 15, 3, (1, 0, 0, 0), 0) := rfl
theorem s210_6 {c : Nat → List AV → SS → Option Out} {l0 l1 l2 l3 l4 : Option AV} {j t : Nat} {L2 : List (Nat × AV)} {St : List AV} {S : SS} : ev c 210 6 [l0, l1, l2, l3, l4] L2 (aR (1, j, t) :: St) S = ev c 210 9 [l0, l1, l2, l3, l4] L2 (S.2.1 (1, j, t) 0 :: St) S := ev_go i210_6 rfl
theorem i210_9 : insAt 210 9 = some (.astore_n 3, 1, (0, 0, 0, 0), 0) := rfl
theorem s210_9 {c : Nat → List AV → SS → Option Out} {l0 l1 l2 l3 l4 : Option AV} {o : OId} {L2 : List (Nat × AV)} {St : List AV} {S : SS} : ev c 210 9 [l0, l1, l2, l3, l4] L2 (aR o :: St) S = ev c 210 10 [l0, l1, l2, some (aR o), l4] (kil L2 3) St S := ev_go i210_9 rfl
theorem i210_10 : insAt 210 10 = some (.aload_n 0, 1, (0, 0, 0, 0), 0) := rfl
theorem s210_10 {c : Nat → List AV → SS → Option Out} {l1 l2 l3 l4 : Option AV} {o : OId} {L2 : List (Nat × AV)} {St : List AV} {S : SS} : ev c 210 10 [some (aR o), l1, l2, l3, l4] L2 St S = ev c 210 11 [some (aR o), l1, l2, l3, l4] L2 (aR o :: St) S := ev_go i210_10 rfl
theorem i210_11 : insAt 210 11 = some (.getfield 79, 3, (1, 3, 0, 0), 0) := rfl
theorem s210_11 {c : Nat → List AV → SS → Option Out} {l0 l1 l2 l3 l4 : Option AV} {j t : Nat} {L2 : List (Nat × AV)} {St : List AV} {S : SS} : ev c 210 11 [l0, l1, l2, l3, l4] L2 (aR (1, j, t) :: St) S = ev c 210 14 [l0, l1, l2, l3, l4] L2 (aI (S.1 (1, j, t) 3) :: St) S := ev_go i210_11 rfl
theorem i210_14 : insAt 210 14 = some (.aload_n 3, 1, (0, 0, 0, 0), 0) := rfl
theorem s210_14 {c : Nat → List AV → SS → Option Out} {l0 l1 l2 l4 : Option AV} {o : OId} {L2 : List (Nat × AV)} {St : List AV} {S : SS} : ev c 210 14 [l0, l1, l2, some (aR o), l4] L2 St S = ev c 210 15 [l0, l1, l2, some (aR o), l4] L2 (aR o :: St) S := ev_go i210_14 rfl
theorem i210_15 : insAt 210 15 = some (.arraylength, 1, (0, 0, 0, 0), 0) := rfl
theorem s210_15 {c : Nat → List AV → SS → Option Out} {l0 l1 l2 l3 l4 : Option AV} {o : OId} {L2 : List (Nat × AV)} {St : List AV} {S : SS} : ev c 210 15 [l0, l1, l2, l3, l4] L2 (aR o :: St) S = kN o (fun x => ev c 210 16 [l0, l1, l2, l3, l4] L2 (aI x :: St) S) := ev_alen i210_15
theorem i210_16 : insAt 210 16 = some (.iload_n 2, 1, (0, 0, 0, 0), 0) := rfl
theorem s210_16 {c : Nat → List AV → SS → Option Out} {l0 l1 l3 l4 : Option AV} {x : Int32} {L2 : List (Nat × AV)} {St : List AV} {S : SS} : ev c 210 16 [l0, l1, some (aI x), l3, l4] L2 St S = ev c 210 17 [l0, l1, some (aI x), l3, l4] L2 (aI x :: St) S := ev_go i210_16 rfl
theorem i210_17 : insAt 210 17 = some (.ishr, 1, (0, 0, 0, 0), 0) := rfl
theorem s210_17 {c : Nat → List AV → SS → Option Out} {l0 l1 l2 l3 l4 : Option AV} {x y : Int32} {L2 : List (Nat × AV)} {St : List AV} {S : SS} : ev c 210 17 [l0, l1, l2, l3, l4] L2 (aI y :: aI x :: St) S = ev c 210 18 [l0, l1, l2, l3, l4] L2 (aI (x >>> (y &&& 31)) :: St) S := ev_go i210_17 rfl
theorem i210_18 : insAt 210 18 = some (.invokestatic 138, 3, (53, 2, 0, 0), 0) := rfl
theorem s210_18 {c : Nat → List AV → SS → Option Out} {l0 l1 l2 l3 l4 : Option AV} {a0 : Int32} {a1 : Int32} {L2 : List (Nat × AV)} {S : SS} : ev c 210 18 [l0, l1, l2, l3, l4] L2 [aI a1, aI a0] S = ck (c 53 [aI a0, aI a1] S) (fun v S' => ev c 210 21 [l0, l1, l2, l3, l4] L2 (v.toList ++ []) S') := ev_call i210_18 rfl
theorem i210_21 : insAt 210 21 = some (.istore 4, 2, (0, 0, 0, 0), 0) := rfl
theorem s210_21 {c : Nat → List AV → SS → Option Out} {l0 l1 l2 l3 l4 : Option AV} {x : Int32} {L2 : List (Nat × AV)} {St : List AV} {S : SS} : ev c 210 21 [l0, l1, l2, l3, l4] L2 (aI x :: St) S = ev c 210 23 [l0, l1, l2, l3, some (aI x)] (kil L2 4) St S := ev_go i210_21 rfl
theorem i210_23 : insAt 210 23 = some (.iload_n 1, 1, (0, 0, 0, 0), 0) := rfl
theorem s210_23 {c : Nat → List AV → SS → Option Out} {l0 l2 l3 l4 : Option AV} {x : Int32} {L2 : List (Nat × AV)} {St : List AV} {S : SS} : ev c 210 23 [l0, some (aI x), l2, l3, l4] L2 St S = ev c 210 24 [l0, some (aI x), l2, l3, l4] L2 (aI x :: St) S := ev_go i210_23 rfl
theorem i210_24 : insAt 210 24 = some (.iload 4, 2, (0, 0, 0, 0), 0) := rfl
theorem s210_24 {c : Nat → List AV → SS → Option Out} {l0 l1 l2 l3 : Option AV} {x : Int32} {L2 : List (Nat × AV)} {St : List AV} {S : SS} : ev c 210 24 [l0, l1, l2, l3, some (aI x)] L2 St S = ev c 210 26 [l0, l1, l2, l3, some (aI x)] L2 (aI x :: St) S := ev_go i210_24 rfl
theorem i210_26 : insAt 210 26 = some (.invokestatic 144, 3, (205, 2, 0, 0), 0) := rfl
theorem s210_26 {c : Nat → List AV → SS → Option Out} {l0 l1 l2 l3 l4 : Option AV} {a0 : Int32} {a1 : Int32} {L2 : List (Nat × AV)} {S : SS} : ev c 210 26 [l0, l1, l2, l3, l4] L2 [aI a1, aI a0] S = ck (c 205 [aI a0, aI a1] S) (fun v S' => ev c 210 29 [l0, l1, l2, l3, l4] L2 (v.toList ++ []) S') := ev_call i210_26 rfl
theorem i210_29 : insAt 210 29 = some (.iload_n 2, 1, (0, 0, 0, 0), 0) := rfl
theorem s210_29 {c : Nat → List AV → SS → Option Out} {l0 l1 l3 l4 : Option AV} {x : Int32} {L2 : List (Nat × AV)} {St : List AV} {S : SS} : ev c 210 29 [l0, l1, some (aI x), l3, l4] L2 St S = ev c 210 30 [l0, l1, some (aI x), l3, l4] L2 (aI x :: St) S := ev_go i210_29 rfl
theorem i210_30 : insAt 210 30 = some (.ifCond .ne 12, 3, (0, 0, 0, 0), 0) := rfl
theorem s210_30 {c : Nat → List AV → SS → Option Out} {l0 l1 l2 l3 l4 : Option AV} {x : Int32} {L2 : List (Nat × AV)} {St : List AV} {S : SS} : ev c 210 30 [l0, l1, l2, l3, l4] L2 (aI x :: St) S = if x = 0 then ev c 210 33 [l0, l1, l2, l3, l4] L2 St S else ev c 210 42 [l0, l1, l2, l3, l4] L2 St S := (ev_br i210_30 rfl).trans (ite_not _ _ _)
theorem i210_33 : insAt 210 33 = some (.aload_n 3, 1, (0, 0, 0, 0), 0) := rfl
theorem s210_33 {c : Nat → List AV → SS → Option Out} {l0 l1 l2 l4 : Option AV} {o : OId} {L2 : List (Nat × AV)} {St : List AV} {S : SS} : ev c 210 33 [l0, l1, l2, some (aR o), l4] L2 St S = ev c 210 34 [l0, l1, l2, some (aR o), l4] L2 (aR o :: St) S := ev_go i210_33 rfl
theorem i210_34 : insAt 210 34 = some (.iload_n 1, 1, (0, 0, 0, 0), 0) := rfl
theorem s210_34 {c : Nat → List AV → SS → Option Out} {l0 l2 l3 l4 : Option AV} {x : Int32} {L2 : List (Nat × AV)} {St : List AV} {S : SS} : ev c 210 34 [l0, some (aI x), l2, l3, l4] L2 St S = ev c 210 35 [l0, some (aI x), l2, l3, l4] L2 (aI x :: St) S := ev_go i210_34 rfl
theorem i210_35 : insAt 210 35 = some (.baload, 1, (0, 0, 0, 0), 0) := rfl
theorem s210_35 {c : Nat → List AV → SS → Option Out} {l0 l1 l2 l3 l4 : Option AV} {i : Int32} {o : OId} {L2 : List (Nat × AV)} {St : List AV} {S : SS} : ev c 210 35 [l0, l1, l2, l3, l4] L2 (aI i :: aR o :: St) S = kB o i (ev c 210 36 [l0, l1, l2, l3, l4] L2 (aI (agB S o i.toNatClampNeg) :: St) S) (ev c 210 36 [l0, l1, l2, l3, l4] L2 (aI (bb (S.1 o i.toNatClampNeg)) :: St) S) := ev_baload i210_35
theorem i210_36 : insAt 210 36 = some (.sipush 255, 3, (0, 0, 0, 0), 0) := rfl
theorem s210_36 {c : Nat → List AV → SS → Option Out} {l0 l1 l2 l3 l4 : Option AV} {L2 : List (Nat × AV)} {St : List AV} {S : SS} : ev c 210 36 [l0, l1, l2, l3, l4] L2 St S = ev c 210 39 [l0, l1, l2, l3, l4] L2 (aI 255 :: St) S := ev_go i210_36 rfl
theorem i210_39 : insAt 210 39 = some (.iand, 1, (0, 0, 0, 0), 0) := rfl
theorem s210_39 {c : Nat → List AV → SS → Option Out} {l0 l1 l2 l3 l4 : Option AV} {x y : Int32} {L2 : List (Nat × AV)} {St : List AV} {S : SS} : ev c 210 39 [l0, l1, l2, l3, l4] L2 (aI y :: aI x :: St) S = ev c 210 40 [l0, l1, l2, l3, l4] L2 (aI (x &&& y) :: St) S := ev_go i210_39 rfl
theorem i210_40 : insAt 210 40 = some (.i2c, 1, (0, 0, 0, 0), 0) := rfl
theorem s210_40 {c : Nat → List AV → SS → Option Out} {l0 l1 l2 l3 l4 : Option AV} {x : Int32} {L2 : List (Nat × AV)} {St : List AV} {S : SS} : ev c 210 40 [l0, l1, l2, l3, l4] L2 (aI x :: St) S = ev c 210 41 [l0, l1, l2, l3, l4] L2 (aI (x.toUInt32 % 65536).toInt32 :: St) S := ev_go i210_40 rfl
theorem i210_41 : insAt 210 41 = some (.ireturn, 1, (0, 0, 0, 0), 0) := rfl
theorem s210_41 {c : Nat → List AV → SS → Option Out} {l0 l1 l2 l3 l4 : Option AV} {x : Int32} {L2 : List (Nat × AV)} {St : List AV} {S : SS} : ev c 210 41 [l0, l1, l2, l3, l4] L2 [aI x] S = if (x.toUInt32 % 65536).toInt32 = x then some (.inl (some (aI x)), S) else none := ev_rt i210_41 rfl
theorem i210_42 : insAt 210 42 = some (.aload_n 3, 1, (0, 0, 0, 0), 0) := rfl
theorem s210_42 {c : Nat → List AV → SS → Option Out} {l0 l1 l2 l4 : Option AV} {o : OId} {L2 : List (Nat × AV)} {St : List AV} {S : SS} : ev c 210 42 [l0, l1, l2, some (aR o), l4] L2 St S = ev c 210 43 [l0, l1, l2, some (aR o), l4] L2 (aR o :: St) S := ev_go i210_42 rfl
theorem i210_43 : insAt 210 43 = some (.iload_n 1, 1, (0, 0, 0, 0), 0) := rfl
theorem s210_43 {c : Nat → List AV → SS → Option Out} {l0 l2 l3 l4 : Option AV} {x : Int32} {L2 : List (Nat × AV)} {St : List AV} {S : SS} : ev c 210 43 [l0, some (aI x), l2, l3, l4] L2 St S = ev c 210 44 [l0, some (aI x), l2, l3, l4] L2 (aI x :: St) S := ev_go i210_43 rfl
theorem i210_47 : insAt 210 47 = some (.ireturn, 1, (0, 0, 0, 0), 0) := rfl
theorem s210_47 {c : Nat → List AV → SS → Option Out} {l0 l1 l2 l3 l4 : Option AV} {x : Int32} {L2 : List (Nat × AV)} {St : List AV} {S : SS} : ev c 210 47 [l0, l1, l2, l3, l4] L2 [aI x] S = if (x.toUInt32 % 65536).toInt32 = x then some (.inl (some (aI x)), S) else none := ev_rt i210_47 rfl
theorem m210 {d : Nat} {o : OId} {a0 : Int32} {S : SS} : evm (d + 1) 210 [aR o, aI a0] S = ev (evm d) 210 0 [some (aR o), some (aI a0), none, none, none] [] [] S := evm_s (n := 5) rfl (Nat.le_of_ble_eq_true rfl) rfl rfl
/-! java/lang/String.charAt(I)C -/
theorem i308_0 : insAt 308 0 = some (.aload_n 0, 1, (0, 0, 0, 0), 0) := rfl
theorem s308_0 {c : Nat → List AV → SS → Option Out} {l1 : Option AV} {o : OId} {L2 : List (Nat × AV)} {St : List AV} {S : SS} : ev c 308 0 [some (aR o), l1] L2 St S = ev c 308 1 [some (aR o), l1] L2 (aR o :: St) S := ev_go i308_0 rfl
theorem i308_1 : insAt 308 1 = some (.invokevirtual 492, 3, (309, 0, 2, 0), 0) := rfl
theorem s308_1 {c : Nat → List AV → SS → Option Out} {l0 l1 : Option AV} {j t : Nat} {L2 : List (Nat × AV)} {S : SS} : ev c 308 1 [l0, l1] L2 [aR (0, j, t)] S = ck (c 309 [aR (0, j, t)] S) (fun v S' => ev c 308 4 [l0, l1] L2 (v.toList ++ []) S') := ev_call i308_1 rfl
theorem i308_4 : insAt 308 4 = some (.ifCond .eq 12, 3, (0, 0, 0, 0), 0) := rfl
theorem s308_4 {c : Nat → List AV → SS → Option Out} {l0 l1 : Option AV} {x : Int32} {L2 : List (Nat × AV)} {St : List AV} {S : SS} : ev c 308 4 [l0, l1] L2 (aI x :: St) S = if x = 0 then ev c 308 16 [l0, l1] L2 St S else ev c 308 7 [l0, l1] L2 St S := ev_br i308_4 rfl
theorem i308_7 : insAt 308 7 = some (.aload_n 0, 1, (0, 0, 0, 0), 0) := rfl
theorem s308_7 {c : Nat → List AV → SS → Option Out} {l1 : Option AV} {o : OId} {L2 : List (Nat × AV)} {St : List AV} {S : SS} : ev c 308 7 [some (aR o), l1] L2 St S = ev c 308 8 [some (aR o), l1] L2 (aR o :: St) S := ev_go i308_7 rfl
theorem i308_8 : insAt 308 8 = some (.getfield 9, 3, (0, 0, 0, 0), 0) := rfl
theorem s308_8 {c : Nat → List AV → SS → Option Out} {l0 l1 : Option AV} {j t : Nat} {L2 : List (Nat × AV)} {St : List AV} {S : SS} : ev c 308 8 [l0, l1] L2 (aR (0, j, t) :: St) S = ev c 308 11 [l0, l1] L2 (fget S 0 0 (0, j, t) :: St) S := ev_go i308_8 rfl
theorem i308_11 : insAt 308 11 = some (.iload_n 1, 1, (0, 0, 0, 0), 0) := rfl
theorem s308_11 {c : Nat → List AV → SS → Option Out} {l0 : Option AV} {x : Int32} {L2 : List (Nat × AV)} {St : List AV} {S : SS} : ev c 308 11 [l0, some (aI x)] L2 St S = ev c 308 12 [l0, some (aI x)] L2 (aI x :: St) S := ev_go i308_11 rfl
theorem i308_12 : insAt 308 12 = some (.invokestatic 495, 3, (310, 2, 0, 0), 0) := rfl
theorem s308_12 {c : Nat → List AV → SS → Option Out} {l0 l1 : Option AV} {a0 : OId} {a1 : Int32} {L2 : List (Nat × AV)} {S : SS} : ev c 308 12 [l0, l1] L2 [aI a1, aR a0] S = ck (c 310 [aR a0, aI a1] S) (fun v S' => ev c 308 15 [l0, l1] L2 (v.toList ++ []) S') := ev_call i308_12 rfl
theorem i308_15 : insAt 308 15 = some (.ireturn, 1, (0, 0, 0, 0), 0) := rfl
theorem s308_15 {c : Nat → List AV → SS → Option Out} {l0 l1 : Option AV} {x : Int32} {L2 : List (Nat × AV)} {St : List AV} {S : SS} : ev c 308 15 [l0, l1] L2 [aI x] S = if (x.toUInt32 % 65536).toInt32 = x then some (.inl (some (aI x)), S) else none := ev_rt i308_15 rfl
theorem i308_16 : insAt 308 16 = some (.aload_n 0, 1, (0, 0, 0, 0), 0) := rfl
theorem s308_16 {c : Nat → List AV → SS → Option Out} {l1 : Option AV} {o : OId} {L2 : List (Nat × AV)} {St : List AV} {S : SS} : ev c 308 16 [some (aR o), l1] L2 St S = ev c 308 17 [some (aR o), l1] L2 (aR o :: St) S := ev_go i308_16 rfl
theorem i308_17 : insAt 308 17 = some (.getfield 9, 3, (0, 0, 0, 0), 0) := rfl
theorem s308_17 {c : Nat → List AV → SS → Option Out} {l0 l1 : Option AV} {j t : Nat} {L2 : List (Nat × AV)} {St : List AV} {S : SS} : ev c 308 17 [l0, l1] L2 (aR (0, j, t) :: St) S = ev c 308 20 [l0, l1] L2 (fget S 0 0 (0, j, t) :: St) S := ev_go i308_17 rfl
theorem i308_20 : insAt 308 20 = some (.iload_n 1, 1, (0, 0, 0, 0), 0) := rfl
theorem s308_20 {c : Nat → List AV → SS → Option Out} {l0 : Option AV} {x : Int32} {L2 : List (Nat × AV)} {St : List AV} {S : SS} : ev c 308 20 [l0, some (aI x)] L2 St S = ev c 308 21 [l0, some (aI x)] L2 (aI x :: St) S := ev_go i308_20 rfl
theorem i308_24 : insAt 308 24 = some (.ireturn, 1, (0, 0, 0, 0), 0) := rfl
theorem s308_24 {c : Nat → List AV → SS → Option Out} {l0 l1 : Option AV} {x : Int32} {L2 : List (Nat × AV)} {St : List AV} {S : SS} : ev c 308 24 [l0, l1] L2 [aI x] S = if (x.toUInt32 % 65536).toInt32 = x then some (.inl (some (aI x)), S) else none := ev_rt i308_24 rfl
theorem m308 {d : Nat} {o : OId} {a0 : Int32} {S : SS} : evm (d + 1) 308 [aR o, aI a0] S = ev (evm d) 308 0 [some (aR o), some (aI a0)] [] [] S := evm_s (n := 2) rfl (Nat.le_of_ble_eq_true rfl) rfl rfl
/-! java/lang/String.isLatin1()Z -/
theorem i309_0 : insAt 309 0 = some (.getstatic 38, 3, (0, 0, 0, 0), 0) := rfl
theorem s309_0 {c : Nat → List AV → SS → Option Out} {l0 : Option AV} {L2 : List (Nat × AV)} {St : List AV} {S : SS} : ev c 309 0 [l0] L2 St S = ev c 309 3 [l0] L2 (aI 1 :: St) S := ev_go i309_0 rfl
theorem i309_3 : insAt 309 3 = some (.ifCond .eq 14, 3, (0, 0, 0, 0), 0) := rfl
theorem s309_3 {c : Nat → List AV → SS → Option Out} {l0 : Option AV} {x : Int32} {L2 : List (Nat × AV)} {St : List AV} {S : SS} : ev c 309 3 [l0] L2 (aI x :: St) S = if x = 0 then ev c 309 17 [l0] L2 St S else ev c 309 6 [l0] L2 St S := ev_br i309_3 rfl
theorem i309_6 : insAt 309 6 = some (.aload_n 0, 1, (0, 0, 0, 0), 0) := rfl
theorem s309_6 {c : Nat → List AV → SS → Option Out} {o : OId} {L2 : List (Nat × AV)} {St : List AV} {S : SS} : ev c 309 6 [some (aR o)] L2 St S = ev c 309 7 [some (aR o)] L2 (aR o :: St) S := ev_go i309_6 rfl
theorem i309_7 : insAt 309 7 = some (.getfield 15, 3, (0, 1, 0, 0), 0) := rfl
theorem s309_7 {c : Nat → List AV → SS → Option Out} {l0 : Option AV} {j t : Nat} {L2 : List (Nat × AV)} {St : List AV} {S : SS} : ev c 309 7 [l0] L2 (aR (0, j, t) :: St) S = ev c 309 10 [l0] L2 (fget S 0 1 (0, j, t) :: St) S := ev_go i309_7 rfl
theorem i309_10 : insAt 309 10 = some (.ifCond .ne 7, 3, (0, 0, 0, 0), 0) := rfl
theorem s309_10 {c : Nat → List AV → SS → Option Out} {l0 : Option AV} {x : Int32} {L2 : List (Nat × AV)} {St : List AV} {S : SS} : ev c 309 10 [l0] L2 (aI x :: St) S = if x = 0 then ev c 309 13 [l0] L2 St S else ev c 309 17 [l0] L2 St S := (ev_br i309_10 rfl).trans (ite_not _ _ _)
theorem i309_13 : insAt 309 13 = some (.iconst 1, 1, (0, 0, 0, 0), 0) := rfl
theorem s309_13 {c : Nat → List AV → SS → Option Out} {l0 : Option AV} {L2 : List (Nat × AV)} {St : List AV} {S : SS} : ev c 309 13 [l0] L2 St S = ev c 309 14 [l0] L2 (aI 1 :: St) S := ev_go i309_13 rfl
theorem i309_14 : insAt 309 14 = some (.goto 4, 3, (0, 0, 0, 0), 0) := rfl
theorem s309_14 {c : Nat → List AV → SS → Option Out} {l0 : Option AV} {L2 : List (Nat × AV)} {St : List AV} {S : SS} : ev c 309 14 [l0] L2 St S = ev c 309 18 [l0] L2 St S := ev_go i309_14 rfl
theorem i309_17 : insAt 309 17 = some (.iconst 0, 1, (0, 0, 0, 0), 0) := rfl
theorem s309_17 {c : Nat → List AV → SS → Option Out} {l0 : Option AV} {L2 : List (Nat × AV)} {St : List AV} {S : SS} : ev c 309 17 [l0] L2 St S = ev c 309 18 [l0] L2 (aI 0 :: St) S := ev_go i309_17 rfl
theorem i309_18 : insAt 309 18 = some (.ireturn, 1, (0, 0, 0, 0), 0) := rfl
theorem s309_18 {c : Nat → List AV → SS → Option Out} {l0 : Option AV} {x : Int32} {L2 : List (Nat × AV)} {St : List AV} {S : SS} : ev c 309 18 [l0] L2 [aI x] S = if x = 0 ∨ x = 1 then some (.inl (some (aI x)), S) else none := ev_rt i309_18 rfl
theorem m309 {d : Nat} {o : OId} {S : SS} : evm (d + 1) 309 [aR o] S = ev (evm d) 309 0 [some (aR o)] [] [] S := evm_s (n := 1) rfl (Nat.le_of_ble_eq_true rfl) rfl rfl
/-! java/lang/StringLatin1.charAt([BI)C -/
theorem i310_0 : insAt 310 0 = some (.iload_n 1, 1, (0, 0, 0, 0), 0) := rfl
theorem s310_0 {c : Nat → List AV → SS → Option Out} {l0 : Option AV} {x : Int32} {L2 : List (Nat × AV)} {St : List AV} {S : SS} : ev c 310 0 [l0, some (aI x)] L2 St S = ev c 310 1 [l0, some (aI x)] L2 (aI x :: St) S := ev_go i310_0 rfl
theorem i310_1 : insAt 310 1 = some (.aload_n 0, 1, (0, 0, 0, 0), 0) := rfl
theorem s310_1 {c : Nat → List AV → SS → Option Out} {l1 : Option AV} {o : OId} {L2 : List (Nat × AV)} {St : List AV} {S : SS} : ev c 310 1 [some (aR o), l1] L2 St S = ev c 310 2 [some (aR o), l1] L2 (aR o :: St) S := ev_go i310_1 rfl
theorem i310_2 : insAt 310 2 = some (.arraylength, 1, (0, 0, 0, 0), 0) := rfl
theorem s310_2 {c : Nat → List AV → SS → Option Out} {l0 l1 : Option AV} {o : OId} {L2 : List (Nat × AV)} {St : List AV} {S : SS} : ev c 310 2 [l0, l1] L2 (aR o :: St) S = kN o (fun x => ev c 310 3 [l0, l1] L2 (aI x :: St) S) := ev_alen i310_2
theorem i310_3 : insAt 310 3 = some (.invokestatic 9, 3, (205, 2, 0, 0), 0) := rfl
theorem s310_3 {c : Nat → List AV → SS → Option Out} {l0 l1 : Option AV} {a0 : Int32} {a1 : Int32} {L2 : List (Nat × AV)} {S : SS} : ev c 310 3 [l0, l1] L2 [aI a1, aI a0] S = ck (c 205 [aI a0, aI a1] S) (fun v S' => ev c 310 6 [l0, l1] L2 (v.toList ++ []) S') := ev_call i310_3 rfl
theorem i310_6 : insAt 310 6 = some (.aload_n 0, 1, (0, 0, 0, 0), 0) := rfl
theorem s310_6 {c : Nat → List AV → SS → Option Out} {l1 : Option AV} {o : OId} {L2 : List (Nat × AV)} {St : List AV} {S : SS} : ev c 310 6 [some (aR o), l1] L2 St S = ev c 310 7 [some (aR o), l1] L2 (aR o :: St) S := ev_go i310_6 rfl
theorem i310_7 : insAt 310 7 = some (.iload_n 1, 1, (0, 0, 0, 0), 0) := rfl
theorem s310_7 {c : Nat → List AV → SS → Option Out} {l0 : Option AV} {x : Int32} {L2 : List (Nat × AV)} {St : List AV} {S : SS} : ev c 310 7 [l0, some (aI x)] L2 St S = ev c 310 8 [l0, some (aI x)] L2 (aI x :: St) S := ev_go i310_7 rfl
theorem i310_8 : insAt 310 8 = some (.baload, 1, (0, 0, 0, 0), 0) := rfl
theorem s310_8 {c : Nat → List AV → SS → Option Out} {l0 l1 : Option AV} {i : Int32} {o : OId} {L2 : List (Nat × AV)} {St : List AV} {S : SS} : ev c 310 8 [l0, l1] L2 (aI i :: aR o :: St) S = kB o i (ev c 310 9 [l0, l1] L2 (aI (agB S o i.toNatClampNeg) :: St) S) (ev c 310 9 [l0, l1] L2 (aI (bb (S.1 o i.toNatClampNeg)) :: St) S) := ev_baload i310_8
theorem i310_9 : insAt 310 9 = some (.sipush 255, 3, (0, 0, 0, 0), 0) := rfl
theorem s310_9 {c : Nat → List AV → SS → Option Out} {l0 l1 : Option AV} {L2 : List (Nat × AV)} {St : List AV} {S : SS} : ev c 310 9 [l0, l1] L2 St S = ev c 310 12 [l0, l1] L2 (aI 255 :: St) S := ev_go i310_9 rfl
theorem i310_12 : insAt 310 12 = some (.iand, 1, (0, 0, 0, 0), 0) := rfl
theorem s310_12 {c : Nat → List AV → SS → Option Out} {l0 l1 : Option AV} {x y : Int32} {L2 : List (Nat × AV)} {St : List AV} {S : SS} : ev c 310 12 [l0, l1] L2 (aI y :: aI x :: St) S = ev c 310 13 [l0, l1] L2 (aI (x &&& y) :: St) S := ev_go i310_12 rfl
theorem i310_13 : insAt 310 13 = some (.i2c, 1, (0, 0, 0, 0), 0) := rfl
theorem s310_13 {c : Nat → List AV → SS → Option Out} {l0 l1 : Option AV} {x : Int32} {L2 : List (Nat × AV)} {St : List AV} {S : SS} : ev c 310 13 [l0, l1] L2 (aI x :: St) S = ev c 310 14 [l0, l1] L2 (aI (x.toUInt32 % 65536).toInt32 :: St) S := ev_go i310_13 rfl
theorem i310_14 : insAt 310 14 = some (.ireturn, 1, (0, 0, 0, 0), 0) := rfl
theorem s310_14 {c : Nat → List AV → SS → Option Out} {l0 l1 : Option AV} {x : Int32} {L2 : List (Nat × AV)} {St : List AV} {S : SS} : ev c 310 14 [l0, l1] L2 [aI x] S = if (x.toUInt32 % 65536).toInt32 = x then some (.inl (some (aI x)), S) else none := ev_rt i310_14 rfl
theorem m310 {d : Nat} {a0 : OId} {a1 : Int32} {S : SS} : evm (d + 1) 310 [aR a0, aI a1] S = ev (evm d) 310 0 [some (aR a0), some (aI a1)] [] [] S := evm_s (n := 2) rfl (Nat.le_of_ble_eq_true rfl) rfl rfl
