/-! java/lang/StringBuilder.<init>()V -/
theorem i8_0 : insAt 8 0 = some (.aload_n 0, 1, (0, 0, 0, 0), 0) := rfl
theorem s8_0 {c : Nat → List AV → SS → Option Out} {o : OId} {L2 : List (Nat × AV)} {St : List AV} {S : SS} : ev c 8 0 [some (aR o)] L2 St S = ev c 8 1 [some (aR o)] L2 (aR o :: St) S := ev_go i8_0 rfl
theorem i8_1 : insAt 8 1 = some (.bipush 16, 2, (0, 0, 0, 0), 0) := rfl
theorem s8_1 {c : Nat → List AV → SS → Option Out} {l0 : Option AV} {L2 : List (Nat × AV)} {St : List AV} {S : SS} : ev c 8 1 [l0] L2 St S = ev c 8 3 [l0] L2 (aI 16 :: St) S := ev_go i8_1 rfl
theorem i8_3 : insAt 8 3 = some (.invokespecial 1, 3, (9, 1, 5, 1), 70) := rfl
theorem s8_3 {c : Nat → List AV → SS → Option Out} {l0 : Option AV} {a0 : Int32} {j t : Nat} {L2 : List (Nat × AV)} {S : SS} : ev c 8 3 [l0] L2 [aI a0, aR (1, j, t)] S = ck (c 9 [aR (1, j, t), aI a0] S) (fun v S' => ev c 8 6 [l0] L2 (v.toList ++ []) S') := ev_call i8_3 rfl
theorem i8_6 : insAt 8 6 = some (.return_, 1, (0, 0, 0, 0), 0) := rfl
theorem s8_6 {c : Nat → List AV → SS → Option Out} {l0 : Option AV} {L2 : List (Nat × AV)} {S : SS} : ev c 8 6 [l0] L2 [] S = some (.inl none, S) := ev_end i8_6 rfl
theorem m8 {d : Nat} {o : OId} {S : SS} : evm (d + 1) 8 [aR o] S = ev (evm d) 8 0 [some (aR o)] [] [] S := evm_s (n := 1) rfl (Nat.le_of_ble_eq_true rfl) rfl rfl
/-! java/lang/AbstractStringBuilder.<init>(I)V -/
theorem i9_0 : insAt 9 0 = some (.aload_n 0, 1, (0, 0, 0, 0), 0) := rfl
theorem s9_0 {c : Nat → List AV → SS → Option Out} {l1 : Option AV} {o : OId} {L2 : List (Nat × AV)} {St : List AV} {S : SS} : ev c 9 0 [some (aR o), l1] L2 St S = ev c 9 1 [some (aR o), l1] L2 (aR o :: St) S := ev_go i9_0 rfl
theorem i9_1 : insAt 9 1 = some (.invokespecial 3, 3, (0, 0, 20, 0), 71) := rfl
theorem s9_1 {c : Nat → List AV → SS → Option Out} {l0 l1 : Option AV} {j t : Nat} {L2 : List (Nat × AV)} {S : SS} : ev c 9 1 [l0, l1] L2 [aR (1, j, t)] S = ev c 9 4 [l0, l1] L2 [] S := ev_go i9_1 rfl
theorem i9_4 : insAt 9 4 = some (.getstatic 18, 3, (0, 0, 0, 0), 72) := rfl
theorem s9_4 {c : Nat → List AV → SS → Option Out} {l0 l1 : Option AV} {L2 : List (Nat × AV)} {St : List AV} {S : SS} : ev c 9 4 [l0, l1] L2 St S = ev c 9 7 [l0, l1] L2 (aI 1 :: St) S := ev_go i9_4 rfl
theorem i9_7 : insAt 9 7 = some (.ifCond .eq 18, 3, (0, 0, 0, 0), 0) := rfl
theorem s9_7 {c : Nat → List AV → SS → Option Out} {l0 l1 : Option AV} {x : Int32} {L2 : List (Nat × AV)} {St : List AV} {S : SS} : ev c 9 7 [l0, l1] L2 (aI x :: St) S = if x = 0 then ev c 9 25 [l0, l1] L2 St S else ev c 9 10 [l0, l1] L2 St S := ev_br i9_7 rfl
theorem i9_10 : insAt 9 10 = some (.aload_n 0, 1, (0, 0, 0, 0), 0) := rfl
theorem s9_10 {c : Nat → List AV → SS → Option Out} {l1 : Option AV} {o : OId} {L2 : List (Nat × AV)} {St : List AV} {S : SS} : ev c 9 10 [some (aR o), l1] L2 St S = ev c 9 11 [some (aR o), l1] L2 (aR o :: St) S := ev_go i9_10 rfl
theorem i9_11 : insAt 9 11 = some (.iload_n 1, 1, (0, 0, 0, 0), 0) := rfl
theorem s9_11 {c : Nat → List AV → SS → Option Out} {l0 : Option AV} {x : Int32} {L2 : List (Nat × AV)} {St : List AV} {S : SS} : ev c 9 11 [l0, some (aI x)] L2 St S = ev c 9 12 [l0, some (aI x)] L2 (aI x :: St) S := ev_go i9_11 rfl
theorem i9_12 : insAt 9 12 = some (.newarray .byte, 2, (0, 0, 0, 0), 0) := rfl
theorem i9_14 : insAt 9 14 = some (.putfield 15, 3, (1, 0, 0, 0), 73) := rfl
theorem s9_14 {c : Nat → List AV → SS → Option Out} {l0 l1 : Option AV} {j t : Nat} {p : OId} {L2 : List (Nat × AV)} {St : List AV} {S : SS} : ev c 9 14 [l0, l1] L2 (aR p :: aR (1, j, t) :: St) S = ev c 9 17 [l0, l1] L2 St (S.1, setV S.2.1 (1, j, t) 0 (aR p), S.2.2) := ev_go i9_14 rfl
theorem i9_17 : insAt 9 17 = some (.aload_n 0, 1, (0, 0, 0, 0), 0) := rfl
theorem s9_17 {c : Nat → List AV → SS → Option Out} {l1 : Option AV} {o : OId} {L2 : List (Nat × AV)} {St : List AV} {S : SS} : ev c 9 17 [some (aR o), l1] L2 St S = ev c 9 18 [some (aR o), l1] L2 (aR o :: St) S := ev_go i9_17 rfl
theorem i9_18 : insAt 9 18 = some (.iconst 0, 1, (0, 0, 0, 0), 0) := rfl
theorem s9_18 {c : Nat → List AV → SS → Option Out} {l0 l1 : Option AV} {L2 : List (Nat × AV)} {St : List AV} {S : SS} : ev c 9 18 [l0, l1] L2 St S = ev c 9 19 [l0, l1] L2 (aI 0 :: St) S := ev_go i9_18 rfl
theorem i9_19 : insAt 9 19 = some (.putfield 22, 3, (1, 1, 0, 0), 74) := rfl
theorem s9_19 {c : Nat → List AV → SS → Option Out} {l0 l1 : Option AV} {j t : Nat} {x : Int32} {L2 : List (Nat × AV)} {St : List AV} {S : SS} : ev c 9 19 [l0, l1] L2 (aI x :: aR (1, j, t) :: St) S = if by8 x = x then ev c 9 22 [l0, l1] L2 St (setI S.1 (1, j, t) 1 x, S.2) else none := ev_if i9_19 rfl
theorem i9_22 : insAt 9 22 = some (.goto 16, 3, (0, 0, 0, 0), 0) := rfl
theorem s9_22 {c : Nat → List AV → SS → Option Out} {l0 l1 : Option AV} {L2 : List (Nat × AV)} {St : List AV} {S : SS} : ev c 9 22 [l0, l1] L2 St S = ev c 9 38 [l0, l1] L2 St S := ev_go i9_22 rfl
theorem i9_25 : insAt 9 25 = some (.aload_n 0, 1, (0, 0, 0, 0), 0) := rfl
theorem s9_25 {c : Nat → List AV → SS → Option Out} {l1 : Option AV} {o : OId} {L2 : List (Nat × AV)} {St : List AV} {S : SS} : ev c 9 25 [some (aR o), l1] L2 St S = ev c 9 26 [some (aR o), l1] L2 (aR o :: St) S := ev_go i9_25 rfl
theorem i9_26 : insAt 9 26 = some (.iload_n 1, 1, (0, 0, 0, 0), 0) := rfl
theorem s9_26 {c : Nat → List AV → SS → Option Out} {l0 : Option AV} {x : Int32} {L2 : List (Nat × AV)} {St : List AV} {S : SS} : ev c 9 26 [l0, some (aI x)] L2 St S = ev c 9 27 [l0, some (aI x)] L2 (aI x :: St) S := ev_go i9_26 rfl
theorem i9_30 : insAt 9 30 = some (.putfield 15, 3, (1, 0, 0, 0), 73) := rfl
theorem s9_30 {c : Nat → List AV → SS → Option Out} {l0 l1 : Option AV} {j t : Nat} {p : OId} {L2 : List (Nat × AV)} {St : List AV} {S : SS} : ev c 9 30 [l0, l1] L2 (aR p :: aR (1, j, t) :: St) S = ev c 9 33 [l0, l1] L2 St (S.1, setV S.2.1 (1, j, t) 0 (aR p), S.2.2) := ev_go i9_30 rfl
theorem i9_33 : insAt 9 33 = some (.aload_n 0, 1, (0, 0, 0, 0), 0) := rfl
theorem s9_33 {c : Nat → List AV → SS → Option Out} {l1 : Option AV} {o : OId} {L2 : List (Nat × AV)} {St : List AV} {S : SS} : ev c 9 33 [some (aR o), l1] L2 St S = ev c 9 34 [some (aR o), l1] L2 (aR o :: St) S := ev_go i9_33 rfl
theorem i9_34 : insAt 9 34 = some (.iconst 1, 1, (0, 0, 0, 0), 0) := rfl
theorem s9_34 {c : Nat → List AV → SS → Option Out} {l0 l1 : Option AV} {L2 : List (Nat × AV)} {St : List AV} {S : SS} : ev c 9 34 [l0, l1] L2 St S = ev c 9 35 [l0, l1] L2 (aI 1 :: St) S := ev_go i9_34 rfl
theorem i9_35 : insAt 9 35 = some (.putfield 22, 3, (1, 1, 0, 0), 74) := rfl
theorem s9_35 {c : Nat → List AV → SS → Option Out} {l0 l1 : Option AV} {j t : Nat} {x : Int32} {L2 : List (Nat × AV)} {St : List AV} {S : SS} : ev c 9 35 [l0, l1] L2 (aI x :: aR (1, j, t) :: St) S = if by8 x = x then ev c 9 38 [l0, l1] L2 St (setI S.1 (1, j, t) 1 x, S.2) else none := ev_if i9_35 rfl
theorem i9_38 : insAt 9 38 = some (.return_, 1, (0, 0, 0, 0), 0) := rfl
theorem s9_38 {c : Nat → List AV → SS → Option Out} {l0 l1 : Option AV} {L2 : List (Nat × AV)} {S : SS} : ev c 9 38 [l0, l1] L2 [] S = some (.inl none, S) := ev_end i9_38 rfl
theorem m9 {d : Nat} {o : OId} {a0 : Int32} {S : SS} : evm (d + 1) 9 [aR o, aI a0] S = ev (evm d) 9 0 [some (aR o), some (aI a0)] [] [] S := evm_s (n := 2) rfl (Nat.le_of_ble_eq_true rfl) rfl rfl
/-! java/lang/Long.bitCount(J)I -/
theorem i50_0 : insAt 50 0 = some (.lload_n 0, 1, (0, 0, 0, 0), 0) := rfl
theorem s50_0 {c : Nat → List AV → SS → Option Out} {l0 l1 : Option AV} {x : Int64} {L2 : List (Nat × AV)} {St : List AV} {S : SS} (h : ldL L2 0 = some x) : ev c 50 0 [l0, l1] L2 St S = ev c 50 1 [l0, l1] L2 (aL x :: St) S := ev_go i50_0 (by simp only [stepI]; exact (congrArg (fun q => match q with | some x => nx (0 + 1) [l0, l1] L2 (aL x :: St) S | none => none) h))
theorem i50_1 : insAt 50 1 = some (.lload_n 0, 1, (0, 0, 0, 0), 0) := rfl
theorem s50_1 {c : Nat → List AV → SS → Option Out} {l0 l1 : Option AV} {x : Int64} {L2 : List (Nat × AV)} {St : List AV} {S : SS} (h : ldL L2 0 = some x) : ev c 50 1 [l0, l1] L2 St S = ev c 50 2 [l0, l1] L2 (aL x :: St) S := ev_go i50_1 (by simp only [stepI]; exact (congrArg (fun q => match q with | some x => nx (1 + 1) [l0, l1] L2 (aL x :: St) S | none => none) h))
theorem i50_2 : insAt 50 2 = some (.iconst 1, 1, (0, 0, 0, 0), 0) := rfl
theorem s50_2 {c : Nat → List AV → SS → Option Out} {l0 l1 : Option AV} {L2 : List (Nat × AV)} {St : List AV} {S : SS} : ev c 50 2 [l0, l1] L2 St S = ev c 50 3 [l0, l1] L2 (aI 1 :: St) S := ev_go i50_2 rfl
theorem i50_3 : insAt 50 3 = some (.lushr, 1, (0, 0, 0, 0), 0) := rfl
theorem s50_3 {c : Nat → List AV → SS → Option Out} {l0 l1 : Option AV} {x : Int64} {y : Int32} {L2 : List (Nat × AV)} {St : List AV} {S : SS} : ev c 50 3 [l0, l1] L2 (aI y :: aL x :: St) S = ev c 50 4 [l0, l1] L2 (aL ((x.toUInt64 >>> (y.toInt64.toUInt64 &&& Int64.toUInt64 63)).toInt64) :: St) S := ev_go i50_3 rfl
theorem i50_4 : insAt 50 4 = some (.ldc2_w 314, 3, (139, 0, 0, 0), 6148914691236517205) := rfl
theorem s50_4 {c : Nat → List AV → SS → Option Out} {l0 l1 : Option AV} {L2 : List (Nat × AV)} {St : List AV} {S : SS} : ev c 50 4 [l0, l1] L2 St S = ev c 50 7 [l0, l1] L2 (aL 6148914691236517205 :: St) S := ev_go i50_4 rfl
theorem i50_7 : insAt 50 7 = some (.land, 1, (0, 0, 0, 0), 0) := rfl
theorem s50_7 {c : Nat → List AV → SS → Option Out} {l0 l1 : Option AV} {x y : Int64} {L2 : List (Nat × AV)} {St : List AV} {S : SS} : ev c 50 7 [l0, l1] L2 (aL y :: aL x :: St) S = ev c 50 8 [l0, l1] L2 (aL (x &&& y) :: St) S := ev_go i50_7 rfl
theorem i50_8 : insAt 50 8 = some (.lsub, 1, (0, 0, 0, 0), 0) := rfl
theorem s50_8 {c : Nat → List AV → SS → Option Out} {l0 l1 : Option AV} {x y : Int64} {L2 : List (Nat × AV)} {St : List AV} {S : SS} : ev c 50 8 [l0, l1] L2 (aL y :: aL x :: St) S = ev c 50 9 [l0, l1] L2 (aL (x - y) :: St) S := ev_go i50_8 rfl
theorem i50_9 : insAt 50 9 = some (.lstore_n 0, 1, (0, 0, 0, 0), 0) := rfl
theorem s50_9 {c : Nat → List AV → SS → Option Out} {l0 l1 : Option AV} {x : Int64} {L2 : List (Nat × AV)} {St : List AV} {S : SS} : ev c 50 9 [l0, l1] L2 (aL x :: St) S = ev c 50 10 [none, none] ((0, aL x) :: kil2 L2 0) St S := ev_go i50_9 rfl
theorem i50_10 : insAt 50 10 = some (.lload_n 0, 1, (0, 0, 0, 0), 0) := rfl
theorem s50_10 {c : Nat → List AV → SS → Option Out} {l0 l1 : Option AV} {x : Int64} {L2 : List (Nat × AV)} {St : List AV} {S : SS} (h : ldL L2 0 = some x) : ev c 50 10 [l0, l1] L2 St S = ev c 50 11 [l0, l1] L2 (aL x :: St) S := ev_go i50_10 (by simp only [stepI]; exact (congrArg (fun q => match q with | some x => nx (10 + 1) [l0, l1] L2 (aL x :: St) S | none => none) h))
theorem i50_11 : insAt 50 11 = some (.ldc2_w 316, 3, (140, 0, 0, 0), 3689348814741910323) := rfl
theorem s50_11 {c : Nat → List AV → SS → Option Out} {l0 l1 : Option AV} {L2 : List (Nat × AV)} {St : List AV} {S : SS} : ev c 50 11 [l0, l1] L2 St S = ev c 50 14 [l0, l1] L2 (aL 3689348814741910323 :: St) S := ev_go i50_11 rfl
theorem i50_14 : insAt 50 14 = some (.land, 1, (0, 0, 0, 0), 0) := rfl
theorem s50_14 {c : Nat → List AV → SS → Option Out} {l0 l1 : Option AV} {x y : Int64} {L2 : List (Nat × AV)} {St : List AV} {S : SS} : ev c 50 14 [l0, l1] L2 (aL y :: aL x :: St) S = ev c 50 15 [l0, l1] L2 (aL (x &&& y) :: St) S := ev_go i50_14 rfl
theorem i50_15 : insAt 50 15 = some (.lload_n 0, 1, (0, 0, 0, 0), 0) := rfl
theorem s50_15 {c : Nat → List AV → SS → Option Out} {l0 l1 : Option AV} {x : Int64} {L2 : List (Nat × AV)} {St : List AV} {S : SS} (h : ldL L2 0 = some x) : ev c 50 15 [l0, l1] L2 St S = ev c 50 16 [l0, l1] L2 (aL x :: St) S := ev_go i50_15 (by simp only [stepI]; exact (congrArg (fun q => match q with | some x => nx (15 + 1) [l0, l1] L2 (aL x :: St) S | none => none) h))
theorem i50_16 : insAt 50 16 = some (.iconst 2, 1, (0, 0, 0, 0), 0) := rfl
theorem s50_16 {c : Nat → List AV → SS → Option Out} {l0 l1 : Option AV} {L2 : List (Nat × AV)} {St : List AV} {S : SS} : ev c 50 16 [l0, l1] L2 St S = ev c 50 17 [l0, l1] L2 (aI 2 :: St) S := ev_go i50_16 rfl
theorem i50_17 : insAt 50 17 = some (.lushr, 1, (0, 0, 0, 0), 0) := rfl
theorem s50_17 {c : Nat → List AV → SS → Option Out} {l0 l1 : Option AV} {x : Int64} {y : Int32} {L2 : List (Nat × AV)} {St : List AV} {S : SS} : ev c 50 17 [l0, l1] L2 (aI y :: aL x :: St) S = ev c 50 18 [l0, l1] L2 (aL ((x.toUInt64 >>> (y.toInt64.toUInt64 &&& Int64.toUInt64 63)).toInt64) :: St) S := ev_go i50_17 rfl
theorem i50_18 : insAt 50 18 = some (.ldc2_w 316, 3, (140, 0, 0, 0), 3689348814741910323) := rfl
theorem s50_18 {c : Nat → List AV → SS → Option Out} {l0 l1 : Option AV} {L2 : List (Nat × AV)} {St : List AV} {S : SS} : ev c 50 18 [l0, l1] L2 St S = ev c 50 21 [l0, l1] L2 (aL 3689348814741910323 :: St) S := ev_go i50_18 rfl
theorem i50_21 : insAt 50 21 = some (.land, 1, (0, 0, 0, 0), 0) := rfl
theorem s50_21 {c : Nat → List AV → SS → Option Out} {l0 l1 : Option AV} {x y : Int64} {L2 : List (Nat × AV)} {St : List AV} {S : SS} : ev c 50 21 [l0, l1] L2 (aL y :: aL x :: St) S = ev c 50 22 [l0, l1] L2 (aL (x &&& y) :: St) S := ev_go i50_21 rfl
theorem i50_22 : insAt 50 22 = some (.ladd, 1, (0, 0, 0, 0), 0) := rfl
theorem s50_22 {c : Nat → List AV → SS → Option Out} {l0 l1 : Option AV} {x y : Int64} {L2 : List (Nat × AV)} {St : List AV} {S : SS} : ev c 50 22 [l0, l1] L2 (aL y :: aL x :: St) S = ev c 50 23 [l0, l1] L2 (aL (x + y) :: St) S := ev_go i50_22 rfl
theorem i50_23 : insAt 50 23 = some (.lstore_n 0, 1, (0, 0, 0, 0), 0) := rfl
theorem s50_23 {c : Nat → List AV → SS → Option Out} {l0 l1 : Option AV} {x : Int64} {L2 : List (Nat × AV)} {St : List AV} {S : SS} : ev c 50 23 [l0, l1] L2 (aL x :: St) S = ev c 50 24 [none, none] ((0, aL x) :: kil2 L2 0) St S := ev_go i50_23 rfl
theorem i50_24 : insAt 50 24 = some (.lload_n 0, 1, (0, 0, 0, 0), 0) := rfl
theorem s50_24 {c : Nat → List AV → SS → Option Out} {l0 l1 : Option AV} {x : Int64} {L2 : List (Nat × AV)} {St : List AV} {S : SS} (h : ldL L2 0 = some x) : ev c 50 24 [l0, l1] L2 St S = ev c 50 25 [l0, l1] L2 (aL x :: St) S := ev_go i50_24 (by simp only [stepI]; exact (congrArg (fun q => match q with | some x => nx (24 + 1) [l0, l1] L2 (aL x :: St) S | none => none) h))
theorem i50_25 : insAt 50 25 = some (.lload_n 0, 1, (0, 0, 0, 0), 0) := rfl
theorem s50_25 {c : Nat → List AV → SS → Option Out} {l0 l1 : Option AV} {x : Int64} {L2 : List (Nat × AV)} {St : List AV} {S : SS} (h : ldL L2 0 = some x) : ev c 50 25 [l0, l1] L2 St S = ev c 50 26 [l0, l1] L2 (aL x :: St) S := ev_go i50_25 (by simp only [stepI]; exact (congrArg (fun q => match q with | some x => nx (25 + 1) [l0, l1] L2 (aL x :: St) S | none => none) h))
theorem i50_26 : insAt 50 26 = some (.iconst 4, 1, (0, 0, 0, 0), 0) := rfl
theorem s50_26 {c : Nat → List AV → SS → Option Out} {l0 l1 : Option AV} {L2 : List (Nat × AV)} {St : List AV} {S : SS} : ev c 50 26 [l0, l1] L2 St S = ev c 50 27 [l0, l1] L2 (aI 4 :: St) S := ev_go i50_26 rfl
theorem i50_27 : insAt 50 27 = some (.lushr, 1, (0, 0, 0, 0), 0) := rfl
theorem s50_27 {c : Nat → List AV → SS → Option Out} {l0 l1 : Option AV} {x : Int64} {y : Int32} {L2 : List (Nat × AV)} {St : List AV} {S : SS} : ev c 50 27 [l0, l1] L2 (aI y :: aL x :: St) S = ev c 50 28 [l0, l1] L2 (aL ((x.toUInt64 >>> (y.toInt64.toUInt64 &&& Int64.toUInt64 63)).toInt64) :: St) S := ev_go i50_27 rfl
theorem i50_28 : insAt 50 28 = some (.ladd, 1, (0, 0, 0, 0), 0) := rfl
theorem s50_28 {c : Nat → List AV → SS → Option Out} {l0 l1 : Option AV} {x y : Int64} {L2 : List (Nat × AV)} {St : List AV} {S : SS} : ev c 50 28 [l0, l1] L2 (aL y :: aL x :: St) S = ev c 50 29 [l0, l1] L2 (aL (x + y) :: St) S := ev_go i50_28 rfl
theorem i50_29 : insAt 50 29 = some (.ldc2_w 318, 3, (141, 0, 0, 0), 1085102592571150095) := rfl
theorem s50_29 {c : Nat → List AV → SS → Option Out} {l0 l1 : Option AV} {L2 : List (Nat × AV)} {St : List AV} {S : SS} : ev c 50 29 [l0, l1] L2 St S = ev c 50 32 [l0, l1] L2 (aL 1085102592571150095 :: St) S := ev_go i50_29 rfl
theorem i50_32 : insAt 50 32 = some (.land, 1, (0, 0, 0, 0), 0) := rfl
theorem s50_32 {c : Nat → List AV → SS → Option Out} {l0 l1 : Option AV} {x y : Int64} {L2 : List (Nat × AV)} {St : List AV} {S : SS} : ev c 50 32 [l0, l1] L2 (aL y :: aL x :: St) S = ev c 50 33 [l0, l1] L2 (aL (x &&& y) :: St) S := ev_go i50_32 rfl
theorem i50_33 : insAt 50 33 = some (.lstore_n 0, 1, (0, 0, 0, 0), 0) := rfl
theorem s50_33 {c : Nat → List AV → SS → Option Out} {l0 l1 : Option AV} {x : Int64} {L2 : List (Nat × AV)} {St : List AV} {S : SS} : ev c 50 33 [l0, l1] L2 (aL x :: St) S = ev c 50 34 [none, none] ((0, aL x) :: kil2 L2 0) St S := ev_go i50_33 rfl
theorem i50_34 : insAt 50 34 = some (.lload_n 0, 1, (0, 0, 0, 0), 0) := rfl
theorem s50_34 {c : Nat → List AV → SS → Option Out} {l0 l1 : Option AV} {x : Int64} {L2 : List (Nat × AV)} {St : List AV} {S : SS} (h : ldL L2 0 = some x) : ev c 50 34 [l0, l1] L2 St S = ev c 50 35 [l0, l1] L2 (aL x :: St) S := ev_go i50_34 (by simp only [stepI]; exact (congrArg (fun q => match q with | some x => nx (34 + 1) [l0, l1] L2 (aL x :: St) S | none => none) h))
theorem i50_35 : insAt 50 35 = some (.lload_n 0, 1, (0, 0, 0, 0), 0) := rfl
theorem s50_35 {c : Nat → List AV → SS → Option Out} {l0 l1 : Option AV} {x : Int64} {L2 : List (Nat × AV)} {St : List AV} {S : SS} (h : ldL L2 0 = some x) : ev c 50 35 [l0, l1] L2 St S = ev c 50 36 [l0, l1] L2 (aL x :: St) S := ev_go i50_35 (by simp only [stepI]; exact (congrArg (fun q => match q with | some x => nx (35 + 1) [l0, l1] L2 (aL x :: St) S | none => none) h))
theorem i50_36 : insAt 50 36 = some (.bipush 8, 2, (0, 0, 0, 0), 0) := rfl
theorem s50_36 {c : Nat → List AV → SS → Option Out} {l0 l1 : Option AV} {L2 : List (Nat × AV)} {St : List AV} {S : SS} : ev c 50 36 [l0, l1] L2 St S = ev c 50 38 [l0, l1] L2 (aI 8 :: St) S := ev_go i50_36 rfl
theorem i50_38 : insAt 50 38 = some (.lushr, 1, (0, 0, 0, 0), 0) := rfl
theorem s50_38 {c : Nat → List AV → SS → Option Out} {l0 l1 : Option AV} {x : Int64} {y : Int32} {L2 : List (Nat × AV)} {St : List AV} {S : SS} : ev c 50 38 [l0, l1] L2 (aI y :: aL x :: St) S = ev c 50 39 [l0, l1] L2 (aL ((x.toUInt64 >>> (y.toInt64.toUInt64 &&& Int64.toUInt64 63)).toInt64) :: St) S := ev_go i50_38 rfl
theorem i50_39 : insAt 50 39 = some (.ladd, 1, (0, 0, 0, 0), 0) := rfl
theorem s50_39 {c : Nat → List AV → SS → Option Out} {l0 l1 : Option AV} {x y : Int64} {L2 : List (Nat × AV)} {St : List AV} {S : SS} : ev c 50 39 [l0, l1] L2 (aL y :: aL x :: St) S = ev c 50 40 [l0, l1] L2 (aL (x + y) :: St) S := ev_go i50_39 rfl
theorem i50_40 : insAt 50 40 = some (.lstore_n 0, 1, (0, 0, 0, 0), 0) := rfl
theorem s50_40 {c : Nat → List AV → SS → Option Out} {l0 l1 : Option AV} {x : Int64} {L2 : List (Nat × AV)} {St : List AV} {S : SS} : ev c 50 40 [l0, l1] L2 (aL x :: St) S = ev c 50 41 [none, none] ((0, aL x) :: kil2 L2 0) St S := ev_go i50_40 rfl
theorem i50_41 : insAt 50 41 = some (.lload_n 0, 1, (0, 0, 0, 0), 0) := rfl
theorem s50_41 {c : Nat → List AV → SS → Option Out} {l0 l1 : Option AV} {x : Int64} {L2 : List (Nat × AV)} {St : List AV} {S : SS} (h : ldL L2 0 = some x) : ev c 50 41 [l0, l1] L2 St S = ev c 50 42 [l0, l1] L2 (aL x :: St) S := ev_go i50_41 (by simp only [stepI]; exact (congrArg (fun q => match q with | some x => nx (41 + 1) [l0, l1] L2 (aL x :: St) S | none => none) h))
theorem i50_42 : insAt 50 42 = some (.lload_n 0, 1, (0, 0, 0, 0), 0) := rfl
theorem s50_42 {c : Nat → List AV → SS → Option Out} {l0 l1 : Option AV} {x : Int64} {L2 : List (Nat × AV)} {St : List AV} {S : SS} (h : ldL L2 0 = some x) : ev c 50 42 [l0, l1] L2 St S = ev c 50 43 [l0, l1] L2 (aL x :: St) S := ev_go i50_42 (by simp only [stepI]; exact (congrArg (fun q => match q with | some x => nx (42 + 1) [l0, l1] L2 (aL x :: St) S | none => none) h))
theorem i50_43 : insAt 50 43 = some (.bipush 16, 2, (0, 0, 0, 0), 0) := rfl
theorem s50_43 {c : Nat → List AV → SS → Option Out} {l0 l1 : Option AV} {L2 : List (Nat × AV)} {St : List AV} {S : SS} : ev c 50 43 [l0, l1] L2 St S = ev c 50 45 [l0, l1] L2 (aI 16 :: St) S := ev_go i50_43 rfl
theorem i50_45 : insAt 50 45 = some (.lushr, 1, (0, 0, 0, 0), 0) := rfl
theorem s50_45 {c : Nat → List AV → SS → Option Out} {l0 l1 : Option AV} {x : Int64} {y : Int32} {L2 : List (Nat × AV)} {St : List AV} {S : SS} : ev c 50 45 [l0, l1] L2 (aI y :: aL x :: St) S = ev c 50 46 [l0, l1] L2 (aL ((x.toUInt64 >>> (y.toInt64.toUInt64 &&& Int64.toUInt64 63)).toInt64) :: St) S := ev_go i50_45 rfl
theorem i50_46 : insAt 50 46 = some (.ladd, 1, (0, 0, 0, 0), 0) := rfl
theorem s50_46 {c : Nat → List AV → SS → Option Out} {l0 l1 : Option AV} {x y : Int64} {L2 : List (Nat × AV)} {St : List AV} {S : SS} : ev c 50 46 [l0, l1] L2 (aL y :: aL x :: St) S = ev c 50 47 [l0, l1] L2 (aL (x + y) :: St) S := ev_go i50_46 rfl
theorem i50_47 : insAt 50 47 = some (.lstore_n 0, 1, (0, 0, 0, 0), 0) := rfl
theorem s50_47 {c : Nat → List AV → SS → Option Out} {l0 l1 : Option AV} {x : Int64} {L2 : List (Nat × AV)} {St : List AV} {S : SS} : ev c 50 47 [l0, l1] L2 (aL x :: St) S = ev c 50 48 [none, none] ((0, aL x) :: kil2 L2 0) St S := ev_go i50_47 rfl
theorem i50_48 : insAt 50 48 = some (.lload_n 0, 1, (0, 0, 0, 0), 0) := rfl
theorem s50_48 {c : Nat → List AV → SS → Option Out} {l0 l1 : Option AV} {x : Int64} {L2 : List (Nat × AV)} {St : List AV} {S : SS} (h : ldL L2 0 = some x) : ev c 50 48 [l0, l1] L2 St S = ev c 50 49 [l0, l1] L2 (aL x :: St) S := ev_go i50_48 (by simp only [stepI]; exact (congrArg (fun q => match q with | some x => nx (48 + 1) [l0, l1] L2 (aL x :: St) S | none => none) h))
theorem i50_49 : insAt 50 49 = some (.lload_n 0, 1, (0, 0, 0, 0), 0) := rfl
theorem s50_49 {c : Nat → List AV → SS → Option Out} {l0 l1 : Option AV} {x : Int64} {L2 : List (Nat × AV)} {St : List AV} {S : SS} (h : ldL L2 0 = some x) : ev c 50 49 [l0, l1] L2 St S = ev c 50 50 [l0, l1] L2 (aL x :: St) S := ev_go i50_49 (by simp only [stepI]; exact (congrArg (fun q => match q with | some x => nx (49 + 1) [l0, l1] L2 (aL x :: St) S | none => none) h))
theorem i50_50 : insAt 50 50 = some (.bipush 32, 2, (0, 0, 0, 0), 0) := rfl
theorem s50_50 {c : Nat → List AV → SS → Option Out} {l0 l1 : Option AV} {L2 : List (Nat × AV)} {St : List AV} {S : SS} : ev c 50 50 [l0, l1] L2 St S = ev c 50 52 [l0, l1] L2 (aI 32 :: St) S := ev_go i50_50 rfl
theorem i50_52 : insAt 50 52 = some (.lushr, 1, (0, 0, 0, 0), 0) := rfl
theorem s50_52 {c : Nat → List AV → SS → Option Out} {l0 l1 : Option AV} {x : Int64} {y : Int32} {L2 : List (Nat × AV)} {St : List AV} {S : SS} : ev c 50 52 [l0, l1] L2 (aI y :: aL x :: St) S = ev c 50 53 [l0, l1] L2 (aL ((x.toUInt64 >>> (y.toInt64.toUInt64 &&& Int64.toUInt64 63)).toInt64) :: St) S := ev_go i50_52 rfl
theorem i50_53 : insAt 50 53 = some (.ladd, 1, (0, 0, 0, 0), 0) := rfl
theorem s50_53 {c : Nat → List AV → SS → Option Out} {l0 l1 : Option AV} {x y : Int64} {L2 : List (Nat × AV)} {St : List AV} {S : SS} : ev c 50 53 [l0, l1] L2 (aL y :: aL x :: St) S = ev c 50 54 [l0, l1] L2 (aL (x + y) :: St) S := ev_go i50_53 rfl
theorem i50_54 : insAt 50 54 = some (.lstore_n 0, 1, (0, 0, 0, 0), 0) := rfl
theorem s50_54 {c : Nat → List AV → SS → Option Out} {l0 l1 : Option AV} {x : Int64} {L2 : List (Nat × AV)} {St : List AV} {S : SS} : ev c 50 54 [l0, l1] L2 (aL x :: St) S = ev c 50 55 [none, none] ((0, aL x) :: kil2 L2 0) St S := ev_go i50_54 rfl
theorem i50_55 : insAt 50 55 = some (.lload_n 0, 1, (0, 0, 0, 0), 0) := rfl
theorem s50_55 {c : Nat → List AV → SS → Option Out} {l0 l1 : Option AV} {x : Int64} {L2 : List (Nat × AV)} {St : List AV} {S : SS} (h : ldL L2 0 = some x) : ev c 50 55 [l0, l1] L2 St S = ev c 50 56 [l0, l1] L2 (aL x :: St) S := ev_go i50_55 (by simp only [stepI]; exact (congrArg (fun q => match q with | some x => nx (55 + 1) [l0, l1] L2 (aL x :: St) S | none => none) h))
theorem i50_56 : insAt 50 56 = some (.l2i, 1, (0, 0, 0, 0), 0) := rfl
theorem s50_56 {c : Nat → List AV → SS → Option Out} {l0 l1 : Option AV} {x : Int64} {L2 : List (Nat × AV)} {St : List AV} {S : SS} : ev c 50 56 [l0, l1] L2 (aL x :: St) S = ev c 50 57 [l0, l1] L2 (aI x.toInt32 :: St) S := ev_go i50_56 rfl
theorem i50_57 : insAt 50 57 = some (.bipush 127, 2, (0, 0, 0, 0), 0) := rfl
theorem s50_57 {c : Nat → List AV → SS → Option Out} {l0 l1 : Option AV} {L2 : List (Nat × AV)} {St : List AV} {S : SS} : ev c 50 57 [l0, l1] L2 St S = ev c 50 59 [l0, l1] L2 (aI 127 :: St) S := ev_go i50_57 rfl
theorem i50_59 : insAt 50 59 = some (.iand, 1, (0, 0, 0, 0), 0) := rfl
theorem s50_59 {c : Nat → List AV → SS → Option Out} {l0 l1 : Option AV} {x y : Int32} {L2 : List (Nat × AV)} {St : List AV} {S : SS} : ev c 50 59 [l0, l1] L2 (aI y :: aI x :: St) S = ev c 50 60 [l0, l1] L2 (aI (x &&& y) :: St) S := ev_go i50_59 rfl
theorem i50_60 : insAt 50 60 = some (.ireturn, 1, (0, 0, 0, 0), 0) := rfl
theorem s50_60 {c : Nat → List AV → SS → Option Out} {l0 l1 : Option AV} {x : Int32} {L2 : List (Nat × AV)} {S : SS} : ev c 50 60 [l0, l1] L2 [aI x] S = some (.inl (some (aI x)), S) := ev_end i50_60 rfl
theorem m50 {d : Nat} {a0 : Int64} {S : SS} : evm (d + 1) 50 [aL a0] S = ev (evm d) 50 0 [none, none] [(0, aL a0)] [] S := evm_s (n := 2) rfl (Nat.le_of_ble_eq_true rfl) rfl rfl
/-! java/lang/StringBuilder.setLength(I)V -/
theorem i172_0 : insAt 172 0 = some (.aload_n 0, 1, (0, 0, 0, 0), 0) := rfl
theorem s172_0 {c : Nat → List AV → SS → Option Out} {l1 : Option AV} {o : OId} {L2 : List (Nat × AV)} {St : List AV} {S : SS} : ev c 172 0 [some (aR o), l1] L2 St S = ev c 172 1 [some (aR o), l1] L2 (aR o :: St) S := ev_go i172_0 rfl
theorem i172_1 : insAt 172 1 = some (.iload_n 1, 1, (0, 0, 0, 0), 0) := rfl
theorem s172_1 {c : Nat → List AV → SS → Option Out} {l0 : Option AV} {x : Int32} {L2 : List (Nat × AV)} {St : List AV} {S : SS} : ev c 172 1 [l0, some (aI x)] L2 St S = ev c 172 2 [l0, some (aI x)] L2 (aI x :: St) S := ev_go i172_1 rfl
theorem i172_2 : insAt 172 2 = some (.invokespecial 333, 3, (173, 1, 7, 1), 299) := rfl
theorem s172_2 {c : Nat → List AV → SS → Option Out} {l0 l1 : Option AV} {a0 : Int32} {j t : Nat} {L2 : List (Nat × AV)} {S : SS} : ev c 172 2 [l0, l1] L2 [aI a0, aR (1, j, t)] S = ck (c 173 [aR (1, j, t), aI a0] S) (fun v S' => ev c 172 5 [l0, l1] L2 (v.toList ++ []) S') := ev_call i172_2 rfl
theorem i172_5 : insAt 172 5 = some (.return_, 1, (0, 0, 0, 0), 0) := rfl
theorem s172_5 {c : Nat → List AV → SS → Option Out} {l0 l1 : Option AV} {L2 : List (Nat × AV)} {S : SS} : ev c 172 5 [l0, l1] L2 [] S = some (.inl none, S) := ev_end i172_5 rfl
theorem m172 {d : Nat} {o : OId} {a0 : Int32} {S : SS} : evm (d + 1) 172 [aR o, aI a0] S = ev (evm d) 172 0 [some (aR o), some (aI a0)] [] [] S := evm_s (n := 2) rfl (Nat.le_of_ble_eq_true rfl) rfl rfl
/-! java/lang/AbstractStringBuilder.setLength(I)V -/
theorem i173_0 : insAt 173 0 = some (.iload_n 1, 1, (0, 0, 0, 0), 0) := rfl
theorem s173_0 {c : Nat → List AV → SS → Option Out} {l0 : Option AV} {x : Int32} {L2 : List (Nat × AV)} {St : List AV} {S : SS} : ev c 173 0 [l0, some (aI x)] L2 St S = ev c 173 1 [l0, some (aI x)] L2 (aI x :: St) S := ev_go i173_0 rfl
theorem i173_1 : insAt 173 1 = some (.ifCond .ge 12, 3, (0, 0, 0, 0), 0) := rfl
theorem s173_1 {c : Nat → List AV → SS → Option Out} {l0 l1 : Option AV} {x : Int32} {L2 : List (Nat × AV)} {St : List AV} {S : SS} : ev c 173 1 [l0, l1] L2 (aI x :: St) S = if 0 ≤ x then ev c 173 13 [l0, l1] L2 St S else ev c 173 4 [l0, l1] L2 St S := ev_br i173_1 rfl
theorem i173_4 : insAt 173 4 = some (.new 129, 3, (3, 0, 0, 0), 300) := rfl
theorem i173_7 : insAt 173 7 = some (.dup, 1, (0, 0, 0, 0), 0) := rfl
theorem s173_7 {c : Nat → List AV → SS → Option Out} {l0 l1 : Option AV} {x : OId} {L2 : List (Nat × AV)} {St : List AV} {S : SS} : ev c 173 7 [l0, l1] L2 (aR x :: St) S = ev c 173 8 [l0, l1] L2 (aR x :: aR x :: St) S := ev_go i173_7 rfl
theorem i173_8 : insAt 173 8 = some (.iload_n 1, 1, (0, 0, 0, 0), 0) := rfl
theorem s173_8 {c : Nat → List AV → SS → Option Out} {l0 : Option AV} {x : Int32} {L2 : List (Nat × AV)} {St : List AV} {S : SS} : ev c 173 8 [l0, some (aI x)] L2 St S = ev c 173 9 [l0, some (aI x)] L2 (aI x :: St) S := ev_go i173_8 rfl
theorem i173_13 : insAt 173 13 = some (.aload_n 0, 1, (0, 0, 0, 0), 0) := rfl
theorem s173_13 {c : Nat → List AV → SS → Option Out} {l1 : Option AV} {o : OId} {L2 : List (Nat × AV)} {St : List AV} {S : SS} : ev c 173 13 [some (aR o), l1] L2 St S = ev c 173 14 [some (aR o), l1] L2 (aR o :: St) S := ev_go i173_13 rfl
theorem i173_14 : insAt 173 14 = some (.iload_n 1, 1, (0, 0, 0, 0), 0) := rfl
theorem s173_14 {c : Nat → List AV → SS → Option Out} {l0 : Option AV} {x : Int32} {L2 : List (Nat × AV)} {St : List AV} {S : SS} : ev c 173 14 [l0, some (aI x)] L2 St S = ev c 173 15 [l0, some (aI x)] L2 (aI x :: St) S := ev_go i173_14 rfl
theorem i173_15 : insAt 173 15 = some (.invokevirtual 100, 3, (176, 1, 4, 1), 301) := rfl
theorem s173_15 {c : Nat → List AV → SS → Option Out} {l0 l1 : Option AV} {a0 : Int32} {j t : Nat} {L2 : List (Nat × AV)} {S : SS} : ev c 173 15 [l0, l1] L2 [aI a0, aR (1, j, t)] S = ck (c 176 [aR (1, j, t), aI a0] S) (fun v S' => ev c 173 18 [l0, l1] L2 (v.toList ++ []) S') := ev_call i173_15 rfl
theorem i173_18 : insAt 173 18 = some (.aload_n 0, 1, (0, 0, 0, 0), 0) := rfl
theorem s173_18 {c : Nat → List AV → SS → Option Out} {l1 : Option AV} {o : OId} {L2 : List (Nat × AV)} {St : List AV} {S : SS} : ev c 173 18 [some (aR o), l1] L2 St S = ev c 173 19 [some (aR o), l1] L2 (aR o :: St) S := ev_go i173_18 rfl
theorem i173_19 : insAt 173 19 = some (.getfield 79, 3, (1, 3, 0, 0), 302) := rfl
theorem s173_19 {c : Nat → List AV → SS → Option Out} {l0 l1 : Option AV} {j t : Nat} {L2 : List (Nat × AV)} {St : List AV} {S : SS} : ev c 173 19 [l0, l1] L2 (aR (1, j, t) :: St) S = ev c 173 22 [l0, l1] L2 (aI (S.1 (1, j, t) 3) :: St) S := ev_go i173_19 rfl
theorem i173_22 : insAt 173 22 = some (.iload_n 1, 1, (0, 0, 0, 0), 0) := rfl
theorem s173_22 {c : Nat → List AV → SS → Option Out} {l0 : Option AV} {x : Int32} {L2 : List (Nat × AV)} {St : List AV} {S : SS} : ev c 173 22 [l0, some (aI x)] L2 St S = ev c 173 23 [l0, some (aI x)] L2 (aI x :: St) S := ev_go i173_22 rfl
theorem i173_23 : insAt 173 23 = some (.if_icmp .ge 40, 3, (0, 0, 0, 0), 0) := rfl
theorem s173_23 {c : Nat → List AV → SS → Option Out} {l0 l1 : Option AV} {x y : Int32} {L2 : List (Nat × AV)} {St : List AV} {S : SS} : ev c 173 23 [l0, l1] L2 (aI y :: aI x :: St) S = if y ≤ x then ev c 173 63 [l0, l1] L2 St S else ev c 173 26 [l0, l1] L2 St S := ev_br i173_23 rfl
theorem i173_26 : insAt 173 26 = some (.aload_n 0, 1, (0, 0, 0, 0), 0) := rfl
theorem s173_26 {c : Nat → List AV → SS → Option Out} {l1 : Option AV} {o : OId} {L2 : List (Nat × AV)} {St : List AV} {S : SS} : ev c 173 26 [some (aR o), l1] L2 St S = ev c 173 27 [some (aR o), l1] L2 (aR o :: St) S := ev_go i173_26 rfl
theorem i173_27 : insAt 173 27 = some (.invokevirtual 83, 3, (180, 0, 4, 1), 303) := rfl
theorem s173_27 {c : Nat → List AV → SS → Option Out} {l0 l1 : Option AV} {j t : Nat} {L2 : List (Nat × AV)} {S : SS} : ev c 173 27 [l0, l1] L2 [aR (1, j, t)] S = ck (c 180 [aR (1, j, t)] S) (fun v S' => ev c 173 30 [l0, l1] L2 (v.toList ++ []) S') := ev_call i173_27 rfl
theorem i173_30 : insAt 173 30 = some (.ifCond .eq 18, 3, (0, 0, 0, 0), 0) := rfl
theorem s173_30 {c : Nat → List AV → SS → Option Out} {l0 l1 : Option AV} {x : Int32} {L2 : List (Nat × AV)} {St : List AV} {S : SS} : ev c 173 30 [l0, l1] L2 (aI x :: St) S = if x = 0 then ev c 173 48 [l0, l1] L2 St S else ev c 173 33 [l0, l1] L2 St S := ev_br i173_30 rfl
theorem i173_33 : insAt 173 33 = some (.aload_n 0, 1, (0, 0, 0, 0), 0) := rfl
theorem s173_33 {c : Nat → List AV → SS → Option Out} {l1 : Option AV} {o : OId} {L2 : List (Nat × AV)} {St : List AV} {S : SS} : ev c 173 33 [some (aR o), l1] L2 St S = ev c 173 34 [some (aR o), l1] L2 (aR o :: St) S := ev_go i173_33 rfl
theorem i173_34 : insAt 173 34 = some (.getfield 15, 3, (1, 0, 0, 0), 73) := rfl
theorem s173_34 {c : Nat → List AV → SS → Option Out} {l0 l1 : Option AV} {j t : Nat} {L2 : List (Nat × AV)} {St : List AV} {S : SS} : ev c 173 34 [l0, l1] L2 (aR (1, j, t) :: St) S = ev c 173 37 [l0, l1] L2 (S.2.1 (1, j, t) 0 :: St) S := ev_go i173_34 rfl
theorem i173_37 : insAt 173 37 = some (.aload_n 0, 1, (0, 0, 0, 0), 0) := rfl
theorem s173_37 {c : Nat → List AV → SS → Option Out} {l1 : Option AV} {o : OId} {L2 : List (Nat × AV)} {St : List AV} {S : SS} : ev c 173 37 [some (aR o), l1] L2 St S = ev c 173 38 [some (aR o), l1] L2 (aR o :: St) S := ev_go i173_37 rfl
theorem i173_38 : insAt 173 38 = some (.getfield 79, 3, (1, 3, 0, 0), 302) := rfl
theorem s173_38 {c : Nat → List AV → SS → Option Out} {l0 l1 : Option AV} {j t : Nat} {L2 : List (Nat × AV)} {St : List AV} {S : SS} : ev c 173 38 [l0, l1] L2 (aR (1, j, t) :: St) S = ev c 173 41 [l0, l1] L2 (aI (S.1 (1, j, t) 3) :: St) S := ev_go i173_38 rfl
theorem i173_41 : insAt 173 41 = some (.iload_n 1, 1, (0, 0, 0, 0), 0) := rfl
theorem s173_41 {c : Nat → List AV → SS → Option Out} {l0 : Option AV} {x : Int32} {L2 : List (Nat × AV)} {St : List AV} {S : SS} : ev c 173 41 [l0, some (aI x)] L2 St S = ev c 173 42 [l0, some (aI x)] L2 (aI x :: St) S := ev_go i173_41 rfl
theorem i173_45 : insAt 173 45 = some (.goto 31, 3, (0, 0, 0, 0), 0) := rfl
theorem s173_45 {c : Nat → List AV → SS → Option Out} {l0 l1 : Option AV} {L2 : List (Nat × AV)} {St : List AV} {S : SS} : ev c 173 45 [l0, l1] L2 St S = ev c 173 76 [l0, l1] L2 St S := ev_go i173_45 rfl
theorem i173_48 : insAt 173 48 = some (.aload_n 0, 1, (0, 0, 0, 0), 0) := rfl
theorem s173_48 {c : Nat → List AV → SS → Option Out} {l1 : Option AV} {o : OId} {L2 : List (Nat × AV)} {St : List AV} {S : SS} : ev c 173 48 [some (aR o), l1] L2 St S = ev c 173 49 [some (aR o), l1] L2 (aR o :: St) S := ev_go i173_48 rfl
theorem i173_49 : insAt 173 49 = some (.getfield 15, 3, (1, 0, 0, 0), 73) := rfl
theorem s173_49 {c : Nat → List AV → SS → Option Out} {l0 l1 : Option AV} {j t : Nat} {L2 : List (Nat × AV)} {St : List AV} {S : SS} : ev c 173 49 [l0, l1] L2 (aR (1, j, t) :: St) S = ev c 173 52 [l0, l1] L2 (S.2.1 (1, j, t) 0 :: St) S := ev_go i173_49 rfl
theorem i173_52 : insAt 173 52 = some (.aload_n 0, 1, (0, 0, 0, 0), 0) := rfl
theorem s173_52 {c : Nat → List AV → SS → Option Out} {l1 : Option AV} {o : OId} {L2 : List (Nat × AV)} {St : List AV} {S : SS} : ev c 173 52 [some (aR o), l1] L2 St S = ev c 173 53 [some (aR o), l1] L2 (aR o :: St) S := ev_go i173_52 rfl
theorem i173_53 : insAt 173 53 = some (.getfield 79, 3, (1, 3, 0, 0), 302) := rfl
theorem s173_53 {c : Nat → List AV → SS → Option Out} {l0 l1 : Option AV} {j t : Nat} {L2 : List (Nat × AV)} {St : List AV} {S : SS} : ev c 173 53 [l0, l1] L2 (aR (1, j, t) :: St) S = ev c 173 56 [l0, l1] L2 (aI (S.1 (1, j, t) 3) :: St) S := ev_go i173_53 rfl
theorem i173_56 : insAt 173 56 = some (.iload_n 1, 1, (0, 0, 0, 0), 0) := rfl
theorem s173_56 {c : Nat → List AV → SS → Option Out} {l0 : Option AV} {x : Int32} {L2 : List (Nat × AV)} {St : List AV} {S : SS} : ev c 173 56 [l0, some (aI x)] L2 St S = ev c 173 57 [l0, some (aI x)] L2 (aI x :: St) S := ev_go i173_56 rfl
theorem i173_60 : insAt 173 60 = some (.goto 16, 3, (0, 0, 0, 0), 0) := rfl
theorem s173_60 {c : Nat → List AV → SS → Option Out} {l0 l1 : Option AV} {L2 : List (Nat × AV)} {St : List AV} {S : SS} : ev c 173 60 [l0, l1] L2 St S = ev c 173 76 [l0, l1] L2 St S := ev_go i173_60 rfl
theorem i173_63 : insAt 173 63 = some (.aload_n 0, 1, (0, 0, 0, 0), 0) := rfl
theorem s173_63 {c : Nat → List AV → SS → Option Out} {l1 : Option AV} {o : OId} {L2 : List (Nat × AV)} {St : List AV} {S : SS} : ev c 173 63 [some (aR o), l1] L2 St S = ev c 173 64 [some (aR o), l1] L2 (aR o :: St) S := ev_go i173_63 rfl
theorem i173_64 : insAt 173 64 = some (.getfield 79, 3, (1, 3, 0, 0), 302) := rfl
theorem s173_64 {c : Nat → List AV → SS → Option Out} {l0 l1 : Option AV} {j t : Nat} {L2 : List (Nat × AV)} {St : List AV} {S : SS} : ev c 173 64 [l0, l1] L2 (aR (1, j, t) :: St) S = ev c 173 67 [l0, l1] L2 (aI (S.1 (1, j, t) 3) :: St) S := ev_go i173_64 rfl
theorem i173_67 : insAt 173 67 = some (.iload_n 1, 1, (0, 0, 0, 0), 0) := rfl
theorem s173_67 {c : Nat → List AV → SS → Option Out} {l0 : Option AV} {x : Int32} {L2 : List (Nat × AV)} {St : List AV} {S : SS} : ev c 173 67 [l0, some (aI x)] L2 St S = ev c 173 68 [l0, some (aI x)] L2 (aI x :: St) S := ev_go i173_67 rfl
theorem i173_68 : insAt 173 68 = some (.if_icmp .le 8, 3, (0, 0, 0, 0), 0) := rfl
theorem s173_68 {c : Nat → List AV → SS → Option Out} {l0 l1 : Option AV} {x y : Int32} {L2 : List (Nat × AV)} {St : List AV} {S : SS} : ev c 173 68 [l0, l1] L2 (aI y :: aI x :: St) S = if x ≤ y then ev c 173 76 [l0, l1] L2 St S else ev c 173 71 [l0, l1] L2 St S := ev_br i173_68 rfl
theorem i173_71 : insAt 173 71 = some (.aload_n 0, 1, (0, 0, 0, 0), 0) := rfl
theorem s173_71 {c : Nat → List AV → SS → Option Out} {l1 : Option AV} {o : OId} {L2 : List (Nat × AV)} {St : List AV} {S : SS} : ev c 173 71 [some (aR o), l1] L2 St S = ev c 173 72 [some (aR o), l1] L2 (aR o :: St) S := ev_go i173_71 rfl
theorem i173_72 : insAt 173 72 = some (.iconst 1, 1, (0, 0, 0, 0), 0) := rfl
theorem s173_72 {c : Nat → List AV → SS → Option Out} {l0 l1 : Option AV} {L2 : List (Nat × AV)} {St : List AV} {S : SS} : ev c 173 72 [l0, l1] L2 St S = ev c 173 73 [l0, l1] L2 (aI 1 :: St) S := ev_go i173_72 rfl
theorem i173_73 : insAt 173 73 = some (.putfield 73, 3, (1, 2, 0, 0), 304) := rfl
theorem s173_73 {c : Nat → List AV → SS → Option Out} {l0 l1 : Option AV} {j t : Nat} {x : Int32} {L2 : List (Nat × AV)} {St : List AV} {S : SS} : ev c 173 73 [l0, l1] L2 (aI x :: aR (1, j, t) :: St) S = if x = 0 ∨ x = 1 then ev c 173 76 [l0, l1] L2 St (setI S.1 (1, j, t) 2 x, S.2) else none := ev_if i173_73 rfl
theorem i173_76 : insAt 173 76 = some (.aload_n 0, 1, (0, 0, 0, 0), 0) := rfl
theorem s173_76 {c : Nat → List AV → SS → Option Out} {l1 : Option AV} {o : OId} {L2 : List (Nat × AV)} {St : List AV} {S : SS} : ev c 173 76 [some (aR o), l1] L2 St S = ev c 173 77 [some (aR o), l1] L2 (aR o :: St) S := ev_go i173_76 rfl
theorem i173_77 : insAt 173 77 = some (.iload_n 1, 1, (0, 0, 0, 0), 0) := rfl
theorem s173_77 {c : Nat → List AV → SS → Option Out} {l0 : Option AV} {x : Int32} {L2 : List (Nat × AV)} {St : List AV} {S : SS} : ev c 173 77 [l0, some (aI x)] L2 St S = ev c 173 78 [l0, some (aI x)] L2 (aI x :: St) S := ev_go i173_77 rfl
theorem i173_78 : insAt 173 78 = some (.putfield 79, 3, (1, 3, 0, 0), 302) := rfl
theorem s173_78 {c : Nat → List AV → SS → Option Out} {l0 l1 : Option AV} {j t : Nat} {x : Int32} {L2 : List (Nat × AV)} {St : List AV} {S : SS} : ev c 173 78 [l0, l1] L2 (aI x :: aR (1, j, t) :: St) S = ev c 173 81 [l0, l1] L2 St (setI S.1 (1, j, t) 3 x, S.2) := ev_go i173_78 rfl
theorem i173_81 : insAt 173 81 = some (.return_, 1, (0, 0, 0, 0), 0) := rfl
theorem s173_81 {c : Nat → List AV → SS → Option Out} {l0 l1 : Option AV} {L2 : List (Nat × AV)} {S : SS} : ev c 173 81 [l0, l1] L2 [] S = some (.inl none, S) := ev_end i173_81 rfl
theorem m173 {d : Nat} {o : OId} {a0 : Int32} {S : SS} : evm (d + 1) 173 [aR o, aI a0] S = ev (evm d) 173 0 [some (aR o), some (aI a0)] [] [] S := evm_s (n := 2) rfl (Nat.le_of_ble_eq_true rfl) rfl rfl
/-! java/lang/StringBuilder.append(Ljava/lang/String;)Ljava/lang/StringBuilder; -/
theorem i174_0 : insAt 174 0 = some (.aload_n 0, 1, (0, 0, 0, 0), 0) := rfl
theorem s174_0 {c : Nat → List AV → SS → Option Out} {l1 : Option AV} {o : OId} {L2 : List (Nat × AV)} {St : List AV} {S : SS} : ev c 174 0 [some (aR o), l1] L2 St S = ev c 174 1 [some (aR o), l1] L2 (aR o :: St) S := ev_go i174_0 rfl
theorem i174_1 : insAt 174 1 = some (.aload_n 1, 1, (0, 0, 0, 0), 0) := rfl
theorem s174_1 {c : Nat → List AV → SS → Option Out} {l0 : Option AV} {o : OId} {L2 : List (Nat × AV)} {St : List AV} {S : SS} : ev c 174 1 [l0, some (aR o)] L2 St S = ev c 174 2 [l0, some (aR o)] L2 (aR o :: St) S := ev_go i174_1 rfl
theorem i174_2 : insAt 174 2 = some (.invokespecial 29, 3, (175, 1, 7, 1), 305) := rfl
theorem s174_2 {c : Nat → List AV → SS → Option Out} {l0 l1 : Option AV} {a0 : OId} {j t : Nat} {L2 : List (Nat × AV)} {S : SS} : ev c 174 2 [l0, l1] L2 [aR a0, aR (1, j, t)] S = ck (c 175 [aR (1, j, t), aR a0] S) (fun v S' => ev c 174 5 [l0, l1] L2 (v.toList ++ []) S') := ev_call i174_2 rfl
theorem i174_5 : insAt 174 5 = some (.pop, 1, (0, 0, 0, 0), 0) := rfl
theorem s174_5 {c : Nat → List AV → SS → Option Out} {l0 l1 : Option AV} {x : OId} {L2 : List (Nat × AV)} {St : List AV} {S : SS} : ev c 174 5 [l0, l1] L2 (aR x :: St) S = ev c 174 6 [l0, l1] L2 (St) S := ev_go i174_5 rfl
theorem i174_6 : insAt 174 6 = some (.aload_n 0, 1, (0, 0, 0, 0), 0) := rfl
theorem s174_6 {c : Nat → List AV → SS → Option Out} {l1 : Option AV} {o : OId} {L2 : List (Nat × AV)} {St : List AV} {S : SS} : ev c 174 6 [some (aR o), l1] L2 St S = ev c 174 7 [some (aR o), l1] L2 (aR o :: St) S := ev_go i174_6 rfl
theorem i174_7 : insAt 174 7 = some (.areturn, 1, (0, 0, 0, 0), 0) := rfl
theorem s174_7 {c : Nat → List AV → SS → Option Out} {l0 l1 : Option AV} {o : OId} {L2 : List (Nat × AV)} {S : SS} : ev c 174 7 [l0, l1] L2 [aR o] S = some (.inl (some (aR o)), S) := ev_end i174_7 rfl
theorem s174_7N {c : Nat → List AV → SS → Option Out} {l0 l1 : Option AV} {L2 : List (Nat × AV)} {S : SS} : ev c 174 7 [l0, l1] L2 [aN] S = some (.inl (some aN), S) := ev_end i174_7 rfl
theorem m174 {d : Nat} {o : OId} {a0 : OId} {S : SS} : evm (d + 1) 174 [aR o, aR a0] S = ev (evm d) 174 0 [some (aR o), some (aR a0)] [] [] S := evm_s (n := 2) rfl (Nat.le_of_ble_eq_true rfl) rfl rfl
/-! java/lang/AbstractStringBuilder.append(Ljava/lang/String;)Ljava/lang/AbstractStringBuilder; -/
theorem i175_0 : insAt 175 0 = some (.aload_n 1, 1, (0, 0, 0, 0), 0) := rfl
theorem s175_0 {c : Nat → List AV → SS → Option Out} {l0 l2 : Option AV} {o : OId} {L2 : List (Nat × AV)} {St : List AV} {S : SS} : ev c 175 0 [l0, some (aR o), l2] L2 St S = ev c 175 1 [l0, some (aR o), l2] L2 (aR o :: St) S := ev_go i175_0 rfl
theorem i175_1 : insAt 175 1 = some (.ifnonnull 8, 3, (0, 0, 0, 0), 0) := rfl
theorem s175_1 {c : Nat → List AV → SS → Option Out} {l0 l1 l2 : Option AV} {j t : Nat} {L2 : List (Nat × AV)} {St : List AV} {S : SS} : ev c 175 1 [l0, l1, l2] L2 (aR (0, j, t) :: St) S = ev c 175 9 [l0, l1, l2] L2 St S := ev_go i175_1 rfl
theorem s175_1N {c : Nat → List AV → SS → Option Out} {l0 l1 l2 : Option AV} {L2 : List (Nat × AV)} {St : List AV} {S : SS} : ev c 175 1 [l0, l1, l2] L2 (aN :: St) S = ev c 175 4 [l0, l1, l2] L2 St S := ev_go i175_1 rfl
theorem i175_4 : insAt 175 4 = some (.aload_n 0, 1, (0, 0, 0, 0), 0) := rfl
theorem s175_4 {c : Nat → List AV → SS → Option Out} {l1 l2 : Option AV} {o : OId} {L2 : List (Nat × AV)} {St : List AV} {S : SS} : ev c 175 4 [some (aR o), l1, l2] L2 St S = ev c 175 5 [some (aR o), l1, l2] L2 (aR o :: St) S := ev_go i175_4 rfl
theorem i175_8 : insAt 175 8 = some (.areturn, 1, (0, 0, 0, 0), 0) := rfl
theorem s175_8 {c : Nat → List AV → SS → Option Out} {l0 l1 l2 : Option AV} {o : OId} {L2 : List (Nat × AV)} {S : SS} : ev c 175 8 [l0, l1, l2] L2 [aR o] S = some (.inl (some (aR o)), S) := ev_end i175_8 rfl
theorem s175_8N {c : Nat → List AV → SS → Option Out} {l0 l1 l2 : Option AV} {L2 : List (Nat × AV)} {S : SS} : ev c 175 8 [l0, l1, l2] L2 [aN] S = some (.inl (some aN), S) := ev_end i175_8 rfl
theorem i175_9 : insAt 175 9 = some (.aload_n 1, 1, (0, 0, 0, 0), 0) := rfl
theorem s175_9 {c : Nat → List AV → SS → Option Out} {l0 l2 : Option AV} {o : OId} {L2 : List (Nat × AV)} {St : List AV} {S : SS} : ev c 175 9 [l0, some (aR o), l2] L2 St S = ev c 175 10 [l0, some (aR o), l2] L2 (aR o :: St) S := ev_go i175_9 rfl
theorem i175_10 : insAt 175 10 = some (.invokevirtual 32, 3, (181, 0, 2, 0), 306) := rfl
theorem s175_10 {c : Nat → List AV → SS → Option Out} {l0 l1 l2 : Option AV} {j t : Nat} {L2 : List (Nat × AV)} {S : SS} : ev c 175 10 [l0, l1, l2] L2 [aR (0, j, t)] S = ck (c 181 [aR (0, j, t)] S) (fun v S' => ev c 175 13 [l0, l1, l2] L2 (v.toList ++ []) S') := ev_call i175_10 rfl
theorem i175_13 : insAt 175 13 = some (.istore_n 2, 1, (0, 0, 0, 0), 0) := rfl
theorem s175_13 {c : Nat → List AV → SS → Option Out} {l0 l1 l2 : Option AV} {x : Int32} {L2 : List (Nat × AV)} {St : List AV} {S : SS} : ev c 175 13 [l0, l1, l2] L2 (aI x :: St) S = ev c 175 14 [l0, l1, some (aI x)] (kil L2 2) St S := ev_go i175_13 rfl
theorem i175_14 : insAt 175 14 = some (.aload_n 0, 1, (0, 0, 0, 0), 0) := rfl
theorem s175_14 {c : Nat → List AV → SS → Option Out} {l1 l2 : Option AV} {o : OId} {L2 : List (Nat × AV)} {St : List AV} {S : SS} : ev c 175 14 [some (aR o), l1, l2] L2 St S = ev c 175 15 [some (aR o), l1, l2] L2 (aR o :: St) S := ev_go i175_14 rfl
theorem i175_15 : insAt 175 15 = some (.aload_n 0, 1, (0, 0, 0, 0), 0) := rfl
theorem s175_15 {c : Nat → List AV → SS → Option Out} {l1 l2 : Option AV} {o : OId} {L2 : List (Nat × AV)} {St : List AV} {S : SS} : ev c 175 15 [some (aR o), l1, l2] L2 St S = ev c 175 16 [some (aR o), l1, l2] L2 (aR o :: St) S := ev_go i175_15 rfl
theorem i175_16 : insAt 175 16 = some (.getfield 79, 3, (1, 3, 0, 0), 302) := rfl
theorem s175_16 {c : Nat → List AV → SS → Option Out} {l0 l1 l2 : Option AV} {j t : Nat} {L2 : List (Nat × AV)} {St : List AV} {S : SS} : ev c 175 16 [l0, l1, l2] L2 (aR (1, j, t) :: St) S = ev c 175 19 [l0, l1, l2] L2 (aI (S.1 (1, j, t) 3) :: St) S := ev_go i175_16 rfl
theorem i175_19 : insAt 175 19 = some (.iload_n 2, 1, (0, 0, 0, 0), 0) := rfl
theorem s175_19 {c : Nat → List AV → SS → Option Out} {l0 l1 : Option AV} {x : Int32} {L2 : List (Nat × AV)} {St : List AV} {S : SS} : ev c 175 19 [l0, l1, some (aI x)] L2 St S = ev c 175 20 [l0, l1, some (aI x)] L2 (aI x :: St) S := ev_go i175_19 rfl
theorem i175_20 : insAt 175 20 = some (.iadd, 1, (0, 0, 0, 0), 0) := rfl
theorem s175_20 {c : Nat → List AV → SS → Option Out} {l0 l1 l2 : Option AV} {x y : Int32} {L2 : List (Nat × AV)} {St : List AV} {S : SS} : ev c 175 20 [l0, l1, l2] L2 (aI y :: aI x :: St) S = ev c 175 21 [l0, l1, l2] L2 (aI (x + y) :: St) S := ev_go i175_20 rfl
theorem i175_21 : insAt 175 21 = some (.invokevirtual 100, 3, (176, 1, 4, 1), 301) := rfl
theorem s175_21 {c : Nat → List AV → SS → Option Out} {l0 l1 l2 : Option AV} {a0 : Int32} {j t : Nat} {L2 : List (Nat × AV)} {S : SS} : ev c 175 21 [l0, l1, l2] L2 [aI a0, aR (1, j, t)] S = ck (c 176 [aR (1, j, t), aI a0] S) (fun v S' => ev c 175 24 [l0, l1, l2] L2 (v.toList ++ []) S') := ev_call i175_21 rfl
theorem i175_24 : insAt 175 24 = some (.aload_n 0, 1, (0, 0, 0, 0), 0) := rfl
theorem s175_24 {c : Nat → List AV → SS → Option Out} {l1 l2 : Option AV} {o : OId} {L2 : List (Nat × AV)} {St : List AV} {S : SS} : ev c 175 24 [some (aR o), l1, l2] L2 St S = ev c 175 25 [some (aR o), l1, l2] L2 (aR o :: St) S := ev_go i175_24 rfl
theorem i175_25 : insAt 175 25 = some (.aload_n 0, 1, (0, 0, 0, 0), 0) := rfl
theorem s175_25 {c : Nat → List AV → SS → Option Out} {l1 l2 : Option AV} {o : OId} {L2 : List (Nat × AV)} {St : List AV} {S : SS} : ev c 175 25 [some (aR o), l1, l2] L2 St S = ev c 175 26 [some (aR o), l1, l2] L2 (aR o :: St) S := ev_go i175_25 rfl
theorem i175_26 : insAt 175 26 = some (.getfield 79, 3, (1, 3, 0, 0), 302) := rfl
theorem s175_26 {c : Nat → List AV → SS → Option Out} {l0 l1 l2 : Option AV} {j t : Nat} {L2 : List (Nat × AV)} {St : List AV} {S : SS} : ev c 175 26 [l0, l1, l2] L2 (aR (1, j, t) :: St) S = ev c 175 29 [l0, l1, l2] L2 (aI (S.1 (1, j, t) 3) :: St) S := ev_go i175_26 rfl
theorem i175_29 : insAt 175 29 = some (.aload_n 1, 1, (0, 0, 0, 0), 0) := rfl
theorem s175_29 {c : Nat → List AV → SS → Option Out} {l0 l2 : Option AV} {o : OId} {L2 : List (Nat × AV)} {St : List AV} {S : SS} : ev c 175 29 [l0, some (aR o), l2] L2 St S = ev c 175 30 [l0, some (aR o), l2] L2 (aR o :: St) S := ev_go i175_29 rfl
theorem i175_30 : insAt 175 30 = some (.invokevirtual 208, 3, (183, 2, 4, 1), 307) := rfl
theorem s175_30 {c : Nat → List AV → SS → Option Out} {l0 l1 l2 : Option AV} {a0 : Int32} {a1 : OId} {j t : Nat} {L2 : List (Nat × AV)} {S : SS} : ev c 175 30 [l0, l1, l2] L2 [aR a1, aI a0, aR (1, j, t)] S = ck (c 183 [aR (1, j, t), aI a0, aR a1] S) (fun v S' => ev c 175 33 [l0, l1, l2] L2 (v.toList ++ []) S') := ev_call i175_30 rfl
theorem i175_33 : insAt 175 33 = some (.aload_n 0, 1, (0, 0, 0, 0), 0) := rfl
theorem s175_33 {c : Nat → List AV → SS → Option Out} {l1 l2 : Option AV} {o : OId} {L2 : List (Nat × AV)} {St : List AV} {S : SS} : ev c 175 33 [some (aR o), l1, l2] L2 St S = ev c 175 34 [some (aR o), l1, l2] L2 (aR o :: St) S := ev_go i175_33 rfl
theorem i175_34 : insAt 175 34 = some (.dup, 1, (0, 0, 0, 0), 0) := rfl
theorem s175_34 {c : Nat → List AV → SS → Option Out} {l0 l1 l2 : Option AV} {x : OId} {L2 : List (Nat × AV)} {St : List AV} {S : SS} : ev c 175 34 [l0, l1, l2] L2 (aR x :: St) S = ev c 175 35 [l0, l1, l2] L2 (aR x :: aR x :: St) S := ev_go i175_34 rfl
theorem i175_35 : insAt 175 35 = some (.getfield 79, 3, (1, 3, 0, 0), 302) := rfl
theorem s175_35 {c : Nat → List AV → SS → Option Out} {l0 l1 l2 : Option AV} {j t : Nat} {L2 : List (Nat × AV)} {St : List AV} {S : SS} : ev c 175 35 [l0, l1, l2] L2 (aR (1, j, t) :: St) S = ev c 175 38 [l0, l1, l2] L2 (aI (S.1 (1, j, t) 3) :: St) S := ev_go i175_35 rfl
theorem i175_38 : insAt 175 38 = some (.iload_n 2, 1, (0, 0, 0, 0), 0) := rfl
theorem s175_38 {c : Nat → List AV → SS → Option Out} {l0 l1 : Option AV} {x : Int32} {L2 : List (Nat × AV)} {St : List AV} {S : SS} : ev c 175 38 [l0, l1, some (aI x)] L2 St S = ev c 175 39 [l0, l1, some (aI x)] L2 (aI x :: St) S := ev_go i175_38 rfl
theorem i175_39 : insAt 175 39 = some (.iadd, 1, (0, 0, 0, 0), 0) := rfl
theorem s175_39 {c : Nat → List AV → SS → Option Out} {l0 l1 l2 : Option AV} {x y : Int32} {L2 : List (Nat × AV)} {St : List AV} {S : SS} : ev c 175 39 [l0, l1, l2] L2 (aI y :: aI x :: St) S = ev c 175 40 [l0, l1, l2] L2 (aI (x + y) :: St) S := ev_go i175_39 rfl
theorem i175_40 : insAt 175 40 = some (.putfield 79, 3, (1, 3, 0, 0), 302) := rfl
theorem s175_40 {c : Nat → List AV → SS → Option Out} {l0 l1 l2 : Option AV} {j t : Nat} {x : Int32} {L2 : List (Nat × AV)} {St : List AV} {S : SS} : ev c 175 40 [l0, l1, l2] L2 (aI x :: aR (1, j, t) :: St) S = ev c 175 43 [l0, l1, l2] L2 St (setI S.1 (1, j, t) 3 x, S.2) := ev_go i175_40 rfl
theorem i175_43 : insAt 175 43 = some (.aload_n 0, 1, (0, 0, 0, 0), 0) := rfl
theorem s175_43 {c : Nat → List AV → SS → Option Out} {l1 l2 : Option AV} {o : OId} {L2 : List (Nat × AV)} {St : List AV} {S : SS} : ev c 175 43 [some (aR o), l1, l2] L2 St S = ev c 175 44 [some (aR o), l1, l2] L2 (aR o :: St) S := ev_go i175_43 rfl
theorem i175_44 : insAt 175 44 = some (.areturn, 1, (0, 0, 0, 0), 0) := rfl
theorem s175_44 {c : Nat → List AV → SS → Option Out} {l0 l1 l2 : Option AV} {o : OId} {L2 : List (Nat × AV)} {S : SS} : ev c 175 44 [l0, l1, l2] L2 [aR o] S = some (.inl (some (aR o)), S) := ev_end i175_44 rfl
theorem s175_44N {c : Nat → List AV → SS → Option Out} {l0 l1 l2 : Option AV} {L2 : List (Nat × AV)} {S : SS} : ev c 175 44 [l0, l1, l2] L2 [aN] S = some (.inl (some aN), S) := ev_end i175_44 rfl
theorem m175 {d : Nat} {o : OId} {a0 : OId} {S : SS} : evm (d + 1) 175 [aR o, aR a0] S = ev (evm d) 175 0 [some (aR o), some (aR a0), none] [] [] S := evm_s (n := 3) rfl (Nat.le_of_ble_eq_true rfl) rfl rfl
/-! java/lang/AbstractStringBuilder.ensureCapacityInternal(I)V -/
theorem i176_0 : insAt 176 0 = some (.aload_n 0, 1, (0, 0, 0, 0), 0) := rfl
theorem s176_0 {c : Nat → List AV → SS → Option Out} {l1 l2 : Option AV} {o : OId} {L2 : List (Nat × AV)} {St : List AV} {S : SS} : ev c 176 0 [some (aR o), l1, l2] L2 St S = ev c 176 1 [some (aR o), l1, l2] L2 (aR o :: St) S := ev_go i176_0 rfl
theorem i176_1 : insAt 176 1 = some (.getfield 15, 3, (1, 0, 0, 0), 73) := rfl
theorem s176_1 {c : Nat → List AV → SS → Option Out} {l0 l1 l2 : Option AV} {j t : Nat} {L2 : List (Nat × AV)} {St : List AV} {S : SS} : ev c 176 1 [l0, l1, l2] L2 (aR (1, j, t) :: St) S = ev c 176 4 [l0, l1, l2] L2 (S.2.1 (1, j, t) 0 :: St) S := ev_go i176_1 rfl
theorem i176_4 : insAt 176 4 = some (.arraylength, 1, (0, 0, 0, 0), 0) := rfl
theorem s176_4 {c : Nat → List AV → SS → Option Out} {l0 l1 l2 : Option AV} {o : OId} {L2 : List (Nat × AV)} {St : List AV} {S : SS} : ev c 176 4 [l0, l1, l2] L2 (aR o :: St) S = kN o (fun x => ev c 176 5 [l0, l1, l2] L2 (aI x :: St) S) := ev_alen i176_4
theorem i176_5 : insAt 176 5 = some (.aload_n 0, 1, (0, 0, 0, 0), 0) := rfl
theorem s176_5 {c : Nat → List AV → SS → Option Out} {l1 l2 : Option AV} {o : OId} {L2 : List (Nat × AV)} {St : List AV} {S : SS} : ev c 176 5 [some (aR o), l1, l2] L2 St S = ev c 176 6 [some (aR o), l1, l2] L2 (aR o :: St) S := ev_go i176_5 rfl
theorem i176_6 : insAt 176 6 = some (.getfield 22, 3, (1, 1, 0, 0), 74) := rfl
theorem s176_6 {c : Nat → List AV → SS → Option Out} {l0 l1 l2 : Option AV} {j t : Nat} {L2 : List (Nat × AV)} {St : List AV} {S : SS} : ev c 176 6 [l0, l1, l2] L2 (aR (1, j, t) :: St) S = ev c 176 9 [l0, l1, l2] L2 (aI (by8 (S.1 (1, j, t) 1)) :: St) S := ev_go i176_6 rfl
theorem i176_9 : insAt 176 9 = some (.ishr, 1, (0, 0, 0, 0), 0) := rfl
theorem s176_9 {c : Nat → List AV → SS → Option Out} {l0 l1 l2 : Option AV} {x y : Int32} {L2 : List (Nat × AV)} {St : List AV} {S : SS} : ev c 176 9 [l0, l1, l2] L2 (aI y :: aI x :: St) S = ev c 176 10 [l0, l1, l2] L2 (aI (x >>> (y &&& 31)) :: St) S := ev_go i176_9 rfl
theorem i176_10 : insAt 176 10 = some (.istore_n 2, 1, (0, 0, 0, 0), 0) := rfl
theorem s176_10 {c : Nat → List AV → SS → Option Out} {l0 l1 l2 : Option AV} {x : Int32} {L2 : List (Nat × AV)} {St : List AV} {S : SS} : ev c 176 10 [l0, l1, l2] L2 (aI x :: St) S = ev c 176 11 [l0, l1, some (aI x)] (kil L2 2) St S := ev_go i176_10 rfl
theorem i176_11 : insAt 176 11 = some (.iload_n 1, 1, (0, 0, 0, 0), 0) := rfl
theorem s176_11 {c : Nat → List AV → SS → Option Out} {l0 l2 : Option AV} {x : Int32} {L2 : List (Nat × AV)} {St : List AV} {S : SS} : ev c 176 11 [l0, some (aI x), l2] L2 St S = ev c 176 12 [l0, some (aI x), l2] L2 (aI x :: St) S := ev_go i176_11 rfl
theorem i176_12 : insAt 176 12 = some (.iload_n 2, 1, (0, 0, 0, 0), 0) := rfl
theorem s176_12 {c : Nat → List AV → SS → Option Out} {l0 l1 : Option AV} {x : Int32} {L2 : List (Nat × AV)} {St : List AV} {S : SS} : ev c 176 12 [l0, l1, some (aI x)] L2 St S = ev c 176 13 [l0, l1, some (aI x)] L2 (aI x :: St) S := ev_go i176_12 rfl
theorem i176_13 : insAt 176 13 = some (.isub, 1, (0, 0, 0, 0), 0) := rfl
theorem s176_13 {c : Nat → List AV → SS → Option Out} {l0 l1 l2 : Option AV} {x y : Int32} {L2 : List (Nat × AV)} {St : List AV} {S : SS} : ev c 176 13 [l0, l1, l2] L2 (aI y :: aI x :: St) S = ev c 176 14 [l0, l1, l2] L2 (aI (x - y) :: St) S := ev_go i176_13 rfl
theorem i176_14 : insAt 176 14 = some (.ifCond .le 24, 3, (0, 0, 0, 0), 0) := rfl
theorem s176_14 {c : Nat → List AV → SS → Option Out} {l0 l1 l2 : Option AV} {x : Int32} {L2 : List (Nat × AV)} {St : List AV} {S : SS} : ev c 176 14 [l0, l1, l2] L2 (aI x :: St) S = if x ≤ 0 then ev c 176 38 [l0, l1, l2] L2 St S else ev c 176 17 [l0, l1, l2] L2 St S := ev_br i176_14 rfl
theorem i176_17 : insAt 176 17 = some (.aload_n 0, 1, (0, 0, 0, 0), 0) := rfl
theorem s176_17 {c : Nat → List AV → SS → Option Out} {l1 l2 : Option AV} {o : OId} {L2 : List (Nat × AV)} {St : List AV} {S : SS} : ev c 176 17 [some (aR o), l1, l2] L2 St S = ev c 176 18 [some (aR o), l1, l2] L2 (aR o :: St) S := ev_go i176_17 rfl
theorem i176_18 : insAt 176 18 = some (.aload_n 0, 1, (0, 0, 0, 0), 0) := rfl
theorem s176_18 {c : Nat → List AV → SS → Option Out} {l1 l2 : Option AV} {o : OId} {L2 : List (Nat × AV)} {St : List AV} {S : SS} : ev c 176 18 [some (aR o), l1, l2] L2 St S = ev c 176 19 [some (aR o), l1, l2] L2 (aR o :: St) S := ev_go i176_18 rfl
theorem i176_19 : insAt 176 19 = some (.getfield 15, 3, (1, 0, 0, 0), 73) := rfl
theorem s176_19 {c : Nat → List AV → SS → Option Out} {l0 l1 l2 : Option AV} {j t : Nat} {L2 : List (Nat × AV)} {St : List AV} {S : SS} : ev c 176 19 [l0, l1, l2] L2 (aR (1, j, t) :: St) S = ev c 176 22 [l0, l1, l2] L2 (S.2.1 (1, j, t) 0 :: St) S := ev_go i176_19 rfl
theorem i176_22 : insAt 176 22 = some (.aload_n 0, 1, (0, 0, 0, 0), 0) := rfl
theorem s176_22 {c : Nat → List AV → SS → Option Out} {l1 l2 : Option AV} {o : OId} {L2 : List (Nat × AV)} {St : List AV} {S : SS} : ev c 176 22 [some (aR o), l1, l2] L2 St S = ev c 176 23 [some (aR o), l1, l2] L2 (aR o :: St) S := ev_go i176_22 rfl
theorem i176_23 : insAt 176 23 = some (.iload_n 1, 1, (0, 0, 0, 0), 0) := rfl
theorem s176_23 {c : Nat → List AV → SS → Option Out} {l0 l2 : Option AV} {x : Int32} {L2 : List (Nat × AV)} {St : List AV} {S : SS} : ev c 176 23 [l0, some (aI x), l2] L2 St S = ev c 176 24 [l0, some (aI x), l2] L2 (aI x :: St) S := ev_go i176_23 rfl
theorem i176_24 : insAt 176 24 = some (.invokevirtual 104, 3, (177, 1, 4, 1), 308) := rfl
theorem s176_24 {c : Nat → List AV → SS → Option Out} {l0 l1 l2 : Option AV} {t0 t1 : AV} {a0 : Int32} {j t : Nat} {L2 : List (Nat × AV)} {S : SS} : ev c 176 24 [l0, l1, l2] L2 [aI a0, aR (1, j, t), t0, t1] S = ck (c 177 [aR (1, j, t), aI a0] S) (fun v S' => ev c 176 27 [l0, l1, l2] L2 (v.toList ++ [t0, t1]) S') := ev_call i176_24 rfl
theorem i176_27 : insAt 176 27 = some (.aload_n 0, 1, (0, 0, 0, 0), 0) := rfl
theorem s176_27 {c : Nat → List AV → SS → Option Out} {l1 l2 : Option AV} {o : OId} {L2 : List (Nat × AV)} {St : List AV} {S : SS} : ev c 176 27 [some (aR o), l1, l2] L2 St S = ev c 176 28 [some (aR o), l1, l2] L2 (aR o :: St) S := ev_go i176_27 rfl
theorem i176_28 : insAt 176 28 = some (.getfield 22, 3, (1, 1, 0, 0), 74) := rfl
theorem s176_28 {c : Nat → List AV → SS → Option Out} {l0 l1 l2 : Option AV} {j t : Nat} {L2 : List (Nat × AV)} {St : List AV} {S : SS} : ev c 176 28 [l0, l1, l2] L2 (aR (1, j, t) :: St) S = ev c 176 31 [l0, l1, l2] L2 (aI (by8 (S.1 (1, j, t) 1)) :: St) S := ev_go i176_28 rfl
theorem i176_31 : insAt 176 31 = some (.ishl, 1, (0, 0, 0, 0), 0) := rfl
theorem s176_31 {c : Nat → List AV → SS → Option Out} {l0 l1 l2 : Option AV} {x y : Int32} {L2 : List (Nat × AV)} {St : List AV} {S : SS} : ev c 176 31 [l0, l1, l2] L2 (aI y :: aI x :: St) S = ev c 176 32 [l0, l1, l2] L2 (aI (x <<< (y &&& 31)) :: St) S := ev_go i176_31 rfl
theorem i176_32 : insAt 176 32 = some (.invokestatic 108, 3, (179, 2, 0, 0), 309) := rfl
theorem s176_32 {c : Nat → List AV → SS → Option Out} {l0 l1 l2 : Option AV} {t0 : AV} {a0 : OId} {a1 : Int32} {L2 : List (Nat × AV)} {S : SS} : ev c 176 32 [l0, l1, l2] L2 [aI a1, aR a0, t0] S = ck (c 179 [aR a0, aI a1] S) (fun v S' => ev c 176 35 [l0, l1, l2] L2 (v.toList ++ [t0]) S') := ev_call i176_32 rfl
theorem i176_35 : insAt 176 35 = some (.putfield 15, 3, (1, 0, 0, 0), 73) := rfl
theorem s176_35 {c : Nat → List AV → SS → Option Out} {l0 l1 l2 : Option AV} {j t : Nat} {p : OId} {L2 : List (Nat × AV)} {St : List AV} {S : SS} : ev c 176 35 [l0, l1, l2] L2 (aR p :: aR (1, j, t) :: St) S = ev c 176 38 [l0, l1, l2] L2 St (S.1, setV S.2.1 (1, j, t) 0 (aR p), S.2.2) := ev_go i176_35 rfl
theorem i176_38 : insAt 176 38 = some (.return_, 1, (0, 0, 0, 0), 0) := rfl
theorem s176_38 {c : Nat → List AV → SS → Option Out} {l0 l1 l2 : Option AV} {L2 : List (Nat × AV)} {S : SS} : ev c 176 38 [l0, l1, l2] L2 [] S = some (.inl none, S) := ev_end i176_38 rfl
theorem m176 {d : Nat} {o : OId} {a0 : Int32} {S : SS} : evm (d + 1) 176 [aR o, aI a0] S = ev (evm d) 176 0 [some (aR o), some (aI a0), none] [] [] S := evm_s (n := 3) rfl (Nat.le_of_ble_eq_true rfl) rfl rfl
/-! java/lang/AbstractStringBuilder.newCapacity(I)I -/
theorem i177_0 : insAt 177 0 = some (.aload_n 0, 1, (0, 0, 0, 0), 0) := rfl
theorem s177_0 {c : Nat → List AV → SS → Option Out} {l1 l2 l3 l4 l5 : Option AV} {o : OId} {L2 : List (Nat × AV)} {St : List AV} {S : SS} : ev c 177 0 [some (aR o), l1, l2, l3, l4, l5] L2 St S = ev c 177 1 [some (aR o), l1, l2, l3, l4, l5] L2 (aR o :: St) S := ev_go i177_0 rfl
theorem i177_1 : insAt 177 1 = some (.getfield 15, 3, (1, 0, 0, 0), 73) := rfl
theorem s177_1 {c : Nat → List AV → SS → Option Out} {l0 l1 l2 l3 l4 l5 : Option AV} {j t : Nat} {L2 : List (Nat × AV)} {St : List AV} {S : SS} : ev c 177 1 [l0, l1, l2, l3, l4, l5] L2 (aR (1, j, t) :: St) S = ev c 177 4 [l0, l1, l2, l3, l4, l5] L2 (S.2.1 (1, j, t) 0 :: St) S := ev_go i177_1 rfl
theorem i177_4 : insAt 177 4 = some (.arraylength, 1, (0, 0, 0, 0), 0) := rfl
theorem s177_4 {c : Nat → List AV → SS → Option Out} {l0 l1 l2 l3 l4 l5 : Option AV} {o : OId} {L2 : List (Nat × AV)} {St : List AV} {S : SS} : ev c 177 4 [l0, l1, l2, l3, l4, l5] L2 (aR o :: St) S = kN o (fun x => ev c 177 5 [l0, l1, l2, l3, l4, l5] L2 (aI x :: St) S) := ev_alen i177_4
theorem i177_5 : insAt 177 5 = some (.istore_n 2, 1, (0, 0, 0, 0), 0) := rfl
theorem s177_5 {c : Nat → List AV → SS → Option Out} {l0 l1 l2 l3 l4 l5 : Option AV} {x : Int32} {L2 : List (Nat × AV)} {St : List AV} {S : SS} : ev c 177 5 [l0, l1, l2, l3, l4, l5] L2 (aI x :: St) S = ev c 177 6 [l0, l1, some (aI x), l3, l4, l5] (kil L2 2) St S := ev_go i177_5 rfl
theorem i177_6 : insAt 177 6 = some (.iload_n 1, 1, (0, 0, 0, 0), 0) := rfl
theorem s177_6 {c : Nat → List AV → SS → Option Out} {l0 l2 l3 l4 l5 : Option AV} {x : Int32} {L2 : List (Nat × AV)} {St : List AV} {S : SS} : ev c 177 6 [l0, some (aI x), l2, l3, l4, l5] L2 St S = ev c 177 7 [l0, some (aI x), l2, l3, l4, l5] L2 (aI x :: St) S := ev_go i177_6 rfl
theorem i177_7 : insAt 177 7 = some (.aload_n 0, 1, (0, 0, 0, 0), 0) := rfl
theorem s177_7 {c : Nat → List AV → SS → Option Out} {l1 l2 l3 l4 l5 : Option AV} {o : OId} {L2 : List (Nat × AV)} {St : List AV} {S : SS} : ev c 177 7 [some (aR o), l1, l2, l3, l4, l5] L2 St S = ev c 177 8 [some (aR o), l1, l2, l3, l4, l5] L2 (aR o :: St) S := ev_go i177_7 rfl
theorem i177_8 : insAt 177 8 = some (.getfield 22, 3, (1, 1, 0, 0), 74) := rfl
theorem s177_8 {c : Nat → List AV → SS → Option Out} {l0 l1 l2 l3 l4 l5 : Option AV} {j t : Nat} {L2 : List (Nat × AV)} {St : List AV} {S : SS} : ev c 177 8 [l0, l1, l2, l3, l4, l5] L2 (aR (1, j, t) :: St) S = ev c 177 11 [l0, l1, l2, l3, l4, l5] L2 (aI (by8 (S.1 (1, j, t) 1)) :: St) S := ev_go i177_8 rfl
theorem i177_11 : insAt 177 11 = some (.ishl, 1, (0, 0, 0, 0), 0) := rfl
theorem s177_11 {c : Nat → List AV → SS → Option Out} {l0 l1 l2 l3 l4 l5 : Option AV} {x y : Int32} {L2 : List (Nat × AV)} {St : List AV} {S : SS} : ev c 177 11 [l0, l1, l2, l3, l4, l5] L2 (aI y :: aI x :: St) S = ev c 177 12 [l0, l1, l2, l3, l4, l5] L2 (aI (x <<< (y &&& 31)) :: St) S := ev_go i177_11 rfl
theorem i177_12 : insAt 177 12 = some (.istore_n 3, 1, (0, 0, 0, 0), 0) := rfl
theorem s177_12 {c : Nat → List AV → SS → Option Out} {l0 l1 l2 l3 l4 l5 : Option AV} {x : Int32} {L2 : List (Nat × AV)} {St : List AV} {S : SS} : ev c 177 12 [l0, l1, l2, l3, l4, l5] L2 (aI x :: St) S = ev c 177 13 [l0, l1, l2, some (aI x), l4, l5] (kil L2 3) St S := ev_go i177_12 rfl
theorem i177_13 : insAt 177 13 = some (.iload_n 3, 1, (0, 0, 0, 0), 0) := rfl
theorem s177_13 {c : Nat → List AV → SS → Option Out} {l0 l1 l2 l4 l5 : Option AV} {x : Int32} {L2 : List (Nat × AV)} {St : List AV} {S : SS} : ev c 177 13 [l0, l1, l2, some (aI x), l4, l5] L2 St S = ev c 177 14 [l0, l1, l2, some (aI x), l4, l5] L2 (aI x :: St) S := ev_go i177_13 rfl
theorem i177_14 : insAt 177 14 = some (.iload_n 2, 1, (0, 0, 0, 0), 0) := rfl
theorem s177_14 {c : Nat → List AV → SS → Option Out} {l0 l1 l3 l4 l5 : Option AV} {x : Int32} {L2 : List (Nat × AV)} {St : List AV} {S : SS} : ev c 177 14 [l0, l1, some (aI x), l3, l4, l5] L2 St S = ev c 177 15 [l0, l1, some (aI x), l3, l4, l5] L2 (aI x :: St) S := ev_go i177_14 rfl
theorem i177_15 : insAt 177 15 = some (.isub, 1, (0, 0, 0, 0), 0) := rfl
theorem s177_15 {c : Nat → List AV → SS → Option Out} {l0 l1 l2 l3 l4 l5 : Option AV} {x y : Int32} {L2 : List (Nat × AV)} {St : List AV} {S : SS} : ev c 177 15 [l0, l1, l2, l3, l4, l5] L2 (aI y :: aI x :: St) S = ev c 177 16 [l0, l1, l2, l3, l4, l5] L2 (aI (x - y) :: St) S := ev_go i177_15 rfl
theorem i177_16 : insAt 177 16 = some (.istore 4, 2, (0, 0, 0, 0), 0) := rfl
theorem s177_16 {c : Nat → List AV → SS → Option Out} {l0 l1 l2 l3 l4 l5 : Option AV} {x : Int32} {L2 : List (Nat × AV)} {St : List AV} {S : SS} : ev c 177 16 [l0, l1, l2, l3, l4, l5] L2 (aI x :: St) S = ev c 177 18 [l0, l1, l2, l3, some (aI x), l5] (kil L2 4) St S := ev_go i177_16 rfl
theorem i177_18 : insAt 177 18 = some (.iload_n 2, 1, (0, 0, 0, 0), 0) := rfl
theorem s177_18 {c : Nat → List AV → SS → Option Out} {l0 l1 l3 l4 l5 : Option AV} {x : Int32} {L2 : List (Nat × AV)} {St : List AV} {S : SS} : ev c 177 18 [l0, l1, some (aI x), l3, l4, l5] L2 St S = ev c 177 19 [l0, l1, some (aI x), l3, l4, l5] L2 (aI x :: St) S := ev_go i177_18 rfl
theorem i177_19 : insAt 177 19 = some (.iload 4, 2, (0, 0, 0, 0), 0) := rfl
theorem s177_19 {c : Nat → List AV → SS → Option Out} {l0 l1 l2 l3 l5 : Option AV} {x : Int32} {L2 : List (Nat × AV)} {St : List AV} {S : SS} : ev c 177 19 [l0, l1, l2, l3, some (aI x), l5] L2 St S = ev c 177 21 [l0, l1, l2, l3, some (aI x), l5] L2 (aI x :: St) S := ev_go i177_19 rfl
theorem i177_21 : insAt 177 21 = some (.iload_n 2, 1, (0, 0, 0, 0), 0) := rfl
theorem s177_21 {c : Nat → List AV → SS → Option Out} {l0 l1 l3 l4 l5 : Option AV} {x : Int32} {L2 : List (Nat × AV)} {St : List AV} {S : SS} : ev c 177 21 [l0, l1, some (aI x), l3, l4, l5] L2 St S = ev c 177 22 [l0, l1, some (aI x), l3, l4, l5] L2 (aI x :: St) S := ev_go i177_21 rfl
theorem i177_22 : insAt 177 22 = some (.iconst 2, 1, (0, 0, 0, 0), 0) := rfl
theorem s177_22 {c : Nat → List AV → SS → Option Out} {l0 l1 l2 l3 l4 l5 : Option AV} {L2 : List (Nat × AV)} {St : List AV} {S : SS} : ev c 177 22 [l0, l1, l2, l3, l4, l5] L2 St S = ev c 177 23 [l0, l1, l2, l3, l4, l5] L2 (aI 2 :: St) S := ev_go i177_22 rfl
theorem i177_23 : insAt 177 23 = some (.aload_n 0, 1, (0, 0, 0, 0), 0) := rfl
theorem s177_23 {c : Nat → List AV → SS → Option Out} {l1 l2 l3 l4 l5 : Option AV} {o : OId} {L2 : List (Nat × AV)} {St : List AV} {S : SS} : ev c 177 23 [some (aR o), l1, l2, l3, l4, l5] L2 St S = ev c 177 24 [some (aR o), l1, l2, l3, l4, l5] L2 (aR o :: St) S := ev_go i177_23 rfl
theorem i177_24 : insAt 177 24 = some (.getfield 22, 3, (1, 1, 0, 0), 74) := rfl
theorem s177_24 {c : Nat → List AV → SS → Option Out} {l0 l1 l2 l3 l4 l5 : Option AV} {j t : Nat} {L2 : List (Nat × AV)} {St : List AV} {S : SS} : ev c 177 24 [l0, l1, l2, l3, l4, l5] L2 (aR (1, j, t) :: St) S = ev c 177 27 [l0, l1, l2, l3, l4, l5] L2 (aI (by8 (S.1 (1, j, t) 1)) :: St) S := ev_go i177_24 rfl
theorem i177_27 : insAt 177 27 = some (.ishl, 1, (0, 0, 0, 0), 0) := rfl
theorem s177_27 {c : Nat → List AV → SS → Option Out} {l0 l1 l2 l3 l4 l5 : Option AV} {x y : Int32} {L2 : List (Nat × AV)} {St : List AV} {S : SS} : ev c 177 27 [l0, l1, l2, l3, l4, l5] L2 (aI y :: aI x :: St) S = ev c 177 28 [l0, l1, l2, l3, l4, l5] L2 (aI (x <<< (y &&& 31)) :: St) S := ev_go i177_27 rfl
theorem i177_28 : insAt 177 28 = some (.iadd, 1, (0, 0, 0, 0), 0) := rfl
theorem s177_28 {c : Nat → List AV → SS → Option Out} {l0 l1 l2 l3 l4 l5 : Option AV} {x y : Int32} {L2 : List (Nat × AV)} {St : List AV} {S : SS} : ev c 177 28 [l0, l1, l2, l3, l4, l5] L2 (aI y :: aI x :: St) S = ev c 177 29 [l0, l1, l2, l3, l4, l5] L2 (aI (x + y) :: St) S := ev_go i177_28 rfl
theorem i177_29 : insAt 177 29 = some (.invokestatic 114, 3, (178, 3, 0, 0), 310) := rfl
theorem s177_29 {c : Nat → List AV → SS → Option Out} {l0 l1 l2 l3 l4 l5 : Option AV} {a0 : Int32} {a1 : Int32} {a2 : Int32} {L2 : List (Nat × AV)} {S : SS} : ev c 177 29 [l0, l1, l2, l3, l4, l5] L2 [aI a2, aI a1, aI a0] S = ck (c 178 [aI a0, aI a1, aI a2] S) (fun v S' => ev c 177 32 [l0, l1, l2, l3, l4, l5] L2 (v.toList ++ []) S') := ev_call i177_29 rfl
theorem i177_32 : insAt 177 32 = some (.istore 5, 2, (0, 0, 0, 0), 0) := rfl
theorem s177_32 {c : Nat → List AV → SS → Option Out} {l0 l1 l2 l3 l4 l5 : Option AV} {x : Int32} {L2 : List (Nat × AV)} {St : List AV} {S : SS} : ev c 177 32 [l0, l1, l2, l3, l4, l5] L2 (aI x :: St) S = ev c 177 34 [l0, l1, l2, l3, l4, some (aI x)] (kil L2 5) St S := ev_go i177_32 rfl
theorem i177_34 : insAt 177 34 = some (.iload 5, 2, (0, 0, 0, 0), 0) := rfl
theorem s177_34 {c : Nat → List AV → SS → Option Out} {l0 l1 l2 l3 l4 : Option AV} {x : Int32} {L2 : List (Nat × AV)} {St : List AV} {S : SS} : ev c 177 34 [l0, l1, l2, l3, l4, some (aI x)] L2 St S = ev c 177 36 [l0, l1, l2, l3, l4, some (aI x)] L2 (aI x :: St) S := ev_go i177_34 rfl
theorem i177_36 : insAt 177 36 = some (.ldc 39, 2, (0, 311, 0, 0), 2147483647) := rfl
theorem s177_36 {c : Nat → List AV → SS → Option Out} {l0 l1 l2 l3 l4 l5 : Option AV} {L2 : List (Nat × AV)} {St : List AV} {S : SS} : ev c 177 36 [l0, l1, l2, l3, l4, l5] L2 St S = ev c 177 38 [l0, l1, l2, l3, l4, l5] L2 (aI 2147483647 :: St) S := ev_go i177_36 rfl
theorem i177_38 : insAt 177 38 = some (.if_icmp .ne 13, 3, (0, 0, 0, 0), 0) := rfl
theorem s177_38 {c : Nat → List AV → SS → Option Out} {l0 l1 l2 l3 l4 l5 : Option AV} {x y : Int32} {L2 : List (Nat × AV)} {St : List AV} {S : SS} : ev c 177 38 [l0, l1, l2, l3, l4, l5] L2 (aI y :: aI x :: St) S = if x = y then ev c 177 41 [l0, l1, l2, l3, l4, l5] L2 St S else ev c 177 51 [l0, l1, l2, l3, l4, l5] L2 St S := (ev_br i177_38 rfl).trans (ite_not _ _ _)
theorem i177_41 : insAt 177 41 = some (.new 120, 3, (9, 9, 9, 9), 0) := rfl
theorem i177_44 : insAt 177 44 = some (.dup, 1, (0, 0, 0, 0), 0) := rfl
theorem s177_44 {c : Nat → List AV → SS → Option Out} {l0 l1 l2 l3 l4 l5 : Option AV} {x : OId} {L2 : List (Nat × AV)} {St : List AV} {S : SS} : ev c 177 44 [l0, l1, l2, l3, l4, l5] L2 (aR x :: St) S = ev c 177 45 [l0, l1, l2, l3, l4, l5] L2 (aR x :: aR x :: St) S := ev_go i177_44 rfl
theorem i177_51 : insAt 177 51 = some (.iload 5, 2, (0, 0, 0, 0), 0) := rfl
theorem s177_51 {c : Nat → List AV → SS → Option Out} {l0 l1 l2 l3 l4 : Option AV} {x : Int32} {L2 : List (Nat × AV)} {St : List AV} {S : SS} : ev c 177 51 [l0, l1, l2, l3, l4, some (aI x)] L2 St S = ev c 177 53 [l0, l1, l2, l3, l4, some (aI x)] L2 (aI x :: St) S := ev_go i177_51 rfl
theorem i177_53 : insAt 177 53 = some (.aload_n 0, 1, (0, 0, 0, 0), 0) := rfl
theorem s177_53 {c : Nat → List AV → SS → Option Out} {l1 l2 l3 l4 l5 : Option AV} {o : OId} {L2 : List (Nat × AV)} {St : List AV} {S : SS} : ev c 177 53 [some (aR o), l1, l2, l3, l4, l5] L2 St S = ev c 177 54 [some (aR o), l1, l2, l3, l4, l5] L2 (aR o :: St) S := ev_go i177_53 rfl
theorem i177_54 : insAt 177 54 = some (.getfield 22, 3, (1, 1, 0, 0), 74) := rfl
theorem s177_54 {c : Nat → List AV → SS → Option Out} {l0 l1 l2 l3 l4 l5 : Option AV} {j t : Nat} {L2 : List (Nat × AV)} {St : List AV} {S : SS} : ev c 177 54 [l0, l1, l2, l3, l4, l5] L2 (aR (1, j, t) :: St) S = ev c 177 57 [l0, l1, l2, l3, l4, l5] L2 (aI (by8 (S.1 (1, j, t) 1)) :: St) S := ev_go i177_54 rfl
theorem i177_57 : insAt 177 57 = some (.ishr, 1, (0, 0, 0, 0), 0) := rfl
theorem s177_57 {c : Nat → List AV → SS → Option Out} {l0 l1 l2 l3 l4 l5 : Option AV} {x y : Int32} {L2 : List (Nat × AV)} {St : List AV} {S : SS} : ev c 177 57 [l0, l1, l2, l3, l4, l5] L2 (aI y :: aI x :: St) S = ev c 177 58 [l0, l1, l2, l3, l4, l5] L2 (aI (x >>> (y &&& 31)) :: St) S := ev_go i177_57 rfl
theorem i177_58 : insAt 177 58 = some (.ireturn, 1, (0, 0, 0, 0), 0) := rfl
theorem s177_58 {c : Nat → List AV → SS → Option Out} {l0 l1 l2 l3 l4 l5 : Option AV} {x : Int32} {L2 : List (Nat × AV)} {S : SS} : ev c 177 58 [l0, l1, l2, l3, l4, l5] L2 [aI x] S = some (.inl (some (aI x)), S) := ev_end i177_58 rfl
theorem m177 {d : Nat} {o : OId} {a0 : Int32} {S : SS} : evm (d + 1) 177 [aR o, aI a0] S = ev (evm d) 177 0 [some (aR o), some (aI a0), none, none, none, none] [] [] S := evm_s (n := 6) rfl (Nat.le_of_ble_eq_true rfl) rfl rfl
/-! jdk/internal/util/ArraysSupport.newLength(III)I -/
theorem i178_0 : insAt 178 0 = some (.iload_n 0, 1, (0, 0, 0, 0), 0) := rfl
theorem s178_0 {c : Nat → List AV → SS → Option Out} {l1 l2 l3 : Option AV} {x : Int32} {L2 : List (Nat × AV)} {St : List AV} {S : SS} : ev c 178 0 [some (aI x), l1, l2, l3] L2 St S = ev c 178 1 [some (aI x), l1, l2, l3] L2 (aI x :: St) S := ev_go i178_0 rfl
theorem i178_1 : insAt 178 1 = some (.iload_n 1, 1, (0, 0, 0, 0), 0) := rfl
theorem s178_1 {c : Nat → List AV → SS → Option Out} {l0 l2 l3 : Option AV} {x : Int32} {L2 : List (Nat × AV)} {St : List AV} {S : SS} : ev c 178 1 [l0, some (aI x), l2, l3] L2 St S = ev c 178 2 [l0, some (aI x), l2, l3] L2 (aI x :: St) S := ev_go i178_1 rfl
theorem i178_2 : insAt 178 2 = some (.iload_n 2, 1, (0, 0, 0, 0), 0) := rfl
theorem s178_2 {c : Nat → List AV → SS → Option Out} {l0 l1 l3 : Option AV} {x : Int32} {L2 : List (Nat × AV)} {St : List AV} {S : SS} : ev c 178 2 [l0, l1, some (aI x), l3] L2 St S = ev c 178 3 [l0, l1, some (aI x), l3] L2 (aI x :: St) S := ev_go i178_2 rfl
theorem i178_3 : insAt 178 3 = some (.invokestatic 194, 3, (0, 2, 23, 0), 312) := rfl
theorem s178_3 {c : Nat → List AV → SS → Option Out} {l0 l1 l2 l3 : Option AV} {t0 : AV} {x y : Int32} {L2 : List (Nat × AV)} {S : SS} : ev c 178 3 [l0, l1, l2, l3] L2 [aI y, aI x, t0] S = ev c 178 6 [l0, l1, l2, l3] L2 [aI (if x < y then y else x), t0] S := ev_go i178_3 rfl
theorem i178_6 : insAt 178 6 = some (.iadd, 1, (0, 0, 0, 0), 0) := rfl
theorem s178_6 {c : Nat → List AV → SS → Option Out} {l0 l1 l2 l3 : Option AV} {x y : Int32} {L2 : List (Nat × AV)} {St : List AV} {S : SS} : ev c 178 6 [l0, l1, l2, l3] L2 (aI y :: aI x :: St) S = ev c 178 7 [l0, l1, l2, l3] L2 (aI (x + y) :: St) S := ev_go i178_6 rfl
theorem i178_7 : insAt 178 7 = some (.istore_n 3, 1, (0, 0, 0, 0), 0) := rfl
theorem s178_7 {c : Nat → List AV → SS → Option Out} {l0 l1 l2 l3 : Option AV} {x : Int32} {L2 : List (Nat × AV)} {St : List AV} {S : SS} : ev c 178 7 [l0, l1, l2, l3] L2 (aI x :: St) S = ev c 178 8 [l0, l1, l2, some (aI x)] (kil L2 3) St S := ev_go i178_7 rfl
theorem i178_8 : insAt 178 8 = some (.iconst 0, 1, (0, 0, 0, 0), 0) := rfl
theorem s178_8 {c : Nat → List AV → SS → Option Out} {l0 l1 l2 l3 : Option AV} {L2 : List (Nat × AV)} {St : List AV} {S : SS} : ev c 178 8 [l0, l1, l2, l3] L2 St S = ev c 178 9 [l0, l1, l2, l3] L2 (aI 0 :: St) S := ev_go i178_8 rfl
theorem i178_9 : insAt 178 9 = some (.iload_n 3, 1, (0, 0, 0, 0), 0) := rfl
theorem s178_9 {c : Nat → List AV → SS → Option Out} {l0 l1 l2 : Option AV} {x : Int32} {L2 : List (Nat × AV)} {St : List AV} {S : SS} : ev c 178 9 [l0, l1, l2, some (aI x)] L2 St S = ev c 178 10 [l0, l1, l2, some (aI x)] L2 (aI x :: St) S := ev_go i178_9 rfl
theorem i178_10 : insAt 178 10 = some (.if_icmp .ge 11, 3, (0, 0, 0, 0), 0) := rfl
theorem s178_10 {c : Nat → List AV → SS → Option Out} {l0 l1 l2 l3 : Option AV} {x y : Int32} {L2 : List (Nat × AV)} {St : List AV} {S : SS} : ev c 178 10 [l0, l1, l2, l3] L2 (aI y :: aI x :: St) S = if y ≤ x then ev c 178 21 [l0, l1, l2, l3] L2 St S else ev c 178 13 [l0, l1, l2, l3] L2 St S := ev_br i178_10 rfl
theorem i178_13 : insAt 178 13 = some (.iload_n 3, 1, (0, 0, 0, 0), 0) := rfl
theorem s178_13 {c : Nat → List AV → SS → Option Out} {l0 l1 l2 : Option AV} {x : Int32} {L2 : List (Nat × AV)} {St : List AV} {S : SS} : ev c 178 13 [l0, l1, l2, some (aI x)] L2 St S = ev c 178 14 [l0, l1, l2, some (aI x)] L2 (aI x :: St) S := ev_go i178_13 rfl
theorem i178_14 : insAt 178 14 = some (.ldc 200, 2, (0, 313, 0, 0), 2147483639) := rfl
theorem s178_14 {c : Nat → List AV → SS → Option Out} {l0 l1 l2 l3 : Option AV} {L2 : List (Nat × AV)} {St : List AV} {S : SS} : ev c 178 14 [l0, l1, l2, l3] L2 St S = ev c 178 16 [l0, l1, l2, l3] L2 (aI 2147483639 :: St) S := ev_go i178_14 rfl
theorem i178_16 : insAt 178 16 = some (.if_icmp .gt 5, 3, (0, 0, 0, 0), 0) := rfl
theorem s178_16 {c : Nat → List AV → SS → Option Out} {l0 l1 l2 l3 : Option AV} {x y : Int32} {L2 : List (Nat × AV)} {St : List AV} {S : SS} : ev c 178 16 [l0, l1, l2, l3] L2 (aI y :: aI x :: St) S = if y < x then ev c 178 21 [l0, l1, l2, l3] L2 St S else ev c 178 19 [l0, l1, l2, l3] L2 St S := ev_br i178_16 rfl
theorem i178_19 : insAt 178 19 = some (.iload_n 3, 1, (0, 0, 0, 0), 0) := rfl
theorem s178_19 {c : Nat → List AV → SS → Option Out} {l0 l1 l2 : Option AV} {x : Int32} {L2 : List (Nat × AV)} {St : List AV} {S : SS} : ev c 178 19 [l0, l1, l2, some (aI x)] L2 St S = ev c 178 20 [l0, l1, l2, some (aI x)] L2 (aI x :: St) S := ev_go i178_19 rfl
theorem i178_20 : insAt 178 20 = some (.ireturn, 1, (0, 0, 0, 0), 0) := rfl
theorem s178_20 {c : Nat → List AV → SS → Option Out} {l0 l1 l2 l3 : Option AV} {x : Int32} {L2 : List (Nat × AV)} {S : SS} : ev c 178 20 [l0, l1, l2, l3] L2 [aI x] S = some (.inl (some (aI x)), S) := ev_end i178_20 rfl
theorem i178_21 : insAt 178 21 = some (.iload_n 0, 1, (0, 0, 0, 0), 0) := rfl
theorem s178_21 {c : Nat → List AV → SS → Option Out} {l1 l2 l3 : Option AV} {x : Int32} {L2 : List (Nat × AV)} {St : List AV} {S : SS} : ev c 178 21 [some (aI x), l1, l2, l3] L2 St S = ev c 178 22 [some (aI x), l1, l2, l3] L2 (aI x :: St) S := ev_go i178_21 rfl
theorem i178_22 : insAt 178 22 = some (.iload_n 1, 1, (0, 0, 0, 0), 0) := rfl
theorem s178_22 {c : Nat → List AV → SS → Option Out} {l0 l2 l3 : Option AV} {x : Int32} {L2 : List (Nat × AV)} {St : List AV} {S : SS} : ev c 178 22 [l0, some (aI x), l2, l3] L2 St S = ev c 178 23 [l0, some (aI x), l2, l3] L2 (aI x :: St) S := ev_go i178_22 rfl
theorem i178_26 : insAt 178 26 = some (.ireturn, 1, (0, 0, 0, 0), 0) := rfl
theorem s178_26 {c : Nat → List AV → SS → Option Out} {l0 l1 l2 l3 : Option AV} {x : Int32} {L2 : List (Nat × AV)} {S : SS} : ev c 178 26 [l0, l1, l2, l3] L2 [aI x] S = some (.inl (some (aI x)), S) := ev_end i178_26 rfl
theorem m178 {d : Nat} {a0 : Int32} {a1 : Int32} {a2 : Int32} {S : SS} : evm (d + 1) 178 [aI a0, aI a1, aI a2] S = ev (evm d) 178 0 [some (aI a0), some (aI a1), some (aI a2), none] [] [] S := evm_s (n := 4) rfl (Nat.le_of_ble_eq_true rfl) rfl rfl
/-! java/util/Arrays.copyOf([BI)[B -/
theorem i179_0 : insAt 179 0 = some (.iload_n 1, 1, (0, 0, 0, 0), 0) := rfl
theorem s179_0 {c : Nat → List AV → SS → Option Out} {l0 l2 : Option AV} {x : Int32} {L2 : List (Nat × AV)} {St : List AV} {S : SS} : ev c 179 0 [l0, some (aI x), l2] L2 St S = ev c 179 1 [l0, some (aI x), l2] L2 (aI x :: St) S := ev_go i179_0 rfl
theorem i179_1 : insAt 179 1 = some (.aload_n 0, 1, (0, 0, 0, 0), 0) := rfl
theorem s179_1 {c : Nat → List AV → SS → Option Out} {l1 l2 : Option AV} {o : OId} {L2 : List (Nat × AV)} {St : List AV} {S : SS} : ev c 179 1 [some (aR o), l1, l2] L2 St S = ev c 179 2 [some (aR o), l1, l2] L2 (aR o :: St) S := ev_go i179_1 rfl
theorem i179_2 : insAt 179 2 = some (.arraylength, 1, (0, 0, 0, 0), 0) := rfl
theorem s179_2 {c : Nat → List AV → SS → Option Out} {l0 l1 l2 : Option AV} {o : OId} {L2 : List (Nat × AV)} {St : List AV} {S : SS} : ev c 179 2 [l0, l1, l2] L2 (aR o :: St) S = kN o (fun x => ev c 179 3 [l0, l1, l2] L2 (aI x :: St) S) := ev_alen i179_2
theorem i179_3 : insAt 179 3 = some (.if_icmp .ne 11, 3, (0, 0, 0, 0), 0) := rfl
theorem s179_3 {c : Nat → List AV → SS → Option Out} {l0 l1 l2 : Option AV} {x y : Int32} {L2 : List (Nat × AV)} {St : List AV} {S : SS} : ev c 179 3 [l0, l1, l2] L2 (aI y :: aI x :: St) S = if x = y then ev c 179 6 [l0, l1, l2] L2 St S else ev c 179 14 [l0, l1, l2] L2 St S := (ev_br i179_3 rfl).trans (ite_not _ _ _)
theorem i179_6 : insAt 179 6 = some (.aload_n 0, 1, (0, 0, 0, 0), 0) := rfl
theorem s179_6 {c : Nat → List AV → SS → Option Out} {l1 l2 : Option AV} {o : OId} {L2 : List (Nat × AV)} {St : List AV} {S : SS} : ev c 179 6 [some (aR o), l1, l2] L2 St S = ev c 179 7 [some (aR o), l1, l2] L2 (aR o :: St) S := ev_go i179_6 rfl
theorem i179_7 : insAt 179 7 = some (.invokevirtual 310, 3, (0, 0, 22, 0), 314) := rfl
theorem i179_10 : insAt 179 10 = some (.checkcast 311, 3, (0, 0, 0, 0), 315) := rfl
theorem i179_13 : insAt 179 13 = some (.areturn, 1, (0, 0, 0, 0), 0) := rfl
theorem s179_13 {c : Nat → List AV → SS → Option Out} {l0 l1 l2 : Option AV} {o : OId} {L2 : List (Nat × AV)} {S : SS} : ev c 179 13 [l0, l1, l2] L2 [aR o] S = some (.inl (some (aR o)), S) := ev_end i179_13 rfl
theorem s179_13N {c : Nat → List AV → SS → Option Out} {l0 l1 l2 : Option AV} {L2 : List (Nat × AV)} {S : SS} : ev c 179 13 [l0, l1, l2] L2 [aN] S = some (.inl (some aN), S) := ev_end i179_13 rfl
theorem i179_14 : insAt 179 14 = some (.iload_n 1, 1, (0, 0, 0, 0), 0) := rfl
theorem s179_14 {c : Nat → List AV → SS → Option Out} {l0 l2 : Option AV} {x : Int32} {L2 : List (Nat × AV)} {St : List AV} {S : SS} : ev c 179 14 [l0, some (aI x), l2] L2 St S = ev c 179 15 [l0, some (aI x), l2] L2 (aI x :: St) S := ev_go i179_14 rfl
theorem i179_15 : insAt 179 15 = some (.newarray .byte, 2, (0, 0, 0, 0), 0) := rfl
theorem i179_17 : insAt 179 17 = some (.astore_n 2, 1, (0, 0, 0, 0), 0) := rfl
theorem s179_17 {c : Nat → List AV → SS → Option Out} {l0 l1 l2 : Option AV} {o : OId} {L2 : List (Nat × AV)} {St : List AV} {S : SS} : ev c 179 17 [l0, l1, l2] L2 (aR o :: St) S = ev c 179 18 [l0, l1, some (aR o)] (kil L2 2) St S := ev_go i179_17 rfl
theorem i179_18 : insAt 179 18 = some (.aload_n 0, 1, (0, 0, 0, 0), 0) := rfl
theorem s179_18 {c : Nat → List AV → SS → Option Out} {l1 l2 : Option AV} {o : OId} {L2 : List (Nat × AV)} {St : List AV} {S : SS} : ev c 179 18 [some (aR o), l1, l2] L2 St S = ev c 179 19 [some (aR o), l1, l2] L2 (aR o :: St) S := ev_go i179_18 rfl
theorem i179_19 : insAt 179 19 = some (.iconst 0, 1, (0, 0, 0, 0), 0) := rfl
theorem s179_19 {c : Nat → List AV → SS → Option Out} {l0 l1 l2 : Option AV} {L2 : List (Nat × AV)} {St : List AV} {S : SS} : ev c 179 19 [l0, l1, l2] L2 St S = ev c 179 20 [l0, l1, l2] L2 (aI 0 :: St) S := ev_go i179_19 rfl
theorem i179_20 : insAt 179 20 = some (.aload_n 2, 1, (0, 0, 0, 0), 0) := rfl
theorem s179_20 {c : Nat → List AV → SS → Option Out} {l0 l1 : Option AV} {o : OId} {L2 : List (Nat × AV)} {St : List AV} {S : SS} : ev c 179 20 [l0, l1, some (aR o)] L2 St S = ev c 179 21 [l0, l1, some (aR o)] L2 (aR o :: St) S := ev_go i179_20 rfl
theorem i179_21 : insAt 179 21 = some (.iconst 0, 1, (0, 0, 0, 0), 0) := rfl
theorem s179_21 {c : Nat → List AV → SS → Option Out} {l0 l1 l2 : Option AV} {L2 : List (Nat × AV)} {St : List AV} {S : SS} : ev c 179 21 [l0, l1, l2] L2 St S = ev c 179 22 [l0, l1, l2] L2 (aI 0 :: St) S := ev_go i179_21 rfl
theorem i179_22 : insAt 179 22 = some (.aload_n 0, 1, (0, 0, 0, 0), 0) := rfl
theorem s179_22 {c : Nat → List AV → SS → Option Out} {l1 l2 : Option AV} {o : OId} {L2 : List (Nat × AV)} {St : List AV} {S : SS} : ev c 179 22 [some (aR o), l1, l2] L2 St S = ev c 179 23 [some (aR o), l1, l2] L2 (aR o :: St) S := ev_go i179_22 rfl
theorem i179_23 : insAt 179 23 = some (.arraylength, 1, (0, 0, 0, 0), 0) := rfl
theorem s179_23 {c : Nat → List AV → SS → Option Out} {l0 l1 l2 : Option AV} {o : OId} {L2 : List (Nat × AV)} {St : List AV} {S : SS} : ev c 179 23 [l0, l1, l2] L2 (aR o :: St) S = kN o (fun x => ev c 179 24 [l0, l1, l2] L2 (aI x :: St) S) := ev_alen i179_23
theorem i179_24 : insAt 179 24 = some (.iload_n 1, 1, (0, 0, 0, 0), 0) := rfl
theorem s179_24 {c : Nat → List AV → SS → Option Out} {l0 l2 : Option AV} {x : Int32} {L2 : List (Nat × AV)} {St : List AV} {S : SS} : ev c 179 24 [l0, some (aI x), l2] L2 St S = ev c 179 25 [l0, some (aI x), l2] L2 (aI x :: St) S := ev_go i179_24 rfl
theorem i179_25 : insAt 179 25 = some (.invokestatic 304, 3, (0, 2, 24, 0), 316) := rfl
theorem s179_25 {c : Nat → List AV → SS → Option Out} {l0 l1 l2 : Option AV} {t0 t1 t2 t3 : AV} {x y : Int32} {L2 : List (Nat × AV)} {S : SS} : ev c 179 25 [l0, l1, l2] L2 [aI y, aI x, t0, t1, t2, t3] S = ev c 179 28 [l0, l1, l2] L2 [aI (if y < x then y else x), t0, t1, t2, t3] S := ev_go i179_25 rfl
theorem i179_28 : insAt 179 28 = some (.invokestatic 150, 3, (0, 5, 21, 0), 317) := rfl
theorem s179_28 {c : Nat → List AV → SS → Option Out} {l0 l1 l2 : Option AV} {x dp sp : Int32} {d s : OId} {L2 : List (Nat × AV)} {S : SS} : ev c 179 28 [l0, l1, l2] L2 [aI x, aI dp, aR d, aI sp, aR s] S = kA (acp S s sp d dp x) (fun S' => ev c 179 31 [l0, l1, l2] L2 [] S') := ev_acopy rfl i179_28 (by decide)
theorem i179_31 : insAt 179 31 = some (.aload_n 2, 1, (0, 0, 0, 0), 0) := rfl
theorem s179_31 {c : Nat → List AV → SS → Option Out} {l0 l1 : Option AV} {o : OId} {L2 : List (Nat × AV)} {St : List AV} {S : SS} : ev c 179 31 [l0, l1, some (aR o)] L2 St S = ev c 179 32 [l0, l1, some (aR o)] L2 (aR o :: St) S := ev_go i179_31 rfl
theorem i179_32 : insAt 179 32 = some (.areturn, 1, (0, 0, 0, 0), 0) := rfl
theorem s179_32 {c : Nat → List AV → SS → Option Out} {l0 l1 l2 : Option AV} {o : OId} {L2 : List (Nat × AV)} {S : SS} : ev c 179 32 [l0, l1, l2] L2 [aR o] S = some (.inl (some (aR o)), S) := ev_end i179_32 rfl
theorem s179_32N {c : Nat → List AV → SS → Option Out} {l0 l1 l2 : Option AV} {L2 : List (Nat × AV)} {S : SS} : ev c 179 32 [l0, l1, l2] L2 [aN] S = some (.inl (some aN), S) := ev_end i179_32 rfl
theorem m179 {d : Nat} {a0 : OId} {a1 : Int32} {S : SS} : evm (d + 1) 179 [aR a0, aI a1] S = ev (evm d) 179 0 [some (aR a0), some (aI a1), none] [] [] S := evm_s (n := 3) rfl (Nat.le_of_ble_eq_true rfl) rfl rfl
/-! java/lang/AbstractStringBuilder.isLatin1()Z -/
theorem i180_0 : insAt 180 0 = some (.getstatic 18, 3, (0, 0, 0, 0), 72) := rfl
theorem s180_0 {c : Nat → List AV → SS → Option Out} {l0 : Option AV} {L2 : List (Nat × AV)} {St : List AV} {S : SS} : ev c 180 0 [l0] L2 St S = ev c 180 3 [l0] L2 (aI 1 :: St) S := ev_go i180_0 rfl
theorem i180_3 : insAt 180 3 = some (.ifCond .eq 14, 3, (0, 0, 0, 0), 0) := rfl
theorem s180_3 {c : Nat → List AV → SS → Option Out} {l0 : Option AV} {x : Int32} {L2 : List (Nat × AV)} {St : List AV} {S : SS} : ev c 180 3 [l0] L2 (aI x :: St) S = if x = 0 then ev c 180 17 [l0] L2 St S else ev c 180 6 [l0] L2 St S := ev_br i180_3 rfl
theorem i180_6 : insAt 180 6 = some (.aload_n 0, 1, (0, 0, 0, 0), 0) := rfl
theorem s180_6 {c : Nat → List AV → SS → Option Out} {o : OId} {L2 : List (Nat × AV)} {St : List AV} {S : SS} : ev c 180 6 [some (aR o)] L2 St S = ev c 180 7 [some (aR o)] L2 (aR o :: St) S := ev_go i180_6 rfl
theorem i180_7 : insAt 180 7 = some (.getfield 22, 3, (1, 1, 0, 0), 74) := rfl
theorem s180_7 {c : Nat → List AV → SS → Option Out} {l0 : Option AV} {j t : Nat} {L2 : List (Nat × AV)} {St : List AV} {S : SS} : ev c 180 7 [l0] L2 (aR (1, j, t) :: St) S = ev c 180 10 [l0] L2 (aI (by8 (S.1 (1, j, t) 1)) :: St) S := ev_go i180_7 rfl
theorem i180_10 : insAt 180 10 = some (.ifCond .ne 7, 3, (0, 0, 0, 0), 0) := rfl
theorem s180_10 {c : Nat → List AV → SS → Option Out} {l0 : Option AV} {x : Int32} {L2 : List (Nat × AV)} {St : List AV} {S : SS} : ev c 180 10 [l0] L2 (aI x :: St) S = if x = 0 then ev c 180 13 [l0] L2 St S else ev c 180 17 [l0] L2 St S := (ev_br i180_10 rfl).trans (ite_not _ _ _)
theorem i180_13 : insAt 180 13 = some (.iconst 1, 1, (0, 0, 0, 0), 0) := rfl
theorem s180_13 {c : Nat → List AV → SS → Option Out} {l0 : Option AV} {L2 : List (Nat × AV)} {St : List AV} {S : SS} : ev c 180 13 [l0] L2 St S = ev c 180 14 [l0] L2 (aI 1 :: St) S := ev_go i180_13 rfl
theorem i180_14 : insAt 180 14 = some (.goto 4, 3, (0, 0, 0, 0), 0) := rfl
theorem s180_14 {c : Nat → List AV → SS → Option Out} {l0 : Option AV} {L2 : List (Nat × AV)} {St : List AV} {S : SS} : ev c 180 14 [l0] L2 St S = ev c 180 18 [l0] L2 St S := ev_go i180_14 rfl
theorem i180_17 : insAt 180 17 = some (.iconst 0, 1, (0, 0, 0, 0), 0) := rfl
theorem s180_17 {c : Nat → List AV → SS → Option Out} {l0 : Option AV} {L2 : List (Nat × AV)} {St : List AV} {S : SS} : ev c 180 17 [l0] L2 St S = ev c 180 18 [l0] L2 (aI 0 :: St) S := ev_go i180_17 rfl
theorem i180_18 : insAt 180 18 = some (.ireturn, 1, (0, 0, 0, 0), 0) := rfl
theorem s180_18 {c : Nat → List AV → SS → Option Out} {l0 : Option AV} {x : Int32} {L2 : List (Nat × AV)} {S : SS} : ev c 180 18 [l0] L2 [aI x] S = if x = 0 ∨ x = 1 then some (.inl (some (aI x)), S) else none := ev_rt i180_18 rfl
theorem m180 {d : Nat} {o : OId} {S : SS} : evm (d + 1) 180 [aR o] S = ev (evm d) 180 0 [some (aR o)] [] [] S := evm_s (n := 1) rfl (Nat.le_of_ble_eq_true rfl) rfl rfl
/-! java/lang/String.length()I -/
theorem i181_0 : insAt 181 0 = some (.aload_n 0, 1, (0, 0, 0, 0), 0) := rfl
theorem s181_0 {c : Nat → List AV → SS → Option Out} {o : OId} {L2 : List (Nat × AV)} {St : List AV} {S : SS} : ev c 181 0 [some (aR o)] L2 St S = ev c 181 1 [some (aR o)] L2 (aR o :: St) S := ev_go i181_0 rfl
theorem i181_1 : insAt 181 1 = some (.getfield 9, 3, (0, 0, 0, 0), 318) := rfl
theorem s181_1 {c : Nat → List AV → SS → Option Out} {l0 : Option AV} {j t : Nat} {L2 : List (Nat × AV)} {St : List AV} {S : SS} : ev c 181 1 [l0] L2 (aR (0, j, t) :: St) S = ev c 181 4 [l0] L2 (fget S 0 0 (0, j, t) :: St) S := ev_go i181_1 rfl
theorem i181_4 : insAt 181 4 = some (.arraylength, 1, (0, 0, 0, 0), 0) := rfl
theorem s181_4 {c : Nat → List AV → SS → Option Out} {l0 : Option AV} {o : OId} {L2 : List (Nat × AV)} {St : List AV} {S : SS} : ev c 181 4 [l0] L2 (aR o :: St) S = kN o (fun x => ev c 181 5 [l0] L2 (aI x :: St) S) := ev_alen i181_4
theorem i181_5 : insAt 181 5 = some (.aload_n 0, 1, (0, 0, 0, 0), 0) := rfl
theorem s181_5 {c : Nat → List AV → SS → Option Out} {o : OId} {L2 : List (Nat × AV)} {St : List AV} {S : SS} : ev c 181 5 [some (aR o)] L2 St S = ev c 181 6 [some (aR o)] L2 (aR o :: St) S := ev_go i181_5 rfl
theorem i181_6 : insAt 181 6 = some (.invokevirtual 335, 3, (182, 0, 2, 0), 319) := rfl
theorem s181_6 {c : Nat → List AV → SS → Option Out} {l0 : Option AV} {t0 : AV} {j t : Nat} {L2 : List (Nat × AV)} {S : SS} : ev c 181 6 [l0] L2 [aR (0, j, t), t0] S = ck (c 182 [aR (0, j, t)] S) (fun v S' => ev c 181 9 [l0] L2 (v.toList ++ [t0]) S') := ev_call i181_6 rfl
theorem i181_9 : insAt 181 9 = some (.ishr, 1, (0, 0, 0, 0), 0) := rfl
theorem s181_9 {c : Nat → List AV → SS → Option Out} {l0 : Option AV} {x y : Int32} {L2 : List (Nat × AV)} {St : List AV} {S : SS} : ev c 181 9 [l0] L2 (aI y :: aI x :: St) S = ev c 181 10 [l0] L2 (aI (x >>> (y &&& 31)) :: St) S := ev_go i181_9 rfl
theorem i181_10 : insAt 181 10 = some (.ireturn, 1, (0, 0, 0, 0), 0) := rfl
theorem s181_10 {c : Nat → List AV → SS → Option Out} {l0 : Option AV} {x : Int32} {L2 : List (Nat × AV)} {S : SS} : ev c 181 10 [l0] L2 [aI x] S = some (.inl (some (aI x)), S) := ev_end i181_10 rfl
theorem m181 {d : Nat} {o : OId} {S : SS} : evm (d + 1) 181 [aR o] S = ev (evm d) 181 0 [some (aR o)] [] [] S := evm_s (n := 1) rfl (Nat.le_of_ble_eq_true rfl) rfl rfl
/-! java/lang/String.coder()B -/
theorem i182_0 : insAt 182 0 = some (.getstatic 38, 3, (0, 0, 0, 0), 320) := rfl
theorem s182_0 {c : Nat → List AV → SS → Option Out} {l0 : Option AV} {L2 : List (Nat × AV)} {St : List AV} {S : SS} : ev c 182 0 [l0] L2 St S = ev c 182 3 [l0] L2 (aI 1 :: St) S := ev_go i182_0 rfl
theorem i182_3 : insAt 182 3 = some (.ifCond .eq 10, 3, (0, 0, 0, 0), 0) := rfl
theorem s182_3 {c : Nat → List AV → SS → Option Out} {l0 : Option AV} {x : Int32} {L2 : List (Nat × AV)} {St : List AV} {S : SS} : ev c 182 3 [l0] L2 (aI x :: St) S = if x = 0 then ev c 182 13 [l0] L2 St S else ev c 182 6 [l0] L2 St S := ev_br i182_3 rfl
theorem i182_6 : insAt 182 6 = some (.aload_n 0, 1, (0, 0, 0, 0), 0) := rfl
theorem s182_6 {c : Nat → List AV → SS → Option Out} {o : OId} {L2 : List (Nat × AV)} {St : List AV} {S : SS} : ev c 182 6 [some (aR o)] L2 St S = ev c 182 7 [some (aR o)] L2 (aR o :: St) S := ev_go i182_6 rfl
theorem i182_7 : insAt 182 7 = some (.getfield 15, 3, (0, 1, 0, 0), 321) := rfl
theorem s182_7 {c : Nat → List AV → SS → Option Out} {l0 : Option AV} {j t : Nat} {L2 : List (Nat × AV)} {St : List AV} {S : SS} : ev c 182 7 [l0] L2 (aR (0, j, t) :: St) S = ev c 182 10 [l0] L2 (fget S 0 1 (0, j, t) :: St) S := ev_go i182_7 rfl
theorem i182_10 : insAt 182 10 = some (.goto 4, 3, (0, 0, 0, 0), 0) := rfl
theorem s182_10 {c : Nat → List AV → SS → Option Out} {l0 : Option AV} {L2 : List (Nat × AV)} {St : List AV} {S : SS} : ev c 182 10 [l0] L2 St S = ev c 182 14 [l0] L2 St S := ev_go i182_10 rfl
theorem i182_13 : insAt 182 13 = some (.iconst 1, 1, (0, 0, 0, 0), 0) := rfl
theorem s182_13 {c : Nat → List AV → SS → Option Out} {l0 : Option AV} {L2 : List (Nat × AV)} {St : List AV} {S : SS} : ev c 182 13 [l0] L2 St S = ev c 182 14 [l0] L2 (aI 1 :: St) S := ev_go i182_13 rfl
theorem i182_14 : insAt 182 14 = some (.ireturn, 1, (0, 0, 0, 0), 0) := rfl
theorem s182_14 {c : Nat → List AV → SS → Option Out} {l0 : Option AV} {x : Int32} {L2 : List (Nat × AV)} {S : SS} : ev c 182 14 [l0] L2 [aI x] S = if by8 x = x then some (.inl (some (aI x)), S) else none := ev_rt i182_14 rfl
theorem m182 {d : Nat} {o : OId} {S : SS} : evm (d + 1) 182 [aR o] S = ev (evm d) 182 0 [some (aR o)] [] [] S := evm_s (n := 1) rfl (Nat.le_of_ble_eq_true rfl) rfl rfl
/-! java/lang/AbstractStringBuilder.putStringAt(ILjava/lang/String;)V -/
theorem i183_0 : insAt 183 0 = some (.aload_n 0, 1, (0, 0, 0, 0), 0) := rfl
theorem s183_0 {c : Nat → List AV → SS → Option Out} {l1 l2 : Option AV} {o : OId} {L2 : List (Nat × AV)} {St : List AV} {S : SS} : ev c 183 0 [some (aR o), l1, l2] L2 St S = ev c 183 1 [some (aR o), l1, l2] L2 (aR o :: St) S := ev_go i183_0 rfl
theorem i183_1 : insAt 183 1 = some (.aload_n 2, 1, (0, 0, 0, 0), 0) := rfl
theorem s183_1 {c : Nat → List AV → SS → Option Out} {l0 l1 : Option AV} {o : OId} {L2 : List (Nat × AV)} {St : List AV} {S : SS} : ev c 183 1 [l0, l1, some (aR o)] L2 St S = ev c 183 2 [l0, l1, some (aR o)] L2 (aR o :: St) S := ev_go i183_1 rfl
theorem i183_2 : insAt 183 2 = some (.invokevirtual 397, 3, (184, 1, 4, 1), 322) := rfl
theorem s183_2 {c : Nat → List AV → SS → Option Out} {l0 l1 l2 : Option AV} {a0 : OId} {j t : Nat} {L2 : List (Nat × AV)} {S : SS} : ev c 183 2 [l0, l1, l2] L2 [aR a0, aR (1, j, t)] S = ck (c 184 [aR (1, j, t), aR a0] S) (fun v S' => ev c 183 5 [l0, l1, l2] L2 (v.toList ++ []) S') := ev_call i183_2 rfl
theorem i183_5 : insAt 183 5 = some (.aload_n 2, 1, (0, 0, 0, 0), 0) := rfl
theorem s183_5 {c : Nat → List AV → SS → Option Out} {l0 l1 : Option AV} {o : OId} {L2 : List (Nat × AV)} {St : List AV} {S : SS} : ev c 183 5 [l0, l1, some (aR o)] L2 St S = ev c 183 6 [l0, l1, some (aR o)] L2 (aR o :: St) S := ev_go i183_5 rfl
theorem i183_6 : insAt 183 6 = some (.aload_n 0, 1, (0, 0, 0, 0), 0) := rfl
theorem s183_6 {c : Nat → List AV → SS → Option Out} {l1 l2 : Option AV} {o : OId} {L2 : List (Nat × AV)} {St : List AV} {S : SS} : ev c 183 6 [some (aR o), l1, l2] L2 St S = ev c 183 7 [some (aR o), l1, l2] L2 (aR o :: St) S := ev_go i183_6 rfl
theorem i183_7 : insAt 183 7 = some (.getfield 15, 3, (1, 0, 0, 0), 73) := rfl
theorem s183_7 {c : Nat → List AV → SS → Option Out} {l0 l1 l2 : Option AV} {j t : Nat} {L2 : List (Nat × AV)} {St : List AV} {S : SS} : ev c 183 7 [l0, l1, l2] L2 (aR (1, j, t) :: St) S = ev c 183 10 [l0, l1, l2] L2 (S.2.1 (1, j, t) 0 :: St) S := ev_go i183_7 rfl
theorem i183_10 : insAt 183 10 = some (.iload_n 1, 1, (0, 0, 0, 0), 0) := rfl
theorem s183_10 {c : Nat → List AV → SS → Option Out} {l0 l2 : Option AV} {x : Int32} {L2 : List (Nat × AV)} {St : List AV} {S : SS} : ev c 183 10 [l0, some (aI x), l2] L2 St S = ev c 183 11 [l0, some (aI x), l2] L2 (aI x :: St) S := ev_go i183_10 rfl
theorem i183_11 : insAt 183 11 = some (.aload_n 0, 1, (0, 0, 0, 0), 0) := rfl
theorem s183_11 {c : Nat → List AV → SS → Option Out} {l1 l2 : Option AV} {o : OId} {L2 : List (Nat × AV)} {St : List AV} {S : SS} : ev c 183 11 [some (aR o), l1, l2] L2 St S = ev c 183 12 [some (aR o), l1, l2] L2 (aR o :: St) S := ev_go i183_11 rfl
theorem i183_12 : insAt 183 12 = some (.getfield 22, 3, (1, 1, 0, 0), 74) := rfl
theorem s183_12 {c : Nat → List AV → SS → Option Out} {l0 l1 l2 : Option AV} {j t : Nat} {L2 : List (Nat × AV)} {St : List AV} {S : SS} : ev c 183 12 [l0, l1, l2] L2 (aR (1, j, t) :: St) S = ev c 183 15 [l0, l1, l2] L2 (aI (by8 (S.1 (1, j, t) 1)) :: St) S := ev_go i183_12 rfl
theorem i183_15 : insAt 183 15 = some (.invokevirtual 399, 3, (185, 3, 2, 0), 323) := rfl
theorem s183_15 {c : Nat → List AV → SS → Option Out} {l0 l1 l2 : Option AV} {a0 : OId} {a1 : Int32} {a2 : Int32} {j t : Nat} {L2 : List (Nat × AV)} {S : SS} : ev c 183 15 [l0, l1, l2] L2 [aI a2, aI a1, aR a0, aR (0, j, t)] S = ck (c 185 [aR (0, j, t), aR a0, aI a1, aI a2] S) (fun v S' => ev c 183 18 [l0, l1, l2] L2 (v.toList ++ []) S') := ev_call i183_15 rfl
theorem i183_18 : insAt 183 18 = some (.return_, 1, (0, 0, 0, 0), 0) := rfl
theorem s183_18 {c : Nat → List AV → SS → Option Out} {l0 l1 l2 : Option AV} {L2 : List (Nat × AV)} {S : SS} : ev c 183 18 [l0, l1, l2] L2 [] S = some (.inl none, S) := ev_end i183_18 rfl
theorem m183 {d : Nat} {o : OId} {a0 : Int32} {a1 : OId} {S : SS} : evm (d + 1) 183 [aR o, aI a0, aR a1] S = ev (evm d) 183 0 [some (aR o), some (aI a0), some (aR a1)] [] [] S := evm_s (n := 3) rfl (Nat.le_of_ble_eq_true rfl) rfl rfl
/-! java/lang/AbstractStringBuilder.inflateIfNeededFor(Ljava/lang/String;)V -/
theorem i184_0 : insAt 184 0 = some (.getstatic 18, 3, (0, 0, 0, 0), 72) := rfl
theorem s184_0 {c : Nat → List AV → SS → Option Out} {l0 l1 : Option AV} {L2 : List (Nat × AV)} {St : List AV} {S : SS} : ev c 184 0 [l0, l1] L2 St S = ev c 184 3 [l0, l1] L2 (aI 1 :: St) S := ev_go i184_0 rfl
theorem i184_3 : insAt 184 3 = some (.ifCond .eq 18, 3, (0, 0, 0, 0), 0) := rfl
theorem s184_3 {c : Nat → List AV → SS → Option Out} {l0 l1 : Option AV} {x : Int32} {L2 : List (Nat × AV)} {St : List AV} {S : SS} : ev c 184 3 [l0, l1] L2 (aI x :: St) S = if x = 0 then ev c 184 21 [l0, l1] L2 St S else ev c 184 6 [l0, l1] L2 St S := ev_br i184_3 rfl
theorem i184_6 : insAt 184 6 = some (.aload_n 0, 1, (0, 0, 0, 0), 0) := rfl
theorem s184_6 {c : Nat → List AV → SS → Option Out} {l1 : Option AV} {o : OId} {L2 : List (Nat × AV)} {St : List AV} {S : SS} : ev c 184 6 [some (aR o), l1] L2 St S = ev c 184 7 [some (aR o), l1] L2 (aR o :: St) S := ev_go i184_6 rfl
theorem i184_7 : insAt 184 7 = some (.getfield 22, 3, (1, 1, 0, 0), 74) := rfl
theorem s184_7 {c : Nat → List AV → SS → Option Out} {l0 l1 : Option AV} {j t : Nat} {L2 : List (Nat × AV)} {St : List AV} {S : SS} : ev c 184 7 [l0, l1] L2 (aR (1, j, t) :: St) S = ev c 184 10 [l0, l1] L2 (aI (by8 (S.1 (1, j, t) 1)) :: St) S := ev_go i184_7 rfl
theorem i184_10 : insAt 184 10 = some (.aload_n 1, 1, (0, 0, 0, 0), 0) := rfl
theorem s184_10 {c : Nat → List AV → SS → Option Out} {l0 : Option AV} {o : OId} {L2 : List (Nat × AV)} {St : List AV} {S : SS} : ev c 184 10 [l0, some (aR o)] L2 St S = ev c 184 11 [l0, some (aR o)] L2 (aR o :: St) S := ev_go i184_10 rfl
theorem i184_11 : insAt 184 11 = some (.invokevirtual 40, 3, (182, 0, 2, 0), 324) := rfl
theorem s184_11 {c : Nat → List AV → SS → Option Out} {l0 l1 : Option AV} {t0 : AV} {j t : Nat} {L2 : List (Nat × AV)} {S : SS} : ev c 184 11 [l0, l1] L2 [aR (0, j, t), t0] S = ck (c 182 [aR (0, j, t)] S) (fun v S' => ev c 184 14 [l0, l1] L2 (v.toList ++ [t0]) S') := ev_call i184_11 rfl
theorem i184_14 : insAt 184 14 = some (.if_icmp .eq 7, 3, (0, 0, 0, 0), 0) := rfl
theorem s184_14 {c : Nat → List AV → SS → Option Out} {l0 l1 : Option AV} {x y : Int32} {L2 : List (Nat × AV)} {St : List AV} {S : SS} : ev c 184 14 [l0, l1] L2 (aI y :: aI x :: St) S = if x = y then ev c 184 21 [l0, l1] L2 St S else ev c 184 17 [l0, l1] L2 St S := ev_br i184_14 rfl
theorem i184_17 : insAt 184 17 = some (.aload_n 0, 1, (0, 0, 0, 0), 0) := rfl
theorem s184_17 {c : Nat → List AV → SS → Option Out} {l1 : Option AV} {o : OId} {L2 : List (Nat × AV)} {St : List AV} {S : SS} : ev c 184 17 [some (aR o), l1] L2 St S = ev c 184 18 [some (aR o), l1] L2 (aR o :: St) S := ev_go i184_17 rfl
theorem i184_21 : insAt 184 21 = some (.return_, 1, (0, 0, 0, 0), 0) := rfl
theorem s184_21 {c : Nat → List AV → SS → Option Out} {l0 l1 : Option AV} {L2 : List (Nat × AV)} {S : SS} : ev c 184 21 [l0, l1] L2 [] S = some (.inl none, S) := ev_end i184_21 rfl
theorem m184 {d : Nat} {o : OId} {a0 : OId} {S : SS} : evm (d + 1) 184 [aR o, aR a0] S = ev (evm d) 184 0 [some (aR o), some (aR a0)] [] [] S := evm_s (n := 2) rfl (Nat.le_of_ble_eq_true rfl) rfl rfl
/-! java/lang/String.getBytes([BIB)V -/
theorem i185_0 : insAt 185 0 = some (.aload_n 0, 1, (0, 0, 0, 0), 0) := rfl
theorem s185_0 {c : Nat → List AV → SS → Option Out} {l1 l2 l3 : Option AV} {o : OId} {L2 : List (Nat × AV)} {St : List AV} {S : SS} : ev c 185 0 [some (aR o), l1, l2, l3] L2 St S = ev c 185 1 [some (aR o), l1, l2, l3] L2 (aR o :: St) S := ev_go i185_0 rfl
theorem i185_1 : insAt 185 1 = some (.invokevirtual 335, 3, (182, 0, 2, 0), 319) := rfl
theorem s185_1 {c : Nat → List AV → SS → Option Out} {l0 l1 l2 l3 : Option AV} {j t : Nat} {L2 : List (Nat × AV)} {S : SS} : ev c 185 1 [l0, l1, l2, l3] L2 [aR (0, j, t)] S = ck (c 182 [aR (0, j, t)] S) (fun v S' => ev c 185 4 [l0, l1, l2, l3] L2 (v.toList ++ []) S') := ev_call i185_1 rfl
theorem i185_4 : insAt 185 4 = some (.iload_n 3, 1, (0, 0, 0, 0), 0) := rfl
theorem s185_4 {c : Nat → List AV → SS → Option Out} {l0 l1 l2 : Option AV} {x : Int32} {L2 : List (Nat × AV)} {St : List AV} {S : SS} : ev c 185 4 [l0, l1, l2, some (aI x)] L2 St S = ev c 185 5 [l0, l1, l2, some (aI x)] L2 (aI x :: St) S := ev_go i185_4 rfl
theorem i185_5 : insAt 185 5 = some (.if_icmp .ne 23, 3, (0, 0, 0, 0), 0) := rfl
theorem s185_5 {c : Nat → List AV → SS → Option Out} {l0 l1 l2 l3 : Option AV} {x y : Int32} {L2 : List (Nat × AV)} {St : List AV} {S : SS} : ev c 185 5 [l0, l1, l2, l3] L2 (aI y :: aI x :: St) S = if x = y then ev c 185 8 [l0, l1, l2, l3] L2 St S else ev c 185 28 [l0, l1, l2, l3] L2 St S := (ev_br i185_5 rfl).trans (ite_not _ _ _)
theorem i185_8 : insAt 185 8 = some (.aload_n 0, 1, (0, 0, 0, 0), 0) := rfl
theorem s185_8 {c : Nat → List AV → SS → Option Out} {l1 l2 l3 : Option AV} {o : OId} {L2 : List (Nat × AV)} {St : List AV} {S : SS} : ev c 185 8 [some (aR o), l1, l2, l3] L2 St S = ev c 185 9 [some (aR o), l1, l2, l3] L2 (aR o :: St) S := ev_go i185_8 rfl
theorem i185_9 : insAt 185 9 = some (.getfield 9, 3, (0, 0, 0, 0), 318) := rfl
theorem s185_9 {c : Nat → List AV → SS → Option Out} {l0 l1 l2 l3 : Option AV} {j t : Nat} {L2 : List (Nat × AV)} {St : List AV} {S : SS} : ev c 185 9 [l0, l1, l2, l3] L2 (aR (0, j, t) :: St) S = ev c 185 12 [l0, l1, l2, l3] L2 (fget S 0 0 (0, j, t) :: St) S := ev_go i185_9 rfl
theorem i185_12 : insAt 185 12 = some (.iconst 0, 1, (0, 0, 0, 0), 0) := rfl
theorem s185_12 {c : Nat → List AV → SS → Option Out} {l0 l1 l2 l3 : Option AV} {L2 : List (Nat × AV)} {St : List AV} {S : SS} : ev c 185 12 [l0, l1, l2, l3] L2 St S = ev c 185 13 [l0, l1, l2, l3] L2 (aI 0 :: St) S := ev_go i185_12 rfl
theorem i185_13 : insAt 185 13 = some (.aload_n 1, 1, (0, 0, 0, 0), 0) := rfl
theorem s185_13 {c : Nat → List AV → SS → Option Out} {l0 l2 l3 : Option AV} {o : OId} {L2 : List (Nat × AV)} {St : List AV} {S : SS} : ev c 185 13 [l0, some (aR o), l2, l3] L2 St S = ev c 185 14 [l0, some (aR o), l2, l3] L2 (aR o :: St) S := ev_go i185_13 rfl
theorem i185_14 : insAt 185 14 = some (.iload_n 2, 1, (0, 0, 0, 0), 0) := rfl
theorem s185_14 {c : Nat → List AV → SS → Option Out} {l0 l1 l3 : Option AV} {x : Int32} {L2 : List (Nat × AV)} {St : List AV} {S : SS} : ev c 185 14 [l0, l1, some (aI x), l3] L2 St S = ev c 185 15 [l0, l1, some (aI x), l3] L2 (aI x :: St) S := ev_go i185_14 rfl
theorem i185_15 : insAt 185 15 = some (.iload_n 3, 1, (0, 0, 0, 0), 0) := rfl
theorem s185_15 {c : Nat → List AV → SS → Option Out} {l0 l1 l2 : Option AV} {x : Int32} {L2 : List (Nat × AV)} {St : List AV} {S : SS} : ev c 185 15 [l0, l1, l2, some (aI x)] L2 St S = ev c 185 16 [l0, l1, l2, some (aI x)] L2 (aI x :: St) S := ev_go i185_15 rfl
theorem i185_16 : insAt 185 16 = some (.ishl, 1, (0, 0, 0, 0), 0) := rfl
theorem s185_16 {c : Nat → List AV → SS → Option Out} {l0 l1 l2 l3 : Option AV} {x y : Int32} {L2 : List (Nat × AV)} {St : List AV} {S : SS} : ev c 185 16 [l0, l1, l2, l3] L2 (aI y :: aI x :: St) S = ev c 185 17 [l0, l1, l2, l3] L2 (aI (x <<< (y &&& 31)) :: St) S := ev_go i185_16 rfl
theorem i185_17 : insAt 185 17 = some (.aload_n 0, 1, (0, 0, 0, 0), 0) := rfl
theorem s185_17 {c : Nat → List AV → SS → Option Out} {l1 l2 l3 : Option AV} {o : OId} {L2 : List (Nat × AV)} {St : List AV} {S : SS} : ev c 185 17 [some (aR o), l1, l2, l3] L2 St S = ev c 185 18 [some (aR o), l1, l2, l3] L2 (aR o :: St) S := ev_go i185_17 rfl
theorem i185_18 : insAt 185 18 = some (.getfield 9, 3, (0, 0, 0, 0), 318) := rfl
theorem s185_18 {c : Nat → List AV → SS → Option Out} {l0 l1 l2 l3 : Option AV} {j t : Nat} {L2 : List (Nat × AV)} {St : List AV} {S : SS} : ev c 185 18 [l0, l1, l2, l3] L2 (aR (0, j, t) :: St) S = ev c 185 21 [l0, l1, l2, l3] L2 (fget S 0 0 (0, j, t) :: St) S := ev_go i185_18 rfl
theorem i185_21 : insAt 185 21 = some (.arraylength, 1, (0, 0, 0, 0), 0) := rfl
theorem s185_21 {c : Nat → List AV → SS → Option Out} {l0 l1 l2 l3 : Option AV} {o : OId} {L2 : List (Nat × AV)} {St : List AV} {S : SS} : ev c 185 21 [l0, l1, l2, l3] L2 (aR o :: St) S = kN o (fun x => ev c 185 22 [l0, l1, l2, l3] L2 (aI x :: St) S) := ev_alen i185_21
theorem i185_22 : insAt 185 22 = some (.invokestatic 212, 3, (0, 5, 21, 0), 325) := rfl
theorem s185_22 {c : Nat → List AV → SS → Option Out} {l0 l1 l2 l3 : Option AV} {x dp sp : Int32} {d s : OId} {L2 : List (Nat × AV)} {S : SS} : ev c 185 22 [l0, l1, l2, l3] L2 [aI x, aI dp, aR d, aI sp, aR s] S = kA (acp S s sp d dp x) (fun S' => ev c 185 25 [l0, l1, l2, l3] L2 [] S') := ev_acopy rfl i185_22 (by decide)
theorem i185_25 : insAt 185 25 = some (.goto 18, 3, (0, 0, 0, 0), 0) := rfl
theorem s185_25 {c : Nat → List AV → SS → Option Out} {l0 l1 l2 l3 : Option AV} {L2 : List (Nat × AV)} {St : List AV} {S : SS} : ev c 185 25 [l0, l1, l2, l3] L2 St S = ev c 185 43 [l0, l1, l2, l3] L2 St S := ev_go i185_25 rfl
theorem i185_28 : insAt 185 28 = some (.aload_n 0, 1, (0, 0, 0, 0), 0) := rfl
theorem s185_28 {c : Nat → List AV → SS → Option Out} {l1 l2 l3 : Option AV} {o : OId} {L2 : List (Nat × AV)} {St : List AV} {S : SS} : ev c 185 28 [some (aR o), l1, l2, l3] L2 St S = ev c 185 29 [some (aR o), l1, l2, l3] L2 (aR o :: St) S := ev_go i185_28 rfl
theorem i185_29 : insAt 185 29 = some (.getfield 9, 3, (0, 0, 0, 0), 318) := rfl
theorem s185_29 {c : Nat → List AV → SS → Option Out} {l0 l1 l2 l3 : Option AV} {j t : Nat} {L2 : List (Nat × AV)} {St : List AV} {S : SS} : ev c 185 29 [l0, l1, l2, l3] L2 (aR (0, j, t) :: St) S = ev c 185 32 [l0, l1, l2, l3] L2 (fget S 0 0 (0, j, t) :: St) S := ev_go i185_29 rfl
theorem i185_32 : insAt 185 32 = some (.iconst 0, 1, (0, 0, 0, 0), 0) := rfl
theorem s185_32 {c : Nat → List AV → SS → Option Out} {l0 l1 l2 l3 : Option AV} {L2 : List (Nat × AV)} {St : List AV} {S : SS} : ev c 185 32 [l0, l1, l2, l3] L2 St S = ev c 185 33 [l0, l1, l2, l3] L2 (aI 0 :: St) S := ev_go i185_32 rfl
theorem i185_33 : insAt 185 33 = some (.aload_n 1, 1, (0, 0, 0, 0), 0) := rfl
theorem s185_33 {c : Nat → List AV → SS → Option Out} {l0 l2 l3 : Option AV} {o : OId} {L2 : List (Nat × AV)} {St : List AV} {S : SS} : ev c 185 33 [l0, some (aR o), l2, l3] L2 St S = ev c 185 34 [l0, some (aR o), l2, l3] L2 (aR o :: St) S := ev_go i185_33 rfl
theorem i185_34 : insAt 185 34 = some (.iload_n 2, 1, (0, 0, 0, 0), 0) := rfl
theorem s185_34 {c : Nat → List AV → SS → Option Out} {l0 l1 l3 : Option AV} {x : Int32} {L2 : List (Nat × AV)} {St : List AV} {S : SS} : ev c 185 34 [l0, l1, some (aI x), l3] L2 St S = ev c 185 35 [l0, l1, some (aI x), l3] L2 (aI x :: St) S := ev_go i185_34 rfl
theorem i185_35 : insAt 185 35 = some (.aload_n 0, 1, (0, 0, 0, 0), 0) := rfl
theorem s185_35 {c : Nat → List AV → SS → Option Out} {l1 l2 l3 : Option AV} {o : OId} {L2 : List (Nat × AV)} {St : List AV} {S : SS} : ev c 185 35 [some (aR o), l1, l2, l3] L2 St S = ev c 185 36 [some (aR o), l1, l2, l3] L2 (aR o :: St) S := ev_go i185_35 rfl
theorem i185_36 : insAt 185 36 = some (.getfield 9, 3, (0, 0, 0, 0), 318) := rfl
theorem s185_36 {c : Nat → List AV → SS → Option Out} {l0 l1 l2 l3 : Option AV} {j t : Nat} {L2 : List (Nat × AV)} {St : List AV} {S : SS} : ev c 185 36 [l0, l1, l2, l3] L2 (aR (0, j, t) :: St) S = ev c 185 39 [l0, l1, l2, l3] L2 (fget S 0 0 (0, j, t) :: St) S := ev_go i185_36 rfl
theorem i185_39 : insAt 185 39 = some (.arraylength, 1, (0, 0, 0, 0), 0) := rfl
theorem s185_39 {c : Nat → List AV → SS → Option Out} {l0 l1 l2 l3 : Option AV} {o : OId} {L2 : List (Nat × AV)} {St : List AV} {S : SS} : ev c 185 39 [l0, l1, l2, l3] L2 (aR o :: St) S = kN o (fun x => ev c 185 40 [l0, l1, l2, l3] L2 (aI x :: St) S) := ev_alen i185_39
theorem i185_43 : insAt 185 43 = some (.return_, 1, (0, 0, 0, 0), 0) := rfl
theorem s185_43 {c : Nat → List AV → SS → Option Out} {l0 l1 l2 l3 : Option AV} {L2 : List (Nat × AV)} {S : SS} : ev c 185 43 [l0, l1, l2, l3] L2 [] S = some (.inl none, S) := ev_end i185_43 rfl
theorem m185 {d : Nat} {o : OId} {a0 : OId} {a1 : Int32} {a2 : Int32} {S : SS} : evm (d + 1) 185 [aR o, aR a0, aI a1, aI a2] S = ev (evm d) 185 0 [some (aR o), some (aR a0), some (aI a1), some (aI a2)] [] [] S := evm_s (n := 4) rfl (Nat.le_of_ble_eq_true rfl) rfl rfl
/-! java/lang/StringBuilder.append(I)Ljava/lang/StringBuilder; -/
theorem i186_0 : insAt 186 0 = some (.aload_n 0, 1, (0, 0, 0, 0), 0) := rfl
theorem s186_0 {c : Nat → List AV → SS → Option Out} {l1 : Option AV} {o : OId} {L2 : List (Nat × AV)} {St : List AV} {S : SS} : ev c 186 0 [some (aR o), l1] L2 St S = ev c 186 1 [some (aR o), l1] L2 (aR o :: St) S := ev_go i186_0 rfl
theorem i186_1 : insAt 186 1 = some (.iload_n 1, 1, (0, 0, 0, 0), 0) := rfl
theorem s186_1 {c : Nat → List AV → SS → Option Out} {l0 : Option AV} {x : Int32} {L2 : List (Nat × AV)} {St : List AV} {S : SS} : ev c 186 1 [l0, some (aI x)] L2 St S = ev c 186 2 [l0, some (aI x)] L2 (aI x :: St) S := ev_go i186_1 rfl
theorem i186_2 : insAt 186 2 = some (.invokespecial 53, 3, (187, 1, 7, 1), 326) := rfl
theorem s186_2 {c : Nat → List AV → SS → Option Out} {l0 l1 : Option AV} {a0 : Int32} {j t : Nat} {L2 : List (Nat × AV)} {S : SS} : ev c 186 2 [l0, l1] L2 [aI a0, aR (1, j, t)] S = ck (c 187 [aR (1, j, t), aI a0] S) (fun v S' => ev c 186 5 [l0, l1] L2 (v.toList ++ []) S') := ev_call i186_2 rfl
theorem i186_5 : insAt 186 5 = some (.pop, 1, (0, 0, 0, 0), 0) := rfl
theorem s186_5 {c : Nat → List AV → SS → Option Out} {l0 l1 : Option AV} {x : OId} {L2 : List (Nat × AV)} {St : List AV} {S : SS} : ev c 186 5 [l0, l1] L2 (aR x :: St) S = ev c 186 6 [l0, l1] L2 (St) S := ev_go i186_5 rfl
theorem i186_6 : insAt 186 6 = some (.aload_n 0, 1, (0, 0, 0, 0), 0) := rfl
theorem s186_6 {c : Nat → List AV → SS → Option Out} {l1 : Option AV} {o : OId} {L2 : List (Nat × AV)} {St : List AV} {S : SS} : ev c 186 6 [some (aR o), l1] L2 St S = ev c 186 7 [some (aR o), l1] L2 (aR o :: St) S := ev_go i186_6 rfl
theorem i186_7 : insAt 186 7 = some (.areturn, 1, (0, 0, 0, 0), 0) := rfl
theorem s186_7 {c : Nat → List AV → SS → Option Out} {l0 l1 : Option AV} {o : OId} {L2 : List (Nat × AV)} {S : SS} : ev c 186 7 [l0, l1] L2 [aR o] S = some (.inl (some (aR o)), S) := ev_end i186_7 rfl
theorem s186_7N {c : Nat → List AV → SS → Option Out} {l0 l1 : Option AV} {L2 : List (Nat × AV)} {S : SS} : ev c 186 7 [l0, l1] L2 [aN] S = some (.inl (some aN), S) := ev_end i186_7 rfl
theorem m186 {d : Nat} {o : OId} {a0 : Int32} {S : SS} : evm (d + 1) 186 [aR o, aI a0] S = ev (evm d) 186 0 [some (aR o), some (aI a0)] [] [] S := evm_s (n := 2) rfl (Nat.le_of_ble_eq_true rfl) rfl rfl
/-! java/lang/AbstractStringBuilder.append(I)Ljava/lang/AbstractStringBuilder; -/
theorem i187_0 : insAt 187 0 = some (.aload_n 0, 1, (0, 0, 0, 0), 0) := rfl
theorem s187_0 {c : Nat → List AV → SS → Option Out} {l1 l2 l3 : Option AV} {o : OId} {L2 : List (Nat × AV)} {St : List AV} {S : SS} : ev c 187 0 [some (aR o), l1, l2, l3] L2 St S = ev c 187 1 [some (aR o), l1, l2, l3] L2 (aR o :: St) S := ev_go i187_0 rfl
theorem i187_1 : insAt 187 1 = some (.getfield 79, 3, (1, 3, 0, 0), 302) := rfl
theorem s187_1 {c : Nat → List AV → SS → Option Out} {l0 l1 l2 l3 : Option AV} {j t : Nat} {L2 : List (Nat × AV)} {St : List AV} {S : SS} : ev c 187 1 [l0, l1, l2, l3] L2 (aR (1, j, t) :: St) S = ev c 187 4 [l0, l1, l2, l3] L2 (aI (S.1 (1, j, t) 3) :: St) S := ev_go i187_1 rfl
theorem i187_4 : insAt 187 4 = some (.istore_n 2, 1, (0, 0, 0, 0), 0) := rfl
theorem s187_4 {c : Nat → List AV → SS → Option Out} {l0 l1 l2 l3 : Option AV} {x : Int32} {L2 : List (Nat × AV)} {St : List AV} {S : SS} : ev c 187 4 [l0, l1, l2, l3] L2 (aI x :: St) S = ev c 187 5 [l0, l1, some (aI x), l3] (kil L2 2) St S := ev_go i187_4 rfl
theorem i187_5 : insAt 187 5 = some (.iload_n 2, 1, (0, 0, 0, 0), 0) := rfl
theorem s187_5 {c : Nat → List AV → SS → Option Out} {l0 l1 l3 : Option AV} {x : Int32} {L2 : List (Nat × AV)} {St : List AV} {S : SS} : ev c 187 5 [l0, l1, some (aI x), l3] L2 St S = ev c 187 6 [l0, l1, some (aI x), l3] L2 (aI x :: St) S := ev_go i187_5 rfl
theorem i187_6 : insAt 187 6 = some (.iload_n 1, 1, (0, 0, 0, 0), 0) := rfl
theorem s187_6 {c : Nat → List AV → SS → Option Out} {l0 l2 l3 : Option AV} {x : Int32} {L2 : List (Nat × AV)} {St : List AV} {S : SS} : ev c 187 6 [l0, some (aI x), l2, l3] L2 St S = ev c 187 7 [l0, some (aI x), l2, l3] L2 (aI x :: St) S := ev_go i187_6 rfl
theorem i187_7 : insAt 187 7 = some (.invokestatic 245, 3, (188, 1, 0, 0), 327) := rfl
theorem s187_7 {c : Nat → List AV → SS → Option Out} {l0 l1 l2 l3 : Option AV} {t0 : AV} {a0 : Int32} {L2 : List (Nat × AV)} {S : SS} : ev c 187 7 [l0, l1, l2, l3] L2 [aI a0, t0] S = ck (c 188 [aI a0] S) (fun v S' => ev c 187 10 [l0, l1, l2, l3] L2 (v.toList ++ [t0]) S') := ev_call i187_7 rfl
theorem i187_10 : insAt 187 10 = some (.iadd, 1, (0, 0, 0, 0), 0) := rfl
theorem s187_10 {c : Nat → List AV → SS → Option Out} {l0 l1 l2 l3 : Option AV} {x y : Int32} {L2 : List (Nat × AV)} {St : List AV} {S : SS} : ev c 187 10 [l0, l1, l2, l3] L2 (aI y :: aI x :: St) S = ev c 187 11 [l0, l1, l2, l3] L2 (aI (x + y) :: St) S := ev_go i187_10 rfl
theorem i187_11 : insAt 187 11 = some (.istore_n 3, 1, (0, 0, 0, 0), 0) := rfl
theorem s187_11 {c : Nat → List AV → SS → Option Out} {l0 l1 l2 l3 : Option AV} {x : Int32} {L2 : List (Nat × AV)} {St : List AV} {S : SS} : ev c 187 11 [l0, l1, l2, l3] L2 (aI x :: St) S = ev c 187 12 [l0, l1, l2, some (aI x)] (kil L2 3) St S := ev_go i187_11 rfl
theorem i187_12 : insAt 187 12 = some (.aload_n 0, 1, (0, 0, 0, 0), 0) := rfl
theorem s187_12 {c : Nat → List AV → SS → Option Out} {l1 l2 l3 : Option AV} {o : OId} {L2 : List (Nat × AV)} {St : List AV} {S : SS} : ev c 187 12 [some (aR o), l1, l2, l3] L2 St S = ev c 187 13 [some (aR o), l1, l2, l3] L2 (aR o :: St) S := ev_go i187_12 rfl
theorem i187_13 : insAt 187 13 = some (.iload_n 3, 1, (0, 0, 0, 0), 0) := rfl
theorem s187_13 {c : Nat → List AV → SS → Option Out} {l0 l1 l2 : Option AV} {x : Int32} {L2 : List (Nat × AV)} {St : List AV} {S : SS} : ev c 187 13 [l0, l1, l2, some (aI x)] L2 St S = ev c 187 14 [l0, l1, l2, some (aI x)] L2 (aI x :: St) S := ev_go i187_13 rfl
theorem i187_14 : insAt 187 14 = some (.invokevirtual 100, 3, (176, 1, 4, 1), 301) := rfl
theorem s187_14 {c : Nat → List AV → SS → Option Out} {l0 l1 l2 l3 : Option AV} {a0 : Int32} {j t : Nat} {L2 : List (Nat × AV)} {S : SS} : ev c 187 14 [l0, l1, l2, l3] L2 [aI a0, aR (1, j, t)] S = ck (c 176 [aR (1, j, t), aI a0] S) (fun v S' => ev c 187 17 [l0, l1, l2, l3] L2 (v.toList ++ []) S') := ev_call i187_14 rfl
theorem i187_17 : insAt 187 17 = some (.aload_n 0, 1, (0, 0, 0, 0), 0) := rfl
theorem s187_17 {c : Nat → List AV → SS → Option Out} {l1 l2 l3 : Option AV} {o : OId} {L2 : List (Nat × AV)} {St : List AV} {S : SS} : ev c 187 17 [some (aR o), l1, l2, l3] L2 St S = ev c 187 18 [some (aR o), l1, l2, l3] L2 (aR o :: St) S := ev_go i187_17 rfl
theorem i187_18 : insAt 187 18 = some (.invokevirtual 83, 3, (180, 0, 4, 1), 303) := rfl
theorem s187_18 {c : Nat → List AV → SS → Option Out} {l0 l1 l2 l3 : Option AV} {j t : Nat} {L2 : List (Nat × AV)} {S : SS} : ev c 187 18 [l0, l1, l2, l3] L2 [aR (1, j, t)] S = ck (c 180 [aR (1, j, t)] S) (fun v S' => ev c 187 21 [l0, l1, l2, l3] L2 (v.toList ++ []) S') := ev_call i187_18 rfl
theorem i187_21 : insAt 187 21 = some (.ifCond .eq 16, 3, (0, 0, 0, 0), 0) := rfl
theorem s187_21 {c : Nat → List AV → SS → Option Out} {l0 l1 l2 l3 : Option AV} {x : Int32} {L2 : List (Nat × AV)} {St : List AV} {S : SS} : ev c 187 21 [l0, l1, l2, l3] L2 (aI x :: St) S = if x = 0 then ev c 187 37 [l0, l1, l2, l3] L2 St S else ev c 187 24 [l0, l1, l2, l3] L2 St S := ev_br i187_21 rfl
theorem i187_24 : insAt 187 24 = some (.iload_n 1, 1, (0, 0, 0, 0), 0) := rfl
theorem s187_24 {c : Nat → List AV → SS → Option Out} {l0 l2 l3 : Option AV} {x : Int32} {L2 : List (Nat × AV)} {St : List AV} {S : SS} : ev c 187 24 [l0, some (aI x), l2, l3] L2 St S = ev c 187 25 [l0, some (aI x), l2, l3] L2 (aI x :: St) S := ev_go i187_24 rfl
theorem i187_25 : insAt 187 25 = some (.iload_n 3, 1, (0, 0, 0, 0), 0) := rfl
theorem s187_25 {c : Nat → List AV → SS → Option Out} {l0 l1 l2 : Option AV} {x : Int32} {L2 : List (Nat × AV)} {St : List AV} {S : SS} : ev c 187 25 [l0, l1, l2, some (aI x)] L2 St S = ev c 187 26 [l0, l1, l2, some (aI x)] L2 (aI x :: St) S := ev_go i187_25 rfl
theorem i187_26 : insAt 187 26 = some (.aload_n 0, 1, (0, 0, 0, 0), 0) := rfl
theorem s187_26 {c : Nat → List AV → SS → Option Out} {l1 l2 l3 : Option AV} {o : OId} {L2 : List (Nat × AV)} {St : List AV} {S : SS} : ev c 187 26 [some (aR o), l1, l2, l3] L2 St S = ev c 187 27 [some (aR o), l1, l2, l3] L2 (aR o :: St) S := ev_go i187_26 rfl
theorem i187_27 : insAt 187 27 = some (.getfield 15, 3, (1, 0, 0, 0), 73) := rfl
theorem s187_27 {c : Nat → List AV → SS → Option Out} {l0 l1 l2 l3 : Option AV} {j t : Nat} {L2 : List (Nat × AV)} {St : List AV} {S : SS} : ev c 187 27 [l0, l1, l2, l3] L2 (aR (1, j, t) :: St) S = ev c 187 30 [l0, l1, l2, l3] L2 (S.2.1 (1, j, t) 0 :: St) S := ev_go i187_27 rfl
theorem i187_30 : insAt 187 30 = some (.invokestatic 248, 3, (189, 3, 0, 0), 328) := rfl
theorem s187_30 {c : Nat → List AV → SS → Option Out} {l0 l1 l2 l3 : Option AV} {a0 : Int32} {a1 : Int32} {a2 : OId} {L2 : List (Nat × AV)} {S : SS} : ev c 187 30 [l0, l1, l2, l3] L2 [aR a2, aI a1, aI a0] S = ck (c 189 [aI a0, aI a1, aR a2] S) (fun v S' => ev c 187 33 [l0, l1, l2, l3] L2 (v.toList ++ []) S') := ev_call i187_30 rfl
theorem i187_33 : insAt 187 33 = some (.pop, 1, (0, 0, 0, 0), 0) := rfl
theorem s187_33 {c : Nat → List AV → SS → Option Out} {l0 l1 l2 l3 : Option AV} {x : Int32} {L2 : List (Nat × AV)} {St : List AV} {S : SS} : ev c 187 33 [l0, l1, l2, l3] L2 (aI x :: St) S = ev c 187 34 [l0, l1, l2, l3] L2 (St) S := ev_go i187_33 rfl
theorem i187_34 : insAt 187 34 = some (.goto 14, 3, (0, 0, 0, 0), 0) := rfl
theorem s187_34 {c : Nat → List AV → SS → Option Out} {l0 l1 l2 l3 : Option AV} {L2 : List (Nat × AV)} {St : List AV} {S : SS} : ev c 187 34 [l0, l1, l2, l3] L2 St S = ev c 187 48 [l0, l1, l2, l3] L2 St S := ev_go i187_34 rfl
theorem i187_37 : insAt 187 37 = some (.iload_n 1, 1, (0, 0, 0, 0), 0) := rfl
theorem s187_37 {c : Nat → List AV → SS → Option Out} {l0 l2 l3 : Option AV} {x : Int32} {L2 : List (Nat × AV)} {St : List AV} {S : SS} : ev c 187 37 [l0, some (aI x), l2, l3] L2 St S = ev c 187 38 [l0, some (aI x), l2, l3] L2 (aI x :: St) S := ev_go i187_37 rfl
theorem i187_38 : insAt 187 38 = some (.iload_n 2, 1, (0, 0, 0, 0), 0) := rfl
theorem s187_38 {c : Nat → List AV → SS → Option Out} {l0 l1 l3 : Option AV} {x : Int32} {L2 : List (Nat × AV)} {St : List AV} {S : SS} : ev c 187 38 [l0, l1, some (aI x), l3] L2 St S = ev c 187 39 [l0, l1, some (aI x), l3] L2 (aI x :: St) S := ev_go i187_38 rfl
theorem i187_39 : insAt 187 39 = some (.iload_n 3, 1, (0, 0, 0, 0), 0) := rfl
theorem s187_39 {c : Nat → List AV → SS → Option Out} {l0 l1 l2 : Option AV} {x : Int32} {L2 : List (Nat × AV)} {St : List AV} {S : SS} : ev c 187 39 [l0, l1, l2, some (aI x)] L2 St S = ev c 187 40 [l0, l1, l2, some (aI x)] L2 (aI x :: St) S := ev_go i187_39 rfl
theorem i187_40 : insAt 187 40 = some (.aload_n 0, 1, (0, 0, 0, 0), 0) := rfl
theorem s187_40 {c : Nat → List AV → SS → Option Out} {l1 l2 l3 : Option AV} {o : OId} {L2 : List (Nat × AV)} {St : List AV} {S : SS} : ev c 187 40 [some (aR o), l1, l2, l3] L2 St S = ev c 187 41 [some (aR o), l1, l2, l3] L2 (aR o :: St) S := ev_go i187_40 rfl
theorem i187_41 : insAt 187 41 = some (.getfield 15, 3, (1, 0, 0, 0), 73) := rfl
theorem s187_41 {c : Nat → List AV → SS → Option Out} {l0 l1 l2 l3 : Option AV} {j t : Nat} {L2 : List (Nat × AV)} {St : List AV} {S : SS} : ev c 187 41 [l0, l1, l2, l3] L2 (aR (1, j, t) :: St) S = ev c 187 44 [l0, l1, l2, l3] L2 (S.2.1 (1, j, t) 0 :: St) S := ev_go i187_41 rfl
theorem i187_47 : insAt 187 47 = some (.pop, 1, (0, 0, 0, 0), 0) := rfl
theorem s187_47 {c : Nat → List AV → SS → Option Out} {l0 l1 l2 l3 : Option AV} {x : Int32} {L2 : List (Nat × AV)} {St : List AV} {S : SS} : ev c 187 47 [l0, l1, l2, l3] L2 (aI x :: St) S = ev c 187 48 [l0, l1, l2, l3] L2 (St) S := ev_go i187_47 rfl
theorem i187_48 : insAt 187 48 = some (.aload_n 0, 1, (0, 0, 0, 0), 0) := rfl
theorem s187_48 {c : Nat → List AV → SS → Option Out} {l1 l2 l3 : Option AV} {o : OId} {L2 : List (Nat × AV)} {St : List AV} {S : SS} : ev c 187 48 [some (aR o), l1, l2, l3] L2 St S = ev c 187 49 [some (aR o), l1, l2, l3] L2 (aR o :: St) S := ev_go i187_48 rfl
theorem i187_49 : insAt 187 49 = some (.iload_n 3, 1, (0, 0, 0, 0), 0) := rfl
theorem s187_49 {c : Nat → List AV → SS → Option Out} {l0 l1 l2 : Option AV} {x : Int32} {L2 : List (Nat × AV)} {St : List AV} {S : SS} : ev c 187 49 [l0, l1, l2, some (aI x)] L2 St S = ev c 187 50 [l0, l1, l2, some (aI x)] L2 (aI x :: St) S := ev_go i187_49 rfl
theorem i187_50 : insAt 187 50 = some (.putfield 79, 3, (1, 3, 0, 0), 302) := rfl
theorem s187_50 {c : Nat → List AV → SS → Option Out} {l0 l1 l2 l3 : Option AV} {j t : Nat} {x : Int32} {L2 : List (Nat × AV)} {St : List AV} {S : SS} : ev c 187 50 [l0, l1, l2, l3] L2 (aI x :: aR (1, j, t) :: St) S = ev c 187 53 [l0, l1, l2, l3] L2 St (setI S.1 (1, j, t) 3 x, S.2) := ev_go i187_50 rfl
theorem i187_53 : insAt 187 53 = some (.aload_n 0, 1, (0, 0, 0, 0), 0) := rfl
theorem s187_53 {c : Nat → List AV → SS → Option Out} {l1 l2 l3 : Option AV} {o : OId} {L2 : List (Nat × AV)} {St : List AV} {S : SS} : ev c 187 53 [some (aR o), l1, l2, l3] L2 St S = ev c 187 54 [some (aR o), l1, l2, l3] L2 (aR o :: St) S := ev_go i187_53 rfl
theorem i187_54 : insAt 187 54 = some (.areturn, 1, (0, 0, 0, 0), 0) := rfl
theorem s187_54 {c : Nat → List AV → SS → Option Out} {l0 l1 l2 l3 : Option AV} {o : OId} {L2 : List (Nat × AV)} {S : SS} : ev c 187 54 [l0, l1, l2, l3] L2 [aR o] S = some (.inl (some (aR o)), S) := ev_end i187_54 rfl
theorem s187_54N {c : Nat → List AV → SS → Option Out} {l0 l1 l2 l3 : Option AV} {L2 : List (Nat × AV)} {S : SS} : ev c 187 54 [l0, l1, l2, l3] L2 [aN] S = some (.inl (some aN), S) := ev_end i187_54 rfl
theorem m187 {d : Nat} {o : OId} {a0 : Int32} {S : SS} : evm (d + 1) 187 [aR o, aI a0] S = ev (evm d) 187 0 [some (aR o), some (aI a0), none, none] [] [] S := evm_s (n := 4) rfl (Nat.le_of_ble_eq_true rfl) rfl rfl
/-! java/lang/Integer.stringSize(I)I -/
theorem i188_0 : insAt 188 0 = some (.iconst 1, 1, (0, 0, 0, 0), 0) := rfl
theorem s188_0 {c : Nat → List AV → SS → Option Out} {l0 l1 l2 l3 : Option AV} {L2 : List (Nat × AV)} {St : List AV} {S : SS} : ev c 188 0 [l0, l1, l2, l3] L2 St S = ev c 188 1 [l0, l1, l2, l3] L2 (aI 1 :: St) S := ev_go i188_0 rfl
theorem i188_1 : insAt 188 1 = some (.istore_n 1, 1, (0, 0, 0, 0), 0) := rfl
theorem s188_1 {c : Nat → List AV → SS → Option Out} {l0 l1 l2 l3 : Option AV} {x : Int32} {L2 : List (Nat × AV)} {St : List AV} {S : SS} : ev c 188 1 [l0, l1, l2, l3] L2 (aI x :: St) S = ev c 188 2 [l0, some (aI x), l2, l3] (kil L2 1) St S := ev_go i188_1 rfl
theorem i188_2 : insAt 188 2 = some (.iload_n 0, 1, (0, 0, 0, 0), 0) := rfl
theorem s188_2 {c : Nat → List AV → SS → Option Out} {l1 l2 l3 : Option AV} {x : Int32} {L2 : List (Nat × AV)} {St : List AV} {S : SS} : ev c 188 2 [some (aI x), l1, l2, l3] L2 St S = ev c 188 3 [some (aI x), l1, l2, l3] L2 (aI x :: St) S := ev_go i188_2 rfl
theorem i188_3 : insAt 188 3 = some (.ifCond .lt 8, 3, (0, 0, 0, 0), 0) := rfl
theorem s188_3 {c : Nat → List AV → SS → Option Out} {l0 l1 l2 l3 : Option AV} {x : Int32} {L2 : List (Nat × AV)} {St : List AV} {S : SS} : ev c 188 3 [l0, l1, l2, l3] L2 (aI x :: St) S = if x < 0 then ev c 188 11 [l0, l1, l2, l3] L2 St S else ev c 188 6 [l0, l1, l2, l3] L2 St S := ev_br i188_3 rfl
theorem i188_6 : insAt 188 6 = some (.iconst 0, 1, (0, 0, 0, 0), 0) := rfl
theorem s188_6 {c : Nat → List AV → SS → Option Out} {l0 l1 l2 l3 : Option AV} {L2 : List (Nat × AV)} {St : List AV} {S : SS} : ev c 188 6 [l0, l1, l2, l3] L2 St S = ev c 188 7 [l0, l1, l2, l3] L2 (aI 0 :: St) S := ev_go i188_6 rfl
theorem i188_7 : insAt 188 7 = some (.istore_n 1, 1, (0, 0, 0, 0), 0) := rfl
theorem s188_7 {c : Nat → List AV → SS → Option Out} {l0 l1 l2 l3 : Option AV} {x : Int32} {L2 : List (Nat × AV)} {St : List AV} {S : SS} : ev c 188 7 [l0, l1, l2, l3] L2 (aI x :: St) S = ev c 188 8 [l0, some (aI x), l2, l3] (kil L2 1) St S := ev_go i188_7 rfl
theorem i188_8 : insAt 188 8 = some (.iload_n 0, 1, (0, 0, 0, 0), 0) := rfl
theorem s188_8 {c : Nat → List AV → SS → Option Out} {l1 l2 l3 : Option AV} {x : Int32} {L2 : List (Nat × AV)} {St : List AV} {S : SS} : ev c 188 8 [some (aI x), l1, l2, l3] L2 St S = ev c 188 9 [some (aI x), l1, l2, l3] L2 (aI x :: St) S := ev_go i188_8 rfl
theorem i188_9 : insAt 188 9 = some (.ineg, 1, (0, 0, 0, 0), 0) := rfl
theorem s188_9 {c : Nat → List AV → SS → Option Out} {l0 l1 l2 l3 : Option AV} {x : Int32} {L2 : List (Nat × AV)} {St : List AV} {S : SS} : ev c 188 9 [l0, l1, l2, l3] L2 (aI x :: St) S = ev c 188 10 [l0, l1, l2, l3] L2 (aI (-x) :: St) S := ev_go i188_9 rfl
theorem i188_10 : insAt 188 10 = some (.istore_n 0, 1, (0, 0, 0, 0), 0) := rfl
theorem s188_10 {c : Nat → List AV → SS → Option Out} {l0 l1 l2 l3 : Option AV} {x : Int32} {L2 : List (Nat × AV)} {St : List AV} {S : SS} : ev c 188 10 [l0, l1, l2, l3] L2 (aI x :: St) S = ev c 188 11 [some (aI x), l1, l2, l3] (kil L2 0) St S := ev_go i188_10 rfl
theorem i188_11 : insAt 188 11 = some (.bipush (-10), 2, (0, 0, 0, 0), 0) := rfl
theorem s188_11 {c : Nat → List AV → SS → Option Out} {l0 l1 l2 l3 : Option AV} {L2 : List (Nat × AV)} {St : List AV} {S : SS} : ev c 188 11 [l0, l1, l2, l3] L2 St S = ev c 188 13 [l0, l1, l2, l3] L2 (aI (-10) :: St) S := ev_go i188_11 rfl
theorem i188_13 : insAt 188 13 = some (.istore_n 2, 1, (0, 0, 0, 0), 0) := rfl
theorem s188_13 {c : Nat → List AV → SS → Option Out} {l0 l1 l2 l3 : Option AV} {x : Int32} {L2 : List (Nat × AV)} {St : List AV} {S : SS} : ev c 188 13 [l0, l1, l2, l3] L2 (aI x :: St) S = ev c 188 14 [l0, l1, some (aI x), l3] (kil L2 2) St S := ev_go i188_13 rfl
theorem i188_14 : insAt 188 14 = some (.iconst 1, 1, (0, 0, 0, 0), 0) := rfl
theorem s188_14 {c : Nat → List AV → SS → Option Out} {l0 l1 l2 l3 : Option AV} {L2 : List (Nat × AV)} {St : List AV} {S : SS} : ev c 188 14 [l0, l1, l2, l3] L2 St S = ev c 188 15 [l0, l1, l2, l3] L2 (aI 1 :: St) S := ev_go i188_14 rfl
theorem i188_15 : insAt 188 15 = some (.istore_n 3, 1, (0, 0, 0, 0), 0) := rfl
theorem s188_15 {c : Nat → List AV → SS → Option Out} {l0 l1 l2 l3 : Option AV} {x : Int32} {L2 : List (Nat × AV)} {St : List AV} {S : SS} : ev c 188 15 [l0, l1, l2, l3] L2 (aI x :: St) S = ev c 188 16 [l0, l1, l2, some (aI x)] (kil L2 3) St S := ev_go i188_15 rfl
theorem i188_16 : insAt 188 16 = some (.iload_n 3, 1, (0, 0, 0, 0), 0) := rfl
theorem s188_16 {c : Nat → List AV → SS → Option Out} {l0 l1 l2 : Option AV} {x : Int32} {L2 : List (Nat × AV)} {St : List AV} {S : SS} : ev c 188 16 [l0, l1, l2, some (aI x)] L2 St S = ev c 188 17 [l0, l1, l2, some (aI x)] L2 (aI x :: St) S := ev_go i188_16 rfl
theorem i188_17 : insAt 188 17 = some (.bipush 10, 2, (0, 0, 0, 0), 0) := rfl
theorem s188_17 {c : Nat → List AV → SS → Option Out} {l0 l1 l2 l3 : Option AV} {L2 : List (Nat × AV)} {St : List AV} {S : SS} : ev c 188 17 [l0, l1, l2, l3] L2 St S = ev c 188 19 [l0, l1, l2, l3] L2 (aI 10 :: St) S := ev_go i188_17 rfl
theorem i188_19 : insAt 188 19 = some (.if_icmp .ge 23, 3, (0, 0, 0, 0), 0) := rfl
theorem s188_19 {c : Nat → List AV → SS → Option Out} {l0 l1 l2 l3 : Option AV} {x y : Int32} {L2 : List (Nat × AV)} {St : List AV} {S : SS} : ev c 188 19 [l0, l1, l2, l3] L2 (aI y :: aI x :: St) S = if y ≤ x then ev c 188 42 [l0, l1, l2, l3] L2 St S else ev c 188 22 [l0, l1, l2, l3] L2 St S := ev_br i188_19 rfl
theorem i188_22 : insAt 188 22 = some (.iload_n 0, 1, (0, 0, 0, 0), 0) := rfl
theorem s188_22 {c : Nat → List AV → SS → Option Out} {l1 l2 l3 : Option AV} {x : Int32} {L2 : List (Nat × AV)} {St : List AV} {S : SS} : ev c 188 22 [some (aI x), l1, l2, l3] L2 St S = ev c 188 23 [some (aI x), l1, l2, l3] L2 (aI x :: St) S := ev_go i188_22 rfl
theorem i188_23 : insAt 188 23 = some (.iload_n 2, 1, (0, 0, 0, 0), 0) := rfl
theorem s188_23 {c : Nat → List AV → SS → Option Out} {l0 l1 l3 : Option AV} {x : Int32} {L2 : List (Nat × AV)} {St : List AV} {S : SS} : ev c 188 23 [l0, l1, some (aI x), l3] L2 St S = ev c 188 24 [l0, l1, some (aI x), l3] L2 (aI x :: St) S := ev_go i188_23 rfl
theorem i188_24 : insAt 188 24 = some (.if_icmp .le 7, 3, (0, 0, 0, 0), 0) := rfl
theorem s188_24 {c : Nat → List AV → SS → Option Out} {l0 l1 l2 l3 : Option AV} {x y : Int32} {L2 : List (Nat × AV)} {St : List AV} {S : SS} : ev c 188 24 [l0, l1, l2, l3] L2 (aI y :: aI x :: St) S = if x ≤ y then ev c 188 31 [l0, l1, l2, l3] L2 St S else ev c 188 27 [l0, l1, l2, l3] L2 St S := ev_br i188_24 rfl
theorem i188_27 : insAt 188 27 = some (.iload_n 3, 1, (0, 0, 0, 0), 0) := rfl
theorem s188_27 {c : Nat → List AV → SS → Option Out} {l0 l1 l2 : Option AV} {x : Int32} {L2 : List (Nat × AV)} {St : List AV} {S : SS} : ev c 188 27 [l0, l1, l2, some (aI x)] L2 St S = ev c 188 28 [l0, l1, l2, some (aI x)] L2 (aI x :: St) S := ev_go i188_27 rfl
theorem i188_28 : insAt 188 28 = some (.iload_n 1, 1, (0, 0, 0, 0), 0) := rfl
theorem s188_28 {c : Nat → List AV → SS → Option Out} {l0 l2 l3 : Option AV} {x : Int32} {L2 : List (Nat × AV)} {St : List AV} {S : SS} : ev c 188 28 [l0, some (aI x), l2, l3] L2 St S = ev c 188 29 [l0, some (aI x), l2, l3] L2 (aI x :: St) S := ev_go i188_28 rfl
theorem i188_29 : insAt 188 29 = some (.iadd, 1, (0, 0, 0, 0), 0) := rfl
theorem s188_29 {c : Nat → List AV → SS → Option Out} {l0 l1 l2 l3 : Option AV} {x y : Int32} {L2 : List (Nat × AV)} {St : List AV} {S : SS} : ev c 188 29 [l0, l1, l2, l3] L2 (aI y :: aI x :: St) S = ev c 188 30 [l0, l1, l2, l3] L2 (aI (x + y) :: St) S := ev_go i188_29 rfl
theorem i188_30 : insAt 188 30 = some (.ireturn, 1, (0, 0, 0, 0), 0) := rfl
theorem s188_30 {c : Nat → List AV → SS → Option Out} {l0 l1 l2 l3 : Option AV} {x : Int32} {L2 : List (Nat × AV)} {S : SS} : ev c 188 30 [l0, l1, l2, l3] L2 [aI x] S = some (.inl (some (aI x)), S) := ev_end i188_30 rfl
theorem i188_31 : insAt 188 31 = some (.bipush 10, 2, (0, 0, 0, 0), 0) := rfl
theorem s188_31 {c : Nat → List AV → SS → Option Out} {l0 l1 l2 l3 : Option AV} {L2 : List (Nat × AV)} {St : List AV} {S : SS} : ev c 188 31 [l0, l1, l2, l3] L2 St S = ev c 188 33 [l0, l1, l2, l3] L2 (aI 10 :: St) S := ev_go i188_31 rfl
theorem i188_33 : insAt 188 33 = some (.iload_n 2, 1, (0, 0, 0, 0), 0) := rfl
theorem s188_33 {c : Nat → List AV → SS → Option Out} {l0 l1 l3 : Option AV} {x : Int32} {L2 : List (Nat × AV)} {St : List AV} {S : SS} : ev c 188 33 [l0, l1, some (aI x), l3] L2 St S = ev c 188 34 [l0, l1, some (aI x), l3] L2 (aI x :: St) S := ev_go i188_33 rfl
theorem i188_34 : insAt 188 34 = some (.imul, 1, (0, 0, 0, 0), 0) := rfl
theorem s188_34 {c : Nat → List AV → SS → Option Out} {l0 l1 l2 l3 : Option AV} {x y : Int32} {L2 : List (Nat × AV)} {St : List AV} {S : SS} : ev c 188 34 [l0, l1, l2, l3] L2 (aI y :: aI x :: St) S = ev c 188 35 [l0, l1, l2, l3] L2 (aI (x * y) :: St) S := ev_go i188_34 rfl
theorem i188_35 : insAt 188 35 = some (.istore_n 2, 1, (0, 0, 0, 0), 0) := rfl
theorem s188_35 {c : Nat → List AV → SS → Option Out} {l0 l1 l2 l3 : Option AV} {x : Int32} {L2 : List (Nat × AV)} {St : List AV} {S : SS} : ev c 188 35 [l0, l1, l2, l3] L2 (aI x :: St) S = ev c 188 36 [l0, l1, some (aI x), l3] (kil L2 2) St S := ev_go i188_35 rfl
theorem i188_36 : insAt 188 36 = some (.iinc 3 1, 3, (0, 0, 0, 0), 0) := rfl
theorem s188_36 {c : Nat → List AV → SS → Option Out} {l0 l1 l2 : Option AV} {x : Int32} {L2 : List (Nat × AV)} {St : List AV} {S : SS} : ev c 188 36 [l0, l1, l2, some (aI x)] L2 St S = ev c 188 39 [l0, l1, l2, some (aI (x + 1))] (kil L2 3) St S := ev_go i188_36 rfl
theorem i188_39 : insAt 188 39 = some (.goto (-23), 3, (0, 0, 0, 0), 0) := rfl
theorem s188_39 {c : Nat → List AV → SS → Option Out} {l0 l1 l2 l3 : Option AV} {L2 : List (Nat × AV)} {St : List AV} {S : SS} : ev c 188 39 [l0, l1, l2, l3] L2 St S = ev c 188 16 [l0, l1, l2, l3] L2 St S := ev_go i188_39 rfl
theorem i188_42 : insAt 188 42 = some (.bipush 10, 2, (0, 0, 0, 0), 0) := rfl
theorem s188_42 {c : Nat → List AV → SS → Option Out} {l0 l1 l2 l3 : Option AV} {L2 : List (Nat × AV)} {St : List AV} {S : SS} : ev c 188 42 [l0, l1, l2, l3] L2 St S = ev c 188 44 [l0, l1, l2, l3] L2 (aI 10 :: St) S := ev_go i188_42 rfl
theorem i188_44 : insAt 188 44 = some (.iload_n 1, 1, (0, 0, 0, 0), 0) := rfl
theorem s188_44 {c : Nat → List AV → SS → Option Out} {l0 l2 l3 : Option AV} {x : Int32} {L2 : List (Nat × AV)} {St : List AV} {S : SS} : ev c 188 44 [l0, some (aI x), l2, l3] L2 St S = ev c 188 45 [l0, some (aI x), l2, l3] L2 (aI x :: St) S := ev_go i188_44 rfl
theorem i188_45 : insAt 188 45 = some (.iadd, 1, (0, 0, 0, 0), 0) := rfl
theorem s188_45 {c : Nat → List AV → SS → Option Out} {l0 l1 l2 l3 : Option AV} {x y : Int32} {L2 : List (Nat × AV)} {St : List AV} {S : SS} : ev c 188 45 [l0, l1, l2, l3] L2 (aI y :: aI x :: St) S = ev c 188 46 [l0, l1, l2, l3] L2 (aI (x + y) :: St) S := ev_go i188_45 rfl
theorem i188_46 : insAt 188 46 = some (.ireturn, 1, (0, 0, 0, 0), 0) := rfl
theorem s188_46 {c : Nat → List AV → SS → Option Out} {l0 l1 l2 l3 : Option AV} {x : Int32} {L2 : List (Nat × AV)} {S : SS} : ev c 188 46 [l0, l1, l2, l3] L2 [aI x] S = some (.inl (some (aI x)), S) := ev_end i188_46 rfl
theorem m188 {d : Nat} {a0 : Int32} {S : SS} : evm (d + 1) 188 [aI a0] S = ev (evm d) 188 0 [some (aI a0), none, none, none] [] [] S := evm_s (n := 4) rfl (Nat.le_of_ble_eq_true rfl) rfl rfl
/-! java/lang/Integer.getChars(II[B)I -/
theorem i189_0 : insAt 189 0 = some (.iload_n 1, 1, (0, 0, 0, 0), 0) := rfl
theorem s189_0 {c : Nat → List AV → SS → Option Out} {l0 l2 l3 l4 l5 l6 : Option AV} {x : Int32} {L2 : List (Nat × AV)} {St : List AV} {S : SS} : ev c 189 0 [l0, some (aI x), l2, l3, l4, l5, l6] L2 St S = ev c 189 1 [l0, some (aI x), l2, l3, l4, l5, l6] L2 (aI x :: St) S := ev_go i189_0 rfl
theorem i189_1 : insAt 189 1 = some (.istore 5, 2, (0, 0, 0, 0), 0) := rfl
theorem s189_1 {c : Nat → List AV → SS → Option Out} {l0 l1 l2 l3 l4 l5 l6 : Option AV} {x : Int32} {L2 : List (Nat × AV)} {St : List AV} {S : SS} : ev c 189 1 [l0, l1, l2, l3, l4, l5, l6] L2 (aI x :: St) S = ev c 189 3 [l0, l1, l2, l3, l4, some (aI x), l6] (kil L2 5) St S := ev_go i189_1 rfl
theorem i189_3 : insAt 189 3 = some (.iload_n 0, 1, (0, 0, 0, 0), 0) := rfl
theorem s189_3 {c : Nat → List AV → SS → Option Out} {l1 l2 l3 l4 l5 l6 : Option AV} {x : Int32} {L2 : List (Nat × AV)} {St : List AV} {S : SS} : ev c 189 3 [some (aI x), l1, l2, l3, l4, l5, l6] L2 St S = ev c 189 4 [some (aI x), l1, l2, l3, l4, l5, l6] L2 (aI x :: St) S := ev_go i189_3 rfl
theorem i189_4 : insAt 189 4 = some (.ifCond .ge 7, 3, (0, 0, 0, 0), 0) := rfl
theorem s189_4 {c : Nat → List AV → SS → Option Out} {l0 l1 l2 l3 l4 l5 l6 : Option AV} {x : Int32} {L2 : List (Nat × AV)} {St : List AV} {S : SS} : ev c 189 4 [l0, l1, l2, l3, l4, l5, l6] L2 (aI x :: St) S = if 0 ≤ x then ev c 189 11 [l0, l1, l2, l3, l4, l5, l6] L2 St S else ev c 189 7 [l0, l1, l2, l3, l4, l5, l6] L2 St S := ev_br i189_4 rfl
theorem i189_7 : insAt 189 7 = some (.iconst 1, 1, (0, 0, 0, 0), 0) := rfl
theorem s189_7 {c : Nat → List AV → SS → Option Out} {l0 l1 l2 l3 l4 l5 l6 : Option AV} {L2 : List (Nat × AV)} {St : List AV} {S : SS} : ev c 189 7 [l0, l1, l2, l3, l4, l5, l6] L2 St S = ev c 189 8 [l0, l1, l2, l3, l4, l5, l6] L2 (aI 1 :: St) S := ev_go i189_7 rfl
theorem i189_8 : insAt 189 8 = some (.goto 4, 3, (0, 0, 0, 0), 0) := rfl
theorem s189_8 {c : Nat → List AV → SS → Option Out} {l0 l1 l2 l3 l4 l5 l6 : Option AV} {L2 : List (Nat × AV)} {St : List AV} {S : SS} : ev c 189 8 [l0, l1, l2, l3, l4, l5, l6] L2 St S = ev c 189 12 [l0, l1, l2, l3, l4, l5, l6] L2 St S := ev_go i189_8 rfl
theorem i189_11 : insAt 189 11 = some (.iconst 0, 1, (0, 0, 0, 0), 0) := rfl
theorem s189_11 {c : Nat → List AV → SS → Option Out} {l0 l1 l2 l3 l4 l5 l6 : Option AV} {L2 : List (Nat × AV)} {St : List AV} {S : SS} : ev c 189 11 [l0, l1, l2, l3, l4, l5, l6] L2 St S = ev c 189 12 [l0, l1, l2, l3, l4, l5, l6] L2 (aI 0 :: St) S := ev_go i189_11 rfl
theorem i189_12 : insAt 189 12 = some (.istore 6, 2, (0, 0, 0, 0), 0) := rfl
theorem s189_12 {c : Nat → List AV → SS → Option Out} {l0 l1 l2 l3 l4 l5 l6 : Option AV} {x : Int32} {L2 : List (Nat × AV)} {St : List AV} {S : SS} : ev c 189 12 [l0, l1, l2, l3, l4, l5, l6] L2 (aI x :: St) S = ev c 189 14 [l0, l1, l2, l3, l4, l5, some (aI x)] (kil L2 6) St S := ev_go i189_12 rfl
theorem i189_14 : insAt 189 14 = some (.iload 6, 2, (0, 0, 0, 0), 0) := rfl
theorem s189_14 {c : Nat → List AV → SS → Option Out} {l0 l1 l2 l3 l4 l5 : Option AV} {x : Int32} {L2 : List (Nat × AV)} {St : List AV} {S : SS} : ev c 189 14 [l0, l1, l2, l3, l4, l5, some (aI x)] L2 St S = ev c 189 16 [l0, l1, l2, l3, l4, l5, some (aI x)] L2 (aI x :: St) S := ev_go i189_14 rfl
theorem i189_16 : insAt 189 16 = some (.ifCond .ne 6, 3, (0, 0, 0, 0), 0) := rfl
theorem s189_16 {c : Nat → List AV → SS → Option Out} {l0 l1 l2 l3 l4 l5 l6 : Option AV} {x : Int32} {L2 : List (Nat × AV)} {St : List AV} {S : SS} : ev c 189 16 [l0, l1, l2, l3, l4, l5, l6] L2 (aI x :: St) S = if x = 0 then ev c 189 19 [l0, l1, l2, l3, l4, l5, l6] L2 St S else ev c 189 22 [l0, l1, l2, l3, l4, l5, l6] L2 St S := (ev_br i189_16 rfl).trans (ite_not _ _ _)
theorem i189_19 : insAt 189 19 = some (.iload_n 0, 1, (0, 0, 0, 0), 0) := rfl
theorem s189_19 {c : Nat → List AV → SS → Option Out} {l1 l2 l3 l4 l5 l6 : Option AV} {x : Int32} {L2 : List (Nat × AV)} {St : List AV} {S : SS} : ev c 189 19 [some (aI x), l1, l2, l3, l4, l5, l6] L2 St S = ev c 189 20 [some (aI x), l1, l2, l3, l4, l5, l6] L2 (aI x :: St) S := ev_go i189_19 rfl
theorem i189_20 : insAt 189 20 = some (.ineg, 1, (0, 0, 0, 0), 0) := rfl
theorem s189_20 {c : Nat → List AV → SS → Option Out} {l0 l1 l2 l3 l4 l5 l6 : Option AV} {x : Int32} {L2 : List (Nat × AV)} {St : List AV} {S : SS} : ev c 189 20 [l0, l1, l2, l3, l4, l5, l6] L2 (aI x :: St) S = ev c 189 21 [l0, l1, l2, l3, l4, l5, l6] L2 (aI (-x) :: St) S := ev_go i189_20 rfl
theorem i189_21 : insAt 189 21 = some (.istore_n 0, 1, (0, 0, 0, 0), 0) := rfl
theorem s189_21 {c : Nat → List AV → SS → Option Out} {l0 l1 l2 l3 l4 l5 l6 : Option AV} {x : Int32} {L2 : List (Nat × AV)} {St : List AV} {S : SS} : ev c 189 21 [l0, l1, l2, l3, l4, l5, l6] L2 (aI x :: St) S = ev c 189 22 [some (aI x), l1, l2, l3, l4, l5, l6] (kil L2 0) St S := ev_go i189_21 rfl
theorem i189_22 : insAt 189 22 = some (.iload_n 0, 1, (0, 0, 0, 0), 0) := rfl
theorem s189_22 {c : Nat → List AV → SS → Option Out} {l1 l2 l3 l4 l5 l6 : Option AV} {x : Int32} {L2 : List (Nat × AV)} {St : List AV} {S : SS} : ev c 189 22 [some (aI x), l1, l2, l3, l4, l5, l6] L2 St S = ev c 189 23 [some (aI x), l1, l2, l3, l4, l5, l6] L2 (aI x :: St) S := ev_go i189_22 rfl
theorem i189_23 : insAt 189 23 = some (.bipush (-100), 2, (0, 0, 0, 0), 0) := rfl
theorem s189_23 {c : Nat → List AV → SS → Option Out} {l0 l1 l2 l3 l4 l5 l6 : Option AV} {L2 : List (Nat × AV)} {St : List AV} {S : SS} : ev c 189 23 [l0, l1, l2, l3, l4, l5, l6] L2 St S = ev c 189 25 [l0, l1, l2, l3, l4, l5, l6] L2 (aI (-100) :: St) S := ev_go i189_23 rfl
theorem i189_25 : insAt 189 25 = some (.if_icmp .gt 47, 3, (0, 0, 0, 0), 0) := rfl
theorem s189_25 {c : Nat → List AV → SS → Option Out} {l0 l1 l2 l3 l4 l5 l6 : Option AV} {x y : Int32} {L2 : List (Nat × AV)} {St : List AV} {S : SS} : ev c 189 25 [l0, l1, l2, l3, l4, l5, l6] L2 (aI y :: aI x :: St) S = if y < x then ev c 189 72 [l0, l1, l2, l3, l4, l5, l6] L2 St S else ev c 189 28 [l0, l1, l2, l3, l4, l5, l6] L2 St S := ev_br i189_25 rfl
theorem i189_28 : insAt 189 28 = some (.iload_n 0, 1, (0, 0, 0, 0), 0) := rfl
theorem s189_28 {c : Nat → List AV → SS → Option Out} {l1 l2 l3 l4 l5 l6 : Option AV} {x : Int32} {L2 : List (Nat × AV)} {St : List AV} {S : SS} : ev c 189 28 [some (aI x), l1, l2, l3, l4, l5, l6] L2 St S = ev c 189 29 [some (aI x), l1, l2, l3, l4, l5, l6] L2 (aI x :: St) S := ev_go i189_28 rfl
theorem i189_29 : insAt 189 29 = some (.bipush 100, 2, (0, 0, 0, 0), 0) := rfl
theorem s189_29 {c : Nat → List AV → SS → Option Out} {l0 l1 l2 l3 l4 l5 l6 : Option AV} {L2 : List (Nat × AV)} {St : List AV} {S : SS} : ev c 189 29 [l0, l1, l2, l3, l4, l5, l6] L2 St S = ev c 189 31 [l0, l1, l2, l3, l4, l5, l6] L2 (aI 100 :: St) S := ev_go i189_29 rfl
theorem i189_31 : insAt 189 31 = some (.idiv, 1, (0, 0, 0, 0), 0) := rfl
theorem s189_31 {c : Nat → List AV → SS → Option Out} {l0 l1 l2 l3 l4 l5 l6 : Option AV} {x y : Int32} {L2 : List (Nat × AV)} {St : List AV} {S : SS} (h : ¬ y = 0) : ev c 189 31 [l0, l1, l2, l3, l4, l5, l6] L2 (aI y :: aI x :: St) S = ev c 189 32 [l0, l1, l2, l3, l4, l5, l6] L2 (aI (x / y) :: St) S := ev_go i189_31 (if_neg h)
theorem i189_32 : insAt 189 32 = some (.istore_n 3, 1, (0, 0, 0, 0), 0) := rfl
theorem s189_32 {c : Nat → List AV → SS → Option Out} {l0 l1 l2 l3 l4 l5 l6 : Option AV} {x : Int32} {L2 : List (Nat × AV)} {St : List AV} {S : SS} : ev c 189 32 [l0, l1, l2, l3, l4, l5, l6] L2 (aI x :: St) S = ev c 189 33 [l0, l1, l2, some (aI x), l4, l5, l6] (kil L2 3) St S := ev_go i189_32 rfl
theorem i189_33 : insAt 189 33 = some (.iload_n 3, 1, (0, 0, 0, 0), 0) := rfl
theorem s189_33 {c : Nat → List AV → SS → Option Out} {l0 l1 l2 l4 l5 l6 : Option AV} {x : Int32} {L2 : List (Nat × AV)} {St : List AV} {S : SS} : ev c 189 33 [l0, l1, l2, some (aI x), l4, l5, l6] L2 St S = ev c 189 34 [l0, l1, l2, some (aI x), l4, l5, l6] L2 (aI x :: St) S := ev_go i189_33 rfl
theorem i189_34 : insAt 189 34 = some (.bipush 100, 2, (0, 0, 0, 0), 0) := rfl
theorem s189_34 {c : Nat → List AV → SS → Option Out} {l0 l1 l2 l3 l4 l5 l6 : Option AV} {L2 : List (Nat × AV)} {St : List AV} {S : SS} : ev c 189 34 [l0, l1, l2, l3, l4, l5, l6] L2 St S = ev c 189 36 [l0, l1, l2, l3, l4, l5, l6] L2 (aI 100 :: St) S := ev_go i189_34 rfl
theorem i189_36 : insAt 189 36 = some (.imul, 1, (0, 0, 0, 0), 0) := rfl
theorem s189_36 {c : Nat → List AV → SS → Option Out} {l0 l1 l2 l3 l4 l5 l6 : Option AV} {x y : Int32} {L2 : List (Nat × AV)} {St : List AV} {S : SS} : ev c 189 36 [l0, l1, l2, l3, l4, l5, l6] L2 (aI y :: aI x :: St) S = ev c 189 37 [l0, l1, l2, l3, l4, l5, l6] L2 (aI (x * y) :: St) S := ev_go i189_36 rfl
theorem i189_37 : insAt 189 37 = some (.iload_n 0, 1, (0, 0, 0, 0), 0) := rfl
theorem s189_37 {c : Nat → List AV → SS → Option Out} {l1 l2 l3 l4 l5 l6 : Option AV} {x : Int32} {L2 : List (Nat × AV)} {St : List AV} {S : SS} : ev c 189 37 [some (aI x), l1, l2, l3, l4, l5, l6] L2 St S = ev c 189 38 [some (aI x), l1, l2, l3, l4, l5, l6] L2 (aI x :: St) S := ev_go i189_37 rfl
theorem i189_38 : insAt 189 38 = some (.isub, 1, (0, 0, 0, 0), 0) := rfl
theorem s189_38 {c : Nat → List AV → SS → Option Out} {l0 l1 l2 l3 l4 l5 l6 : Option AV} {x y : Int32} {L2 : List (Nat × AV)} {St : List AV} {S : SS} : ev c 189 38 [l0, l1, l2, l3, l4, l5, l6] L2 (aI y :: aI x :: St) S = ev c 189 39 [l0, l1, l2, l3, l4, l5, l6] L2 (aI (x - y) :: St) S := ev_go i189_38 rfl
theorem i189_39 : insAt 189 39 = some (.istore 4, 2, (0, 0, 0, 0), 0) := rfl
theorem s189_39 {c : Nat → List AV → SS → Option Out} {l0 l1 l2 l3 l4 l5 l6 : Option AV} {x : Int32} {L2 : List (Nat × AV)} {St : List AV} {S : SS} : ev c 189 39 [l0, l1, l2, l3, l4, l5, l6] L2 (aI x :: St) S = ev c 189 41 [l0, l1, l2, l3, some (aI x), l5, l6] (kil L2 4) St S := ev_go i189_39 rfl
theorem i189_41 : insAt 189 41 = some (.iload_n 3, 1, (0, 0, 0, 0), 0) := rfl
theorem s189_41 {c : Nat → List AV → SS → Option Out} {l0 l1 l2 l4 l5 l6 : Option AV} {x : Int32} {L2 : List (Nat × AV)} {St : List AV} {S : SS} : ev c 189 41 [l0, l1, l2, some (aI x), l4, l5, l6] L2 St S = ev c 189 42 [l0, l1, l2, some (aI x), l4, l5, l6] L2 (aI x :: St) S := ev_go i189_41 rfl
theorem i189_42 : insAt 189 42 = some (.istore_n 0, 1, (0, 0, 0, 0), 0) := rfl
theorem s189_42 {c : Nat → List AV → SS → Option Out} {l0 l1 l2 l3 l4 l5 l6 : Option AV} {x : Int32} {L2 : List (Nat × AV)} {St : List AV} {S : SS} : ev c 189 42 [l0, l1, l2, l3, l4, l5, l6] L2 (aI x :: St) S = ev c 189 43 [some (aI x), l1, l2, l3, l4, l5, l6] (kil L2 0) St S := ev_go i189_42 rfl
theorem i189_43 : insAt 189 43 = some (.aload_n 2, 1, (0, 0, 0, 0), 0) := rfl
theorem s189_43 {c : Nat → List AV → SS → Option Out} {l0 l1 l3 l4 l5 l6 : Option AV} {o : OId} {L2 : List (Nat × AV)} {St : List AV} {S : SS} : ev c 189 43 [l0, l1, some (aR o), l3, l4, l5, l6] L2 St S = ev c 189 44 [l0, l1, some (aR o), l3, l4, l5, l6] L2 (aR o :: St) S := ev_go i189_43 rfl
theorem i189_44 : insAt 189 44 = some (.iinc 5 (-1), 3, (0, 0, 0, 0), 0) := rfl
theorem s189_44 {c : Nat → List AV → SS → Option Out} {l0 l1 l2 l3 l4 l6 : Option AV} {x : Int32} {L2 : List (Nat × AV)} {St : List AV} {S : SS} : ev c 189 44 [l0, l1, l2, l3, l4, some (aI x), l6] L2 St S = ev c 189 47 [l0, l1, l2, l3, l4, some (aI (x + (-1))), l6] (kil L2 5) St S := ev_go i189_44 rfl
theorem i189_47 : insAt 189 47 = some (.iload 5, 2, (0, 0, 0, 0), 0) := rfl
theorem s189_47 {c : Nat → List AV → SS → Option Out} {l0 l1 l2 l3 l4 l6 : Option AV} {x : Int32} {L2 : List (Nat × AV)} {St : List AV} {S : SS} : ev c 189 47 [l0, l1, l2, l3, l4, some (aI x), l6] L2 St S = ev c 189 49 [l0, l1, l2, l3, l4, some (aI x), l6] L2 (aI x :: St) S := ev_go i189_47 rfl
theorem i189_49 : insAt 189 49 = some (.getstatic 83, 3, (2, 0, 0, 0), 329) := rfl
theorem s189_49 {c : Nat → List AV → SS → Option Out} {l0 l1 l2 l3 l4 l5 l6 : Option AV} {L2 : List (Nat × AV)} {St : List AV} {S : SS} : ev c 189 49 [l0, l1, l2, l3, l4, l5, l6] L2 St S = ev c 189 52 [l0, l1, l2, l3, l4, l5, l6] L2 (aR (46, 0, 0) :: St) S := ev_go i189_49 rfl
theorem i189_52 : insAt 189 52 = some (.iload 4, 2, (0, 0, 0, 0), 0) := rfl
theorem s189_52 {c : Nat → List AV → SS → Option Out} {l0 l1 l2 l3 l5 l6 : Option AV} {x : Int32} {L2 : List (Nat × AV)} {St : List AV} {S : SS} : ev c 189 52 [l0, l1, l2, l3, some (aI x), l5, l6] L2 St S = ev c 189 54 [l0, l1, l2, l3, some (aI x), l5, l6] L2 (aI x :: St) S := ev_go i189_52 rfl
theorem i189_54 : insAt 189 54 = some (.baload, 1, (0, 0, 0, 0), 0) := rfl
theorem s189_54 {c : Nat → List AV → SS → Option Out} {l0 l1 l2 l3 l4 l5 l6 : Option AV} {i : Int32} {o : OId} {L2 : List (Nat × AV)} {St : List AV} {S : SS} : ev c 189 54 [l0, l1, l2, l3, l4, l5, l6] L2 (aI i :: aR o :: St) S = kB o i (ev c 189 55 [l0, l1, l2, l3, l4, l5, l6] L2 (aI (agB S o i.toNatClampNeg) :: St) S) (ev c 189 55 [l0, l1, l2, l3, l4, l5, l6] L2 (aI (bb (S.1 o i.toNatClampNeg)) :: St) S) := ev_baload i189_54
theorem i189_55 : insAt 189 55 = some (.bastore, 1, (0, 0, 0, 0), 0) := rfl
theorem s189_55 {c : Nat → List AV → SS → Option Out} {l0 l1 l2 l3 l4 l5 l6 : Option AV} {x i : Int32} {o : OId} {L2 : List (Nat × AV)} {St : List AV} {S : SS} : ev c 189 55 [l0, l1, l2, l3, l4, l5, l6] L2 (aI x :: aI i :: aR o :: St) S = kBw o i x (ev c 189 56 [l0, l1, l2, l3, l4, l5, l6] L2 St (setI S.1 o i.toNatClampNeg x, S.2)) := ev_bastore i189_55
theorem i189_56 : insAt 189 56 = some (.aload_n 2, 1, (0, 0, 0, 0), 0) := rfl
theorem s189_56 {c : Nat → List AV → SS → Option Out} {l0 l1 l3 l4 l5 l6 : Option AV} {o : OId} {L2 : List (Nat × AV)} {St : List AV} {S : SS} : ev c 189 56 [l0, l1, some (aR o), l3, l4, l5, l6] L2 St S = ev c 189 57 [l0, l1, some (aR o), l3, l4, l5, l6] L2 (aR o :: St) S := ev_go i189_56 rfl
theorem i189_57 : insAt 189 57 = some (.iinc 5 (-1), 3, (0, 0, 0, 0), 0) := rfl
theorem s189_57 {c : Nat → List AV → SS → Option Out} {l0 l1 l2 l3 l4 l6 : Option AV} {x : Int32} {L2 : List (Nat × AV)} {St : List AV} {S : SS} : ev c 189 57 [l0, l1, l2, l3, l4, some (aI x), l6] L2 St S = ev c 189 60 [l0, l1, l2, l3, l4, some (aI (x + (-1))), l6] (kil L2 5) St S := ev_go i189_57 rfl
theorem i189_60 : insAt 189 60 = some (.iload 5, 2, (0, 0, 0, 0), 0) := rfl
theorem s189_60 {c : Nat → List AV → SS → Option Out} {l0 l1 l2 l3 l4 l6 : Option AV} {x : Int32} {L2 : List (Nat × AV)} {St : List AV} {S : SS} : ev c 189 60 [l0, l1, l2, l3, l4, some (aI x), l6] L2 St S = ev c 189 62 [l0, l1, l2, l3, l4, some (aI x), l6] L2 (aI x :: St) S := ev_go i189_60 rfl
theorem i189_62 : insAt 189 62 = some (.getstatic 87, 3, (1, 0, 0, 0), 330) := rfl
theorem s189_62 {c : Nat → List AV → SS → Option Out} {l0 l1 l2 l3 l4 l5 l6 : Option AV} {L2 : List (Nat × AV)} {St : List AV} {S : SS} : ev c 189 62 [l0, l1, l2, l3, l4, l5, l6] L2 St S = ev c 189 65 [l0, l1, l2, l3, l4, l5, l6] L2 (aR (45, 0, 0) :: St) S := ev_go i189_62 rfl
theorem i189_65 : insAt 189 65 = some (.iload 4, 2, (0, 0, 0, 0), 0) := rfl
theorem s189_65 {c : Nat → List AV → SS → Option Out} {l0 l1 l2 l3 l5 l6 : Option AV} {x : Int32} {L2 : List (Nat × AV)} {St : List AV} {S : SS} : ev c 189 65 [l0, l1, l2, l3, some (aI x), l5, l6] L2 St S = ev c 189 67 [l0, l1, l2, l3, some (aI x), l5, l6] L2 (aI x :: St) S := ev_go i189_65 rfl
theorem i189_67 : insAt 189 67 = some (.baload, 1, (0, 0, 0, 0), 0) := rfl
theorem s189_67 {c : Nat → List AV → SS → Option Out} {l0 l1 l2 l3 l4 l5 l6 : Option AV} {i : Int32} {o : OId} {L2 : List (Nat × AV)} {St : List AV} {S : SS} : ev c 189 67 [l0, l1, l2, l3, l4, l5, l6] L2 (aI i :: aR o :: St) S = kB o i (ev c 189 68 [l0, l1, l2, l3, l4, l5, l6] L2 (aI (agB S o i.toNatClampNeg) :: St) S) (ev c 189 68 [l0, l1, l2, l3, l4, l5, l6] L2 (aI (bb (S.1 o i.toNatClampNeg)) :: St) S) := ev_baload i189_67
theorem i189_68 : insAt 189 68 = some (.bastore, 1, (0, 0, 0, 0), 0) := rfl
theorem s189_68 {c : Nat → List AV → SS → Option Out} {l0 l1 l2 l3 l4 l5 l6 : Option AV} {x i : Int32} {o : OId} {L2 : List (Nat × AV)} {St : List AV} {S : SS} : ev c 189 68 [l0, l1, l2, l3, l4, l5, l6] L2 (aI x :: aI i :: aR o :: St) S = kBw o i x (ev c 189 69 [l0, l1, l2, l3, l4, l5, l6] L2 St (setI S.1 o i.toNatClampNeg x, S.2)) := ev_bastore i189_68
theorem i189_69 : insAt 189 69 = some (.goto (-47), 3, (0, 0, 0, 0), 0) := rfl
theorem s189_69 {c : Nat → List AV → SS → Option Out} {l0 l1 l2 l3 l4 l5 l6 : Option AV} {L2 : List (Nat × AV)} {St : List AV} {S : SS} : ev c 189 69 [l0, l1, l2, l3, l4, l5, l6] L2 St S = ev c 189 22 [l0, l1, l2, l3, l4, l5, l6] L2 St S := ev_go i189_69 rfl
theorem i189_72 : insAt 189 72 = some (.aload_n 2, 1, (0, 0, 0, 0), 0) := rfl
theorem s189_72 {c : Nat → List AV → SS → Option Out} {l0 l1 l3 l4 l5 l6 : Option AV} {o : OId} {L2 : List (Nat × AV)} {St : List AV} {S : SS} : ev c 189 72 [l0, l1, some (aR o), l3, l4, l5, l6] L2 St S = ev c 189 73 [l0, l1, some (aR o), l3, l4, l5, l6] L2 (aR o :: St) S := ev_go i189_72 rfl
theorem i189_73 : insAt 189 73 = some (.iinc 5 (-1), 3, (0, 0, 0, 0), 0) := rfl
theorem s189_73 {c : Nat → List AV → SS → Option Out} {l0 l1 l2 l3 l4 l6 : Option AV} {x : Int32} {L2 : List (Nat × AV)} {St : List AV} {S : SS} : ev c 189 73 [l0, l1, l2, l3, l4, some (aI x), l6] L2 St S = ev c 189 76 [l0, l1, l2, l3, l4, some (aI (x + (-1))), l6] (kil L2 5) St S := ev_go i189_73 rfl
theorem i189_76 : insAt 189 76 = some (.iload 5, 2, (0, 0, 0, 0), 0) := rfl
theorem s189_76 {c : Nat → List AV → SS → Option Out} {l0 l1 l2 l3 l4 l6 : Option AV} {x : Int32} {L2 : List (Nat × AV)} {St : List AV} {S : SS} : ev c 189 76 [l0, l1, l2, l3, l4, some (aI x), l6] L2 St S = ev c 189 78 [l0, l1, l2, l3, l4, some (aI x), l6] L2 (aI x :: St) S := ev_go i189_76 rfl
theorem i189_78 : insAt 189 78 = some (.getstatic 83, 3, (2, 0, 0, 0), 329) := rfl
theorem s189_78 {c : Nat → List AV → SS → Option Out} {l0 l1 l2 l3 l4 l5 l6 : Option AV} {L2 : List (Nat × AV)} {St : List AV} {S : SS} : ev c 189 78 [l0, l1, l2, l3, l4, l5, l6] L2 St S = ev c 189 81 [l0, l1, l2, l3, l4, l5, l6] L2 (aR (46, 0, 0) :: St) S := ev_go i189_78 rfl
theorem i189_81 : insAt 189 81 = some (.iload_n 0, 1, (0, 0, 0, 0), 0) := rfl
theorem s189_81 {c : Nat → List AV → SS → Option Out} {l1 l2 l3 l4 l5 l6 : Option AV} {x : Int32} {L2 : List (Nat × AV)} {St : List AV} {S : SS} : ev c 189 81 [some (aI x), l1, l2, l3, l4, l5, l6] L2 St S = ev c 189 82 [some (aI x), l1, l2, l3, l4, l5, l6] L2 (aI x :: St) S := ev_go i189_81 rfl
theorem i189_82 : insAt 189 82 = some (.ineg, 1, (0, 0, 0, 0), 0) := rfl
theorem s189_82 {c : Nat → List AV → SS → Option Out} {l0 l1 l2 l3 l4 l5 l6 : Option AV} {x : Int32} {L2 : List (Nat × AV)} {St : List AV} {S : SS} : ev c 189 82 [l0, l1, l2, l3, l4, l5, l6] L2 (aI x :: St) S = ev c 189 83 [l0, l1, l2, l3, l4, l5, l6] L2 (aI (-x) :: St) S := ev_go i189_82 rfl
theorem i189_83 : insAt 189 83 = some (.baload, 1, (0, 0, 0, 0), 0) := rfl
theorem s189_83 {c : Nat → List AV → SS → Option Out} {l0 l1 l2 l3 l4 l5 l6 : Option AV} {i : Int32} {o : OId} {L2 : List (Nat × AV)} {St : List AV} {S : SS} : ev c 189 83 [l0, l1, l2, l3, l4, l5, l6] L2 (aI i :: aR o :: St) S = kB o i (ev c 189 84 [l0, l1, l2, l3, l4, l5, l6] L2 (aI (agB S o i.toNatClampNeg) :: St) S) (ev c 189 84 [l0, l1, l2, l3, l4, l5, l6] L2 (aI (bb (S.1 o i.toNatClampNeg)) :: St) S) := ev_baload i189_83
theorem i189_84 : insAt 189 84 = some (.bastore, 1, (0, 0, 0, 0), 0) := rfl
theorem s189_84 {c : Nat → List AV → SS → Option Out} {l0 l1 l2 l3 l4 l5 l6 : Option AV} {x i : Int32} {o : OId} {L2 : List (Nat × AV)} {St : List AV} {S : SS} : ev c 189 84 [l0, l1, l2, l3, l4, l5, l6] L2 (aI x :: aI i :: aR o :: St) S = kBw o i x (ev c 189 85 [l0, l1, l2, l3, l4, l5, l6] L2 St (setI S.1 o i.toNatClampNeg x, S.2)) := ev_bastore i189_84
theorem i189_85 : insAt 189 85 = some (.iload_n 0, 1, (0, 0, 0, 0), 0) := rfl
theorem s189_85 {c : Nat → List AV → SS → Option Out} {l1 l2 l3 l4 l5 l6 : Option AV} {x : Int32} {L2 : List (Nat × AV)} {St : List AV} {S : SS} : ev c 189 85 [some (aI x), l1, l2, l3, l4, l5, l6] L2 St S = ev c 189 86 [some (aI x), l1, l2, l3, l4, l5, l6] L2 (aI x :: St) S := ev_go i189_85 rfl
theorem i189_86 : insAt 189 86 = some (.bipush (-9), 2, (0, 0, 0, 0), 0) := rfl
theorem s189_86 {c : Nat → List AV → SS → Option Out} {l0 l1 l2 l3 l4 l5 l6 : Option AV} {L2 : List (Nat × AV)} {St : List AV} {S : SS} : ev c 189 86 [l0, l1, l2, l3, l4, l5, l6] L2 St S = ev c 189 88 [l0, l1, l2, l3, l4, l5, l6] L2 (aI (-9) :: St) S := ev_go i189_86 rfl
theorem i189_88 : insAt 189 88 = some (.if_icmp .ge 16, 3, (0, 0, 0, 0), 0) := rfl
theorem s189_88 {c : Nat → List AV → SS → Option Out} {l0 l1 l2 l3 l4 l5 l6 : Option AV} {x y : Int32} {L2 : List (Nat × AV)} {St : List AV} {S : SS} : ev c 189 88 [l0, l1, l2, l3, l4, l5, l6] L2 (aI y :: aI x :: St) S = if y ≤ x then ev c 189 104 [l0, l1, l2, l3, l4, l5, l6] L2 St S else ev c 189 91 [l0, l1, l2, l3, l4, l5, l6] L2 St S := ev_br i189_88 rfl
theorem i189_91 : insAt 189 91 = some (.aload_n 2, 1, (0, 0, 0, 0), 0) := rfl
theorem s189_91 {c : Nat → List AV → SS → Option Out} {l0 l1 l3 l4 l5 l6 : Option AV} {o : OId} {L2 : List (Nat × AV)} {St : List AV} {S : SS} : ev c 189 91 [l0, l1, some (aR o), l3, l4, l5, l6] L2 St S = ev c 189 92 [l0, l1, some (aR o), l3, l4, l5, l6] L2 (aR o :: St) S := ev_go i189_91 rfl
theorem i189_92 : insAt 189 92 = some (.iinc 5 (-1), 3, (0, 0, 0, 0), 0) := rfl
theorem s189_92 {c : Nat → List AV → SS → Option Out} {l0 l1 l2 l3 l4 l6 : Option AV} {x : Int32} {L2 : List (Nat × AV)} {St : List AV} {S : SS} : ev c 189 92 [l0, l1, l2, l3, l4, some (aI x), l6] L2 St S = ev c 189 95 [l0, l1, l2, l3, l4, some (aI (x + (-1))), l6] (kil L2 5) St S := ev_go i189_92 rfl
theorem i189_95 : insAt 189 95 = some (.iload 5, 2, (0, 0, 0, 0), 0) := rfl
theorem s189_95 {c : Nat → List AV → SS → Option Out} {l0 l1 l2 l3 l4 l6 : Option AV} {x : Int32} {L2 : List (Nat × AV)} {St : List AV} {S : SS} : ev c 189 95 [l0, l1, l2, l3, l4, some (aI x), l6] L2 St S = ev c 189 97 [l0, l1, l2, l3, l4, some (aI x), l6] L2 (aI x :: St) S := ev_go i189_95 rfl
theorem i189_97 : insAt 189 97 = some (.getstatic 87, 3, (1, 0, 0, 0), 330) := rfl
theorem s189_97 {c : Nat → List AV → SS → Option Out} {l0 l1 l2 l3 l4 l5 l6 : Option AV} {L2 : List (Nat × AV)} {St : List AV} {S : SS} : ev c 189 97 [l0, l1, l2, l3, l4, l5, l6] L2 St S = ev c 189 100 [l0, l1, l2, l3, l4, l5, l6] L2 (aR (45, 0, 0) :: St) S := ev_go i189_97 rfl
theorem i189_100 : insAt 189 100 = some (.iload_n 0, 1, (0, 0, 0, 0), 0) := rfl
theorem s189_100 {c : Nat → List AV → SS → Option Out} {l1 l2 l3 l4 l5 l6 : Option AV} {x : Int32} {L2 : List (Nat × AV)} {St : List AV} {S : SS} : ev c 189 100 [some (aI x), l1, l2, l3, l4, l5, l6] L2 St S = ev c 189 101 [some (aI x), l1, l2, l3, l4, l5, l6] L2 (aI x :: St) S := ev_go i189_100 rfl
theorem i189_101 : insAt 189 101 = some (.ineg, 1, (0, 0, 0, 0), 0) := rfl
theorem s189_101 {c : Nat → List AV → SS → Option Out} {l0 l1 l2 l3 l4 l5 l6 : Option AV} {x : Int32} {L2 : List (Nat × AV)} {St : List AV} {S : SS} : ev c 189 101 [l0, l1, l2, l3, l4, l5, l6] L2 (aI x :: St) S = ev c 189 102 [l0, l1, l2, l3, l4, l5, l6] L2 (aI (-x) :: St) S := ev_go i189_101 rfl
theorem i189_102 : insAt 189 102 = some (.baload, 1, (0, 0, 0, 0), 0) := rfl
theorem s189_102 {c : Nat → List AV → SS → Option Out} {l0 l1 l2 l3 l4 l5 l6 : Option AV} {i : Int32} {o : OId} {L2 : List (Nat × AV)} {St : List AV} {S : SS} : ev c 189 102 [l0, l1, l2, l3, l4, l5, l6] L2 (aI i :: aR o :: St) S = kB o i (ev c 189 103 [l0, l1, l2, l3, l4, l5, l6] L2 (aI (agB S o i.toNatClampNeg) :: St) S) (ev c 189 103 [l0, l1, l2, l3, l4, l5, l6] L2 (aI (bb (S.1 o i.toNatClampNeg)) :: St) S) := ev_baload i189_102
theorem i189_103 : insAt 189 103 = some (.bastore, 1, (0, 0, 0, 0), 0) := rfl
theorem s189_103 {c : Nat → List AV → SS → Option Out} {l0 l1 l2 l3 l4 l5 l6 : Option AV} {x i : Int32} {o : OId} {L2 : List (Nat × AV)} {St : List AV} {S : SS} : ev c 189 103 [l0, l1, l2, l3, l4, l5, l6] L2 (aI x :: aI i :: aR o :: St) S = kBw o i x (ev c 189 104 [l0, l1, l2, l3, l4, l5, l6] L2 St (setI S.1 o i.toNatClampNeg x, S.2)) := ev_bastore i189_103
theorem i189_104 : insAt 189 104 = some (.iload 6, 2, (0, 0, 0, 0), 0) := rfl
theorem s189_104 {c : Nat → List AV → SS → Option Out} {l0 l1 l2 l3 l4 l5 : Option AV} {x : Int32} {L2 : List (Nat × AV)} {St : List AV} {S : SS} : ev c 189 104 [l0, l1, l2, l3, l4, l5, some (aI x)] L2 St S = ev c 189 106 [l0, l1, l2, l3, l4, l5, some (aI x)] L2 (aI x :: St) S := ev_go i189_104 rfl
theorem i189_106 : insAt 189 106 = some (.ifCond .eq 12, 3, (0, 0, 0, 0), 0) := rfl
theorem s189_106 {c : Nat → List AV → SS → Option Out} {l0 l1 l2 l3 l4 l5 l6 : Option AV} {x : Int32} {L2 : List (Nat × AV)} {St : List AV} {S : SS} : ev c 189 106 [l0, l1, l2, l3, l4, l5, l6] L2 (aI x :: St) S = if x = 0 then ev c 189 118 [l0, l1, l2, l3, l4, l5, l6] L2 St S else ev c 189 109 [l0, l1, l2, l3, l4, l5, l6] L2 St S := ev_br i189_106 rfl
theorem i189_109 : insAt 189 109 = some (.aload_n 2, 1, (0, 0, 0, 0), 0) := rfl
theorem s189_109 {c : Nat → List AV → SS → Option Out} {l0 l1 l3 l4 l5 l6 : Option AV} {o : OId} {L2 : List (Nat × AV)} {St : List AV} {S : SS} : ev c 189 109 [l0, l1, some (aR o), l3, l4, l5, l6] L2 St S = ev c 189 110 [l0, l1, some (aR o), l3, l4, l5, l6] L2 (aR o :: St) S := ev_go i189_109 rfl
theorem i189_110 : insAt 189 110 = some (.iinc 5 (-1), 3, (0, 0, 0, 0), 0) := rfl
theorem s189_110 {c : Nat → List AV → SS → Option Out} {l0 l1 l2 l3 l4 l6 : Option AV} {x : Int32} {L2 : List (Nat × AV)} {St : List AV} {S : SS} : ev c 189 110 [l0, l1, l2, l3, l4, some (aI x), l6] L2 St S = ev c 189 113 [l0, l1, l2, l3, l4, some (aI (x + (-1))), l6] (kil L2 5) St S := ev_go i189_110 rfl
theorem i189_113 : insAt 189 113 = some (.iload 5, 2, (0, 0, 0, 0), 0) := rfl
theorem s189_113 {c : Nat → List AV → SS → Option Out} {l0 l1 l2 l3 l4 l6 : Option AV} {x : Int32} {L2 : List (Nat × AV)} {St : List AV} {S : SS} : ev c 189 113 [l0, l1, l2, l3, l4, some (aI x), l6] L2 St S = ev c 189 115 [l0, l1, l2, l3, l4, some (aI x), l6] L2 (aI x :: St) S := ev_go i189_113 rfl
theorem i189_115 : insAt 189 115 = some (.bipush 45, 2, (0, 0, 0, 0), 0) := rfl
theorem s189_115 {c : Nat → List AV → SS → Option Out} {l0 l1 l2 l3 l4 l5 l6 : Option AV} {L2 : List (Nat × AV)} {St : List AV} {S : SS} : ev c 189 115 [l0, l1, l2, l3, l4, l5, l6] L2 St S = ev c 189 117 [l0, l1, l2, l3, l4, l5, l6] L2 (aI 45 :: St) S := ev_go i189_115 rfl
theorem i189_117 : insAt 189 117 = some (.bastore, 1, (0, 0, 0, 0), 0) := rfl
theorem s189_117 {c : Nat → List AV → SS → Option Out} {l0 l1 l2 l3 l4 l5 l6 : Option AV} {x i : Int32} {o : OId} {L2 : List (Nat × AV)} {St : List AV} {S : SS} : ev c 189 117 [l0, l1, l2, l3, l4, l5, l6] L2 (aI x :: aI i :: aR o :: St) S = kBw o i x (ev c 189 118 [l0, l1, l2, l3, l4, l5, l6] L2 St (setI S.1 o i.toNatClampNeg x, S.2)) := ev_bastore i189_117
theorem i189_118 : insAt 189 118 = some (.iload 5, 2, (0, 0, 0, 0), 0) := rfl
theorem s189_118 {c : Nat → List AV → SS → Option Out} {l0 l1 l2 l3 l4 l6 : Option AV} {x : Int32} {L2 : List (Nat × AV)} {St : List AV} {S : SS} : ev c 189 118 [l0, l1, l2, l3, l4, some (aI x), l6] L2 St S = ev c 189 120 [l0, l1, l2, l3, l4, some (aI x), l6] L2 (aI x :: St) S := ev_go i189_118 rfl
theorem i189_120 : insAt 189 120 = some (.ireturn, 1, (0, 0, 0, 0), 0) := rfl
theorem s189_120 {c : Nat → List AV → SS → Option Out} {l0 l1 l2 l3 l4 l5 l6 : Option AV} {x : Int32} {L2 : List (Nat × AV)} {S : SS} : ev c 189 120 [l0, l1, l2, l3, l4, l5, l6] L2 [aI x] S = some (.inl (some (aI x)), S) := ev_end i189_120 rfl
theorem m189 {d : Nat} {a0 : Int32} {a1 : Int32} {a2 : OId} {S : SS} : evm (d + 1) 189 [aI a0, aI a1, aR a2] S = ev (evm d) 189 0 [some (aI a0), some (aI a1), some (aR a2), none, none, none, none] [] [] S := evm_s (n := 7) rfl (Nat.le_of_ble_eq_true rfl) rfl rfl
/-! java/lang/StringBuilder.toString()Ljava/lang/String; -/
theorem i190_0 : insAt 190 0 = some (.new 18, 3, (0, 0, 0, 0), 331) := rfl
theorem i190_3 : insAt 190 3 = some (.dup, 1, (0, 0, 0, 0), 0) := rfl
theorem s190_3 {c : Nat → List AV → SS → Option Out} {l0 : Option AV} {x : OId} {L2 : List (Nat × AV)} {St : List AV} {S : SS} : ev c 190 3 [l0] L2 (aR x :: St) S = ev c 190 4 [l0] L2 (aR x :: aR x :: St) S := ev_go i190_3 rfl
theorem i190_4 : insAt 190 4 = some (.aload_n 0, 1, (0, 0, 0, 0), 0) := rfl
theorem s190_4 {c : Nat → List AV → SS → Option Out} {o : OId} {L2 : List (Nat × AV)} {St : List AV} {S : SS} : ev c 190 4 [some (aR o)] L2 St S = ev c 190 5 [some (aR o)] L2 (aR o :: St) S := ev_go i190_4 rfl
theorem i190_5 : insAt 190 5 = some (.invokespecial 137, 3, (191, 1, 5, 0), 332) := rfl
theorem s190_5 {c : Nat → List AV → SS → Option Out} {l0 : Option AV} {t0 : AV} {a0 : OId} {j : Nat} {L2 : List (Nat × AV)} {S : SS} : ev c 190 5 [l0] L2 [aR a0, aR (0, j, 2), t0] S = ck (c 191 [aR (0, j, 2), aR a0] S) (fun v S' => ev c 190 8 [l0] L2 (v.toList ++ [t0]) S') := ev_call i190_5 rfl
theorem i190_8 : insAt 190 8 = some (.areturn, 1, (0, 0, 0, 0), 0) := rfl
theorem s190_8 {c : Nat → List AV → SS → Option Out} {l0 : Option AV} {o : OId} {L2 : List (Nat × AV)} {S : SS} : ev c 190 8 [l0] L2 [aR o] S = some (.inl (some (aR o)), S) := ev_end i190_8 rfl
theorem s190_8N {c : Nat → List AV → SS → Option Out} {l0 : Option AV} {L2 : List (Nat × AV)} {S : SS} : ev c 190 8 [l0] L2 [aN] S = some (.inl (some aN), S) := ev_end i190_8 rfl
theorem m190 {d : Nat} {o : OId} {S : SS} : evm (d + 1) 190 [aR o] S = ev (evm d) 190 0 [some (aR o)] [] [] S := evm_s (n := 1) rfl (Nat.le_of_ble_eq_true rfl) rfl rfl
/-! java/lang/String.<init>(Ljava/lang/StringBuilder;)V -/
theorem i191_0 : insAt 191 0 = some (.aload_n 0, 1, (0, 0, 0, 0), 0) := rfl
theorem s191_0 {c : Nat → List AV → SS → Option Out} {l1 : Option AV} {o : OId} {L2 : List (Nat × AV)} {St : List AV} {S : SS} : ev c 191 0 [some (aR o), l1] L2 St S = ev c 191 1 [some (aR o), l1] L2 (aR o :: St) S := ev_go i191_0 rfl
theorem i191_1 : insAt 191 1 = some (.aload_n 1, 1, (0, 0, 0, 0), 0) := rfl
theorem s191_1 {c : Nat → List AV → SS → Option Out} {l0 : Option AV} {o : OId} {L2 : List (Nat × AV)} {St : List AV} {S : SS} : ev c 191 1 [l0, some (aR o)] L2 St S = ev c 191 2 [l0, some (aR o)] L2 (aR o :: St) S := ev_go i191_1 rfl
theorem i191_2 : insAt 191 2 = some (.aconst_null, 1, (0, 0, 0, 0), 0) := rfl
theorem s191_2 {c : Nat → List AV → SS → Option Out} {l0 l1 : Option AV} {L2 : List (Nat × AV)} {St : List AV} {S : SS} : ev c 191 2 [l0, l1] L2 St S = ev c 191 3 [l0, l1] L2 (aN :: St) S := ev_go i191_2 rfl
theorem i191_3 : insAt 191 3 = some (.invokespecial 489, 3, (192, 2, 5, 0), 333) := rfl
theorem s191_3 {c : Nat → List AV → SS → Option Out} {l0 l1 : Option AV} {a0 : OId} {j : Nat} {L2 : List (Nat × AV)} {S : SS} : ev c 191 3 [l0, l1] L2 [aN, aR a0, aR (0, j, 2)] S = ck (c 192 [aR (0, j, 2), aR a0, aN] S) (fun v S' => ev c 191 6 [l0, l1] L2 (v.toList ++ []) S') := ev_call i191_3 rfl
theorem i191_6 : insAt 191 6 = some (.return_, 1, (0, 0, 0, 0), 0) := rfl
theorem s191_6 {c : Nat → List AV → SS → Option Out} {l0 l1 : Option AV} {L2 : List (Nat × AV)} {S : SS} : ev c 191 6 [l0, l1] L2 [] S = some (.inl none, S) := ev_end i191_6 rfl
theorem m191 {d : Nat} {o : OId} {a0 : OId} {S : SS} : evm (d + 1) 191 [aR o, aR a0] S = ev (evm d) 191 0 [some (aR o), some (aR a0)] [] [] S := evm_s (n := 2) rfl (Nat.le_of_ble_eq_true rfl) rfl rfl
/-! java/lang/String.<init>(Ljava/lang/AbstractStringBuilder;Ljava/lang/Void;)V -/
theorem i192_0 : insAt 192 0 = some (.aload_n 0, 1, (0, 0, 0, 0), 0) := rfl
theorem s192_0 {c : Nat → List AV → SS → Option Out} {l1 l2 l3 l4 : Option AV} {o : OId} {L2 : List (Nat × AV)} {St : List AV} {S : SS} : ev c 192 0 [some (aR o), l1, l2, l3, l4] L2 St S = ev c 192 1 [some (aR o), l1, l2, l3, l4] L2 (aR o :: St) S := ev_go i192_0 rfl
theorem i192_1 : insAt 192 1 = some (.invokespecial 1, 3, (0, 0, 20, 0), 334) := rfl
theorem s192_1 {c : Nat → List AV → SS → Option Out} {l0 l1 l2 l3 l4 : Option AV} {j t : Nat} {L2 : List (Nat × AV)} {S : SS} : ev c 192 1 [l0, l1, l2, l3, l4] L2 [aR (0, j, t)] S = ev c 192 4 [l0, l1, l2, l3, l4] L2 [] S := ev_go i192_1 rfl
theorem i192_4 : insAt 192 4 = some (.aload_n 1, 1, (0, 0, 0, 0), 0) := rfl
theorem s192_4 {c : Nat → List AV → SS → Option Out} {l0 l2 l3 l4 : Option AV} {o : OId} {L2 : List (Nat × AV)} {St : List AV} {S : SS} : ev c 192 4 [l0, some (aR o), l2, l3, l4] L2 St S = ev c 192 5 [l0, some (aR o), l2, l3, l4] L2 (aR o :: St) S := ev_go i192_4 rfl
theorem i192_5 : insAt 192 5 = some (.invokevirtual 552, 3, (193, 0, 4, 1), 335) := rfl
theorem s192_5 {c : Nat → List AV → SS → Option Out} {l0 l1 l2 l3 l4 : Option AV} {j t : Nat} {L2 : List (Nat × AV)} {S : SS} : ev c 192 5 [l0, l1, l2, l3, l4] L2 [aR (1, j, t)] S = ck (c 193 [aR (1, j, t)] S) (fun v S' => ev c 192 8 [l0, l1, l2, l3, l4] L2 (v.toList ++ []) S') := ev_call i192_5 rfl
theorem i192_8 : insAt 192 8 = some (.astore_n 3, 1, (0, 0, 0, 0), 0) := rfl
theorem s192_8 {c : Nat → List AV → SS → Option Out} {l0 l1 l2 l3 l4 : Option AV} {o : OId} {L2 : List (Nat × AV)} {St : List AV} {S : SS} : ev c 192 8 [l0, l1, l2, l3, l4] L2 (aR o :: St) S = ev c 192 9 [l0, l1, l2, some (aR o), l4] (kil L2 3) St S := ev_go i192_8 rfl
theorem i192_9 : insAt 192 9 = some (.aload_n 1, 1, (0, 0, 0, 0), 0) := rfl
theorem s192_9 {c : Nat → List AV → SS → Option Out} {l0 l2 l3 l4 : Option AV} {o : OId} {L2 : List (Nat × AV)} {St : List AV} {S : SS} : ev c 192 9 [l0, some (aR o), l2, l3, l4] L2 St S = ev c 192 10 [l0, some (aR o), l2, l3, l4] L2 (aR o :: St) S := ev_go i192_9 rfl
theorem i192_10 : insAt 192 10 = some (.invokevirtual 549, 3, (194, 0, 8, 1), 336) := rfl
theorem s192_10 {c : Nat → List AV → SS → Option Out} {l0 l1 l2 l3 l4 : Option AV} {j t : Nat} {L2 : List (Nat × AV)} {S : SS} : ev c 192 10 [l0, l1, l2, l3, l4] L2 [aR (1, j, t)] S = ck (c 194 [aR (1, j, t)] S) (fun v S' => ev c 192 13 [l0, l1, l2, l3, l4] L2 (v.toList ++ []) S') := ev_call i192_10 rfl
theorem i192_13 : insAt 192 13 = some (.istore 4, 2, (0, 0, 0, 0), 0) := rfl
theorem s192_13 {c : Nat → List AV → SS → Option Out} {l0 l1 l2 l3 l4 : Option AV} {x : Int32} {L2 : List (Nat × AV)} {St : List AV} {S : SS} : ev c 192 13 [l0, l1, l2, l3, l4] L2 (aI x :: St) S = ev c 192 15 [l0, l1, l2, l3, some (aI x)] (kil L2 4) St S := ev_go i192_13 rfl
theorem i192_15 : insAt 192 15 = some (.aload_n 1, 1, (0, 0, 0, 0), 0) := rfl
theorem s192_15 {c : Nat → List AV → SS → Option Out} {l0 l2 l3 l4 : Option AV} {o : OId} {L2 : List (Nat × AV)} {St : List AV} {S : SS} : ev c 192 15 [l0, some (aR o), l2, l3, l4] L2 St S = ev c 192 16 [l0, some (aR o), l2, l3, l4] L2 (aR o :: St) S := ev_go i192_15 rfl
theorem i192_16 : insAt 192 16 = some (.invokevirtual 1047, 3, (180, 0, 4, 1), 337) := rfl
theorem s192_16 {c : Nat → List AV → SS → Option Out} {l0 l1 l2 l3 l4 : Option AV} {j t : Nat} {L2 : List (Nat × AV)} {S : SS} : ev c 192 16 [l0, l1, l2, l3, l4] L2 [aR (1, j, t)] S = ck (c 180 [aR (1, j, t)] S) (fun v S' => ev c 192 19 [l0, l1, l2, l3, l4] L2 (v.toList ++ []) S') := ev_call i192_16 rfl
theorem i192_19 : insAt 192 19 = some (.ifCond .eq 22, 3, (0, 0, 0, 0), 0) := rfl
theorem s192_19 {c : Nat → List AV → SS → Option Out} {l0 l1 l2 l3 l4 : Option AV} {x : Int32} {L2 : List (Nat × AV)} {St : List AV} {S : SS} : ev c 192 19 [l0, l1, l2, l3, l4] L2 (aI x :: St) S = if x = 0 then ev c 192 41 [l0, l1, l2, l3, l4] L2 St S else ev c 192 22 [l0, l1, l2, l3, l4] L2 St S := ev_br i192_19 rfl
theorem i192_22 : insAt 192 22 = some (.aload_n 0, 1, (0, 0, 0, 0), 0) := rfl
theorem s192_22 {c : Nat → List AV → SS → Option Out} {l1 l2 l3 l4 : Option AV} {o : OId} {L2 : List (Nat × AV)} {St : List AV} {S : SS} : ev c 192 22 [some (aR o), l1, l2, l3, l4] L2 St S = ev c 192 23 [some (aR o), l1, l2, l3, l4] L2 (aR o :: St) S := ev_go i192_22 rfl
theorem i192_23 : insAt 192 23 = some (.iconst 0, 1, (0, 0, 0, 0), 0) := rfl
theorem s192_23 {c : Nat → List AV → SS → Option Out} {l0 l1 l2 l3 l4 : Option AV} {L2 : List (Nat × AV)} {St : List AV} {S : SS} : ev c 192 23 [l0, l1, l2, l3, l4] L2 St S = ev c 192 24 [l0, l1, l2, l3, l4] L2 (aI 0 :: St) S := ev_go i192_23 rfl
theorem i192_24 : insAt 192 24 = some (.putfield 15, 3, (0, 1, 0, 0), 321) := rfl
theorem s192_24 {c : Nat → List AV → SS → Option Out} {l0 l1 l2 l3 l4 : Option AV} {j : Nat} {x : Int32} {L2 : List (Nat × AV)} {St : List AV} {S : SS} : ev c 192 24 [l0, l1, l2, l3, l4] L2 (aI x :: aR (0, j, 2) :: St) S = if by8 x = x then ev c 192 27 [l0, l1, l2, l3, l4] L2 St (setI S.1 (0, j, 2) 1 x, S.2) else none := ev_if i192_24 rfl
theorem i192_27 : insAt 192 27 = some (.aload_n 0, 1, (0, 0, 0, 0), 0) := rfl
theorem s192_27 {c : Nat → List AV → SS → Option Out} {l1 l2 l3 l4 : Option AV} {o : OId} {L2 : List (Nat × AV)} {St : List AV} {S : SS} : ev c 192 27 [some (aR o), l1, l2, l3, l4] L2 St S = ev c 192 28 [some (aR o), l1, l2, l3, l4] L2 (aR o :: St) S := ev_go i192_27 rfl
theorem i192_28 : insAt 192 28 = some (.aload_n 3, 1, (0, 0, 0, 0), 0) := rfl
theorem s192_28 {c : Nat → List AV → SS → Option Out} {l0 l1 l2 l4 : Option AV} {o : OId} {L2 : List (Nat × AV)} {St : List AV} {S : SS} : ev c 192 28 [l0, l1, l2, some (aR o), l4] L2 St S = ev c 192 29 [l0, l1, l2, some (aR o), l4] L2 (aR o :: St) S := ev_go i192_28 rfl
theorem i192_29 : insAt 192 29 = some (.iconst 0, 1, (0, 0, 0, 0), 0) := rfl
theorem s192_29 {c : Nat → List AV → SS → Option Out} {l0 l1 l2 l3 l4 : Option AV} {L2 : List (Nat × AV)} {St : List AV} {S : SS} : ev c 192 29 [l0, l1, l2, l3, l4] L2 St S = ev c 192 30 [l0, l1, l2, l3, l4] L2 (aI 0 :: St) S := ev_go i192_29 rfl
theorem i192_30 : insAt 192 30 = some (.iload 4, 2, (0, 0, 0, 0), 0) := rfl
theorem s192_30 {c : Nat → List AV → SS → Option Out} {l0 l1 l2 l3 : Option AV} {x : Int32} {L2 : List (Nat × AV)} {St : List AV} {S : SS} : ev c 192 30 [l0, l1, l2, l3, some (aI x)] L2 St S = ev c 192 32 [l0, l1, l2, l3, some (aI x)] L2 (aI x :: St) S := ev_go i192_30 rfl
theorem i192_32 : insAt 192 32 = some (.invokestatic 54, 3, (196, 3, 0, 0), 338) := rfl
theorem s192_32 {c : Nat → List AV → SS → Option Out} {l0 l1 l2 l3 l4 : Option AV} {t0 : AV} {a0 : OId} {a1 : Int32} {a2 : Int32} {L2 : List (Nat × AV)} {S : SS} : ev c 192 32 [l0, l1, l2, l3, l4] L2 [aI a2, aI a1, aR a0, t0] S = ck (c 196 [aR a0, aI a1, aI a2] S) (fun v S' => ev c 192 35 [l0, l1, l2, l3, l4] L2 (v.toList ++ [t0]) S') := ev_call i192_32 rfl
theorem i192_35 : insAt 192 35 = some (.putfield 9, 3, (0, 0, 0, 0), 318) := rfl
theorem s192_35 {c : Nat → List AV → SS → Option Out} {l0 l1 l2 l3 l4 : Option AV} {j : Nat} {p : OId} {L2 : List (Nat × AV)} {St : List AV} {S : SS} : ev c 192 35 [l0, l1, l2, l3, l4] L2 (aR p :: aR (0, j, 2) :: St) S = ev c 192 38 [l0, l1, l2, l3, l4] L2 St (S.1, setV S.2.1 (0, j, 2) 0 (aR p), S.2.2) := ev_go i192_35 rfl
theorem i192_38 : insAt 192 38 = some (.goto 59, 3, (0, 0, 0, 0), 0) := rfl
theorem s192_38 {c : Nat → List AV → SS → Option Out} {l0 l1 l2 l3 l4 : Option AV} {L2 : List (Nat × AV)} {St : List AV} {S : SS} : ev c 192 38 [l0, l1, l2, l3, l4] L2 St S = ev c 192 97 [l0, l1, l2, l3, l4] L2 St S := ev_go i192_38 rfl
theorem i192_41 : insAt 192 41 = some (.getstatic 38, 3, (0, 0, 0, 0), 320) := rfl
theorem s192_41 {c : Nat → List AV → SS → Option Out} {l0 l1 l2 l3 l4 : Option AV} {L2 : List (Nat × AV)} {St : List AV} {S : SS} : ev c 192 41 [l0, l1, l2, l3, l4] L2 St S = ev c 192 44 [l0, l1, l2, l3, l4] L2 (aI 1 :: St) S := ev_go i192_41 rfl
theorem i192_44 : insAt 192 44 = some (.ifCond .eq 35, 3, (0, 0, 0, 0), 0) := rfl
theorem s192_44 {c : Nat → List AV → SS → Option Out} {l0 l1 l2 l3 l4 : Option AV} {x : Int32} {L2 : List (Nat × AV)} {St : List AV} {S : SS} : ev c 192 44 [l0, l1, l2, l3, l4] L2 (aI x :: St) S = if x = 0 then ev c 192 79 [l0, l1, l2, l3, l4] L2 St S else ev c 192 47 [l0, l1, l2, l3, l4] L2 St S := ev_br i192_44 rfl
theorem i192_47 : insAt 192 47 = some (.aload_n 1, 1, (0, 0, 0, 0), 0) := rfl
theorem s192_47 {c : Nat → List AV → SS → Option Out} {l0 l2 l3 l4 : Option AV} {o : OId} {L2 : List (Nat × AV)} {St : List AV} {S : SS} : ev c 192 47 [l0, some (aR o), l2, l3, l4] L2 St S = ev c 192 48 [l0, some (aR o), l2, l3, l4] L2 (aR o :: St) S := ev_go i192_47 rfl
theorem i192_48 : insAt 192 48 = some (.getfield 1048, 3, (1, 2, 0, 0), 339) := rfl
theorem s192_48 {c : Nat → List AV → SS → Option Out} {l0 l1 l2 l3 l4 : Option AV} {j t : Nat} {L2 : List (Nat × AV)} {St : List AV} {S : SS} : ev c 192 48 [l0, l1, l2, l3, l4] L2 (aR (1, j, t) :: St) S = ev c 192 51 [l0, l1, l2, l3, l4] L2 (aI (bb (S.1 (1, j, t) 2)) :: St) S := ev_go i192_48 rfl
theorem i192_51 : insAt 192 51 = some (.ifCond .eq 28, 3, (0, 0, 0, 0), 0) := rfl
theorem s192_51 {c : Nat → List AV → SS → Option Out} {l0 l1 l2 l3 l4 : Option AV} {x : Int32} {L2 : List (Nat × AV)} {St : List AV} {S : SS} : ev c 192 51 [l0, l1, l2, l3, l4] L2 (aI x :: St) S = if x = 0 then ev c 192 79 [l0, l1, l2, l3, l4] L2 St S else ev c 192 54 [l0, l1, l2, l3, l4] L2 St S := ev_br i192_51 rfl
theorem i192_54 : insAt 192 54 = some (.aload_n 0, 1, (0, 0, 0, 0), 0) := rfl
theorem s192_54 {c : Nat → List AV → SS → Option Out} {l1 l2 l3 l4 : Option AV} {o : OId} {L2 : List (Nat × AV)} {St : List AV} {S : SS} : ev c 192 54 [some (aR o), l1, l2, l3, l4] L2 St S = ev c 192 55 [some (aR o), l1, l2, l3, l4] L2 (aR o :: St) S := ev_go i192_54 rfl
theorem i192_55 : insAt 192 55 = some (.aload_n 3, 1, (0, 0, 0, 0), 0) := rfl
theorem s192_55 {c : Nat → List AV → SS → Option Out} {l0 l1 l2 l4 : Option AV} {o : OId} {L2 : List (Nat × AV)} {St : List AV} {S : SS} : ev c 192 55 [l0, l1, l2, some (aR o), l4] L2 St S = ev c 192 56 [l0, l1, l2, some (aR o), l4] L2 (aR o :: St) S := ev_go i192_55 rfl
theorem i192_56 : insAt 192 56 = some (.iconst 0, 1, (0, 0, 0, 0), 0) := rfl
theorem s192_56 {c : Nat → List AV → SS → Option Out} {l0 l1 l2 l3 l4 : Option AV} {L2 : List (Nat × AV)} {St : List AV} {S : SS} : ev c 192 56 [l0, l1, l2, l3, l4] L2 St S = ev c 192 57 [l0, l1, l2, l3, l4] L2 (aI 0 :: St) S := ev_go i192_56 rfl
theorem i192_57 : insAt 192 57 = some (.iload 4, 2, (0, 0, 0, 0), 0) := rfl
theorem s192_57 {c : Nat → List AV → SS → Option Out} {l0 l1 l2 l3 : Option AV} {x : Int32} {L2 : List (Nat × AV)} {St : List AV} {S : SS} : ev c 192 57 [l0, l1, l2, l3, some (aI x)] L2 St S = ev c 192 59 [l0, l1, l2, l3, some (aI x)] L2 (aI x :: St) S := ev_go i192_57 rfl
theorem i192_62 : insAt 192 62 = some (.putfield 9, 3, (0, 0, 0, 0), 318) := rfl
theorem s192_62 {c : Nat → List AV → SS → Option Out} {l0 l1 l2 l3 l4 : Option AV} {j : Nat} {p : OId} {L2 : List (Nat × AV)} {St : List AV} {S : SS} : ev c 192 62 [l0, l1, l2, l3, l4] L2 (aR p :: aR (0, j, 2) :: St) S = ev c 192 65 [l0, l1, l2, l3, l4] L2 St (S.1, setV S.2.1 (0, j, 2) 0 (aR p), S.2.2) := ev_go i192_62 rfl
theorem i192_65 : insAt 192 65 = some (.aload_n 0, 1, (0, 0, 0, 0), 0) := rfl
theorem s192_65 {c : Nat → List AV → SS → Option Out} {l1 l2 l3 l4 : Option AV} {o : OId} {L2 : List (Nat × AV)} {St : List AV} {S : SS} : ev c 192 65 [some (aR o), l1, l2, l3, l4] L2 St S = ev c 192 66 [some (aR o), l1, l2, l3, l4] L2 (aR o :: St) S := ev_go i192_65 rfl
theorem i192_66 : insAt 192 66 = some (.aload_n 0, 1, (0, 0, 0, 0), 0) := rfl
theorem s192_66 {c : Nat → List AV → SS → Option Out} {l1 l2 l3 l4 : Option AV} {o : OId} {L2 : List (Nat × AV)} {St : List AV} {S : SS} : ev c 192 66 [some (aR o), l1, l2, l3, l4] L2 St S = ev c 192 67 [some (aR o), l1, l2, l3, l4] L2 (aR o :: St) S := ev_go i192_66 rfl
theorem i192_67 : insAt 192 67 = some (.getfield 9, 3, (0, 0, 0, 0), 318) := rfl
theorem s192_67 {c : Nat → List AV → SS → Option Out} {l0 l1 l2 l3 l4 : Option AV} {j t : Nat} {L2 : List (Nat × AV)} {St : List AV} {S : SS} : ev c 192 67 [l0, l1, l2, l3, l4] L2 (aR (0, j, t) :: St) S = ev c 192 70 [l0, l1, l2, l3, l4] L2 (fget S 0 0 (0, j, t) :: St) S := ev_go i192_67 rfl
theorem i192_70 : insAt 192 70 = some (.iload 4, 2, (0, 0, 0, 0), 0) := rfl
theorem s192_70 {c : Nat → List AV → SS → Option Out} {l0 l1 l2 l3 : Option AV} {x : Int32} {L2 : List (Nat × AV)} {St : List AV} {S : SS} : ev c 192 70 [l0, l1, l2, l3, some (aI x)] L2 St S = ev c 192 72 [l0, l1, l2, l3, some (aI x)] L2 (aI x :: St) S := ev_go i192_70 rfl
theorem i192_75 : insAt 192 75 = some (.putfield 15, 3, (0, 1, 0, 0), 321) := rfl
theorem s192_75 {c : Nat → List AV → SS → Option Out} {l0 l1 l2 l3 l4 : Option AV} {j : Nat} {x : Int32} {L2 : List (Nat × AV)} {St : List AV} {S : SS} : ev c 192 75 [l0, l1, l2, l3, l4] L2 (aI x :: aR (0, j, 2) :: St) S = if by8 x = x then ev c 192 78 [l0, l1, l2, l3, l4] L2 St (setI S.1 (0, j, 2) 1 x, S.2) else none := ev_if i192_75 rfl
theorem i192_78 : insAt 192 78 = some (.return_, 1, (0, 0, 0, 0), 0) := rfl
theorem s192_78 {c : Nat → List AV → SS → Option Out} {l0 l1 l2 l3 l4 : Option AV} {L2 : List (Nat × AV)} {S : SS} : ev c 192 78 [l0, l1, l2, l3, l4] L2 [] S = some (.inl none, S) := ev_end i192_78 rfl
theorem i192_79 : insAt 192 79 = some (.aload_n 0, 1, (0, 0, 0, 0), 0) := rfl
theorem s192_79 {c : Nat → List AV → SS → Option Out} {l1 l2 l3 l4 : Option AV} {o : OId} {L2 : List (Nat × AV)} {St : List AV} {S : SS} : ev c 192 79 [some (aR o), l1, l2, l3, l4] L2 St S = ev c 192 80 [some (aR o), l1, l2, l3, l4] L2 (aR o :: St) S := ev_go i192_79 rfl
theorem i192_80 : insAt 192 80 = some (.iconst 1, 1, (0, 0, 0, 0), 0) := rfl
theorem s192_80 {c : Nat → List AV → SS → Option Out} {l0 l1 l2 l3 l4 : Option AV} {L2 : List (Nat × AV)} {St : List AV} {S : SS} : ev c 192 80 [l0, l1, l2, l3, l4] L2 St S = ev c 192 81 [l0, l1, l2, l3, l4] L2 (aI 1 :: St) S := ev_go i192_80 rfl
theorem i192_81 : insAt 192 81 = some (.putfield 15, 3, (0, 1, 0, 0), 321) := rfl
theorem s192_81 {c : Nat → List AV → SS → Option Out} {l0 l1 l2 l3 l4 : Option AV} {j : Nat} {x : Int32} {L2 : List (Nat × AV)} {St : List AV} {S : SS} : ev c 192 81 [l0, l1, l2, l3, l4] L2 (aI x :: aR (0, j, 2) :: St) S = if by8 x = x then ev c 192 84 [l0, l1, l2, l3, l4] L2 St (setI S.1 (0, j, 2) 1 x, S.2) else none := ev_if i192_81 rfl
theorem i192_84 : insAt 192 84 = some (.aload_n 0, 1, (0, 0, 0, 0), 0) := rfl
theorem s192_84 {c : Nat → List AV → SS → Option Out} {l1 l2 l3 l4 : Option AV} {o : OId} {L2 : List (Nat × AV)} {St : List AV} {S : SS} : ev c 192 84 [some (aR o), l1, l2, l3, l4] L2 St S = ev c 192 85 [some (aR o), l1, l2, l3, l4] L2 (aR o :: St) S := ev_go i192_84 rfl
theorem i192_85 : insAt 192 85 = some (.aload_n 3, 1, (0, 0, 0, 0), 0) := rfl
theorem s192_85 {c : Nat → List AV → SS → Option Out} {l0 l1 l2 l4 : Option AV} {o : OId} {L2 : List (Nat × AV)} {St : List AV} {S : SS} : ev c 192 85 [l0, l1, l2, some (aR o), l4] L2 St S = ev c 192 86 [l0, l1, l2, some (aR o), l4] L2 (aR o :: St) S := ev_go i192_85 rfl
theorem i192_86 : insAt 192 86 = some (.iconst 0, 1, (0, 0, 0, 0), 0) := rfl
theorem s192_86 {c : Nat → List AV → SS → Option Out} {l0 l1 l2 l3 l4 : Option AV} {L2 : List (Nat × AV)} {St : List AV} {S : SS} : ev c 192 86 [l0, l1, l2, l3, l4] L2 St S = ev c 192 87 [l0, l1, l2, l3, l4] L2 (aI 0 :: St) S := ev_go i192_86 rfl
theorem i192_87 : insAt 192 87 = some (.iload 4, 2, (0, 0, 0, 0), 0) := rfl
theorem s192_87 {c : Nat → List AV → SS → Option Out} {l0 l1 l2 l3 : Option AV} {x : Int32} {L2 : List (Nat × AV)} {St : List AV} {S : SS} : ev c 192 87 [l0, l1, l2, l3, some (aI x)] L2 St S = ev c 192 89 [l0, l1, l2, l3, some (aI x)] L2 (aI x :: St) S := ev_go i192_87 rfl
theorem i192_89 : insAt 192 89 = some (.iconst 1, 1, (0, 0, 0, 0), 0) := rfl
theorem s192_89 {c : Nat → List AV → SS → Option Out} {l0 l1 l2 l3 l4 : Option AV} {L2 : List (Nat × AV)} {St : List AV} {S : SS} : ev c 192 89 [l0, l1, l2, l3, l4] L2 St S = ev c 192 90 [l0, l1, l2, l3, l4] L2 (aI 1 :: St) S := ev_go i192_89 rfl
theorem i192_90 : insAt 192 90 = some (.ishl, 1, (0, 0, 0, 0), 0) := rfl
theorem s192_90 {c : Nat → List AV → SS → Option Out} {l0 l1 l2 l3 l4 : Option AV} {x y : Int32} {L2 : List (Nat × AV)} {St : List AV} {S : SS} : ev c 192 90 [l0, l1, l2, l3, l4] L2 (aI y :: aI x :: St) S = ev c 192 91 [l0, l1, l2, l3, l4] L2 (aI (x <<< (y &&& 31)) :: St) S := ev_go i192_90 rfl
theorem i192_91 : insAt 192 91 = some (.invokestatic 54, 3, (196, 3, 0, 0), 338) := rfl
theorem s192_91 {c : Nat → List AV → SS → Option Out} {l0 l1 l2 l3 l4 : Option AV} {t0 : AV} {a0 : OId} {a1 : Int32} {a2 : Int32} {L2 : List (Nat × AV)} {S : SS} : ev c 192 91 [l0, l1, l2, l3, l4] L2 [aI a2, aI a1, aR a0, t0] S = ck (c 196 [aR a0, aI a1, aI a2] S) (fun v S' => ev c 192 94 [l0, l1, l2, l3, l4] L2 (v.toList ++ [t0]) S') := ev_call i192_91 rfl
theorem i192_94 : insAt 192 94 = some (.putfield 9, 3, (0, 0, 0, 0), 318) := rfl
theorem s192_94 {c : Nat → List AV → SS → Option Out} {l0 l1 l2 l3 l4 : Option AV} {j : Nat} {p : OId} {L2 : List (Nat × AV)} {St : List AV} {S : SS} : ev c 192 94 [l0, l1, l2, l3, l4] L2 (aR p :: aR (0, j, 2) :: St) S = ev c 192 97 [l0, l1, l2, l3, l4] L2 St (S.1, setV S.2.1 (0, j, 2) 0 (aR p), S.2.2) := ev_go i192_94 rfl
theorem i192_97 : insAt 192 97 = some (.return_, 1, (0, 0, 0, 0), 0) := rfl
theorem s192_97 {c : Nat → List AV → SS → Option Out} {l0 l1 l2 l3 l4 : Option AV} {L2 : List (Nat × AV)} {S : SS} : ev c 192 97 [l0, l1, l2, l3, l4] L2 [] S = some (.inl none, S) := ev_end i192_97 rfl
theorem m192 {d : Nat} {o : OId} {a0 : OId} {S : SS} : evm (d + 1) 192 [aR o, aR a0, aN] S = ev (evm d) 192 0 [some (aR o), some (aR a0), some aN, none, none] [] [] S := evm_s (n := 5) rfl (Nat.le_of_ble_eq_true rfl) rfl rfl
/-! java/lang/AbstractStringBuilder.getValue()[B -/
theorem i193_0 : insAt 193 0 = some (.aload_n 0, 1, (0, 0, 0, 0), 0) := rfl
theorem s193_0 {c : Nat → List AV → SS → Option Out} {o : OId} {L2 : List (Nat × AV)} {St : List AV} {S : SS} : ev c 193 0 [some (aR o)] L2 St S = ev c 193 1 [some (aR o)] L2 (aR o :: St) S := ev_go i193_0 rfl
theorem i193_1 : insAt 193 1 = some (.getfield 15, 3, (1, 0, 0, 0), 73) := rfl
theorem s193_1 {c : Nat → List AV → SS → Option Out} {l0 : Option AV} {j t : Nat} {L2 : List (Nat × AV)} {St : List AV} {S : SS} : ev c 193 1 [l0] L2 (aR (1, j, t) :: St) S = ev c 193 4 [l0] L2 (S.2.1 (1, j, t) 0 :: St) S := ev_go i193_1 rfl
theorem i193_4 : insAt 193 4 = some (.areturn, 1, (0, 0, 0, 0), 0) := rfl
theorem s193_4 {c : Nat → List AV → SS → Option Out} {l0 : Option AV} {o : OId} {L2 : List (Nat × AV)} {S : SS} : ev c 193 4 [l0] L2 [aR o] S = some (.inl (some (aR o)), S) := ev_end i193_4 rfl
theorem s193_4N {c : Nat → List AV → SS → Option Out} {l0 : Option AV} {L2 : List (Nat × AV)} {S : SS} : ev c 193 4 [l0] L2 [aN] S = some (.inl (some aN), S) := ev_end i193_4 rfl
theorem m193 {d : Nat} {o : OId} {S : SS} : evm (d + 1) 193 [aR o] S = ev (evm d) 193 0 [some (aR o)] [] [] S := evm_s (n := 1) rfl (Nat.le_of_ble_eq_true rfl) rfl rfl
/-! java/lang/StringBuilder.length()I -/
theorem i194_0 : insAt 194 0 = some (.aload_n 0, 1, (0, 0, 0, 0), 0) := rfl
theorem s194_0 {c : Nat → List AV → SS → Option Out} {o : OId} {L2 : List (Nat × AV)} {St : List AV} {S : SS} : ev c 194 0 [some (aR o)] L2 St S = ev c 194 1 [some (aR o)] L2 (aR o :: St) S := ev_go i194_0 rfl
theorem i194_1 : insAt 194 1 = some (.invokespecial 343, 3, (195, 0, 7, 1), 340) := rfl
theorem s194_1 {c : Nat → List AV → SS → Option Out} {l0 : Option AV} {j t : Nat} {L2 : List (Nat × AV)} {S : SS} : ev c 194 1 [l0] L2 [aR (1, j, t)] S = ck (c 195 [aR (1, j, t)] S) (fun v S' => ev c 194 4 [l0] L2 (v.toList ++ []) S') := ev_call i194_1 rfl
theorem i194_4 : insAt 194 4 = some (.ireturn, 1, (0, 0, 0, 0), 0) := rfl
theorem s194_4 {c : Nat → List AV → SS → Option Out} {l0 : Option AV} {x : Int32} {L2 : List (Nat × AV)} {S : SS} : ev c 194 4 [l0] L2 [aI x] S = some (.inl (some (aI x)), S) := ev_end i194_4 rfl
theorem m194 {d : Nat} {o : OId} {S : SS} : evm (d + 1) 194 [aR o] S = ev (evm d) 194 0 [some (aR o)] [] [] S := evm_s (n := 1) rfl (Nat.le_of_ble_eq_true rfl) rfl rfl
/-! java/lang/AbstractStringBuilder.length()I -/
theorem i195_0 : insAt 195 0 = some (.aload_n 0, 1, (0, 0, 0, 0), 0) := rfl
theorem s195_0 {c : Nat → List AV → SS → Option Out} {o : OId} {L2 : List (Nat × AV)} {St : List AV} {S : SS} : ev c 195 0 [some (aR o)] L2 St S = ev c 195 1 [some (aR o)] L2 (aR o :: St) S := ev_go i195_0 rfl
theorem i195_1 : insAt 195 1 = some (.getfield 79, 3, (1, 3, 0, 0), 302) := rfl
theorem s195_1 {c : Nat → List AV → SS → Option Out} {l0 : Option AV} {j t : Nat} {L2 : List (Nat × AV)} {St : List AV} {S : SS} : ev c 195 1 [l0] L2 (aR (1, j, t) :: St) S = ev c 195 4 [l0] L2 (aI (S.1 (1, j, t) 3) :: St) S := ev_go i195_1 rfl
theorem i195_4 : insAt 195 4 = some (.ireturn, 1, (0, 0, 0, 0), 0) := rfl
theorem s195_4 {c : Nat → List AV → SS → Option Out} {l0 : Option AV} {x : Int32} {L2 : List (Nat × AV)} {S : SS} : ev c 195 4 [l0] L2 [aI x] S = some (.inl (some (aI x)), S) := ev_end i195_4 rfl
theorem m195 {d : Nat} {o : OId} {S : SS} : evm (d + 1) 195 [aR o] S = ev (evm d) 195 0 [some (aR o)] [] [] S := evm_s (n := 1) rfl (Nat.le_of_ble_eq_true rfl) rfl rfl
/-! java/util/Arrays.copyOfRange([BII)[B -/
theorem i196_0 : insAt 196 0 = some (.iload_n 1, 1, (0, 0, 0, 0), 0) := rfl
theorem s196_0 {c : Nat → List AV → SS → Option Out} {l0 l2 : Option AV} {x : Int32} {L2 : List (Nat × AV)} {St : List AV} {S : SS} : ev c 196 0 [l0, some (aI x), l2] L2 St S = ev c 196 1 [l0, some (aI x), l2] L2 (aI x :: St) S := ev_go i196_0 rfl
theorem i196_1 : insAt 196 1 = some (.ifCond .ne 9, 3, (0, 0, 0, 0), 0) := rfl
theorem s196_1 {c : Nat → List AV → SS → Option Out} {l0 l1 l2 : Option AV} {x : Int32} {L2 : List (Nat × AV)} {St : List AV} {S : SS} : ev c 196 1 [l0, l1, l2] L2 (aI x :: St) S = if x = 0 then ev c 196 4 [l0, l1, l2] L2 St S else ev c 196 10 [l0, l1, l2] L2 St S := (ev_br i196_1 rfl).trans (ite_not _ _ _)
theorem i196_4 : insAt 196 4 = some (.iload_n 2, 1, (0, 0, 0, 0), 0) := rfl
theorem s196_4 {c : Nat → List AV → SS → Option Out} {l0 l1 : Option AV} {x : Int32} {L2 : List (Nat × AV)} {St : List AV} {S : SS} : ev c 196 4 [l0, l1, some (aI x)] L2 St S = ev c 196 5 [l0, l1, some (aI x)] L2 (aI x :: St) S := ev_go i196_4 rfl
theorem i196_5 : insAt 196 5 = some (.aload_n 0, 1, (0, 0, 0, 0), 0) := rfl
theorem s196_5 {c : Nat → List AV → SS → Option Out} {l1 l2 : Option AV} {o : OId} {L2 : List (Nat × AV)} {St : List AV} {S : SS} : ev c 196 5 [some (aR o), l1, l2] L2 St S = ev c 196 6 [some (aR o), l1, l2] L2 (aR o :: St) S := ev_go i196_5 rfl
theorem i196_6 : insAt 196 6 = some (.arraylength, 1, (0, 0, 0, 0), 0) := rfl
theorem s196_6 {c : Nat → List AV → SS → Option Out} {l0 l1 l2 : Option AV} {o : OId} {L2 : List (Nat × AV)} {St : List AV} {S : SS} : ev c 196 6 [l0, l1, l2] L2 (aR o :: St) S = kN o (fun x => ev c 196 7 [l0, l1, l2] L2 (aI x :: St) S) := ev_alen i196_6
theorem i196_7 : insAt 196 7 = some (.if_icmp .eq 10, 3, (0, 0, 0, 0), 0) := rfl
theorem s196_7 {c : Nat → List AV → SS → Option Out} {l0 l1 l2 : Option AV} {x y : Int32} {L2 : List (Nat × AV)} {St : List AV} {S : SS} : ev c 196 7 [l0, l1, l2] L2 (aI y :: aI x :: St) S = if x = y then ev c 196 17 [l0, l1, l2] L2 St S else ev c 196 10 [l0, l1, l2] L2 St S := ev_br i196_7 rfl
theorem i196_10 : insAt 196 10 = some (.aload_n 0, 1, (0, 0, 0, 0), 0) := rfl
theorem s196_10 {c : Nat → List AV → SS → Option Out} {l1 l2 : Option AV} {o : OId} {L2 : List (Nat × AV)} {St : List AV} {S : SS} : ev c 196 10 [some (aR o), l1, l2] L2 St S = ev c 196 11 [some (aR o), l1, l2] L2 (aR o :: St) S := ev_go i196_10 rfl
theorem i196_11 : insAt 196 11 = some (.iload_n 1, 1, (0, 0, 0, 0), 0) := rfl
theorem s196_11 {c : Nat → List AV → SS → Option Out} {l0 l2 : Option AV} {x : Int32} {L2 : List (Nat × AV)} {St : List AV} {S : SS} : ev c 196 11 [l0, some (aI x), l2] L2 St S = ev c 196 12 [l0, some (aI x), l2] L2 (aI x :: St) S := ev_go i196_11 rfl
theorem i196_12 : insAt 196 12 = some (.iload_n 2, 1, (0, 0, 0, 0), 0) := rfl
theorem s196_12 {c : Nat → List AV → SS → Option Out} {l0 l1 : Option AV} {x : Int32} {L2 : List (Nat × AV)} {St : List AV} {S : SS} : ev c 196 12 [l0, l1, some (aI x)] L2 St S = ev c 196 13 [l0, l1, some (aI x)] L2 (aI x :: St) S := ev_go i196_12 rfl
theorem i196_13 : insAt 196 13 = some (.invokestatic 339, 3, (197, 3, 0, 0), 341) := rfl
theorem s196_13 {c : Nat → List AV → SS → Option Out} {l0 l1 l2 : Option AV} {a0 : OId} {a1 : Int32} {a2 : Int32} {L2 : List (Nat × AV)} {S : SS} : ev c 196 13 [l0, l1, l2] L2 [aI a2, aI a1, aR a0] S = ck (c 197 [aR a0, aI a1, aI a2] S) (fun v S' => ev c 196 16 [l0, l1, l2] L2 (v.toList ++ []) S') := ev_call i196_13 rfl
theorem i196_16 : insAt 196 16 = some (.areturn, 1, (0, 0, 0, 0), 0) := rfl
theorem s196_16 {c : Nat → List AV → SS → Option Out} {l0 l1 l2 : Option AV} {o : OId} {L2 : List (Nat × AV)} {S : SS} : ev c 196 16 [l0, l1, l2] L2 [aR o] S = some (.inl (some (aR o)), S) := ev_end i196_16 rfl
theorem s196_16N {c : Nat → List AV → SS → Option Out} {l0 l1 l2 : Option AV} {L2 : List (Nat × AV)} {S : SS} : ev c 196 16 [l0, l1, l2] L2 [aN] S = some (.inl (some aN), S) := ev_end i196_16 rfl
theorem i196_17 : insAt 196 17 = some (.aload_n 0, 1, (0, 0, 0, 0), 0) := rfl
theorem s196_17 {c : Nat → List AV → SS → Option Out} {l1 l2 : Option AV} {o : OId} {L2 : List (Nat × AV)} {St : List AV} {S : SS} : ev c 196 17 [some (aR o), l1, l2] L2 St S = ev c 196 18 [some (aR o), l1, l2] L2 (aR o :: St) S := ev_go i196_17 rfl
theorem i196_18 : insAt 196 18 = some (.invokevirtual 310, 3, (0, 0, 22, 0), 314) := rfl
theorem i196_21 : insAt 196 21 = some (.checkcast 311, 3, (0, 0, 0, 0), 315) := rfl
theorem i196_24 : insAt 196 24 = some (.areturn, 1, (0, 0, 0, 0), 0) := rfl
theorem s196_24 {c : Nat → List AV → SS → Option Out} {l0 l1 l2 : Option AV} {o : OId} {L2 : List (Nat × AV)} {S : SS} : ev c 196 24 [l0, l1, l2] L2 [aR o] S = some (.inl (some (aR o)), S) := ev_end i196_24 rfl
theorem s196_24N {c : Nat → List AV → SS → Option Out} {l0 l1 l2 : Option AV} {L2 : List (Nat × AV)} {S : SS} : ev c 196 24 [l0, l1, l2] L2 [aN] S = some (.inl (some aN), S) := ev_end i196_24 rfl
theorem m196 {d : Nat} {a0 : OId} {a1 : Int32} {a2 : Int32} {S : SS} : evm (d + 1) 196 [aR a0, aI a1, aI a2] S = ev (evm d) 196 0 [some (aR a0), some (aI a1), some (aI a2)] [] [] S := evm_s (n := 3) rfl (Nat.le_of_ble_eq_true rfl) rfl rfl
/-! java/util/Arrays.copyOfRangeByte([BII)[B -/
theorem i197_0 : insAt 197 0 = some (.iload_n 1, 1, (0, 0, 0, 0), 0) := rfl
theorem s197_0 {c : Nat → List AV → SS → Option Out} {l0 l2 l3 l4 : Option AV} {x : Int32} {L2 : List (Nat × AV)} {St : List AV} {S : SS} : ev c 197 0 [l0, some (aI x), l2, l3, l4] L2 St S = ev c 197 1 [l0, some (aI x), l2, l3, l4] L2 (aI x :: St) S := ev_go i197_0 rfl
theorem i197_1 : insAt 197 1 = some (.iload_n 2, 1, (0, 0, 0, 0), 0) := rfl
theorem s197_1 {c : Nat → List AV → SS → Option Out} {l0 l1 l3 l4 : Option AV} {x : Int32} {L2 : List (Nat × AV)} {St : List AV} {S : SS} : ev c 197 1 [l0, l1, some (aI x), l3, l4] L2 St S = ev c 197 2 [l0, l1, some (aI x), l3, l4] L2 (aI x :: St) S := ev_go i197_1 rfl
theorem i197_2 : insAt 197 2 = some (.invokestatic 343, 3, (198, 2, 0, 0), 342) := rfl
theorem s197_2 {c : Nat → List AV → SS → Option Out} {l0 l1 l2 l3 l4 : Option AV} {a0 : Int32} {a1 : Int32} {L2 : List (Nat × AV)} {S : SS} : ev c 197 2 [l0, l1, l2, l3, l4] L2 [aI a1, aI a0] S = ck (c 198 [aI a0, aI a1] S) (fun v S' => ev c 197 5 [l0, l1, l2, l3, l4] L2 (v.toList ++ []) S') := ev_call i197_2 rfl
theorem i197_5 : insAt 197 5 = some (.iload_n 2, 1, (0, 0, 0, 0), 0) := rfl
theorem s197_5 {c : Nat → List AV → SS → Option Out} {l0 l1 l3 l4 : Option AV} {x : Int32} {L2 : List (Nat × AV)} {St : List AV} {S : SS} : ev c 197 5 [l0, l1, some (aI x), l3, l4] L2 St S = ev c 197 6 [l0, l1, some (aI x), l3, l4] L2 (aI x :: St) S := ev_go i197_5 rfl
theorem i197_6 : insAt 197 6 = some (.iload_n 1, 1, (0, 0, 0, 0), 0) := rfl
theorem s197_6 {c : Nat → List AV → SS → Option Out} {l0 l2 l3 l4 : Option AV} {x : Int32} {L2 : List (Nat × AV)} {St : List AV} {S : SS} : ev c 197 6 [l0, some (aI x), l2, l3, l4] L2 St S = ev c 197 7 [l0, some (aI x), l2, l3, l4] L2 (aI x :: St) S := ev_go i197_6 rfl
theorem i197_7 : insAt 197 7 = some (.isub, 1, (0, 0, 0, 0), 0) := rfl
theorem s197_7 {c : Nat → List AV → SS → Option Out} {l0 l1 l2 l3 l4 : Option AV} {x y : Int32} {L2 : List (Nat × AV)} {St : List AV} {S : SS} : ev c 197 7 [l0, l1, l2, l3, l4] L2 (aI y :: aI x :: St) S = ev c 197 8 [l0, l1, l2, l3, l4] L2 (aI (x - y) :: St) S := ev_go i197_7 rfl
theorem i197_8 : insAt 197 8 = some (.istore_n 3, 1, (0, 0, 0, 0), 0) := rfl
theorem s197_8 {c : Nat → List AV → SS → Option Out} {l0 l1 l2 l3 l4 : Option AV} {x : Int32} {L2 : List (Nat × AV)} {St : List AV} {S : SS} : ev c 197 8 [l0, l1, l2, l3, l4] L2 (aI x :: St) S = ev c 197 9 [l0, l1, l2, some (aI x), l4] (kil L2 3) St S := ev_go i197_8 rfl
theorem i197_9 : insAt 197 9 = some (.iload_n 3, 1, (0, 0, 0, 0), 0) := rfl
theorem s197_9 {c : Nat → List AV → SS → Option Out} {l0 l1 l2 l4 : Option AV} {x : Int32} {L2 : List (Nat × AV)} {St : List AV} {S : SS} : ev c 197 9 [l0, l1, l2, some (aI x), l4] L2 St S = ev c 197 10 [l0, l1, l2, some (aI x), l4] L2 (aI x :: St) S := ev_go i197_9 rfl
theorem i197_10 : insAt 197 10 = some (.newarray .byte, 2, (0, 0, 0, 0), 0) := rfl
theorem i197_12 : insAt 197 12 = some (.astore 4, 2, (0, 0, 0, 0), 0) := rfl
theorem s197_12 {c : Nat → List AV → SS → Option Out} {l0 l1 l2 l3 l4 : Option AV} {o : OId} {L2 : List (Nat × AV)} {St : List AV} {S : SS} : ev c 197 12 [l0, l1, l2, l3, l4] L2 (aR o :: St) S = ev c 197 14 [l0, l1, l2, l3, some (aR o)] (kil L2 4) St S := ev_go i197_12 rfl
theorem i197_14 : insAt 197 14 = some (.aload_n 0, 1, (0, 0, 0, 0), 0) := rfl
theorem s197_14 {c : Nat → List AV → SS → Option Out} {l1 l2 l3 l4 : Option AV} {o : OId} {L2 : List (Nat × AV)} {St : List AV} {S : SS} : ev c 197 14 [some (aR o), l1, l2, l3, l4] L2 St S = ev c 197 15 [some (aR o), l1, l2, l3, l4] L2 (aR o :: St) S := ev_go i197_14 rfl
theorem i197_15 : insAt 197 15 = some (.iload_n 1, 1, (0, 0, 0, 0), 0) := rfl
theorem s197_15 {c : Nat → List AV → SS → Option Out} {l0 l2 l3 l4 : Option AV} {x : Int32} {L2 : List (Nat × AV)} {St : List AV} {S : SS} : ev c 197 15 [l0, some (aI x), l2, l3, l4] L2 St S = ev c 197 16 [l0, some (aI x), l2, l3, l4] L2 (aI x :: St) S := ev_go i197_15 rfl
theorem i197_16 : insAt 197 16 = some (.aload 4, 2, (0, 0, 0, 0), 0) := rfl
theorem s197_16 {c : Nat → List AV → SS → Option Out} {l0 l1 l2 l3 : Option AV} {o : OId} {L2 : List (Nat × AV)} {St : List AV} {S : SS} : ev c 197 16 [l0, l1, l2, l3, some (aR o)] L2 St S = ev c 197 18 [l0, l1, l2, l3, some (aR o)] L2 (aR o :: St) S := ev_go i197_16 rfl
theorem i197_18 : insAt 197 18 = some (.iconst 0, 1, (0, 0, 0, 0), 0) := rfl
theorem s197_18 {c : Nat → List AV → SS → Option Out} {l0 l1 l2 l3 l4 : Option AV} {L2 : List (Nat × AV)} {St : List AV} {S : SS} : ev c 197 18 [l0, l1, l2, l3, l4] L2 St S = ev c 197 19 [l0, l1, l2, l3, l4] L2 (aI 0 :: St) S := ev_go i197_18 rfl
theorem i197_19 : insAt 197 19 = some (.aload_n 0, 1, (0, 0, 0, 0), 0) := rfl
theorem s197_19 {c : Nat → List AV → SS → Option Out} {l1 l2 l3 l4 : Option AV} {o : OId} {L2 : List (Nat × AV)} {St : List AV} {S : SS} : ev c 197 19 [some (aR o), l1, l2, l3, l4] L2 St S = ev c 197 20 [some (aR o), l1, l2, l3, l4] L2 (aR o :: St) S := ev_go i197_19 rfl
theorem i197_20 : insAt 197 20 = some (.arraylength, 1, (0, 0, 0, 0), 0) := rfl
theorem s197_20 {c : Nat → List AV → SS → Option Out} {l0 l1 l2 l3 l4 : Option AV} {o : OId} {L2 : List (Nat × AV)} {St : List AV} {S : SS} : ev c 197 20 [l0, l1, l2, l3, l4] L2 (aR o :: St) S = kN o (fun x => ev c 197 21 [l0, l1, l2, l3, l4] L2 (aI x :: St) S) := ev_alen i197_20
theorem i197_21 : insAt 197 21 = some (.iload_n 1, 1, (0, 0, 0, 0), 0) := rfl
theorem s197_21 {c : Nat → List AV → SS → Option Out} {l0 l2 l3 l4 : Option AV} {x : Int32} {L2 : List (Nat × AV)} {St : List AV} {S : SS} : ev c 197 21 [l0, some (aI x), l2, l3, l4] L2 St S = ev c 197 22 [l0, some (aI x), l2, l3, l4] L2 (aI x :: St) S := ev_go i197_21 rfl
theorem i197_22 : insAt 197 22 = some (.isub, 1, (0, 0, 0, 0), 0) := rfl
theorem s197_22 {c : Nat → List AV → SS → Option Out} {l0 l1 l2 l3 l4 : Option AV} {x y : Int32} {L2 : List (Nat × AV)} {St : List AV} {S : SS} : ev c 197 22 [l0, l1, l2, l3, l4] L2 (aI y :: aI x :: St) S = ev c 197 23 [l0, l1, l2, l3, l4] L2 (aI (x - y) :: St) S := ev_go i197_22 rfl
theorem i197_23 : insAt 197 23 = some (.iload_n 3, 1, (0, 0, 0, 0), 0) := rfl
theorem s197_23 {c : Nat → List AV → SS → Option Out} {l0 l1 l2 l4 : Option AV} {x : Int32} {L2 : List (Nat × AV)} {St : List AV} {S : SS} : ev c 197 23 [l0, l1, l2, some (aI x), l4] L2 St S = ev c 197 24 [l0, l1, l2, some (aI x), l4] L2 (aI x :: St) S := ev_go i197_23 rfl
theorem i197_24 : insAt 197 24 = some (.invokestatic 304, 3, (0, 2, 24, 0), 316) := rfl
theorem s197_24 {c : Nat → List AV → SS → Option Out} {l0 l1 l2 l3 l4 : Option AV} {t0 t1 t2 t3 : AV} {x y : Int32} {L2 : List (Nat × AV)} {S : SS} : ev c 197 24 [l0, l1, l2, l3, l4] L2 [aI y, aI x, t0, t1, t2, t3] S = ev c 197 27 [l0, l1, l2, l3, l4] L2 [aI (if y < x then y else x), t0, t1, t2, t3] S := ev_go i197_24 rfl
theorem i197_27 : insAt 197 27 = some (.invokestatic 150, 3, (0, 5, 21, 0), 317) := rfl
theorem s197_27 {c : Nat → List AV → SS → Option Out} {l0 l1 l2 l3 l4 : Option AV} {x dp sp : Int32} {d s : OId} {L2 : List (Nat × AV)} {S : SS} : ev c 197 27 [l0, l1, l2, l3, l4] L2 [aI x, aI dp, aR d, aI sp, aR s] S = kA (acp S s sp d dp x) (fun S' => ev c 197 30 [l0, l1, l2, l3, l4] L2 [] S') := ev_acopy rfl i197_27 (by decide)
theorem i197_30 : insAt 197 30 = some (.aload 4, 2, (0, 0, 0, 0), 0) := rfl
theorem s197_30 {c : Nat → List AV → SS → Option Out} {l0 l1 l2 l3 : Option AV} {o : OId} {L2 : List (Nat × AV)} {St : List AV} {S : SS} : ev c 197 30 [l0, l1, l2, l3, some (aR o)] L2 St S = ev c 197 32 [l0, l1, l2, l3, some (aR o)] L2 (aR o :: St) S := ev_go i197_30 rfl
theorem i197_32 : insAt 197 32 = some (.areturn, 1, (0, 0, 0, 0), 0) := rfl
theorem s197_32 {c : Nat → List AV → SS → Option Out} {l0 l1 l2 l3 l4 : Option AV} {o : OId} {L2 : List (Nat × AV)} {S : SS} : ev c 197 32 [l0, l1, l2, l3, l4] L2 [aR o] S = some (.inl (some (aR o)), S) := ev_end i197_32 rfl
theorem s197_32N {c : Nat → List AV → SS → Option Out} {l0 l1 l2 l3 l4 : Option AV} {L2 : List (Nat × AV)} {S : SS} : ev c 197 32 [l0, l1, l2, l3, l4] L2 [aN] S = some (.inl (some aN), S) := ev_end i197_32 rfl
theorem m197 {d : Nat} {a0 : OId} {a1 : Int32} {a2 : Int32} {S : SS} : evm (d + 1) 197 [aR a0, aI a1, aI a2] S = ev (evm d) 197 0 [some (aR a0), some (aI a1), some (aI a2), none, none] [] [] S := evm_s (n := 5) rfl (Nat.le_of_ble_eq_true rfl) rfl rfl
/-! java/util/Arrays.checkLength(II)V -/
theorem i198_0 : insAt 198 0 = some (.iload_n 1, 1, (0, 0, 0, 0), 0) := rfl
theorem s198_0 {c : Nat → List AV → SS → Option Out} {l0 : Option AV} {x : Int32} {L2 : List (Nat × AV)} {St : List AV} {S : SS} : ev c 198 0 [l0, some (aI x)] L2 St S = ev c 198 1 [l0, some (aI x)] L2 (aI x :: St) S := ev_go i198_0 rfl
theorem i198_1 : insAt 198 1 = some (.iload_n 0, 1, (0, 0, 0, 0), 0) := rfl
theorem s198_1 {c : Nat → List AV → SS → Option Out} {l1 : Option AV} {x : Int32} {L2 : List (Nat × AV)} {St : List AV} {S : SS} : ev c 198 1 [some (aI x), l1] L2 St S = ev c 198 2 [some (aI x), l1] L2 (aI x :: St) S := ev_go i198_1 rfl
theorem i198_2 : insAt 198 2 = some (.if_icmp .ge 35, 3, (0, 0, 0, 0), 0) := rfl
theorem s198_2 {c : Nat → List AV → SS → Option Out} {l0 l1 : Option AV} {x y : Int32} {L2 : List (Nat × AV)} {St : List AV} {S : SS} : ev c 198 2 [l0, l1] L2 (aI y :: aI x :: St) S = if y ≤ x then ev c 198 37 [l0, l1] L2 St S else ev c 198 5 [l0, l1] L2 St S := ev_br i198_2 rfl
theorem i198_5 : insAt 198 5 = some (.new 43, 3, (9, 9, 9, 9), 343) := rfl
theorem i198_8 : insAt 198 8 = some (.dup, 1, (0, 0, 0, 0), 0) := rfl
theorem s198_8 {c : Nat → List AV → SS → Option Out} {l0 l1 : Option AV} {x : OId} {L2 : List (Nat × AV)} {St : List AV} {S : SS} : ev c 198 8 [l0, l1] L2 (aR x :: St) S = ev c 198 9 [l0, l1] L2 (aR x :: aR x :: St) S := ev_go i198_8 rfl
theorem i198_9 : insAt 198 9 = some (.new 45, 3, (1, 0, 0, 0), 344) := rfl
theorem i198_12 : insAt 198 12 = some (.dup, 1, (0, 0, 0, 0), 0) := rfl
theorem s198_12 {c : Nat → List AV → SS → Option Out} {l0 l1 : Option AV} {x : OId} {L2 : List (Nat × AV)} {St : List AV} {S : SS} : ev c 198 12 [l0, l1] L2 (aR x :: St) S = ev c 198 13 [l0, l1] L2 (aR x :: aR x :: St) S := ev_go i198_12 rfl
theorem i198_13 : insAt 198 13 = some (.invokespecial 47, 3, (8, 0, 5, 1), 345) := rfl
theorem s198_13 {c : Nat → List AV → SS → Option Out} {l0 l1 : Option AV} {t0 t1 t2 : AV} {j t : Nat} {L2 : List (Nat × AV)} {S : SS} : ev c 198 13 [l0, l1] L2 [aR (1, j, t), t0, t1, t2] S = ck (c 8 [aR (1, j, t)] S) (fun v S' => ev c 198 16 [l0, l1] L2 (v.toList ++ [t0, t1, t2]) S') := ev_call i198_13 rfl
theorem i198_16 : insAt 198 16 = some (.iload_n 0, 1, (0, 0, 0, 0), 0) := rfl
theorem s198_16 {c : Nat → List AV → SS → Option Out} {l1 : Option AV} {x : Int32} {L2 : List (Nat × AV)} {St : List AV} {S : SS} : ev c 198 16 [some (aI x), l1] L2 St S = ev c 198 17 [some (aI x), l1] L2 (aI x :: St) S := ev_go i198_16 rfl
theorem i198_17 : insAt 198 17 = some (.invokevirtual 54, 3, (186, 1, 2, 1), 346) := rfl
theorem s198_17 {c : Nat → List AV → SS → Option Out} {l0 l1 : Option AV} {t0 t1 : AV} {a0 : Int32} {j t : Nat} {L2 : List (Nat × AV)} {S : SS} : ev c 198 17 [l0, l1] L2 [aI a0, aR (1, j, t), t0, t1] S = ck (c 186 [aR (1, j, t), aI a0] S) (fun v S' => ev c 198 20 [l0, l1] L2 (v.toList ++ [t0, t1]) S') := ev_call i198_17 rfl
theorem i198_23 : insAt 198 23 = some (.invokevirtual 50, 3, (174, 1, 2, 1), 347) := rfl
theorem s198_23 {c : Nat → List AV → SS → Option Out} {l0 l1 : Option AV} {t0 t1 : AV} {a0 : OId} {j t : Nat} {L2 : List (Nat × AV)} {S : SS} : ev c 198 23 [l0, l1] L2 [aR a0, aR (1, j, t), t0, t1] S = ck (c 174 [aR (1, j, t), aR a0] S) (fun v S' => ev c 198 26 [l0, l1] L2 (v.toList ++ [t0, t1]) S') := ev_call i198_23 rfl
theorem i198_26 : insAt 198 26 = some (.iload_n 1, 1, (0, 0, 0, 0), 0) := rfl
theorem s198_26 {c : Nat → List AV → SS → Option Out} {l0 : Option AV} {x : Int32} {L2 : List (Nat × AV)} {St : List AV} {S : SS} : ev c 198 26 [l0, some (aI x)] L2 St S = ev c 198 27 [l0, some (aI x)] L2 (aI x :: St) S := ev_go i198_26 rfl
theorem i198_27 : insAt 198 27 = some (.invokevirtual 54, 3, (186, 1, 2, 1), 346) := rfl
theorem s198_27 {c : Nat → List AV → SS → Option Out} {l0 l1 : Option AV} {t0 t1 : AV} {a0 : Int32} {j t : Nat} {L2 : List (Nat × AV)} {S : SS} : ev c 198 27 [l0, l1] L2 [aI a0, aR (1, j, t), t0, t1] S = ck (c 186 [aR (1, j, t), aI a0] S) (fun v S' => ev c 198 30 [l0, l1] L2 (v.toList ++ [t0, t1]) S') := ev_call i198_27 rfl
theorem i198_30 : insAt 198 30 = some (.invokevirtual 61, 3, (190, 0, 2, 1), 348) := rfl
theorem s198_30 {c : Nat → List AV → SS → Option Out} {l0 l1 : Option AV} {t0 t1 : AV} {j t : Nat} {L2 : List (Nat × AV)} {S : SS} : ev c 198 30 [l0, l1] L2 [aR (1, j, t), t0, t1] S = ck (c 190 [aR (1, j, t)] S) (fun v S' => ev c 198 33 [l0, l1] L2 (v.toList ++ [t0, t1]) S') := ev_call i198_30 rfl
theorem i198_37 : insAt 198 37 = some (.return_, 1, (0, 0, 0, 0), 0) := rfl
theorem s198_37 {c : Nat → List AV → SS → Option Out} {l0 l1 : Option AV} {L2 : List (Nat × AV)} {S : SS} : ev c 198 37 [l0, l1] L2 [] S = some (.inl none, S) := ev_end i198_37 rfl
theorem m198 {d : Nat} {a0 : Int32} {a1 : Int32} {S : SS} : evm (d + 1) 198 [aI a0, aI a1] S = ev (evm d) 198 0 [some (aI a0), some (aI a1)] [] [] S := evm_s (n := 2) rfl (Nat.le_of_ble_eq_true rfl) rfl rfl
/-! java/lang/StringBuilder.append(C)Ljava/lang/StringBuilder; -/
theorem i199_0 : insAt 199 0 = some (.aload_n 0, 1, (0, 0, 0, 0), 0) := rfl
theorem s199_0 {c : Nat → List AV → SS → Option Out} {l1 : Option AV} {o : OId} {L2 : List (Nat × AV)} {St : List AV} {S : SS} : ev c 199 0 [some (aR o), l1] L2 St S = ev c 199 1 [some (aR o), l1] L2 (aR o :: St) S := ev_go i199_0 rfl
theorem i199_1 : insAt 199 1 = some (.iload_n 1, 1, (0, 0, 0, 0), 0) := rfl
theorem s199_1 {c : Nat → List AV → SS → Option Out} {l0 : Option AV} {x : Int32} {L2 : List (Nat × AV)} {St : List AV} {S : SS} : ev c 199 1 [l0, some (aI x)] L2 St S = ev c 199 2 [l0, some (aI x)] L2 (aI x :: St) S := ev_go i199_1 rfl
theorem i199_2 : insAt 199 2 = some (.invokespecial 50, 3, (200, 1, 7, 1), 349) := rfl
theorem s199_2 {c : Nat → List AV → SS → Option Out} {l0 l1 : Option AV} {a0 : Int32} {j t : Nat} {L2 : List (Nat × AV)} {S : SS} : ev c 199 2 [l0, l1] L2 [aI a0, aR (1, j, t)] S = ck (c 200 [aR (1, j, t), aI a0] S) (fun v S' => ev c 199 5 [l0, l1] L2 (v.toList ++ []) S') := ev_call i199_2 rfl
theorem i199_5 : insAt 199 5 = some (.pop, 1, (0, 0, 0, 0), 0) := rfl
theorem s199_5 {c : Nat → List AV → SS → Option Out} {l0 l1 : Option AV} {x : OId} {L2 : List (Nat × AV)} {St : List AV} {S : SS} : ev c 199 5 [l0, l1] L2 (aR x :: St) S = ev c 199 6 [l0, l1] L2 (St) S := ev_go i199_5 rfl
theorem i199_6 : insAt 199 6 = some (.aload_n 0, 1, (0, 0, 0, 0), 0) := rfl
theorem s199_6 {c : Nat → List AV → SS → Option Out} {l1 : Option AV} {o : OId} {L2 : List (Nat × AV)} {St : List AV} {S : SS} : ev c 199 6 [some (aR o), l1] L2 St S = ev c 199 7 [some (aR o), l1] L2 (aR o :: St) S := ev_go i199_6 rfl
theorem i199_7 : insAt 199 7 = some (.areturn, 1, (0, 0, 0, 0), 0) := rfl
theorem s199_7 {c : Nat → List AV → SS → Option Out} {l0 l1 : Option AV} {o : OId} {L2 : List (Nat × AV)} {S : SS} : ev c 199 7 [l0, l1] L2 [aR o] S = some (.inl (some (aR o)), S) := ev_end i199_7 rfl
theorem s199_7N {c : Nat → List AV → SS → Option Out} {l0 l1 : Option AV} {L2 : List (Nat × AV)} {S : SS} : ev c 199 7 [l0, l1] L2 [aN] S = some (.inl (some aN), S) := ev_end i199_7 rfl
theorem m199 {d : Nat} {o : OId} {a0 : Int32} {S : SS} : evm (d + 1) 199 [aR o, aI a0] S = ev (evm d) 199 0 [some (aR o), some (aI a0)] [] [] S := evm_s (n := 2) rfl (Nat.le_of_ble_eq_true rfl) rfl rfl
/-! java/lang/AbstractStringBuilder.append(C)Ljava/lang/AbstractStringBuilder; -/
theorem i200_0 : insAt 200 0 = some (.aload_n 0, 1, (0, 0, 0, 0), 0) := rfl
theorem s200_0 {c : Nat → List AV → SS → Option Out} {l1 : Option AV} {o : OId} {L2 : List (Nat × AV)} {St : List AV} {S : SS} : ev c 200 0 [some (aR o), l1] L2 St S = ev c 200 1 [some (aR o), l1] L2 (aR o :: St) S := ev_go i200_0 rfl
theorem i200_1 : insAt 200 1 = some (.aload_n 0, 1, (0, 0, 0, 0), 0) := rfl
theorem s200_1 {c : Nat → List AV → SS → Option Out} {l1 : Option AV} {o : OId} {L2 : List (Nat × AV)} {St : List AV} {S : SS} : ev c 200 1 [some (aR o), l1] L2 St S = ev c 200 2 [some (aR o), l1] L2 (aR o :: St) S := ev_go i200_1 rfl
theorem i200_2 : insAt 200 2 = some (.getfield 79, 3, (1, 3, 0, 0), 302) := rfl
theorem s200_2 {c : Nat → List AV → SS → Option Out} {l0 l1 : Option AV} {j t : Nat} {L2 : List (Nat × AV)} {St : List AV} {S : SS} : ev c 200 2 [l0, l1] L2 (aR (1, j, t) :: St) S = ev c 200 5 [l0, l1] L2 (aI (S.1 (1, j, t) 3) :: St) S := ev_go i200_2 rfl
theorem i200_5 : insAt 200 5 = some (.iconst 1, 1, (0, 0, 0, 0), 0) := rfl
theorem s200_5 {c : Nat → List AV → SS → Option Out} {l0 l1 : Option AV} {L2 : List (Nat × AV)} {St : List AV} {S : SS} : ev c 200 5 [l0, l1] L2 St S = ev c 200 6 [l0, l1] L2 (aI 1 :: St) S := ev_go i200_5 rfl
theorem i200_6 : insAt 200 6 = some (.iadd, 1, (0, 0, 0, 0), 0) := rfl
theorem s200_6 {c : Nat → List AV → SS → Option Out} {l0 l1 : Option AV} {x y : Int32} {L2 : List (Nat × AV)} {St : List AV} {S : SS} : ev c 200 6 [l0, l1] L2 (aI y :: aI x :: St) S = ev c 200 7 [l0, l1] L2 (aI (x + y) :: St) S := ev_go i200_6 rfl
theorem i200_7 : insAt 200 7 = some (.invokevirtual 100, 3, (176, 1, 4, 1), 301) := rfl
theorem s200_7 {c : Nat → List AV → SS → Option Out} {l0 l1 : Option AV} {a0 : Int32} {j t : Nat} {L2 : List (Nat × AV)} {S : SS} : ev c 200 7 [l0, l1] L2 [aI a0, aR (1, j, t)] S = ck (c 176 [aR (1, j, t), aI a0] S) (fun v S' => ev c 200 10 [l0, l1] L2 (v.toList ++ []) S') := ev_call i200_7 rfl
theorem i200_10 : insAt 200 10 = some (.aload_n 0, 1, (0, 0, 0, 0), 0) := rfl
theorem s200_10 {c : Nat → List AV → SS → Option Out} {l1 : Option AV} {o : OId} {L2 : List (Nat × AV)} {St : List AV} {S : SS} : ev c 200 10 [some (aR o), l1] L2 St S = ev c 200 11 [some (aR o), l1] L2 (aR o :: St) S := ev_go i200_10 rfl
theorem i200_11 : insAt 200 11 = some (.invokevirtual 83, 3, (180, 0, 4, 1), 303) := rfl
theorem s200_11 {c : Nat → List AV → SS → Option Out} {l0 l1 : Option AV} {j t : Nat} {L2 : List (Nat × AV)} {S : SS} : ev c 200 11 [l0, l1] L2 [aR (1, j, t)] S = ck (c 180 [aR (1, j, t)] S) (fun v S' => ev c 200 14 [l0, l1] L2 (v.toList ++ []) S') := ev_call i200_11 rfl
theorem i200_14 : insAt 200 14 = some (.ifCond .eq 31, 3, (0, 0, 0, 0), 0) := rfl
theorem s200_14 {c : Nat → List AV → SS → Option Out} {l0 l1 : Option AV} {x : Int32} {L2 : List (Nat × AV)} {St : List AV} {S : SS} : ev c 200 14 [l0, l1] L2 (aI x :: St) S = if x = 0 then ev c 200 45 [l0, l1] L2 St S else ev c 200 17 [l0, l1] L2 St S := ev_br i200_14 rfl
theorem i200_17 : insAt 200 17 = some (.iload_n 1, 1, (0, 0, 0, 0), 0) := rfl
theorem s200_17 {c : Nat → List AV → SS → Option Out} {l0 : Option AV} {x : Int32} {L2 : List (Nat × AV)} {St : List AV} {S : SS} : ev c 200 17 [l0, some (aI x)] L2 St S = ev c 200 18 [l0, some (aI x)] L2 (aI x :: St) S := ev_go i200_17 rfl
theorem i200_18 : insAt 200 18 = some (.invokestatic 191, 3, (201, 1, 0, 0), 350) := rfl
theorem s200_18 {c : Nat → List AV → SS → Option Out} {l0 l1 : Option AV} {a0 : Int32} {L2 : List (Nat × AV)} {S : SS} : ev c 200 18 [l0, l1] L2 [aI a0] S = ck (c 201 [aI a0] S) (fun v S' => ev c 200 21 [l0, l1] L2 (v.toList ++ []) S') := ev_call i200_18 rfl
theorem i200_21 : insAt 200 21 = some (.ifCond .eq 24, 3, (0, 0, 0, 0), 0) := rfl
theorem s200_21 {c : Nat → List AV → SS → Option Out} {l0 l1 : Option AV} {x : Int32} {L2 : List (Nat × AV)} {St : List AV} {S : SS} : ev c 200 21 [l0, l1] L2 (aI x :: St) S = if x = 0 then ev c 200 45 [l0, l1] L2 St S else ev c 200 24 [l0, l1] L2 St S := ev_br i200_21 rfl
theorem i200_24 : insAt 200 24 = some (.aload_n 0, 1, (0, 0, 0, 0), 0) := rfl
theorem s200_24 {c : Nat → List AV → SS → Option Out} {l1 : Option AV} {o : OId} {L2 : List (Nat × AV)} {St : List AV} {S : SS} : ev c 200 24 [some (aR o), l1] L2 St S = ev c 200 25 [some (aR o), l1] L2 (aR o :: St) S := ev_go i200_24 rfl
theorem i200_25 : insAt 200 25 = some (.getfield 15, 3, (1, 0, 0, 0), 73) := rfl
theorem s200_25 {c : Nat → List AV → SS → Option Out} {l0 l1 : Option AV} {j t : Nat} {L2 : List (Nat × AV)} {St : List AV} {S : SS} : ev c 200 25 [l0, l1] L2 (aR (1, j, t) :: St) S = ev c 200 28 [l0, l1] L2 (S.2.1 (1, j, t) 0 :: St) S := ev_go i200_25 rfl
theorem i200_28 : insAt 200 28 = some (.aload_n 0, 1, (0, 0, 0, 0), 0) := rfl
theorem s200_28 {c : Nat → List AV → SS → Option Out} {l1 : Option AV} {o : OId} {L2 : List (Nat × AV)} {St : List AV} {S : SS} : ev c 200 28 [some (aR o), l1] L2 St S = ev c 200 29 [some (aR o), l1] L2 (aR o :: St) S := ev_go i200_28 rfl
theorem i200_29 : insAt 200 29 = some (.dup, 1, (0, 0, 0, 0), 0) := rfl
theorem s200_29 {c : Nat → List AV → SS → Option Out} {l0 l1 : Option AV} {x : OId} {L2 : List (Nat × AV)} {St : List AV} {S : SS} : ev c 200 29 [l0, l1] L2 (aR x :: St) S = ev c 200 30 [l0, l1] L2 (aR x :: aR x :: St) S := ev_go i200_29 rfl
theorem i200_30 : insAt 200 30 = some (.getfield 79, 3, (1, 3, 0, 0), 302) := rfl
theorem s200_30 {c : Nat → List AV → SS → Option Out} {l0 l1 : Option AV} {j t : Nat} {L2 : List (Nat × AV)} {St : List AV} {S : SS} : ev c 200 30 [l0, l1] L2 (aR (1, j, t) :: St) S = ev c 200 33 [l0, l1] L2 (aI (S.1 (1, j, t) 3) :: St) S := ev_go i200_30 rfl
theorem i200_33 : insAt 200 33 = some (.dup_x1, 1, (0, 0, 0, 0), 0) := rfl
theorem s200_33 {c : Nat → List AV → SS → Option Out} {l0 l1 : Option AV} {x : Int32} {y : OId} {L2 : List (Nat × AV)} {St : List AV} {S : SS} : ev c 200 33 [l0, l1] L2 (aI x :: aR y :: St) S = ev c 200 34 [l0, l1] L2 (aI x :: aR y :: aI x :: St) S := ev_go i200_33 rfl
theorem i200_34 : insAt 200 34 = some (.iconst 1, 1, (0, 0, 0, 0), 0) := rfl
theorem s200_34 {c : Nat → List AV → SS → Option Out} {l0 l1 : Option AV} {L2 : List (Nat × AV)} {St : List AV} {S : SS} : ev c 200 34 [l0, l1] L2 St S = ev c 200 35 [l0, l1] L2 (aI 1 :: St) S := ev_go i200_34 rfl
theorem i200_35 : insAt 200 35 = some (.iadd, 1, (0, 0, 0, 0), 0) := rfl
theorem s200_35 {c : Nat → List AV → SS → Option Out} {l0 l1 : Option AV} {x y : Int32} {L2 : List (Nat × AV)} {St : List AV} {S : SS} : ev c 200 35 [l0, l1] L2 (aI y :: aI x :: St) S = ev c 200 36 [l0, l1] L2 (aI (x + y) :: St) S := ev_go i200_35 rfl
theorem i200_36 : insAt 200 36 = some (.putfield 79, 3, (1, 3, 0, 0), 302) := rfl
theorem s200_36 {c : Nat → List AV → SS → Option Out} {l0 l1 : Option AV} {j t : Nat} {x : Int32} {L2 : List (Nat × AV)} {St : List AV} {S : SS} : ev c 200 36 [l0, l1] L2 (aI x :: aR (1, j, t) :: St) S = ev c 200 39 [l0, l1] L2 St (setI S.1 (1, j, t) 3 x, S.2) := ev_go i200_36 rfl
theorem i200_39 : insAt 200 39 = some (.iload_n 1, 1, (0, 0, 0, 0), 0) := rfl
theorem s200_39 {c : Nat → List AV → SS → Option Out} {l0 : Option AV} {x : Int32} {L2 : List (Nat × AV)} {St : List AV} {S : SS} : ev c 200 39 [l0, some (aI x)] L2 St S = ev c 200 40 [l0, some (aI x)] L2 (aI x :: St) S := ev_go i200_39 rfl
theorem i200_40 : insAt 200 40 = some (.i2b, 1, (0, 0, 0, 0), 0) := rfl
theorem s200_40 {c : Nat → List AV → SS → Option Out} {l0 l1 : Option AV} {x : Int32} {L2 : List (Nat × AV)} {St : List AV} {S : SS} : ev c 200 40 [l0, l1] L2 (aI x :: St) S = ev c 200 41 [l0, l1] L2 (aI (by8 x) :: St) S := ev_go i200_40 rfl
theorem i200_41 : insAt 200 41 = some (.bastore, 1, (0, 0, 0, 0), 0) := rfl
theorem s200_41 {c : Nat → List AV → SS → Option Out} {l0 l1 : Option AV} {x i : Int32} {o : OId} {L2 : List (Nat × AV)} {St : List AV} {S : SS} : ev c 200 41 [l0, l1] L2 (aI x :: aI i :: aR o :: St) S = kBw o i x (ev c 200 42 [l0, l1] L2 St (setI S.1 o i.toNatClampNeg x, S.2)) := ev_bastore i200_41
theorem i200_42 : insAt 200 42 = some (.goto 33, 3, (0, 0, 0, 0), 0) := rfl
theorem s200_42 {c : Nat → List AV → SS → Option Out} {l0 l1 : Option AV} {L2 : List (Nat × AV)} {St : List AV} {S : SS} : ev c 200 42 [l0, l1] L2 St S = ev c 200 75 [l0, l1] L2 St S := ev_go i200_42 rfl
theorem i200_45 : insAt 200 45 = some (.aload_n 0, 1, (0, 0, 0, 0), 0) := rfl
theorem s200_45 {c : Nat → List AV → SS → Option Out} {l1 : Option AV} {o : OId} {L2 : List (Nat × AV)} {St : List AV} {S : SS} : ev c 200 45 [some (aR o), l1] L2 St S = ev c 200 46 [some (aR o), l1] L2 (aR o :: St) S := ev_go i200_45 rfl
theorem i200_46 : insAt 200 46 = some (.invokevirtual 83, 3, (180, 0, 4, 1), 303) := rfl
theorem s200_46 {c : Nat → List AV → SS → Option Out} {l0 l1 : Option AV} {j t : Nat} {L2 : List (Nat × AV)} {S : SS} : ev c 200 46 [l0, l1] L2 [aR (1, j, t)] S = ck (c 180 [aR (1, j, t)] S) (fun v S' => ev c 200 49 [l0, l1] L2 (v.toList ++ []) S') := ev_call i200_46 rfl
theorem i200_49 : insAt 200 49 = some (.ifCond .eq 7, 3, (0, 0, 0, 0), 0) := rfl
theorem s200_49 {c : Nat → List AV → SS → Option Out} {l0 l1 : Option AV} {x : Int32} {L2 : List (Nat × AV)} {St : List AV} {S : SS} : ev c 200 49 [l0, l1] L2 (aI x :: St) S = if x = 0 then ev c 200 56 [l0, l1] L2 St S else ev c 200 52 [l0, l1] L2 St S := ev_br i200_49 rfl
theorem i200_52 : insAt 200 52 = some (.aload_n 0, 1, (0, 0, 0, 0), 0) := rfl
theorem s200_52 {c : Nat → List AV → SS → Option Out} {l1 : Option AV} {o : OId} {L2 : List (Nat × AV)} {St : List AV} {S : SS} : ev c 200 52 [some (aR o), l1] L2 St S = ev c 200 53 [some (aR o), l1] L2 (aR o :: St) S := ev_go i200_52 rfl
theorem i200_56 : insAt 200 56 = some (.aload_n 0, 1, (0, 0, 0, 0), 0) := rfl
theorem s200_56 {c : Nat → List AV → SS → Option Out} {l1 : Option AV} {o : OId} {L2 : List (Nat × AV)} {St : List AV} {S : SS} : ev c 200 56 [some (aR o), l1] L2 St S = ev c 200 57 [some (aR o), l1] L2 (aR o :: St) S := ev_go i200_56 rfl
theorem i200_57 : insAt 200 57 = some (.getfield 15, 3, (1, 0, 0, 0), 73) := rfl
theorem s200_57 {c : Nat → List AV → SS → Option Out} {l0 l1 : Option AV} {j t : Nat} {L2 : List (Nat × AV)} {St : List AV} {S : SS} : ev c 200 57 [l0, l1] L2 (aR (1, j, t) :: St) S = ev c 200 60 [l0, l1] L2 (S.2.1 (1, j, t) 0 :: St) S := ev_go i200_57 rfl
theorem i200_60 : insAt 200 60 = some (.aload_n 0, 1, (0, 0, 0, 0), 0) := rfl
theorem s200_60 {c : Nat → List AV → SS → Option Out} {l1 : Option AV} {o : OId} {L2 : List (Nat × AV)} {St : List AV} {S : SS} : ev c 200 60 [some (aR o), l1] L2 St S = ev c 200 61 [some (aR o), l1] L2 (aR o :: St) S := ev_go i200_60 rfl
theorem i200_61 : insAt 200 61 = some (.dup, 1, (0, 0, 0, 0), 0) := rfl
theorem s200_61 {c : Nat → List AV → SS → Option Out} {l0 l1 : Option AV} {x : OId} {L2 : List (Nat × AV)} {St : List AV} {S : SS} : ev c 200 61 [l0, l1] L2 (aR x :: St) S = ev c 200 62 [l0, l1] L2 (aR x :: aR x :: St) S := ev_go i200_61 rfl
theorem i200_62 : insAt 200 62 = some (.getfield 79, 3, (1, 3, 0, 0), 302) := rfl
theorem s200_62 {c : Nat → List AV → SS → Option Out} {l0 l1 : Option AV} {j t : Nat} {L2 : List (Nat × AV)} {St : List AV} {S : SS} : ev c 200 62 [l0, l1] L2 (aR (1, j, t) :: St) S = ev c 200 65 [l0, l1] L2 (aI (S.1 (1, j, t) 3) :: St) S := ev_go i200_62 rfl
theorem i200_65 : insAt 200 65 = some (.dup_x1, 1, (0, 0, 0, 0), 0) := rfl
theorem s200_65 {c : Nat → List AV → SS → Option Out} {l0 l1 : Option AV} {x : Int32} {y : OId} {L2 : List (Nat × AV)} {St : List AV} {S : SS} : ev c 200 65 [l0, l1] L2 (aI x :: aR y :: St) S = ev c 200 66 [l0, l1] L2 (aI x :: aR y :: aI x :: St) S := ev_go i200_65 rfl
theorem i200_66 : insAt 200 66 = some (.iconst 1, 1, (0, 0, 0, 0), 0) := rfl
theorem s200_66 {c : Nat → List AV → SS → Option Out} {l0 l1 : Option AV} {L2 : List (Nat × AV)} {St : List AV} {S : SS} : ev c 200 66 [l0, l1] L2 St S = ev c 200 67 [l0, l1] L2 (aI 1 :: St) S := ev_go i200_66 rfl
theorem i200_67 : insAt 200 67 = some (.iadd, 1, (0, 0, 0, 0), 0) := rfl
theorem s200_67 {c : Nat → List AV → SS → Option Out} {l0 l1 : Option AV} {x y : Int32} {L2 : List (Nat × AV)} {St : List AV} {S : SS} : ev c 200 67 [l0, l1] L2 (aI y :: aI x :: St) S = ev c 200 68 [l0, l1] L2 (aI (x + y) :: St) S := ev_go i200_67 rfl
theorem i200_68 : insAt 200 68 = some (.putfield 79, 3, (1, 3, 0, 0), 302) := rfl
theorem s200_68 {c : Nat → List AV → SS → Option Out} {l0 l1 : Option AV} {j t : Nat} {x : Int32} {L2 : List (Nat × AV)} {St : List AV} {S : SS} : ev c 200 68 [l0, l1] L2 (aI x :: aR (1, j, t) :: St) S = ev c 200 71 [l0, l1] L2 St (setI S.1 (1, j, t) 3 x, S.2) := ev_go i200_68 rfl
theorem i200_71 : insAt 200 71 = some (.iload_n 1, 1, (0, 0, 0, 0), 0) := rfl
theorem s200_71 {c : Nat → List AV → SS → Option Out} {l0 : Option AV} {x : Int32} {L2 : List (Nat × AV)} {St : List AV} {S : SS} : ev c 200 71 [l0, some (aI x)] L2 St S = ev c 200 72 [l0, some (aI x)] L2 (aI x :: St) S := ev_go i200_71 rfl
theorem i200_75 : insAt 200 75 = some (.aload_n 0, 1, (0, 0, 0, 0), 0) := rfl
theorem s200_75 {c : Nat → List AV → SS → Option Out} {l1 : Option AV} {o : OId} {L2 : List (Nat × AV)} {St : List AV} {S : SS} : ev c 200 75 [some (aR o), l1] L2 St S = ev c 200 76 [some (aR o), l1] L2 (aR o :: St) S := ev_go i200_75 rfl
theorem i200_76 : insAt 200 76 = some (.areturn, 1, (0, 0, 0, 0), 0) := rfl
theorem s200_76 {c : Nat → List AV → SS → Option Out} {l0 l1 : Option AV} {o : OId} {L2 : List (Nat × AV)} {S : SS} : ev c 200 76 [l0, l1] L2 [aR o] S = some (.inl (some (aR o)), S) := ev_end i200_76 rfl
theorem s200_76N {c : Nat → List AV → SS → Option Out} {l0 l1 : Option AV} {L2 : List (Nat × AV)} {S : SS} : ev c 200 76 [l0, l1] L2 [aN] S = some (.inl (some aN), S) := ev_end i200_76 rfl
theorem m200 {d : Nat} {o : OId} {a0 : Int32} {S : SS} : evm (d + 1) 200 [aR o, aI a0] S = ev (evm d) 200 0 [some (aR o), some (aI a0)] [] [] S := evm_s (n := 2) rfl (Nat.le_of_ble_eq_true rfl) rfl rfl
/-! java/lang/StringLatin1.canEncode(C)Z -/
theorem i201_0 : insAt 201 0 = some (.iload_n 0, 1, (0, 0, 0, 0), 0) := rfl
theorem s201_0 {c : Nat → List AV → SS → Option Out} {x : Int32} {L2 : List (Nat × AV)} {St : List AV} {S : SS} : ev c 201 0 [some (aI x)] L2 St S = ev c 201 1 [some (aI x)] L2 (aI x :: St) S := ev_go i201_0 rfl
theorem i201_1 : insAt 201 1 = some (.sipush 255, 3, (0, 0, 0, 0), 0) := rfl
theorem s201_1 {c : Nat → List AV → SS → Option Out} {l0 : Option AV} {L2 : List (Nat × AV)} {St : List AV} {S : SS} : ev c 201 1 [l0] L2 St S = ev c 201 4 [l0] L2 (aI 255 :: St) S := ev_go i201_1 rfl
theorem i201_4 : insAt 201 4 = some (.if_icmp .gt 7, 3, (0, 0, 0, 0), 0) := rfl
theorem s201_4 {c : Nat → List AV → SS → Option Out} {l0 : Option AV} {x y : Int32} {L2 : List (Nat × AV)} {St : List AV} {S : SS} : ev c 201 4 [l0] L2 (aI y :: aI x :: St) S = if y < x then ev c 201 11 [l0] L2 St S else ev c 201 7 [l0] L2 St S := ev_br i201_4 rfl
theorem i201_7 : insAt 201 7 = some (.iconst 1, 1, (0, 0, 0, 0), 0) := rfl
theorem s201_7 {c : Nat → List AV → SS → Option Out} {l0 : Option AV} {L2 : List (Nat × AV)} {St : List AV} {S : SS} : ev c 201 7 [l0] L2 St S = ev c 201 8 [l0] L2 (aI 1 :: St) S := ev_go i201_7 rfl
theorem i201_8 : insAt 201 8 = some (.goto 4, 3, (0, 0, 0, 0), 0) := rfl
theorem s201_8 {c : Nat → List AV → SS → Option Out} {l0 : Option AV} {L2 : List (Nat × AV)} {St : List AV} {S : SS} : ev c 201 8 [l0] L2 St S = ev c 201 12 [l0] L2 St S := ev_go i201_8 rfl
theorem i201_11 : insAt 201 11 = some (.iconst 0, 1, (0, 0, 0, 0), 0) := rfl
theorem s201_11 {c : Nat → List AV → SS → Option Out} {l0 : Option AV} {L2 : List (Nat × AV)} {St : List AV} {S : SS} : ev c 201 11 [l0] L2 St S = ev c 201 12 [l0] L2 (aI 0 :: St) S := ev_go i201_11 rfl
theorem i201_12 : insAt 201 12 = some (.ireturn, 1, (0, 0, 0, 0), 0) := rfl
theorem s201_12 {c : Nat → List AV → SS → Option Out} {l0 : Option AV} {x : Int32} {L2 : List (Nat × AV)} {S : SS} : ev c 201 12 [l0] L2 [aI x] S = if x = 0 ∨ x = 1 then some (.inl (some (aI x)), S) else none := ev_rt i201_12 rfl
theorem m201 {d : Nat} {a0 : Int32} {S : SS} : evm (d + 1) 201 [aI a0] S = ev (evm d) 201 0 [some (aI a0)] [] [] S := evm_s (n := 1) rfl (Nat.le_of_ble_eq_true rfl) rfl rfl
/-! java/lang/String.checkIndex(II)V -/
theorem i202_0 : insAt 202 0 = some (.iload_n 0, 1, (0, 0, 0, 0), 0) := rfl
theorem s202_0 {c : Nat → List AV → SS → Option Out} {l1 : Option AV} {x : Int32} {L2 : List (Nat × AV)} {St : List AV} {S : SS} : ev c 202 0 [some (aI x), l1] L2 St S = ev c 202 1 [some (aI x), l1] L2 (aI x :: St) S := ev_go i202_0 rfl
theorem i202_1 : insAt 202 1 = some (.iload_n 1, 1, (0, 0, 0, 0), 0) := rfl
theorem s202_1 {c : Nat → List AV → SS → Option Out} {l0 : Option AV} {x : Int32} {L2 : List (Nat × AV)} {St : List AV} {S : SS} : ev c 202 1 [l0, some (aI x)] L2 St S = ev c 202 2 [l0, some (aI x)] L2 (aI x :: St) S := ev_go i202_1 rfl
theorem i202_2 : insAt 202 2 = some (.getstatic 1053, 3, (3, 0, 0, 0), 351) := rfl
theorem s202_2 {c : Nat → List AV → SS → Option Out} {l0 l1 : Option AV} {L2 : List (Nat × AV)} {St : List AV} {S : SS} : ev c 202 2 [l0, l1] L2 St S = ev c 202 5 [l0, l1] L2 (aR (48, 0, 0) :: St) S := ev_go i202_2 rfl
theorem i202_5 : insAt 202 5 = some (.invokestatic 1059, 3, (203, 3, 0, 0), 352) := rfl
theorem s202_5 {c : Nat → List AV → SS → Option Out} {l0 l1 : Option AV} {a0 : Int32} {a1 : Int32} {a2 : OId} {L2 : List (Nat × AV)} {S : SS} : ev c 202 5 [l0, l1] L2 [aR a2, aI a1, aI a0] S = ck (c 203 [aI a0, aI a1, aR a2] S) (fun v S' => ev c 202 8 [l0, l1] L2 (v.toList ++ []) S') := ev_call i202_5 rfl
theorem i202_8 : insAt 202 8 = some (.pop, 1, (0, 0, 0, 0), 0) := rfl
theorem s202_8 {c : Nat → List AV → SS → Option Out} {l0 l1 : Option AV} {x : Int32} {L2 : List (Nat × AV)} {St : List AV} {S : SS} : ev c 202 8 [l0, l1] L2 (aI x :: St) S = ev c 202 9 [l0, l1] L2 (St) S := ev_go i202_8 rfl
theorem i202_9 : insAt 202 9 = some (.return_, 1, (0, 0, 0, 0), 0) := rfl
theorem s202_9 {c : Nat → List AV → SS → Option Out} {l0 l1 : Option AV} {L2 : List (Nat × AV)} {S : SS} : ev c 202 9 [l0, l1] L2 [] S = some (.inl none, S) := ev_end i202_9 rfl
theorem m202 {d : Nat} {a0 : Int32} {a1 : Int32} {S : SS} : evm (d + 1) 202 [aI a0, aI a1] S = ev (evm d) 202 0 [some (aI a0), some (aI a1)] [] [] S := evm_s (n := 2) rfl (Nat.le_of_ble_eq_true rfl) rfl rfl
/-! jdk/internal/util/Preconditions.checkIndex(IILjava/util/function/BiFunction;)I -/
theorem i203_0 : insAt 203 0 = some (.iload_n 0, 1, (0, 0, 0, 0), 0) := rfl
theorem s203_0 {c : Nat → List AV → SS → Option Out} {l1 l2 : Option AV} {x : Int32} {L2 : List (Nat × AV)} {St : List AV} {S : SS} : ev c 203 0 [some (aI x), l1, l2] L2 St S = ev c 203 1 [some (aI x), l1, l2] L2 (aI x :: St) S := ev_go i203_0 rfl
theorem i203_1 : insAt 203 1 = some (.ifCond .lt 8, 3, (0, 0, 0, 0), 0) := rfl
theorem s203_1 {c : Nat → List AV → SS → Option Out} {l0 l1 l2 : Option AV} {x : Int32} {L2 : List (Nat × AV)} {St : List AV} {S : SS} : ev c 203 1 [l0, l1, l2] L2 (aI x :: St) S = if x < 0 then ev c 203 9 [l0, l1, l2] L2 St S else ev c 203 4 [l0, l1, l2] L2 St S := ev_br i203_1 rfl
theorem i203_4 : insAt 203 4 = some (.iload_n 0, 1, (0, 0, 0, 0), 0) := rfl
theorem s203_4 {c : Nat → List AV → SS → Option Out} {l1 l2 : Option AV} {x : Int32} {L2 : List (Nat × AV)} {St : List AV} {S : SS} : ev c 203 4 [some (aI x), l1, l2] L2 St S = ev c 203 5 [some (aI x), l1, l2] L2 (aI x :: St) S := ev_go i203_4 rfl
theorem i203_5 : insAt 203 5 = some (.iload_n 1, 1, (0, 0, 0, 0), 0) := rfl
theorem s203_5 {c : Nat → List AV → SS → Option Out} {l0 l2 : Option AV} {x : Int32} {L2 : List (Nat × AV)} {St : List AV} {S : SS} : ev c 203 5 [l0, some (aI x), l2] L2 St S = ev c 203 6 [l0, some (aI x), l2] L2 (aI x :: St) S := ev_go i203_5 rfl
theorem i203_6 : insAt 203 6 = some (.if_icmp .lt 10, 3, (0, 0, 0, 0), 0) := rfl
theorem s203_6 {c : Nat → List AV → SS → Option Out} {l0 l1 l2 : Option AV} {x y : Int32} {L2 : List (Nat × AV)} {St : List AV} {S : SS} : ev c 203 6 [l0, l1, l2] L2 (aI y :: aI x :: St) S = if x < y then ev c 203 16 [l0, l1, l2] L2 St S else ev c 203 9 [l0, l1, l2] L2 St S := ev_br i203_6 rfl
theorem i203_9 : insAt 203 9 = some (.aload_n 2, 1, (0, 0, 0, 0), 0) := rfl
theorem s203_9 {c : Nat → List AV → SS → Option Out} {l0 l1 : Option AV} {o : OId} {L2 : List (Nat × AV)} {St : List AV} {S : SS} : ev c 203 9 [l0, l1, some (aR o)] L2 St S = ev c 203 10 [l0, l1, some (aR o)] L2 (aR o :: St) S := ev_go i203_9 rfl
theorem i203_10 : insAt 203 10 = some (.iload_n 0, 1, (0, 0, 0, 0), 0) := rfl
theorem s203_10 {c : Nat → List AV → SS → Option Out} {l1 l2 : Option AV} {x : Int32} {L2 : List (Nat × AV)} {St : List AV} {S : SS} : ev c 203 10 [some (aI x), l1, l2] L2 St S = ev c 203 11 [some (aI x), l1, l2] L2 (aI x :: St) S := ev_go i203_10 rfl
theorem i203_11 : insAt 203 11 = some (.iload_n 1, 1, (0, 0, 0, 0), 0) := rfl
theorem s203_11 {c : Nat → List AV → SS → Option Out} {l0 l2 : Option AV} {x : Int32} {L2 : List (Nat × AV)} {St : List AV} {S : SS} : ev c 203 11 [l0, some (aI x), l2] L2 St S = ev c 203 12 [l0, some (aI x), l2] L2 (aI x :: St) S := ev_go i203_11 rfl
theorem i203_16 : insAt 203 16 = some (.iload_n 0, 1, (0, 0, 0, 0), 0) := rfl
theorem s203_16 {c : Nat → List AV → SS → Option Out} {l1 l2 : Option AV} {x : Int32} {L2 : List (Nat × AV)} {St : List AV} {S : SS} : ev c 203 16 [some (aI x), l1, l2] L2 St S = ev c 203 17 [some (aI x), l1, l2] L2 (aI x :: St) S := ev_go i203_16 rfl
theorem i203_17 : insAt 203 17 = some (.ireturn, 1, (0, 0, 0, 0), 0) := rfl
theorem s203_17 {c : Nat → List AV → SS → Option Out} {l0 l1 l2 : Option AV} {x : Int32} {L2 : List (Nat × AV)} {S : SS} : ev c 203 17 [l0, l1, l2] L2 [aI x] S = some (.inl (some (aI x)), S) := ev_end i203_17 rfl
theorem m203 {d : Nat} {a0 : Int32} {a1 : Int32} {a2 : OId} {S : SS} : evm (d + 1) 203 [aI a0, aI a1, aR a2] S = ev (evm d) 203 0 [some (aI a0), some (aI a1), some (aR a2)] [] [] S := evm_s (n := 3) rfl (Nat.le_of_ble_eq_true rfl) rfl rfl
/-! java/lang/StringBuilder.charAt(I)C -/
theorem i206_0 : insAt 206 0 = some (.aload_n 0, 1, (0, 0, 0, 0), 0) := rfl
theorem s206_0 {c : Nat → List AV → SS → Option Out} {l1 : Option AV} {o : OId} {L2 : List (Nat × AV)} {St : List AV} {S : SS} : ev c 206 0 [some (aR o), l1] L2 St S = ev c 206 1 [some (aR o), l1] L2 (aR o :: St) S := ev_go i206_0 rfl
theorem i206_1 : insAt 206 1 = some (.iload_n 1, 1, (0, 0, 0, 0), 0) := rfl
theorem s206_1 {c : Nat → List AV → SS → Option Out} {l0 : Option AV} {x : Int32} {L2 : List (Nat × AV)} {St : List AV} {S : SS} : ev c 206 1 [l0, some (aI x)] L2 St S = ev c 206 2 [l0, some (aI x)] L2 (aI x :: St) S := ev_go i206_1 rfl
theorem i206_2 : insAt 206 2 = some (.invokespecial 329, 3, (207, 1, 7, 1), 355) := rfl
theorem s206_2 {c : Nat → List AV → SS → Option Out} {l0 l1 : Option AV} {a0 : Int32} {j t : Nat} {L2 : List (Nat × AV)} {S : SS} : ev c 206 2 [l0, l1] L2 [aI a0, aR (1, j, t)] S = ck (c 207 [aR (1, j, t), aI a0] S) (fun v S' => ev c 206 5 [l0, l1] L2 (v.toList ++ []) S') := ev_call i206_2 rfl
theorem i206_5 : insAt 206 5 = some (.ireturn, 1, (0, 0, 0, 0), 0) := rfl
theorem s206_5 {c : Nat → List AV → SS → Option Out} {l0 l1 : Option AV} {x : Int32} {L2 : List (Nat × AV)} {S : SS} : ev c 206 5 [l0, l1] L2 [aI x] S = if (x.toUInt32 % 65536).toInt32 = x then some (.inl (some (aI x)), S) else none := ev_rt i206_5 rfl
theorem m206 {d : Nat} {o : OId} {a0 : Int32} {S : SS} : evm (d + 1) 206 [aR o, aI a0] S = ev (evm d) 206 0 [some (aR o), some (aI a0)] [] [] S := evm_s (n := 2) rfl (Nat.le_of_ble_eq_true rfl) rfl rfl
/-! java/lang/AbstractStringBuilder.charAt(I)C -/
theorem i207_0 : insAt 207 0 = some (.aload_n 0, 1, (0, 0, 0, 0), 0) := rfl
theorem s207_0 {c : Nat → List AV → SS → Option Out} {l1 l2 l3 l4 : Option AV} {o : OId} {L2 : List (Nat × AV)} {St : List AV} {S : SS} : ev c 207 0 [some (aR o), l1, l2, l3, l4] L2 St S = ev c 207 1 [some (aR o), l1, l2, l3, l4] L2 (aR o :: St) S := ev_go i207_0 rfl
theorem i207_1 : insAt 207 1 = some (.getfield 22, 3, (1, 1, 0, 0), 74) := rfl
theorem s207_1 {c : Nat → List AV → SS → Option Out} {l0 l1 l2 l3 l4 : Option AV} {j t : Nat} {L2 : List (Nat × AV)} {St : List AV} {S : SS} : ev c 207 1 [l0, l1, l2, l3, l4] L2 (aR (1, j, t) :: St) S = ev c 207 4 [l0, l1, l2, l3, l4] L2 (aI (by8 (S.1 (1, j, t) 1)) :: St) S := ev_go i207_1 rfl
theorem i207_4 : insAt 207 4 = some (.istore_n 2, 1, (0, 0, 0, 0), 0) := rfl
theorem s207_4 {c : Nat → List AV → SS → Option Out} {l0 l1 l2 l3 l4 : Option AV} {x : Int32} {L2 : List (Nat × AV)} {St : List AV} {S : SS} : ev c 207 4 [l0, l1, l2, l3, l4] L2 (aI x :: St) S = ev c 207 5 [l0, l1, some (aI x), l3, l4] (kil L2 2) St S := ev_go i207_4 rfl
theorem i207_5 : insAt 207 5 = some (.aload_n 0, 1, (0, 0, 0, 0), 0) := rfl
theorem s207_5 {c : Nat → List AV → SS → Option Out} {l1 l2 l3 l4 : Option AV} {o : OId} {L2 : List (Nat × AV)} {St : List AV} {S : SS} : ev c 207 5 [some (aR o), l1, l2, l3, l4] L2 St S = ev c 207 6 [some (aR o), l1, l2, l3, l4] L2 (aR o :: St) S := ev_go i207_5 rfl
theorem i207_6 : insAt 207 6 = some (.getfield 15, 3, (1, 0, 0, 0), 73) := rfl
theorem s207_6 {c : Nat → List AV → SS → Option Out} {l0 l1 l2 l3 l4 : Option AV} {j t : Nat} {L2 : List (Nat × AV)} {St : List AV} {S : SS} : ev c 207 6 [l0, l1, l2, l3, l4] L2 (aR (1, j, t) :: St) S = ev c 207 9 [l0, l1, l2, l3, l4] L2 (S.2.1 (1, j, t) 0 :: St) S := ev_go i207_6 rfl
theorem i207_9 : insAt 207 9 = some (.astore_n 3, 1, (0, 0, 0, 0), 0) := rfl
theorem s207_9 {c : Nat → List AV → SS → Option Out} {l0 l1 l2 l3 l4 : Option AV} {o : OId} {L2 : List (Nat × AV)} {St : List AV} {S : SS} : ev c 207 9 [l0, l1, l2, l3, l4] L2 (aR o :: St) S = ev c 207 10 [l0, l1, l2, some (aR o), l4] (kil L2 3) St S := ev_go i207_9 rfl
theorem i207_10 : insAt 207 10 = some (.aload_n 0, 1, (0, 0, 0, 0), 0) := rfl
theorem s207_10 {c : Nat → List AV → SS → Option Out} {l1 l2 l3 l4 : Option AV} {o : OId} {L2 : List (Nat × AV)} {St : List AV} {S : SS} : ev c 207 10 [some (aR o), l1, l2, l3, l4] L2 St S = ev c 207 11 [some (aR o), l1, l2, l3, l4] L2 (aR o :: St) S := ev_go i207_10 rfl
theorem i207_11 : insAt 207 11 = some (.getfield 79, 3, (1, 3, 0, 0), 302) := rfl
theorem s207_11 {c : Nat → List AV → SS → Option Out} {l0 l1 l2 l3 l4 : Option AV} {j t : Nat} {L2 : List (Nat × AV)} {St : List AV} {S : SS} : ev c 207 11 [l0, l1, l2, l3, l4] L2 (aR (1, j, t) :: St) S = ev c 207 14 [l0, l1, l2, l3, l4] L2 (aI (S.1 (1, j, t) 3) :: St) S := ev_go i207_11 rfl
theorem i207_14 : insAt 207 14 = some (.aload_n 3, 1, (0, 0, 0, 0), 0) := rfl
theorem s207_14 {c : Nat → List AV → SS → Option Out} {l0 l1 l2 l4 : Option AV} {o : OId} {L2 : List (Nat × AV)} {St : List AV} {S : SS} : ev c 207 14 [l0, l1, l2, some (aR o), l4] L2 St S = ev c 207 15 [l0, l1, l2, some (aR o), l4] L2 (aR o :: St) S := ev_go i207_14 rfl
theorem i207_15 : insAt 207 15 = some (.arraylength, 1, (0, 0, 0, 0), 0) := rfl
theorem s207_15 {c : Nat → List AV → SS → Option Out} {l0 l1 l2 l3 l4 : Option AV} {o : OId} {L2 : List (Nat × AV)} {St : List AV} {S : SS} : ev c 207 15 [l0, l1, l2, l3, l4] L2 (aR o :: St) S = kN o (fun x => ev c 207 16 [l0, l1, l2, l3, l4] L2 (aI x :: St) S) := ev_alen i207_15
theorem i207_16 : insAt 207 16 = some (.iload_n 2, 1, (0, 0, 0, 0), 0) := rfl
theorem s207_16 {c : Nat → List AV → SS → Option Out} {l0 l1 l3 l4 : Option AV} {x : Int32} {L2 : List (Nat × AV)} {St : List AV} {S : SS} : ev c 207 16 [l0, l1, some (aI x), l3, l4] L2 St S = ev c 207 17 [l0, l1, some (aI x), l3, l4] L2 (aI x :: St) S := ev_go i207_16 rfl
theorem i207_17 : insAt 207 17 = some (.ishr, 1, (0, 0, 0, 0), 0) := rfl
theorem s207_17 {c : Nat → List AV → SS → Option Out} {l0 l1 l2 l3 l4 : Option AV} {x y : Int32} {L2 : List (Nat × AV)} {St : List AV} {S : SS} : ev c 207 17 [l0, l1, l2, l3, l4] L2 (aI y :: aI x :: St) S = ev c 207 18 [l0, l1, l2, l3, l4] L2 (aI (x >>> (y &&& 31)) :: St) S := ev_go i207_17 rfl
theorem i207_18 : insAt 207 18 = some (.invokestatic 138, 3, (0, 2, 24, 0), 356) := rfl
theorem s207_18 {c : Nat → List AV → SS → Option Out} {l0 l1 l2 l3 l4 : Option AV} {x y : Int32} {L2 : List (Nat × AV)} {S : SS} : ev c 207 18 [l0, l1, l2, l3, l4] L2 [aI y, aI x] S = ev c 207 21 [l0, l1, l2, l3, l4] L2 [aI (if y < x then y else x)] S := ev_go i207_18 rfl
theorem i207_21 : insAt 207 21 = some (.istore 4, 2, (0, 0, 0, 0), 0) := rfl
theorem s207_21 {c : Nat → List AV → SS → Option Out} {l0 l1 l2 l3 l4 : Option AV} {x : Int32} {L2 : List (Nat × AV)} {St : List AV} {S : SS} : ev c 207 21 [l0, l1, l2, l3, l4] L2 (aI x :: St) S = ev c 207 23 [l0, l1, l2, l3, some (aI x)] (kil L2 4) St S := ev_go i207_21 rfl
theorem i207_23 : insAt 207 23 = some (.iload_n 1, 1, (0, 0, 0, 0), 0) := rfl
theorem s207_23 {c : Nat → List AV → SS → Option Out} {l0 l2 l3 l4 : Option AV} {x : Int32} {L2 : List (Nat × AV)} {St : List AV} {S : SS} : ev c 207 23 [l0, some (aI x), l2, l3, l4] L2 St S = ev c 207 24 [l0, some (aI x), l2, l3, l4] L2 (aI x :: St) S := ev_go i207_23 rfl
theorem i207_24 : insAt 207 24 = some (.iload 4, 2, (0, 0, 0, 0), 0) := rfl
theorem s207_24 {c : Nat → List AV → SS → Option Out} {l0 l1 l2 l3 : Option AV} {x : Int32} {L2 : List (Nat × AV)} {St : List AV} {S : SS} : ev c 207 24 [l0, l1, l2, l3, some (aI x)] L2 St S = ev c 207 26 [l0, l1, l2, l3, some (aI x)] L2 (aI x :: St) S := ev_go i207_24 rfl
theorem i207_26 : insAt 207 26 = some (.invokestatic 144, 3, (202, 2, 0, 0), 357) := rfl
theorem s207_26 {c : Nat → List AV → SS → Option Out} {l0 l1 l2 l3 l4 : Option AV} {a0 : Int32} {a1 : Int32} {L2 : List (Nat × AV)} {S : SS} : ev c 207 26 [l0, l1, l2, l3, l4] L2 [aI a1, aI a0] S = ck (c 202 [aI a0, aI a1] S) (fun v S' => ev c 207 29 [l0, l1, l2, l3, l4] L2 (v.toList ++ []) S') := ev_call i207_26 rfl
theorem i207_29 : insAt 207 29 = some (.iload_n 2, 1, (0, 0, 0, 0), 0) := rfl
theorem s207_29 {c : Nat → List AV → SS → Option Out} {l0 l1 l3 l4 : Option AV} {x : Int32} {L2 : List (Nat × AV)} {St : List AV} {S : SS} : ev c 207 29 [l0, l1, some (aI x), l3, l4] L2 St S = ev c 207 30 [l0, l1, some (aI x), l3, l4] L2 (aI x :: St) S := ev_go i207_29 rfl
theorem i207_30 : insAt 207 30 = some (.ifCond .ne 12, 3, (0, 0, 0, 0), 0) := rfl
theorem s207_30 {c : Nat → List AV → SS → Option Out} {l0 l1 l2 l3 l4 : Option AV} {x : Int32} {L2 : List (Nat × AV)} {St : List AV} {S : SS} : ev c 207 30 [l0, l1, l2, l3, l4] L2 (aI x :: St) S = if x = 0 then ev c 207 33 [l0, l1, l2, l3, l4] L2 St S else ev c 207 42 [l0, l1, l2, l3, l4] L2 St S := (ev_br i207_30 rfl).trans (ite_not _ _ _)
theorem i207_33 : insAt 207 33 = some (.aload_n 3, 1, (0, 0, 0, 0), 0) := rfl
theorem s207_33 {c : Nat → List AV → SS → Option Out} {l0 l1 l2 l4 : Option AV} {o : OId} {L2 : List (Nat × AV)} {St : List AV} {S : SS} : ev c 207 33 [l0, l1, l2, some (aR o), l4] L2 St S = ev c 207 34 [l0, l1, l2, some (aR o), l4] L2 (aR o :: St) S := ev_go i207_33 rfl
theorem i207_34 : insAt 207 34 = some (.iload_n 1, 1, (0, 0, 0, 0), 0) := rfl
theorem s207_34 {c : Nat → List AV → SS → Option Out} {l0 l2 l3 l4 : Option AV} {x : Int32} {L2 : List (Nat × AV)} {St : List AV} {S : SS} : ev c 207 34 [l0, some (aI x), l2, l3, l4] L2 St S = ev c 207 35 [l0, some (aI x), l2, l3, l4] L2 (aI x :: St) S := ev_go i207_34 rfl
theorem i207_35 : insAt 207 35 = some (.baload, 1, (0, 0, 0, 0), 0) := rfl
theorem s207_35 {c : Nat → List AV → SS → Option Out} {l0 l1 l2 l3 l4 : Option AV} {i : Int32} {o : OId} {L2 : List (Nat × AV)} {St : List AV} {S : SS} : ev c 207 35 [l0, l1, l2, l3, l4] L2 (aI i :: aR o :: St) S = kB o i (ev c 207 36 [l0, l1, l2, l3, l4] L2 (aI (agB S o i.toNatClampNeg) :: St) S) (ev c 207 36 [l0, l1, l2, l3, l4] L2 (aI (bb (S.1 o i.toNatClampNeg)) :: St) S) := ev_baload i207_35
theorem i207_36 : insAt 207 36 = some (.sipush 255, 3, (0, 0, 0, 0), 0) := rfl
theorem s207_36 {c : Nat → List AV → SS → Option Out} {l0 l1 l2 l3 l4 : Option AV} {L2 : List (Nat × AV)} {St : List AV} {S : SS} : ev c 207 36 [l0, l1, l2, l3, l4] L2 St S = ev c 207 39 [l0, l1, l2, l3, l4] L2 (aI 255 :: St) S := ev_go i207_36 rfl
theorem i207_39 : insAt 207 39 = some (.iand, 1, (0, 0, 0, 0), 0) := rfl
theorem s207_39 {c : Nat → List AV → SS → Option Out} {l0 l1 l2 l3 l4 : Option AV} {x y : Int32} {L2 : List (Nat × AV)} {St : List AV} {S : SS} : ev c 207 39 [l0, l1, l2, l3, l4] L2 (aI y :: aI x :: St) S = ev c 207 40 [l0, l1, l2, l3, l4] L2 (aI (x &&& y) :: St) S := ev_go i207_39 rfl
theorem i207_40 : insAt 207 40 = some (.i2c, 1, (0, 0, 0, 0), 0) := rfl
theorem s207_40 {c : Nat → List AV → SS → Option Out} {l0 l1 l2 l3 l4 : Option AV} {x : Int32} {L2 : List (Nat × AV)} {St : List AV} {S : SS} : ev c 207 40 [l0, l1, l2, l3, l4] L2 (aI x :: St) S = ev c 207 41 [l0, l1, l2, l3, l4] L2 (aI (x.toUInt32 % 65536).toInt32 :: St) S := ev_go i207_40 rfl
theorem i207_41 : insAt 207 41 = some (.ireturn, 1, (0, 0, 0, 0), 0) := rfl
theorem s207_41 {c : Nat → List AV → SS → Option Out} {l0 l1 l2 l3 l4 : Option AV} {x : Int32} {L2 : List (Nat × AV)} {S : SS} : ev c 207 41 [l0, l1, l2, l3, l4] L2 [aI x] S = if (x.toUInt32 % 65536).toInt32 = x then some (.inl (some (aI x)), S) else none := ev_rt i207_41 rfl
theorem i207_42 : insAt 207 42 = some (.aload_n 3, 1, (0, 0, 0, 0), 0) := rfl
theorem s207_42 {c : Nat → List AV → SS → Option Out} {l0 l1 l2 l4 : Option AV} {o : OId} {L2 : List (Nat × AV)} {St : List AV} {S : SS} : ev c 207 42 [l0, l1, l2, some (aR o), l4] L2 St S = ev c 207 43 [l0, l1, l2, some (aR o), l4] L2 (aR o :: St) S := ev_go i207_42 rfl
theorem i207_43 : insAt 207 43 = some (.iload_n 1, 1, (0, 0, 0, 0), 0) := rfl
theorem s207_43 {c : Nat → List AV → SS → Option Out} {l0 l2 l3 l4 : Option AV} {x : Int32} {L2 : List (Nat × AV)} {St : List AV} {S : SS} : ev c 207 43 [l0, some (aI x), l2, l3, l4] L2 St S = ev c 207 44 [l0, some (aI x), l2, l3, l4] L2 (aI x :: St) S := ev_go i207_43 rfl
theorem i207_47 : insAt 207 47 = some (.ireturn, 1, (0, 0, 0, 0), 0) := rfl
theorem s207_47 {c : Nat → List AV → SS → Option Out} {l0 l1 l2 l3 l4 : Option AV} {x : Int32} {L2 : List (Nat × AV)} {S : SS} : ev c 207 47 [l0, l1, l2, l3, l4] L2 [aI x] S = if (x.toUInt32 % 65536).toInt32 = x then some (.inl (some (aI x)), S) else none := ev_rt i207_47 rfl
theorem m207 {d : Nat} {o : OId} {a0 : Int32} {S : SS} : evm (d + 1) 207 [aR o, aI a0] S = ev (evm d) 207 0 [some (aR o), some (aI a0), none, none, none] [] [] S := evm_s (n := 5) rfl (Nat.le_of_ble_eq_true rfl) rfl rfl
/-! java/lang/String.charAt(I)C -/
theorem i305_0 : insAt 305 0 = some (.aload_n 0, 1, (0, 0, 0, 0), 0) := rfl
theorem s305_0 {c : Nat → List AV → SS → Option Out} {l1 : Option AV} {o : OId} {L2 : List (Nat × AV)} {St : List AV} {S : SS} : ev c 305 0 [some (aR o), l1] L2 St S = ev c 305 1 [some (aR o), l1] L2 (aR o :: St) S := ev_go i305_0 rfl
theorem i305_1 : insAt 305 1 = some (.invokevirtual 492, 3, (306, 0, 2, 0), 432) := rfl
theorem s305_1 {c : Nat → List AV → SS → Option Out} {l0 l1 : Option AV} {j t : Nat} {L2 : List (Nat × AV)} {S : SS} : ev c 305 1 [l0, l1] L2 [aR (0, j, t)] S = ck (c 306 [aR (0, j, t)] S) (fun v S' => ev c 305 4 [l0, l1] L2 (v.toList ++ []) S') := ev_call i305_1 rfl
theorem i305_4 : insAt 305 4 = some (.ifCond .eq 12, 3, (0, 0, 0, 0), 0) := rfl
theorem s305_4 {c : Nat → List AV → SS → Option Out} {l0 l1 : Option AV} {x : Int32} {L2 : List (Nat × AV)} {St : List AV} {S : SS} : ev c 305 4 [l0, l1] L2 (aI x :: St) S = if x = 0 then ev c 305 16 [l0, l1] L2 St S else ev c 305 7 [l0, l1] L2 St S := ev_br i305_4 rfl
theorem i305_7 : insAt 305 7 = some (.aload_n 0, 1, (0, 0, 0, 0), 0) := rfl
theorem s305_7 {c : Nat → List AV → SS → Option Out} {l1 : Option AV} {o : OId} {L2 : List (Nat × AV)} {St : List AV} {S : SS} : ev c 305 7 [some (aR o), l1] L2 St S = ev c 305 8 [some (aR o), l1] L2 (aR o :: St) S := ev_go i305_7 rfl
theorem i305_8 : insAt 305 8 = some (.getfield 9, 3, (0, 0, 0, 0), 318) := rfl
theorem s305_8 {c : Nat → List AV → SS → Option Out} {l0 l1 : Option AV} {j t : Nat} {L2 : List (Nat × AV)} {St : List AV} {S : SS} : ev c 305 8 [l0, l1] L2 (aR (0, j, t) :: St) S = ev c 305 11 [l0, l1] L2 (fget S 0 0 (0, j, t) :: St) S := ev_go i305_8 rfl
theorem i305_11 : insAt 305 11 = some (.iload_n 1, 1, (0, 0, 0, 0), 0) := rfl
theorem s305_11 {c : Nat → List AV → SS → Option Out} {l0 : Option AV} {x : Int32} {L2 : List (Nat × AV)} {St : List AV} {S : SS} : ev c 305 11 [l0, some (aI x)] L2 St S = ev c 305 12 [l0, some (aI x)] L2 (aI x :: St) S := ev_go i305_11 rfl
theorem i305_12 : insAt 305 12 = some (.invokestatic 495, 3, (307, 2, 0, 0), 433) := rfl
theorem s305_12 {c : Nat → List AV → SS → Option Out} {l0 l1 : Option AV} {a0 : OId} {a1 : Int32} {L2 : List (Nat × AV)} {S : SS} : ev c 305 12 [l0, l1] L2 [aI a1, aR a0] S = ck (c 307 [aR a0, aI a1] S) (fun v S' => ev c 305 15 [l0, l1] L2 (v.toList ++ []) S') := ev_call i305_12 rfl
theorem i305_15 : insAt 305 15 = some (.ireturn, 1, (0, 0, 0, 0), 0) := rfl
theorem s305_15 {c : Nat → List AV → SS → Option Out} {l0 l1 : Option AV} {x : Int32} {L2 : List (Nat × AV)} {S : SS} : ev c 305 15 [l0, l1] L2 [aI x] S = if (x.toUInt32 % 65536).toInt32 = x then some (.inl (some (aI x)), S) else none := ev_rt i305_15 rfl
theorem i305_16 : insAt 305 16 = some (.aload_n 0, 1, (0, 0, 0, 0), 0) := rfl
theorem s305_16 {c : Nat → List AV → SS → Option Out} {l1 : Option AV} {o : OId} {L2 : List (Nat × AV)} {St : List AV} {S : SS} : ev c 305 16 [some (aR o), l1] L2 St S = ev c 305 17 [some (aR o), l1] L2 (aR o :: St) S := ev_go i305_16 rfl
theorem i305_17 : insAt 305 17 = some (.getfield 9, 3, (0, 0, 0, 0), 318) := rfl
theorem s305_17 {c : Nat → List AV → SS → Option Out} {l0 l1 : Option AV} {j t : Nat} {L2 : List (Nat × AV)} {St : List AV} {S : SS} : ev c 305 17 [l0, l1] L2 (aR (0, j, t) :: St) S = ev c 305 20 [l0, l1] L2 (fget S 0 0 (0, j, t) :: St) S := ev_go i305_17 rfl
theorem i305_20 : insAt 305 20 = some (.iload_n 1, 1, (0, 0, 0, 0), 0) := rfl
theorem s305_20 {c : Nat → List AV → SS → Option Out} {l0 : Option AV} {x : Int32} {L2 : List (Nat × AV)} {St : List AV} {S : SS} : ev c 305 20 [l0, some (aI x)] L2 St S = ev c 305 21 [l0, some (aI x)] L2 (aI x :: St) S := ev_go i305_20 rfl
theorem i305_24 : insAt 305 24 = some (.ireturn, 1, (0, 0, 0, 0), 0) := rfl
theorem s305_24 {c : Nat → List AV → SS → Option Out} {l0 l1 : Option AV} {x : Int32} {L2 : List (Nat × AV)} {S : SS} : ev c 305 24 [l0, l1] L2 [aI x] S = if (x.toUInt32 % 65536).toInt32 = x then some (.inl (some (aI x)), S) else none := ev_rt i305_24 rfl
theorem m305 {d : Nat} {o : OId} {a0 : Int32} {S : SS} : evm (d + 1) 305 [aR o, aI a0] S = ev (evm d) 305 0 [some (aR o), some (aI a0)] [] [] S := evm_s (n := 2) rfl (Nat.le_of_ble_eq_true rfl) rfl rfl
/-! java/lang/String.isLatin1()Z -/
theorem i306_0 : insAt 306 0 = some (.getstatic 38, 3, (0, 0, 0, 0), 320) := rfl
theorem s306_0 {c : Nat → List AV → SS → Option Out} {l0 : Option AV} {L2 : List (Nat × AV)} {St : List AV} {S : SS} : ev c 306 0 [l0] L2 St S = ev c 306 3 [l0] L2 (aI 1 :: St) S := ev_go i306_0 rfl
theorem i306_3 : insAt 306 3 = some (.ifCond .eq 14, 3, (0, 0, 0, 0), 0) := rfl
theorem s306_3 {c : Nat → List AV → SS → Option Out} {l0 : Option AV} {x : Int32} {L2 : List (Nat × AV)} {St : List AV} {S : SS} : ev c 306 3 [l0] L2 (aI x :: St) S = if x = 0 then ev c 306 17 [l0] L2 St S else ev c 306 6 [l0] L2 St S := ev_br i306_3 rfl
theorem i306_6 : insAt 306 6 = some (.aload_n 0, 1, (0, 0, 0, 0), 0) := rfl
theorem s306_6 {c : Nat → List AV → SS → Option Out} {o : OId} {L2 : List (Nat × AV)} {St : List AV} {S : SS} : ev c 306 6 [some (aR o)] L2 St S = ev c 306 7 [some (aR o)] L2 (aR o :: St) S := ev_go i306_6 rfl
theorem i306_7 : insAt 306 7 = some (.getfield 15, 3, (0, 1, 0, 0), 321) := rfl
theorem s306_7 {c : Nat → List AV → SS → Option Out} {l0 : Option AV} {j t : Nat} {L2 : List (Nat × AV)} {St : List AV} {S : SS} : ev c 306 7 [l0] L2 (aR (0, j, t) :: St) S = ev c 306 10 [l0] L2 (fget S 0 1 (0, j, t) :: St) S := ev_go i306_7 rfl
theorem i306_10 : insAt 306 10 = some (.ifCond .ne 7, 3, (0, 0, 0, 0), 0) := rfl
theorem s306_10 {c : Nat → List AV → SS → Option Out} {l0 : Option AV} {x : Int32} {L2 : List (Nat × AV)} {St : List AV} {S : SS} : ev c 306 10 [l0] L2 (aI x :: St) S = if x = 0 then ev c 306 13 [l0] L2 St S else ev c 306 17 [l0] L2 St S := (ev_br i306_10 rfl).trans (ite_not _ _ _)
theorem i306_13 : insAt 306 13 = some (.iconst 1, 1, (0, 0, 0, 0), 0) := rfl
theorem s306_13 {c : Nat → List AV → SS → Option Out} {l0 : Option AV} {L2 : List (Nat × AV)} {St : List AV} {S : SS} : ev c 306 13 [l0] L2 St S = ev c 306 14 [l0] L2 (aI 1 :: St) S := ev_go i306_13 rfl
theorem i306_14 : insAt 306 14 = some (.goto 4, 3, (0, 0, 0, 0), 0) := rfl
theorem s306_14 {c : Nat → List AV → SS → Option Out} {l0 : Option AV} {L2 : List (Nat × AV)} {St : List AV} {S : SS} : ev c 306 14 [l0] L2 St S = ev c 306 18 [l0] L2 St S := ev_go i306_14 rfl
theorem i306_17 : insAt 306 17 = some (.iconst 0, 1, (0, 0, 0, 0), 0) := rfl
theorem s306_17 {c : Nat → List AV → SS → Option Out} {l0 : Option AV} {L2 : List (Nat × AV)} {St : List AV} {S : SS} : ev c 306 17 [l0] L2 St S = ev c 306 18 [l0] L2 (aI 0 :: St) S := ev_go i306_17 rfl
theorem i306_18 : insAt 306 18 = some (.ireturn, 1, (0, 0, 0, 0), 0) := rfl
theorem s306_18 {c : Nat → List AV → SS → Option Out} {l0 : Option AV} {x : Int32} {L2 : List (Nat × AV)} {S : SS} : ev c 306 18 [l0] L2 [aI x] S = if x = 0 ∨ x = 1 then some (.inl (some (aI x)), S) else none := ev_rt i306_18 rfl
theorem m306 {d : Nat} {o : OId} {S : SS} : evm (d + 1) 306 [aR o] S = ev (evm d) 306 0 [some (aR o)] [] [] S := evm_s (n := 1) rfl (Nat.le_of_ble_eq_true rfl) rfl rfl
/-! java/lang/StringLatin1.charAt([BI)C -/
theorem i307_0 : insAt 307 0 = some (.iload_n 1, 1, (0, 0, 0, 0), 0) := rfl
theorem s307_0 {c : Nat → List AV → SS → Option Out} {l0 : Option AV} {x : Int32} {L2 : List (Nat × AV)} {St : List AV} {S : SS} : ev c 307 0 [l0, some (aI x)] L2 St S = ev c 307 1 [l0, some (aI x)] L2 (aI x :: St) S := ev_go i307_0 rfl
theorem i307_1 : insAt 307 1 = some (.aload_n 0, 1, (0, 0, 0, 0), 0) := rfl
theorem s307_1 {c : Nat → List AV → SS → Option Out} {l1 : Option AV} {o : OId} {L2 : List (Nat × AV)} {St : List AV} {S : SS} : ev c 307 1 [some (aR o), l1] L2 St S = ev c 307 2 [some (aR o), l1] L2 (aR o :: St) S := ev_go i307_1 rfl
theorem i307_2 : insAt 307 2 = some (.arraylength, 1, (0, 0, 0, 0), 0) := rfl
theorem s307_2 {c : Nat → List AV → SS → Option Out} {l0 l1 : Option AV} {o : OId} {L2 : List (Nat × AV)} {St : List AV} {S : SS} : ev c 307 2 [l0, l1] L2 (aR o :: St) S = kN o (fun x => ev c 307 3 [l0, l1] L2 (aI x :: St) S) := ev_alen i307_2
theorem i307_3 : insAt 307 3 = some (.invokestatic 9, 3, (202, 2, 0, 0), 434) := rfl
theorem s307_3 {c : Nat → List AV → SS → Option Out} {l0 l1 : Option AV} {a0 : Int32} {a1 : Int32} {L2 : List (Nat × AV)} {S : SS} : ev c 307 3 [l0, l1] L2 [aI a1, aI a0] S = ck (c 202 [aI a0, aI a1] S) (fun v S' => ev c 307 6 [l0, l1] L2 (v.toList ++ []) S') := ev_call i307_3 rfl
theorem i307_6 : insAt 307 6 = some (.aload_n 0, 1, (0, 0, 0, 0), 0) := rfl
theorem s307_6 {c : Nat → List AV → SS → Option Out} {l1 : Option AV} {o : OId} {L2 : List (Nat × AV)} {St : List AV} {S : SS} : ev c 307 6 [some (aR o), l1] L2 St S = ev c 307 7 [some (aR o), l1] L2 (aR o :: St) S := ev_go i307_6 rfl
theorem i307_7 : insAt 307 7 = some (.iload_n 1, 1, (0, 0, 0, 0), 0) := rfl
theorem s307_7 {c : Nat → List AV → SS → Option Out} {l0 : Option AV} {x : Int32} {L2 : List (Nat × AV)} {St : List AV} {S : SS} : ev c 307 7 [l0, some (aI x)] L2 St S = ev c 307 8 [l0, some (aI x)] L2 (aI x :: St) S := ev_go i307_7 rfl
theorem i307_8 : insAt 307 8 = some (.baload, 1, (0, 0, 0, 0), 0) := rfl
theorem s307_8 {c : Nat → List AV → SS → Option Out} {l0 l1 : Option AV} {i : Int32} {o : OId} {L2 : List (Nat × AV)} {St : List AV} {S : SS} : ev c 307 8 [l0, l1] L2 (aI i :: aR o :: St) S = kB o i (ev c 307 9 [l0, l1] L2 (aI (agB S o i.toNatClampNeg) :: St) S) (ev c 307 9 [l0, l1] L2 (aI (bb (S.1 o i.toNatClampNeg)) :: St) S) := ev_baload i307_8
theorem i307_9 : insAt 307 9 = some (.sipush 255, 3, (0, 0, 0, 0), 0) := rfl
theorem s307_9 {c : Nat → List AV → SS → Option Out} {l0 l1 : Option AV} {L2 : List (Nat × AV)} {St : List AV} {S : SS} : ev c 307 9 [l0, l1] L2 St S = ev c 307 12 [l0, l1] L2 (aI 255 :: St) S := ev_go i307_9 rfl
theorem i307_12 : insAt 307 12 = some (.iand, 1, (0, 0, 0, 0), 0) := rfl
theorem s307_12 {c : Nat → List AV → SS → Option Out} {l0 l1 : Option AV} {x y : Int32} {L2 : List (Nat × AV)} {St : List AV} {S : SS} : ev c 307 12 [l0, l1] L2 (aI y :: aI x :: St) S = ev c 307 13 [l0, l1] L2 (aI (x &&& y) :: St) S := ev_go i307_12 rfl
theorem i307_13 : insAt 307 13 = some (.i2c, 1, (0, 0, 0, 0), 0) := rfl
theorem s307_13 {c : Nat → List AV → SS → Option Out} {l0 l1 : Option AV} {x : Int32} {L2 : List (Nat × AV)} {St : List AV} {S : SS} : ev c 307 13 [l0, l1] L2 (aI x :: St) S = ev c 307 14 [l0, l1] L2 (aI (x.toUInt32 % 65536).toInt32 :: St) S := ev_go i307_13 rfl
theorem i307_14 : insAt 307 14 = some (.ireturn, 1, (0, 0, 0, 0), 0) := rfl
theorem s307_14 {c : Nat → List AV → SS → Option Out} {l0 l1 : Option AV} {x : Int32} {L2 : List (Nat × AV)} {S : SS} : ev c 307 14 [l0, l1] L2 [aI x] S = if (x.toUInt32 % 65536).toInt32 = x then some (.inl (some (aI x)), S) else none := ev_rt i307_14 rfl
theorem m307 {d : Nat} {a0 : OId} {a1 : Int32} {S : SS} : evm (d + 1) 307 [aR a0, aI a1] S = ev (evm d) 307 0 [some (aR a0), some (aI a1)] [] [] S := evm_s (n := 2) rfl (Nat.le_of_ble_eq_true rfl) rfl rfl
