theorem mw_3_216 : Cond.fieldLink RX9 228 "AnswerLinesModel" "rememberedMany" "I" ∈ BG := mB (t3 (i := 216) (by decide +kernel)) (by decide +kernel)
theorem mw_3_215 : Cond.fieldLink RX9 83 "AnswerLinesModel" "remembered" "[I" ∈ BG := mB (t3 (i := 215) (by decide +kernel)) (by decide +kernel)
theorem mw_3_213 : Cond.fieldLink RX9 223 "AnswerLinesModel" "calls" "I" ∈ BG := mB (t3 (i := 213) (by decide +kernel)) (by decide +kernel)
theorem mw_3_211 : Cond.fieldLink RX9 74 "AnswerLinesModel" "callPlace" "[I" ∈ BG := mB (t3 (i := 211) (by decide +kernel)) (by decide +kernel)
theorem mw_3_212 : Cond.fieldLink RX9 77 "AnswerLinesModel" "callKind" "[I" ∈ BG := mB (t3 (i := 212) (by decide +kernel)) (by decide +kernel)
theorem mw_5_42 : Cond.code yX9_nextCall cX9_nextCall 6 (some .int) ∈ BG := mB (t5 (i := 42) rfl) (by decide +kernel)
theorem mw_5_39 : Cond.methodLink RX9 231 yX9_nextCall ∈ BG := mB (t5 (i := 39) (by decide +kernel)) (by decide +kernel)
theorem mw_5_41 : Cond.instanceMethod yX9_nextCall ∈ BG := mB (t5 (i := 41) (by decide +kernel)) (by decide +kernel)
theorem mw_0_41 : Cond.selects RX9 yX9_nextCall yX9_nextCall ∈ BG := mB (t0 (i := 41) (by decide +kernel)) (by decide +kernel)
theorem mw_5_30 : Cond.code yX9_whereIs cX9_whereIs 4 (some .int) ∈ BG := mB (t5 (i := 30) rfl) (by decide +kernel)
theorem mw_5_27 : Cond.methodLink RX9 234 yX9_whereIs ∈ BG := mB (t5 (i := 27) (by decide +kernel)) (by decide +kernel)
theorem mw_5_29 : Cond.instanceMethod yX9_whereIs ∈ BG := mB (t5 (i := 29) (by decide +kernel)) (by decide +kernel)
theorem mw_0_38 : Cond.selects RX9 yX9_whereIs yX9_whereIs ∈ BG := mB (t0 (i := 38) (by decide +kernel)) (by decide +kernel)
theorem mw_5_46 : Cond.code yX9_putFirst cX9_putFirst 3 none ∈ BG := mB (t5 (i := 46) rfl) (by decide +kernel)
theorem mw_5_43 : Cond.methodLink RX9 243 yX9_putFirst ∈ BG := mB (t5 (i := 43) (by decide +kernel)) (by decide +kernel)
theorem mw_5_45 : Cond.instanceMethod yX9_putFirst ∈ BG := mB (t5 (i := 45) (by decide +kernel)) (by decide +kernel)
theorem mw_0_42 : Cond.selects RX9 yX9_putFirst yX9_putFirst ∈ BG := mB (t0 (i := 42) (by decide +kernel)) (by decide +kernel)
theorem mw_5_38 : Cond.code yX9_farthest cX9_farthest 5 (some .int) ∈ BG := mB (t5 (i := 38) rfl) (by decide +kernel)
theorem mw_5_35 : Cond.methodLink RX9 240 yX9_farthest ∈ BG := mB (t5 (i := 35) (by decide +kernel)) (by decide +kernel)
theorem mw_5_37 : Cond.instanceMethod yX9_farthest ∈ BG := mB (t5 (i := 37) (by decide +kernel)) (by decide +kernel)
theorem mw_0_40 : Cond.selects RX9 yX9_farthest yX9_farthest ∈ BG := mB (t0 (i := 40) (by decide +kernel)) (by decide +kernel)
theorem mw_5_34 : Cond.code yX9_takeOut cX9_takeOut 3 none ∈ BG := mB (t5 (i := 34) rfl) (by decide +kernel)
theorem mw_5_31 : Cond.methodLink RX9 237 yX9_takeOut ∈ BG := mB (t5 (i := 31) (by decide +kernel)) (by decide +kernel)
theorem mw_5_33 : Cond.instanceMethod yX9_takeOut ∈ BG := mB (t5 (i := 33) (by decide +kernel)) (by decide +kernel)
theorem mw_0_39 : Cond.selects RX9 yX9_takeOut yX9_takeOut ∈ BG := mB (t0 (i := 39) (by decide +kernel)) (by decide +kernel)
theorem mw_5_9 : Cond.code yX9_isPlace cX9_isPlace 1 (some .boolean) ∈ BG := mB (t5 (i := 9) rfl) (by decide +kernel)
theorem mw_5_7 : Cond.methodLink RX9 220 yX9_isPlace ∈ BG := mB (t5 (i := 7) (by decide +kernel)) (by decide +kernel)
theorem mw_5_8 : Cond.static yX9_isPlace ∈ BG := mB (t5 (i := 8) (by decide +kernel)) (by decide +kernel)
theorem mw_5_18 : Cond.constantLong RX9 226 (4) ∈ BG := mB (t5 (i := 18) (by decide +kernel)) (by decide +kernel)
theorem mw_3_214 : Cond.fieldLink RX9 80 "AnswerLinesModel" "sizes" "[I" ∈ BG := mB (t3 (i := 214) (by decide +kernel)) (by decide +kernel)
theorem mw_5_26 : Cond.code yX9_hitsBy cX9_hitsBy 7 (some .int) ∈ BG := mB (t5 (i := 26) rfl) (by decide +kernel)
theorem mw_5_23 : Cond.methodLink RX9 246 yX9_hitsBy ∈ BG := mB (t5 (i := 23) (by decide +kernel)) (by decide +kernel)
theorem mw_5_25 : Cond.instanceMethod yX9_hitsBy ∈ BG := mB (t5 (i := 25) (by decide +kernel)) (by decide +kernel)
theorem mw_0_37 : Cond.selects RX9 yX9_hitsBy yX9_hitsBy ∈ BG := mB (t0 (i := 37) (by decide +kernel)) (by decide +kernel)
theorem mw_5_47 : Cond.constantLong RX9 250 (10) ∈ BG := mB (t5 (i := 47) (by decide +kernel)) (by decide +kernel)
theorem mw_5_48 : Cond.constantLong RX9 252 (13) ∈ BG := mB (t5 (i := 48) (by decide +kernel)) (by decide +kernel)
theorem mw_5_53 : Cond.constantLong RX9 254 (40) ∈ BG := mB (t5 (i := 53) (by decide +kernel)) (by decide +kernel)
theorem mw_5_58 : Cond.constantLong RX9 256 (19) ∈ BG := mB (t5 (i := 58) (by decide +kernel)) (by decide +kernel)
theorem mw_5_59 : Cond.constantLong RX9 258 (20) ∈ BG := mB (t5 (i := 59) (by decide +kernel)) (by decide +kernel)
theorem mw_5_60 : Cond.constantLong RX9 260 (29) ∈ BG := mB (t5 (i := 60) (by decide +kernel)) (by decide +kernel)
theorem mw_3_195 : Cond.fieldLink RX9 44 "AnswerLinesModel" "signMany" "[I" ∈ BG := mB (t3 (i := 195) (by decide +kernel)) (by decide +kernel)
theorem dX9_whereIs_0 : decode cX9_whereIs 0 = .ok (.bipush (-6), 2) := by decide +kernel
theorem dX9_whereIs_2 : decode cX9_whereIs 2 = .ok (.istore_n 2, 1) := by decide +kernel
theorem dX9_whereIs_3 : decode cX9_whereIs 3 = .ok (.iconst 0, 1) := by decide +kernel
theorem dX9_whereIs_4 : decode cX9_whereIs 4 = .ok (.istore_n 3, 1) := by decide +kernel
theorem dX9_whereIs_5 : decode cX9_whereIs 5 = .ok (.iload_n 3, 1) := by decide +kernel
theorem dX9_whereIs_6 : decode cX9_whereIs 6 = .ok (.aload_n 0, 1) := by decide +kernel
theorem dX9_whereIs_7 : decode cX9_whereIs 7 = .ok (.getfield 228, 3) := by decide +kernel
theorem dX9_whereIs_10 : decode cX9_whereIs 10 = .ok (.if_icmp .ge 25, 3) := by decide +kernel
theorem dX9_whereIs_35 : decode cX9_whereIs 35 = .ok (.iload_n 2, 1) := by decide +kernel
theorem dX9_whereIs_36 : decode cX9_whereIs 36 = .ok (.ireturn, 1) := by decide +kernel
theorem dX9_whereIs_13 : decode cX9_whereIs 13 = .ok (.aload_n 0, 1) := by decide +kernel
theorem dX9_whereIs_14 : decode cX9_whereIs 14 = .ok (.getfield 83, 3) := by decide +kernel
theorem dX9_whereIs_17 : decode cX9_whereIs 17 = .ok (.iload_n 3, 1) := by decide +kernel
theorem dX9_whereIs_18 : decode cX9_whereIs 18 = .ok (.iaload, 1) := by decide +kernel
theorem dX9_whereIs_19 : decode cX9_whereIs 19 = .ok (.iload_n 1, 1) := by decide +kernel
theorem dX9_whereIs_20 : decode cX9_whereIs 20 = .ok (.if_icmp .ne 7, 3) := by decide +kernel
theorem dX9_whereIs_27 : decode cX9_whereIs 27 = .ok (.iload_n 2, 1) := by decide +kernel
theorem dX9_whereIs_28 : decode cX9_whereIs 28 = .ok (.istore_n 2, 1) := by decide +kernel
theorem dX9_whereIs_29 : decode cX9_whereIs 29 = .ok (.iinc 3 1, 3) := by decide +kernel
theorem dX9_whereIs_32 : decode cX9_whereIs 32 = .ok (.goto (-27), 3) := by decide +kernel
theorem dX9_whereIs_23 : decode cX9_whereIs 23 = .ok (.iload_n 3, 1) := by decide +kernel
theorem dX9_whereIs_24 : decode cX9_whereIs 24 = .ok (.goto 4, 3) := by decide +kernel
theorem dX9_takeOut_0 : decode cX9_takeOut 0 = .ok (.iload_n 1, 1) := by decide +kernel
theorem dX9_takeOut_1 : decode cX9_takeOut 1 = .ok (.istore_n 2, 1) := by decide +kernel
theorem dX9_takeOut_2 : decode cX9_takeOut 2 = .ok (.iload_n 2, 1) := by decide +kernel
theorem dX9_takeOut_3 : decode cX9_takeOut 3 = .ok (.aload_n 0, 1) := by decide +kernel
theorem dX9_takeOut_4 : decode cX9_takeOut 4 = .ok (.getfield 228, 3) := by decide +kernel
theorem dX9_takeOut_7 : decode cX9_takeOut 7 = .ok (.iconst 1, 1) := by decide +kernel
theorem dX9_takeOut_8 : decode cX9_takeOut 8 = .ok (.isub, 1) := by decide +kernel
theorem dX9_takeOut_9 : decode cX9_takeOut 9 = .ok (.if_icmp .ge 23, 3) := by decide +kernel
theorem dX9_takeOut_32 : decode cX9_takeOut 32 = .ok (.aload_n 0, 1) := by decide +kernel
theorem dX9_takeOut_33 : decode cX9_takeOut 33 = .ok (.dup, 1) := by decide +kernel
theorem dX9_takeOut_34 : decode cX9_takeOut 34 = .ok (.getfield 228, 3) := by decide +kernel
theorem dX9_takeOut_37 : decode cX9_takeOut 37 = .ok (.iconst 1, 1) := by decide +kernel
theorem dX9_takeOut_38 : decode cX9_takeOut 38 = .ok (.isub, 1) := by decide +kernel
theorem dX9_takeOut_39 : decode cX9_takeOut 39 = .ok (.putfield 228, 3) := by decide +kernel
theorem dX9_takeOut_42 : decode cX9_takeOut 42 = .ok (.return_, 1) := by decide +kernel
theorem dX9_takeOut_12 : decode cX9_takeOut 12 = .ok (.aload_n 0, 1) := by decide +kernel
theorem dX9_takeOut_13 : decode cX9_takeOut 13 = .ok (.getfield 83, 3) := by decide +kernel
theorem dX9_takeOut_16 : decode cX9_takeOut 16 = .ok (.iload_n 2, 1) := by decide +kernel
theorem dX9_takeOut_17 : decode cX9_takeOut 17 = .ok (.aload_n 0, 1) := by decide +kernel
theorem dX9_takeOut_18 : decode cX9_takeOut 18 = .ok (.getfield 83, 3) := by decide +kernel
theorem dX9_takeOut_21 : decode cX9_takeOut 21 = .ok (.iload_n 2, 1) := by decide +kernel
theorem dX9_takeOut_22 : decode cX9_takeOut 22 = .ok (.iconst 1, 1) := by decide +kernel
theorem dX9_takeOut_23 : decode cX9_takeOut 23 = .ok (.iadd, 1) := by decide +kernel
theorem dX9_takeOut_24 : decode cX9_takeOut 24 = .ok (.iaload, 1) := by decide +kernel
theorem dX9_takeOut_25 : decode cX9_takeOut 25 = .ok (.iastore, 1) := by decide +kernel
theorem dX9_takeOut_26 : decode cX9_takeOut 26 = .ok (.iinc 2 1, 3) := by decide +kernel
theorem dX9_takeOut_29 : decode cX9_takeOut 29 = .ok (.goto (-27), 3) := by decide +kernel
theorem dX9_putFirst_0 : decode cX9_putFirst 0 = .ok (.aload_n 0, 1) := by decide +kernel
theorem dX9_putFirst_1 : decode cX9_putFirst 1 = .ok (.getfield 228, 3) := by decide +kernel
theorem dX9_putFirst_4 : decode cX9_putFirst 4 = .ok (.istore_n 2, 1) := by decide +kernel
theorem dX9_putFirst_5 : decode cX9_putFirst 5 = .ok (.iload_n 2, 1) := by decide +kernel
theorem dX9_putFirst_6 : decode cX9_putFirst 6 = .ok (.ifCond .le 23, 3) := by decide +kernel
theorem dX9_putFirst_29 : decode cX9_putFirst 29 = .ok (.aload_n 0, 1) := by decide +kernel
theorem dX9_putFirst_30 : decode cX9_putFirst 30 = .ok (.getfield 83, 3) := by decide +kernel
theorem dX9_putFirst_33 : decode cX9_putFirst 33 = .ok (.iconst 0, 1) := by decide +kernel
theorem dX9_putFirst_34 : decode cX9_putFirst 34 = .ok (.iload_n 1, 1) := by decide +kernel
theorem dX9_putFirst_35 : decode cX9_putFirst 35 = .ok (.iastore, 1) := by decide +kernel
theorem dX9_putFirst_36 : decode cX9_putFirst 36 = .ok (.aload_n 0, 1) := by decide +kernel
theorem dX9_putFirst_37 : decode cX9_putFirst 37 = .ok (.dup, 1) := by decide +kernel
theorem dX9_putFirst_38 : decode cX9_putFirst 38 = .ok (.getfield 228, 3) := by decide +kernel
theorem dX9_putFirst_41 : decode cX9_putFirst 41 = .ok (.iconst 1, 1) := by decide +kernel
theorem dX9_putFirst_42 : decode cX9_putFirst 42 = .ok (.iadd, 1) := by decide +kernel
theorem dX9_putFirst_43 : decode cX9_putFirst 43 = .ok (.putfield 228, 3) := by decide +kernel
theorem dX9_putFirst_46 : decode cX9_putFirst 46 = .ok (.return_, 1) := by decide +kernel
theorem dX9_putFirst_9 : decode cX9_putFirst 9 = .ok (.aload_n 0, 1) := by decide +kernel
theorem dX9_putFirst_10 : decode cX9_putFirst 10 = .ok (.getfield 83, 3) := by decide +kernel
theorem dX9_putFirst_13 : decode cX9_putFirst 13 = .ok (.iload_n 2, 1) := by decide +kernel
theorem dX9_putFirst_14 : decode cX9_putFirst 14 = .ok (.aload_n 0, 1) := by decide +kernel
theorem dX9_putFirst_15 : decode cX9_putFirst 15 = .ok (.getfield 83, 3) := by decide +kernel
theorem dX9_putFirst_18 : decode cX9_putFirst 18 = .ok (.iload_n 2, 1) := by decide +kernel
theorem dX9_putFirst_19 : decode cX9_putFirst 19 = .ok (.iconst 1, 1) := by decide +kernel
theorem dX9_putFirst_20 : decode cX9_putFirst 20 = .ok (.isub, 1) := by decide +kernel
theorem dX9_putFirst_21 : decode cX9_putFirst 21 = .ok (.iaload, 1) := by decide +kernel
theorem dX9_putFirst_22 : decode cX9_putFirst 22 = .ok (.iastore, 1) := by decide +kernel
theorem dX9_putFirst_23 : decode cX9_putFirst 23 = .ok (.iinc 2 (-1), 3) := by decide +kernel
theorem dX9_putFirst_26 : decode cX9_putFirst 26 = .ok (.goto (-21), 3) := by decide +kernel
theorem dX9_nextCall_0 : decode cX9_nextCall 0 = .ok (.sipush 1000, 3) := by decide +kernel
theorem dX9_nextCall_3 : decode cX9_nextCall 3 = .ok (.istore 4, 2) := by decide +kernel
theorem dX9_nextCall_5 : decode cX9_nextCall 5 = .ok (.aload_n 0, 1) := by decide +kernel
theorem dX9_nextCall_6 : decode cX9_nextCall 6 = .ok (.getfield 223, 3) := by decide +kernel
theorem dX9_nextCall_9 : decode cX9_nextCall 9 = .ok (.iconst 1, 1) := by decide +kernel
theorem dX9_nextCall_10 : decode cX9_nextCall 10 = .ok (.isub, 1) := by decide +kernel
theorem dX9_nextCall_11 : decode cX9_nextCall 11 = .ok (.istore 5, 2) := by decide +kernel
theorem dX9_nextCall_13 : decode cX9_nextCall 13 = .ok (.iload 5, 2) := by decide +kernel
theorem dX9_nextCall_15 : decode cX9_nextCall 15 = .ok (.iload_n 3, 1) := by decide +kernel
theorem dX9_nextCall_16 : decode cX9_nextCall 16 = .ok (.if_icmp .le 40, 3) := by decide +kernel
theorem dX9_nextCall_56 : decode cX9_nextCall 56 = .ok (.iload 4, 2) := by decide +kernel
theorem dX9_nextCall_58 : decode cX9_nextCall 58 = .ok (.ireturn, 1) := by decide +kernel
theorem dX9_nextCall_19 : decode cX9_nextCall 19 = .ok (.aload_n 0, 1) := by decide +kernel
theorem dX9_nextCall_20 : decode cX9_nextCall 20 = .ok (.getfield 74, 3) := by decide +kernel
theorem dX9_nextCall_23 : decode cX9_nextCall 23 = .ok (.iload 5, 2) := by decide +kernel
theorem dX9_nextCall_25 : decode cX9_nextCall 25 = .ok (.iaload, 1) := by decide +kernel
theorem dX9_nextCall_26 : decode cX9_nextCall 26 = .ok (.iload_n 1, 1) := by decide +kernel
theorem dX9_nextCall_27 : decode cX9_nextCall 27 = .ok (.if_icmp .ne 19, 3) := by decide +kernel
theorem dX9_nextCall_46 : decode cX9_nextCall 46 = .ok (.iload 4, 2) := by decide +kernel
theorem dX9_nextCall_48 : decode cX9_nextCall 48 = .ok (.istore 4, 2) := by decide +kernel
theorem dX9_nextCall_50 : decode cX9_nextCall 50 = .ok (.iinc 5 (-1), 3) := by decide +kernel
theorem dX9_nextCall_53 : decode cX9_nextCall 53 = .ok (.goto (-40), 3) := by decide +kernel
theorem dX9_nextCall_30 : decode cX9_nextCall 30 = .ok (.aload_n 0, 1) := by decide +kernel
theorem dX9_nextCall_31 : decode cX9_nextCall 31 = .ok (.getfield 77, 3) := by decide +kernel
theorem dX9_nextCall_34 : decode cX9_nextCall 34 = .ok (.iload 5, 2) := by decide +kernel
theorem dX9_nextCall_36 : decode cX9_nextCall 36 = .ok (.iaload, 1) := by decide +kernel
theorem dX9_nextCall_37 : decode cX9_nextCall 37 = .ok (.iload_n 2, 1) := by decide +kernel
theorem dX9_nextCall_38 : decode cX9_nextCall 38 = .ok (.if_icmp .ne 8, 3) := by decide +kernel
theorem dX9_nextCall_41 : decode cX9_nextCall 41 = .ok (.iload 5, 2) := by decide +kernel
theorem dX9_nextCall_43 : decode cX9_nextCall 43 = .ok (.goto 5, 3) := by decide +kernel
theorem dX9_farthest_0 : decode cX9_farthest 0 = .ok (.iconst 0, 1) := by decide +kernel
theorem dX9_farthest_1 : decode cX9_farthest 1 = .ok (.istore_n 3, 1) := by decide +kernel
theorem dX9_farthest_2 : decode cX9_farthest 2 = .ok (.iconst 1, 1) := by decide +kernel
theorem dX9_farthest_3 : decode cX9_farthest 3 = .ok (.istore 4, 2) := by decide +kernel
theorem dX9_farthest_5 : decode cX9_farthest 5 = .ok (.iload 4, 2) := by decide +kernel
theorem dX9_farthest_7 : decode cX9_farthest 7 = .ok (.aload_n 0, 1) := by decide +kernel
theorem dX9_farthest_8 : decode cX9_farthest 8 = .ok (.getfield 228, 3) := by decide +kernel
theorem dX9_farthest_11 : decode cX9_farthest 11 = .ok (.if_icmp .ge 44, 3) := by decide +kernel
theorem dX9_farthest_55 : decode cX9_farthest 55 = .ok (.iload_n 3, 1) := by decide +kernel
theorem dX9_farthest_56 : decode cX9_farthest 56 = .ok (.ireturn, 1) := by decide +kernel
theorem dX9_farthest_14 : decode cX9_farthest 14 = .ok (.aload_n 0, 1) := by decide +kernel
theorem dX9_farthest_15 : decode cX9_farthest 15 = .ok (.iload_n 1, 1) := by decide +kernel
theorem dX9_farthest_16 : decode cX9_farthest 16 = .ok (.aload_n 0, 1) := by decide +kernel
theorem dX9_farthest_17 : decode cX9_farthest 17 = .ok (.getfield 83, 3) := by decide +kernel
theorem dX9_farthest_20 : decode cX9_farthest 20 = .ok (.iload 4, 2) := by decide +kernel
theorem dX9_farthest_22 : decode cX9_farthest 22 = .ok (.iaload, 1) := by decide +kernel
theorem dX9_farthest_23 : decode cX9_farthest 23 = .ok (.iload_n 2, 1) := by decide +kernel
theorem dX9_farthest_24 : decode cX9_farthest 24 = .ok (.invokevirtual 231, 3) := by decide +kernel
theorem dX9_farthest_27 : decode cX9_farthest 27 = .ok (.aload_n 0, 1) := by decide +kernel
theorem dX9_farthest_28 : decode cX9_farthest 28 = .ok (.iload_n 1, 1) := by decide +kernel
theorem dX9_farthest_29 : decode cX9_farthest 29 = .ok (.aload_n 0, 1) := by decide +kernel
theorem dX9_farthest_30 : decode cX9_farthest 30 = .ok (.getfield 83, 3) := by decide +kernel
theorem dX9_farthest_33 : decode cX9_farthest 33 = .ok (.iload_n 3, 1) := by decide +kernel
theorem dX9_farthest_34 : decode cX9_farthest 34 = .ok (.iaload, 1) := by decide +kernel
theorem dX9_farthest_35 : decode cX9_farthest 35 = .ok (.iload_n 2, 1) := by decide +kernel
theorem dX9_farthest_36 : decode cX9_farthest 36 = .ok (.invokevirtual 231, 3) := by decide +kernel
theorem dX9_farthest_39 : decode cX9_farthest 39 = .ok (.if_icmp .le 8, 3) := by decide +kernel
theorem dX9_farthest_47 : decode cX9_farthest 47 = .ok (.iload_n 3, 1) := by decide +kernel
theorem dX9_farthest_48 : decode cX9_farthest 48 = .ok (.istore_n 3, 1) := by decide +kernel
theorem dX9_farthest_49 : decode cX9_farthest 49 = .ok (.iinc 4 1, 3) := by decide +kernel
theorem dX9_farthest_52 : decode cX9_farthest 52 = .ok (.goto (-47), 3) := by decide +kernel
theorem dX9_farthest_42 : decode cX9_farthest 42 = .ok (.iload 4, 2) := by decide +kernel
theorem dX9_farthest_44 : decode cX9_farthest 44 = .ok (.goto 4, 3) := by decide +kernel
theorem dX9_hitsBy_0 : decode cX9_hitsBy 0 = .ok (.aload_n 0, 1) := by decide +kernel
theorem dX9_hitsBy_1 : decode cX9_hitsBy 1 = .ok (.iconst 0, 1) := by decide +kernel
theorem dX9_hitsBy_2 : decode cX9_hitsBy 2 = .ok (.putfield 228, 3) := by decide +kernel
theorem dX9_hitsBy_5 : decode cX9_hitsBy 5 = .ok (.iconst 0, 1) := by decide +kernel
theorem dX9_hitsBy_6 : decode cX9_hitsBy 6 = .ok (.istore 4, 2) := by decide +kernel
theorem dX9_hitsBy_8 : decode cX9_hitsBy 8 = .ok (.iconst 0, 1) := by decide +kernel
theorem dX9_hitsBy_9 : decode cX9_hitsBy 9 = .ok (.istore 5, 2) := by decide +kernel
theorem dX9_hitsBy_11 : decode cX9_hitsBy 11 = .ok (.iload 5, 2) := by decide +kernel
theorem dX9_hitsBy_13 : decode cX9_hitsBy 13 = .ok (.aload_n 0, 1) := by decide +kernel
theorem dX9_hitsBy_14 : decode cX9_hitsBy 14 = .ok (.getfield 223, 3) := by decide +kernel
theorem dX9_hitsBy_17 : decode cX9_hitsBy 17 = .ok (.if_icmp .ge 102, 3) := by decide +kernel
theorem dX9_hitsBy_119 : decode cX9_hitsBy 119 = .ok (.iload 4, 2) := by decide +kernel
theorem dX9_hitsBy_121 : decode cX9_hitsBy 121 = .ok (.ireturn, 1) := by decide +kernel
theorem dX9_hitsBy_20 : decode cX9_hitsBy 20 = .ok (.aload_n 0, 1) := by decide +kernel
theorem dX9_hitsBy_21 : decode cX9_hitsBy 21 = .ok (.getfield 74, 3) := by decide +kernel
theorem dX9_hitsBy_24 : decode cX9_hitsBy 24 = .ok (.iload 5, 2) := by decide +kernel
theorem dX9_hitsBy_26 : decode cX9_hitsBy 26 = .ok (.iaload, 1) := by decide +kernel
theorem dX9_hitsBy_27 : decode cX9_hitsBy 27 = .ok (.iload_n 1, 1) := by decide +kernel
theorem dX9_hitsBy_28 : decode cX9_hitsBy 28 = .ok (.if_icmp .ne 85, 3) := by decide +kernel
theorem dX9_hitsBy_113 : decode cX9_hitsBy 113 = .ok (.iinc 5 1, 3) := by decide +kernel
theorem dX9_hitsBy_116 : decode cX9_hitsBy 116 = .ok (.goto (-105), 3) := by decide +kernel
theorem dX9_hitsBy_31 : decode cX9_hitsBy 31 = .ok (.aload_n 0, 1) := by decide +kernel
theorem dX9_hitsBy_32 : decode cX9_hitsBy 32 = .ok (.aload_n 0, 1) := by decide +kernel
theorem dX9_hitsBy_33 : decode cX9_hitsBy 33 = .ok (.getfield 77, 3) := by decide +kernel
theorem dX9_hitsBy_36 : decode cX9_hitsBy 36 = .ok (.iload 5, 2) := by decide +kernel
theorem dX9_hitsBy_38 : decode cX9_hitsBy 38 = .ok (.iaload, 1) := by decide +kernel
theorem dX9_hitsBy_39 : decode cX9_hitsBy 39 = .ok (.invokevirtual 234, 3) := by decide +kernel
theorem dX9_hitsBy_42 : decode cX9_hitsBy 42 = .ok (.istore 6, 2) := by decide +kernel
theorem dX9_hitsBy_44 : decode cX9_hitsBy 44 = .ok (.iload 4, 2) := by decide +kernel
theorem dX9_hitsBy_46 : decode cX9_hitsBy 46 = .ok (.iload 6, 2) := by decide +kernel
theorem dX9_hitsBy_48 : decode cX9_hitsBy 48 = .ok (.ifCond .ge 7, 3) := by decide +kernel
theorem dX9_hitsBy_51 : decode cX9_hitsBy 51 = .ok (.iconst 0, 1) := by decide +kernel
theorem dX9_hitsBy_52 : decode cX9_hitsBy 52 = .ok (.goto 4, 3) := by decide +kernel
theorem dX9_hitsBy_56 : decode cX9_hitsBy 56 = .ok (.iadd, 1) := by decide +kernel
theorem dX9_hitsBy_57 : decode cX9_hitsBy 57 = .ok (.istore 4, 2) := by decide +kernel
theorem dX9_hitsBy_59 : decode cX9_hitsBy 59 = .ok (.iload 6, 2) := by decide +kernel
theorem dX9_hitsBy_61 : decode cX9_hitsBy 61 = .ok (.ifCond .lt 12, 3) := by decide +kernel
theorem dX9_hitsBy_73 : decode cX9_hitsBy 73 = .ok (.aload_n 0, 1) := by decide +kernel
theorem dX9_hitsBy_74 : decode cX9_hitsBy 74 = .ok (.getfield 228, 3) := by decide +kernel
theorem dX9_hitsBy_77 : decode cX9_hitsBy 77 = .ok (.iload_n 2, 1) := by decide +kernel
theorem dX9_hitsBy_78 : decode cX9_hitsBy 78 = .ok (.if_icmp .ne 24, 3) := by decide +kernel
theorem dX9_hitsBy_102 : decode cX9_hitsBy 102 = .ok (.aload_n 0, 1) := by decide +kernel
theorem dX9_hitsBy_103 : decode cX9_hitsBy 103 = .ok (.aload_n 0, 1) := by decide +kernel
theorem dX9_hitsBy_104 : decode cX9_hitsBy 104 = .ok (.getfield 77, 3) := by decide +kernel
theorem dX9_hitsBy_107 : decode cX9_hitsBy 107 = .ok (.iload 5, 2) := by decide +kernel
theorem dX9_hitsBy_109 : decode cX9_hitsBy 109 = .ok (.iaload, 1) := by decide +kernel
theorem dX9_hitsBy_110 : decode cX9_hitsBy 110 = .ok (.invokevirtual 243, 3) := by decide +kernel
theorem dX9_hitsBy_81 : decode cX9_hitsBy 81 = .ok (.aload_n 0, 1) := by decide +kernel
theorem dX9_hitsBy_82 : decode cX9_hitsBy 82 = .ok (.iload_n 3, 1) := by decide +kernel
theorem dX9_hitsBy_83 : decode cX9_hitsBy 83 = .ok (.ifCond .eq 13, 3) := by decide +kernel
theorem dX9_hitsBy_86 : decode cX9_hitsBy 86 = .ok (.aload_n 0, 1) := by decide +kernel
theorem dX9_hitsBy_87 : decode cX9_hitsBy 87 = .ok (.iload_n 1, 1) := by decide +kernel
theorem dX9_hitsBy_88 : decode cX9_hitsBy 88 = .ok (.iload 5, 2) := by decide +kernel
theorem dX9_hitsBy_90 : decode cX9_hitsBy 90 = .ok (.invokevirtual 240, 3) := by decide +kernel
theorem dX9_hitsBy_93 : decode cX9_hitsBy 93 = .ok (.goto 6, 3) := by decide +kernel
theorem dX9_hitsBy_99 : decode cX9_hitsBy 99 = .ok (.invokevirtual 237, 3) := by decide +kernel
theorem dX9_hitsBy_55 : decode cX9_hitsBy 55 = .ok (.iconst 1, 1) := by decide +kernel
theorem dX9_hitsBy_64 : decode cX9_hitsBy 64 = .ok (.aload_n 0, 1) := by decide +kernel
theorem dX9_hitsBy_65 : decode cX9_hitsBy 65 = .ok (.iload 6, 2) := by decide +kernel
theorem dX9_hitsBy_67 : decode cX9_hitsBy 67 = .ok (.invokevirtual 237, 3) := by decide +kernel
theorem dX9_hitsBy_70 : decode cX9_hitsBy 70 = .ok (.goto 32, 3) := by decide +kernel
theorem dX9_hitsBy_96 : decode cX9_hitsBy 96 = .ok (.iload_n 2, 1) := by decide +kernel
theorem dX9_hitsBy_97 : decode cX9_hitsBy 97 = .ok (.iconst 1, 1) := by decide +kernel
theorem dX9_hitsBy_98 : decode cX9_hitsBy 98 = .ok (.isub, 1) := by decide +kernel
theorem dX9_call_0 : decode cX9_call 0 = .ok (.iload_n 1, 1) := by decide +kernel
theorem dX9_call_1 : decode cX9_call 1 = .ok (.invokestatic 220, 3) := by decide +kernel
theorem dX9_call_4 : decode cX9_call 4 = .ok (.ifCond .eq 11, 3) := by decide +kernel
theorem dX9_call_7 : decode cX9_call 7 = .ok (.aload_n 0, 1) := by decide +kernel
theorem dX9_call_8 : decode cX9_call 8 = .ok (.iload_n 2, 1) := by decide +kernel
theorem dX9_call_9 : decode cX9_call 9 = .ok (.invokevirtual 96, 3) := by decide +kernel
theorem dX9_call_12 : decode cX9_call 12 = .ok (.ifCond .ne 5, 3) := by decide +kernel
theorem dX9_call_17 : decode cX9_call 17 = .ok (.aload_n 0, 1) := by decide +kernel
theorem dX9_call_18 : decode cX9_call 18 = .ok (.getfield 223, 3) := by decide +kernel
theorem dX9_call_21 : decode cX9_call 21 = .ok (.bipush 40, 2) := by decide +kernel
theorem dX9_call_23 : decode cX9_call 23 = .ok (.if_icmp .ne 6, 3) := by decide +kernel
theorem dX9_call_29 : decode cX9_call 29 = .ok (.aload_n 0, 1) := by decide +kernel
theorem dX9_call_30 : decode cX9_call 30 = .ok (.getfield 74, 3) := by decide +kernel
theorem dX9_call_33 : decode cX9_call 33 = .ok (.aload_n 0, 1) := by decide +kernel
theorem dX9_call_34 : decode cX9_call 34 = .ok (.getfield 223, 3) := by decide +kernel
theorem dX9_call_37 : decode cX9_call 37 = .ok (.iload_n 1, 1) := by decide +kernel
theorem dX9_call_38 : decode cX9_call 38 = .ok (.iastore, 1) := by decide +kernel
theorem dX9_call_39 : decode cX9_call 39 = .ok (.aload_n 0, 1) := by decide +kernel
theorem dX9_call_40 : decode cX9_call 40 = .ok (.getfield 77, 3) := by decide +kernel
theorem dX9_call_43 : decode cX9_call 43 = .ok (.aload_n 0, 1) := by decide +kernel
theorem dX9_call_44 : decode cX9_call 44 = .ok (.getfield 223, 3) := by decide +kernel
theorem dX9_call_47 : decode cX9_call 47 = .ok (.iload_n 2, 1) := by decide +kernel
theorem dX9_call_48 : decode cX9_call 48 = .ok (.iastore, 1) := by decide +kernel
theorem dX9_call_49 : decode cX9_call 49 = .ok (.aload_n 0, 1) := by decide +kernel
theorem dX9_call_50 : decode cX9_call 50 = .ok (.dup, 1) := by decide +kernel
theorem dX9_call_51 : decode cX9_call 51 = .ok (.getfield 223, 3) := by decide +kernel
theorem dX9_call_54 : decode cX9_call 54 = .ok (.iconst 1, 1) := by decide +kernel
theorem dX9_call_55 : decode cX9_call 55 = .ok (.iadd, 1) := by decide +kernel
theorem dX9_call_56 : decode cX9_call 56 = .ok (.putfield 223, 3) := by decide +kernel
theorem dX9_call_59 : decode cX9_call 59 = .ok (.aload_n 0, 1) := by decide +kernel
theorem dX9_call_60 : decode cX9_call 60 = .ok (.getfield 223, 3) := by decide +kernel
theorem dX9_call_63 : decode cX9_call 63 = .ok (.ireturn, 1) := by decide +kernel
theorem dX9_call_26 : decode cX9_call 26 = .ok (.bipush (-4), 2) := by decide +kernel
theorem dX9_call_28 : decode cX9_call 28 = .ok (.ireturn, 1) := by decide +kernel
theorem dX9_call_15 : decode cX9_call 15 = .ok (.iconst (-1), 1) := by decide +kernel
theorem dX9_call_16 : decode cX9_call 16 = .ok (.ireturn, 1) := by decide +kernel
theorem dX9_forget_0 : decode cX9_forget 0 = .ok (.aload_n 0, 1) := by decide +kernel
theorem dX9_forget_1 : decode cX9_forget 1 = .ok (.getfield 223, 3) := by decide +kernel
theorem dX9_forget_4 : decode cX9_forget 4 = .ok (.istore_n 1, 1) := by decide +kernel
theorem dX9_forget_5 : decode cX9_forget 5 = .ok (.aload_n 0, 1) := by decide +kernel
theorem dX9_forget_6 : decode cX9_forget 6 = .ok (.iconst 0, 1) := by decide +kernel
theorem dX9_forget_7 : decode cX9_forget 7 = .ok (.putfield 223, 3) := by decide +kernel
theorem dX9_forget_10 : decode cX9_forget 10 = .ok (.iload_n 1, 1) := by decide +kernel
theorem dX9_forget_11 : decode cX9_forget 11 = .ok (.ireturn, 1) := by decide +kernel
theorem dX9_size_0 : decode cX9_size 0 = .ok (.iload_n 1, 1) := by decide +kernel
theorem dX9_size_1 : decode cX9_size 1 = .ok (.invokestatic 220, 3) := by decide +kernel
theorem dX9_size_4 : decode cX9_size 4 = .ok (.ifCond .ne 5, 3) := by decide +kernel
theorem dX9_size_9 : decode cX9_size 9 = .ok (.iload_n 2, 1) := by decide +kernel
theorem dX9_size_10 : decode cX9_size 10 = .ok (.i2l, 1) := by decide +kernel
theorem dX9_size_11 : decode cX9_size 11 = .ok (.lconst 1, 1) := by decide +kernel
theorem dX9_size_12 : decode cX9_size 12 = .ok (.ldc2_w 226, 3) := by decide +kernel
theorem dX9_size_15 : decode cX9_size 15 = .ok (.invokestatic 90, 3) := by decide +kernel
theorem dX9_size_18 : decode cX9_size 18 = .ok (.ifCond .ne 6, 3) := by decide +kernel
theorem dX9_size_24 : decode cX9_size 24 = .ok (.aload_n 0, 1) := by decide +kernel
theorem dX9_size_25 : decode cX9_size 25 = .ok (.getfield 80, 3) := by decide +kernel
theorem dX9_size_28 : decode cX9_size 28 = .ok (.iload_n 1, 1) := by decide +kernel
theorem dX9_size_29 : decode cX9_size 29 = .ok (.iaload, 1) := by decide +kernel
theorem dX9_size_30 : decode cX9_size 30 = .ok (.istore_n 3, 1) := by decide +kernel
theorem dX9_size_31 : decode cX9_size 31 = .ok (.aload_n 0, 1) := by decide +kernel
theorem dX9_size_32 : decode cX9_size 32 = .ok (.getfield 80, 3) := by decide +kernel
theorem dX9_size_35 : decode cX9_size 35 = .ok (.iload_n 1, 1) := by decide +kernel
theorem dX9_size_36 : decode cX9_size 36 = .ok (.iload_n 2, 1) := by decide +kernel
theorem dX9_size_37 : decode cX9_size 37 = .ok (.iastore, 1) := by decide +kernel
theorem dX9_size_38 : decode cX9_size 38 = .ok (.iload_n 3, 1) := by decide +kernel
theorem dX9_size_39 : decode cX9_size 39 = .ok (.ireturn, 1) := by decide +kernel
theorem dX9_size_21 : decode cX9_size 21 = .ok (.bipush (-2), 2) := by decide +kernel
theorem dX9_size_23 : decode cX9_size 23 = .ok (.ireturn, 1) := by decide +kernel
theorem dX9_size_7 : decode cX9_size 7 = .ok (.iconst (-1), 1) := by decide +kernel
theorem dX9_size_8 : decode cX9_size 8 = .ok (.ireturn, 1) := by decide +kernel
theorem dX9_hits_0 : decode cX9_hits 0 = .ok (.iload_n 1, 1) := by decide +kernel
theorem dX9_hits_1 : decode cX9_hits 1 = .ok (.invokestatic 220, 3) := by decide +kernel
theorem dX9_hits_4 : decode cX9_hits 4 = .ok (.ifCond .ne 5, 3) := by decide +kernel
theorem dX9_hits_9 : decode cX9_hits 9 = .ok (.iconst 0, 1) := by decide +kernel
theorem dX9_hits_10 : decode cX9_hits 10 = .ok (.istore_n 3, 1) := by decide +kernel
theorem dX9_hits_11 : decode cX9_hits 11 = .ok (.iconst 0, 1) := by decide +kernel
theorem dX9_hits_12 : decode cX9_hits 12 = .ok (.istore 4, 2) := by decide +kernel
theorem dX9_hits_14 : decode cX9_hits 14 = .ok (.iload 4, 2) := by decide +kernel
theorem dX9_hits_16 : decode cX9_hits 16 = .ok (.aload_n 0, 1) := by decide +kernel
theorem dX9_hits_17 : decode cX9_hits 17 = .ok (.getfield 223, 3) := by decide +kernel
theorem dX9_hits_20 : decode cX9_hits 20 = .ok (.if_icmp .ge 28, 3) := by decide +kernel
theorem dX9_hits_48 : decode cX9_hits 48 = .ok (.iload_n 2, 1) := by decide +kernel
theorem dX9_hits_49 : decode cX9_hits 49 = .ok (.tableswitch 55 0 2 #[27, 29, 42], 27) := by decide +kernel
theorem dX9_hits_76 : decode cX9_hits 76 = .ok (.iload_n 3, 1) := by decide +kernel
theorem dX9_hits_77 : decode cX9_hits 77 = .ok (.ireturn, 1) := by decide +kernel
theorem dX9_hits_78 : decode cX9_hits 78 = .ok (.aload_n 0, 1) := by decide +kernel
theorem dX9_hits_79 : decode cX9_hits 79 = .ok (.iload_n 1, 1) := by decide +kernel
theorem dX9_hits_80 : decode cX9_hits 80 = .ok (.aload_n 0, 1) := by decide +kernel
theorem dX9_hits_81 : decode cX9_hits 81 = .ok (.getfield 80, 3) := by decide +kernel
theorem dX9_hits_84 : decode cX9_hits 84 = .ok (.iload_n 1, 1) := by decide +kernel
theorem dX9_hits_85 : decode cX9_hits 85 = .ok (.iaload, 1) := by decide +kernel
theorem dX9_hits_86 : decode cX9_hits 86 = .ok (.iconst 0, 1) := by decide +kernel
theorem dX9_hits_87 : decode cX9_hits 87 = .ok (.invokevirtual 246, 3) := by decide +kernel
theorem dX9_hits_90 : decode cX9_hits 90 = .ok (.ireturn, 1) := by decide +kernel
theorem dX9_hits_91 : decode cX9_hits 91 = .ok (.aload_n 0, 1) := by decide +kernel
theorem dX9_hits_92 : decode cX9_hits 92 = .ok (.iload_n 1, 1) := by decide +kernel
theorem dX9_hits_93 : decode cX9_hits 93 = .ok (.aload_n 0, 1) := by decide +kernel
theorem dX9_hits_94 : decode cX9_hits 94 = .ok (.getfield 80, 3) := by decide +kernel
theorem dX9_hits_97 : decode cX9_hits 97 = .ok (.iload_n 1, 1) := by decide +kernel
theorem dX9_hits_98 : decode cX9_hits 98 = .ok (.iaload, 1) := by decide +kernel
theorem dX9_hits_99 : decode cX9_hits 99 = .ok (.iconst 1, 1) := by decide +kernel
theorem dX9_hits_100 : decode cX9_hits 100 = .ok (.invokevirtual 246, 3) := by decide +kernel
theorem dX9_hits_103 : decode cX9_hits 103 = .ok (.ireturn, 1) := by decide +kernel
theorem dX9_hits_104 : decode cX9_hits 104 = .ok (.iload_n 2, 1) := by decide +kernel
theorem dX9_hits_105 : decode cX9_hits 105 = .ok (.i2l, 1) := by decide +kernel
theorem dX9_hits_106 : decode cX9_hits 106 = .ok (.ldc2_w 250, 3) := by decide +kernel
theorem dX9_hits_109 : decode cX9_hits 109 = .ok (.ldc2_w 252, 3) := by decide +kernel
theorem dX9_hits_112 : decode cX9_hits 112 = .ok (.invokestatic 90, 3) := by decide +kernel
theorem dX9_hits_115 : decode cX9_hits 115 = .ok (.ifCond .ne 6, 3) := by decide +kernel
theorem dX9_hits_121 : decode cX9_hits 121 = .ok (.aload_n 0, 1) := by decide +kernel
theorem dX9_hits_122 : decode cX9_hits 122 = .ok (.iload_n 1, 1) := by decide +kernel
theorem dX9_hits_123 : decode cX9_hits 123 = .ok (.aload_n 0, 1) := by decide +kernel
theorem dX9_hits_124 : decode cX9_hits 124 = .ok (.getfield 80, 3) := by decide +kernel
theorem dX9_hits_127 : decode cX9_hits 127 = .ok (.iload_n 1, 1) := by decide +kernel
theorem dX9_hits_128 : decode cX9_hits 128 = .ok (.iaload, 1) := by decide +kernel
theorem dX9_hits_129 : decode cX9_hits 129 = .ok (.iconst 0, 1) := by decide +kernel
theorem dX9_hits_130 : decode cX9_hits 130 = .ok (.invokevirtual 246, 3) := by decide +kernel
theorem dX9_hits_133 : decode cX9_hits 133 = .ok (.pop, 1) := by decide +kernel
theorem dX9_hits_134 : decode cX9_hits 134 = .ok (.iload_n 2, 1) := by decide +kernel
theorem dX9_hits_135 : decode cX9_hits 135 = .ok (.bipush 10, 2) := by decide +kernel
theorem dX9_hits_137 : decode cX9_hits 137 = .ok (.isub, 1) := by decide +kernel
theorem dX9_hits_138 : decode cX9_hits 138 = .ok (.aload_n 0, 1) := by decide +kernel
theorem dX9_hits_139 : decode cX9_hits 139 = .ok (.getfield 228, 3) := by decide +kernel
theorem dX9_hits_142 : decode cX9_hits 142 = .ok (.if_icmp .ge 15, 3) := by decide +kernel
theorem dX9_hits_157 : decode cX9_hits 157 = .ok (.bipush (-6), 2) := by decide +kernel
theorem dX9_hits_159 : decode cX9_hits 159 = .ok (.ireturn, 1) := by decide +kernel
theorem dX9_hits_145 : decode cX9_hits 145 = .ok (.aload_n 0, 1) := by decide +kernel
theorem dX9_hits_146 : decode cX9_hits 146 = .ok (.getfield 83, 3) := by decide +kernel
theorem dX9_hits_149 : decode cX9_hits 149 = .ok (.iload_n 2, 1) := by decide +kernel
theorem dX9_hits_150 : decode cX9_hits 150 = .ok (.bipush 10, 2) := by decide +kernel
theorem dX9_hits_152 : decode cX9_hits 152 = .ok (.isub, 1) := by decide +kernel
theorem dX9_hits_153 : decode cX9_hits 153 = .ok (.iaload, 1) := by decide +kernel
theorem dX9_hits_154 : decode cX9_hits 154 = .ok (.goto 5, 3) := by decide +kernel
theorem dX9_hits_118 : decode cX9_hits 118 = .ok (.bipush (-2), 2) := by decide +kernel
theorem dX9_hits_120 : decode cX9_hits 120 = .ok (.ireturn, 1) := by decide +kernel
theorem dX9_hits_23 : decode cX9_hits 23 = .ok (.iload_n 3, 1) := by decide +kernel
theorem dX9_hits_24 : decode cX9_hits 24 = .ok (.aload_n 0, 1) := by decide +kernel
theorem dX9_hits_25 : decode cX9_hits 25 = .ok (.getfield 74, 3) := by decide +kernel
theorem dX9_hits_28 : decode cX9_hits 28 = .ok (.iload 4, 2) := by decide +kernel
theorem dX9_hits_30 : decode cX9_hits 30 = .ok (.iaload, 1) := by decide +kernel
theorem dX9_hits_31 : decode cX9_hits 31 = .ok (.iload_n 1, 1) := by decide +kernel
theorem dX9_hits_32 : decode cX9_hits 32 = .ok (.if_icmp .ne 7, 3) := by decide +kernel
theorem dX9_hits_39 : decode cX9_hits 39 = .ok (.iconst 0, 1) := by decide +kernel
theorem dX9_hits_40 : decode cX9_hits 40 = .ok (.iadd, 1) := by decide +kernel
theorem dX9_hits_41 : decode cX9_hits 41 = .ok (.istore_n 3, 1) := by decide +kernel
theorem dX9_hits_42 : decode cX9_hits 42 = .ok (.iinc 4 1, 3) := by decide +kernel
theorem dX9_hits_45 : decode cX9_hits 45 = .ok (.goto (-31), 3) := by decide +kernel
theorem dX9_hits_35 : decode cX9_hits 35 = .ok (.iconst 1, 1) := by decide +kernel
theorem dX9_hits_36 : decode cX9_hits 36 = .ok (.goto 4, 3) := by decide +kernel
theorem dX9_hits_7 : decode cX9_hits 7 = .ok (.iconst (-1), 1) := by decide +kernel
theorem dX9_hits_8 : decode cX9_hits 8 = .ok (.ireturn, 1) := by decide +kernel
theorem dX9_need_0 : decode cX9_need 0 = .ok (.iload_n 1, 1) := by decide +kernel
theorem dX9_need_1 : decode cX9_need 1 = .ok (.invokestatic 220, 3) := by decide +kernel
theorem dX9_need_4 : decode cX9_need 4 = .ok (.ifCond .ne 5, 3) := by decide +kernel
theorem dX9_need_9 : decode cX9_need 9 = .ok (.iload_n 2, 1) := by decide +kernel
theorem dX9_need_10 : decode cX9_need 10 = .ok (.i2l, 1) := by decide +kernel
theorem dX9_need_11 : decode cX9_need 11 = .ok (.lconst 0, 1) := by decide +kernel
theorem dX9_need_12 : decode cX9_need 12 = .ok (.ldc2_w 254, 3) := by decide +kernel
theorem dX9_need_15 : decode cX9_need 15 = .ok (.invokestatic 90, 3) := by decide +kernel
theorem dX9_need_18 : decode cX9_need 18 = .ok (.ifCond .ne 6, 3) := by decide +kernel
theorem dX9_need_24 : decode cX9_need 24 = .ok (.iconst 1, 1) := by decide +kernel
theorem dX9_need_25 : decode cX9_need 25 = .ok (.istore_n 3, 1) := by decide +kernel
theorem dX9_need_26 : decode cX9_need 26 = .ok (.iload_n 3, 1) := by decide +kernel
theorem dX9_need_27 : decode cX9_need 27 = .ok (.iconst 4, 1) := by decide +kernel
theorem dX9_need_28 : decode cX9_need 28 = .ok (.if_icmp .gt 22, 3) := by decide +kernel
theorem dX9_need_31 : decode cX9_need 31 = .ok (.aload_n 0, 1) := by decide +kernel
theorem dX9_need_32 : decode cX9_need 32 = .ok (.iload_n 1, 1) := by decide +kernel
theorem dX9_need_33 : decode cX9_need 33 = .ok (.iload_n 3, 1) := by decide +kernel
theorem dX9_need_34 : decode cX9_need 34 = .ok (.iconst 0, 1) := by decide +kernel
theorem dX9_need_35 : decode cX9_need 35 = .ok (.invokevirtual 246, 3) := by decide +kernel
theorem dX9_need_38 : decode cX9_need 38 = .ok (.iload_n 2, 1) := by decide +kernel
theorem dX9_need_39 : decode cX9_need 39 = .ok (.if_icmp .lt 5, 3) := by decide +kernel
theorem dX9_need_44 : decode cX9_need 44 = .ok (.iinc 3 1, 3) := by decide +kernel
theorem dX9_need_47 : decode cX9_need 47 = .ok (.goto (-21), 3) := by decide +kernel
theorem dX9_need_50 : decode cX9_need 50 = .ok (.bipush (-6), 2) := by decide +kernel
theorem dX9_need_52 : decode cX9_need 52 = .ok (.ireturn, 1) := by decide +kernel
theorem dX9_need_42 : decode cX9_need 42 = .ok (.iload_n 3, 1) := by decide +kernel
theorem dX9_need_43 : decode cX9_need 43 = .ok (.ireturn, 1) := by decide +kernel
theorem dX9_need_21 : decode cX9_need 21 = .ok (.bipush (-2), 2) := by decide +kernel
theorem dX9_need_23 : decode cX9_need 23 = .ok (.ireturn, 1) := by decide +kernel
theorem dX9_need_7 : decode cX9_need 7 = .ok (.iconst (-1), 1) := by decide +kernel
theorem dX9_need_8 : decode cX9_need 8 = .ok (.ireturn, 1) := by decide +kernel
theorem dX9_told_0 : decode cX9_told 0 = .ok (.iload_n 1, 1) := by decide +kernel
theorem dX9_told_1 : decode cX9_told 1 = .ok (.i2l, 1) := by decide +kernel
theorem dX9_told_2 : decode cX9_told 2 = .ok (.ldc2_w 250, 3) := by decide +kernel
theorem dX9_told_5 : decode cX9_told 5 = .ok (.ldc2_w 256, 3) := by decide +kernel
theorem dX9_told_8 : decode cX9_told 8 = .ok (.invokestatic 90, 3) := by decide +kernel
theorem dX9_told_11 : decode cX9_told 11 = .ok (.ifCond .eq 28, 3) := by decide +kernel
theorem dX9_told_14 : decode cX9_told 14 = .ok (.aload_n 0, 1) := by decide +kernel
theorem dX9_told_15 : decode cX9_told 15 = .ok (.iload_n 1, 1) := by decide +kernel
theorem dX9_told_16 : decode cX9_told 16 = .ok (.bipush 10, 2) := by decide +kernel
theorem dX9_told_18 : decode cX9_told 18 = .ok (.isub, 1) := by decide +kernel
theorem dX9_told_19 : decode cX9_told 19 = .ok (.invokevirtual 96, 3) := by decide +kernel
theorem dX9_told_22 : decode cX9_told 22 = .ok (.ifCond .eq 15, 3) := by decide +kernel
theorem dX9_told_25 : decode cX9_told 25 = .ok (.aload_n 0, 1) := by decide +kernel
theorem dX9_told_26 : decode cX9_told 26 = .ok (.getfield 47, 3) := by decide +kernel
theorem dX9_told_29 : decode cX9_told 29 = .ok (.iload_n 1, 1) := by decide +kernel
theorem dX9_told_30 : decode cX9_told 30 = .ok (.bipush 10, 2) := by decide +kernel
theorem dX9_told_32 : decode cX9_told 32 = .ok (.isub, 1) := by decide +kernel
theorem dX9_told_33 : decode cX9_told 33 = .ok (.iaload, 1) := by decide +kernel
theorem dX9_told_34 : decode cX9_told 34 = .ok (.goto 4, 3) := by decide +kernel
theorem dX9_told_38 : decode cX9_told 38 = .ok (.ireturn, 1) := by decide +kernel
theorem dX9_told_37 : decode cX9_told 37 = .ok (.iconst 0, 1) := by decide +kernel
theorem dX9_told_39 : decode cX9_told 39 = .ok (.iload_n 1, 1) := by decide +kernel
theorem dX9_told_40 : decode cX9_told 40 = .ok (.i2l, 1) := by decide +kernel
theorem dX9_told_41 : decode cX9_told 41 = .ok (.ldc2_w 258, 3) := by decide +kernel
theorem dX9_told_44 : decode cX9_told 44 = .ok (.ldc2_w 260, 3) := by decide +kernel
theorem dX9_told_47 : decode cX9_told 47 = .ok (.invokestatic 90, 3) := by decide +kernel
theorem dX9_told_50 : decode cX9_told 50 = .ok (.ifCond .eq 32, 3) := by decide +kernel
theorem dX9_told_53 : decode cX9_told 53 = .ok (.aload_n 0, 1) := by decide +kernel
theorem dX9_told_54 : decode cX9_told 54 = .ok (.iload_n 1, 1) := by decide +kernel
theorem dX9_told_55 : decode cX9_told 55 = .ok (.bipush 20, 2) := by decide +kernel
theorem dX9_told_57 : decode cX9_told 57 = .ok (.isub, 1) := by decide +kernel
theorem dX9_told_58 : decode cX9_told 58 = .ok (.invokevirtual 96, 3) := by decide +kernel
theorem dX9_told_61 : decode cX9_told 61 = .ok (.ifCond .eq 19, 3) := by decide +kernel
theorem dX9_told_64 : decode cX9_told 64 = .ok (.aload_n 0, 1) := by decide +kernel
theorem dX9_told_65 : decode cX9_told 65 = .ok (.getfield 19, 3) := by decide +kernel
theorem dX9_told_68 : decode cX9_told 68 = .ok (.iload_n 1, 1) := by decide +kernel
theorem dX9_told_69 : decode cX9_told 69 = .ok (.bipush 20, 2) := by decide +kernel
theorem dX9_told_71 : decode cX9_told 71 = .ok (.isub, 1) := by decide +kernel
theorem dX9_told_72 : decode cX9_told 72 = .ok (.baload, 1) := by decide +kernel
theorem dX9_told_73 : decode cX9_told 73 = .ok (.ifCond .eq 7, 3) := by decide +kernel
theorem dX9_told_80 : decode cX9_told 80 = .ok (.iconst 0, 1) := by decide +kernel
theorem dX9_told_81 : decode cX9_told 81 = .ok (.ireturn, 1) := by decide +kernel
theorem dX9_told_76 : decode cX9_told 76 = .ok (.iconst 1, 1) := by decide +kernel
theorem dX9_told_77 : decode cX9_told 77 = .ok (.goto 4, 3) := by decide +kernel
theorem dX9_told_82 : decode cX9_told 82 = .ok (.iload_n 1, 1) := by decide +kernel
theorem dX9_told_83 : decode cX9_told 83 = .ok (.ifCond .ne 10, 3) := by decide +kernel
theorem dX9_told_93 : decode cX9_told 93 = .ok (.iload_n 1, 1) := by decide +kernel
theorem dX9_told_94 : decode cX9_told 94 = .ok (.iconst 1, 1) := by decide +kernel
theorem dX9_told_95 : decode cX9_told 95 = .ok (.if_icmp .ne 13, 3) := by decide +kernel
theorem dX9_told_108 : decode cX9_told 108 = .ok (.iload_n 1, 1) := by decide +kernel
theorem dX9_told_109 : decode cX9_told 109 = .ok (.iconst 2, 1) := by decide +kernel
theorem dX9_told_110 : decode cX9_told 110 = .ok (.if_icmp .ne 10, 3) := by decide +kernel
theorem dX9_told_120 : decode cX9_told 120 = .ok (.bipush (-2), 2) := by decide +kernel
theorem dX9_told_122 : decode cX9_told 122 = .ok (.ireturn, 1) := by decide +kernel
theorem dX9_told_113 : decode cX9_told 113 = .ok (.aload_n 0, 1) := by decide +kernel
theorem dX9_told_114 : decode cX9_told 114 = .ok (.getfield 223, 3) := by decide +kernel
theorem dX9_told_117 : decode cX9_told 117 = .ok (.goto 5, 3) := by decide +kernel
theorem dX9_told_98 : decode cX9_told 98 = .ok (.aload_n 0, 1) := by decide +kernel
theorem dX9_told_99 : decode cX9_told 99 = .ok (.getfield 44, 3) := by decide +kernel
theorem dX9_told_102 : decode cX9_told 102 = .ok (.bipush 80, 2) := by decide +kernel
theorem dX9_told_104 : decode cX9_told 104 = .ok (.iaload, 1) := by decide +kernel
theorem dX9_told_105 : decode cX9_told 105 = .ok (.goto 17, 3) := by decide +kernel
theorem dX9_told_86 : decode cX9_told 86 = .ok (.aload_n 0, 1) := by decide +kernel
theorem dX9_told_87 : decode cX9_told 87 = .ok (.getfield 86, 3) := by decide +kernel
theorem dX9_told_90 : decode cX9_told 90 = .ok (.goto 32, 3) := by decide +kernel
set_option maxHeartbeats 4000000 in
set_option maxRecDepth 100000 in
theorem m_whereIs (l : Launch) (dC : Nat → ClassId) (dI : Nat → Nat → Nat) (sz : Nat) (h0 : Nat) (w0 : Value) (w1 : Value) (w2 : Value) (w3 : Value) (w4 : Value) (w5 : Value) (w6 : Value) (w7 : Value) (w8 : Value) (w9 : Value) (w10 : Value) (w11 : Value) (w12 : Value) (w13 : Value) (w14 : Value) (w15 : Value) (w16 : Value) (w17 : Value) (w18 : Value) (w19 : Value) (w20 : Value) (w21 : Value) (w22 : Value) (w23 : Value) (w24 : Value) (w25 : Value) (w26 : Value) (w27 : Value) (w28 : Value) (w29 : Value) (w30 : Value) (w31 : Value) (w32 : Value) (q3 : Nat) (rq : Nat) (kq3 : ClassId) (fmr : Nat → Int32) (n : Int32) (hrq : rq ≤ 4) : Met l yX9_whereIs (wq yX9_whereIs cX9_whereIs 4 (some .int)) ({ frames := 0, cells := 0, slots := 0, locals := 0 }) (va_Pc [.ref h0, .int n] (pcW dC dI [(kq3, .int)] [(h0, .inr (8, [w0, w1, w2, w3, w4, w5, w6, w7, w8, w9, w10, w11, w12, w13, w14, w15, w16, w17, w18, w19, w20, w21, w22, w23, w24, w25, w26, w27, w28, w29, w30, w31, w32, .ref q3, .int (nI rq)])), (q3, .inl (kq3, 4, .inl fmr))] sz)) (va_Qi (fun (r : Int32) (_ : Unit) => r = lstF (recB fmr n) rq) (fun _ _ => True) (fun q : Nat => sz ≤ q)) 0 0 (fun q : Nat => sz ≤ q) := by
  refine Met.ofW (cc := cX9_whereIs) (maxL := 4) (ret := (some .int)) (by decide) rfl ?_
  intro p e s m args below meth c s₁ B hml hv
  obtain ⟨rfl, hsz, hN, hP, hK, hD0⟩ := hv
  have hx := B.exec
  have hb := B.bytes
  have hr := B.returns
  have hts0 := atoms_spec (ws := (wq yX9_whereIs cX9_whereIs 4 (some .int))) B.pre
  have hts : ∀ w ∈ BG, w.before _ s = true := fun w h => hts0 w (List.mem_cons_of_mem _ h)
  have hown : s.vm.findClass RX9 = some m.cls := findClass_of_methodNamed B.named
  have hlocks := B.notSynchronized
  subst hsz
  have hA : ∀ q : Nat, s.heap.size ≤ q → (fun q : Nat => s.heap.size ≤ q) q := fun _ h => h
  have hD := hD0
  have hS : va_S (fun q : Nat => s.heap.size ≤ q) s.heap s.heap [] := va_S.rf
  have hP : va_P (dC, dI) vwCl [(h0, .inr (8, [w0, w1, w2, w3, w4, w5, w6, w7, w8, w9, w10, w11, w12, w13, w14, w15, w16, w17, w18, w19, w20, w21, w22, w23, w24, w25, w26, w27, w28, w29, w30, w31, w32, .ref q3, .int (nI rq)])), (q3, .inl (kq3, 4, .inl fmr))] s.heap := hP
  have hl := lv_entry ([.ref h0, .int n]) (n := 4) (Nat.le_of_ble_eq_true rfl)
  rw [lg_entry_eq]
  generalize (lg_sl ([.ref h0, .int n]) ++ List.replicate (4 - (lg_sl ([.ref h0, .int n])).length) Slot.unset).toArray = ls at hl ⊢
  have hl : lv_has ls 4 [(0, .ref h0), (1, .int n)] := hl
  refine lv_bipush (v := (-6)) hx hb dX9_whereIs_0 (by decide) ?_
  refine lv_istore_n (lv' := [(2, .int (-6)), (0, .ref h0), (1, .int n)]) hx hb dX9_whereIs_2 rfl hl (by decide) rfl (fun ls hl => ?_)
  refine lv_iconst (v := 0) hx hb dX9_whereIs_3 (by decide) ?_
  refine lv_istore_n (lv' := [(3, .int 0), (2, .int (-6)), (0, .ref h0), (1, .int n)]) hx hb dX9_whereIs_4 rfl hl (by decide) rfl (fun ls hl => ?_)
  have key_1 : ∀ (fu : Nat) (i9 : Nat) (fd : Int32), (i9 ≤ rq) → (fd = lstF (recB fmr n) i9) → rq - i9 < fu → ∀ (H : Heap) (locs : List Loc), va_P (dC, dI) vwCl [(h0, .inr (8, [w0, w1, w2, w3, w4, w5, w6, w7, w8, w9, w10, w11, w12, w13, w14, w15, w16, w17, w18, w19, w20, w21, w22, w23, w24, w25, w26, w27, w28, w29, w30, w31, w32, .ref q3, .int (nI rq)])), (q3, .inl (kq3, 4, .inl fmr))] H → va_S (fun q : Nat => s.heap.size ≤ q) s.heap H locs → ∀ (ls : Array Slot), lv_has ls 4 [(3, .int (nI i9)), (2, .int fd), (0, .ref h0), (1, .int n)] → W p l e (headSpec (wq yX9_whereIs cX9_whereIs 4 (some .int)) ({ frames := 0, cells := 0, slots := 0, locals := 0 })).room s m (([.ref h0, .int n] : List Value)).toArray below meth c H locs 0 0 (MQ below (va_Qi (fun (r : Int32) (_ : Unit) => r = lstF (recB fmr n) rq) (fun _ _ => True) (fun q : Nat => s.heap.size ≤ q)) (([.ref h0, .int n] : List Value)).toArray s 0 0 (fun q : Nat => s.heap.size ≤ q)) (F0 m 5 ls []) := by
    intro fu
    induction fu with
    | zero => intro i9 fd hi9 hfd hme; exact absurd hme (Nat.not_lt_zero _)
    | succ fu ih_2 =>
      intro i9 fd hi9 hfd hme H locs hP hS ls hl
      refine lv_iload_n hx hb dX9_whereIs_5 rfl (lv_at hl 0 rfl) ?_
      refine lv_aload_n hx hb dX9_whereIs_6 rfl (lv_at hl 2 rfl) ?_
      refine va_get (D := (dC, dI)) (ci := 8) (v := .int (nI rq)) (C := RX9) (T := TX9) (N := 35) hx hb hts inB_9 hown hK hP 0 rfl rfl 34 (by decide) (hts _ mw_3_216) (fun _ h9 => h9) rfl dX9_whereIs_7 ?_
      refine lv_icmp_ge (tgt := 35) hx hb dX9_whereIs_10 (by decide) (fun c_3 => ?_) (fun c_3 => ?_)
      · have b_4 := gx_ge (X := ((i9 : Nat) : Int)) (C := ((rq : Nat) : Int)) (nI_toInt (by omega)) (nI_toInt (by omega)) c_3
        refine lv_iload_n hx hb dX9_whereIs_35 rfl (lv_at hl 1 rfl) ?_
        exact W.iret (v := fd) hx hb hr (fun t ht hW => ⟨⟨fd, (), rfl, (by rw [hfd, show i9 = rq from (by omega)]), trivial⟩, hS.F ht⟩) hS.2.2 dX9_whereIs_36
      · have b_4 := gn_ge (X := ((i9 : Nat) : Int)) (C := ((rq : Nat) : Int)) (nI_toInt (by omega)) (nI_toInt (by omega)) c_3
        refine lv_aload_n hx hb dX9_whereIs_13 rfl (lv_at hl 2 rfl) ?_
        refine va_get (D := (dC, dI)) (ci := 8) (v := .ref q3) (C := RX9) (T := TX9) (N := 35) hx hb hts inB_9 hown hK hP 0 rfl rfl 33 (by decide) (hts _ mw_3_215) (fun _ h9 => h9) rfl dX9_whereIs_14 ?_
        refine lv_iload_n hx hb dX9_whereIs_17 rfl (lv_at hl 0 rfl) ?_
        refine va_iald hx hb hK hP 1 0 rfl rfl (show vp_in (nI i9) 4 from vp_in_nI (by omega) (by omega)) dX9_whereIs_18 ?_
        refine hx_top (y := (fmr i9)) (congrArg _ (nI_clamp (by omega))) ?_
        refine lv_iload_n hx hb dX9_whereIs_19 rfl (lv_at hl 3 rfl) ?_
        refine lv_icmp_ne (tgt := 27) hx hb dX9_whereIs_20 (by decide) (fun c_5 => ?_) (fun c_5 => ?_)
        · have b_6 := gx_ne (X := (Int32.toInt (fmr i9))) (C := (Int32.toInt n)) rfl rfl c_5
          refine lv_iload_n hx hb dX9_whereIs_27 rfl (lv_at hl 1 rfl) ?_
          refine lv_istore_n (lv' := [(2, .int fd), (3, .int (nI i9)), (0, .ref h0), (1, .int n)]) hx hb dX9_whereIs_28 rfl hl (by decide) rfl (fun ls hl => ?_)
          refine lv_iinc (v := (nI (i9 + 1))) (lv' := [(3, .int (nI (i9 + 1))), (2, .int fd), (0, .ref h0), (1, .int n)]) hx hb dX9_whereIs_29 hl (k := 1) rfl (nI_add i9 1) (by decide) rfl (fun ls hl => ?_)
          refine lv_goto (tgt := 5) hx hb dX9_whereIs_32 (by decide) ?_
          exact ih_2 (i9 + 1) fd (by omega) (hfd.trans (if_neg (by rw [show recB fmr n i9 = false from decide_eq_false c_5]; decide)).symm) (by omega) _ _ hP hS ls (lv_sub hl [0, 1, 2, 3] rfl)
        · have b_6 := gn_ne (X := (Int32.toInt (fmr i9))) (C := (Int32.toInt n)) rfl rfl c_5
          refine lv_iload_n hx hb dX9_whereIs_23 rfl (lv_at hl 0 rfl) ?_
          refine lv_goto (tgt := 28) hx hb dX9_whereIs_24 (by decide) ?_
          refine lv_istore_n (lv' := [(2, .int (nI i9)), (3, .int (nI i9)), (0, .ref h0), (1, .int n)]) hx hb dX9_whereIs_28 rfl hl (by decide) rfl (fun ls hl => ?_)
          refine lv_iinc (v := (nI (i9 + 1))) (lv' := [(3, .int (nI (i9 + 1))), (2, .int (nI i9)), (0, .ref h0), (1, .int n)]) hx hb dX9_whereIs_29 hl (k := 1) rfl (nI_add i9 1) (by decide) rfl (fun ls hl => ?_)
          refine lv_goto (tgt := 5) hx hb dX9_whereIs_32 (by decide) ?_
          exact ih_2 (i9 + 1) (nI i9) (by omega) (if_pos (show recB fmr n i9 = true from decide_eq_true c_5)).symm (by omega) _ _ hP hS ls (lv_sub hl [0, 1, 2, 3] rfl)
  exact key_1 ((rq - 0) + 1) 0 (-6) (by omega) rfl (Nat.lt_succ_self _) _ _ hP hS ls (lv_sub hl [0, 1, 2, 3] rfl)
set_option maxHeartbeats 4000000 in
set_option maxRecDepth 100000 in
theorem m_takeOut (l : Launch) (dC : Nat → ClassId) (dI : Nat → Nat → Nat) (sz : Nat) (h0 : Nat) (w0 : Value) (w1 : Value) (w2 : Value) (w3 : Value) (w4 : Value) (w5 : Value) (w6 : Value) (w7 : Value) (w8 : Value) (w9 : Value) (w10 : Value) (w11 : Value) (w12 : Value) (w13 : Value) (w14 : Value) (w15 : Value) (w16 : Value) (w17 : Value) (w18 : Value) (w19 : Value) (w20 : Value) (w21 : Value) (w22 : Value) (w23 : Value) (w24 : Value) (w25 : Value) (w26 : Value) (w27 : Value) (w28 : Value) (w29 : Value) (w30 : Value) (w31 : Value) (w32 : Value) (q3 : Nat) (rq : Nat) (kq3 : ClassId) (fmr : Nat → Int32) (aq : Nat) (hrq : rq ≤ 4) (haq : aq < rq) : Met l yX9_takeOut (wq yX9_takeOut cX9_takeOut 3 none) ({ frames := 0, cells := 0, slots := 0, locals := 0 }) (va_Pc [.ref h0, .int (nI aq)] (pcW dC dI [(kq3, .int)] [(h0, .inr (8, [w0, w1, w2, w3, w4, w5, w6, w7, w8, w9, w10, w11, w12, w13, w14, w15, w16, w17, w18, w19, w20, w21, w22, w23, w24, w25, w26, w27, w28, w29, w30, w31, w32, .ref q3, .int (nI rq)])), (q3, .inl (kq3, 4, .inl fmr))] sz)) (va_Qv (fun _ : Unit => True) (fun _ t => ∃ (fmr2 : Nat → Int32), (fmr2 = toF fmr aq (rq - 1)) ∧ va_P (dC, dI) vwCl [(h0, .inr (8, [w0, w1, w2, w3, w4, w5, w6, w7, w8, w9, w10, w11, w12, w13, w14, w15, w16, w17, w18, w19, w20, w21, w22, w23, w24, w25, w26, w27, w28, w29, w30, w31, w32, .ref q3, .int (nI (rq - 1))])), (q3, .inl (kq3, 4, .inl fmr2))] t.heap ∧ va_K (dC, dI) vwCl [(kq3, .int)] t ∧ va_D (va_A [(h0, .inr (8, [w0, w1, w2, w3, w4, w5, w6, w7, w8, w9, w10, w11, w12, w13, w14, w15, w16, w17, w18, w19, w20, w21, w22, w23, w24, w25, w26, w27, w28, w29, w30, w31, w32, .ref q3, .int (nI rq)])), (q3, .inl (kq3, 4, .inl fmr))] sz) [(h0, .inr (8, [w0, w1, w2, w3, w4, w5, w6, w7, w8, w9, w10, w11, w12, w13, w14, w15, w16, w17, w18, w19, w20, w21, w22, w23, w24, w25, w26, w27, w28, w29, w30, w31, w32, .ref q3, .int (nI (rq - 1))])), (q3, .inl (kq3, 4, .inl fmr2))]) (va_A [(h0, .inr (8, [w0, w1, w2, w3, w4, w5, w6, w7, w8, w9, w10, w11, w12, w13, w14, w15, w16, w17, w18, w19, w20, w21, w22, w23, w24, w25, w26, w27, w28, w29, w30, w31, w32, .ref q3, .int (nI rq)])), (q3, .inl (kq3, 4, .inl fmr))] sz)) 0 0 (va_A [(h0, .inr (8, [w0, w1, w2, w3, w4, w5, w6, w7, w8, w9, w10, w11, w12, w13, w14, w15, w16, w17, w18, w19, w20, w21, w22, w23, w24, w25, w26, w27, w28, w29, w30, w31, w32, .ref q3, .int (nI rq)])), (q3, .inl (kq3, 4, .inl fmr))] sz) := by
  refine Met.ofW (cc := cX9_takeOut) (maxL := 3) (ret := none) (by decide) rfl ?_
  intro p e s m args below meth c s₁ B hml hv
  obtain ⟨rfl, hsz, hN, hP, hK, hD0⟩ := hv
  have hx := B.exec
  have hb := B.bytes
  have hr := B.returns
  have hts0 := atoms_spec (ws := (wq yX9_takeOut cX9_takeOut 3 none)) B.pre
  have hts : ∀ w ∈ BG, w.before _ s = true := fun w h => hts0 w (List.mem_cons_of_mem _ h)
  have hown : s.vm.findClass RX9 = some m.cls := findClass_of_methodNamed B.named
  have hlocks := B.notSynchronized
  subst hsz
  have hD := hD0.self (sz := s.heap.size)
  generalize hAe : va_A [(h0, .inr (8, [w0, w1, w2, w3, w4, w5, w6, w7, w8, w9, w10, w11, w12, w13, w14, w15, w16, w17, w18, w19, w20, w21, w22, w23, w24, w25, w26, w27, w28, w29, w30, w31, w32, .ref q3, .int (nI rq)])), (q3, .inl (kq3, 4, .inl fmr))] s.heap.size = A at hD ⊢
  have hA : ∀ q : Nat, s.heap.size ≤ q → A q := fun q h => by rw [← hAe]; exact Or.inr h
  have hS : va_S A s.heap s.heap [] := va_S.rf
  clear hAe hD0
  have hP : va_P (dC, dI) vwCl [(h0, .inr (8, [w0, w1, w2, w3, w4, w5, w6, w7, w8, w9, w10, w11, w12, w13, w14, w15, w16, w17, w18, w19, w20, w21, w22, w23, w24, w25, w26, w27, w28, w29, w30, w31, w32, .ref q3, .int (nI rq)])), (q3, .inl (kq3, 4, .inl fmr))] s.heap := hP
  have hl := lv_entry ([.ref h0, .int (nI aq)]) (n := 3) (Nat.le_of_ble_eq_true rfl)
  rw [lg_entry_eq]
  generalize (lg_sl ([.ref h0, .int (nI aq)]) ++ List.replicate (3 - (lg_sl ([.ref h0, .int (nI aq)])).length) Slot.unset).toArray = ls at hl ⊢
  have hl : lv_has ls 3 [(0, .ref h0), (1, .int (nI aq))] := hl
  refine lv_iload_n hx hb dX9_takeOut_0 rfl (lv_at hl 1 rfl) ?_
  refine lv_istore_n (lv' := [(2, .int (nI aq)), (0, .ref h0), (1, .int (nI aq))]) hx hb dX9_takeOut_1 rfl hl (by decide) rfl (fun ls hl => ?_)
  have key_1 : ∀ (fu : Nat) (i9 : Nat) (frx : Nat → Int32), (i9 ≤ rq - 1) → (aq ≤ i9) → (frx = toF fmr aq i9) → 4 - i9 < fu → ∀ (H : Heap) (locs : List Loc), va_P (dC, dI) vwCl [(h0, .inr (8, [w0, w1, w2, w3, w4, w5, w6, w7, w8, w9, w10, w11, w12, w13, w14, w15, w16, w17, w18, w19, w20, w21, w22, w23, w24, w25, w26, w27, w28, w29, w30, w31, w32, .ref q3, .int (nI rq)])), (q3, .inl (kq3, 4, .inl frx))] H → va_D A [(h0, .inr (8, [w0, w1, w2, w3, w4, w5, w6, w7, w8, w9, w10, w11, w12, w13, w14, w15, w16, w17, w18, w19, w20, w21, w22, w23, w24, w25, w26, w27, w28, w29, w30, w31, w32, .ref q3, .int (nI rq)])), (q3, .inl (kq3, 4, .inl frx))] → va_S A s.heap H locs → ∀ (ls : Array Slot), lv_has ls 3 [(2, .int (nI i9)), (0, .ref h0), (1, .int (nI aq))] → W p l e (headSpec (wq yX9_takeOut cX9_takeOut 3 none) ({ frames := 0, cells := 0, slots := 0, locals := 0 })).room s m (([.ref h0, .int (nI aq)] : List Value)).toArray below meth c H locs 0 0 (MQ below (va_Qv (fun _ : Unit => True) (fun _ t => ∃ (fmr2 : Nat → Int32), (fmr2 = toF fmr aq (rq - 1)) ∧ va_P (dC, dI) vwCl [(h0, .inr (8, [w0, w1, w2, w3, w4, w5, w6, w7, w8, w9, w10, w11, w12, w13, w14, w15, w16, w17, w18, w19, w20, w21, w22, w23, w24, w25, w26, w27, w28, w29, w30, w31, w32, .ref q3, .int (nI (rq - 1))])), (q3, .inl (kq3, 4, .inl fmr2))] t.heap ∧ va_K (dC, dI) vwCl [(kq3, .int)] t ∧ va_D A [(h0, .inr (8, [w0, w1, w2, w3, w4, w5, w6, w7, w8, w9, w10, w11, w12, w13, w14, w15, w16, w17, w18, w19, w20, w21, w22, w23, w24, w25, w26, w27, w28, w29, w30, w31, w32, .ref q3, .int (nI (rq - 1))])), (q3, .inl (kq3, 4, .inl fmr2))]) A) (([.ref h0, .int (nI aq)] : List Value)).toArray s 0 0 A) (F0 m 2 ls []) := by
    intro fu
    induction fu with
    | zero => intro i9 frx hi9 hi8 hto hme; exact absurd hme (Nat.not_lt_zero _)
    | succ fu ih_2 =>
      intro i9 frx hi9 hi8 hto hme H locs hP hD hS ls hl
      refine lv_iload_n hx hb dX9_takeOut_2 rfl (lv_at hl 0 rfl) ?_
      refine lv_aload_n hx hb dX9_takeOut_3 rfl (lv_at hl 1 rfl) ?_
      refine va_get (D := (dC, dI)) (ci := 8) (v := .int (nI rq)) (C := RX9) (T := TX9) (N := 35) hx hb hts inB_9 hown hK hP 0 rfl rfl 34 (by decide) (hts _ mw_3_216) (fun _ h9 => h9) rfl dX9_takeOut_4 ?_
      refine lv_iconst (v := 1) hx hb dX9_takeOut_7 (by decide) ?_
      refine lv_isub hx hb dX9_takeOut_8 ?_
      refine hx_top (y := (nI (rq - 1))) (pk_sub (a := rq) (b := 1) (by omega)) ?_
      refine lv_icmp_ge (tgt := 32) hx hb dX9_takeOut_9 (by decide) (fun c_3 => ?_) (fun c_3 => ?_)
      · have b_4 := gx_ge (X := ((i9 : Nat) : Int)) (C := (((rq - 1) : Nat) : Int)) (nI_toInt (by omega)) (nI_toInt (by omega)) c_3
        refine lv_aload_n hx hb dX9_takeOut_32 rfl (lv_at hl 1 rfl) ?_
        refine lv_dup hx hb dX9_takeOut_33 rfl ?_
        refine va_get (D := (dC, dI)) (ci := 8) (v := .int (nI rq)) (C := RX9) (T := TX9) (N := 35) hx hb hts inB_9 hown hK hP 0 rfl rfl 34 (by decide) (hts _ mw_3_216) (fun _ h9 => h9) rfl dX9_takeOut_34 ?_
        refine lv_iconst (v := 1) hx hb dX9_takeOut_37 (by decide) ?_
        refine lv_isub hx hb dX9_takeOut_38 ?_
        refine hx_top (y := (nI (rq - 1))) (pk_sub (a := rq) (b := 1) (by omega)) ?_
        refine va_put (D := (dC, dI)) (ci := 8) (v := .int (nI (rq - 1))) (ty := .int) (C := RX9) (T := TX9) (N := 35) hx hb hts inB_9 tyX9 tyX9_ok nmX9 hown hK hP hD hS 0 rfl rfl 34 (by decide) (hts _ mw_3_216) (fun _ h9 => h9) rfl (by decide +kernel) rfl rfl (Nat.le_of_ble_eq_true rfl) dX9_takeOut_39 (fun H locs hP hD hS => ?_)
        have hP : va_P (dC, dI) vwCl [(h0, .inr (8, [w0, w1, w2, w3, w4, w5, w6, w7, w8, w9, w10, w11, w12, w13, w14, w15, w16, w17, w18, w19, w20, w21, w22, w23, w24, w25, w26, w27, w28, w29, w30, w31, w32, .ref q3, .int (nI (rq - 1))])), (q3, .inl (kq3, 4, .inl frx))] H := hP
        have hD : va_D A [(h0, .inr (8, [w0, w1, w2, w3, w4, w5, w6, w7, w8, w9, w10, w11, w12, w13, w14, w15, w16, w17, w18, w19, w20, w21, w22, w23, w24, w25, w26, w27, w28, w29, w30, w31, w32, .ref q3, .int (nI (rq - 1))])), (q3, .inl (kq3, 4, .inl frx))] := hD
        have hP9 := hP.sub (ws' := [(h0, .inr (8, [w0, w1, w2, w3, w4, w5, w6, w7, w8, w9, w10, w11, w12, w13, w14, w15, w16, w17, w18, w19, w20, w21, w22, w23, w24, w25, w26, w27, w28, w29, w30, w31, w32, .ref q3, .int (nI (rq - 1))])), (q3, .inl (kq3, 4, .inl frx))]) [0, 1] rfl
        have hD9 := hD.sub (ws' := [(h0, .inr (8, [w0, w1, w2, w3, w4, w5, w6, w7, w8, w9, w10, w11, w12, w13, w14, w15, w16, w17, w18, w19, w20, w21, w22, w23, w24, w25, w26, w27, w28, w29, w30, w31, w32, .ref q3, .int (nI (rq - 1))])), (q3, .inl (kq3, 4, .inl frx))]) [0, 1] (by decide) rfl
        have hK9 := hK.sub (tys' := [(kq3, .int)]) [0] rfl
        exact W.vret hx hb hr (fun t ht hW => ⟨⟨(), rfl, trivial, frx, (by rw [hto, show i9 = rq - 1 from (by omega)]), by rw [ht]; exact hP9, va_K.moved hW.alike hK9, hD9⟩, hS.F ht⟩) hS.2.2 dX9_takeOut_42
      · have b_4 := gn_ge (X := ((i9 : Nat) : Int)) (C := (((rq - 1) : Nat) : Int)) (nI_toInt (by omega)) (nI_toInt (by omega)) c_3
        refine lv_aload_n hx hb dX9_takeOut_12 rfl (lv_at hl 1 rfl) ?_
        refine va_get (D := (dC, dI)) (ci := 8) (v := .ref q3) (C := RX9) (T := TX9) (N := 35) hx hb hts inB_9 hown hK hP 0 rfl rfl 33 (by decide) (hts _ mw_3_215) (fun _ h9 => h9) rfl dX9_takeOut_13 ?_
        refine lv_iload_n hx hb dX9_takeOut_16 rfl (lv_at hl 0 rfl) ?_
        refine lv_aload_n hx hb dX9_takeOut_17 rfl (lv_at hl 1 rfl) ?_
        refine va_get (D := (dC, dI)) (ci := 8) (v := .ref q3) (C := RX9) (T := TX9) (N := 35) hx hb hts inB_9 hown hK hP 0 rfl rfl 33 (by decide) (hts _ mw_3_215) (fun _ h9 => h9) rfl dX9_takeOut_18 ?_
        refine lv_iload_n hx hb dX9_takeOut_21 rfl (lv_at hl 0 rfl) ?_
        refine lv_iconst (v := 1) hx hb dX9_takeOut_22 (by decide) ?_
        refine lv_iadd hx hb dX9_takeOut_23 ?_
        refine hx_top (y := (nI (i9 + 1))) (nI_add i9 1) ?_
        refine va_iald hx hb hK hP 1 0 rfl rfl (show vp_in (nI (i9 + 1)) 4 from vp_in_nI (by omega) (by omega)) dX9_takeOut_24 ?_
        refine hx_top (y := (frx (i9 + 1))) (congrArg _ (nI_clamp (by omega))) ?_
        refine va_iast hx hb hK hP hD hS 1 0 rfl rfl (show vp_in (nI i9) 4 from vp_in_nI (by omega) (by omega)) dX9_takeOut_25 (fun H locs hP hD hS => ?_)
        obtain ⟨f_5, ef_5⟩ : ∃ g : Nat → Int32, g = upd frx (Int32.toNatClampNeg (nI i9)) (frx (i9 + 1)) := ⟨_, rfl⟩
        rw [← ef_5] at hP hD
        have ef_5 : f_5 = upd frx i9 (frx (i9 + 1)) := by rw [ef_5, nI_clamp (by omega)]
        have hP : va_P (dC, dI) vwCl [(h0, .inr (8, [w0, w1, w2, w3, w4, w5, w6, w7, w8, w9, w10, w11, w12, w13, w14, w15, w16, w17, w18, w19, w20, w21, w22, w23, w24, w25, w26, w27, w28, w29, w30, w31, w32, .ref q3, .int (nI rq)])), (q3, .inl (kq3, 4, .inl f_5))] H := hP
        have hD : va_D A [(h0, .inr (8, [w0, w1, w2, w3, w4, w5, w6, w7, w8, w9, w10, w11, w12, w13, w14, w15, w16, w17, w18, w19, w20, w21, w22, w23, w24, w25, w26, w27, w28, w29, w30, w31, w32, .ref q3, .int (nI rq)])), (q3, .inl (kq3, 4, .inl f_5))] := hD
        refine lv_iinc (v := (nI (i9 + 1))) (lv' := [(2, .int (nI (i9 + 1))), (0, .ref h0), (1, .int (nI aq))]) hx hb dX9_takeOut_26 hl (k := 0) rfl (nI_add i9 1) (by decide) rfl (fun ls hl => ?_)
        refine lv_goto (tgt := 2) hx hb dX9_takeOut_29 (by decide) ?_
        exact ih_2 (i9 + 1) f_5 (by omega) (by omega) (to_step hto (by omega) ef_5) (by omega) _ _ hP hD hS ls (lv_sub hl [0, 1, 2] rfl)
  exact key_1 ((4 - aq) + 1) aq fmr (by omega) (by omega) to_0 (Nat.lt_succ_self _) _ _ hP hD hS ls (lv_sub hl [0, 1, 2] rfl)
set_option maxHeartbeats 4000000 in
set_option maxRecDepth 100000 in
theorem m_putFirst (l : Launch) (dC : Nat → ClassId) (dI : Nat → Nat → Nat) (sz : Nat) (h0 : Nat) (w0 : Value) (w1 : Value) (w2 : Value) (w3 : Value) (w4 : Value) (w5 : Value) (w6 : Value) (w7 : Value) (w8 : Value) (w9 : Value) (w10 : Value) (w11 : Value) (w12 : Value) (w13 : Value) (w14 : Value) (w15 : Value) (w16 : Value) (w17 : Value) (w18 : Value) (w19 : Value) (w20 : Value) (w21 : Value) (w22 : Value) (w23 : Value) (w24 : Value) (w25 : Value) (w26 : Value) (w27 : Value) (w28 : Value) (w29 : Value) (w30 : Value) (w31 : Value) (w32 : Value) (q3 : Nat) (rq : Nat) (kq3 : ClassId) (fmr : Nat → Int32) (n : Int32) (hr3 : rq ≤ 3) : Met l yX9_putFirst (wq yX9_putFirst cX9_putFirst 3 none) ({ frames := 0, cells := 0, slots := 0, locals := 0 }) (va_Pc [.ref h0, .int n] (pcW dC dI [(kq3, .int)] [(h0, .inr (8, [w0, w1, w2, w3, w4, w5, w6, w7, w8, w9, w10, w11, w12, w13, w14, w15, w16, w17, w18, w19, w20, w21, w22, w23, w24, w25, w26, w27, w28, w29, w30, w31, w32, .ref q3, .int (nI rq)])), (q3, .inl (kq3, 4, .inl fmr))] sz)) (va_Qv (fun _ : Unit => True) (fun _ t => ∃ (fmr2 : Nat → Int32), (fmr2 = pfF fmr n rq) ∧ va_P (dC, dI) vwCl [(h0, .inr (8, [w0, w1, w2, w3, w4, w5, w6, w7, w8, w9, w10, w11, w12, w13, w14, w15, w16, w17, w18, w19, w20, w21, w22, w23, w24, w25, w26, w27, w28, w29, w30, w31, w32, .ref q3, .int (nI (rq + 1))])), (q3, .inl (kq3, 4, .inl fmr2))] t.heap ∧ va_K (dC, dI) vwCl [(kq3, .int)] t ∧ va_D (va_A [(h0, .inr (8, [w0, w1, w2, w3, w4, w5, w6, w7, w8, w9, w10, w11, w12, w13, w14, w15, w16, w17, w18, w19, w20, w21, w22, w23, w24, w25, w26, w27, w28, w29, w30, w31, w32, .ref q3, .int (nI rq)])), (q3, .inl (kq3, 4, .inl fmr))] sz) [(h0, .inr (8, [w0, w1, w2, w3, w4, w5, w6, w7, w8, w9, w10, w11, w12, w13, w14, w15, w16, w17, w18, w19, w20, w21, w22, w23, w24, w25, w26, w27, w28, w29, w30, w31, w32, .ref q3, .int (nI (rq + 1))])), (q3, .inl (kq3, 4, .inl fmr2))]) (va_A [(h0, .inr (8, [w0, w1, w2, w3, w4, w5, w6, w7, w8, w9, w10, w11, w12, w13, w14, w15, w16, w17, w18, w19, w20, w21, w22, w23, w24, w25, w26, w27, w28, w29, w30, w31, w32, .ref q3, .int (nI rq)])), (q3, .inl (kq3, 4, .inl fmr))] sz)) 0 0 (va_A [(h0, .inr (8, [w0, w1, w2, w3, w4, w5, w6, w7, w8, w9, w10, w11, w12, w13, w14, w15, w16, w17, w18, w19, w20, w21, w22, w23, w24, w25, w26, w27, w28, w29, w30, w31, w32, .ref q3, .int (nI rq)])), (q3, .inl (kq3, 4, .inl fmr))] sz) := by
  refine Met.ofW (cc := cX9_putFirst) (maxL := 3) (ret := none) (by decide) rfl ?_
  intro p e s m args below meth c s₁ B hml hv
  obtain ⟨rfl, hsz, hN, hP, hK, hD0⟩ := hv
  have hx := B.exec
  have hb := B.bytes
  have hr := B.returns
  have hts0 := atoms_spec (ws := (wq yX9_putFirst cX9_putFirst 3 none)) B.pre
  have hts : ∀ w ∈ BG, w.before _ s = true := fun w h => hts0 w (List.mem_cons_of_mem _ h)
  have hown : s.vm.findClass RX9 = some m.cls := findClass_of_methodNamed B.named
  have hlocks := B.notSynchronized
  subst hsz
  have hD := hD0.self (sz := s.heap.size)
  generalize hAe : va_A [(h0, .inr (8, [w0, w1, w2, w3, w4, w5, w6, w7, w8, w9, w10, w11, w12, w13, w14, w15, w16, w17, w18, w19, w20, w21, w22, w23, w24, w25, w26, w27, w28, w29, w30, w31, w32, .ref q3, .int (nI rq)])), (q3, .inl (kq3, 4, .inl fmr))] s.heap.size = A at hD ⊢
  have hA : ∀ q : Nat, s.heap.size ≤ q → A q := fun q h => by rw [← hAe]; exact Or.inr h
  have hS : va_S A s.heap s.heap [] := va_S.rf
  clear hAe hD0
  have hP : va_P (dC, dI) vwCl [(h0, .inr (8, [w0, w1, w2, w3, w4, w5, w6, w7, w8, w9, w10, w11, w12, w13, w14, w15, w16, w17, w18, w19, w20, w21, w22, w23, w24, w25, w26, w27, w28, w29, w30, w31, w32, .ref q3, .int (nI rq)])), (q3, .inl (kq3, 4, .inl fmr))] s.heap := hP
  have hl := lv_entry ([.ref h0, .int n]) (n := 3) (Nat.le_of_ble_eq_true rfl)
  rw [lg_entry_eq]
  generalize (lg_sl ([.ref h0, .int n]) ++ List.replicate (3 - (lg_sl ([.ref h0, .int n])).length) Slot.unset).toArray = ls at hl ⊢
  have hl : lv_has ls 3 [(0, .ref h0), (1, .int n)] := hl
  refine lv_aload_n hx hb dX9_putFirst_0 rfl (lv_at hl 0 rfl) ?_
  refine va_get (D := (dC, dI)) (ci := 8) (v := .int (nI rq)) (C := RX9) (T := TX9) (N := 35) hx hb hts inB_9 hown hK hP 0 rfl rfl 34 (by decide) (hts _ mw_3_216) (fun _ h9 => h9) rfl dX9_putFirst_1 ?_
  refine lv_istore_n (lv' := [(2, .int (nI rq)), (0, .ref h0), (1, .int n)]) hx hb dX9_putFirst_4 rfl hl (by decide) rfl (fun ls hl => ?_)
  have key_1 : ∀ (fu : Nat) (i9 : Nat) (frx : Nat → Int32), (i9 ≤ rq) → (frx = sfF fmr rq i9) → i9 < fu → ∀ (H : Heap) (locs : List Loc), va_P (dC, dI) vwCl [(h0, .inr (8, [w0, w1, w2, w3, w4, w5, w6, w7, w8, w9, w10, w11, w12, w13, w14, w15, w16, w17, w18, w19, w20, w21, w22, w23, w24, w25, w26, w27, w28, w29, w30, w31, w32, .ref q3, .int (nI rq)])), (q3, .inl (kq3, 4, .inl frx))] H → va_D A [(h0, .inr (8, [w0, w1, w2, w3, w4, w5, w6, w7, w8, w9, w10, w11, w12, w13, w14, w15, w16, w17, w18, w19, w20, w21, w22, w23, w24, w25, w26, w27, w28, w29, w30, w31, w32, .ref q3, .int (nI rq)])), (q3, .inl (kq3, 4, .inl frx))] → va_S A s.heap H locs → ∀ (ls : Array Slot), lv_has ls 3 [(2, .int (nI i9)), (0, .ref h0), (1, .int n)] → W p l e (headSpec (wq yX9_putFirst cX9_putFirst 3 none) ({ frames := 0, cells := 0, slots := 0, locals := 0 })).room s m (([.ref h0, .int n] : List Value)).toArray below meth c H locs 0 0 (MQ below (va_Qv (fun _ : Unit => True) (fun _ t => ∃ (fmr2 : Nat → Int32), (fmr2 = pfF fmr n rq) ∧ va_P (dC, dI) vwCl [(h0, .inr (8, [w0, w1, w2, w3, w4, w5, w6, w7, w8, w9, w10, w11, w12, w13, w14, w15, w16, w17, w18, w19, w20, w21, w22, w23, w24, w25, w26, w27, w28, w29, w30, w31, w32, .ref q3, .int (nI (rq + 1))])), (q3, .inl (kq3, 4, .inl fmr2))] t.heap ∧ va_K (dC, dI) vwCl [(kq3, .int)] t ∧ va_D A [(h0, .inr (8, [w0, w1, w2, w3, w4, w5, w6, w7, w8, w9, w10, w11, w12, w13, w14, w15, w16, w17, w18, w19, w20, w21, w22, w23, w24, w25, w26, w27, w28, w29, w30, w31, w32, .ref q3, .int (nI (rq + 1))])), (q3, .inl (kq3, 4, .inl fmr2))]) A) (([.ref h0, .int n] : List Value)).toArray s 0 0 A) (F0 m 5 ls []) := by
    intro fu
    induction fu with
    | zero => intro i9 frx hi9 hsf hme; exact absurd hme (Nat.not_lt_zero _)
    | succ fu ih_2 =>
      intro i9 frx hi9 hsf hme H locs hP hD hS ls hl
      refine lv_iload_n hx hb dX9_putFirst_5 rfl (lv_at hl 0 rfl) ?_
      refine lv_if_le (tgt := 29) hx hb dX9_putFirst_6 (by decide) (fun c_3 => ?_) (fun c_3 => ?_)
      · have b_4 := gx_le (X := ((i9 : Nat) : Int)) (C := 0) (nI_toInt (by omega)) (by decide) c_3
        refine lv_aload_n hx hb dX9_putFirst_29 rfl (lv_at hl 1 rfl) ?_
        refine va_get (D := (dC, dI)) (ci := 8) (v := .ref q3) (C := RX9) (T := TX9) (N := 35) hx hb hts inB_9 hown hK hP 0 rfl rfl 33 (by decide) (hts _ mw_3_215) (fun _ h9 => h9) rfl dX9_putFirst_30 ?_
        refine lv_iconst (v := 0) hx hb dX9_putFirst_33 (by decide) ?_
        refine lv_iload_n hx hb dX9_putFirst_34 rfl (lv_at hl 2 rfl) ?_
        refine va_iast hx hb hK hP hD hS 1 0 rfl rfl (show vp_in 0 4 by unfold vp_in; decide) dX9_putFirst_35 (fun H locs hP hD hS => ?_)
        obtain ⟨f_5, ef_5⟩ : ∃ g : Nat → Int32, g = upd frx (Int32.toNatClampNeg 0) n := ⟨_, rfl⟩
        rw [← ef_5] at hP hD
        have ef_5 : f_5 = upd frx 0 n := ef_5
        have hP : va_P (dC, dI) vwCl [(h0, .inr (8, [w0, w1, w2, w3, w4, w5, w6, w7, w8, w9, w10, w11, w12, w13, w14, w15, w16, w17, w18, w19, w20, w21, w22, w23, w24, w25, w26, w27, w28, w29, w30, w31, w32, .ref q3, .int (nI rq)])), (q3, .inl (kq3, 4, .inl f_5))] H := hP
        have hD : va_D A [(h0, .inr (8, [w0, w1, w2, w3, w4, w5, w6, w7, w8, w9, w10, w11, w12, w13, w14, w15, w16, w17, w18, w19, w20, w21, w22, w23, w24, w25, w26, w27, w28, w29, w30, w31, w32, .ref q3, .int (nI rq)])), (q3, .inl (kq3, 4, .inl f_5))] := hD
        refine lv_aload_n hx hb dX9_putFirst_36 rfl (lv_at hl 1 rfl) ?_
        refine lv_dup hx hb dX9_putFirst_37 rfl ?_
        refine va_get (D := (dC, dI)) (ci := 8) (v := .int (nI rq)) (C := RX9) (T := TX9) (N := 35) hx hb hts inB_9 hown hK hP 0 rfl rfl 34 (by decide) (hts _ mw_3_216) (fun _ h9 => h9) rfl dX9_putFirst_38 ?_
        refine lv_iconst (v := 1) hx hb dX9_putFirst_41 (by decide) ?_
        refine lv_iadd hx hb dX9_putFirst_42 ?_
        refine hx_top (y := (nI (rq + 1))) (nI_add rq 1) ?_
        refine va_put (D := (dC, dI)) (ci := 8) (v := .int (nI (rq + 1))) (ty := .int) (C := RX9) (T := TX9) (N := 35) hx hb hts inB_9 tyX9 tyX9_ok nmX9 hown hK hP hD hS 0 rfl rfl 34 (by decide) (hts _ mw_3_216) (fun _ h9 => h9) rfl (by decide +kernel) rfl rfl (Nat.le_of_ble_eq_true rfl) dX9_putFirst_43 (fun H locs hP hD hS => ?_)
        have hP : va_P (dC, dI) vwCl [(h0, .inr (8, [w0, w1, w2, w3, w4, w5, w6, w7, w8, w9, w10, w11, w12, w13, w14, w15, w16, w17, w18, w19, w20, w21, w22, w23, w24, w25, w26, w27, w28, w29, w30, w31, w32, .ref q3, .int (nI (rq + 1))])), (q3, .inl (kq3, 4, .inl f_5))] H := hP
        have hD : va_D A [(h0, .inr (8, [w0, w1, w2, w3, w4, w5, w6, w7, w8, w9, w10, w11, w12, w13, w14, w15, w16, w17, w18, w19, w20, w21, w22, w23, w24, w25, w26, w27, w28, w29, w30, w31, w32, .ref q3, .int (nI (rq + 1))])), (q3, .inl (kq3, 4, .inl f_5))] := hD
        have hP9 := hP.sub (ws' := [(h0, .inr (8, [w0, w1, w2, w3, w4, w5, w6, w7, w8, w9, w10, w11, w12, w13, w14, w15, w16, w17, w18, w19, w20, w21, w22, w23, w24, w25, w26, w27, w28, w29, w30, w31, w32, .ref q3, .int (nI (rq + 1))])), (q3, .inl (kq3, 4, .inl f_5))]) [0, 1] rfl
        have hD9 := hD.sub (ws' := [(h0, .inr (8, [w0, w1, w2, w3, w4, w5, w6, w7, w8, w9, w10, w11, w12, w13, w14, w15, w16, w17, w18, w19, w20, w21, w22, w23, w24, w25, w26, w27, w28, w29, w30, w31, w32, .ref q3, .int (nI (rq + 1))])), (q3, .inl (kq3, 4, .inl f_5))]) [0, 1] (by decide) rfl
        have hK9 := hK.sub (tys' := [(kq3, .int)]) [0] rfl
        exact W.vret hx hb hr (fun t ht hW => ⟨⟨(), rfl, trivial, f_5, (sf_end (by rw [hsf, show i9 = 0 from (by omega)]) ef_5), by rw [ht]; exact hP9, va_K.moved hW.alike hK9, hD9⟩, hS.F ht⟩) hS.2.2 dX9_putFirst_46
      · have b_4 := gn_le (X := ((i9 : Nat) : Int)) (C := 0) (nI_toInt (by omega)) (by decide) c_3
        refine lv_aload_n hx hb dX9_putFirst_9 rfl (lv_at hl 1 rfl) ?_
        refine va_get (D := (dC, dI)) (ci := 8) (v := .ref q3) (C := RX9) (T := TX9) (N := 35) hx hb hts inB_9 hown hK hP 0 rfl rfl 33 (by decide) (hts _ mw_3_215) (fun _ h9 => h9) rfl dX9_putFirst_10 ?_
        refine lv_iload_n hx hb dX9_putFirst_13 rfl (lv_at hl 0 rfl) ?_
        refine lv_aload_n hx hb dX9_putFirst_14 rfl (lv_at hl 1 rfl) ?_
        refine va_get (D := (dC, dI)) (ci := 8) (v := .ref q3) (C := RX9) (T := TX9) (N := 35) hx hb hts inB_9 hown hK hP 0 rfl rfl 33 (by decide) (hts _ mw_3_215) (fun _ h9 => h9) rfl dX9_putFirst_15 ?_
        refine lv_iload_n hx hb dX9_putFirst_18 rfl (lv_at hl 0 rfl) ?_
        refine lv_iconst (v := 1) hx hb dX9_putFirst_19 (by decide) ?_
        refine lv_isub hx hb dX9_putFirst_20 ?_
        refine hx_top (y := (nI (i9 - 1))) (pk_sub (a := i9) (b := 1) (by omega)) ?_
        refine va_iald hx hb hK hP 1 0 rfl rfl (show vp_in (nI (i9 - 1)) 4 from vp_in_nI (by omega) (by omega)) dX9_putFirst_21 ?_
        refine hx_top (y := (frx (i9 - 1))) (congrArg _ (nI_clamp (by omega))) ?_
        refine va_iast hx hb hK hP hD hS 1 0 rfl rfl (show vp_in (nI i9) 4 from vp_in_nI (by omega) (by omega)) dX9_putFirst_22 (fun H locs hP hD hS => ?_)
        obtain ⟨f_6, ef_6⟩ : ∃ g : Nat → Int32, g = upd frx (Int32.toNatClampNeg (nI i9)) (frx (i9 - 1)) := ⟨_, rfl⟩
        rw [← ef_6] at hP hD
        have ef_6 : f_6 = upd frx i9 (frx (i9 - 1)) := by rw [ef_6, nI_clamp (by omega)]
        have hP : va_P (dC, dI) vwCl [(h0, .inr (8, [w0, w1, w2, w3, w4, w5, w6, w7, w8, w9, w10, w11, w12, w13, w14, w15, w16, w17, w18, w19, w20, w21, w22, w23, w24, w25, w26, w27, w28, w29, w30, w31, w32, .ref q3, .int (nI rq)])), (q3, .inl (kq3, 4, .inl f_6))] H := hP
        have hD : va_D A [(h0, .inr (8, [w0, w1, w2, w3, w4, w5, w6, w7, w8, w9, w10, w11, w12, w13, w14, w15, w16, w17, w18, w19, w20, w21, w22, w23, w24, w25, w26, w27, w28, w29, w30, w31, w32, .ref q3, .int (nI rq)])), (q3, .inl (kq3, 4, .inl f_6))] := hD
        refine lv_iinc (v := (nI (i9 - 1))) (lv' := [(2, .int (nI (i9 - 1))), (0, .ref h0), (1, .int n)]) hx hb dX9_putFirst_23 hl (k := 0) rfl (nx_m1 (by omega)) (by decide) rfl (fun ls hl => ?_)
        refine lv_goto (tgt := 5) hx hb dX9_putFirst_26 (by decide) ?_
        exact ih_2 (i9 - 1) f_6 (by omega) (sf_step hsf (by omega) (by omega) ef_6) (by omega) _ _ hP hD hS ls (lv_sub hl [0, 1, 2] rfl)
  exact key_1 (rq + 1) rq fmr (by omega) sf_0 (Nat.lt_succ_self _) _ _ hP hD hS ls (lv_sub hl [0, 1, 2] rfl)
set_option maxHeartbeats 4000000 in
set_option maxRecDepth 100000 in
theorem m_nextCall (l : Launch) (dC : Nat → ClassId) (dI : Nat → Nat → Nat) (sz : Nat) (h0 : Nat) (w0 : Value) (w1 : Value) (w2 : Value) (w3 : Value) (w4 : Value) (w5 : Value) (w6 : Value) (w7 : Value) (w8 : Value) (w9 : Value) (w10 : Value) (w11 : Value) (w12 : Value) (w13 : Value) (w14 : Value) (w15 : Value) (w16 : Value) (w17 : Value) (w18 : Value) (w19 : Value) (w20 : Value) (w21 : Value) (w22 : Value) (w23 : Value) (w24 : Value) (w25 : Value) (w26 : Value) (w27 : Value) (w28 : Value) (q1 : Nat) (q2 : Nat) (ca : Nat) (w32 : Value) (w33 : Value) (w34 : Value) (kq1 : ClassId) (fmp : Nat → Int32) (kq2 : ClassId) (fmk : Nat → Int32) (n : Int32) (v : Int32) (bh : Nat) (hca : ca ≤ 40) (hbh : bh < ca) : Met l yX9_nextCall (wq yX9_nextCall cX9_nextCall 6 (some .int)) ({ frames := 0, cells := 0, slots := 0, locals := 0 }) (va_Pc [.ref h0, .int n, .int v, .int (nI bh)] (pcW dC dI [(kq1, .int), (kq2, .int)] [(h0, .inr (8, [w0, w1, w2, w3, w4, w5, w6, w7, w8, w9, w10, w11, w12, w13, w14, w15, w16, w17, w18, w19, w20, w21, w22, w23, w24, w25, w26, w27, w28, .ref q1, .ref q2, .int (nI ca), w32, w33, w34])), (q1, .inl (kq1, 40, .inl fmp)), (q2, .inl (kq2, 40, .inl fmk))] sz)) (va_Qi (fun (r : Int32) (_ : Unit) => r = nI (nxC fmp fmk n v bh ca)) (fun _ _ => True) (fun q : Nat => sz ≤ q)) 0 0 (fun q : Nat => sz ≤ q) := by
  refine Met.ofW (cc := cX9_nextCall) (maxL := 6) (ret := (some .int)) (by decide) rfl ?_
  intro p e s m args below meth c s₁ B hml hv
  obtain ⟨rfl, hsz, hN, hP, hK, hD0⟩ := hv
  have hx := B.exec
  have hb := B.bytes
  have hr := B.returns
  have hts0 := atoms_spec (ws := (wq yX9_nextCall cX9_nextCall 6 (some .int))) B.pre
  have hts : ∀ w ∈ BG, w.before _ s = true := fun w h => hts0 w (List.mem_cons_of_mem _ h)
  have hown : s.vm.findClass RX9 = some m.cls := findClass_of_methodNamed B.named
  have hlocks := B.notSynchronized
  subst hsz
  have hA : ∀ q : Nat, s.heap.size ≤ q → (fun q : Nat => s.heap.size ≤ q) q := fun _ h => h
  have hD := hD0
  have hS : va_S (fun q : Nat => s.heap.size ≤ q) s.heap s.heap [] := va_S.rf
  have hP : va_P (dC, dI) vwCl [(h0, .inr (8, [w0, w1, w2, w3, w4, w5, w6, w7, w8, w9, w10, w11, w12, w13, w14, w15, w16, w17, w18, w19, w20, w21, w22, w23, w24, w25, w26, w27, w28, .ref q1, .ref q2, .int (nI ca), w32, w33, w34])), (q1, .inl (kq1, 40, .inl fmp)), (q2, .inl (kq2, 40, .inl fmk))] s.heap := hP
  have hl := lv_entry ([.ref h0, .int n, .int v, .int (nI bh)]) (n := 6) (Nat.le_of_ble_eq_true rfl)
  rw [lg_entry_eq]
  generalize (lg_sl ([.ref h0, .int n, .int v, .int (nI bh)]) ++ List.replicate (6 - (lg_sl ([.ref h0, .int n, .int v, .int (nI bh)])).length) Slot.unset).toArray = ls at hl ⊢
  have hl : lv_has ls 6 [(0, .ref h0), (1, .int n), (2, .int v), (3, .int (nI bh))] := hl
  refine lv_sipush (v := 1000) hx hb dX9_nextCall_0 (by decide) ?_
  refine lv_istore (lv' := [(4, .int 1000), (0, .ref h0), (1, .int n), (2, .int v), (3, .int (nI bh))]) hx hb dX9_nextCall_3 hl (by decide) rfl (fun ls hl => ?_)
  refine lv_aload_n hx hb dX9_nextCall_5 rfl (lv_at hl 1 rfl) ?_
  refine va_get (D := (dC, dI)) (ci := 8) (v := .int (nI ca)) (C := RX9) (T := TX9) (N := 35) hx hb hts inB_9 hown hK hP 0 rfl rfl 31 (by decide) (hts _ mw_3_213) (fun _ h9 => h9) rfl dX9_nextCall_6 ?_
  refine lv_iconst (v := 1) hx hb dX9_nextCall_9 (by decide) ?_
  refine lv_isub hx hb dX9_nextCall_10 ?_
  refine hx_top (y := (nI (ca - 1))) (pk_sub (a := ca) (b := 1) (by omega)) ?_
  refine lv_istore (lv' := [(5, .int (nI (ca - 1))), (4, .int 1000), (0, .ref h0), (1, .int n), (2, .int v), (3, .int (nI bh))]) hx hb dX9_nextCall_11 hl (by decide) rfl (fun ls hl => ?_)
  have key_1 : ∀ (fu : Nat) (c5 : Nat) (af : Nat), (c5 < ca) → (bh ≤ c5) → (af ≤ 1000) → (ncF fmp fmk n v bh (c5 - bh) af = nxC fmp fmk n v bh ca) → c5 < fu → ∀ (H : Heap) (locs : List Loc), va_P (dC, dI) vwCl [(h0, .inr (8, [w0, w1, w2, w3, w4, w5, w6, w7, w8, w9, w10, w11, w12, w13, w14, w15, w16, w17, w18, w19, w20, w21, w22, w23, w24, w25, w26, w27, w28, .ref q1, .ref q2, .int (nI ca), w32, w33, w34])), (q1, .inl (kq1, 40, .inl fmp)), (q2, .inl (kq2, 40, .inl fmk))] H → va_S (fun q : Nat => s.heap.size ≤ q) s.heap H locs → ∀ (ls : Array Slot), lv_has ls 6 [(5, .int (nI c5)), (4, .int (nI af)), (0, .ref h0), (1, .int n), (2, .int v), (3, .int (nI bh))] → W p l e (headSpec (wq yX9_nextCall cX9_nextCall 6 (some .int)) ({ frames := 0, cells := 0, slots := 0, locals := 0 })).room s m (([.ref h0, .int n, .int v, .int (nI bh)] : List Value)).toArray below meth c H locs 0 0 (MQ below (va_Qi (fun (r : Int32) (_ : Unit) => r = nI (nxC fmp fmk n v bh ca)) (fun _ _ => True) (fun q : Nat => s.heap.size ≤ q)) (([.ref h0, .int n, .int v, .int (nI bh)] : List Value)).toArray s 0 0 (fun q : Nat => s.heap.size ≤ q)) (F0 m 13 ls []) := by
    intro fu
    induction fu with
    | zero => intro c5 af hc5 hcb haf hnc hme; exact absurd hme (Nat.not_lt_zero _)
    | succ fu ih_2 =>
      intro c5 af hc5 hcb haf hnc hme H locs hP hS ls hl
      refine lv_iload hx hb dX9_nextCall_13 (lv_at hl 0 rfl) ?_
      refine lv_iload_n hx hb dX9_nextCall_15 rfl (lv_at hl 5 rfl) ?_
      refine lv_icmp_le (tgt := 56) hx hb dX9_nextCall_16 (by decide) (fun c_3 => ?_) (fun c_3 => ?_)
      · have b_4 := gx_le (X := ((c5 : Nat) : Int)) (C := ((bh : Nat) : Int)) (nI_toInt (by omega)) (nI_toInt (by omega)) c_3
        refine lv_iload hx hb dX9_nextCall_56 (lv_at hl 1 rfl) ?_
        exact W.iret (v := (nI af)) hx hb hr (fun t ht hW => ⟨⟨(nI af), (), rfl, (congrArg nI (by rw [← hnc, show c5 - bh = 0 from (by omega)]; rfl)), trivial⟩, hS.F ht⟩) hS.2.2 dX9_nextCall_58
      · have b_4 := gn_le (X := ((c5 : Nat) : Int)) (C := ((bh : Nat) : Int)) (nI_toInt (by omega)) (nI_toInt (by omega)) c_3
        refine lv_aload_n hx hb dX9_nextCall_19 rfl (lv_at hl 2 rfl) ?_
        refine va_get (D := (dC, dI)) (ci := 8) (v := .ref q1) (C := RX9) (T := TX9) (N := 35) hx hb hts inB_9 hown hK hP 0 rfl rfl 29 (by decide) (hts _ mw_3_211) (fun _ h9 => h9) rfl dX9_nextCall_20 ?_
        refine lv_iload hx hb dX9_nextCall_23 (lv_at hl 0 rfl) ?_
        refine va_iald hx hb hK hP 1 0 rfl rfl (show vp_in (nI c5) 40 from vp_in_nI (by omega) (by omega)) dX9_nextCall_25 ?_
        refine hx_top (y := (fmp c5)) (congrArg _ (nI_clamp (by omega))) ?_
        refine lv_iload_n hx hb dX9_nextCall_26 rfl (lv_at hl 3 rfl) ?_
        refine lv_icmp_ne (tgt := 46) hx hb dX9_nextCall_27 (by decide) (fun c_5 => ?_) (fun c_5 => ?_)
        · have b_6 := gx_ne (X := (Int32.toInt (fmp c5))) (C := (Int32.toInt n)) rfl rfl c_5
          refine lv_iload hx hb dX9_nextCall_46 (lv_at hl 1 rfl) ?_
          refine lv_istore (lv' := [(4, .int (nI af)), (5, .int (nI c5)), (0, .ref h0), (1, .int n), (2, .int v), (3, .int (nI bh))]) hx hb dX9_nextCall_48 hl (by decide) rfl (fun ls hl => ?_)
          refine lv_iinc (v := (nI (c5 - 1))) (lv' := [(5, .int (nI (c5 - 1))), (4, .int (nI af)), (0, .ref h0), (1, .int n), (2, .int v), (3, .int (nI bh))]) hx hb dX9_nextCall_50 hl (k := 1) rfl (nx_m1 (by omega)) (by decide) rfl (fun ls hl => ?_)
          refine lv_goto (tgt := 13) hx hb dX9_nextCall_53 (by decide) ?_
          exact ih_2 (c5 - 1) af (by omega) (by omega) haf (nc_no hnc (by omega) (fun q => c_5 q.1)) (by omega) _ _ hP hS ls (lv_sub hl [0, 1, 2, 3, 4, 5] rfl)
        · have b_6 := gn_ne (X := (Int32.toInt (fmp c5))) (C := (Int32.toInt n)) rfl rfl c_5
          refine lv_aload_n hx hb dX9_nextCall_30 rfl (lv_at hl 2 rfl) ?_
          refine va_get (D := (dC, dI)) (ci := 8) (v := .ref q2) (C := RX9) (T := TX9) (N := 35) hx hb hts inB_9 hown hK hP 0 rfl rfl 30 (by decide) (hts _ mw_3_212) (fun _ h9 => h9) rfl dX9_nextCall_31 ?_
          refine lv_iload hx hb dX9_nextCall_34 (lv_at hl 0 rfl) ?_
          refine va_iald hx hb hK hP 2 1 rfl rfl (show vp_in (nI c5) 40 from vp_in_nI (by omega) (by omega)) dX9_nextCall_36 ?_
          refine hx_top (y := (fmk c5)) (congrArg _ (nI_clamp (by omega))) ?_
          refine lv_iload_n hx hb dX9_nextCall_37 rfl (lv_at hl 4 rfl) ?_
          refine lv_icmp_ne (tgt := 46) hx hb dX9_nextCall_38 (by decide) (fun c_7 => ?_) (fun c_7 => ?_)
          · have b_8 := gx_ne (X := (Int32.toInt (fmk c5))) (C := (Int32.toInt v)) rfl rfl c_7
            refine lv_iload hx hb dX9_nextCall_46 (lv_at hl 1 rfl) ?_
            refine lv_istore (lv' := [(4, .int (nI af)), (5, .int (nI c5)), (0, .ref h0), (1, .int n), (2, .int v), (3, .int (nI bh))]) hx hb dX9_nextCall_48 hl (by decide) rfl (fun ls hl => ?_)
            refine lv_iinc (v := (nI (c5 - 1))) (lv' := [(5, .int (nI (c5 - 1))), (4, .int (nI af)), (0, .ref h0), (1, .int n), (2, .int v), (3, .int (nI bh))]) hx hb dX9_nextCall_50 hl (k := 1) rfl (nx_m1 (by omega)) (by decide) rfl (fun ls hl => ?_)
            refine lv_goto (tgt := 13) hx hb dX9_nextCall_53 (by decide) ?_
            exact ih_2 (c5 - 1) af (by omega) (by omega) haf (nc_no hnc (by omega) (fun q => c_7 q.2)) (by omega) _ _ hP hS ls (lv_sub hl [0, 1, 2, 3, 4, 5] rfl)
          · have b_8 := gn_ne (X := (Int32.toInt (fmk c5))) (C := (Int32.toInt v)) rfl rfl c_7
            refine lv_iload hx hb dX9_nextCall_41 (lv_at hl 0 rfl) ?_
            refine lv_goto (tgt := 48) hx hb dX9_nextCall_43 (by decide) ?_
            refine lv_istore (lv' := [(4, .int (nI c5)), (5, .int (nI c5)), (0, .ref h0), (1, .int n), (2, .int v), (3, .int (nI bh))]) hx hb dX9_nextCall_48 hl (by decide) rfl (fun ls hl => ?_)
            refine lv_iinc (v := (nI (c5 - 1))) (lv' := [(5, .int (nI (c5 - 1))), (4, .int (nI c5)), (0, .ref h0), (1, .int n), (2, .int v), (3, .int (nI bh))]) hx hb dX9_nextCall_50 hl (k := 1) rfl (nx_m1 (by omega)) (by decide) rfl (fun ls hl => ?_)
            refine lv_goto (tgt := 13) hx hb dX9_nextCall_53 (by decide) ?_
            exact ih_2 (c5 - 1) c5 (by omega) (by omega) (by omega) (nc_yes hnc (by omega) ⟨c_5, c_7⟩) (by omega) _ _ hP hS ls (lv_sub hl [0, 1, 2, 3, 4, 5] rfl)
  exact key_1 ((ca - 1) + 1) (ca - 1) 1000 (by omega) (by omega) (by omega) (by rw [show ca - 1 - bh = ca - (bh + 1) from (by omega)]; rfl) (Nat.lt_succ_self _) _ _ hP hS ls (lv_sub hl [0, 1, 2, 3, 4, 5] rfl)
set_option maxHeartbeats 4000000 in
set_option maxRecDepth 100000 in
theorem m_farthest (l : Launch) (dC : Nat → ClassId) (dI : Nat → Nat → Nat) (sz : Nat) (h0 : Nat) (w0 : Value) (w1 : Value) (w2 : Value) (w3 : Value) (w4 : Value) (w5 : Value) (w6 : Value) (w7 : Value) (w8 : Value) (w9 : Value) (w10 : Value) (w11 : Value) (w12 : Value) (w13 : Value) (w14 : Value) (w15 : Value) (w16 : Value) (w17 : Value) (w18 : Value) (w19 : Value) (w20 : Value) (w21 : Value) (w22 : Value) (w23 : Value) (w24 : Value) (w25 : Value) (w26 : Value) (w27 : Value) (w28 : Value) (q1 : Nat) (q2 : Nat) (ca : Nat) (w32 : Value) (q3 : Nat) (rq : Nat) (kq1 : ClassId) (fmp : Nat → Int32) (kq2 : ClassId) (fmk : Nat → Int32) (kq3 : ClassId) (fmr : Nat → Int32) (n : Int32) (bh : Nat) (hca : ca ≤ 40) (hbh : bh < ca) (hrq : rq ≤ 4) (hr1 : 1 ≤ rq) : Met l yX9_farthest (wq yX9_farthest cX9_farthest 5 (some .int)) ({ frames := 1, cells := 0, slots := 0, locals := 25 }) (va_Pc [.ref h0, .int n, .int (nI bh)] (pcW dC dI [(kq1, .int), (kq2, .int), (kq3, .int)] [(h0, .inr (8, [w0, w1, w2, w3, w4, w5, w6, w7, w8, w9, w10, w11, w12, w13, w14, w15, w16, w17, w18, w19, w20, w21, w22, w23, w24, w25, w26, w27, w28, .ref q1, .ref q2, .int (nI ca), w32, .ref q3, .int (nI rq)])), (q1, .inl (kq1, 40, .inl fmp)), (q2, .inl (kq2, 40, .inl fmk)), (q3, .inl (kq3, 4, .inl fmr))] sz)) (va_Qi (fun (r : Int32) (_ : Unit) => r = nI (faF (fun i => nxC fmp fmk n (fmr i) bh ca) (rq - 1))) (fun _ _ => True) (fun q : Nat => sz ≤ q)) 0 0 (fun q : Nat => sz ≤ q) := by
  refine Met.ofW (cc := cX9_farthest) (maxL := 5) (ret := (some .int)) (by decide) rfl ?_
  intro p e s m args below meth c s₁ B hml hv
  obtain ⟨rfl, hsz, hN, hP, hK, hD0⟩ := hv
  have hx := B.exec
  have hb := B.bytes
  have hr := B.returns
  have hts0 := atoms_spec (ws := (wq yX9_farthest cX9_farthest 5 (some .int))) B.pre
  have hts : ∀ w ∈ BG, w.before _ s = true := fun w h => hts0 w (List.mem_cons_of_mem _ h)
  have hown : s.vm.findClass RX9 = some m.cls := findClass_of_methodNamed B.named
  have hlocks := B.notSynchronized
  subst hsz
  have hA : ∀ q : Nat, s.heap.size ≤ q → (fun q : Nat => s.heap.size ≤ q) q := fun _ h => h
  have hD := hD0
  have hS : va_S (fun q : Nat => s.heap.size ≤ q) s.heap s.heap [] := va_S.rf
  have hP : va_P (dC, dI) vwCl [(h0, .inr (8, [w0, w1, w2, w3, w4, w5, w6, w7, w8, w9, w10, w11, w12, w13, w14, w15, w16, w17, w18, w19, w20, w21, w22, w23, w24, w25, w26, w27, w28, .ref q1, .ref q2, .int (nI ca), w32, .ref q3, .int (nI rq)])), (q1, .inl (kq1, 40, .inl fmp)), (q2, .inl (kq2, 40, .inl fmk)), (q3, .inl (kq3, 4, .inl fmr))] s.heap := hP
  have hl := lv_entry ([.ref h0, .int n, .int (nI bh)]) (n := 5) (Nat.le_of_ble_eq_true rfl)
  rw [lg_entry_eq]
  generalize (lg_sl ([.ref h0, .int n, .int (nI bh)]) ++ List.replicate (5 - (lg_sl ([.ref h0, .int n, .int (nI bh)])).length) Slot.unset).toArray = ls at hl ⊢
  have hl : lv_has ls 5 [(0, .ref h0), (1, .int n), (2, .int (nI bh))] := hl
  refine lv_iconst (v := 0) hx hb dX9_farthest_0 (by decide) ?_
  refine lv_istore_n (lv' := [(3, .int 0), (0, .ref h0), (1, .int n), (2, .int (nI bh))]) hx hb dX9_farthest_1 rfl hl (by decide) rfl (fun ls hl => ?_)
  refine lv_iconst (v := 1) hx hb dX9_farthest_2 (by decide) ?_
  refine lv_istore (lv' := [(4, .int 1), (3, .int 0), (0, .ref h0), (1, .int n), (2, .int (nI bh))]) hx hb dX9_farthest_3 hl (by decide) rfl (fun ls hl => ?_)
  have key_1 : ∀ (fu : Nat) (i9 : Nat) (bq : Nat), (i9 ≤ rq) → (1 ≤ i9) → (bq < rq) → (bq = faF (fun i => nxC fmp fmk n (fmr i) bh ca) (i9 - 1)) → 4 - i9 < fu → ∀ (H : Heap) (locs : List Loc), va_P (dC, dI) vwCl [(h0, .inr (8, [w0, w1, w2, w3, w4, w5, w6, w7, w8, w9, w10, w11, w12, w13, w14, w15, w16, w17, w18, w19, w20, w21, w22, w23, w24, w25, w26, w27, w28, .ref q1, .ref q2, .int (nI ca), w32, .ref q3, .int (nI rq)])), (q1, .inl (kq1, 40, .inl fmp)), (q2, .inl (kq2, 40, .inl fmk)), (q3, .inl (kq3, 4, .inl fmr))] H → va_S (fun q : Nat => s.heap.size ≤ q) s.heap H locs → ∀ (ls : Array Slot), lv_has ls 5 [(4, .int (nI i9)), (3, .int (nI bq)), (0, .ref h0), (1, .int n), (2, .int (nI bh))] → W p l e (headSpec (wq yX9_farthest cX9_farthest 5 (some .int)) ({ frames := 1, cells := 0, slots := 0, locals := 25 })).room s m (([.ref h0, .int n, .int (nI bh)] : List Value)).toArray below meth c H locs 0 0 (MQ below (va_Qi (fun (r : Int32) (_ : Unit) => r = nI (faF (fun i => nxC fmp fmk n (fmr i) bh ca) (rq - 1))) (fun _ _ => True) (fun q : Nat => s.heap.size ≤ q)) (([.ref h0, .int n, .int (nI bh)] : List Value)).toArray s 0 0 (fun q : Nat => s.heap.size ≤ q)) (F0 m 5 ls []) := by
    intro fu
    induction fu with
    | zero => intro i9 bq hi9 hi1 hbq hfa hme; exact absurd hme (Nat.not_lt_zero _)
    | succ fu ih_2 =>
      intro i9 bq hi9 hi1 hbq hfa hme H locs hP hS ls hl
      refine lv_iload hx hb dX9_farthest_5 (lv_at hl 0 rfl) ?_
      refine lv_aload_n hx hb dX9_farthest_7 rfl (lv_at hl 2 rfl) ?_
      refine va_get (D := (dC, dI)) (ci := 8) (v := .int (nI rq)) (C := RX9) (T := TX9) (N := 35) hx hb hts inB_9 hown hK hP 0 rfl rfl 34 (by decide) (hts _ mw_3_216) (fun _ h9 => h9) rfl dX9_farthest_8 ?_
      refine lv_icmp_ge (tgt := 55) hx hb dX9_farthest_11 (by decide) (fun c_3 => ?_) (fun c_3 => ?_)
      · have b_4 := gx_ge (X := ((i9 : Nat) : Int)) (C := ((rq : Nat) : Int)) (nI_toInt (by omega)) (nI_toInt (by omega)) c_3
        refine lv_iload_n hx hb dX9_farthest_55 rfl (lv_at hl 1 rfl) ?_
        exact W.iret (v := (nI bq)) hx hb hr (fun t ht hW => ⟨⟨(nI bq), (), rfl, (congrArg nI (by rw [hfa, show i9 - 1 = rq - 1 from (by omega)])), trivial⟩, hS.F ht⟩) hS.2.2 dX9_farthest_56
      · have b_4 := gn_ge (X := ((i9 : Nat) : Int)) (C := ((rq : Nat) : Int)) (nI_toInt (by omega)) (nI_toInt (by omega)) c_3
        refine lv_aload_n hx hb dX9_farthest_14 rfl (lv_at hl 2 rfl) ?_
        refine lv_iload_n hx hb dX9_farthest_15 rfl (lv_at hl 3 rfl) ?_
        refine lv_aload_n hx hb dX9_farthest_16 rfl (lv_at hl 2 rfl) ?_
        refine va_get (D := (dC, dI)) (ci := 8) (v := .ref q3) (C := RX9) (T := TX9) (N := 35) hx hb hts inB_9 hown hK hP 0 rfl rfl 33 (by decide) (hts _ mw_3_215) (fun _ h9 => h9) rfl dX9_farthest_17 ?_
        refine lv_iload hx hb dX9_farthest_20 (lv_at hl 0 rfl) ?_
        refine va_iald hx hb hK hP 3 2 rfl rfl (show vp_in (nI i9) 4 from vp_in_nI (by omega) (by omega)) dX9_farthest_22 ?_
        refine hx_top (y := (fmr i9)) (congrArg _ (nI_clamp (by omega))) ?_
        refine lv_iload_n hx hb dX9_farthest_23 rfl (lv_at hl 4 rfl) ?_
        have hPc := hP.sub (ws' := [(h0, .inr (8, [w0, w1, w2, w3, w4, w5, w6, w7, w8, w9, w10, w11, w12, w13, w14, w15, w16, w17, w18, w19, w20, w21, w22, w23, w24, w25, w26, w27, w28, .ref q1, .ref q2, .int (nI ca), w32, .ref q3, .int (nI rq)])), (q1, .inl (kq1, 40, .inl fmp)), (q2, .inl (kq2, 40, .inl fmk))]) [0, 1, 2] rfl
        have hDc := hD.sub (ws' := [(h0, .inr (8, [w0, w1, w2, w3, w4, w5, w6, w7, w8, w9, w10, w11, w12, w13, w14, w15, w16, w17, w18, w19, w20, w21, w22, w23, w24, w25, w26, w27, w28, .ref q1, .ref q2, .int (nI ca), w32, .ref q3, .int (nI rq)])), (q1, .inl (kq1, 40, .inl fmp)), (q2, .inl (kq2, 40, .inl fmk))]) [0, 1, 2] (by decide) rfl
        have hKc := hK.sub (tys' := [(kq1, .int), (kq2, .int)]) [0, 1] rfl
        refine va_calli (va_runV (As := [.int n, .int (fmr i9), .int (nI bh)]) (rest := []) ⟨hx, hb, hml, hown, hts⟩ (m_nextCall l dC dI H.size h0 (w0) (w1) (w2) (w3) (w4) (w5) (w6) (w7) (w8) (w9) (w10) (w11) (w12) (w13) (w14) (w15) (w16) (w17) (w18) (w19) (w20) (w21) (w22) (w23) (w24) (w25) (w26) (w27) (w28) q1 q2 ca (w32) (.ref q3) (.int (nI rq)) kq1 fmp kq2 fmk n (fmr i9) bh hca hbh) (cwV 3 hts (gV mw_5_39 mw_5_41 mw_0_41 mw_1_9 mw_5_42) rfl rfl rfl (by decide +kernel) ⟨Nat.le_of_ble_eq_true rfl, Nat.le_of_ble_eq_true rfl⟩) ⟨pcW_blind, va_recv hKc hPc (ci := 8) (q0 := 0) rfl rfl, pcW_at hPc hKc hDc hN⟩ rfl rfl hl.1 rfl (lv_room (Nat.le_of_ble_eq_true rfl)) dX9_farthest_24 ⟨Nat.le_of_ble_eq_true rfl, Nat.le_of_ble_eq_true rfl⟩) hS (fun q h1 h2 => absurd h2 (Nat.not_le.mpr h1)) (fun q h => hA q (Nat.le_trans hS.1 h)) (fun r_5 u t H1 locs ht hvm hw_5 hB hz1 hk1 hS => ?_)
        have hP := keepP hP hk1
        clear hz1 hk1 hB ht hvm hPc hDc hKc
        generalize H1 = H at hP hS ⊢
        obtain rfl : r_5 = nI (nxC fmp fmk n (fmr i9) bh ca) := hw_5
        have b_6 := (nx_le hca hbh : nxC fmp fmk n (fmr i9) bh ca ≤ 1000)
        refine lv_aload_n hx hb dX9_farthest_27 rfl (lv_at hl 2 rfl) ?_
        refine lv_iload_n hx hb dX9_farthest_28 rfl (lv_at hl 3 rfl) ?_
        refine lv_aload_n hx hb dX9_farthest_29 rfl (lv_at hl 2 rfl) ?_
        refine va_get (D := (dC, dI)) (ci := 8) (v := .ref q3) (C := RX9) (T := TX9) (N := 35) hx hb hts inB_9 hown hK hP 0 rfl rfl 33 (by decide) (hts _ mw_3_215) (fun _ h9 => h9) rfl dX9_farthest_30 ?_
        refine lv_iload_n hx hb dX9_farthest_33 rfl (lv_at hl 1 rfl) ?_
        refine va_iald hx hb hK hP 3 2 rfl rfl (show vp_in (nI bq) 4 from vp_in_nI (by omega) (by omega)) dX9_farthest_34 ?_
        refine hx_top (y := (fmr bq)) (congrArg _ (nI_clamp (by omega))) ?_
        refine lv_iload_n hx hb dX9_farthest_35 rfl (lv_at hl 4 rfl) ?_
        have hPc := hP.sub (ws' := [(h0, .inr (8, [w0, w1, w2, w3, w4, w5, w6, w7, w8, w9, w10, w11, w12, w13, w14, w15, w16, w17, w18, w19, w20, w21, w22, w23, w24, w25, w26, w27, w28, .ref q1, .ref q2, .int (nI ca), w32, .ref q3, .int (nI rq)])), (q1, .inl (kq1, 40, .inl fmp)), (q2, .inl (kq2, 40, .inl fmk))]) [0, 1, 2] rfl
        have hDc := hD.sub (ws' := [(h0, .inr (8, [w0, w1, w2, w3, w4, w5, w6, w7, w8, w9, w10, w11, w12, w13, w14, w15, w16, w17, w18, w19, w20, w21, w22, w23, w24, w25, w26, w27, w28, .ref q1, .ref q2, .int (nI ca), w32, .ref q3, .int (nI rq)])), (q1, .inl (kq1, 40, .inl fmp)), (q2, .inl (kq2, 40, .inl fmk))]) [0, 1, 2] (by decide) rfl
        have hKc := hK.sub (tys' := [(kq1, .int), (kq2, .int)]) [0, 1] rfl
        refine va_calli (va_runV (As := [.int n, .int (fmr bq), .int (nI bh)]) (rest := [.int (nI (nxC fmp fmk n (fmr i9) bh ca))]) ⟨hx, hb, hml, hown, hts⟩ (m_nextCall l dC dI H.size h0 (w0) (w1) (w2) (w3) (w4) (w5) (w6) (w7) (w8) (w9) (w10) (w11) (w12) (w13) (w14) (w15) (w16) (w17) (w18) (w19) (w20) (w21) (w22) (w23) (w24) (w25) (w26) (w27) (w28) q1 q2 ca (w32) (.ref q3) (.int (nI rq)) kq1 fmp kq2 fmk n (fmr bq) bh hca hbh) (cwV 3 hts (gV mw_5_39 mw_5_41 mw_0_41 mw_1_9 mw_5_42) rfl rfl rfl (by decide +kernel) ⟨Nat.le_of_ble_eq_true rfl, Nat.le_of_ble_eq_true rfl⟩) ⟨pcW_blind, va_recv hKc hPc (ci := 8) (q0 := 0) rfl rfl, pcW_at hPc hKc hDc hN⟩ rfl rfl hl.1 rfl (lv_room (Nat.le_of_ble_eq_true rfl)) dX9_farthest_36 ⟨Nat.le_of_ble_eq_true rfl, Nat.le_of_ble_eq_true rfl⟩) hS (fun q h1 h2 => absurd h2 (Nat.not_le.mpr h1)) (fun q h => hA q (Nat.le_trans hS.1 h)) (fun r_7 u t H1 locs ht hvm hw_7 hB hz1 hk1 hS => ?_)
        have hP := keepP hP hk1
        clear hz1 hk1 hB ht hvm hPc hDc hKc
        generalize H1 = H at hP hS ⊢
        obtain rfl : r_7 = nI (nxC fmp fmk n (fmr bq) bh ca) := hw_7
        have b_8 := (nx_le hca hbh : nxC fmp fmk n (fmr bq) bh ca ≤ 1000)
        refine lv_icmp_le (tgt := 47) hx hb dX9_farthest_39 (by decide) (fun c_9 => ?_) (fun c_9 => ?_)
        · have b_10 := gx_le (X := ((nxC fmp fmk n (fmr i9) bh ca : Nat) : Int)) (C := ((nxC fmp fmk n (fmr bq) bh ca : Nat) : Int)) (nI_toInt (by omega)) (nI_toInt (by omega)) c_9
          refine lv_iload_n hx hb dX9_farthest_47 rfl (lv_at hl 1 rfl) ?_
          refine lv_istore_n (lv' := [(3, .int (nI bq)), (4, .int (nI i9)), (0, .ref h0), (1, .int n), (2, .int (nI bh))]) hx hb dX9_farthest_48 rfl hl (by decide) rfl (fun ls hl => ?_)
          refine lv_iinc (v := (nI (i9 + 1))) (lv' := [(4, .int (nI (i9 + 1))), (3, .int (nI bq)), (0, .ref h0), (1, .int n), (2, .int (nI bh))]) hx hb dX9_farthest_49 hl (k := 1) rfl (nI_add i9 1) (by decide) rfl (fun ls hl => ?_)
          refine lv_goto (tgt := 5) hx hb dX9_farthest_52 (by decide) ?_
          exact ih_2 (i9 + 1) bq (by omega) (by omega) hbq (fa_keep (g := (fun i => nxC fmp fmk n (fmr i) bh ca)) hfa (by omega) (by show ¬ nxC fmp fmk n (fmr bq) bh ca < nxC fmp fmk n (fmr i9) bh ca; omega)) (by omega) _ _ hP hS ls (lv_sub hl [0, 1, 2, 3, 4] rfl)
        · have b_10 := gn_le (X := ((nxC fmp fmk n (fmr i9) bh ca : Nat) : Int)) (C := ((nxC fmp fmk n (fmr bq) bh ca : Nat) : Int)) (nI_toInt (by omega)) (nI_toInt (by omega)) c_9
          refine lv_iload hx hb dX9_farthest_42 (lv_at hl 0 rfl) ?_
          refine lv_goto (tgt := 48) hx hb dX9_farthest_44 (by decide) ?_
          refine lv_istore_n (lv' := [(3, .int (nI i9)), (4, .int (nI i9)), (0, .ref h0), (1, .int n), (2, .int (nI bh))]) hx hb dX9_farthest_48 rfl hl (by decide) rfl (fun ls hl => ?_)
          refine lv_iinc (v := (nI (i9 + 1))) (lv' := [(4, .int (nI (i9 + 1))), (3, .int (nI i9)), (0, .ref h0), (1, .int n), (2, .int (nI bh))]) hx hb dX9_farthest_49 hl (k := 1) rfl (nI_add i9 1) (by decide) rfl (fun ls hl => ?_)
          refine lv_goto (tgt := 5) hx hb dX9_farthest_52 (by decide) ?_
          exact ih_2 (i9 + 1) i9 (by omega) (by omega) (by omega) (fa_step (g := (fun i => nxC fmp fmk n (fmr i) bh ca)) hfa (by omega) (by show nxC fmp fmk n (fmr bq) bh ca < nxC fmp fmk n (fmr i9) bh ca; omega)) (by omega) _ _ hP hS ls (lv_sub hl [0, 1, 2, 3, 4] rfl)
  exact key_1 ((4 - 1) + 1) 1 0 hr1 (by omega) (by omega) rfl (Nat.lt_succ_self _) _ _ hP hS ls (lv_sub hl [0, 1, 2, 3, 4] rfl)
set_option maxHeartbeats 4000000 in
set_option maxRecDepth 100000 in
theorem m_hitsB1 (l : Launch) (dC : Nat → ClassId) (dI : Nat → Nat → Nat) (sz : Nat) (h0 : Nat) (w0 : Value) (w1 : Value) (w2 : Value) (w3 : Value) (w4 : Value) (w5 : Value) (w6 : Value) (w7 : Value) (w8 : Value) (w9 : Value) (w10 : Value) (w11 : Value) (w12 : Value) (w13 : Value) (w14 : Value) (w15 : Value) (w16 : Value) (w17 : Value) (w18 : Value) (w19 : Value) (w20 : Value) (w21 : Value) (w22 : Value) (w23 : Value) (w24 : Value) (w25 : Value) (w26 : Value) (w27 : Value) (w28 : Value) (q1 : Nat) (q2 : Nat) (ca : Nat) (w32 : Value) (q3 : Nat) (rr : Int32) (kq1 : ClassId) (fmp : Nat → Int32) (kq2 : ClassId) (fmk : Nat → Int32) (kq3 : ClassId) (fmr : Nat → Int32) (n : Int32) (sq : Nat) (hca : ca ≤ 40) (hs1 : 1 ≤ sq) (hs4 : sq ≤ 4) : Met l yX9_hitsBy (wq yX9_hitsBy cX9_hitsBy 7 (some .int)) ({ frames := 2, cells := 0, slots := 0, locals := 49 }) (va_Pc [.ref h0, .int n, .int (nI sq), .int 1] (pcW dC dI [(kq1, .int), (kq2, .int), (kq3, .int)] [(h0, .inr (8, [w0, w1, w2, w3, w4, w5, w6, w7, w8, w9, w10, w11, w12, w13, w14, w15, w16, w17, w18, w19, w20, w21, w22, w23, w24, w25, w26, w27, w28, .ref q1, .ref q2, .int (nI ca), w32, .ref q3, .int rr])), (q1, .inl (kq1, 40, .inl fmp)), (q2, .inl (kq2, 40, .inl fmk)), (q3, .inl (kq3, 4, .inl fmr))] sz)) (va_Qi (fun (r : Int32) (_ : Unit) => ∃ q : Nat, r = nI q ∧ (q ≤ 40 ∧ q = (lruM fmp fmk n sq (fa1 fmp fmk n ca) fmr ca).2.2)) (fun _ t => ∃ (rq2 : Nat) (fmr2 : Nat → Int32), (rq2 ≤ 4) ∧ va_P (dC, dI) vwCl [(h0, .inr (8, [w0, w1, w2, w3, w4, w5, w6, w7, w8, w9, w10, w11, w12, w13, w14, w15, w16, w17, w18, w19, w20, w21, w22, w23, w24, w25, w26, w27, w28, .ref q1, .ref q2, .int (nI ca), w32, .ref q3, .int (nI rq2)])), (q1, .inl (kq1, 40, .inl fmp)), (q2, .inl (kq2, 40, .inl fmk)), (q3, .inl (kq3, 4, .inl fmr2))] t.heap ∧ va_K (dC, dI) vwCl [(kq1, .int), (kq2, .int), (kq3, .int)] t ∧ va_D (va_A [(h0, .inr (8, [w0, w1, w2, w3, w4, w5, w6, w7, w8, w9, w10, w11, w12, w13, w14, w15, w16, w17, w18, w19, w20, w21, w22, w23, w24, w25, w26, w27, w28, .ref q1, .ref q2, .int (nI ca), w32, .ref q3, .int rr])), (q1, .inl (kq1, 40, .inl fmp)), (q2, .inl (kq2, 40, .inl fmk)), (q3, .inl (kq3, 4, .inl fmr))] sz) [(h0, .inr (8, [w0, w1, w2, w3, w4, w5, w6, w7, w8, w9, w10, w11, w12, w13, w14, w15, w16, w17, w18, w19, w20, w21, w22, w23, w24, w25, w26, w27, w28, .ref q1, .ref q2, .int (nI ca), w32, .ref q3, .int (nI rq2)])), (q1, .inl (kq1, 40, .inl fmp)), (q2, .inl (kq2, 40, .inl fmk)), (q3, .inl (kq3, 4, .inl fmr2))]) (va_A [(h0, .inr (8, [w0, w1, w2, w3, w4, w5, w6, w7, w8, w9, w10, w11, w12, w13, w14, w15, w16, w17, w18, w19, w20, w21, w22, w23, w24, w25, w26, w27, w28, .ref q1, .ref q2, .int (nI ca), w32, .ref q3, .int rr])), (q1, .inl (kq1, 40, .inl fmp)), (q2, .inl (kq2, 40, .inl fmk)), (q3, .inl (kq3, 4, .inl fmr))] sz)) 0 0 (va_A [(h0, .inr (8, [w0, w1, w2, w3, w4, w5, w6, w7, w8, w9, w10, w11, w12, w13, w14, w15, w16, w17, w18, w19, w20, w21, w22, w23, w24, w25, w26, w27, w28, .ref q1, .ref q2, .int (nI ca), w32, .ref q3, .int rr])), (q1, .inl (kq1, 40, .inl fmp)), (q2, .inl (kq2, 40, .inl fmk)), (q3, .inl (kq3, 4, .inl fmr))] sz) := by
  refine Met.ofW (cc := cX9_hitsBy) (maxL := 7) (ret := (some .int)) (by decide) rfl ?_
  intro p e s m args below meth c s₁ B hml hv
  obtain ⟨rfl, hsz, hN, hP, hK, hD0⟩ := hv
  have hx := B.exec
  have hb := B.bytes
  have hr := B.returns
  have hts0 := atoms_spec (ws := (wq yX9_hitsBy cX9_hitsBy 7 (some .int))) B.pre
  have hts : ∀ w ∈ BG, w.before _ s = true := fun w h => hts0 w (List.mem_cons_of_mem _ h)
  have hown : s.vm.findClass RX9 = some m.cls := findClass_of_methodNamed B.named
  have hlocks := B.notSynchronized
  subst hsz
  have hD := hD0.self (sz := s.heap.size)
  generalize hAe : va_A [(h0, .inr (8, [w0, w1, w2, w3, w4, w5, w6, w7, w8, w9, w10, w11, w12, w13, w14, w15, w16, w17, w18, w19, w20, w21, w22, w23, w24, w25, w26, w27, w28, .ref q1, .ref q2, .int (nI ca), w32, .ref q3, .int rr])), (q1, .inl (kq1, 40, .inl fmp)), (q2, .inl (kq2, 40, .inl fmk)), (q3, .inl (kq3, 4, .inl fmr))] s.heap.size = A at hD ⊢
  have hA : ∀ q : Nat, s.heap.size ≤ q → A q := fun q h => by rw [← hAe]; exact Or.inr h
  have hS : va_S A s.heap s.heap [] := va_S.rf
  clear hAe hD0
  have hP : va_P (dC, dI) vwCl [(h0, .inr (8, [w0, w1, w2, w3, w4, w5, w6, w7, w8, w9, w10, w11, w12, w13, w14, w15, w16, w17, w18, w19, w20, w21, w22, w23, w24, w25, w26, w27, w28, .ref q1, .ref q2, .int (nI ca), w32, .ref q3, .int rr])), (q1, .inl (kq1, 40, .inl fmp)), (q2, .inl (kq2, 40, .inl fmk)), (q3, .inl (kq3, 4, .inl fmr))] s.heap := hP
  have hl := lv_entry ([.ref h0, .int n, .int (nI sq), .int 1]) (n := 7) (Nat.le_of_ble_eq_true rfl)
  rw [lg_entry_eq]
  generalize (lg_sl ([.ref h0, .int n, .int (nI sq), .int 1]) ++ List.replicate (7 - (lg_sl ([.ref h0, .int n, .int (nI sq), .int 1])).length) Slot.unset).toArray = ls at hl ⊢
  have hl : lv_has ls 7 [(0, .ref h0), (1, .int n), (2, .int (nI sq)), (3, .int 1)] := hl
  refine lv_aload_n hx hb dX9_hitsBy_0 rfl (lv_at hl 0 rfl) ?_
  refine lv_iconst (v := 0) hx hb dX9_hitsBy_1 (by decide) ?_
  refine va_put (D := (dC, dI)) (ci := 8) (v := .int 0) (ty := .int) (C := RX9) (T := TX9) (N := 35) hx hb hts inB_9 tyX9 tyX9_ok nmX9 hown hK hP hD hS 0 rfl rfl 34 (by decide) (hts _ mw_3_216) (fun _ h9 => h9) rfl (by decide +kernel) rfl rfl (Nat.le_of_ble_eq_true rfl) dX9_hitsBy_2 (fun H locs hP hD hS => ?_)
  have hP : va_P (dC, dI) vwCl [(h0, .inr (8, [w0, w1, w2, w3, w4, w5, w6, w7, w8, w9, w10, w11, w12, w13, w14, w15, w16, w17, w18, w19, w20, w21, w22, w23, w24, w25, w26, w27, w28, .ref q1, .ref q2, .int (nI ca), w32, .ref q3, .int 0])), (q1, .inl (kq1, 40, .inl fmp)), (q2, .inl (kq2, 40, .inl fmk)), (q3, .inl (kq3, 4, .inl fmr))] H := hP
  have hD : va_D A [(h0, .inr (8, [w0, w1, w2, w3, w4, w5, w6, w7, w8, w9, w10, w11, w12, w13, w14, w15, w16, w17, w18, w19, w20, w21, w22, w23, w24, w25, w26, w27, w28, .ref q1, .ref q2, .int (nI ca), w32, .ref q3, .int 0])), (q1, .inl (kq1, 40, .inl fmp)), (q2, .inl (kq2, 40, .inl fmk)), (q3, .inl (kq3, 4, .inl fmr))] := hD
  refine lv_iconst (v := 0) hx hb dX9_hitsBy_5 (by decide) ?_
  refine lv_istore (lv' := [(4, .int 0), (0, .ref h0), (1, .int n), (2, .int (nI sq)), (3, .int 1)]) hx hb dX9_hitsBy_6 hl (by decide) rfl (fun ls hl => ?_)
  refine lv_iconst (v := 0) hx hb dX9_hitsBy_8 (by decide) ?_
  refine lv_istore (lv' := [(5, .int 0), (4, .int 0), (0, .ref h0), (1, .int n), (2, .int (nI sq)), (3, .int 1)]) hx hb dX9_hitsBy_9 hl (by decide) rfl (fun ls hl => ?_)
  have key_1 : ∀ (fu : Nat) (k : Nat) (hn8 : Nat) (rqx : Nat) (frx : Nat → Int32), (k ≤ ca) → (rqx ≤ sq) → ((rqx, frx, hn8) = lruM fmp fmk n sq (fa1 fmp fmk n ca) fmr k) → (hn8 ≤ k) → ca - k < fu → ∀ (H : Heap) (locs : List Loc), va_P (dC, dI) vwCl [(h0, .inr (8, [w0, w1, w2, w3, w4, w5, w6, w7, w8, w9, w10, w11, w12, w13, w14, w15, w16, w17, w18, w19, w20, w21, w22, w23, w24, w25, w26, w27, w28, .ref q1, .ref q2, .int (nI ca), w32, .ref q3, .int (nI rqx)])), (q1, .inl (kq1, 40, .inl fmp)), (q2, .inl (kq2, 40, .inl fmk)), (q3, .inl (kq3, 4, .inl frx))] H → va_D A [(h0, .inr (8, [w0, w1, w2, w3, w4, w5, w6, w7, w8, w9, w10, w11, w12, w13, w14, w15, w16, w17, w18, w19, w20, w21, w22, w23, w24, w25, w26, w27, w28, .ref q1, .ref q2, .int (nI ca), w32, .ref q3, .int (nI rqx)])), (q1, .inl (kq1, 40, .inl fmp)), (q2, .inl (kq2, 40, .inl fmk)), (q3, .inl (kq3, 4, .inl frx))] → va_S A s.heap H locs → ∀ (ls : Array Slot), lv_has ls 7 [(5, .int (nI k)), (4, .int (nI hn8)), (0, .ref h0), (1, .int n), (2, .int (nI sq)), (3, .int 1)] → W p l e (headSpec (wq yX9_hitsBy cX9_hitsBy 7 (some .int)) ({ frames := 2, cells := 0, slots := 0, locals := 49 })).room s m (([.ref h0, .int n, .int (nI sq), .int 1] : List Value)).toArray below meth c H locs 0 0 (MQ below (va_Qi (fun (r : Int32) (_ : Unit) => ∃ q : Nat, r = nI q ∧ (q ≤ 40 ∧ q = (lruM fmp fmk n sq (fa1 fmp fmk n ca) fmr ca).2.2)) (fun _ t => ∃ (rq2 : Nat) (fmr2 : Nat → Int32), (rq2 ≤ 4) ∧ va_P (dC, dI) vwCl [(h0, .inr (8, [w0, w1, w2, w3, w4, w5, w6, w7, w8, w9, w10, w11, w12, w13, w14, w15, w16, w17, w18, w19, w20, w21, w22, w23, w24, w25, w26, w27, w28, .ref q1, .ref q2, .int (nI ca), w32, .ref q3, .int (nI rq2)])), (q1, .inl (kq1, 40, .inl fmp)), (q2, .inl (kq2, 40, .inl fmk)), (q3, .inl (kq3, 4, .inl fmr2))] t.heap ∧ va_K (dC, dI) vwCl [(kq1, .int), (kq2, .int), (kq3, .int)] t ∧ va_D A [(h0, .inr (8, [w0, w1, w2, w3, w4, w5, w6, w7, w8, w9, w10, w11, w12, w13, w14, w15, w16, w17, w18, w19, w20, w21, w22, w23, w24, w25, w26, w27, w28, .ref q1, .ref q2, .int (nI ca), w32, .ref q3, .int (nI rq2)])), (q1, .inl (kq1, 40, .inl fmp)), (q2, .inl (kq2, 40, .inl fmk)), (q3, .inl (kq3, 4, .inl fmr2))]) A) (([.ref h0, .int n, .int (nI sq), .int 1] : List Value)).toArray s 0 0 A) (F0 m 11 ls []) := by
    intro fu
    induction fu with
    | zero => intro k hn8 rqx frx hk hrx hlr hhx hme; exact absurd hme (Nat.not_lt_zero _)
    | succ fu ih_2 =>
      intro k hn8 rqx frx hk hrx hlr hhx hme H locs hP hD hS ls hl
      refine lv_iload hx hb dX9_hitsBy_11 (lv_at hl 0 rfl) ?_
      refine lv_aload_n hx hb dX9_hitsBy_13 rfl (lv_at hl 2 rfl) ?_
      refine va_get (D := (dC, dI)) (ci := 8) (v := .int (nI ca)) (C := RX9) (T := TX9) (N := 35) hx hb hts inB_9 hown hK hP 0 rfl rfl 31 (by decide) (hts _ mw_3_213) (fun _ h9 => h9) rfl dX9_hitsBy_14 ?_
      refine lv_icmp_ge (tgt := 119) hx hb dX9_hitsBy_17 (by decide) (fun c_3 => ?_) (fun c_3 => ?_)
      · have b_4 := gx_ge (X := ((k : Nat) : Int)) (C := ((ca : Nat) : Int)) (nI_toInt (by omega)) (nI_toInt (by omega)) c_3
        refine lv_iload hx hb dX9_hitsBy_119 (lv_at hl 1 rfl) ?_
        have hP9 := hP.sub (ws' := [(h0, .inr (8, [w0, w1, w2, w3, w4, w5, w6, w7, w8, w9, w10, w11, w12, w13, w14, w15, w16, w17, w18, w19, w20, w21, w22, w23, w24, w25, w26, w27, w28, .ref q1, .ref q2, .int (nI ca), w32, .ref q3, .int (nI rqx)])), (q1, .inl (kq1, 40, .inl fmp)), (q2, .inl (kq2, 40, .inl fmk)), (q3, .inl (kq3, 4, .inl frx))]) [0, 1, 2, 3] rfl
        have hD9 := hD.sub (ws' := [(h0, .inr (8, [w0, w1, w2, w3, w4, w5, w6, w7, w8, w9, w10, w11, w12, w13, w14, w15, w16, w17, w18, w19, w20, w21, w22, w23, w24, w25, w26, w27, w28, .ref q1, .ref q2, .int (nI ca), w32, .ref q3, .int (nI rqx)])), (q1, .inl (kq1, 40, .inl fmp)), (q2, .inl (kq2, 40, .inl fmk)), (q3, .inl (kq3, 4, .inl frx))]) [0, 1, 2, 3] (by decide) rfl
        have hK9 := hK.sub (tys' := [(kq1, .int), (kq2, .int), (kq3, .int)]) [0, 1, 2] rfl
        exact W.iret (v := (nI hn8)) hx hb hr (fun t ht hW => ⟨⟨(nI hn8), (), rfl, ⟨hn8, rfl, by omega, (by have q := congrArg (fun x => x.2.2) hlr; rw [show k = ca from (by omega)] at q; exact q)⟩, rqx, frx, (by omega), by rw [ht]; exact hP9, va_K.moved hW.alike hK9, hD9⟩, hS.F ht⟩) hS.2.2 dX9_hitsBy_121
      · have b_4 := gn_ge (X := ((k : Nat) : Int)) (C := ((ca : Nat) : Int)) (nI_toInt (by omega)) (nI_toInt (by omega)) c_3
        refine lv_aload_n hx hb dX9_hitsBy_20 rfl (lv_at hl 2 rfl) ?_
        refine va_get (D := (dC, dI)) (ci := 8) (v := .ref q1) (C := RX9) (T := TX9) (N := 35) hx hb hts inB_9 hown hK hP 0 rfl rfl 29 (by decide) (hts _ mw_3_211) (fun _ h9 => h9) rfl dX9_hitsBy_21 ?_
        refine lv_iload hx hb dX9_hitsBy_24 (lv_at hl 0 rfl) ?_
        refine va_iald hx hb hK hP 1 0 rfl rfl (show vp_in (nI k) 40 from vp_in_nI (by omega) (by omega)) dX9_hitsBy_26 ?_
        refine hx_top (y := (fmp k)) (congrArg _ (nI_clamp (by omega))) ?_
        refine lv_iload_n hx hb dX9_hitsBy_27 rfl (lv_at hl 3 rfl) ?_
        refine lv_icmp_ne (tgt := 113) hx hb dX9_hitsBy_28 (by decide) (fun c_5 => ?_) (fun c_5 => ?_)
        · have b_6 := gx_ne (X := (Int32.toInt (fmp k))) (C := (Int32.toInt n)) rfl rfl c_5
          refine lv_iinc (v := (nI (k + 1))) (lv' := [(5, .int (nI (k + 1))), (4, .int (nI hn8)), (0, .ref h0), (1, .int n), (2, .int (nI sq)), (3, .int 1)]) hx hb dX9_hitsBy_113 hl (k := 0) rfl (nI_add k 1) (by decide) rfl (fun ls hl => ?_)
          refine lv_goto (tgt := 11) hx hb dX9_hitsBy_116 (by decide) ?_
          exact ih_2 (k + 1) hn8 rqx frx (by omega) hrx (lm_skip hlr c_5) (by omega) (by omega) _ _ hP hD hS ls (lv_sub hl [0, 1, 2, 3, 4, 5] rfl)
        · have b_6 := gn_ne (X := (Int32.toInt (fmp k))) (C := (Int32.toInt n)) rfl rfl c_5
          refine lv_aload_n hx hb dX9_hitsBy_31 rfl (lv_at hl 2 rfl) ?_
          refine lv_aload_n hx hb dX9_hitsBy_32 rfl (lv_at hl 2 rfl) ?_
          refine va_get (D := (dC, dI)) (ci := 8) (v := .ref q2) (C := RX9) (T := TX9) (N := 35) hx hb hts inB_9 hown hK hP 0 rfl rfl 30 (by decide) (hts _ mw_3_212) (fun _ h9 => h9) rfl dX9_hitsBy_33 ?_
          refine lv_iload hx hb dX9_hitsBy_36 (lv_at hl 0 rfl) ?_
          refine va_iald hx hb hK hP 2 1 rfl rfl (show vp_in (nI k) 40 from vp_in_nI (by omega) (by omega)) dX9_hitsBy_38 ?_
          refine hx_top (y := (fmk k)) (congrArg _ (nI_clamp (by omega))) ?_
          have hPc := hP.sub (ws' := [(h0, .inr (8, [w0, w1, w2, w3, w4, w5, w6, w7, w8, w9, w10, w11, w12, w13, w14, w15, w16, w17, w18, w19, w20, w21, w22, w23, w24, w25, w26, w27, w28, .ref q1, .ref q2, .int (nI ca), w32, .ref q3, .int (nI rqx)])), (q3, .inl (kq3, 4, .inl frx))]) [0, 3] rfl
          have hDc := hD.sub (ws' := [(h0, .inr (8, [w0, w1, w2, w3, w4, w5, w6, w7, w8, w9, w10, w11, w12, w13, w14, w15, w16, w17, w18, w19, w20, w21, w22, w23, w24, w25, w26, w27, w28, .ref q1, .ref q2, .int (nI ca), w32, .ref q3, .int (nI rqx)])), (q3, .inl (kq3, 4, .inl frx))]) [0, 3] (by decide) rfl
          have hKc := hK.sub (tys' := [(kq3, .int)]) [2] rfl
          refine va_calli (va_runV (As := [.int (fmk k)]) (rest := []) ⟨hx, hb, hml, hown, hts⟩ (m_whereIs l dC dI H.size h0 (w0) (w1) (w2) (w3) (w4) (w5) (w6) (w7) (w8) (w9) (w10) (w11) (w12) (w13) (w14) (w15) (w16) (w17) (w18) (w19) (w20) (w21) (w22) (w23) (w24) (w25) (w26) (w27) (w28) (.ref q1) (.ref q2) (.int (nI ca)) (w32) q3 rqx kq3 frx (fmk k) (by omega)) (cwV 1 hts (gV mw_5_27 mw_5_29 mw_0_38 mw_1_9 mw_5_30) rfl rfl rfl (by decide +kernel) ⟨Nat.le_of_ble_eq_true rfl, Nat.le_of_ble_eq_true rfl⟩) ⟨pcW_blind, va_recv hKc hPc (ci := 8) (q0 := 0) rfl rfl, pcW_at hPc hKc hDc hN⟩ rfl rfl hl.1 rfl (lv_room (Nat.le_of_ble_eq_true rfl)) dX9_hitsBy_39 ⟨Nat.le_of_ble_eq_true rfl, Nat.le_of_ble_eq_true rfl⟩) hS (fun q h1 h2 => absurd h2 (Nat.not_le.mpr h1)) (fun q h => hA q (Nat.le_trans hS.1 h)) (fun r_7 u t H1 locs ht hvm hw_7 hB hz1 hk1 hS => ?_)
          have hP := keepP hP hk1
          clear hz1 hk1 hB ht hvm hPc hDc hKc
          generalize H1 = H at hP hS ⊢
          refine lv_istore (lv' := [(6, .int r_7), (5, .int (nI k)), (4, .int (nI hn8)), (0, .ref h0), (1, .int n), (2, .int (nI sq)), (3, .int 1)]) hx hb dX9_hitsBy_42 hl (by decide) rfl (fun ls hl => ?_)
          rcases li_cases hw_7 with eq9 | ⟨q9, hq9, eq9⟩
          · subst eq9
            refine lv_iload hx hb dX9_hitsBy_44 (lv_at hl 2 rfl) ?_
            refine lv_iload hx hb dX9_hitsBy_46 (lv_at hl 0 rfl) ?_
            refine lv_if_ge (tgt := 55) hx hb dX9_hitsBy_48 (by decide) (fun h => absurd h (by decide)) (fun _ => ?_)
            refine lv_iconst (v := 0) hx hb dX9_hitsBy_51 (by decide) ?_
            refine lv_goto (tgt := 56) hx hb dX9_hitsBy_52 (by decide) ?_
            refine lv_iadd hx hb dX9_hitsBy_56 ?_
            refine hx_top (y := (nI (hn8 + 0))) (nI_add hn8 0) ?_
            refine lv_istore (lv' := [(4, .int (nI (hn8 + 0))), (6, .int (-6)), (5, .int (nI k)), (0, .ref h0), (1, .int n), (2, .int (nI sq)), (3, .int 1)]) hx hb dX9_hitsBy_57 hl (by decide) rfl (fun ls hl => ?_)
            refine lv_iload hx hb dX9_hitsBy_59 (lv_at hl 1 rfl) ?_
            refine lv_if_lt (tgt := 73) hx hb dX9_hitsBy_61 (by decide) (fun _ => ?_) (fun h => absurd (by decide) h)
            refine lv_aload_n hx hb dX9_hitsBy_73 rfl (lv_at hl 3 rfl) ?_
            refine va_get (D := (dC, dI)) (ci := 8) (v := .int (nI rqx)) (C := RX9) (T := TX9) (N := 35) hx hb hts inB_9 hown hK hP 0 rfl rfl 34 (by decide) (hts _ mw_3_216) (fun _ h9 => h9) rfl dX9_hitsBy_74 ?_
            refine lv_iload_n hx hb dX9_hitsBy_77 rfl (lv_at hl 5 rfl) ?_
            refine lv_icmp_ne (tgt := 102) hx hb dX9_hitsBy_78 (by decide) (fun c_8 => ?_) (fun c_8 => ?_)
            · have b_9 := gx_ne (X := ((rqx : Nat) : Int)) (C := ((sq : Nat) : Int)) (nI_toInt (by omega)) (nI_toInt (by omega)) c_8
              refine lv_aload_n hx hb dX9_hitsBy_102 rfl (lv_at hl 3 rfl) ?_
              refine lv_aload_n hx hb dX9_hitsBy_103 rfl (lv_at hl 3 rfl) ?_
              refine va_get (D := (dC, dI)) (ci := 8) (v := .ref q2) (C := RX9) (T := TX9) (N := 35) hx hb hts inB_9 hown hK hP 0 rfl rfl 30 (by decide) (hts _ mw_3_212) (fun _ h9 => h9) rfl dX9_hitsBy_104 ?_
              refine lv_iload hx hb dX9_hitsBy_107 (lv_at hl 2 rfl) ?_
              refine va_iald hx hb hK hP 2 1 rfl rfl (show vp_in (nI k) 40 from vp_in_nI (by omega) (by omega)) dX9_hitsBy_109 ?_
              refine hx_top (y := (fmk k)) (congrArg _ (nI_clamp (by omega))) ?_
              have hPc := hP.sub (ws' := [(h0, .inr (8, [w0, w1, w2, w3, w4, w5, w6, w7, w8, w9, w10, w11, w12, w13, w14, w15, w16, w17, w18, w19, w20, w21, w22, w23, w24, w25, w26, w27, w28, .ref q1, .ref q2, .int (nI ca), w32, .ref q3, .int (nI rqx)])), (q3, .inl (kq3, 4, .inl frx))]) [0, 3] rfl
              have hDc := hD.sub (ws' := [(h0, .inr (8, [w0, w1, w2, w3, w4, w5, w6, w7, w8, w9, w10, w11, w12, w13, w14, w15, w16, w17, w18, w19, w20, w21, w22, w23, w24, w25, w26, w27, w28, .ref q1, .ref q2, .int (nI ca), w32, .ref q3, .int (nI rqx)])), (q3, .inl (kq3, 4, .inl frx))]) [0, 3] (by decide) rfl
              have hKc := hK.sub (tys' := [(kq3, .int)]) [2] rfl
              have hFc := va_free (wc := [(h0, .inr (8, [w0, w1, w2, w3, w4, w5, w6, w7, w8, w9, w10, w11, w12, w13, w14, w15, w16, w17, w18, w19, w20, w21, w22, w23, w24, w25, w26, w27, w28, .ref q1, .ref q2, .int (nI ca), w32, .ref q3, .int (nI rqx)])), (q3, .inl (kq3, 4, .inl frx))]) hD hS hA [0, 3] rfl
              refine va_callv (va_runV (As := [.int (fmk k)]) (rest := []) ⟨hx, hb, hml, hown, hts⟩ (m_putFirst l dC dI H.size h0 (w0) (w1) (w2) (w3) (w4) (w5) (w6) (w7) (w8) (w9) (w10) (w11) (w12) (w13) (w14) (w15) (w16) (w17) (w18) (w19) (w20) (w21) (w22) (w23) (w24) (w25) (w26) (w27) (w28) (.ref q1) (.ref q2) (.int (nI ca)) (w32) q3 rqx kq3 frx (fmk k) (by omega)) (cwV 1 hts (gV mw_5_43 mw_5_45 mw_0_42 mw_1_9 mw_5_46) rfl rfl rfl (by decide +kernel) ⟨Nat.le_of_ble_eq_true rfl, Nat.le_of_ble_eq_true rfl⟩) ⟨pcW_blind, va_recv hKc hPc (ci := 8) (q0 := 0) rfl rfl, pcW_at hPc hKc hDc hN⟩ rfl rfl hl.1 rfl (lv_room (Nat.le_of_ble_eq_true rfl)) dX9_hitsBy_110 ⟨Nat.le_of_ble_eq_true rfl, Nat.le_of_ble_eq_true rfl⟩) hS (fun q _ h => hFc q h) hFc (fun u t H1 locs ht hvm hw_10 hB hz1 hk1 hS => ?_)
              obtain ⟨f_11, p_12, hP1, hK1, hD1⟩ := hB
              rw [ht] at hP1
              have hK1 := va_K.moved hvm.symm hK1
              obtain ⟨hP, hD⟩ := va_join (wr := [(q1, .inl (kq1, 40, .inl fmp)), (q2, .inl (kq2, 40, .inl fmk))]) (w1 := [(h0, .inr (8, [w0, w1, w2, w3, w4, w5, w6, w7, w8, w9, w10, w11, w12, w13, w14, w15, w16, w17, w18, w19, w20, w21, w22, w23, w24, w25, w26, w27, w28, .ref q1, .ref q2, .int (nI ca), w32, .ref q3, .int (nI (rqx + 1))])), (q3, .inl (kq3, 4, .inl f_11))]) hP hD [0, 3] [1, 2] rfl rfl (by decide) (by decide) hk1 hFc hP1 hD1
              have hK := (hK.sub (tys' := [(kq1, .int), (kq2, .int)]) [0, 1] rfl).app hK1
              clear hz1 hk1 hPc hDc hKc hFc
              generalize H1 = H at hP hS ⊢
              have hK : va_K (dC, dI) vwCl [(kq1, .int), (kq2, .int), (kq3, .int)] s := hK
              have hP : va_P (dC, dI) vwCl [(q1, .inl (kq1, 40, .inl fmp)), (q2, .inl (kq2, 40, .inl fmk)), (h0, .inr (8, [w0, w1, w2, w3, w4, w5, w6, w7, w8, w9, w10, w11, w12, w13, w14, w15, w16, w17, w18, w19, w20, w21, w22, w23, w24, w25, w26, w27, w28, .ref q1, .ref q2, .int (nI ca), w32, .ref q3, .int (nI (rqx + 1))])), (q3, .inl (kq3, 4, .inl f_11))] H := hP
              have hD : va_D A [(q1, .inl (kq1, 40, .inl fmp)), (q2, .inl (kq2, 40, .inl fmk)), (h0, .inr (8, [w0, w1, w2, w3, w4, w5, w6, w7, w8, w9, w10, w11, w12, w13, w14, w15, w16, w17, w18, w19, w20, w21, w22, w23, w24, w25, w26, w27, w28, .ref q1, .ref q2, .int (nI ca), w32, .ref q3, .int (nI (rqx + 1))])), (q3, .inl (kq3, 4, .inl f_11))] := hD
              refine lv_iinc (v := (nI (k + 1))) (lv' := [(5, .int (nI (k + 1))), (4, .int (nI (hn8 + 0))), (6, .int (-6)), (0, .ref h0), (1, .int n), (2, .int (nI sq)), (3, .int 1)]) hx hb dX9_hitsBy_113 hl (k := 2) rfl (nI_add k 1) (by decide) rfl (fun ls hl => ?_)
              refine lv_goto (tgt := 11) hx hb dX9_hitsBy_116 (by decide) ?_
              exact ih_2 (k + 1) (hn8 + 0) (rqx + 1) f_11 (by omega) (by omega) (lm_new hlr c_5 hw_7 (by omega) p_12) (by omega) (by omega) _ _ (hP.sub (ws' := [(h0, .inr (8, [w0, w1, w2, w3, w4, w5, w6, w7, w8, w9, w10, w11, w12, w13, w14, w15, w16, w17, w18, w19, w20, w21, w22, w23, w24, w25, w26, w27, w28, .ref q1, .ref q2, .int (nI ca), w32, .ref q3, .int (nI (rqx + 1))])), (q1, .inl (kq1, 40, .inl fmp)), (q2, .inl (kq2, 40, .inl fmk)), (q3, .inl (kq3, 4, .inl f_11))]) [2, 0, 1, 3] rfl) (hD.sub (ws' := [(h0, .inr (8, [w0, w1, w2, w3, w4, w5, w6, w7, w8, w9, w10, w11, w12, w13, w14, w15, w16, w17, w18, w19, w20, w21, w22, w23, w24, w25, w26, w27, w28, .ref q1, .ref q2, .int (nI ca), w32, .ref q3, .int (nI (rqx + 1))])), (q1, .inl (kq1, 40, .inl fmp)), (q2, .inl (kq2, 40, .inl fmk)), (q3, .inl (kq3, 4, .inl f_11))]) [2, 0, 1, 3] (by decide) rfl) hS ls (lv_sub hl [0, 1, 3, 4, 5, 6] rfl)
            · have b_9 := gn_ne (X := ((rqx : Nat) : Int)) (C := ((sq : Nat) : Int)) (nI_toInt (by omega)) (nI_toInt (by omega)) c_8
              refine lv_aload_n hx hb dX9_hitsBy_81 rfl (lv_at hl 3 rfl) ?_
              refine lv_iload_n hx hb dX9_hitsBy_82 rfl (lv_at hl 6 rfl) ?_
              refine lv_if_eq (tgt := 96) hx hb dX9_hitsBy_83 (by decide) (fun h => absurd h (by decide)) (fun _ => ?_)
              refine lv_aload_n hx hb dX9_hitsBy_86 rfl (lv_at hl 3 rfl) ?_
              refine lv_iload_n hx hb dX9_hitsBy_87 rfl (lv_at hl 4 rfl) ?_
              refine lv_iload hx hb dX9_hitsBy_88 (lv_at hl 2 rfl) ?_
              have hPc := hP.sub (ws' := [(h0, .inr (8, [w0, w1, w2, w3, w4, w5, w6, w7, w8, w9, w10, w11, w12, w13, w14, w15, w16, w17, w18, w19, w20, w21, w22, w23, w24, w25, w26, w27, w28, .ref q1, .ref q2, .int (nI ca), w32, .ref q3, .int (nI rqx)])), (q1, .inl (kq1, 40, .inl fmp)), (q2, .inl (kq2, 40, .inl fmk)), (q3, .inl (kq3, 4, .inl frx))]) [0, 1, 2, 3] rfl
              have hDc := hD.sub (ws' := [(h0, .inr (8, [w0, w1, w2, w3, w4, w5, w6, w7, w8, w9, w10, w11, w12, w13, w14, w15, w16, w17, w18, w19, w20, w21, w22, w23, w24, w25, w26, w27, w28, .ref q1, .ref q2, .int (nI ca), w32, .ref q3, .int (nI rqx)])), (q1, .inl (kq1, 40, .inl fmp)), (q2, .inl (kq2, 40, .inl fmk)), (q3, .inl (kq3, 4, .inl frx))]) [0, 1, 2, 3] (by decide) rfl
              have hKc := hK.sub (tys' := [(kq1, .int), (kq2, .int), (kq3, .int)]) [0, 1, 2] rfl
              refine va_calli (va_runV (As := [.int n, .int (nI k)]) (rest := [.ref h0]) ⟨hx, hb, hml, hown, hts⟩ (m_farthest l dC dI H.size h0 (w0) (w1) (w2) (w3) (w4) (w5) (w6) (w7) (w8) (w9) (w10) (w11) (w12) (w13) (w14) (w15) (w16) (w17) (w18) (w19) (w20) (w21) (w22) (w23) (w24) (w25) (w26) (w27) (w28) q1 q2 ca (w32) q3 rqx kq1 fmp kq2 fmk kq3 frx n k hca (by omega) (by omega) (by omega)) (cwV 2 hts (gV mw_5_35 mw_5_37 mw_0_40 mw_1_9 mw_5_38) rfl rfl rfl (by decide +kernel) ⟨Nat.le_of_ble_eq_true rfl, Nat.le_of_ble_eq_true rfl⟩) ⟨pcW_blind, va_recv hKc hPc (ci := 8) (q0 := 0) rfl rfl, pcW_at hPc hKc hDc hN⟩ rfl rfl hl.1 rfl (lv_room (Nat.le_of_ble_eq_true rfl)) dX9_hitsBy_90 ⟨Nat.le_of_ble_eq_true rfl, Nat.le_of_ble_eq_true rfl⟩) hS (fun q h1 h2 => absurd h2 (Nat.not_le.mpr h1)) (fun q h => hA q (Nat.le_trans hS.1 h)) (fun r_13 u t H1 locs ht hvm hw_13 hB hz1 hk1 hS => ?_)
              have hP := keepP hP hk1
              clear hz1 hk1 hB ht hvm hPc hDc hKc
              generalize H1 = H at hP hS ⊢
              obtain rfl : r_13 = nI (faF (fun i => nxC fmp fmk n (frx i) k ca) (rqx - 1)) := hw_13
              have b_14 := (fa_lt (fun i => nxC fmp fmk n (frx i) k ca) (rqx - 1) : faF (fun i => nxC fmp fmk n (frx i) k ca) (rqx - 1) ≤ rqx - 1)
              refine lv_goto (tgt := 99) hx hb dX9_hitsBy_93 (by decide) ?_
              have hPc := hP.sub (ws' := [(h0, .inr (8, [w0, w1, w2, w3, w4, w5, w6, w7, w8, w9, w10, w11, w12, w13, w14, w15, w16, w17, w18, w19, w20, w21, w22, w23, w24, w25, w26, w27, w28, .ref q1, .ref q2, .int (nI ca), w32, .ref q3, .int (nI rqx)])), (q3, .inl (kq3, 4, .inl frx))]) [0, 3] rfl
              have hDc := hD.sub (ws' := [(h0, .inr (8, [w0, w1, w2, w3, w4, w5, w6, w7, w8, w9, w10, w11, w12, w13, w14, w15, w16, w17, w18, w19, w20, w21, w22, w23, w24, w25, w26, w27, w28, .ref q1, .ref q2, .int (nI ca), w32, .ref q3, .int (nI rqx)])), (q3, .inl (kq3, 4, .inl frx))]) [0, 3] (by decide) rfl
              have hKc := hK.sub (tys' := [(kq3, .int)]) [2] rfl
              have hFc := va_free (wc := [(h0, .inr (8, [w0, w1, w2, w3, w4, w5, w6, w7, w8, w9, w10, w11, w12, w13, w14, w15, w16, w17, w18, w19, w20, w21, w22, w23, w24, w25, w26, w27, w28, .ref q1, .ref q2, .int (nI ca), w32, .ref q3, .int (nI rqx)])), (q3, .inl (kq3, 4, .inl frx))]) hD hS hA [0, 3] rfl
              refine va_callv (va_runV (As := [.int (nI (faF (fun i => nxC fmp fmk n (frx i) k ca) (rqx - 1)))]) (rest := []) ⟨hx, hb, hml, hown, hts⟩ (m_takeOut l dC dI H.size h0 (w0) (w1) (w2) (w3) (w4) (w5) (w6) (w7) (w8) (w9) (w10) (w11) (w12) (w13) (w14) (w15) (w16) (w17) (w18) (w19) (w20) (w21) (w22) (w23) (w24) (w25) (w26) (w27) (w28) (.ref q1) (.ref q2) (.int (nI ca)) (w32) q3 rqx kq3 frx (faF (fun i => nxC fmp fmk n (frx i) k ca) (rqx - 1)) (by omega) (by omega)) (cwV 1 hts (gV mw_5_31 mw_5_33 mw_0_39 mw_1_9 mw_5_34) rfl rfl rfl (by decide +kernel) ⟨Nat.le_of_ble_eq_true rfl, Nat.le_of_ble_eq_true rfl⟩) ⟨pcW_blind, va_recv hKc hPc (ci := 8) (q0 := 0) rfl rfl, pcW_at hPc hKc hDc hN⟩ rfl rfl hl.1 rfl (lv_room (Nat.le_of_ble_eq_true rfl)) dX9_hitsBy_99 ⟨Nat.le_of_ble_eq_true rfl, Nat.le_of_ble_eq_true rfl⟩) hS (fun q _ h => hFc q h) hFc (fun u t H1 locs ht hvm hw_15 hB hz1 hk1 hS => ?_)
              obtain ⟨f_16, p_17, hP1, hK1, hD1⟩ := hB
              rw [ht] at hP1
              have hK1 := va_K.moved hvm.symm hK1
              obtain ⟨hP, hD⟩ := va_join (wr := [(q1, .inl (kq1, 40, .inl fmp)), (q2, .inl (kq2, 40, .inl fmk))]) (w1 := [(h0, .inr (8, [w0, w1, w2, w3, w4, w5, w6, w7, w8, w9, w10, w11, w12, w13, w14, w15, w16, w17, w18, w19, w20, w21, w22, w23, w24, w25, w26, w27, w28, .ref q1, .ref q2, .int (nI ca), w32, .ref q3, .int (nI (rqx - 1))])), (q3, .inl (kq3, 4, .inl f_16))]) hP hD [0, 3] [1, 2] rfl rfl (by decide) (by decide) hk1 hFc hP1 hD1
              have hK := (hK.sub (tys' := [(kq1, .int), (kq2, .int)]) [0, 1] rfl).app hK1
              clear hz1 hk1 hPc hDc hKc hFc
              generalize H1 = H at hP hS ⊢
              have hK : va_K (dC, dI) vwCl [(kq1, .int), (kq2, .int), (kq3, .int)] s := hK
              have hP : va_P (dC, dI) vwCl [(q1, .inl (kq1, 40, .inl fmp)), (q2, .inl (kq2, 40, .inl fmk)), (h0, .inr (8, [w0, w1, w2, w3, w4, w5, w6, w7, w8, w9, w10, w11, w12, w13, w14, w15, w16, w17, w18, w19, w20, w21, w22, w23, w24, w25, w26, w27, w28, .ref q1, .ref q2, .int (nI ca), w32, .ref q3, .int (nI (rqx - 1))])), (q3, .inl (kq3, 4, .inl f_16))] H := hP
              have hD : va_D A [(q1, .inl (kq1, 40, .inl fmp)), (q2, .inl (kq2, 40, .inl fmk)), (h0, .inr (8, [w0, w1, w2, w3, w4, w5, w6, w7, w8, w9, w10, w11, w12, w13, w14, w15, w16, w17, w18, w19, w20, w21, w22, w23, w24, w25, w26, w27, w28, .ref q1, .ref q2, .int (nI ca), w32, .ref q3, .int (nI (rqx - 1))])), (q3, .inl (kq3, 4, .inl f_16))] := hD
              refine lv_aload_n hx hb dX9_hitsBy_102 rfl (lv_at hl 3 rfl) ?_
              refine lv_aload_n hx hb dX9_hitsBy_103 rfl (lv_at hl 3 rfl) ?_
              refine va_get (D := (dC, dI)) (ci := 8) (v := .ref q2) (C := RX9) (T := TX9) (N := 35) hx hb hts inB_9 hown hK hP 2 rfl rfl 30 (by decide) (hts _ mw_3_212) (fun _ h9 => h9) rfl dX9_hitsBy_104 ?_
              refine lv_iload hx hb dX9_hitsBy_107 (lv_at hl 2 rfl) ?_
              refine va_iald hx hb hK hP 1 1 rfl rfl (show vp_in (nI k) 40 from vp_in_nI (by omega) (by omega)) dX9_hitsBy_109 ?_
              refine hx_top (y := (fmk k)) (congrArg _ (nI_clamp (by omega))) ?_
              have hPc := hP.sub (ws' := [(h0, .inr (8, [w0, w1, w2, w3, w4, w5, w6, w7, w8, w9, w10, w11, w12, w13, w14, w15, w16, w17, w18, w19, w20, w21, w22, w23, w24, w25, w26, w27, w28, .ref q1, .ref q2, .int (nI ca), w32, .ref q3, .int (nI (rqx - 1))])), (q3, .inl (kq3, 4, .inl f_16))]) [2, 3] rfl
              have hDc := hD.sub (ws' := [(h0, .inr (8, [w0, w1, w2, w3, w4, w5, w6, w7, w8, w9, w10, w11, w12, w13, w14, w15, w16, w17, w18, w19, w20, w21, w22, w23, w24, w25, w26, w27, w28, .ref q1, .ref q2, .int (nI ca), w32, .ref q3, .int (nI (rqx - 1))])), (q3, .inl (kq3, 4, .inl f_16))]) [2, 3] (by decide) rfl
              have hKc := hK.sub (tys' := [(kq3, .int)]) [2] rfl
              have hFc := va_free (wc := [(h0, .inr (8, [w0, w1, w2, w3, w4, w5, w6, w7, w8, w9, w10, w11, w12, w13, w14, w15, w16, w17, w18, w19, w20, w21, w22, w23, w24, w25, w26, w27, w28, .ref q1, .ref q2, .int (nI ca), w32, .ref q3, .int (nI (rqx - 1))])), (q3, .inl (kq3, 4, .inl f_16))]) hD hS hA [2, 3] rfl
              refine va_callv (va_runV (As := [.int (fmk k)]) (rest := []) ⟨hx, hb, hml, hown, hts⟩ (m_putFirst l dC dI H.size h0 (w0) (w1) (w2) (w3) (w4) (w5) (w6) (w7) (w8) (w9) (w10) (w11) (w12) (w13) (w14) (w15) (w16) (w17) (w18) (w19) (w20) (w21) (w22) (w23) (w24) (w25) (w26) (w27) (w28) (.ref q1) (.ref q2) (.int (nI ca)) (w32) q3 (rqx - 1) kq3 f_16 (fmk k) (by omega)) (cwV 1 hts (gV mw_5_43 mw_5_45 mw_0_42 mw_1_9 mw_5_46) rfl rfl rfl (by decide +kernel) ⟨Nat.le_of_ble_eq_true rfl, Nat.le_of_ble_eq_true rfl⟩) ⟨pcW_blind, va_recv hKc hPc (ci := 8) (q0 := 0) rfl rfl, pcW_at hPc hKc hDc hN⟩ rfl rfl hl.1 rfl (lv_room (Nat.le_of_ble_eq_true rfl)) dX9_hitsBy_110 ⟨Nat.le_of_ble_eq_true rfl, Nat.le_of_ble_eq_true rfl⟩) hS (fun q _ h => hFc q h) hFc (fun u t H1 locs ht hvm hw_18 hB hz1 hk1 hS => ?_)
              obtain ⟨f_19, p_20, hP1, hK1, hD1⟩ := hB
              rw [ht] at hP1
              have hK1 := va_K.moved hvm.symm hK1
              obtain ⟨hP, hD⟩ := va_join (wr := [(q1, .inl (kq1, 40, .inl fmp)), (q2, .inl (kq2, 40, .inl fmk))]) (w1 := [(h0, .inr (8, [w0, w1, w2, w3, w4, w5, w6, w7, w8, w9, w10, w11, w12, w13, w14, w15, w16, w17, w18, w19, w20, w21, w22, w23, w24, w25, w26, w27, w28, .ref q1, .ref q2, .int (nI ca), w32, .ref q3, .int (nI ((rqx - 1) + 1))])), (q3, .inl (kq3, 4, .inl f_19))]) hP hD [2, 3] [0, 1] rfl rfl (by decide) (by decide) hk1 hFc hP1 hD1
              have hK := (hK.sub (tys' := [(kq1, .int), (kq2, .int)]) [0, 1] rfl).app hK1
              clear hz1 hk1 hPc hDc hKc hFc
              generalize H1 = H at hP hS ⊢
              have hK : va_K (dC, dI) vwCl [(kq1, .int), (kq2, .int), (kq3, .int)] s := hK
              have hP : va_P (dC, dI) vwCl [(q1, .inl (kq1, 40, .inl fmp)), (q2, .inl (kq2, 40, .inl fmk)), (h0, .inr (8, [w0, w1, w2, w3, w4, w5, w6, w7, w8, w9, w10, w11, w12, w13, w14, w15, w16, w17, w18, w19, w20, w21, w22, w23, w24, w25, w26, w27, w28, .ref q1, .ref q2, .int (nI ca), w32, .ref q3, .int (nI ((rqx - 1) + 1))])), (q3, .inl (kq3, 4, .inl f_19))] H := hP
              have hD : va_D A [(q1, .inl (kq1, 40, .inl fmp)), (q2, .inl (kq2, 40, .inl fmk)), (h0, .inr (8, [w0, w1, w2, w3, w4, w5, w6, w7, w8, w9, w10, w11, w12, w13, w14, w15, w16, w17, w18, w19, w20, w21, w22, w23, w24, w25, w26, w27, w28, .ref q1, .ref q2, .int (nI ca), w32, .ref q3, .int (nI ((rqx - 1) + 1))])), (q3, .inl (kq3, 4, .inl f_19))] := hD
              refine lv_iinc (v := (nI (k + 1))) (lv' := [(5, .int (nI (k + 1))), (4, .int (nI (hn8 + 0))), (6, .int (-6)), (0, .ref h0), (1, .int n), (2, .int (nI sq)), (3, .int 1)]) hx hb dX9_hitsBy_113 hl (k := 2) rfl (nI_add k 1) (by decide) rfl (fun ls hl => ?_)
              refine lv_goto (tgt := 11) hx hb dX9_hitsBy_116 (by decide) ?_
              exact ih_2 (k + 1) (hn8 + 0) ((rqx - 1) + 1) f_19 (by omega) (by omega) (lm_old (m1 := rqx - 1) hlr c_5 hw_7 (by omega) (by omega) rfl p_17 p_20) (by omega) (by omega) _ _ (hP.sub (ws' := [(h0, .inr (8, [w0, w1, w2, w3, w4, w5, w6, w7, w8, w9, w10, w11, w12, w13, w14, w15, w16, w17, w18, w19, w20, w21, w22, w23, w24, w25, w26, w27, w28, .ref q1, .ref q2, .int (nI ca), w32, .ref q3, .int (nI ((rqx - 1) + 1))])), (q1, .inl (kq1, 40, .inl fmp)), (q2, .inl (kq2, 40, .inl fmk)), (q3, .inl (kq3, 4, .inl f_19))]) [2, 0, 1, 3] rfl) (hD.sub (ws' := [(h0, .inr (8, [w0, w1, w2, w3, w4, w5, w6, w7, w8, w9, w10, w11, w12, w13, w14, w15, w16, w17, w18, w19, w20, w21, w22, w23, w24, w25, w26, w27, w28, .ref q1, .ref q2, .int (nI ca), w32, .ref q3, .int (nI ((rqx - 1) + 1))])), (q1, .inl (kq1, 40, .inl fmp)), (q2, .inl (kq2, 40, .inl fmk)), (q3, .inl (kq3, 4, .inl f_19))]) [2, 0, 1, 3] (by decide) rfl) hS ls (lv_sub hl [0, 1, 3, 4, 5, 6] rfl)
          · subst eq9
            refine lv_iload hx hb dX9_hitsBy_44 (lv_at hl 2 rfl) ?_
            refine lv_iload hx hb dX9_hitsBy_46 (lv_at hl 0 rfl) ?_
            refine lv_if_ge (tgt := 55) hx hb dX9_hitsBy_48 (by decide) (fun c_21 => ?_) (fun h => absurd (gn_ge (X := ((q9 : Nat) : Int)) (C := 0) (nI_toInt (by omega)) (by decide) h) (by omega))
            have b_22 := gx_ge (X := ((q9 : Nat) : Int)) (C := 0) (nI_toInt (by omega)) (by decide) c_21
            refine lv_iconst (v := 1) hx hb dX9_hitsBy_55 (by decide) ?_
            refine lv_iadd hx hb dX9_hitsBy_56 ?_
            refine hx_top (y := (nI (hn8 + 1))) (nI_add hn8 1) ?_
            refine lv_istore (lv' := [(4, .int (nI (hn8 + 1))), (6, .int (nI q9)), (5, .int (nI k)), (0, .ref h0), (1, .int n), (2, .int (nI sq)), (3, .int 1)]) hx hb dX9_hitsBy_57 hl (by decide) rfl (fun ls hl => ?_)
            refine lv_iload hx hb dX9_hitsBy_59 (lv_at hl 1 rfl) ?_
            refine lv_if_lt (tgt := 73) hx hb dX9_hitsBy_61 (by decide) (fun h => absurd (gx_lt (X := ((q9 : Nat) : Int)) (C := 0) (nI_toInt (by omega)) (by decide) h) (by omega)) (fun c_23 => ?_)
            have b_24 := gn_lt (X := ((q9 : Nat) : Int)) (C := 0) (nI_toInt (by omega)) (by decide) c_23
            refine lv_aload_n hx hb dX9_hitsBy_64 rfl (lv_at hl 3 rfl) ?_
            refine lv_iload hx hb dX9_hitsBy_65 (lv_at hl 1 rfl) ?_
            have hPc := hP.sub (ws' := [(h0, .inr (8, [w0, w1, w2, w3, w4, w5, w6, w7, w8, w9, w10, w11, w12, w13, w14, w15, w16, w17, w18, w19, w20, w21, w22, w23, w24, w25, w26, w27, w28, .ref q1, .ref q2, .int (nI ca), w32, .ref q3, .int (nI rqx)])), (q3, .inl (kq3, 4, .inl frx))]) [0, 3] rfl
            have hDc := hD.sub (ws' := [(h0, .inr (8, [w0, w1, w2, w3, w4, w5, w6, w7, w8, w9, w10, w11, w12, w13, w14, w15, w16, w17, w18, w19, w20, w21, w22, w23, w24, w25, w26, w27, w28, .ref q1, .ref q2, .int (nI ca), w32, .ref q3, .int (nI rqx)])), (q3, .inl (kq3, 4, .inl frx))]) [0, 3] (by decide) rfl
            have hKc := hK.sub (tys' := [(kq3, .int)]) [2] rfl
            have hFc := va_free (wc := [(h0, .inr (8, [w0, w1, w2, w3, w4, w5, w6, w7, w8, w9, w10, w11, w12, w13, w14, w15, w16, w17, w18, w19, w20, w21, w22, w23, w24, w25, w26, w27, w28, .ref q1, .ref q2, .int (nI ca), w32, .ref q3, .int (nI rqx)])), (q3, .inl (kq3, 4, .inl frx))]) hD hS hA [0, 3] rfl
            refine va_callv (va_runV (As := [.int (nI q9)]) (rest := []) ⟨hx, hb, hml, hown, hts⟩ (m_takeOut l dC dI H.size h0 (w0) (w1) (w2) (w3) (w4) (w5) (w6) (w7) (w8) (w9) (w10) (w11) (w12) (w13) (w14) (w15) (w16) (w17) (w18) (w19) (w20) (w21) (w22) (w23) (w24) (w25) (w26) (w27) (w28) (.ref q1) (.ref q2) (.int (nI ca)) (w32) q3 rqx kq3 frx q9 (by omega) (by omega)) (cwV 1 hts (gV mw_5_31 mw_5_33 mw_0_39 mw_1_9 mw_5_34) rfl rfl rfl (by decide +kernel) ⟨Nat.le_of_ble_eq_true rfl, Nat.le_of_ble_eq_true rfl⟩) ⟨pcW_blind, va_recv hKc hPc (ci := 8) (q0 := 0) rfl rfl, pcW_at hPc hKc hDc hN⟩ rfl rfl hl.1 rfl (lv_room (Nat.le_of_ble_eq_true rfl)) dX9_hitsBy_67 ⟨Nat.le_of_ble_eq_true rfl, Nat.le_of_ble_eq_true rfl⟩) hS (fun q _ h => hFc q h) hFc (fun u t H1 locs ht hvm hw_25 hB hz1 hk1 hS => ?_)
            obtain ⟨f_26, p_27, hP1, hK1, hD1⟩ := hB
            rw [ht] at hP1
            have hK1 := va_K.moved hvm.symm hK1
            obtain ⟨hP, hD⟩ := va_join (wr := [(q1, .inl (kq1, 40, .inl fmp)), (q2, .inl (kq2, 40, .inl fmk))]) (w1 := [(h0, .inr (8, [w0, w1, w2, w3, w4, w5, w6, w7, w8, w9, w10, w11, w12, w13, w14, w15, w16, w17, w18, w19, w20, w21, w22, w23, w24, w25, w26, w27, w28, .ref q1, .ref q2, .int (nI ca), w32, .ref q3, .int (nI (rqx - 1))])), (q3, .inl (kq3, 4, .inl f_26))]) hP hD [0, 3] [1, 2] rfl rfl (by decide) (by decide) hk1 hFc hP1 hD1
            have hK := (hK.sub (tys' := [(kq1, .int), (kq2, .int)]) [0, 1] rfl).app hK1
            clear hz1 hk1 hPc hDc hKc hFc
            generalize H1 = H at hP hS ⊢
            have hK : va_K (dC, dI) vwCl [(kq1, .int), (kq2, .int), (kq3, .int)] s := hK
            have hP : va_P (dC, dI) vwCl [(q1, .inl (kq1, 40, .inl fmp)), (q2, .inl (kq2, 40, .inl fmk)), (h0, .inr (8, [w0, w1, w2, w3, w4, w5, w6, w7, w8, w9, w10, w11, w12, w13, w14, w15, w16, w17, w18, w19, w20, w21, w22, w23, w24, w25, w26, w27, w28, .ref q1, .ref q2, .int (nI ca), w32, .ref q3, .int (nI (rqx - 1))])), (q3, .inl (kq3, 4, .inl f_26))] H := hP
            have hD : va_D A [(q1, .inl (kq1, 40, .inl fmp)), (q2, .inl (kq2, 40, .inl fmk)), (h0, .inr (8, [w0, w1, w2, w3, w4, w5, w6, w7, w8, w9, w10, w11, w12, w13, w14, w15, w16, w17, w18, w19, w20, w21, w22, w23, w24, w25, w26, w27, w28, .ref q1, .ref q2, .int (nI ca), w32, .ref q3, .int (nI (rqx - 1))])), (q3, .inl (kq3, 4, .inl f_26))] := hD
            refine lv_goto (tgt := 102) hx hb dX9_hitsBy_70 (by decide) ?_
            refine lv_aload_n hx hb dX9_hitsBy_102 rfl (lv_at hl 3 rfl) ?_
            refine lv_aload_n hx hb dX9_hitsBy_103 rfl (lv_at hl 3 rfl) ?_
            refine va_get (D := (dC, dI)) (ci := 8) (v := .ref q2) (C := RX9) (T := TX9) (N := 35) hx hb hts inB_9 hown hK hP 2 rfl rfl 30 (by decide) (hts _ mw_3_212) (fun _ h9 => h9) rfl dX9_hitsBy_104 ?_
            refine lv_iload hx hb dX9_hitsBy_107 (lv_at hl 2 rfl) ?_
            refine va_iald hx hb hK hP 1 1 rfl rfl (show vp_in (nI k) 40 from vp_in_nI (by omega) (by omega)) dX9_hitsBy_109 ?_
            refine hx_top (y := (fmk k)) (congrArg _ (nI_clamp (by omega))) ?_
            have hPc := hP.sub (ws' := [(h0, .inr (8, [w0, w1, w2, w3, w4, w5, w6, w7, w8, w9, w10, w11, w12, w13, w14, w15, w16, w17, w18, w19, w20, w21, w22, w23, w24, w25, w26, w27, w28, .ref q1, .ref q2, .int (nI ca), w32, .ref q3, .int (nI (rqx - 1))])), (q3, .inl (kq3, 4, .inl f_26))]) [2, 3] rfl
            have hDc := hD.sub (ws' := [(h0, .inr (8, [w0, w1, w2, w3, w4, w5, w6, w7, w8, w9, w10, w11, w12, w13, w14, w15, w16, w17, w18, w19, w20, w21, w22, w23, w24, w25, w26, w27, w28, .ref q1, .ref q2, .int (nI ca), w32, .ref q3, .int (nI (rqx - 1))])), (q3, .inl (kq3, 4, .inl f_26))]) [2, 3] (by decide) rfl
            have hKc := hK.sub (tys' := [(kq3, .int)]) [2] rfl
            have hFc := va_free (wc := [(h0, .inr (8, [w0, w1, w2, w3, w4, w5, w6, w7, w8, w9, w10, w11, w12, w13, w14, w15, w16, w17, w18, w19, w20, w21, w22, w23, w24, w25, w26, w27, w28, .ref q1, .ref q2, .int (nI ca), w32, .ref q3, .int (nI (rqx - 1))])), (q3, .inl (kq3, 4, .inl f_26))]) hD hS hA [2, 3] rfl
            refine va_callv (va_runV (As := [.int (fmk k)]) (rest := []) ⟨hx, hb, hml, hown, hts⟩ (m_putFirst l dC dI H.size h0 (w0) (w1) (w2) (w3) (w4) (w5) (w6) (w7) (w8) (w9) (w10) (w11) (w12) (w13) (w14) (w15) (w16) (w17) (w18) (w19) (w20) (w21) (w22) (w23) (w24) (w25) (w26) (w27) (w28) (.ref q1) (.ref q2) (.int (nI ca)) (w32) q3 (rqx - 1) kq3 f_26 (fmk k) (by omega)) (cwV 1 hts (gV mw_5_43 mw_5_45 mw_0_42 mw_1_9 mw_5_46) rfl rfl rfl (by decide +kernel) ⟨Nat.le_of_ble_eq_true rfl, Nat.le_of_ble_eq_true rfl⟩) ⟨pcW_blind, va_recv hKc hPc (ci := 8) (q0 := 0) rfl rfl, pcW_at hPc hKc hDc hN⟩ rfl rfl hl.1 rfl (lv_room (Nat.le_of_ble_eq_true rfl)) dX9_hitsBy_110 ⟨Nat.le_of_ble_eq_true rfl, Nat.le_of_ble_eq_true rfl⟩) hS (fun q _ h => hFc q h) hFc (fun u t H1 locs ht hvm hw_28 hB hz1 hk1 hS => ?_)
            obtain ⟨f_29, p_30, hP1, hK1, hD1⟩ := hB
            rw [ht] at hP1
            have hK1 := va_K.moved hvm.symm hK1
            obtain ⟨hP, hD⟩ := va_join (wr := [(q1, .inl (kq1, 40, .inl fmp)), (q2, .inl (kq2, 40, .inl fmk))]) (w1 := [(h0, .inr (8, [w0, w1, w2, w3, w4, w5, w6, w7, w8, w9, w10, w11, w12, w13, w14, w15, w16, w17, w18, w19, w20, w21, w22, w23, w24, w25, w26, w27, w28, .ref q1, .ref q2, .int (nI ca), w32, .ref q3, .int (nI ((rqx - 1) + 1))])), (q3, .inl (kq3, 4, .inl f_29))]) hP hD [2, 3] [0, 1] rfl rfl (by decide) (by decide) hk1 hFc hP1 hD1
            have hK := (hK.sub (tys' := [(kq1, .int), (kq2, .int)]) [0, 1] rfl).app hK1
            clear hz1 hk1 hPc hDc hKc hFc
            generalize H1 = H at hP hS ⊢
            have hK : va_K (dC, dI) vwCl [(kq1, .int), (kq2, .int), (kq3, .int)] s := hK
            have hP : va_P (dC, dI) vwCl [(q1, .inl (kq1, 40, .inl fmp)), (q2, .inl (kq2, 40, .inl fmk)), (h0, .inr (8, [w0, w1, w2, w3, w4, w5, w6, w7, w8, w9, w10, w11, w12, w13, w14, w15, w16, w17, w18, w19, w20, w21, w22, w23, w24, w25, w26, w27, w28, .ref q1, .ref q2, .int (nI ca), w32, .ref q3, .int (nI ((rqx - 1) + 1))])), (q3, .inl (kq3, 4, .inl f_29))] H := hP
            have hD : va_D A [(q1, .inl (kq1, 40, .inl fmp)), (q2, .inl (kq2, 40, .inl fmk)), (h0, .inr (8, [w0, w1, w2, w3, w4, w5, w6, w7, w8, w9, w10, w11, w12, w13, w14, w15, w16, w17, w18, w19, w20, w21, w22, w23, w24, w25, w26, w27, w28, .ref q1, .ref q2, .int (nI ca), w32, .ref q3, .int (nI ((rqx - 1) + 1))])), (q3, .inl (kq3, 4, .inl f_29))] := hD
            refine lv_iinc (v := (nI (k + 1))) (lv' := [(5, .int (nI (k + 1))), (4, .int (nI (hn8 + 1))), (6, .int (nI q9)), (0, .ref h0), (1, .int n), (2, .int (nI sq)), (3, .int 1)]) hx hb dX9_hitsBy_113 hl (k := 2) rfl (nI_add k 1) (by decide) rfl (fun ls hl => ?_)
            refine lv_goto (tgt := 11) hx hb dX9_hitsBy_116 (by decide) ?_
            exact ih_2 (k + 1) (hn8 + 1) ((rqx - 1) + 1) f_29 (by omega) (by omega) (lm_hit (m1 := rqx - 1) hlr c_5 hw_7 (by omega) (by omega) p_27 p_30) (by omega) (by omega) _ _ (hP.sub (ws' := [(h0, .inr (8, [w0, w1, w2, w3, w4, w5, w6, w7, w8, w9, w10, w11, w12, w13, w14, w15, w16, w17, w18, w19, w20, w21, w22, w23, w24, w25, w26, w27, w28, .ref q1, .ref q2, .int (nI ca), w32, .ref q3, .int (nI ((rqx - 1) + 1))])), (q1, .inl (kq1, 40, .inl fmp)), (q2, .inl (kq2, 40, .inl fmk)), (q3, .inl (kq3, 4, .inl f_29))]) [2, 0, 1, 3] rfl) (hD.sub (ws' := [(h0, .inr (8, [w0, w1, w2, w3, w4, w5, w6, w7, w8, w9, w10, w11, w12, w13, w14, w15, w16, w17, w18, w19, w20, w21, w22, w23, w24, w25, w26, w27, w28, .ref q1, .ref q2, .int (nI ca), w32, .ref q3, .int (nI ((rqx - 1) + 1))])), (q1, .inl (kq1, 40, .inl fmp)), (q2, .inl (kq2, 40, .inl fmk)), (q3, .inl (kq3, 4, .inl f_29))]) [2, 0, 1, 3] (by decide) rfl) hS ls (lv_sub hl [0, 1, 3, 4, 5, 6] rfl)
  exact key_1 ((ca - 0) + 1) 0 0 0 fmr (by omega) (by omega) rfl (by omega) (Nat.lt_succ_self _) _ _ hP hD hS ls (lv_sub hl [0, 1, 2, 3, 4, 5] rfl)
set_option maxHeartbeats 4000000 in
set_option maxRecDepth 100000 in
theorem m_hitsBy (l : Launch) (dC : Nat → ClassId) (dI : Nat → Nat → Nat) (sz : Nat) (h0 : Nat) (w0 : Value) (w1 : Value) (w2 : Value) (w3 : Value) (w4 : Value) (w5 : Value) (w6 : Value) (w7 : Value) (w8 : Value) (w9 : Value) (w10 : Value) (w11 : Value) (w12 : Value) (w13 : Value) (w14 : Value) (w15 : Value) (w16 : Value) (w17 : Value) (w18 : Value) (w19 : Value) (w20 : Value) (w21 : Value) (w22 : Value) (w23 : Value) (w24 : Value) (w25 : Value) (w26 : Value) (w27 : Value) (w28 : Value) (q1 : Nat) (q2 : Nat) (ca : Nat) (w32 : Value) (q3 : Nat) (rr : Int32) (kq1 : ClassId) (fmp : Nat → Int32) (kq2 : ClassId) (fmk : Nat → Int32) (kq3 : ClassId) (fmr : Nat → Int32) (n : Int32) (sq : Nat) (hca : ca ≤ 40) (hs1 : 1 ≤ sq) (hs4 : sq ≤ 4) : Met l yX9_hitsBy (wq yX9_hitsBy cX9_hitsBy 7 (some .int)) ({ frames := 1, cells := 0, slots := 0, locals := 23 }) (va_Pc [.ref h0, .int n, .int (nI sq), .int 0] (pcW dC dI [(kq1, .int), (kq2, .int), (kq3, .int)] [(h0, .inr (8, [w0, w1, w2, w3, w4, w5, w6, w7, w8, w9, w10, w11, w12, w13, w14, w15, w16, w17, w18, w19, w20, w21, w22, w23, w24, w25, w26, w27, w28, .ref q1, .ref q2, .int (nI ca), w32, .ref q3, .int rr])), (q1, .inl (kq1, 40, .inl fmp)), (q2, .inl (kq2, 40, .inl fmk)), (q3, .inl (kq3, 4, .inl fmr))] sz)) (va_Qi (fun (r : Int32) (_ : Unit) => r = nI (lruH fmp fmk n sq ca)) (fun _ t => ∃ (rq2 : Nat) (fmr2 : Nat → Int32), (rq2 ≤ 4) ∧ (lruA fmp fmk n sq ca rq2 fmr2) ∧ va_P (dC, dI) vwCl [(h0, .inr (8, [w0, w1, w2, w3, w4, w5, w6, w7, w8, w9, w10, w11, w12, w13, w14, w15, w16, w17, w18, w19, w20, w21, w22, w23, w24, w25, w26, w27, w28, .ref q1, .ref q2, .int (nI ca), w32, .ref q3, .int (nI rq2)])), (q1, .inl (kq1, 40, .inl fmp)), (q2, .inl (kq2, 40, .inl fmk)), (q3, .inl (kq3, 4, .inl fmr2))] t.heap ∧ va_K (dC, dI) vwCl [(kq1, .int), (kq2, .int), (kq3, .int)] t ∧ va_D (va_A [(h0, .inr (8, [w0, w1, w2, w3, w4, w5, w6, w7, w8, w9, w10, w11, w12, w13, w14, w15, w16, w17, w18, w19, w20, w21, w22, w23, w24, w25, w26, w27, w28, .ref q1, .ref q2, .int (nI ca), w32, .ref q3, .int rr])), (q1, .inl (kq1, 40, .inl fmp)), (q2, .inl (kq2, 40, .inl fmk)), (q3, .inl (kq3, 4, .inl fmr))] sz) [(h0, .inr (8, [w0, w1, w2, w3, w4, w5, w6, w7, w8, w9, w10, w11, w12, w13, w14, w15, w16, w17, w18, w19, w20, w21, w22, w23, w24, w25, w26, w27, w28, .ref q1, .ref q2, .int (nI ca), w32, .ref q3, .int (nI rq2)])), (q1, .inl (kq1, 40, .inl fmp)), (q2, .inl (kq2, 40, .inl fmk)), (q3, .inl (kq3, 4, .inl fmr2))]) (va_A [(h0, .inr (8, [w0, w1, w2, w3, w4, w5, w6, w7, w8, w9, w10, w11, w12, w13, w14, w15, w16, w17, w18, w19, w20, w21, w22, w23, w24, w25, w26, w27, w28, .ref q1, .ref q2, .int (nI ca), w32, .ref q3, .int rr])), (q1, .inl (kq1, 40, .inl fmp)), (q2, .inl (kq2, 40, .inl fmk)), (q3, .inl (kq3, 4, .inl fmr))] sz)) 0 0 (va_A [(h0, .inr (8, [w0, w1, w2, w3, w4, w5, w6, w7, w8, w9, w10, w11, w12, w13, w14, w15, w16, w17, w18, w19, w20, w21, w22, w23, w24, w25, w26, w27, w28, .ref q1, .ref q2, .int (nI ca), w32, .ref q3, .int rr])), (q1, .inl (kq1, 40, .inl fmp)), (q2, .inl (kq2, 40, .inl fmk)), (q3, .inl (kq3, 4, .inl fmr))] sz) := by
  refine Met.ofW (cc := cX9_hitsBy) (maxL := 7) (ret := (some .int)) (by decide) rfl ?_
  intro p e s m args below meth c s₁ B hml hv
  obtain ⟨rfl, hsz, hN, hP, hK, hD0⟩ := hv
  have hx := B.exec
  have hb := B.bytes
  have hr := B.returns
  have hts0 := atoms_spec (ws := (wq yX9_hitsBy cX9_hitsBy 7 (some .int))) B.pre
  have hts : ∀ w ∈ BG, w.before _ s = true := fun w h => hts0 w (List.mem_cons_of_mem _ h)
  have hown : s.vm.findClass RX9 = some m.cls := findClass_of_methodNamed B.named
  have hlocks := B.notSynchronized
  subst hsz
  have hD := hD0.self (sz := s.heap.size)
  generalize hAe : va_A [(h0, .inr (8, [w0, w1, w2, w3, w4, w5, w6, w7, w8, w9, w10, w11, w12, w13, w14, w15, w16, w17, w18, w19, w20, w21, w22, w23, w24, w25, w26, w27, w28, .ref q1, .ref q2, .int (nI ca), w32, .ref q3, .int rr])), (q1, .inl (kq1, 40, .inl fmp)), (q2, .inl (kq2, 40, .inl fmk)), (q3, .inl (kq3, 4, .inl fmr))] s.heap.size = A at hD ⊢
  have hA : ∀ q : Nat, s.heap.size ≤ q → A q := fun q h => by rw [← hAe]; exact Or.inr h
  have hS : va_S A s.heap s.heap [] := va_S.rf
  clear hAe hD0
  have hP : va_P (dC, dI) vwCl [(h0, .inr (8, [w0, w1, w2, w3, w4, w5, w6, w7, w8, w9, w10, w11, w12, w13, w14, w15, w16, w17, w18, w19, w20, w21, w22, w23, w24, w25, w26, w27, w28, .ref q1, .ref q2, .int (nI ca), w32, .ref q3, .int rr])), (q1, .inl (kq1, 40, .inl fmp)), (q2, .inl (kq2, 40, .inl fmk)), (q3, .inl (kq3, 4, .inl fmr))] s.heap := hP
  have hl := lv_entry ([.ref h0, .int n, .int (nI sq), .int 0]) (n := 7) (Nat.le_of_ble_eq_true rfl)
  rw [lg_entry_eq]
  generalize (lg_sl ([.ref h0, .int n, .int (nI sq), .int 0]) ++ List.replicate (7 - (lg_sl ([.ref h0, .int n, .int (nI sq), .int 0])).length) Slot.unset).toArray = ls at hl ⊢
  have hl : lv_has ls 7 [(0, .ref h0), (1, .int n), (2, .int (nI sq)), (3, .int 0)] := hl
  refine lv_aload_n hx hb dX9_hitsBy_0 rfl (lv_at hl 0 rfl) ?_
  refine lv_iconst (v := 0) hx hb dX9_hitsBy_1 (by decide) ?_
  refine va_put (D := (dC, dI)) (ci := 8) (v := .int 0) (ty := .int) (C := RX9) (T := TX9) (N := 35) hx hb hts inB_9 tyX9 tyX9_ok nmX9 hown hK hP hD hS 0 rfl rfl 34 (by decide) (hts _ mw_3_216) (fun _ h9 => h9) rfl (by decide +kernel) rfl rfl (Nat.le_of_ble_eq_true rfl) dX9_hitsBy_2 (fun H locs hP hD hS => ?_)
  have hP : va_P (dC, dI) vwCl [(h0, .inr (8, [w0, w1, w2, w3, w4, w5, w6, w7, w8, w9, w10, w11, w12, w13, w14, w15, w16, w17, w18, w19, w20, w21, w22, w23, w24, w25, w26, w27, w28, .ref q1, .ref q2, .int (nI ca), w32, .ref q3, .int 0])), (q1, .inl (kq1, 40, .inl fmp)), (q2, .inl (kq2, 40, .inl fmk)), (q3, .inl (kq3, 4, .inl fmr))] H := hP
  have hD : va_D A [(h0, .inr (8, [w0, w1, w2, w3, w4, w5, w6, w7, w8, w9, w10, w11, w12, w13, w14, w15, w16, w17, w18, w19, w20, w21, w22, w23, w24, w25, w26, w27, w28, .ref q1, .ref q2, .int (nI ca), w32, .ref q3, .int 0])), (q1, .inl (kq1, 40, .inl fmp)), (q2, .inl (kq2, 40, .inl fmk)), (q3, .inl (kq3, 4, .inl fmr))] := hD
  refine lv_iconst (v := 0) hx hb dX9_hitsBy_5 (by decide) ?_
  refine lv_istore (lv' := [(4, .int 0), (0, .ref h0), (1, .int n), (2, .int (nI sq)), (3, .int 0)]) hx hb dX9_hitsBy_6 hl (by decide) rfl (fun ls hl => ?_)
  refine lv_iconst (v := 0) hx hb dX9_hitsBy_8 (by decide) ?_
  refine lv_istore (lv' := [(5, .int 0), (4, .int 0), (0, .ref h0), (1, .int n), (2, .int (nI sq)), (3, .int 0)]) hx hb dX9_hitsBy_9 hl (by decide) rfl (fun ls hl => ?_)
  have key_1 : ∀ (fu : Nat) (k : Nat) (hn8 : Nat) (rqx : Nat) (frx : Nat → Int32), (k ≤ ca) → (rqx ≤ sq) → ((rqx, frx, hn8) = lruM fmp fmk n sq (fa0 sq) fmr k) → (hn8 ≤ k) → ca - k < fu → ∀ (H : Heap) (locs : List Loc), va_P (dC, dI) vwCl [(h0, .inr (8, [w0, w1, w2, w3, w4, w5, w6, w7, w8, w9, w10, w11, w12, w13, w14, w15, w16, w17, w18, w19, w20, w21, w22, w23, w24, w25, w26, w27, w28, .ref q1, .ref q2, .int (nI ca), w32, .ref q3, .int (nI rqx)])), (q1, .inl (kq1, 40, .inl fmp)), (q2, .inl (kq2, 40, .inl fmk)), (q3, .inl (kq3, 4, .inl frx))] H → va_D A [(h0, .inr (8, [w0, w1, w2, w3, w4, w5, w6, w7, w8, w9, w10, w11, w12, w13, w14, w15, w16, w17, w18, w19, w20, w21, w22, w23, w24, w25, w26, w27, w28, .ref q1, .ref q2, .int (nI ca), w32, .ref q3, .int (nI rqx)])), (q1, .inl (kq1, 40, .inl fmp)), (q2, .inl (kq2, 40, .inl fmk)), (q3, .inl (kq3, 4, .inl frx))] → va_S A s.heap H locs → ∀ (ls : Array Slot), lv_has ls 7 [(5, .int (nI k)), (4, .int (nI hn8)), (0, .ref h0), (1, .int n), (2, .int (nI sq)), (3, .int 0)] → W p l e (headSpec (wq yX9_hitsBy cX9_hitsBy 7 (some .int)) ({ frames := 1, cells := 0, slots := 0, locals := 23 })).room s m (([.ref h0, .int n, .int (nI sq), .int 0] : List Value)).toArray below meth c H locs 0 0 (MQ below (va_Qi (fun (r : Int32) (_ : Unit) => r = nI (lruH fmp fmk n sq ca)) (fun _ t => ∃ (rq2 : Nat) (fmr2 : Nat → Int32), (rq2 ≤ 4) ∧ (lruA fmp fmk n sq ca rq2 fmr2) ∧ va_P (dC, dI) vwCl [(h0, .inr (8, [w0, w1, w2, w3, w4, w5, w6, w7, w8, w9, w10, w11, w12, w13, w14, w15, w16, w17, w18, w19, w20, w21, w22, w23, w24, w25, w26, w27, w28, .ref q1, .ref q2, .int (nI ca), w32, .ref q3, .int (nI rq2)])), (q1, .inl (kq1, 40, .inl fmp)), (q2, .inl (kq2, 40, .inl fmk)), (q3, .inl (kq3, 4, .inl fmr2))] t.heap ∧ va_K (dC, dI) vwCl [(kq1, .int), (kq2, .int), (kq3, .int)] t ∧ va_D A [(h0, .inr (8, [w0, w1, w2, w3, w4, w5, w6, w7, w8, w9, w10, w11, w12, w13, w14, w15, w16, w17, w18, w19, w20, w21, w22, w23, w24, w25, w26, w27, w28, .ref q1, .ref q2, .int (nI ca), w32, .ref q3, .int (nI rq2)])), (q1, .inl (kq1, 40, .inl fmp)), (q2, .inl (kq2, 40, .inl fmk)), (q3, .inl (kq3, 4, .inl fmr2))]) A) (([.ref h0, .int n, .int (nI sq), .int 0] : List Value)).toArray s 0 0 A) (F0 m 11 ls []) := by
    intro fu
    induction fu with
    | zero => intro k hn8 rqx frx hk hrx hlr hhx hme; exact absurd hme (Nat.not_lt_zero _)
    | succ fu ih_2 =>
      intro k hn8 rqx frx hk hrx hlr hhx hme H locs hP hD hS ls hl
      refine lv_iload hx hb dX9_hitsBy_11 (lv_at hl 0 rfl) ?_
      refine lv_aload_n hx hb dX9_hitsBy_13 rfl (lv_at hl 2 rfl) ?_
      refine va_get (D := (dC, dI)) (ci := 8) (v := .int (nI ca)) (C := RX9) (T := TX9) (N := 35) hx hb hts inB_9 hown hK hP 0 rfl rfl 31 (by decide) (hts _ mw_3_213) (fun _ h9 => h9) rfl dX9_hitsBy_14 ?_
      refine lv_icmp_ge (tgt := 119) hx hb dX9_hitsBy_17 (by decide) (fun c_3 => ?_) (fun c_3 => ?_)
      · have b_4 := gx_ge (X := ((k : Nat) : Int)) (C := ((ca : Nat) : Int)) (nI_toInt (by omega)) (nI_toInt (by omega)) c_3
        refine lv_iload hx hb dX9_hitsBy_119 (lv_at hl 1 rfl) ?_
        have hP9 := hP.sub (ws' := [(h0, .inr (8, [w0, w1, w2, w3, w4, w5, w6, w7, w8, w9, w10, w11, w12, w13, w14, w15, w16, w17, w18, w19, w20, w21, w22, w23, w24, w25, w26, w27, w28, .ref q1, .ref q2, .int (nI ca), w32, .ref q3, .int (nI rqx)])), (q1, .inl (kq1, 40, .inl fmp)), (q2, .inl (kq2, 40, .inl fmk)), (q3, .inl (kq3, 4, .inl frx))]) [0, 1, 2, 3] rfl
        have hD9 := hD.sub (ws' := [(h0, .inr (8, [w0, w1, w2, w3, w4, w5, w6, w7, w8, w9, w10, w11, w12, w13, w14, w15, w16, w17, w18, w19, w20, w21, w22, w23, w24, w25, w26, w27, w28, .ref q1, .ref q2, .int (nI ca), w32, .ref q3, .int (nI rqx)])), (q1, .inl (kq1, 40, .inl fmp)), (q2, .inl (kq2, 40, .inl fmk)), (q3, .inl (kq3, 4, .inl frx))]) [0, 1, 2, 3] (by decide) rfl
        have hK9 := hK.sub (tys' := [(kq1, .int), (kq2, .int), (kq3, .int)]) [0, 1, 2] rfl
        exact W.iret (v := (nI hn8)) hx hb hr (fun t ht hW => ⟨⟨(nI hn8), (), rfl, (congrArg nI (lm_end hs1 hs4 (by rw [show ca = k from (by omega)]; exact hlr)).1), rqx, frx, (by omega), (lm_end hs1 hs4 (by rw [show ca = k from (by omega)]; exact hlr)).2, by rw [ht]; exact hP9, va_K.moved hW.alike hK9, hD9⟩, hS.F ht⟩) hS.2.2 dX9_hitsBy_121
      · have b_4 := gn_ge (X := ((k : Nat) : Int)) (C := ((ca : Nat) : Int)) (nI_toInt (by omega)) (nI_toInt (by omega)) c_3
        refine lv_aload_n hx hb dX9_hitsBy_20 rfl (lv_at hl 2 rfl) ?_
        refine va_get (D := (dC, dI)) (ci := 8) (v := .ref q1) (C := RX9) (T := TX9) (N := 35) hx hb hts inB_9 hown hK hP 0 rfl rfl 29 (by decide) (hts _ mw_3_211) (fun _ h9 => h9) rfl dX9_hitsBy_21 ?_
        refine lv_iload hx hb dX9_hitsBy_24 (lv_at hl 0 rfl) ?_
        refine va_iald hx hb hK hP 1 0 rfl rfl (show vp_in (nI k) 40 from vp_in_nI (by omega) (by omega)) dX9_hitsBy_26 ?_
        refine hx_top (y := (fmp k)) (congrArg _ (nI_clamp (by omega))) ?_
        refine lv_iload_n hx hb dX9_hitsBy_27 rfl (lv_at hl 3 rfl) ?_
        refine lv_icmp_ne (tgt := 113) hx hb dX9_hitsBy_28 (by decide) (fun c_5 => ?_) (fun c_5 => ?_)
        · have b_6 := gx_ne (X := (Int32.toInt (fmp k))) (C := (Int32.toInt n)) rfl rfl c_5
          refine lv_iinc (v := (nI (k + 1))) (lv' := [(5, .int (nI (k + 1))), (4, .int (nI hn8)), (0, .ref h0), (1, .int n), (2, .int (nI sq)), (3, .int 0)]) hx hb dX9_hitsBy_113 hl (k := 0) rfl (nI_add k 1) (by decide) rfl (fun ls hl => ?_)
          refine lv_goto (tgt := 11) hx hb dX9_hitsBy_116 (by decide) ?_
          exact ih_2 (k + 1) hn8 rqx frx (by omega) hrx (lm_skip hlr c_5) (by omega) (by omega) _ _ hP hD hS ls (lv_sub hl [0, 1, 2, 3, 4, 5] rfl)
        · have b_6 := gn_ne (X := (Int32.toInt (fmp k))) (C := (Int32.toInt n)) rfl rfl c_5
          refine lv_aload_n hx hb dX9_hitsBy_31 rfl (lv_at hl 2 rfl) ?_
          refine lv_aload_n hx hb dX9_hitsBy_32 rfl (lv_at hl 2 rfl) ?_
          refine va_get (D := (dC, dI)) (ci := 8) (v := .ref q2) (C := RX9) (T := TX9) (N := 35) hx hb hts inB_9 hown hK hP 0 rfl rfl 30 (by decide) (hts _ mw_3_212) (fun _ h9 => h9) rfl dX9_hitsBy_33 ?_
          refine lv_iload hx hb dX9_hitsBy_36 (lv_at hl 0 rfl) ?_
          refine va_iald hx hb hK hP 2 1 rfl rfl (show vp_in (nI k) 40 from vp_in_nI (by omega) (by omega)) dX9_hitsBy_38 ?_
          refine hx_top (y := (fmk k)) (congrArg _ (nI_clamp (by omega))) ?_
          have hPc := hP.sub (ws' := [(h0, .inr (8, [w0, w1, w2, w3, w4, w5, w6, w7, w8, w9, w10, w11, w12, w13, w14, w15, w16, w17, w18, w19, w20, w21, w22, w23, w24, w25, w26, w27, w28, .ref q1, .ref q2, .int (nI ca), w32, .ref q3, .int (nI rqx)])), (q3, .inl (kq3, 4, .inl frx))]) [0, 3] rfl
          have hDc := hD.sub (ws' := [(h0, .inr (8, [w0, w1, w2, w3, w4, w5, w6, w7, w8, w9, w10, w11, w12, w13, w14, w15, w16, w17, w18, w19, w20, w21, w22, w23, w24, w25, w26, w27, w28, .ref q1, .ref q2, .int (nI ca), w32, .ref q3, .int (nI rqx)])), (q3, .inl (kq3, 4, .inl frx))]) [0, 3] (by decide) rfl
          have hKc := hK.sub (tys' := [(kq3, .int)]) [2] rfl
          refine va_calli (va_runV (As := [.int (fmk k)]) (rest := []) ⟨hx, hb, hml, hown, hts⟩ (m_whereIs l dC dI H.size h0 (w0) (w1) (w2) (w3) (w4) (w5) (w6) (w7) (w8) (w9) (w10) (w11) (w12) (w13) (w14) (w15) (w16) (w17) (w18) (w19) (w20) (w21) (w22) (w23) (w24) (w25) (w26) (w27) (w28) (.ref q1) (.ref q2) (.int (nI ca)) (w32) q3 rqx kq3 frx (fmk k) (by omega)) (cwV 1 hts (gV mw_5_27 mw_5_29 mw_0_38 mw_1_9 mw_5_30) rfl rfl rfl (by decide +kernel) ⟨Nat.le_of_ble_eq_true rfl, Nat.le_of_ble_eq_true rfl⟩) ⟨pcW_blind, va_recv hKc hPc (ci := 8) (q0 := 0) rfl rfl, pcW_at hPc hKc hDc hN⟩ rfl rfl hl.1 rfl (lv_room (Nat.le_of_ble_eq_true rfl)) dX9_hitsBy_39 ⟨Nat.le_of_ble_eq_true rfl, Nat.le_of_ble_eq_true rfl⟩) hS (fun q h1 h2 => absurd h2 (Nat.not_le.mpr h1)) (fun q h => hA q (Nat.le_trans hS.1 h)) (fun r_7 u t H1 locs ht hvm hw_7 hB hz1 hk1 hS => ?_)
          have hP := keepP hP hk1
          clear hz1 hk1 hB ht hvm hPc hDc hKc
          generalize H1 = H at hP hS ⊢
          refine lv_istore (lv' := [(6, .int r_7), (5, .int (nI k)), (4, .int (nI hn8)), (0, .ref h0), (1, .int n), (2, .int (nI sq)), (3, .int 0)]) hx hb dX9_hitsBy_42 hl (by decide) rfl (fun ls hl => ?_)
          rcases li_cases hw_7 with eq9 | ⟨q9, hq9, eq9⟩
          · subst eq9
            refine lv_iload hx hb dX9_hitsBy_44 (lv_at hl 2 rfl) ?_
            refine lv_iload hx hb dX9_hitsBy_46 (lv_at hl 0 rfl) ?_
            refine lv_if_ge (tgt := 55) hx hb dX9_hitsBy_48 (by decide) (fun h => absurd h (by decide)) (fun _ => ?_)
            refine lv_iconst (v := 0) hx hb dX9_hitsBy_51 (by decide) ?_
            refine lv_goto (tgt := 56) hx hb dX9_hitsBy_52 (by decide) ?_
            refine lv_iadd hx hb dX9_hitsBy_56 ?_
            refine hx_top (y := (nI (hn8 + 0))) (nI_add hn8 0) ?_
            refine lv_istore (lv' := [(4, .int (nI (hn8 + 0))), (6, .int (-6)), (5, .int (nI k)), (0, .ref h0), (1, .int n), (2, .int (nI sq)), (3, .int 0)]) hx hb dX9_hitsBy_57 hl (by decide) rfl (fun ls hl => ?_)
            refine lv_iload hx hb dX9_hitsBy_59 (lv_at hl 1 rfl) ?_
            refine lv_if_lt (tgt := 73) hx hb dX9_hitsBy_61 (by decide) (fun _ => ?_) (fun h => absurd (by decide) h)
            refine lv_aload_n hx hb dX9_hitsBy_73 rfl (lv_at hl 3 rfl) ?_
            refine va_get (D := (dC, dI)) (ci := 8) (v := .int (nI rqx)) (C := RX9) (T := TX9) (N := 35) hx hb hts inB_9 hown hK hP 0 rfl rfl 34 (by decide) (hts _ mw_3_216) (fun _ h9 => h9) rfl dX9_hitsBy_74 ?_
            refine lv_iload_n hx hb dX9_hitsBy_77 rfl (lv_at hl 5 rfl) ?_
            refine lv_icmp_ne (tgt := 102) hx hb dX9_hitsBy_78 (by decide) (fun c_8 => ?_) (fun c_8 => ?_)
            · have b_9 := gx_ne (X := ((rqx : Nat) : Int)) (C := ((sq : Nat) : Int)) (nI_toInt (by omega)) (nI_toInt (by omega)) c_8
              refine lv_aload_n hx hb dX9_hitsBy_102 rfl (lv_at hl 3 rfl) ?_
              refine lv_aload_n hx hb dX9_hitsBy_103 rfl (lv_at hl 3 rfl) ?_
              refine va_get (D := (dC, dI)) (ci := 8) (v := .ref q2) (C := RX9) (T := TX9) (N := 35) hx hb hts inB_9 hown hK hP 0 rfl rfl 30 (by decide) (hts _ mw_3_212) (fun _ h9 => h9) rfl dX9_hitsBy_104 ?_
              refine lv_iload hx hb dX9_hitsBy_107 (lv_at hl 2 rfl) ?_
              refine va_iald hx hb hK hP 2 1 rfl rfl (show vp_in (nI k) 40 from vp_in_nI (by omega) (by omega)) dX9_hitsBy_109 ?_
              refine hx_top (y := (fmk k)) (congrArg _ (nI_clamp (by omega))) ?_
              have hPc := hP.sub (ws' := [(h0, .inr (8, [w0, w1, w2, w3, w4, w5, w6, w7, w8, w9, w10, w11, w12, w13, w14, w15, w16, w17, w18, w19, w20, w21, w22, w23, w24, w25, w26, w27, w28, .ref q1, .ref q2, .int (nI ca), w32, .ref q3, .int (nI rqx)])), (q3, .inl (kq3, 4, .inl frx))]) [0, 3] rfl
              have hDc := hD.sub (ws' := [(h0, .inr (8, [w0, w1, w2, w3, w4, w5, w6, w7, w8, w9, w10, w11, w12, w13, w14, w15, w16, w17, w18, w19, w20, w21, w22, w23, w24, w25, w26, w27, w28, .ref q1, .ref q2, .int (nI ca), w32, .ref q3, .int (nI rqx)])), (q3, .inl (kq3, 4, .inl frx))]) [0, 3] (by decide) rfl
              have hKc := hK.sub (tys' := [(kq3, .int)]) [2] rfl
              have hFc := va_free (wc := [(h0, .inr (8, [w0, w1, w2, w3, w4, w5, w6, w7, w8, w9, w10, w11, w12, w13, w14, w15, w16, w17, w18, w19, w20, w21, w22, w23, w24, w25, w26, w27, w28, .ref q1, .ref q2, .int (nI ca), w32, .ref q3, .int (nI rqx)])), (q3, .inl (kq3, 4, .inl frx))]) hD hS hA [0, 3] rfl
              refine va_callv (va_runV (As := [.int (fmk k)]) (rest := []) ⟨hx, hb, hml, hown, hts⟩ (m_putFirst l dC dI H.size h0 (w0) (w1) (w2) (w3) (w4) (w5) (w6) (w7) (w8) (w9) (w10) (w11) (w12) (w13) (w14) (w15) (w16) (w17) (w18) (w19) (w20) (w21) (w22) (w23) (w24) (w25) (w26) (w27) (w28) (.ref q1) (.ref q2) (.int (nI ca)) (w32) q3 rqx kq3 frx (fmk k) (by omega)) (cwV 1 hts (gV mw_5_43 mw_5_45 mw_0_42 mw_1_9 mw_5_46) rfl rfl rfl (by decide +kernel) ⟨Nat.le_of_ble_eq_true rfl, Nat.le_of_ble_eq_true rfl⟩) ⟨pcW_blind, va_recv hKc hPc (ci := 8) (q0 := 0) rfl rfl, pcW_at hPc hKc hDc hN⟩ rfl rfl hl.1 rfl (lv_room (Nat.le_of_ble_eq_true rfl)) dX9_hitsBy_110 ⟨Nat.le_of_ble_eq_true rfl, Nat.le_of_ble_eq_true rfl⟩) hS (fun q _ h => hFc q h) hFc (fun u t H1 locs ht hvm hw_10 hB hz1 hk1 hS => ?_)
              obtain ⟨f_11, p_12, hP1, hK1, hD1⟩ := hB
              rw [ht] at hP1
              have hK1 := va_K.moved hvm.symm hK1
              obtain ⟨hP, hD⟩ := va_join (wr := [(q1, .inl (kq1, 40, .inl fmp)), (q2, .inl (kq2, 40, .inl fmk))]) (w1 := [(h0, .inr (8, [w0, w1, w2, w3, w4, w5, w6, w7, w8, w9, w10, w11, w12, w13, w14, w15, w16, w17, w18, w19, w20, w21, w22, w23, w24, w25, w26, w27, w28, .ref q1, .ref q2, .int (nI ca), w32, .ref q3, .int (nI (rqx + 1))])), (q3, .inl (kq3, 4, .inl f_11))]) hP hD [0, 3] [1, 2] rfl rfl (by decide) (by decide) hk1 hFc hP1 hD1
              have hK := (hK.sub (tys' := [(kq1, .int), (kq2, .int)]) [0, 1] rfl).app hK1
              clear hz1 hk1 hPc hDc hKc hFc
              generalize H1 = H at hP hS ⊢
              have hK : va_K (dC, dI) vwCl [(kq1, .int), (kq2, .int), (kq3, .int)] s := hK
              have hP : va_P (dC, dI) vwCl [(q1, .inl (kq1, 40, .inl fmp)), (q2, .inl (kq2, 40, .inl fmk)), (h0, .inr (8, [w0, w1, w2, w3, w4, w5, w6, w7, w8, w9, w10, w11, w12, w13, w14, w15, w16, w17, w18, w19, w20, w21, w22, w23, w24, w25, w26, w27, w28, .ref q1, .ref q2, .int (nI ca), w32, .ref q3, .int (nI (rqx + 1))])), (q3, .inl (kq3, 4, .inl f_11))] H := hP
              have hD : va_D A [(q1, .inl (kq1, 40, .inl fmp)), (q2, .inl (kq2, 40, .inl fmk)), (h0, .inr (8, [w0, w1, w2, w3, w4, w5, w6, w7, w8, w9, w10, w11, w12, w13, w14, w15, w16, w17, w18, w19, w20, w21, w22, w23, w24, w25, w26, w27, w28, .ref q1, .ref q2, .int (nI ca), w32, .ref q3, .int (nI (rqx + 1))])), (q3, .inl (kq3, 4, .inl f_11))] := hD
              refine lv_iinc (v := (nI (k + 1))) (lv' := [(5, .int (nI (k + 1))), (4, .int (nI (hn8 + 0))), (6, .int (-6)), (0, .ref h0), (1, .int n), (2, .int (nI sq)), (3, .int 0)]) hx hb dX9_hitsBy_113 hl (k := 2) rfl (nI_add k 1) (by decide) rfl (fun ls hl => ?_)
              refine lv_goto (tgt := 11) hx hb dX9_hitsBy_116 (by decide) ?_
              exact ih_2 (k + 1) (hn8 + 0) (rqx + 1) f_11 (by omega) (by omega) (lm_new hlr c_5 hw_7 (by omega) p_12) (by omega) (by omega) _ _ (hP.sub (ws' := [(h0, .inr (8, [w0, w1, w2, w3, w4, w5, w6, w7, w8, w9, w10, w11, w12, w13, w14, w15, w16, w17, w18, w19, w20, w21, w22, w23, w24, w25, w26, w27, w28, .ref q1, .ref q2, .int (nI ca), w32, .ref q3, .int (nI (rqx + 1))])), (q1, .inl (kq1, 40, .inl fmp)), (q2, .inl (kq2, 40, .inl fmk)), (q3, .inl (kq3, 4, .inl f_11))]) [2, 0, 1, 3] rfl) (hD.sub (ws' := [(h0, .inr (8, [w0, w1, w2, w3, w4, w5, w6, w7, w8, w9, w10, w11, w12, w13, w14, w15, w16, w17, w18, w19, w20, w21, w22, w23, w24, w25, w26, w27, w28, .ref q1, .ref q2, .int (nI ca), w32, .ref q3, .int (nI (rqx + 1))])), (q1, .inl (kq1, 40, .inl fmp)), (q2, .inl (kq2, 40, .inl fmk)), (q3, .inl (kq3, 4, .inl f_11))]) [2, 0, 1, 3] (by decide) rfl) hS ls (lv_sub hl [0, 1, 3, 4, 5, 6] rfl)
            · have b_9 := gn_ne (X := ((rqx : Nat) : Int)) (C := ((sq : Nat) : Int)) (nI_toInt (by omega)) (nI_toInt (by omega)) c_8
              refine lv_aload_n hx hb dX9_hitsBy_81 rfl (lv_at hl 3 rfl) ?_
              refine lv_iload_n hx hb dX9_hitsBy_82 rfl (lv_at hl 6 rfl) ?_
              refine lv_if_eq (tgt := 96) hx hb dX9_hitsBy_83 (by decide) (fun _ => ?_) (fun h => absurd (by decide) h)
              refine lv_iload_n hx hb dX9_hitsBy_96 rfl (lv_at hl 5 rfl) ?_
              refine lv_iconst (v := 1) hx hb dX9_hitsBy_97 (by decide) ?_
              refine lv_isub hx hb dX9_hitsBy_98 ?_
              refine hx_top (y := (nI (sq - 1))) (pk_sub (a := sq) (b := 1) (by omega)) ?_
              have hPc := hP.sub (ws' := [(h0, .inr (8, [w0, w1, w2, w3, w4, w5, w6, w7, w8, w9, w10, w11, w12, w13, w14, w15, w16, w17, w18, w19, w20, w21, w22, w23, w24, w25, w26, w27, w28, .ref q1, .ref q2, .int (nI ca), w32, .ref q3, .int (nI rqx)])), (q3, .inl (kq3, 4, .inl frx))]) [0, 3] rfl
              have hDc := hD.sub (ws' := [(h0, .inr (8, [w0, w1, w2, w3, w4, w5, w6, w7, w8, w9, w10, w11, w12, w13, w14, w15, w16, w17, w18, w19, w20, w21, w22, w23, w24, w25, w26, w27, w28, .ref q1, .ref q2, .int (nI ca), w32, .ref q3, .int (nI rqx)])), (q3, .inl (kq3, 4, .inl frx))]) [0, 3] (by decide) rfl
              have hKc := hK.sub (tys' := [(kq3, .int)]) [2] rfl
              have hFc := va_free (wc := [(h0, .inr (8, [w0, w1, w2, w3, w4, w5, w6, w7, w8, w9, w10, w11, w12, w13, w14, w15, w16, w17, w18, w19, w20, w21, w22, w23, w24, w25, w26, w27, w28, .ref q1, .ref q2, .int (nI ca), w32, .ref q3, .int (nI rqx)])), (q3, .inl (kq3, 4, .inl frx))]) hD hS hA [0, 3] rfl
              refine va_callv (va_runV (As := [.int (nI (sq - 1))]) (rest := []) ⟨hx, hb, hml, hown, hts⟩ (m_takeOut l dC dI H.size h0 (w0) (w1) (w2) (w3) (w4) (w5) (w6) (w7) (w8) (w9) (w10) (w11) (w12) (w13) (w14) (w15) (w16) (w17) (w18) (w19) (w20) (w21) (w22) (w23) (w24) (w25) (w26) (w27) (w28) (.ref q1) (.ref q2) (.int (nI ca)) (w32) q3 rqx kq3 frx (sq - 1) (by omega) (by omega)) (cwV 1 hts (gV mw_5_31 mw_5_33 mw_0_39 mw_1_9 mw_5_34) rfl rfl rfl (by decide +kernel) ⟨Nat.le_of_ble_eq_true rfl, Nat.le_of_ble_eq_true rfl⟩) ⟨pcW_blind, va_recv hKc hPc (ci := 8) (q0 := 0) rfl rfl, pcW_at hPc hKc hDc hN⟩ rfl rfl hl.1 rfl (lv_room (Nat.le_of_ble_eq_true rfl)) dX9_hitsBy_99 ⟨Nat.le_of_ble_eq_true rfl, Nat.le_of_ble_eq_true rfl⟩) hS (fun q _ h => hFc q h) hFc (fun u t H1 locs ht hvm hw_13 hB hz1 hk1 hS => ?_)
              obtain ⟨f_14, p_15, hP1, hK1, hD1⟩ := hB
              rw [ht] at hP1
              have hK1 := va_K.moved hvm.symm hK1
              obtain ⟨hP, hD⟩ := va_join (wr := [(q1, .inl (kq1, 40, .inl fmp)), (q2, .inl (kq2, 40, .inl fmk))]) (w1 := [(h0, .inr (8, [w0, w1, w2, w3, w4, w5, w6, w7, w8, w9, w10, w11, w12, w13, w14, w15, w16, w17, w18, w19, w20, w21, w22, w23, w24, w25, w26, w27, w28, .ref q1, .ref q2, .int (nI ca), w32, .ref q3, .int (nI (rqx - 1))])), (q3, .inl (kq3, 4, .inl f_14))]) hP hD [0, 3] [1, 2] rfl rfl (by decide) (by decide) hk1 hFc hP1 hD1
              have hK := (hK.sub (tys' := [(kq1, .int), (kq2, .int)]) [0, 1] rfl).app hK1
              clear hz1 hk1 hPc hDc hKc hFc
              generalize H1 = H at hP hS ⊢
              have hK : va_K (dC, dI) vwCl [(kq1, .int), (kq2, .int), (kq3, .int)] s := hK
              have hP : va_P (dC, dI) vwCl [(q1, .inl (kq1, 40, .inl fmp)), (q2, .inl (kq2, 40, .inl fmk)), (h0, .inr (8, [w0, w1, w2, w3, w4, w5, w6, w7, w8, w9, w10, w11, w12, w13, w14, w15, w16, w17, w18, w19, w20, w21, w22, w23, w24, w25, w26, w27, w28, .ref q1, .ref q2, .int (nI ca), w32, .ref q3, .int (nI (rqx - 1))])), (q3, .inl (kq3, 4, .inl f_14))] H := hP
              have hD : va_D A [(q1, .inl (kq1, 40, .inl fmp)), (q2, .inl (kq2, 40, .inl fmk)), (h0, .inr (8, [w0, w1, w2, w3, w4, w5, w6, w7, w8, w9, w10, w11, w12, w13, w14, w15, w16, w17, w18, w19, w20, w21, w22, w23, w24, w25, w26, w27, w28, .ref q1, .ref q2, .int (nI ca), w32, .ref q3, .int (nI (rqx - 1))])), (q3, .inl (kq3, 4, .inl f_14))] := hD
              refine lv_aload_n hx hb dX9_hitsBy_102 rfl (lv_at hl 3 rfl) ?_
              refine lv_aload_n hx hb dX9_hitsBy_103 rfl (lv_at hl 3 rfl) ?_
              refine va_get (D := (dC, dI)) (ci := 8) (v := .ref q2) (C := RX9) (T := TX9) (N := 35) hx hb hts inB_9 hown hK hP 2 rfl rfl 30 (by decide) (hts _ mw_3_212) (fun _ h9 => h9) rfl dX9_hitsBy_104 ?_
              refine lv_iload hx hb dX9_hitsBy_107 (lv_at hl 2 rfl) ?_
              refine va_iald hx hb hK hP 1 1 rfl rfl (show vp_in (nI k) 40 from vp_in_nI (by omega) (by omega)) dX9_hitsBy_109 ?_
              refine hx_top (y := (fmk k)) (congrArg _ (nI_clamp (by omega))) ?_
              have hPc := hP.sub (ws' := [(h0, .inr (8, [w0, w1, w2, w3, w4, w5, w6, w7, w8, w9, w10, w11, w12, w13, w14, w15, w16, w17, w18, w19, w20, w21, w22, w23, w24, w25, w26, w27, w28, .ref q1, .ref q2, .int (nI ca), w32, .ref q3, .int (nI (rqx - 1))])), (q3, .inl (kq3, 4, .inl f_14))]) [2, 3] rfl
              have hDc := hD.sub (ws' := [(h0, .inr (8, [w0, w1, w2, w3, w4, w5, w6, w7, w8, w9, w10, w11, w12, w13, w14, w15, w16, w17, w18, w19, w20, w21, w22, w23, w24, w25, w26, w27, w28, .ref q1, .ref q2, .int (nI ca), w32, .ref q3, .int (nI (rqx - 1))])), (q3, .inl (kq3, 4, .inl f_14))]) [2, 3] (by decide) rfl
              have hKc := hK.sub (tys' := [(kq3, .int)]) [2] rfl
              have hFc := va_free (wc := [(h0, .inr (8, [w0, w1, w2, w3, w4, w5, w6, w7, w8, w9, w10, w11, w12, w13, w14, w15, w16, w17, w18, w19, w20, w21, w22, w23, w24, w25, w26, w27, w28, .ref q1, .ref q2, .int (nI ca), w32, .ref q3, .int (nI (rqx - 1))])), (q3, .inl (kq3, 4, .inl f_14))]) hD hS hA [2, 3] rfl
              refine va_callv (va_runV (As := [.int (fmk k)]) (rest := []) ⟨hx, hb, hml, hown, hts⟩ (m_putFirst l dC dI H.size h0 (w0) (w1) (w2) (w3) (w4) (w5) (w6) (w7) (w8) (w9) (w10) (w11) (w12) (w13) (w14) (w15) (w16) (w17) (w18) (w19) (w20) (w21) (w22) (w23) (w24) (w25) (w26) (w27) (w28) (.ref q1) (.ref q2) (.int (nI ca)) (w32) q3 (rqx - 1) kq3 f_14 (fmk k) (by omega)) (cwV 1 hts (gV mw_5_43 mw_5_45 mw_0_42 mw_1_9 mw_5_46) rfl rfl rfl (by decide +kernel) ⟨Nat.le_of_ble_eq_true rfl, Nat.le_of_ble_eq_true rfl⟩) ⟨pcW_blind, va_recv hKc hPc (ci := 8) (q0 := 0) rfl rfl, pcW_at hPc hKc hDc hN⟩ rfl rfl hl.1 rfl (lv_room (Nat.le_of_ble_eq_true rfl)) dX9_hitsBy_110 ⟨Nat.le_of_ble_eq_true rfl, Nat.le_of_ble_eq_true rfl⟩) hS (fun q _ h => hFc q h) hFc (fun u t H1 locs ht hvm hw_16 hB hz1 hk1 hS => ?_)
              obtain ⟨f_17, p_18, hP1, hK1, hD1⟩ := hB
              rw [ht] at hP1
              have hK1 := va_K.moved hvm.symm hK1
              obtain ⟨hP, hD⟩ := va_join (wr := [(q1, .inl (kq1, 40, .inl fmp)), (q2, .inl (kq2, 40, .inl fmk))]) (w1 := [(h0, .inr (8, [w0, w1, w2, w3, w4, w5, w6, w7, w8, w9, w10, w11, w12, w13, w14, w15, w16, w17, w18, w19, w20, w21, w22, w23, w24, w25, w26, w27, w28, .ref q1, .ref q2, .int (nI ca), w32, .ref q3, .int (nI ((rqx - 1) + 1))])), (q3, .inl (kq3, 4, .inl f_17))]) hP hD [2, 3] [0, 1] rfl rfl (by decide) (by decide) hk1 hFc hP1 hD1
              have hK := (hK.sub (tys' := [(kq1, .int), (kq2, .int)]) [0, 1] rfl).app hK1
              clear hz1 hk1 hPc hDc hKc hFc
              generalize H1 = H at hP hS ⊢
              have hK : va_K (dC, dI) vwCl [(kq1, .int), (kq2, .int), (kq3, .int)] s := hK
              have hP : va_P (dC, dI) vwCl [(q1, .inl (kq1, 40, .inl fmp)), (q2, .inl (kq2, 40, .inl fmk)), (h0, .inr (8, [w0, w1, w2, w3, w4, w5, w6, w7, w8, w9, w10, w11, w12, w13, w14, w15, w16, w17, w18, w19, w20, w21, w22, w23, w24, w25, w26, w27, w28, .ref q1, .ref q2, .int (nI ca), w32, .ref q3, .int (nI ((rqx - 1) + 1))])), (q3, .inl (kq3, 4, .inl f_17))] H := hP
              have hD : va_D A [(q1, .inl (kq1, 40, .inl fmp)), (q2, .inl (kq2, 40, .inl fmk)), (h0, .inr (8, [w0, w1, w2, w3, w4, w5, w6, w7, w8, w9, w10, w11, w12, w13, w14, w15, w16, w17, w18, w19, w20, w21, w22, w23, w24, w25, w26, w27, w28, .ref q1, .ref q2, .int (nI ca), w32, .ref q3, .int (nI ((rqx - 1) + 1))])), (q3, .inl (kq3, 4, .inl f_17))] := hD
              refine lv_iinc (v := (nI (k + 1))) (lv' := [(5, .int (nI (k + 1))), (4, .int (nI (hn8 + 0))), (6, .int (-6)), (0, .ref h0), (1, .int n), (2, .int (nI sq)), (3, .int 0)]) hx hb dX9_hitsBy_113 hl (k := 2) rfl (nI_add k 1) (by decide) rfl (fun ls hl => ?_)
              refine lv_goto (tgt := 11) hx hb dX9_hitsBy_116 (by decide) ?_
              exact ih_2 (k + 1) (hn8 + 0) ((rqx - 1) + 1) f_17 (by omega) (by omega) (lm_old (m1 := rqx - 1) hlr c_5 hw_7 (by omega) (by omega) rfl p_15 p_18) (by omega) (by omega) _ _ (hP.sub (ws' := [(h0, .inr (8, [w0, w1, w2, w3, w4, w5, w6, w7, w8, w9, w10, w11, w12, w13, w14, w15, w16, w17, w18, w19, w20, w21, w22, w23, w24, w25, w26, w27, w28, .ref q1, .ref q2, .int (nI ca), w32, .ref q3, .int (nI ((rqx - 1) + 1))])), (q1, .inl (kq1, 40, .inl fmp)), (q2, .inl (kq2, 40, .inl fmk)), (q3, .inl (kq3, 4, .inl f_17))]) [2, 0, 1, 3] rfl) (hD.sub (ws' := [(h0, .inr (8, [w0, w1, w2, w3, w4, w5, w6, w7, w8, w9, w10, w11, w12, w13, w14, w15, w16, w17, w18, w19, w20, w21, w22, w23, w24, w25, w26, w27, w28, .ref q1, .ref q2, .int (nI ca), w32, .ref q3, .int (nI ((rqx - 1) + 1))])), (q1, .inl (kq1, 40, .inl fmp)), (q2, .inl (kq2, 40, .inl fmk)), (q3, .inl (kq3, 4, .inl f_17))]) [2, 0, 1, 3] (by decide) rfl) hS ls (lv_sub hl [0, 1, 3, 4, 5, 6] rfl)
          · subst eq9
            refine lv_iload hx hb dX9_hitsBy_44 (lv_at hl 2 rfl) ?_
            refine lv_iload hx hb dX9_hitsBy_46 (lv_at hl 0 rfl) ?_
            refine lv_if_ge (tgt := 55) hx hb dX9_hitsBy_48 (by decide) (fun c_19 => ?_) (fun h => absurd (gn_ge (X := ((q9 : Nat) : Int)) (C := 0) (nI_toInt (by omega)) (by decide) h) (by omega))
            have b_20 := gx_ge (X := ((q9 : Nat) : Int)) (C := 0) (nI_toInt (by omega)) (by decide) c_19
            refine lv_iconst (v := 1) hx hb dX9_hitsBy_55 (by decide) ?_
            refine lv_iadd hx hb dX9_hitsBy_56 ?_
            refine hx_top (y := (nI (hn8 + 1))) (nI_add hn8 1) ?_
            refine lv_istore (lv' := [(4, .int (nI (hn8 + 1))), (6, .int (nI q9)), (5, .int (nI k)), (0, .ref h0), (1, .int n), (2, .int (nI sq)), (3, .int 0)]) hx hb dX9_hitsBy_57 hl (by decide) rfl (fun ls hl => ?_)
            refine lv_iload hx hb dX9_hitsBy_59 (lv_at hl 1 rfl) ?_
            refine lv_if_lt (tgt := 73) hx hb dX9_hitsBy_61 (by decide) (fun h => absurd (gx_lt (X := ((q9 : Nat) : Int)) (C := 0) (nI_toInt (by omega)) (by decide) h) (by omega)) (fun c_21 => ?_)
            have b_22 := gn_lt (X := ((q9 : Nat) : Int)) (C := 0) (nI_toInt (by omega)) (by decide) c_21
            refine lv_aload_n hx hb dX9_hitsBy_64 rfl (lv_at hl 3 rfl) ?_
            refine lv_iload hx hb dX9_hitsBy_65 (lv_at hl 1 rfl) ?_
            have hPc := hP.sub (ws' := [(h0, .inr (8, [w0, w1, w2, w3, w4, w5, w6, w7, w8, w9, w10, w11, w12, w13, w14, w15, w16, w17, w18, w19, w20, w21, w22, w23, w24, w25, w26, w27, w28, .ref q1, .ref q2, .int (nI ca), w32, .ref q3, .int (nI rqx)])), (q3, .inl (kq3, 4, .inl frx))]) [0, 3] rfl
            have hDc := hD.sub (ws' := [(h0, .inr (8, [w0, w1, w2, w3, w4, w5, w6, w7, w8, w9, w10, w11, w12, w13, w14, w15, w16, w17, w18, w19, w20, w21, w22, w23, w24, w25, w26, w27, w28, .ref q1, .ref q2, .int (nI ca), w32, .ref q3, .int (nI rqx)])), (q3, .inl (kq3, 4, .inl frx))]) [0, 3] (by decide) rfl
            have hKc := hK.sub (tys' := [(kq3, .int)]) [2] rfl
            have hFc := va_free (wc := [(h0, .inr (8, [w0, w1, w2, w3, w4, w5, w6, w7, w8, w9, w10, w11, w12, w13, w14, w15, w16, w17, w18, w19, w20, w21, w22, w23, w24, w25, w26, w27, w28, .ref q1, .ref q2, .int (nI ca), w32, .ref q3, .int (nI rqx)])), (q3, .inl (kq3, 4, .inl frx))]) hD hS hA [0, 3] rfl
            refine va_callv (va_runV (As := [.int (nI q9)]) (rest := []) ⟨hx, hb, hml, hown, hts⟩ (m_takeOut l dC dI H.size h0 (w0) (w1) (w2) (w3) (w4) (w5) (w6) (w7) (w8) (w9) (w10) (w11) (w12) (w13) (w14) (w15) (w16) (w17) (w18) (w19) (w20) (w21) (w22) (w23) (w24) (w25) (w26) (w27) (w28) (.ref q1) (.ref q2) (.int (nI ca)) (w32) q3 rqx kq3 frx q9 (by omega) (by omega)) (cwV 1 hts (gV mw_5_31 mw_5_33 mw_0_39 mw_1_9 mw_5_34) rfl rfl rfl (by decide +kernel) ⟨Nat.le_of_ble_eq_true rfl, Nat.le_of_ble_eq_true rfl⟩) ⟨pcW_blind, va_recv hKc hPc (ci := 8) (q0 := 0) rfl rfl, pcW_at hPc hKc hDc hN⟩ rfl rfl hl.1 rfl (lv_room (Nat.le_of_ble_eq_true rfl)) dX9_hitsBy_67 ⟨Nat.le_of_ble_eq_true rfl, Nat.le_of_ble_eq_true rfl⟩) hS (fun q _ h => hFc q h) hFc (fun u t H1 locs ht hvm hw_23 hB hz1 hk1 hS => ?_)
            obtain ⟨f_24, p_25, hP1, hK1, hD1⟩ := hB
            rw [ht] at hP1
            have hK1 := va_K.moved hvm.symm hK1
            obtain ⟨hP, hD⟩ := va_join (wr := [(q1, .inl (kq1, 40, .inl fmp)), (q2, .inl (kq2, 40, .inl fmk))]) (w1 := [(h0, .inr (8, [w0, w1, w2, w3, w4, w5, w6, w7, w8, w9, w10, w11, w12, w13, w14, w15, w16, w17, w18, w19, w20, w21, w22, w23, w24, w25, w26, w27, w28, .ref q1, .ref q2, .int (nI ca), w32, .ref q3, .int (nI (rqx - 1))])), (q3, .inl (kq3, 4, .inl f_24))]) hP hD [0, 3] [1, 2] rfl rfl (by decide) (by decide) hk1 hFc hP1 hD1
            have hK := (hK.sub (tys' := [(kq1, .int), (kq2, .int)]) [0, 1] rfl).app hK1
            clear hz1 hk1 hPc hDc hKc hFc
            generalize H1 = H at hP hS ⊢
            have hK : va_K (dC, dI) vwCl [(kq1, .int), (kq2, .int), (kq3, .int)] s := hK
            have hP : va_P (dC, dI) vwCl [(q1, .inl (kq1, 40, .inl fmp)), (q2, .inl (kq2, 40, .inl fmk)), (h0, .inr (8, [w0, w1, w2, w3, w4, w5, w6, w7, w8, w9, w10, w11, w12, w13, w14, w15, w16, w17, w18, w19, w20, w21, w22, w23, w24, w25, w26, w27, w28, .ref q1, .ref q2, .int (nI ca), w32, .ref q3, .int (nI (rqx - 1))])), (q3, .inl (kq3, 4, .inl f_24))] H := hP
            have hD : va_D A [(q1, .inl (kq1, 40, .inl fmp)), (q2, .inl (kq2, 40, .inl fmk)), (h0, .inr (8, [w0, w1, w2, w3, w4, w5, w6, w7, w8, w9, w10, w11, w12, w13, w14, w15, w16, w17, w18, w19, w20, w21, w22, w23, w24, w25, w26, w27, w28, .ref q1, .ref q2, .int (nI ca), w32, .ref q3, .int (nI (rqx - 1))])), (q3, .inl (kq3, 4, .inl f_24))] := hD
            refine lv_goto (tgt := 102) hx hb dX9_hitsBy_70 (by decide) ?_
            refine lv_aload_n hx hb dX9_hitsBy_102 rfl (lv_at hl 3 rfl) ?_
            refine lv_aload_n hx hb dX9_hitsBy_103 rfl (lv_at hl 3 rfl) ?_
            refine va_get (D := (dC, dI)) (ci := 8) (v := .ref q2) (C := RX9) (T := TX9) (N := 35) hx hb hts inB_9 hown hK hP 2 rfl rfl 30 (by decide) (hts _ mw_3_212) (fun _ h9 => h9) rfl dX9_hitsBy_104 ?_
            refine lv_iload hx hb dX9_hitsBy_107 (lv_at hl 2 rfl) ?_
            refine va_iald hx hb hK hP 1 1 rfl rfl (show vp_in (nI k) 40 from vp_in_nI (by omega) (by omega)) dX9_hitsBy_109 ?_
            refine hx_top (y := (fmk k)) (congrArg _ (nI_clamp (by omega))) ?_
            have hPc := hP.sub (ws' := [(h0, .inr (8, [w0, w1, w2, w3, w4, w5, w6, w7, w8, w9, w10, w11, w12, w13, w14, w15, w16, w17, w18, w19, w20, w21, w22, w23, w24, w25, w26, w27, w28, .ref q1, .ref q2, .int (nI ca), w32, .ref q3, .int (nI (rqx - 1))])), (q3, .inl (kq3, 4, .inl f_24))]) [2, 3] rfl
            have hDc := hD.sub (ws' := [(h0, .inr (8, [w0, w1, w2, w3, w4, w5, w6, w7, w8, w9, w10, w11, w12, w13, w14, w15, w16, w17, w18, w19, w20, w21, w22, w23, w24, w25, w26, w27, w28, .ref q1, .ref q2, .int (nI ca), w32, .ref q3, .int (nI (rqx - 1))])), (q3, .inl (kq3, 4, .inl f_24))]) [2, 3] (by decide) rfl
            have hKc := hK.sub (tys' := [(kq3, .int)]) [2] rfl
            have hFc := va_free (wc := [(h0, .inr (8, [w0, w1, w2, w3, w4, w5, w6, w7, w8, w9, w10, w11, w12, w13, w14, w15, w16, w17, w18, w19, w20, w21, w22, w23, w24, w25, w26, w27, w28, .ref q1, .ref q2, .int (nI ca), w32, .ref q3, .int (nI (rqx - 1))])), (q3, .inl (kq3, 4, .inl f_24))]) hD hS hA [2, 3] rfl
            refine va_callv (va_runV (As := [.int (fmk k)]) (rest := []) ⟨hx, hb, hml, hown, hts⟩ (m_putFirst l dC dI H.size h0 (w0) (w1) (w2) (w3) (w4) (w5) (w6) (w7) (w8) (w9) (w10) (w11) (w12) (w13) (w14) (w15) (w16) (w17) (w18) (w19) (w20) (w21) (w22) (w23) (w24) (w25) (w26) (w27) (w28) (.ref q1) (.ref q2) (.int (nI ca)) (w32) q3 (rqx - 1) kq3 f_24 (fmk k) (by omega)) (cwV 1 hts (gV mw_5_43 mw_5_45 mw_0_42 mw_1_9 mw_5_46) rfl rfl rfl (by decide +kernel) ⟨Nat.le_of_ble_eq_true rfl, Nat.le_of_ble_eq_true rfl⟩) ⟨pcW_blind, va_recv hKc hPc (ci := 8) (q0 := 0) rfl rfl, pcW_at hPc hKc hDc hN⟩ rfl rfl hl.1 rfl (lv_room (Nat.le_of_ble_eq_true rfl)) dX9_hitsBy_110 ⟨Nat.le_of_ble_eq_true rfl, Nat.le_of_ble_eq_true rfl⟩) hS (fun q _ h => hFc q h) hFc (fun u t H1 locs ht hvm hw_26 hB hz1 hk1 hS => ?_)
            obtain ⟨f_27, p_28, hP1, hK1, hD1⟩ := hB
            rw [ht] at hP1
            have hK1 := va_K.moved hvm.symm hK1
            obtain ⟨hP, hD⟩ := va_join (wr := [(q1, .inl (kq1, 40, .inl fmp)), (q2, .inl (kq2, 40, .inl fmk))]) (w1 := [(h0, .inr (8, [w0, w1, w2, w3, w4, w5, w6, w7, w8, w9, w10, w11, w12, w13, w14, w15, w16, w17, w18, w19, w20, w21, w22, w23, w24, w25, w26, w27, w28, .ref q1, .ref q2, .int (nI ca), w32, .ref q3, .int (nI ((rqx - 1) + 1))])), (q3, .inl (kq3, 4, .inl f_27))]) hP hD [2, 3] [0, 1] rfl rfl (by decide) (by decide) hk1 hFc hP1 hD1
            have hK := (hK.sub (tys' := [(kq1, .int), (kq2, .int)]) [0, 1] rfl).app hK1
            clear hz1 hk1 hPc hDc hKc hFc
            generalize H1 = H at hP hS ⊢
            have hK : va_K (dC, dI) vwCl [(kq1, .int), (kq2, .int), (kq3, .int)] s := hK
            have hP : va_P (dC, dI) vwCl [(q1, .inl (kq1, 40, .inl fmp)), (q2, .inl (kq2, 40, .inl fmk)), (h0, .inr (8, [w0, w1, w2, w3, w4, w5, w6, w7, w8, w9, w10, w11, w12, w13, w14, w15, w16, w17, w18, w19, w20, w21, w22, w23, w24, w25, w26, w27, w28, .ref q1, .ref q2, .int (nI ca), w32, .ref q3, .int (nI ((rqx - 1) + 1))])), (q3, .inl (kq3, 4, .inl f_27))] H := hP
            have hD : va_D A [(q1, .inl (kq1, 40, .inl fmp)), (q2, .inl (kq2, 40, .inl fmk)), (h0, .inr (8, [w0, w1, w2, w3, w4, w5, w6, w7, w8, w9, w10, w11, w12, w13, w14, w15, w16, w17, w18, w19, w20, w21, w22, w23, w24, w25, w26, w27, w28, .ref q1, .ref q2, .int (nI ca), w32, .ref q3, .int (nI ((rqx - 1) + 1))])), (q3, .inl (kq3, 4, .inl f_27))] := hD
            refine lv_iinc (v := (nI (k + 1))) (lv' := [(5, .int (nI (k + 1))), (4, .int (nI (hn8 + 1))), (6, .int (nI q9)), (0, .ref h0), (1, .int n), (2, .int (nI sq)), (3, .int 0)]) hx hb dX9_hitsBy_113 hl (k := 2) rfl (nI_add k 1) (by decide) rfl (fun ls hl => ?_)
            refine lv_goto (tgt := 11) hx hb dX9_hitsBy_116 (by decide) ?_
            exact ih_2 (k + 1) (hn8 + 1) ((rqx - 1) + 1) f_27 (by omega) (by omega) (lm_hit (m1 := rqx - 1) hlr c_5 hw_7 (by omega) (by omega) p_25 p_28) (by omega) (by omega) _ _ (hP.sub (ws' := [(h0, .inr (8, [w0, w1, w2, w3, w4, w5, w6, w7, w8, w9, w10, w11, w12, w13, w14, w15, w16, w17, w18, w19, w20, w21, w22, w23, w24, w25, w26, w27, w28, .ref q1, .ref q2, .int (nI ca), w32, .ref q3, .int (nI ((rqx - 1) + 1))])), (q1, .inl (kq1, 40, .inl fmp)), (q2, .inl (kq2, 40, .inl fmk)), (q3, .inl (kq3, 4, .inl f_27))]) [2, 0, 1, 3] rfl) (hD.sub (ws' := [(h0, .inr (8, [w0, w1, w2, w3, w4, w5, w6, w7, w8, w9, w10, w11, w12, w13, w14, w15, w16, w17, w18, w19, w20, w21, w22, w23, w24, w25, w26, w27, w28, .ref q1, .ref q2, .int (nI ca), w32, .ref q3, .int (nI ((rqx - 1) + 1))])), (q1, .inl (kq1, 40, .inl fmp)), (q2, .inl (kq2, 40, .inl fmk)), (q3, .inl (kq3, 4, .inl f_27))]) [2, 0, 1, 3] (by decide) rfl) hS ls (lv_sub hl [0, 1, 3, 4, 5, 6] rfl)
  exact key_1 ((ca - 0) + 1) 0 0 0 fmr (by omega) (by omega) rfl (by omega) (Nat.lt_succ_self _) _ _ hP hD hS ls (lv_sub hl [0, 1, 2, 3, 4, 5] rfl)
set_option maxHeartbeats 4000000 in
set_option maxRecDepth 100000 in
theorem m_call (l : Launch) (dC : Nat → ClassId) (dI : Nat → Nat → Nat) (sz : Nat) (h0 : Nat) (w0 : Value) (w1 : Value) (w2 : Value) (w3 : Value) (kn : Nat) (w5 : Value) (w6 : Value) (w7 : Value) (w8 : Value) (w9 : Value) (w10 : Value) (w11 : Value) (w12 : Value) (w13 : Value) (w14 : Value) (w15 : Value) (w16 : Value) (w17 : Value) (w18 : Value) (w19 : Value) (w20 : Value) (w21 : Value) (w22 : Value) (w23 : Value) (w24 : Value) (w25 : Value) (w26 : Value) (w27 : Value) (w28 : Value) (q1 : Nat) (q2 : Nat) (ca : Nat) (w32 : Value) (w33 : Value) (w34 : Value) (kq1 : ClassId) (fmp : Nat → Int32) (kq2 : ClassId) (fmk : Nat → Int32) (n1 : Int32) (n2 : Int32) (hkn : kn ≤ 10) (hca : ca ≤ 40) : Met l yX9_call (wq yX9_call cX9_call 3 (some .int)) ({ frames := 2, cells := 0, slots := 0, locals := 46 }) (va_Pc [.ref h0, .int n1, .int n2] (pcW dC dI [(kq1, .int), (kq2, .int)] [(h0, .inr (8, [w0, w1, w2, w3, .int (nI kn), w5, w6, w7, w8, w9, w10, w11, w12, w13, w14, w15, w16, w17, w18, w19, w20, w21, w22, w23, w24, w25, w26, w27, w28, .ref q1, .ref q2, .int (nI ca), w32, w33, w34])), (q1, .inl (kq1, 40, .inl fmp)), (q2, .inl (kq2, 40, .inl fmk))] sz)) (va_Qi (fun (r : Int32) (_ : Unit) => r = F_call kn ca n1 n2) (fun _ t => ∃ (ca2 : Nat) (fmp2 : Nat → Int32) (fmk2 : Nat → Int32), (ca2 = Q_next kn ca n1 n2) ∧ (ca2 ≤ 40) ∧ (fmp2 = QA_next kn ca fmp n1 n2 n1) ∧ (fmk2 = QA_next kn ca fmk n1 n2 n2) ∧ va_P (dC, dI) vwCl [(h0, .inr (8, [w0, w1, w2, w3, .int (nI kn), w5, w6, w7, w8, w9, w10, w11, w12, w13, w14, w15, w16, w17, w18, w19, w20, w21, w22, w23, w24, w25, w26, w27, w28, .ref q1, .ref q2, .int (nI ca2), w32, w33, w34])), (q1, .inl (kq1, 40, .inl fmp2)), (q2, .inl (kq2, 40, .inl fmk2))] t.heap ∧ va_K (dC, dI) vwCl [(kq1, .int), (kq2, .int)] t ∧ va_D (va_A [(h0, .inr (8, [w0, w1, w2, w3, .int (nI kn), w5, w6, w7, w8, w9, w10, w11, w12, w13, w14, w15, w16, w17, w18, w19, w20, w21, w22, w23, w24, w25, w26, w27, w28, .ref q1, .ref q2, .int (nI ca), w32, w33, w34])), (q1, .inl (kq1, 40, .inl fmp)), (q2, .inl (kq2, 40, .inl fmk))] sz) [(h0, .inr (8, [w0, w1, w2, w3, .int (nI kn), w5, w6, w7, w8, w9, w10, w11, w12, w13, w14, w15, w16, w17, w18, w19, w20, w21, w22, w23, w24, w25, w26, w27, w28, .ref q1, .ref q2, .int (nI ca2), w32, w33, w34])), (q1, .inl (kq1, 40, .inl fmp2)), (q2, .inl (kq2, 40, .inl fmk2))]) (va_A [(h0, .inr (8, [w0, w1, w2, w3, .int (nI kn), w5, w6, w7, w8, w9, w10, w11, w12, w13, w14, w15, w16, w17, w18, w19, w20, w21, w22, w23, w24, w25, w26, w27, w28, .ref q1, .ref q2, .int (nI ca), w32, w33, w34])), (q1, .inl (kq1, 40, .inl fmp)), (q2, .inl (kq2, 40, .inl fmk))] sz)) 0 0 (va_A [(h0, .inr (8, [w0, w1, w2, w3, .int (nI kn), w5, w6, w7, w8, w9, w10, w11, w12, w13, w14, w15, w16, w17, w18, w19, w20, w21, w22, w23, w24, w25, w26, w27, w28, .ref q1, .ref q2, .int (nI ca), w32, w33, w34])), (q1, .inl (kq1, 40, .inl fmp)), (q2, .inl (kq2, 40, .inl fmk))] sz) := by
  refine Met.ofW (cc := cX9_call) (maxL := 3) (ret := (some .int)) (by decide) rfl ?_
  intro p e s m args below meth c s₁ B hml hv
  obtain ⟨rfl, hsz, hN, hP, hK, hD0⟩ := hv
  have hx := B.exec
  have hb := B.bytes
  have hr := B.returns
  have hts0 := atoms_spec (ws := (wq yX9_call cX9_call 3 (some .int))) B.pre
  have hts : ∀ w ∈ BG, w.before _ s = true := fun w h => hts0 w (List.mem_cons_of_mem _ h)
  have hown : s.vm.findClass RX9 = some m.cls := findClass_of_methodNamed B.named
  have hlocks := B.notSynchronized
  subst hsz
  have hD := hD0.self (sz := s.heap.size)
  generalize hAe : va_A [(h0, .inr (8, [w0, w1, w2, w3, .int (nI kn), w5, w6, w7, w8, w9, w10, w11, w12, w13, w14, w15, w16, w17, w18, w19, w20, w21, w22, w23, w24, w25, w26, w27, w28, .ref q1, .ref q2, .int (nI ca), w32, w33, w34])), (q1, .inl (kq1, 40, .inl fmp)), (q2, .inl (kq2, 40, .inl fmk))] s.heap.size = A at hD ⊢
  have hA : ∀ q : Nat, s.heap.size ≤ q → A q := fun q h => by rw [← hAe]; exact Or.inr h
  have hS : va_S A s.heap s.heap [] := va_S.rf
  clear hAe hD0
  have hP : va_P (dC, dI) vwCl [(h0, .inr (8, [w0, w1, w2, w3, .int (nI kn), w5, w6, w7, w8, w9, w10, w11, w12, w13, w14, w15, w16, w17, w18, w19, w20, w21, w22, w23, w24, w25, w26, w27, w28, .ref q1, .ref q2, .int (nI ca), w32, w33, w34])), (q1, .inl (kq1, 40, .inl fmp)), (q2, .inl (kq2, 40, .inl fmk))] s.heap := hP
  have hl := lv_entry ([.ref h0, .int n1, .int n2]) (n := 3) (Nat.le_of_ble_eq_true rfl)
  rw [lg_entry_eq]
  generalize (lg_sl ([.ref h0, .int n1, .int n2]) ++ List.replicate (3 - (lg_sl ([.ref h0, .int n1, .int n2])).length) Slot.unset).toArray = ls at hl ⊢
  have hl : lv_has ls 3 [(0, .ref h0), (1, .int n1), (2, .int n2)] := hl
  refine lv_iload_n hx hb dX9_call_0 rfl (lv_at hl 1 rfl) ?_
  have hPc := hP.sub (ws' := []) [] rfl
  have hDc := hD.sub (ws' := []) [] (by decide) rfl
  have hKc := hK.sub (tys' := []) [] rfl
  refine va_calli (va_runS (As := [.int n1]) (rest := []) ⟨hx, hb, hml, hown, hts⟩ (m_isPlace l dC dI s.heap.size n1 ) (va_cwS 1 hts (gS mw_5_7 mw_5_8 mw_1_9 mw_5_9) rfl rfl rfl (by decide +kernel) ⟨Nat.le_of_ble_eq_true rfl, Nat.le_of_ble_eq_true rfl⟩) ⟨pcW_blind, pcW_at hPc hKc hDc hN⟩ rfl rfl hl.1 rfl (lv_room (Nat.le_of_ble_eq_true rfl)) dX9_call_1 ⟨Nat.le_of_ble_eq_true rfl, Nat.le_of_ble_eq_true rfl⟩) hS (fun q h1 h2 => absurd h2 (Nat.not_le.mpr h1)) (fun q h => hA q (Nat.le_trans hS.1 h)) (fun r_1 u t H1 locs ht hvm hw_1 hB hz1 hk1 hS => ?_)
  have hP := keepP hP hk1
  clear hz1 hk1 hB ht hvm hPc hDc hKc
  generalize H1 = H at hP hS ⊢
  rcases fx_bool hw_1 with ⟨rfl, b_2⟩ | ⟨rfl, b_2⟩
  · skip
    refine lv_if_eq (tgt := 15) hx hb dX9_call_4 (by decide) (fun h => absurd h (by decide)) (fun _ => ?_)
    refine lv_aload_n hx hb dX9_call_7 rfl (lv_at hl 0 rfl) ?_
    refine lv_iload_n hx hb dX9_call_8 rfl (lv_at hl 2 rfl) ?_
    have hPc := hP.sub (ws' := [(h0, .inr (8, [w0, w1, w2, w3, .int (nI kn), w5, w6, w7, w8, w9, w10, w11, w12, w13, w14, w15, w16, w17, w18, w19, w20, w21, w22, w23, w24, w25, w26, w27, w28, .ref q1, .ref q2, .int (nI ca), w32, w33, w34]))]) [0] rfl
    have hDc := hD.sub (ws' := [(h0, .inr (8, [w0, w1, w2, w3, .int (nI kn), w5, w6, w7, w8, w9, w10, w11, w12, w13, w14, w15, w16, w17, w18, w19, w20, w21, w22, w23, w24, w25, w26, w27, w28, .ref q1, .ref q2, .int (nI ca), w32, w33, w34]))]) [0] (by decide) rfl
    have hKc := hK.sub (tys' := []) [] rfl
    refine va_calli (va_runV (As := [.int n2]) (rest := []) ⟨hx, hb, hml, hown, hts⟩ (m_isKind l dC dI H.size h0 (w0) (w1) (w2) (w3) kn (w5) (w6) (w7) (w8) (w9) (w10) (w11) (w12) (w13) (w14) (w15) (w16) (w17) (w18) (w19) (w20) (w21) (w22) (w23) (w24) (w25) (w26) (w27) (w28) (.ref q1) (.ref q2) (.int (nI ca)) (w32) (w33) (w34) n2 hkn) (cwV 1 hts (gV mw_4_53 mw_4_55 mw_0_15 mw_1_9 mw_4_56) rfl rfl rfl (by decide +kernel) ⟨Nat.le_of_ble_eq_true rfl, Nat.le_of_ble_eq_true rfl⟩) ⟨pcW_blind, va_recv hKc hPc (ci := 8) (q0 := 0) rfl rfl, pcW_at hPc hKc hDc hN⟩ rfl rfl hl.1 rfl (lv_room (Nat.le_of_ble_eq_true rfl)) dX9_call_9 ⟨Nat.le_of_ble_eq_true rfl, Nat.le_of_ble_eq_true rfl⟩) hS (fun q h1 h2 => absurd h2 (Nat.not_le.mpr h1)) (fun q h => hA q (Nat.le_trans hS.1 h)) (fun r_3 u t H1 locs ht hvm hw_3 hB hz1 hk1 hS => ?_)
    have hP := keepP hP hk1
    clear hz1 hk1 hB ht hvm hPc hDc hKc
    generalize H1 = H at hP hS ⊢
    rcases fx_bool hw_3 with ⟨rfl, b_4⟩ | ⟨rfl, b_4⟩
    · skip
      refine lv_if_ne (tgt := 17) hx hb dX9_call_12 (by decide) (fun _ => ?_) (fun h => absurd h (by decide))
      refine lv_aload_n hx hb dX9_call_17 rfl (lv_at hl 0 rfl) ?_
      refine va_get (D := (dC, dI)) (ci := 8) (v := .int (nI ca)) (C := RX9) (T := TX9) (N := 35) hx hb hts inB_9 hown hK hP 0 rfl rfl 31 (by decide) (hts _ mw_3_213) (fun _ h9 => h9) rfl dX9_call_18 ?_
      refine lv_bipush (v := 40) hx hb dX9_call_21 (by decide) ?_
      refine lv_icmp_ne (tgt := 29) hx hb dX9_call_23 (by decide) (fun c_5 => ?_) (fun c_5 => ?_)
      · have b_6 := gx_ne (X := ((ca : Nat) : Int)) (C := 40) (nI_toInt (by omega)) (by decide) c_5
        refine lv_aload_n hx hb dX9_call_29 rfl (lv_at hl 0 rfl) ?_
        refine va_get (D := (dC, dI)) (ci := 8) (v := .ref q1) (C := RX9) (T := TX9) (N := 35) hx hb hts inB_9 hown hK hP 0 rfl rfl 29 (by decide) (hts _ mw_3_211) (fun _ h9 => h9) rfl dX9_call_30 ?_
        refine lv_aload_n hx hb dX9_call_33 rfl (lv_at hl 0 rfl) ?_
        refine va_get (D := (dC, dI)) (ci := 8) (v := .int (nI ca)) (C := RX9) (T := TX9) (N := 35) hx hb hts inB_9 hown hK hP 0 rfl rfl 31 (by decide) (hts _ mw_3_213) (fun _ h9 => h9) rfl dX9_call_34 ?_
        refine lv_iload_n hx hb dX9_call_37 rfl (lv_at hl 1 rfl) ?_
        refine va_iast hx hb hK hP hD hS 1 0 rfl rfl (show vp_in (nI ca) 40 from vp_in_nI (by omega) (by omega)) dX9_call_38 (fun H locs hP hD hS => ?_)
        obtain ⟨f_7, ef_7⟩ : ∃ g : Nat → Int32, g = upd fmp (Int32.toNatClampNeg (nI ca)) n1 := ⟨_, rfl⟩
        rw [← ef_7] at hP hD
        have ef_7 : f_7 = upd fmp ca n1 := by rw [ef_7, nI_clamp (by omega)]
        have hP : va_P (dC, dI) vwCl [(h0, .inr (8, [w0, w1, w2, w3, .int (nI kn), w5, w6, w7, w8, w9, w10, w11, w12, w13, w14, w15, w16, w17, w18, w19, w20, w21, w22, w23, w24, w25, w26, w27, w28, .ref q1, .ref q2, .int (nI ca), w32, w33, w34])), (q1, .inl (kq1, 40, .inl f_7)), (q2, .inl (kq2, 40, .inl fmk))] H := hP
        have hD : va_D A [(h0, .inr (8, [w0, w1, w2, w3, .int (nI kn), w5, w6, w7, w8, w9, w10, w11, w12, w13, w14, w15, w16, w17, w18, w19, w20, w21, w22, w23, w24, w25, w26, w27, w28, .ref q1, .ref q2, .int (nI ca), w32, w33, w34])), (q1, .inl (kq1, 40, .inl f_7)), (q2, .inl (kq2, 40, .inl fmk))] := hD
        refine lv_aload_n hx hb dX9_call_39 rfl (lv_at hl 0 rfl) ?_
        refine va_get (D := (dC, dI)) (ci := 8) (v := .ref q2) (C := RX9) (T := TX9) (N := 35) hx hb hts inB_9 hown hK hP 0 rfl rfl 30 (by decide) (hts _ mw_3_212) (fun _ h9 => h9) rfl dX9_call_40 ?_
        refine lv_aload_n hx hb dX9_call_43 rfl (lv_at hl 0 rfl) ?_
        refine va_get (D := (dC, dI)) (ci := 8) (v := .int (nI ca)) (C := RX9) (T := TX9) (N := 35) hx hb hts inB_9 hown hK hP 0 rfl rfl 31 (by decide) (hts _ mw_3_213) (fun _ h9 => h9) rfl dX9_call_44 ?_
        refine lv_iload_n hx hb dX9_call_47 rfl (lv_at hl 2 rfl) ?_
        refine va_iast hx hb hK hP hD hS 2 1 rfl rfl (show vp_in (nI ca) 40 from vp_in_nI (by omega) (by omega)) dX9_call_48 (fun H locs hP hD hS => ?_)
        obtain ⟨f_8, ef_8⟩ : ∃ g : Nat → Int32, g = upd fmk (Int32.toNatClampNeg (nI ca)) n2 := ⟨_, rfl⟩
        rw [← ef_8] at hP hD
        have ef_8 : f_8 = upd fmk ca n2 := by rw [ef_8, nI_clamp (by omega)]
        have hP : va_P (dC, dI) vwCl [(h0, .inr (8, [w0, w1, w2, w3, .int (nI kn), w5, w6, w7, w8, w9, w10, w11, w12, w13, w14, w15, w16, w17, w18, w19, w20, w21, w22, w23, w24, w25, w26, w27, w28, .ref q1, .ref q2, .int (nI ca), w32, w33, w34])), (q1, .inl (kq1, 40, .inl f_7)), (q2, .inl (kq2, 40, .inl f_8))] H := hP
        have hD : va_D A [(h0, .inr (8, [w0, w1, w2, w3, .int (nI kn), w5, w6, w7, w8, w9, w10, w11, w12, w13, w14, w15, w16, w17, w18, w19, w20, w21, w22, w23, w24, w25, w26, w27, w28, .ref q1, .ref q2, .int (nI ca), w32, w33, w34])), (q1, .inl (kq1, 40, .inl f_7)), (q2, .inl (kq2, 40, .inl f_8))] := hD
        refine lv_aload_n hx hb dX9_call_49 rfl (lv_at hl 0 rfl) ?_
        refine lv_dup hx hb dX9_call_50 rfl ?_
        refine va_get (D := (dC, dI)) (ci := 8) (v := .int (nI ca)) (C := RX9) (T := TX9) (N := 35) hx hb hts inB_9 hown hK hP 0 rfl rfl 31 (by decide) (hts _ mw_3_213) (fun _ h9 => h9) rfl dX9_call_51 ?_
        refine lv_iconst (v := 1) hx hb dX9_call_54 (by decide) ?_
        refine lv_iadd hx hb dX9_call_55 ?_
        refine hx_top (y := (nI (ca + 1))) (nI_add ca 1) ?_
        refine va_put (D := (dC, dI)) (ci := 8) (v := .int (nI (ca + 1))) (ty := .int) (C := RX9) (T := TX9) (N := 35) hx hb hts inB_9 tyX9 tyX9_ok nmX9 hown hK hP hD hS 0 rfl rfl 31 (by decide) (hts _ mw_3_213) (fun _ h9 => h9) rfl (by decide +kernel) rfl rfl (Nat.le_of_ble_eq_true rfl) dX9_call_56 (fun H locs hP hD hS => ?_)
        have hP : va_P (dC, dI) vwCl [(h0, .inr (8, [w0, w1, w2, w3, .int (nI kn), w5, w6, w7, w8, w9, w10, w11, w12, w13, w14, w15, w16, w17, w18, w19, w20, w21, w22, w23, w24, w25, w26, w27, w28, .ref q1, .ref q2, .int (nI (ca + 1)), w32, w33, w34])), (q1, .inl (kq1, 40, .inl f_7)), (q2, .inl (kq2, 40, .inl f_8))] H := hP
        have hD : va_D A [(h0, .inr (8, [w0, w1, w2, w3, .int (nI kn), w5, w6, w7, w8, w9, w10, w11, w12, w13, w14, w15, w16, w17, w18, w19, w20, w21, w22, w23, w24, w25, w26, w27, w28, .ref q1, .ref q2, .int (nI (ca + 1)), w32, w33, w34])), (q1, .inl (kq1, 40, .inl f_7)), (q2, .inl (kq2, 40, .inl f_8))] := hD
        refine lv_aload_n hx hb dX9_call_59 rfl (lv_at hl 0 rfl) ?_
        refine va_get (D := (dC, dI)) (ci := 8) (v := .int (nI (ca + 1))) (C := RX9) (T := TX9) (N := 35) hx hb hts inB_9 hown hK hP 0 rfl rfl 31 (by decide) (hts _ mw_3_213) (fun _ h9 => h9) rfl dX9_call_60 ?_
        have hP9 := hP.sub (ws' := [(h0, .inr (8, [w0, w1, w2, w3, .int (nI kn), w5, w6, w7, w8, w9, w10, w11, w12, w13, w14, w15, w16, w17, w18, w19, w20, w21, w22, w23, w24, w25, w26, w27, w28, .ref q1, .ref q2, .int (nI (ca + 1)), w32, w33, w34])), (q1, .inl (kq1, 40, .inl f_7)), (q2, .inl (kq2, 40, .inl f_8))]) [0, 1, 2] rfl
        have hD9 := hD.sub (ws' := [(h0, .inr (8, [w0, w1, w2, w3, .int (nI kn), w5, w6, w7, w8, w9, w10, w11, w12, w13, w14, w15, w16, w17, w18, w19, w20, w21, w22, w23, w24, w25, w26, w27, w28, .ref q1, .ref q2, .int (nI (ca + 1)), w32, w33, w34])), (q1, .inl (kq1, 40, .inl f_7)), (q2, .inl (kq2, 40, .inl f_8))]) [0, 1, 2] (by decide) rfl
        have hK9 := hK.sub (tys' := [(kq1, .int), (kq2, .int)]) [0, 1] rfl
        exact W.iret (v := (nI (ca + 1))) hx hb hr (fun t ht hW => ⟨⟨(nI (ca + 1)), (), rfl, (by (unfold F_call; repeat' split) <;> first | rfl | (exfalso; omega)), (ca + 1), f_7, f_8, (Q_yes (show (nI (ca + 1)) = F_call kn ca n1 n2 from (by (unfold F_call; repeat' split) <;> first | rfl | (exfalso; omega))) (by omega)), (by omega), (by (unfold QA_next; repeat' split) <;> first | rfl | assumption | (exfalso; omega)), (by (unfold QA_next; repeat' split) <;> first | rfl | assumption | (exfalso; omega)), by rw [ht]; exact hP9, va_K.moved hW.alike hK9, hD9⟩, hS.F ht⟩) hS.2.2 dX9_call_63
      · have b_6 := gn_ne (X := ((ca : Nat) : Int)) (C := 40) (nI_toInt (by omega)) (by decide) c_5
        refine lv_bipush (v := (-4)) hx hb dX9_call_26 (by decide) ?_
        have hP9 := hP.sub (ws' := [(h0, .inr (8, [w0, w1, w2, w3, .int (nI kn), w5, w6, w7, w8, w9, w10, w11, w12, w13, w14, w15, w16, w17, w18, w19, w20, w21, w22, w23, w24, w25, w26, w27, w28, .ref q1, .ref q2, .int (nI ca), w32, w33, w34])), (q1, .inl (kq1, 40, .inl fmp)), (q2, .inl (kq2, 40, .inl fmk))]) [0, 1, 2] rfl
        have hD9 := hD.sub (ws' := [(h0, .inr (8, [w0, w1, w2, w3, .int (nI kn), w5, w6, w7, w8, w9, w10, w11, w12, w13, w14, w15, w16, w17, w18, w19, w20, w21, w22, w23, w24, w25, w26, w27, w28, .ref q1, .ref q2, .int (nI ca), w32, w33, w34])), (q1, .inl (kq1, 40, .inl fmp)), (q2, .inl (kq2, 40, .inl fmk))]) [0, 1, 2] (by decide) rfl
        have hK9 := hK.sub (tys' := [(kq1, .int), (kq2, .int)]) [0, 1] rfl
        exact W.iret (v := (-4)) hx hb hr (fun t ht hW => ⟨⟨(-4), (), rfl, (by (unfold F_call; repeat' split) <;> first | rfl | (exfalso; omega)), ca, fmp, fmk, (Q_no (v := (-4)) (show ((-4) : Int32) = F_call kn ca n1 n2 from (by (unfold F_call; repeat' split) <;> first | rfl | (exfalso; omega))) (by decide)), hca, (by (unfold QA_next; repeat' split) <;> first | rfl | assumption | (exfalso; omega)), (by (unfold QA_next; repeat' split) <;> first | rfl | assumption | (exfalso; omega)), by rw [ht]; exact hP9, va_K.moved hW.alike hK9, hD9⟩, hS.F ht⟩) hS.2.2 dX9_call_28
    · skip
      refine lv_if_ne (tgt := 17) hx hb dX9_call_12 (by decide) (fun h => absurd h (by decide)) (fun _ => ?_)
      refine lv_iconst (v := (-1)) hx hb dX9_call_15 (by decide) ?_
      have hP9 := hP.sub (ws' := [(h0, .inr (8, [w0, w1, w2, w3, .int (nI kn), w5, w6, w7, w8, w9, w10, w11, w12, w13, w14, w15, w16, w17, w18, w19, w20, w21, w22, w23, w24, w25, w26, w27, w28, .ref q1, .ref q2, .int (nI ca), w32, w33, w34])), (q1, .inl (kq1, 40, .inl fmp)), (q2, .inl (kq2, 40, .inl fmk))]) [0, 1, 2] rfl
      have hD9 := hD.sub (ws' := [(h0, .inr (8, [w0, w1, w2, w3, .int (nI kn), w5, w6, w7, w8, w9, w10, w11, w12, w13, w14, w15, w16, w17, w18, w19, w20, w21, w22, w23, w24, w25, w26, w27, w28, .ref q1, .ref q2, .int (nI ca), w32, w33, w34])), (q1, .inl (kq1, 40, .inl fmp)), (q2, .inl (kq2, 40, .inl fmk))]) [0, 1, 2] (by decide) rfl
      have hK9 := hK.sub (tys' := [(kq1, .int), (kq2, .int)]) [0, 1] rfl
      exact W.iret (v := (-1)) hx hb hr (fun t ht hW => ⟨⟨(-1), (), rfl, (by (unfold F_call; repeat' split) <;> first | rfl | (exfalso; omega)), ca, fmp, fmk, (Q_no (v := (-1)) (show ((-1) : Int32) = F_call kn ca n1 n2 from (by (unfold F_call; repeat' split) <;> first | rfl | (exfalso; omega))) (by decide)), hca, (by (unfold QA_next; repeat' split) <;> first | rfl | assumption | (exfalso; omega)), (by (unfold QA_next; repeat' split) <;> first | rfl | assumption | (exfalso; omega)), by rw [ht]; exact hP9, va_K.moved hW.alike hK9, hD9⟩, hS.F ht⟩) hS.2.2 dX9_call_16
  · skip
    refine lv_if_eq (tgt := 15) hx hb dX9_call_4 (by decide) (fun _ => ?_) (fun h => absurd (by decide) h)
    refine lv_iconst (v := (-1)) hx hb dX9_call_15 (by decide) ?_
    have hP9 := hP.sub (ws' := [(h0, .inr (8, [w0, w1, w2, w3, .int (nI kn), w5, w6, w7, w8, w9, w10, w11, w12, w13, w14, w15, w16, w17, w18, w19, w20, w21, w22, w23, w24, w25, w26, w27, w28, .ref q1, .ref q2, .int (nI ca), w32, w33, w34])), (q1, .inl (kq1, 40, .inl fmp)), (q2, .inl (kq2, 40, .inl fmk))]) [0, 1, 2] rfl
    have hD9 := hD.sub (ws' := [(h0, .inr (8, [w0, w1, w2, w3, .int (nI kn), w5, w6, w7, w8, w9, w10, w11, w12, w13, w14, w15, w16, w17, w18, w19, w20, w21, w22, w23, w24, w25, w26, w27, w28, .ref q1, .ref q2, .int (nI ca), w32, w33, w34])), (q1, .inl (kq1, 40, .inl fmp)), (q2, .inl (kq2, 40, .inl fmk))]) [0, 1, 2] (by decide) rfl
    have hK9 := hK.sub (tys' := [(kq1, .int), (kq2, .int)]) [0, 1] rfl
    exact W.iret (v := (-1)) hx hb hr (fun t ht hW => ⟨⟨(-1), (), rfl, (by (unfold F_call; repeat' split) <;> first | rfl | (exfalso; omega)), ca, fmp, fmk, (Q_no (v := (-1)) (show ((-1) : Int32) = F_call kn ca n1 n2 from (by (unfold F_call; repeat' split) <;> first | rfl | (exfalso; omega))) (by decide)), hca, (by (unfold QA_next; repeat' split) <;> first | rfl | assumption | (exfalso; omega)), (by (unfold QA_next; repeat' split) <;> first | rfl | assumption | (exfalso; omega)), by rw [ht]; exact hP9, va_K.moved hW.alike hK9, hD9⟩, hS.F ht⟩) hS.2.2 dX9_call_16
set_option maxHeartbeats 4000000 in
set_option maxRecDepth 100000 in
theorem m_forget (l : Launch) (dC : Nat → ClassId) (dI : Nat → Nat → Nat) (sz : Nat) (h0 : Nat) (w0 : Value) (w1 : Value) (w2 : Value) (w3 : Value) (w4 : Value) (w5 : Value) (w6 : Value) (w7 : Value) (w8 : Value) (w9 : Value) (w10 : Value) (w11 : Value) (w12 : Value) (w13 : Value) (w14 : Value) (w15 : Value) (w16 : Value) (w17 : Value) (w18 : Value) (w19 : Value) (w20 : Value) (w21 : Value) (w22 : Value) (w23 : Value) (w24 : Value) (w25 : Value) (w26 : Value) (w27 : Value) (w28 : Value) (w29 : Value) (w30 : Value) (ca : Nat) (w32 : Value) (w33 : Value) (w34 : Value)  : Met l yX9_forget (wq yX9_forget cX9_forget 2 (some .int)) ({ frames := 0, cells := 0, slots := 0, locals := 0 }) (va_Pc [.ref h0] (pcW dC dI [] [(h0, .inr (8, [w0, w1, w2, w3, w4, w5, w6, w7, w8, w9, w10, w11, w12, w13, w14, w15, w16, w17, w18, w19, w20, w21, w22, w23, w24, w25, w26, w27, w28, w29, w30, .int (nI ca), w32, w33, w34]))] sz)) (va_Qi (fun (r : Int32) (_ : Unit) => r = nI ca) (fun _ t => va_P (dC, dI) vwCl [(h0, .inr (8, [w0, w1, w2, w3, w4, w5, w6, w7, w8, w9, w10, w11, w12, w13, w14, w15, w16, w17, w18, w19, w20, w21, w22, w23, w24, w25, w26, w27, w28, w29, w30, .int 0, w32, w33, w34]))] t.heap ∧ va_K (dC, dI) vwCl [] t ∧ va_D (va_A [(h0, .inr (8, [w0, w1, w2, w3, w4, w5, w6, w7, w8, w9, w10, w11, w12, w13, w14, w15, w16, w17, w18, w19, w20, w21, w22, w23, w24, w25, w26, w27, w28, w29, w30, .int (nI ca), w32, w33, w34]))] sz) [(h0, .inr (8, [w0, w1, w2, w3, w4, w5, w6, w7, w8, w9, w10, w11, w12, w13, w14, w15, w16, w17, w18, w19, w20, w21, w22, w23, w24, w25, w26, w27, w28, w29, w30, .int 0, w32, w33, w34]))]) (va_A [(h0, .inr (8, [w0, w1, w2, w3, w4, w5, w6, w7, w8, w9, w10, w11, w12, w13, w14, w15, w16, w17, w18, w19, w20, w21, w22, w23, w24, w25, w26, w27, w28, w29, w30, .int (nI ca), w32, w33, w34]))] sz)) 0 0 (va_A [(h0, .inr (8, [w0, w1, w2, w3, w4, w5, w6, w7, w8, w9, w10, w11, w12, w13, w14, w15, w16, w17, w18, w19, w20, w21, w22, w23, w24, w25, w26, w27, w28, w29, w30, .int (nI ca), w32, w33, w34]))] sz) := by
  refine Met.ofW (cc := cX9_forget) (maxL := 2) (ret := (some .int)) (by decide) rfl ?_
  intro p e s m args below meth c s₁ B hml hv
  obtain ⟨rfl, hsz, hN, hP, hK, hD0⟩ := hv
  have hx := B.exec
  have hb := B.bytes
  have hr := B.returns
  have hts0 := atoms_spec (ws := (wq yX9_forget cX9_forget 2 (some .int))) B.pre
  have hts : ∀ w ∈ BG, w.before _ s = true := fun w h => hts0 w (List.mem_cons_of_mem _ h)
  have hown : s.vm.findClass RX9 = some m.cls := findClass_of_methodNamed B.named
  have hlocks := B.notSynchronized
  subst hsz
  have hD := hD0.self (sz := s.heap.size)
  generalize hAe : va_A [(h0, .inr (8, [w0, w1, w2, w3, w4, w5, w6, w7, w8, w9, w10, w11, w12, w13, w14, w15, w16, w17, w18, w19, w20, w21, w22, w23, w24, w25, w26, w27, w28, w29, w30, .int (nI ca), w32, w33, w34]))] s.heap.size = A at hD ⊢
  have hA : ∀ q : Nat, s.heap.size ≤ q → A q := fun q h => by rw [← hAe]; exact Or.inr h
  have hS : va_S A s.heap s.heap [] := va_S.rf
  clear hAe hD0
  have hP : va_P (dC, dI) vwCl [(h0, .inr (8, [w0, w1, w2, w3, w4, w5, w6, w7, w8, w9, w10, w11, w12, w13, w14, w15, w16, w17, w18, w19, w20, w21, w22, w23, w24, w25, w26, w27, w28, w29, w30, .int (nI ca), w32, w33, w34]))] s.heap := hP
  have hl := lv_entry ([.ref h0]) (n := 2) (Nat.le_of_ble_eq_true rfl)
  rw [lg_entry_eq]
  generalize (lg_sl ([.ref h0]) ++ List.replicate (2 - (lg_sl ([.ref h0])).length) Slot.unset).toArray = ls at hl ⊢
  have hl : lv_has ls 2 [(0, .ref h0)] := hl
  refine lv_aload_n hx hb dX9_forget_0 rfl (lv_at hl 0 rfl) ?_
  refine va_get (D := (dC, dI)) (ci := 8) (v := .int (nI ca)) (C := RX9) (T := TX9) (N := 35) hx hb hts inB_9 hown hK hP 0 rfl rfl 31 (by decide) (hts _ mw_3_213) (fun _ h9 => h9) rfl dX9_forget_1 ?_
  refine lv_istore_n (lv' := [(1, .int (nI ca)), (0, .ref h0)]) hx hb dX9_forget_4 rfl hl (by decide) rfl (fun ls hl => ?_)
  refine lv_aload_n hx hb dX9_forget_5 rfl (lv_at hl 1 rfl) ?_
  refine lv_iconst (v := 0) hx hb dX9_forget_6 (by decide) ?_
  refine va_put (D := (dC, dI)) (ci := 8) (v := .int 0) (ty := .int) (C := RX9) (T := TX9) (N := 35) hx hb hts inB_9 tyX9 tyX9_ok nmX9 hown hK hP hD hS 0 rfl rfl 31 (by decide) (hts _ mw_3_213) (fun _ h9 => h9) rfl (by decide +kernel) rfl rfl (Nat.le_of_ble_eq_true rfl) dX9_forget_7 (fun H locs hP hD hS => ?_)
  have hP : va_P (dC, dI) vwCl [(h0, .inr (8, [w0, w1, w2, w3, w4, w5, w6, w7, w8, w9, w10, w11, w12, w13, w14, w15, w16, w17, w18, w19, w20, w21, w22, w23, w24, w25, w26, w27, w28, w29, w30, .int 0, w32, w33, w34]))] H := hP
  have hD : va_D A [(h0, .inr (8, [w0, w1, w2, w3, w4, w5, w6, w7, w8, w9, w10, w11, w12, w13, w14, w15, w16, w17, w18, w19, w20, w21, w22, w23, w24, w25, w26, w27, w28, w29, w30, .int 0, w32, w33, w34]))] := hD
  refine lv_iload_n hx hb dX9_forget_10 rfl (lv_at hl 0 rfl) ?_
  have hP9 := hP.sub (ws' := [(h0, .inr (8, [w0, w1, w2, w3, w4, w5, w6, w7, w8, w9, w10, w11, w12, w13, w14, w15, w16, w17, w18, w19, w20, w21, w22, w23, w24, w25, w26, w27, w28, w29, w30, .int 0, w32, w33, w34]))]) [0] rfl
  have hD9 := hD.sub (ws' := [(h0, .inr (8, [w0, w1, w2, w3, w4, w5, w6, w7, w8, w9, w10, w11, w12, w13, w14, w15, w16, w17, w18, w19, w20, w21, w22, w23, w24, w25, w26, w27, w28, w29, w30, .int 0, w32, w33, w34]))]) [0] (by decide) rfl
  have hK9 := hK.sub (tys' := []) [] rfl
  exact W.iret (v := (nI ca)) hx hb hr (fun t ht hW => ⟨⟨(nI ca), (), rfl, rfl, by rw [ht]; exact hP9, va_K.moved hW.alike hK9, hD9⟩, hS.F ht⟩) hS.2.2 dX9_forget_11
set_option maxHeartbeats 4000000 in
set_option maxRecDepth 100000 in
theorem m_size (l : Launch) (dC : Nat → ClassId) (dI : Nat → Nat → Nat) (sz : Nat) (h0 : Nat) (w0 : Value) (w1 : Value) (w2 : Value) (w3 : Value) (w4 : Value) (w5 : Value) (w6 : Value) (w7 : Value) (w8 : Value) (w9 : Value) (w10 : Value) (w11 : Value) (w12 : Value) (w13 : Value) (w14 : Value) (w15 : Value) (w16 : Value) (w17 : Value) (w18 : Value) (w19 : Value) (w20 : Value) (w21 : Value) (w22 : Value) (w23 : Value) (w24 : Value) (w25 : Value) (w26 : Value) (w27 : Value) (w28 : Value) (w29 : Value) (w30 : Value) (w31 : Value) (q0 : Nat) (w33 : Value) (w34 : Value) (kq0 : ClassId) (fms : Nat → Int32) (n1 : Int32) (n2 : Int32)  : Met l yX9_size (wq yX9_size cX9_size 4 (some .int)) ({ frames := 2, cells := 0, slots := 0, locals := 45 }) (va_Pc [.ref h0, .int n1, .int n2] (pcW dC dI [(kq0, .int)] [(h0, .inr (8, [w0, w1, w2, w3, w4, w5, w6, w7, w8, w9, w10, w11, w12, w13, w14, w15, w16, w17, w18, w19, w20, w21, w22, w23, w24, w25, w26, w27, w28, w29, w30, w31, .ref q0, w33, w34])), (q0, .inl (kq0, 4, .inl fms))] sz)) (va_Qi (fun (r : Int32) (_ : Unit) => r = F_size fms n1 n2) (fun _ t => ∃ (fms2 : Nat → Int32), (fms2 = S_next fms n1 n2) ∧ va_P (dC, dI) vwCl [(h0, .inr (8, [w0, w1, w2, w3, w4, w5, w6, w7, w8, w9, w10, w11, w12, w13, w14, w15, w16, w17, w18, w19, w20, w21, w22, w23, w24, w25, w26, w27, w28, w29, w30, w31, .ref q0, w33, w34])), (q0, .inl (kq0, 4, .inl fms2))] t.heap ∧ va_K (dC, dI) vwCl [(kq0, .int)] t ∧ va_D (va_A [(h0, .inr (8, [w0, w1, w2, w3, w4, w5, w6, w7, w8, w9, w10, w11, w12, w13, w14, w15, w16, w17, w18, w19, w20, w21, w22, w23, w24, w25, w26, w27, w28, w29, w30, w31, .ref q0, w33, w34])), (q0, .inl (kq0, 4, .inl fms))] sz) [(h0, .inr (8, [w0, w1, w2, w3, w4, w5, w6, w7, w8, w9, w10, w11, w12, w13, w14, w15, w16, w17, w18, w19, w20, w21, w22, w23, w24, w25, w26, w27, w28, w29, w30, w31, .ref q0, w33, w34])), (q0, .inl (kq0, 4, .inl fms2))]) (va_A [(h0, .inr (8, [w0, w1, w2, w3, w4, w5, w6, w7, w8, w9, w10, w11, w12, w13, w14, w15, w16, w17, w18, w19, w20, w21, w22, w23, w24, w25, w26, w27, w28, w29, w30, w31, .ref q0, w33, w34])), (q0, .inl (kq0, 4, .inl fms))] sz)) 0 0 (va_A [(h0, .inr (8, [w0, w1, w2, w3, w4, w5, w6, w7, w8, w9, w10, w11, w12, w13, w14, w15, w16, w17, w18, w19, w20, w21, w22, w23, w24, w25, w26, w27, w28, w29, w30, w31, .ref q0, w33, w34])), (q0, .inl (kq0, 4, .inl fms))] sz) := by
  refine Met.ofW (cc := cX9_size) (maxL := 4) (ret := (some .int)) (by decide) rfl ?_
  intro p e s m args below meth c s₁ B hml hv
  obtain ⟨rfl, hsz, hN, hP, hK, hD0⟩ := hv
  have hx := B.exec
  have hb := B.bytes
  have hr := B.returns
  have hts0 := atoms_spec (ws := (wq yX9_size cX9_size 4 (some .int))) B.pre
  have hts : ∀ w ∈ BG, w.before _ s = true := fun w h => hts0 w (List.mem_cons_of_mem _ h)
  have hown : s.vm.findClass RX9 = some m.cls := findClass_of_methodNamed B.named
  have hlocks := B.notSynchronized
  subst hsz
  have hD := hD0.self (sz := s.heap.size)
  generalize hAe : va_A [(h0, .inr (8, [w0, w1, w2, w3, w4, w5, w6, w7, w8, w9, w10, w11, w12, w13, w14, w15, w16, w17, w18, w19, w20, w21, w22, w23, w24, w25, w26, w27, w28, w29, w30, w31, .ref q0, w33, w34])), (q0, .inl (kq0, 4, .inl fms))] s.heap.size = A at hD ⊢
  have hA : ∀ q : Nat, s.heap.size ≤ q → A q := fun q h => by rw [← hAe]; exact Or.inr h
  have hS : va_S A s.heap s.heap [] := va_S.rf
  clear hAe hD0
  have hP : va_P (dC, dI) vwCl [(h0, .inr (8, [w0, w1, w2, w3, w4, w5, w6, w7, w8, w9, w10, w11, w12, w13, w14, w15, w16, w17, w18, w19, w20, w21, w22, w23, w24, w25, w26, w27, w28, w29, w30, w31, .ref q0, w33, w34])), (q0, .inl (kq0, 4, .inl fms))] s.heap := hP
  have hl := lv_entry ([.ref h0, .int n1, .int n2]) (n := 4) (Nat.le_of_ble_eq_true rfl)
  rw [lg_entry_eq]
  generalize (lg_sl ([.ref h0, .int n1, .int n2]) ++ List.replicate (4 - (lg_sl ([.ref h0, .int n1, .int n2])).length) Slot.unset).toArray = ls at hl ⊢
  have hl : lv_has ls 4 [(0, .ref h0), (1, .int n1), (2, .int n2)] := hl
  refine lv_iload_n hx hb dX9_size_0 rfl (lv_at hl 1 rfl) ?_
  have hPc := hP.sub (ws' := []) [] rfl
  have hDc := hD.sub (ws' := []) [] (by decide) rfl
  have hKc := hK.sub (tys' := []) [] rfl
  refine va_calli (va_runS (As := [.int n1]) (rest := []) ⟨hx, hb, hml, hown, hts⟩ (m_isPlace l dC dI s.heap.size n1 ) (va_cwS 1 hts (gS mw_5_7 mw_5_8 mw_1_9 mw_5_9) rfl rfl rfl (by decide +kernel) ⟨Nat.le_of_ble_eq_true rfl, Nat.le_of_ble_eq_true rfl⟩) ⟨pcW_blind, pcW_at hPc hKc hDc hN⟩ rfl rfl hl.1 rfl (lv_room (Nat.le_of_ble_eq_true rfl)) dX9_size_1 ⟨Nat.le_of_ble_eq_true rfl, Nat.le_of_ble_eq_true rfl⟩) hS (fun q h1 h2 => absurd h2 (Nat.not_le.mpr h1)) (fun q h => hA q (Nat.le_trans hS.1 h)) (fun r_1 u t H1 locs ht hvm hw_1 hB hz1 hk1 hS => ?_)
  have hP := keepP hP hk1
  clear hz1 hk1 hB ht hvm hPc hDc hKc
  generalize H1 = H at hP hS ⊢
  rcases fx_bool hw_1 with ⟨rfl, b_2⟩ | ⟨rfl, b_2⟩
  · skip
    refine lv_if_ne (tgt := 9) hx hb dX9_size_4 (by decide) (fun _ => ?_) (fun h => absurd h (by decide))
    refine lv_iload_n hx hb dX9_size_9 rfl (lv_at hl 2 rfl) ?_
    refine lv_i2l hx hb dX9_size_10 rfl ?_
    refine lv_lconst (v := Int32.toInt64 1) hx hb dX9_size_11 (by decide) ?_
    refine lv_ldc2 (v := Int32.toInt64 4) hx hb hown (show (Cond.constantLong RX9 226 (Int32.toInt64 4)).before _ s = true from (hts _ mw_5_18)) dX9_size_12 ?_
    have hPc := hP.sub (ws' := []) [] rfl
    have hDc := hD.sub (ws' := []) [] (by decide) rfl
    have hKc := hK.sub (tys' := []) [] rfl
    refine va_calli (va_runS (As := [.long (Int32.toInt64 n2), .long (Int32.toInt64 1), .long (Int32.toInt64 4)]) (rest := []) ⟨hx, hb, hml, hown, hts⟩ (m_in l dC dI H.size n2 1 4 1 4 (by decide) (by decide)) (va_cwS 3 hts (gS mw_4_57 mw_4_58 mw_1_9 mw_4_59) rfl rfl rfl (by decide +kernel) ⟨Nat.le_of_ble_eq_true rfl, Nat.le_of_ble_eq_true rfl⟩) ⟨pcW_blind, pcW_at hPc hKc hDc hN⟩ rfl rfl hl.1 rfl (lv_room (Nat.le_of_ble_eq_true rfl)) dX9_size_15 ⟨Nat.le_of_ble_eq_true rfl, Nat.le_of_ble_eq_true rfl⟩) hS (fun q h1 h2 => absurd h2 (Nat.not_le.mpr h1)) (fun q h => hA q (Nat.le_trans hS.1 h)) (fun r_3 u t H1 locs ht hvm hw_3 hB hz1 hk1 hS => ?_)
    have hP := keepP hP hk1
    clear hz1 hk1 hB ht hvm hPc hDc hKc
    generalize H1 = H at hP hS ⊢
    rcases fx_bool hw_3 with ⟨rfl, b_4⟩ | ⟨rfl, b_4⟩
    · skip
      refine lv_if_ne (tgt := 24) hx hb dX9_size_18 (by decide) (fun _ => ?_) (fun h => absurd h (by decide))
      refine lv_aload_n hx hb dX9_size_24 rfl (lv_at hl 0 rfl) ?_
      refine va_get (D := (dC, dI)) (ci := 8) (v := .ref q0) (C := RX9) (T := TX9) (N := 35) hx hb hts inB_9 hown hK hP 0 rfl rfl 32 (by decide) (hts _ mw_3_214) (fun _ h9 => h9) rfl dX9_size_25 ?_
      refine lv_iload_n hx hb dX9_size_28 rfl (lv_at hl 1 rfl) ?_
      refine va_iald hx hb hK hP 1 0 rfl rfl (show vp_in n1 4 from fx_in (by omega) (by omega)) dX9_size_29 ?_
      refine lv_istore_n (lv' := [(3, .int (fms (Int32.toNatClampNeg n1))), (0, .ref h0), (1, .int n1), (2, .int n2)]) hx hb dX9_size_30 rfl hl (by decide) rfl (fun ls hl => ?_)
      refine lv_aload_n hx hb dX9_size_31 rfl (lv_at hl 1 rfl) ?_
      refine va_get (D := (dC, dI)) (ci := 8) (v := .ref q0) (C := RX9) (T := TX9) (N := 35) hx hb hts inB_9 hown hK hP 0 rfl rfl 32 (by decide) (hts _ mw_3_214) (fun _ h9 => h9) rfl dX9_size_32 ?_
      refine lv_iload_n hx hb dX9_size_35 rfl (lv_at hl 2 rfl) ?_
      refine lv_iload_n hx hb dX9_size_36 rfl (lv_at hl 3 rfl) ?_
      refine va_iast hx hb hK hP hD hS 1 0 rfl rfl (show vp_in n1 4 from fx_in (by omega) (by omega)) dX9_size_37 (fun H locs hP hD hS => ?_)
      obtain ⟨f_5, ef_5⟩ : ∃ g : Nat → Int32, g = upd fms (Int32.toNatClampNeg n1) n2 := ⟨_, rfl⟩
      rw [← ef_5] at hP hD
      have hP : va_P (dC, dI) vwCl [(h0, .inr (8, [w0, w1, w2, w3, w4, w5, w6, w7, w8, w9, w10, w11, w12, w13, w14, w15, w16, w17, w18, w19, w20, w21, w22, w23, w24, w25, w26, w27, w28, w29, w30, w31, .ref q0, w33, w34])), (q0, .inl (kq0, 4, .inl f_5))] H := hP
      have hD : va_D A [(h0, .inr (8, [w0, w1, w2, w3, w4, w5, w6, w7, w8, w9, w10, w11, w12, w13, w14, w15, w16, w17, w18, w19, w20, w21, w22, w23, w24, w25, w26, w27, w28, w29, w30, w31, .ref q0, w33, w34])), (q0, .inl (kq0, 4, .inl f_5))] := hD
      refine lv_iload_n hx hb dX9_size_38 rfl (lv_at hl 0 rfl) ?_
      have hP9 := hP.sub (ws' := [(h0, .inr (8, [w0, w1, w2, w3, w4, w5, w6, w7, w8, w9, w10, w11, w12, w13, w14, w15, w16, w17, w18, w19, w20, w21, w22, w23, w24, w25, w26, w27, w28, w29, w30, w31, .ref q0, w33, w34])), (q0, .inl (kq0, 4, .inl f_5))]) [0, 1] rfl
      have hD9 := hD.sub (ws' := [(h0, .inr (8, [w0, w1, w2, w3, w4, w5, w6, w7, w8, w9, w10, w11, w12, w13, w14, w15, w16, w17, w18, w19, w20, w21, w22, w23, w24, w25, w26, w27, w28, w29, w30, w31, .ref q0, w33, w34])), (q0, .inl (kq0, 4, .inl f_5))]) [0, 1] (by decide) rfl
      have hK9 := hK.sub (tys' := [(kq0, .int)]) [0] rfl
      exact W.iret (v := (fms (Int32.toNatClampNeg n1))) hx hb hr (fun t ht hW => ⟨⟨(fms (Int32.toNatClampNeg n1)), (), rfl, (by (unfold F_size; repeat' split) <;> first | (exfalso; omega) | rfl), f_5, (ef_5.trans (show _ = S_next fms n1 n2 from by (unfold S_next; repeat' split) <;> first | (exfalso; omega) | rfl)), by rw [ht]; exact hP9, va_K.moved hW.alike hK9, hD9⟩, hS.F ht⟩) hS.2.2 dX9_size_39
    · skip
      refine lv_if_ne (tgt := 24) hx hb dX9_size_18 (by decide) (fun h => absurd h (by decide)) (fun _ => ?_)
      refine lv_bipush (v := (-2)) hx hb dX9_size_21 (by decide) ?_
      have hP9 := hP.sub (ws' := [(h0, .inr (8, [w0, w1, w2, w3, w4, w5, w6, w7, w8, w9, w10, w11, w12, w13, w14, w15, w16, w17, w18, w19, w20, w21, w22, w23, w24, w25, w26, w27, w28, w29, w30, w31, .ref q0, w33, w34])), (q0, .inl (kq0, 4, .inl fms))]) [0, 1] rfl
      have hD9 := hD.sub (ws' := [(h0, .inr (8, [w0, w1, w2, w3, w4, w5, w6, w7, w8, w9, w10, w11, w12, w13, w14, w15, w16, w17, w18, w19, w20, w21, w22, w23, w24, w25, w26, w27, w28, w29, w30, w31, .ref q0, w33, w34])), (q0, .inl (kq0, 4, .inl fms))]) [0, 1] (by decide) rfl
      have hK9 := hK.sub (tys' := [(kq0, .int)]) [0] rfl
      exact W.iret (v := (-2)) hx hb hr (fun t ht hW => ⟨⟨(-2), (), rfl, (by (unfold F_size; repeat' split) <;> first | rfl | (exfalso; omega)), fms, (show fms = S_next fms n1 n2 from (by (unfold S_next; repeat' split) <;> first | rfl | (exfalso; omega))), by rw [ht]; exact hP9, va_K.moved hW.alike hK9, hD9⟩, hS.F ht⟩) hS.2.2 dX9_size_23
  · skip
    refine lv_if_ne (tgt := 9) hx hb dX9_size_4 (by decide) (fun h => absurd h (by decide)) (fun _ => ?_)
    refine lv_iconst (v := (-1)) hx hb dX9_size_7 (by decide) ?_
    have hP9 := hP.sub (ws' := [(h0, .inr (8, [w0, w1, w2, w3, w4, w5, w6, w7, w8, w9, w10, w11, w12, w13, w14, w15, w16, w17, w18, w19, w20, w21, w22, w23, w24, w25, w26, w27, w28, w29, w30, w31, .ref q0, w33, w34])), (q0, .inl (kq0, 4, .inl fms))]) [0, 1] rfl
    have hD9 := hD.sub (ws' := [(h0, .inr (8, [w0, w1, w2, w3, w4, w5, w6, w7, w8, w9, w10, w11, w12, w13, w14, w15, w16, w17, w18, w19, w20, w21, w22, w23, w24, w25, w26, w27, w28, w29, w30, w31, .ref q0, w33, w34])), (q0, .inl (kq0, 4, .inl fms))]) [0, 1] (by decide) rfl
    have hK9 := hK.sub (tys' := [(kq0, .int)]) [0] rfl
    exact W.iret (v := (-1)) hx hb hr (fun t ht hW => ⟨⟨(-1), (), rfl, (by (unfold F_size; repeat' split) <;> first | rfl | (exfalso; omega)), fms, (show fms = S_next fms n1 n2 from (by (unfold S_next; repeat' split) <;> first | rfl | (exfalso; omega))), by rw [ht]; exact hP9, va_K.moved hW.alike hK9, hD9⟩, hS.F ht⟩) hS.2.2 dX9_size_8
set_option maxHeartbeats 4000000 in
set_option maxRecDepth 100000 in
theorem m_hits (l : Launch) (dC : Nat → ClassId) (dI : Nat → Nat → Nat) (sz : Nat) (h0 : Nat) (w0 : Value) (w1 : Value) (w2 : Value) (w3 : Value) (w4 : Value) (w5 : Value) (w6 : Value) (w7 : Value) (w8 : Value) (w9 : Value) (w10 : Value) (w11 : Value) (w12 : Value) (w13 : Value) (w14 : Value) (w15 : Value) (w16 : Value) (w17 : Value) (w18 : Value) (w19 : Value) (w20 : Value) (w21 : Value) (w22 : Value) (w23 : Value) (w24 : Value) (w25 : Value) (w26 : Value) (w27 : Value) (w28 : Value) (q1 : Nat) (q2 : Nat) (ca : Nat) (q0 : Nat) (q3 : Nat) (rr : Int32) (kq1 : ClassId) (fmp : Nat → Int32) (kq2 : ClassId) (fmk : Nat → Int32) (kq3 : ClassId) (fmr : Nat → Int32) (kq0 : ClassId) (fms : Nat → Int32) (n1 : Int32) (n2 : Int32) (hca : ca ≤ 40) (hsz : SzOk fms) : Met l yX9_hits (wq yX9_hits cX9_hits 5 (some .int)) ({ frames := 3, cells := 0, slots := 0, locals := 75 }) (va_Pc [.ref h0, .int n1, .int n2] (pcW dC dI [(kq1, .int), (kq2, .int), (kq3, .int), (kq0, .int)] [(h0, .inr (8, [w0, w1, w2, w3, w4, w5, w6, w7, w8, w9, w10, w11, w12, w13, w14, w15, w16, w17, w18, w19, w20, w21, w22, w23, w24, w25, w26, w27, w28, .ref q1, .ref q2, .int (nI ca), .ref q0, .ref q3, .int rr])), (q1, .inl (kq1, 40, .inl fmp)), (q2, .inl (kq2, 40, .inl fmk)), (q3, .inl (kq3, 4, .inl fmr)), (q0, .inl (kq0, 4, .inl fms))] sz)) (va_Qi (fun (r : Int32) (_ : Unit) => r = F_hits (nI (cAt fmp n1 ca)) (nI (lruH fmp fmk n1 (fms n1.toNatClampNeg).toNatClampNeg ca)) (nI (lruM fmp fmk n1 (fms n1.toNatClampNeg).toNatClampNeg (fa1 fmp fmk n1 ca) fmr ca).2.2) (ltF (lruN fmp fmk n1 (fms n1.toNatClampNeg).toNatClampNeg ca) (lruR fmp fmk n1 (fms n1.toNatClampNeg).toNatClampNeg ca)) n1 n2) (fun _ t => ∃ (rr2 : Int32) (fmr2 : Nat → Int32), va_P (dC, dI) vwCl [(h0, .inr (8, [w0, w1, w2, w3, w4, w5, w6, w7, w8, w9, w10, w11, w12, w13, w14, w15, w16, w17, w18, w19, w20, w21, w22, w23, w24, w25, w26, w27, w28, .ref q1, .ref q2, .int (nI ca), .ref q0, .ref q3, .int rr2])), (q1, .inl (kq1, 40, .inl fmp)), (q2, .inl (kq2, 40, .inl fmk)), (q3, .inl (kq3, 4, .inl fmr2)), (q0, .inl (kq0, 4, .inl fms))] t.heap ∧ va_K (dC, dI) vwCl [(kq1, .int), (kq2, .int), (kq3, .int), (kq0, .int)] t ∧ va_D (va_A [(h0, .inr (8, [w0, w1, w2, w3, w4, w5, w6, w7, w8, w9, w10, w11, w12, w13, w14, w15, w16, w17, w18, w19, w20, w21, w22, w23, w24, w25, w26, w27, w28, .ref q1, .ref q2, .int (nI ca), .ref q0, .ref q3, .int rr])), (q1, .inl (kq1, 40, .inl fmp)), (q2, .inl (kq2, 40, .inl fmk)), (q3, .inl (kq3, 4, .inl fmr)), (q0, .inl (kq0, 4, .inl fms))] sz) [(h0, .inr (8, [w0, w1, w2, w3, w4, w5, w6, w7, w8, w9, w10, w11, w12, w13, w14, w15, w16, w17, w18, w19, w20, w21, w22, w23, w24, w25, w26, w27, w28, .ref q1, .ref q2, .int (nI ca), .ref q0, .ref q3, .int rr2])), (q1, .inl (kq1, 40, .inl fmp)), (q2, .inl (kq2, 40, .inl fmk)), (q3, .inl (kq3, 4, .inl fmr2)), (q0, .inl (kq0, 4, .inl fms))]) (va_A [(h0, .inr (8, [w0, w1, w2, w3, w4, w5, w6, w7, w8, w9, w10, w11, w12, w13, w14, w15, w16, w17, w18, w19, w20, w21, w22, w23, w24, w25, w26, w27, w28, .ref q1, .ref q2, .int (nI ca), .ref q0, .ref q3, .int rr])), (q1, .inl (kq1, 40, .inl fmp)), (q2, .inl (kq2, 40, .inl fmk)), (q3, .inl (kq3, 4, .inl fmr)), (q0, .inl (kq0, 4, .inl fms))] sz)) 0 0 (va_A [(h0, .inr (8, [w0, w1, w2, w3, w4, w5, w6, w7, w8, w9, w10, w11, w12, w13, w14, w15, w16, w17, w18, w19, w20, w21, w22, w23, w24, w25, w26, w27, w28, .ref q1, .ref q2, .int (nI ca), .ref q0, .ref q3, .int rr])), (q1, .inl (kq1, 40, .inl fmp)), (q2, .inl (kq2, 40, .inl fmk)), (q3, .inl (kq3, 4, .inl fmr)), (q0, .inl (kq0, 4, .inl fms))] sz) := by
  refine Met.ofW (cc := cX9_hits) (maxL := 5) (ret := (some .int)) (by decide) rfl ?_
  intro p e s m args below meth c s₁ B hml hv
  obtain ⟨rfl, hsz, hN, hP, hK, hD0⟩ := hv
  have hx := B.exec
  have hb := B.bytes
  have hr := B.returns
  have hts0 := atoms_spec (ws := (wq yX9_hits cX9_hits 5 (some .int))) B.pre
  have hts : ∀ w ∈ BG, w.before _ s = true := fun w h => hts0 w (List.mem_cons_of_mem _ h)
  have hown : s.vm.findClass RX9 = some m.cls := findClass_of_methodNamed B.named
  have hlocks := B.notSynchronized
  subst hsz
  have hD := hD0.self (sz := s.heap.size)
  generalize hAe : va_A [(h0, .inr (8, [w0, w1, w2, w3, w4, w5, w6, w7, w8, w9, w10, w11, w12, w13, w14, w15, w16, w17, w18, w19, w20, w21, w22, w23, w24, w25, w26, w27, w28, .ref q1, .ref q2, .int (nI ca), .ref q0, .ref q3, .int rr])), (q1, .inl (kq1, 40, .inl fmp)), (q2, .inl (kq2, 40, .inl fmk)), (q3, .inl (kq3, 4, .inl fmr)), (q0, .inl (kq0, 4, .inl fms))] s.heap.size = A at hD ⊢
  have hA : ∀ q : Nat, s.heap.size ≤ q → A q := fun q h => by rw [← hAe]; exact Or.inr h
  have hS : va_S A s.heap s.heap [] := va_S.rf
  clear hAe hD0
  have hP : va_P (dC, dI) vwCl [(h0, .inr (8, [w0, w1, w2, w3, w4, w5, w6, w7, w8, w9, w10, w11, w12, w13, w14, w15, w16, w17, w18, w19, w20, w21, w22, w23, w24, w25, w26, w27, w28, .ref q1, .ref q2, .int (nI ca), .ref q0, .ref q3, .int rr])), (q1, .inl (kq1, 40, .inl fmp)), (q2, .inl (kq2, 40, .inl fmk)), (q3, .inl (kq3, 4, .inl fmr)), (q0, .inl (kq0, 4, .inl fms))] s.heap := hP
  have hl := lv_entry ([.ref h0, .int n1, .int n2]) (n := 5) (Nat.le_of_ble_eq_true rfl)
  rw [lg_entry_eq]
  generalize (lg_sl ([.ref h0, .int n1, .int n2]) ++ List.replicate (5 - (lg_sl ([.ref h0, .int n1, .int n2])).length) Slot.unset).toArray = ls at hl ⊢
  have hl : lv_has ls 5 [(0, .ref h0), (1, .int n1), (2, .int n2)] := hl
  refine lv_iload_n hx hb dX9_hits_0 rfl (lv_at hl 1 rfl) ?_
  have hPc := hP.sub (ws' := []) [] rfl
  have hDc := hD.sub (ws' := []) [] (by decide) rfl
  have hKc := hK.sub (tys' := []) [] rfl
  refine va_calli (va_runS (As := [.int n1]) (rest := []) ⟨hx, hb, hml, hown, hts⟩ (m_isPlace l dC dI s.heap.size n1 ) (va_cwS 1 hts (gS mw_5_7 mw_5_8 mw_1_9 mw_5_9) rfl rfl rfl (by decide +kernel) ⟨Nat.le_of_ble_eq_true rfl, Nat.le_of_ble_eq_true rfl⟩) ⟨pcW_blind, pcW_at hPc hKc hDc hN⟩ rfl rfl hl.1 rfl (lv_room (Nat.le_of_ble_eq_true rfl)) dX9_hits_1 ⟨Nat.le_of_ble_eq_true rfl, Nat.le_of_ble_eq_true rfl⟩) hS (fun q h1 h2 => absurd h2 (Nat.not_le.mpr h1)) (fun q h => hA q (Nat.le_trans hS.1 h)) (fun r_1 u t H1 locs ht hvm hw_1 hB hz1 hk1 hS => ?_)
  have hP := keepP hP hk1
  clear hz1 hk1 hB ht hvm hPc hDc hKc
  generalize H1 = H at hP hS ⊢
  rcases fx_bool hw_1 with ⟨rfl, b_2⟩ | ⟨rfl, b_2⟩
  · skip
    refine lv_if_ne (tgt := 9) hx hb dX9_hits_4 (by decide) (fun _ => ?_) (fun h => absurd h (by decide))
    obtain ⟨j_3, tj_3, ej_3⟩ := fx_nat (x := n1) (by omega)
    subst ej_3
    have yj_3 : Int32.toInt (nI j_3) = (j_3 : Int) := nI_toInt tj_3
    refine lv_iconst (v := 0) hx hb dX9_hits_9 (by decide) ?_
    refine lv_istore_n (lv' := [(3, .int 0), (0, .ref h0), (1, .int (nI j_3)), (2, .int n2)]) hx hb dX9_hits_10 rfl hl (by decide) rfl (fun ls hl => ?_)
    refine lv_iconst (v := 0) hx hb dX9_hits_11 (by decide) ?_
    refine lv_istore (lv' := [(4, .int 0), (3, .int 0), (0, .ref h0), (1, .int (nI j_3)), (2, .int n2)]) hx hb dX9_hits_12 hl (by decide) rfl (fun ls hl => ?_)
    have key_4 : ∀ (fu : Nat) (k : Nat) (cc : Nat), (k ≤ ca) → (cc = cnt (fun i => decide (fmp i = (nI j_3))) k) → (cc ≤ k) → ca - k < fu → ∀ (H : Heap) (locs : List Loc), va_P (dC, dI) vwCl [(h0, .inr (8, [w0, w1, w2, w3, w4, w5, w6, w7, w8, w9, w10, w11, w12, w13, w14, w15, w16, w17, w18, w19, w20, w21, w22, w23, w24, w25, w26, w27, w28, .ref q1, .ref q2, .int (nI ca), .ref q0, .ref q3, .int rr])), (q1, .inl (kq1, 40, .inl fmp)), (q2, .inl (kq2, 40, .inl fmk)), (q3, .inl (kq3, 4, .inl fmr)), (q0, .inl (kq0, 4, .inl fms))] H → va_D A [(h0, .inr (8, [w0, w1, w2, w3, w4, w5, w6, w7, w8, w9, w10, w11, w12, w13, w14, w15, w16, w17, w18, w19, w20, w21, w22, w23, w24, w25, w26, w27, w28, .ref q1, .ref q2, .int (nI ca), .ref q0, .ref q3, .int rr])), (q1, .inl (kq1, 40, .inl fmp)), (q2, .inl (kq2, 40, .inl fmk)), (q3, .inl (kq3, 4, .inl fmr)), (q0, .inl (kq0, 4, .inl fms))] → va_S A s.heap H locs → ∀ (ls : Array Slot), lv_has ls 5 [(4, .int (nI k)), (3, .int (nI cc)), (0, .ref h0), (1, .int (nI j_3)), (2, .int n2)] → W p l e (headSpec (wq yX9_hits cX9_hits 5 (some .int)) ({ frames := 3, cells := 0, slots := 0, locals := 75 })).room s m (([.ref h0, .int (nI j_3), .int n2] : List Value)).toArray below meth c H locs 0 0 (MQ below (va_Qi (fun (r : Int32) (_ : Unit) => r = F_hits (nI (cAt fmp (nI j_3) ca)) (nI (lruH fmp fmk (nI j_3) (fms (nI j_3).toNatClampNeg).toNatClampNeg ca)) (nI (lruM fmp fmk (nI j_3) (fms (nI j_3).toNatClampNeg).toNatClampNeg (fa1 fmp fmk (nI j_3) ca) fmr ca).2.2) (ltF (lruN fmp fmk (nI j_3) (fms (nI j_3).toNatClampNeg).toNatClampNeg ca) (lruR fmp fmk (nI j_3) (fms (nI j_3).toNatClampNeg).toNatClampNeg ca)) (nI j_3) n2) (fun _ t => ∃ (rr2 : Int32) (fmr2 : Nat → Int32), va_P (dC, dI) vwCl [(h0, .inr (8, [w0, w1, w2, w3, w4, w5, w6, w7, w8, w9, w10, w11, w12, w13, w14, w15, w16, w17, w18, w19, w20, w21, w22, w23, w24, w25, w26, w27, w28, .ref q1, .ref q2, .int (nI ca), .ref q0, .ref q3, .int rr2])), (q1, .inl (kq1, 40, .inl fmp)), (q2, .inl (kq2, 40, .inl fmk)), (q3, .inl (kq3, 4, .inl fmr2)), (q0, .inl (kq0, 4, .inl fms))] t.heap ∧ va_K (dC, dI) vwCl [(kq1, .int), (kq2, .int), (kq3, .int), (kq0, .int)] t ∧ va_D A [(h0, .inr (8, [w0, w1, w2, w3, w4, w5, w6, w7, w8, w9, w10, w11, w12, w13, w14, w15, w16, w17, w18, w19, w20, w21, w22, w23, w24, w25, w26, w27, w28, .ref q1, .ref q2, .int (nI ca), .ref q0, .ref q3, .int rr2])), (q1, .inl (kq1, 40, .inl fmp)), (q2, .inl (kq2, 40, .inl fmk)), (q3, .inl (kq3, 4, .inl fmr2)), (q0, .inl (kq0, 4, .inl fms))]) A) (([.ref h0, .int (nI j_3), .int n2] : List Value)).toArray s 0 0 A) (F0 m 14 ls []) := by
      intro fu
      induction fu with
      | zero => intro k cc hk hcc hck9 hme; exact absurd hme (Nat.not_lt_zero _)
      | succ fu ih_5 =>
        intro k cc hk hcc hck9 hme H locs hP hD hS ls hl
        refine lv_iload hx hb dX9_hits_14 (lv_at hl 0 rfl) ?_
        refine lv_aload_n hx hb dX9_hits_16 rfl (lv_at hl 2 rfl) ?_
        refine va_get (D := (dC, dI)) (ci := 8) (v := .int (nI ca)) (C := RX9) (T := TX9) (N := 35) hx hb hts inB_9 hown hK hP 0 rfl rfl 31 (by decide) (hts _ mw_3_213) (fun _ h9 => h9) rfl dX9_hits_17 ?_
        refine lv_icmp_ge (tgt := 48) hx hb dX9_hits_20 (by decide) (fun c_6 => ?_) (fun c_6 => ?_)
        · have b_7 := gx_ge (X := ((k : Nat) : Int)) (C := ((ca : Nat) : Int)) (nI_toInt (by omega)) (nI_toInt (by omega)) c_6
          refine lv_iload_n hx hb dX9_hits_48 rfl (lv_at hl 4 rfl) ?_
          rcases (by omega : Int32.toInt n2 = 0 ∨ Int32.toInt n2 = 1 ∨ Int32.toInt n2 = 2 ∨ (Int32.toInt n2 < 0 ∨ 2 < Int32.toInt n2)) with b_8 | b_8 | b_8 | b_8
          · refine lv_tableIn (off := 27) (tgt := 76) hx hb dX9_hits_49 (by omega) (by omega) (by rw [b_8]; rfl) (by decide) ?_
            refine lv_iload_n hx hb dX9_hits_76 rfl (lv_at hl 1 rfl) ?_
            have hP9 := hP.sub (ws' := [(h0, .inr (8, [w0, w1, w2, w3, w4, w5, w6, w7, w8, w9, w10, w11, w12, w13, w14, w15, w16, w17, w18, w19, w20, w21, w22, w23, w24, w25, w26, w27, w28, .ref q1, .ref q2, .int (nI ca), .ref q0, .ref q3, .int rr])), (q1, .inl (kq1, 40, .inl fmp)), (q2, .inl (kq2, 40, .inl fmk)), (q3, .inl (kq3, 4, .inl fmr)), (q0, .inl (kq0, 4, .inl fms))]) [0, 1, 2, 3, 4] rfl
            have hD9 := hD.sub (ws' := [(h0, .inr (8, [w0, w1, w2, w3, w4, w5, w6, w7, w8, w9, w10, w11, w12, w13, w14, w15, w16, w17, w18, w19, w20, w21, w22, w23, w24, w25, w26, w27, w28, .ref q1, .ref q2, .int (nI ca), .ref q0, .ref q3, .int rr])), (q1, .inl (kq1, 40, .inl fmp)), (q2, .inl (kq2, 40, .inl fmk)), (q3, .inl (kq3, 4, .inl fmr)), (q0, .inl (kq0, 4, .inl fms))]) [0, 1, 2, 3, 4] (by decide) rfl
            have hK9 := hK.sub (tys' := [(kq1, .int), (kq2, .int), (kq3, .int), (kq0, .int)]) [0, 1, 2, 3] rfl
            exact W.iret (v := (nI cc)) hx hb hr (fun t ht hW => ⟨⟨(nI cc), (), rfl, (hf_0 (by omega) (by omega) (congrArg nI (by rw [hcc, show k = ca from (by omega)]; rfl))), rr, fmr, by rw [ht]; exact hP9, va_K.moved hW.alike hK9, hD9⟩, hS.F ht⟩) hS.2.2 dX9_hits_77
          · refine lv_tableIn (off := 29) (tgt := 78) hx hb dX9_hits_49 (by omega) (by omega) (by rw [b_8]; rfl) (by decide) ?_
            refine lv_aload_n hx hb dX9_hits_78 rfl (lv_at hl 2 rfl) ?_
            refine lv_iload_n hx hb dX9_hits_79 rfl (lv_at hl 3 rfl) ?_
            refine lv_aload_n hx hb dX9_hits_80 rfl (lv_at hl 2 rfl) ?_
            refine va_get (D := (dC, dI)) (ci := 8) (v := .ref q0) (C := RX9) (T := TX9) (N := 35) hx hb hts inB_9 hown hK hP 0 rfl rfl 32 (by decide) (hts _ mw_3_214) (fun _ h9 => h9) rfl dX9_hits_81 ?_
            refine lv_iload_n hx hb dX9_hits_84 rfl (lv_at hl 3 rfl) ?_
            refine va_iald hx hb hK hP 4 3 rfl rfl (show vp_in (nI j_3) 4 from vp_in_nI (by omega) (by omega)) dX9_hits_85 ?_
            refine hx_top (y := (fms j_3)) (congrArg _ (nI_clamp (by omega))) ?_
            obtain ⟨n_9, hn_9, en_9⟩ := hsz j_3 (by omega)
            refine hx_top (y := (nI n_9)) en_9 ?_
            refine lv_iconst (v := 0) hx hb dX9_hits_86 (by decide) ?_
            have hPc := hP.sub (ws' := [(h0, .inr (8, [w0, w1, w2, w3, w4, w5, w6, w7, w8, w9, w10, w11, w12, w13, w14, w15, w16, w17, w18, w19, w20, w21, w22, w23, w24, w25, w26, w27, w28, .ref q1, .ref q2, .int (nI ca), .ref q0, .ref q3, .int rr])), (q1, .inl (kq1, 40, .inl fmp)), (q2, .inl (kq2, 40, .inl fmk)), (q3, .inl (kq3, 4, .inl fmr))]) [0, 1, 2, 3] rfl
            have hDc := hD.sub (ws' := [(h0, .inr (8, [w0, w1, w2, w3, w4, w5, w6, w7, w8, w9, w10, w11, w12, w13, w14, w15, w16, w17, w18, w19, w20, w21, w22, w23, w24, w25, w26, w27, w28, .ref q1, .ref q2, .int (nI ca), .ref q0, .ref q3, .int rr])), (q1, .inl (kq1, 40, .inl fmp)), (q2, .inl (kq2, 40, .inl fmk)), (q3, .inl (kq3, 4, .inl fmr))]) [0, 1, 2, 3] (by decide) rfl
            have hKc := hK.sub (tys' := [(kq1, .int), (kq2, .int), (kq3, .int)]) [0, 1, 2] rfl
            have hFc := va_free (wc := [(h0, .inr (8, [w0, w1, w2, w3, w4, w5, w6, w7, w8, w9, w10, w11, w12, w13, w14, w15, w16, w17, w18, w19, w20, w21, w22, w23, w24, w25, w26, w27, w28, .ref q1, .ref q2, .int (nI ca), .ref q0, .ref q3, .int rr])), (q1, .inl (kq1, 40, .inl fmp)), (q2, .inl (kq2, 40, .inl fmk)), (q3, .inl (kq3, 4, .inl fmr))]) hD hS hA [0, 1, 2, 3] rfl
            refine va_calli (va_runV (As := [.int (nI j_3), .int (nI n_9), .int 0]) (rest := []) ⟨hx, hb, hml, hown, hts⟩ (m_hitsBy l dC dI H.size h0 (w0) (w1) (w2) (w3) (w4) (w5) (w6) (w7) (w8) (w9) (w10) (w11) (w12) (w13) (w14) (w15) (w16) (w17) (w18) (w19) (w20) (w21) (w22) (w23) (w24) (w25) (w26) (w27) (w28) q1 q2 ca (.ref q0) q3 rr kq1 fmp kq2 fmk kq3 fmr (nI j_3) n_9 hca (by omega) (by omega)) (cwV 3 hts (gV mw_5_23 mw_5_25 mw_0_37 mw_1_9 mw_5_26) rfl rfl rfl (by decide +kernel) ⟨Nat.le_of_ble_eq_true rfl, Nat.le_of_ble_eq_true rfl⟩) ⟨pcW_blind, va_recv hKc hPc (ci := 8) (q0 := 0) rfl rfl, pcW_at hPc hKc hDc hN⟩ rfl rfl hl.1 rfl (lv_room (Nat.le_of_ble_eq_true rfl)) dX9_hits_87 ⟨Nat.le_of_ble_eq_true rfl, Nat.le_of_ble_eq_true rfl⟩) hS (fun q _ h => hFc q h) hFc (fun r_10 u t H1 locs ht hvm hw_10 hB hz1 hk1 hS => ?_)
            obtain ⟨q_11, f_12, p_13, p_14, hP1, hK1, hD1⟩ := hB
            rw [ht] at hP1
            have hK1 := va_K.moved hvm.symm hK1
            obtain ⟨hP, hD⟩ := va_join (wr := [(q0, .inl (kq0, 4, .inl fms))]) (w1 := [(h0, .inr (8, [w0, w1, w2, w3, w4, w5, w6, w7, w8, w9, w10, w11, w12, w13, w14, w15, w16, w17, w18, w19, w20, w21, w22, w23, w24, w25, w26, w27, w28, .ref q1, .ref q2, .int (nI ca), .ref q0, .ref q3, .int (nI q_11)])), (q1, .inl (kq1, 40, .inl fmp)), (q2, .inl (kq2, 40, .inl fmk)), (q3, .inl (kq3, 4, .inl f_12))]) hP hD [0, 1, 2, 3] [4] rfl rfl (by decide) (by decide) hk1 hFc hP1 hD1
            have hK := (hK.sub (tys' := [(kq0, .int)]) [3] rfl).app hK1
            clear hz1 hk1 hPc hDc hKc hFc
            generalize H1 = H at hP hS ⊢
            have hK : va_K (dC, dI) vwCl [(kq0, .int), (kq1, .int), (kq2, .int), (kq3, .int)] s := hK
            have hP : va_P (dC, dI) vwCl [(q0, .inl (kq0, 4, .inl fms)), (h0, .inr (8, [w0, w1, w2, w3, w4, w5, w6, w7, w8, w9, w10, w11, w12, w13, w14, w15, w16, w17, w18, w19, w20, w21, w22, w23, w24, w25, w26, w27, w28, .ref q1, .ref q2, .int (nI ca), .ref q0, .ref q3, .int (nI q_11)])), (q1, .inl (kq1, 40, .inl fmp)), (q2, .inl (kq2, 40, .inl fmk)), (q3, .inl (kq3, 4, .inl f_12))] H := hP
            have hD : va_D A [(q0, .inl (kq0, 4, .inl fms)), (h0, .inr (8, [w0, w1, w2, w3, w4, w5, w6, w7, w8, w9, w10, w11, w12, w13, w14, w15, w16, w17, w18, w19, w20, w21, w22, w23, w24, w25, w26, w27, w28, .ref q1, .ref q2, .int (nI ca), .ref q0, .ref q3, .int (nI q_11)])), (q1, .inl (kq1, 40, .inl fmp)), (q2, .inl (kq2, 40, .inl fmk)), (q3, .inl (kq3, 4, .inl f_12))] := hD
            obtain rfl : r_10 = nI (lruH fmp fmk (nI j_3) n_9 ca) := hw_10
            have b_15 := (lruH_le (by omega) : lruH fmp fmk (nI j_3) n_9 ca ≤ ca)
            have hP9 := hP.sub (ws' := [(h0, .inr (8, [w0, w1, w2, w3, w4, w5, w6, w7, w8, w9, w10, w11, w12, w13, w14, w15, w16, w17, w18, w19, w20, w21, w22, w23, w24, w25, w26, w27, w28, .ref q1, .ref q2, .int (nI ca), .ref q0, .ref q3, .int (nI q_11)])), (q1, .inl (kq1, 40, .inl fmp)), (q2, .inl (kq2, 40, .inl fmk)), (q3, .inl (kq3, 4, .inl f_12)), (q0, .inl (kq0, 4, .inl fms))]) [1, 2, 3, 4, 0] rfl
            have hD9 := hD.sub (ws' := [(h0, .inr (8, [w0, w1, w2, w3, w4, w5, w6, w7, w8, w9, w10, w11, w12, w13, w14, w15, w16, w17, w18, w19, w20, w21, w22, w23, w24, w25, w26, w27, w28, .ref q1, .ref q2, .int (nI ca), .ref q0, .ref q3, .int (nI q_11)])), (q1, .inl (kq1, 40, .inl fmp)), (q2, .inl (kq2, 40, .inl fmk)), (q3, .inl (kq3, 4, .inl f_12)), (q0, .inl (kq0, 4, .inl fms))]) [1, 2, 3, 4, 0] (by decide) rfl
            have hK9 := hK.sub (tys' := [(kq1, .int), (kq2, .int), (kq3, .int), (kq0, .int)]) [1, 2, 3, 0] rfl
            exact W.iret (v := (nI (lruH fmp fmk (nI j_3) n_9 ca))) hx hb hr (fun t ht hW => ⟨⟨(nI (lruH fmp fmk (nI j_3) n_9 ca)), (), rfl, (hf_1 (by omega) (by omega) (by rw [nI_clamp (by omega), en_9, nI_clamp (by omega)])), (nI q_11), f_12, by rw [ht]; exact hP9, va_K.moved hW.alike hK9, hD9⟩, hS.F ht⟩) hS.2.2 dX9_hits_90
          · refine lv_tableIn (off := 42) (tgt := 91) hx hb dX9_hits_49 (by omega) (by omega) (by rw [b_8]; rfl) (by decide) ?_
            refine lv_aload_n hx hb dX9_hits_91 rfl (lv_at hl 2 rfl) ?_
            refine lv_iload_n hx hb dX9_hits_92 rfl (lv_at hl 3 rfl) ?_
            refine lv_aload_n hx hb dX9_hits_93 rfl (lv_at hl 2 rfl) ?_
            refine va_get (D := (dC, dI)) (ci := 8) (v := .ref q0) (C := RX9) (T := TX9) (N := 35) hx hb hts inB_9 hown hK hP 0 rfl rfl 32 (by decide) (hts _ mw_3_214) (fun _ h9 => h9) rfl dX9_hits_94 ?_
            refine lv_iload_n hx hb dX9_hits_97 rfl (lv_at hl 3 rfl) ?_
            refine va_iald hx hb hK hP 4 3 rfl rfl (show vp_in (nI j_3) 4 from vp_in_nI (by omega) (by omega)) dX9_hits_98 ?_
            refine hx_top (y := (fms j_3)) (congrArg _ (nI_clamp (by omega))) ?_
            obtain ⟨n_16, hn_16, en_16⟩ := hsz j_3 (by omega)
            refine hx_top (y := (nI n_16)) en_16 ?_
            refine lv_iconst (v := 1) hx hb dX9_hits_99 (by decide) ?_
            have hPc := hP.sub (ws' := [(h0, .inr (8, [w0, w1, w2, w3, w4, w5, w6, w7, w8, w9, w10, w11, w12, w13, w14, w15, w16, w17, w18, w19, w20, w21, w22, w23, w24, w25, w26, w27, w28, .ref q1, .ref q2, .int (nI ca), .ref q0, .ref q3, .int rr])), (q1, .inl (kq1, 40, .inl fmp)), (q2, .inl (kq2, 40, .inl fmk)), (q3, .inl (kq3, 4, .inl fmr))]) [0, 1, 2, 3] rfl
            have hDc := hD.sub (ws' := [(h0, .inr (8, [w0, w1, w2, w3, w4, w5, w6, w7, w8, w9, w10, w11, w12, w13, w14, w15, w16, w17, w18, w19, w20, w21, w22, w23, w24, w25, w26, w27, w28, .ref q1, .ref q2, .int (nI ca), .ref q0, .ref q3, .int rr])), (q1, .inl (kq1, 40, .inl fmp)), (q2, .inl (kq2, 40, .inl fmk)), (q3, .inl (kq3, 4, .inl fmr))]) [0, 1, 2, 3] (by decide) rfl
            have hKc := hK.sub (tys' := [(kq1, .int), (kq2, .int), (kq3, .int)]) [0, 1, 2] rfl
            have hFc := va_free (wc := [(h0, .inr (8, [w0, w1, w2, w3, w4, w5, w6, w7, w8, w9, w10, w11, w12, w13, w14, w15, w16, w17, w18, w19, w20, w21, w22, w23, w24, w25, w26, w27, w28, .ref q1, .ref q2, .int (nI ca), .ref q0, .ref q3, .int rr])), (q1, .inl (kq1, 40, .inl fmp)), (q2, .inl (kq2, 40, .inl fmk)), (q3, .inl (kq3, 4, .inl fmr))]) hD hS hA [0, 1, 2, 3] rfl
            refine va_calli (va_runV (As := [.int (nI j_3), .int (nI n_16), .int 1]) (rest := []) ⟨hx, hb, hml, hown, hts⟩ (m_hitsB1 l dC dI H.size h0 (w0) (w1) (w2) (w3) (w4) (w5) (w6) (w7) (w8) (w9) (w10) (w11) (w12) (w13) (w14) (w15) (w16) (w17) (w18) (w19) (w20) (w21) (w22) (w23) (w24) (w25) (w26) (w27) (w28) q1 q2 ca (.ref q0) q3 rr kq1 fmp kq2 fmk kq3 fmr (nI j_3) n_16 hca (by omega) (by omega)) (cwV 3 hts (gV mw_5_23 mw_5_25 mw_0_37 mw_1_9 mw_5_26) rfl rfl rfl (by decide +kernel) ⟨Nat.le_of_ble_eq_true rfl, Nat.le_of_ble_eq_true rfl⟩) ⟨pcW_blind, va_recv hKc hPc (ci := 8) (q0 := 0) rfl rfl, pcW_at hPc hKc hDc hN⟩ rfl rfl hl.1 rfl (lv_room (Nat.le_of_ble_eq_true rfl)) dX9_hits_100 ⟨Nat.le_of_ble_eq_true rfl, Nat.le_of_ble_eq_true rfl⟩) hS (fun q _ h => hFc q h) hFc (fun r_17 u t H1 locs ht hvm hw_17 hB hz1 hk1 hS => ?_)
            obtain ⟨q_18, f_19, p_20, hP1, hK1, hD1⟩ := hB
            rw [ht] at hP1
            have hK1 := va_K.moved hvm.symm hK1
            obtain ⟨hP, hD⟩ := va_join (wr := [(q0, .inl (kq0, 4, .inl fms))]) (w1 := [(h0, .inr (8, [w0, w1, w2, w3, w4, w5, w6, w7, w8, w9, w10, w11, w12, w13, w14, w15, w16, w17, w18, w19, w20, w21, w22, w23, w24, w25, w26, w27, w28, .ref q1, .ref q2, .int (nI ca), .ref q0, .ref q3, .int (nI q_18)])), (q1, .inl (kq1, 40, .inl fmp)), (q2, .inl (kq2, 40, .inl fmk)), (q3, .inl (kq3, 4, .inl f_19))]) hP hD [0, 1, 2, 3] [4] rfl rfl (by decide) (by decide) hk1 hFc hP1 hD1
            have hK := (hK.sub (tys' := [(kq0, .int)]) [3] rfl).app hK1
            clear hz1 hk1 hPc hDc hKc hFc
            generalize H1 = H at hP hS ⊢
            have hK : va_K (dC, dI) vwCl [(kq0, .int), (kq1, .int), (kq2, .int), (kq3, .int)] s := hK
            have hP : va_P (dC, dI) vwCl [(q0, .inl (kq0, 4, .inl fms)), (h0, .inr (8, [w0, w1, w2, w3, w4, w5, w6, w7, w8, w9, w10, w11, w12, w13, w14, w15, w16, w17, w18, w19, w20, w21, w22, w23, w24, w25, w26, w27, w28, .ref q1, .ref q2, .int (nI ca), .ref q0, .ref q3, .int (nI q_18)])), (q1, .inl (kq1, 40, .inl fmp)), (q2, .inl (kq2, 40, .inl fmk)), (q3, .inl (kq3, 4, .inl f_19))] H := hP
            have hD : va_D A [(q0, .inl (kq0, 4, .inl fms)), (h0, .inr (8, [w0, w1, w2, w3, w4, w5, w6, w7, w8, w9, w10, w11, w12, w13, w14, w15, w16, w17, w18, w19, w20, w21, w22, w23, w24, w25, w26, w27, w28, .ref q1, .ref q2, .int (nI ca), .ref q0, .ref q3, .int (nI q_18)])), (q1, .inl (kq1, 40, .inl fmp)), (q2, .inl (kq2, 40, .inl fmk)), (q3, .inl (kq3, 4, .inl f_19))] := hD
            obtain ⟨q_21, rfl, hq_21⟩ := hw_17
            have hP9 := hP.sub (ws' := [(h0, .inr (8, [w0, w1, w2, w3, w4, w5, w6, w7, w8, w9, w10, w11, w12, w13, w14, w15, w16, w17, w18, w19, w20, w21, w22, w23, w24, w25, w26, w27, w28, .ref q1, .ref q2, .int (nI ca), .ref q0, .ref q3, .int (nI q_18)])), (q1, .inl (kq1, 40, .inl fmp)), (q2, .inl (kq2, 40, .inl fmk)), (q3, .inl (kq3, 4, .inl f_19)), (q0, .inl (kq0, 4, .inl fms))]) [1, 2, 3, 4, 0] rfl
            have hD9 := hD.sub (ws' := [(h0, .inr (8, [w0, w1, w2, w3, w4, w5, w6, w7, w8, w9, w10, w11, w12, w13, w14, w15, w16, w17, w18, w19, w20, w21, w22, w23, w24, w25, w26, w27, w28, .ref q1, .ref q2, .int (nI ca), .ref q0, .ref q3, .int (nI q_18)])), (q1, .inl (kq1, 40, .inl fmp)), (q2, .inl (kq2, 40, .inl fmk)), (q3, .inl (kq3, 4, .inl f_19)), (q0, .inl (kq0, 4, .inl fms))]) [1, 2, 3, 4, 0] (by decide) rfl
            have hK9 := hK.sub (tys' := [(kq1, .int), (kq2, .int), (kq3, .int), (kq0, .int)]) [1, 2, 3, 0] rfl
            exact W.iret (v := (nI q_21)) hx hb hr (fun t ht hW => ⟨⟨(nI q_21), (), rfl, (hf_2 (by omega) (by omega) (by rw [nI_clamp (by omega), en_16, nI_clamp (by omega), hq_21.2])), (nI q_18), f_19, by rw [ht]; exact hP9, va_K.moved hW.alike hK9, hD9⟩, hS.F ht⟩) hS.2.2 dX9_hits_103
          · refine lv_tableOut (tgt := 104) hx hb dX9_hits_49 (by omega) (by decide) ?_
            refine lv_iload_n hx hb dX9_hits_104 rfl (lv_at hl 4 rfl) ?_
            refine lv_i2l hx hb dX9_hits_105 rfl ?_
            refine lv_ldc2 (v := Int32.toInt64 10) hx hb hown (show (Cond.constantLong RX9 250 (Int32.toInt64 10)).before _ s = true from (hts _ mw_5_47)) dX9_hits_106 ?_
            refine lv_ldc2 (v := Int32.toInt64 13) hx hb hown (show (Cond.constantLong RX9 252 (Int32.toInt64 13)).before _ s = true from (hts _ mw_5_48)) dX9_hits_109 ?_
            have hPc := hP.sub (ws' := []) [] rfl
            have hDc := hD.sub (ws' := []) [] (by decide) rfl
            have hKc := hK.sub (tys' := []) [] rfl
            refine va_calli (va_runS (As := [.long (Int32.toInt64 n2), .long (Int32.toInt64 10), .long (Int32.toInt64 13)]) (rest := []) ⟨hx, hb, hml, hown, hts⟩ (m_in l dC dI H.size n2 10 13 10 13 (by decide) (by decide)) (va_cwS 3 hts (gS mw_4_57 mw_4_58 mw_1_9 mw_4_59) rfl rfl rfl (by decide +kernel) ⟨Nat.le_of_ble_eq_true rfl, Nat.le_of_ble_eq_true rfl⟩) ⟨pcW_blind, pcW_at hPc hKc hDc hN⟩ rfl rfl hl.1 rfl (lv_room (Nat.le_of_ble_eq_true rfl)) dX9_hits_112 ⟨Nat.le_of_ble_eq_true rfl, Nat.le_of_ble_eq_true rfl⟩) hS (fun q h1 h2 => absurd h2 (Nat.not_le.mpr h1)) (fun q h => hA q (Nat.le_trans hS.1 h)) (fun r_22 u t H1 locs ht hvm hw_22 hB hz1 hk1 hS => ?_)
            have hP := keepP hP hk1
            clear hz1 hk1 hB ht hvm hPc hDc hKc
            generalize H1 = H at hP hS ⊢
            rcases fx_bool hw_22 with ⟨rfl, b_23⟩ | ⟨rfl, b_23⟩
            · skip
              refine lv_if_ne (tgt := 121) hx hb dX9_hits_115 (by decide) (fun _ => ?_) (fun h => absurd h (by decide))
              refine lv_aload_n hx hb dX9_hits_121 rfl (lv_at hl 2 rfl) ?_
              refine lv_iload_n hx hb dX9_hits_122 rfl (lv_at hl 3 rfl) ?_
              refine lv_aload_n hx hb dX9_hits_123 rfl (lv_at hl 2 rfl) ?_
              refine va_get (D := (dC, dI)) (ci := 8) (v := .ref q0) (C := RX9) (T := TX9) (N := 35) hx hb hts inB_9 hown hK hP 0 rfl rfl 32 (by decide) (hts _ mw_3_214) (fun _ h9 => h9) rfl dX9_hits_124 ?_
              refine lv_iload_n hx hb dX9_hits_127 rfl (lv_at hl 3 rfl) ?_
              refine va_iald hx hb hK hP 4 3 rfl rfl (show vp_in (nI j_3) 4 from vp_in_nI (by omega) (by omega)) dX9_hits_128 ?_
              refine hx_top (y := (fms j_3)) (congrArg _ (nI_clamp (by omega))) ?_
              obtain ⟨n_24, hn_24, en_24⟩ := hsz j_3 (by omega)
              refine hx_top (y := (nI n_24)) en_24 ?_
              refine lv_iconst (v := 0) hx hb dX9_hits_129 (by decide) ?_
              have hPc := hP.sub (ws' := [(h0, .inr (8, [w0, w1, w2, w3, w4, w5, w6, w7, w8, w9, w10, w11, w12, w13, w14, w15, w16, w17, w18, w19, w20, w21, w22, w23, w24, w25, w26, w27, w28, .ref q1, .ref q2, .int (nI ca), .ref q0, .ref q3, .int rr])), (q1, .inl (kq1, 40, .inl fmp)), (q2, .inl (kq2, 40, .inl fmk)), (q3, .inl (kq3, 4, .inl fmr))]) [0, 1, 2, 3] rfl
              have hDc := hD.sub (ws' := [(h0, .inr (8, [w0, w1, w2, w3, w4, w5, w6, w7, w8, w9, w10, w11, w12, w13, w14, w15, w16, w17, w18, w19, w20, w21, w22, w23, w24, w25, w26, w27, w28, .ref q1, .ref q2, .int (nI ca), .ref q0, .ref q3, .int rr])), (q1, .inl (kq1, 40, .inl fmp)), (q2, .inl (kq2, 40, .inl fmk)), (q3, .inl (kq3, 4, .inl fmr))]) [0, 1, 2, 3] (by decide) rfl
              have hKc := hK.sub (tys' := [(kq1, .int), (kq2, .int), (kq3, .int)]) [0, 1, 2] rfl
              have hFc := va_free (wc := [(h0, .inr (8, [w0, w1, w2, w3, w4, w5, w6, w7, w8, w9, w10, w11, w12, w13, w14, w15, w16, w17, w18, w19, w20, w21, w22, w23, w24, w25, w26, w27, w28, .ref q1, .ref q2, .int (nI ca), .ref q0, .ref q3, .int rr])), (q1, .inl (kq1, 40, .inl fmp)), (q2, .inl (kq2, 40, .inl fmk)), (q3, .inl (kq3, 4, .inl fmr))]) hD hS hA [0, 1, 2, 3] rfl
              refine va_calli (va_runV (As := [.int (nI j_3), .int (nI n_24), .int 0]) (rest := []) ⟨hx, hb, hml, hown, hts⟩ (m_hitsBy l dC dI H.size h0 (w0) (w1) (w2) (w3) (w4) (w5) (w6) (w7) (w8) (w9) (w10) (w11) (w12) (w13) (w14) (w15) (w16) (w17) (w18) (w19) (w20) (w21) (w22) (w23) (w24) (w25) (w26) (w27) (w28) q1 q2 ca (.ref q0) q3 rr kq1 fmp kq2 fmk kq3 fmr (nI j_3) n_24 hca (by omega) (by omega)) (cwV 3 hts (gV mw_5_23 mw_5_25 mw_0_37 mw_1_9 mw_5_26) rfl rfl rfl (by decide +kernel) ⟨Nat.le_of_ble_eq_true rfl, Nat.le_of_ble_eq_true rfl⟩) ⟨pcW_blind, va_recv hKc hPc (ci := 8) (q0 := 0) rfl rfl, pcW_at hPc hKc hDc hN⟩ rfl rfl hl.1 rfl (lv_room (Nat.le_of_ble_eq_true rfl)) dX9_hits_130 ⟨Nat.le_of_ble_eq_true rfl, Nat.le_of_ble_eq_true rfl⟩) hS (fun q _ h => hFc q h) hFc (fun r_25 u t H1 locs ht hvm hw_25 hB hz1 hk1 hS => ?_)
              obtain ⟨q_26, f_27, p_28, p_29, hP1, hK1, hD1⟩ := hB
              rw [ht] at hP1
              have hK1 := va_K.moved hvm.symm hK1
              obtain ⟨hP, hD⟩ := va_join (wr := [(q0, .inl (kq0, 4, .inl fms))]) (w1 := [(h0, .inr (8, [w0, w1, w2, w3, w4, w5, w6, w7, w8, w9, w10, w11, w12, w13, w14, w15, w16, w17, w18, w19, w20, w21, w22, w23, w24, w25, w26, w27, w28, .ref q1, .ref q2, .int (nI ca), .ref q0, .ref q3, .int (nI q_26)])), (q1, .inl (kq1, 40, .inl fmp)), (q2, .inl (kq2, 40, .inl fmk)), (q3, .inl (kq3, 4, .inl f_27))]) hP hD [0, 1, 2, 3] [4] rfl rfl (by decide) (by decide) hk1 hFc hP1 hD1
              have hK := (hK.sub (tys' := [(kq0, .int)]) [3] rfl).app hK1
              clear hz1 hk1 hPc hDc hKc hFc
              generalize H1 = H at hP hS ⊢
              have hK : va_K (dC, dI) vwCl [(kq0, .int), (kq1, .int), (kq2, .int), (kq3, .int)] s := hK
              have hP : va_P (dC, dI) vwCl [(q0, .inl (kq0, 4, .inl fms)), (h0, .inr (8, [w0, w1, w2, w3, w4, w5, w6, w7, w8, w9, w10, w11, w12, w13, w14, w15, w16, w17, w18, w19, w20, w21, w22, w23, w24, w25, w26, w27, w28, .ref q1, .ref q2, .int (nI ca), .ref q0, .ref q3, .int (nI q_26)])), (q1, .inl (kq1, 40, .inl fmp)), (q2, .inl (kq2, 40, .inl fmk)), (q3, .inl (kq3, 4, .inl f_27))] H := hP
              have hD : va_D A [(q0, .inl (kq0, 4, .inl fms)), (h0, .inr (8, [w0, w1, w2, w3, w4, w5, w6, w7, w8, w9, w10, w11, w12, w13, w14, w15, w16, w17, w18, w19, w20, w21, w22, w23, w24, w25, w26, w27, w28, .ref q1, .ref q2, .int (nI ca), .ref q0, .ref q3, .int (nI q_26)])), (q1, .inl (kq1, 40, .inl fmp)), (q2, .inl (kq2, 40, .inl fmk)), (q3, .inl (kq3, 4, .inl f_27))] := hD
              obtain rfl : r_25 = nI (lruH fmp fmk (nI j_3) n_24 ca) := hw_25
              have b_30 := (lruH_le (by omega) : lruH fmp fmk (nI j_3) n_24 ca ≤ ca)
              refine lv_pop hx hb dX9_hits_133 rfl ?_
              refine lv_iload_n hx hb dX9_hits_134 rfl (lv_at hl 4 rfl) ?_
              refine lv_bipush (v := 10) hx hb dX9_hits_135 (by decide) ?_
              refine lv_isub hx hb dX9_hits_137 ?_
              refine lv_topi (fun z_31 ez_31 => ?_)
              have gz_31 := fx_rng n2
              have fz_31 : Int32.toInt z_31 = (Int32.toInt n2) - 10 := by rw [ez_31]; exact gx_sub (X := (Int32.toInt n2)) (C := 10) rfl (by decide) (by omega) (by omega)
              refine lv_aload_n hx hb dX9_hits_138 rfl (lv_at hl 2 rfl) ?_
              refine va_get (D := (dC, dI)) (ci := 8) (v := .int (nI q_26)) (C := RX9) (T := TX9) (N := 35) hx hb hts inB_9 hown hK hP 1 rfl rfl 34 (by decide) (hts _ mw_3_216) (fun _ h9 => h9) rfl dX9_hits_139 ?_
              refine lv_icmp_ge (tgt := 157) hx hb dX9_hits_142 (by decide) (fun c_32 => ?_) (fun c_32 => ?_)
              · have b_33 := gx_ge (X := (Int32.toInt z_31)) (C := ((q_26 : Nat) : Int)) rfl (nI_toInt (by omega)) c_32
                refine lv_bipush (v := (-6)) hx hb dX9_hits_157 (by decide) ?_
                have hP9 := hP.sub (ws' := [(h0, .inr (8, [w0, w1, w2, w3, w4, w5, w6, w7, w8, w9, w10, w11, w12, w13, w14, w15, w16, w17, w18, w19, w20, w21, w22, w23, w24, w25, w26, w27, w28, .ref q1, .ref q2, .int (nI ca), .ref q0, .ref q3, .int (nI q_26)])), (q1, .inl (kq1, 40, .inl fmp)), (q2, .inl (kq2, 40, .inl fmk)), (q3, .inl (kq3, 4, .inl f_27)), (q0, .inl (kq0, 4, .inl fms))]) [1, 2, 3, 4, 0] rfl
                have hD9 := hD.sub (ws' := [(h0, .inr (8, [w0, w1, w2, w3, w4, w5, w6, w7, w8, w9, w10, w11, w12, w13, w14, w15, w16, w17, w18, w19, w20, w21, w22, w23, w24, w25, w26, w27, w28, .ref q1, .ref q2, .int (nI ca), .ref q0, .ref q3, .int (nI q_26)])), (q1, .inl (kq1, 40, .inl fmp)), (q2, .inl (kq2, 40, .inl fmk)), (q3, .inl (kq3, 4, .inl f_27)), (q0, .inl (kq0, 4, .inl fms))]) [1, 2, 3, 4, 0] (by decide) rfl
                have hK9 := hK.sub (tys' := [(kq1, .int), (kq2, .int), (kq3, .int), (kq0, .int)]) [1, 2, 3, 0] rfl
                exact W.iret (v := (-6)) hx hb hr (fun t ht hW => ⟨⟨(-6), (), rfl, (hf_r (by omega) (by omega) (by rw [nI_clamp (by omega), en_24, nI_clamp (by omega)]; exact lt_out p_29 (by omega))), (nI q_26), f_27, by rw [ht]; exact hP9, va_K.moved hW.alike hK9, hD9⟩, hS.F ht⟩) hS.2.2 dX9_hits_159
              · have b_33 := gn_ge (X := (Int32.toInt z_31)) (C := ((q_26 : Nat) : Int)) rfl (nI_toInt (by omega)) c_32
                refine lv_aload_n hx hb dX9_hits_145 rfl (lv_at hl 2 rfl) ?_
                refine va_get (D := (dC, dI)) (ci := 8) (v := .ref q3) (C := RX9) (T := TX9) (N := 35) hx hb hts inB_9 hown hK hP 1 rfl rfl 33 (by decide) (hts _ mw_3_215) (fun _ h9 => h9) rfl dX9_hits_146 ?_
                refine lv_iload_n hx hb dX9_hits_149 rfl (lv_at hl 4 rfl) ?_
                refine lv_bipush (v := 10) hx hb dX9_hits_150 (by decide) ?_
                refine lv_isub hx hb dX9_hits_152 ?_
                refine lv_topi (fun z_34 ez_34 => ?_)
                have gz_34 := fx_rng n2
                have fz_34 : Int32.toInt z_34 = (Int32.toInt n2) - 10 := by rw [ez_34]; exact gx_sub (X := (Int32.toInt n2)) (C := 10) rfl (by decide) (by omega) (by omega)
                refine va_iald hx hb hK hP 4 3 rfl rfl (show vp_in z_34 4 from fx_in (by omega) (by omega)) dX9_hits_153 ?_
                refine lv_goto (tgt := 159) hx hb dX9_hits_154 (by decide) ?_
                have hP9 := hP.sub (ws' := [(h0, .inr (8, [w0, w1, w2, w3, w4, w5, w6, w7, w8, w9, w10, w11, w12, w13, w14, w15, w16, w17, w18, w19, w20, w21, w22, w23, w24, w25, w26, w27, w28, .ref q1, .ref q2, .int (nI ca), .ref q0, .ref q3, .int (nI q_26)])), (q1, .inl (kq1, 40, .inl fmp)), (q2, .inl (kq2, 40, .inl fmk)), (q3, .inl (kq3, 4, .inl f_27)), (q0, .inl (kq0, 4, .inl fms))]) [1, 2, 3, 4, 0] rfl
                have hD9 := hD.sub (ws' := [(h0, .inr (8, [w0, w1, w2, w3, w4, w5, w6, w7, w8, w9, w10, w11, w12, w13, w14, w15, w16, w17, w18, w19, w20, w21, w22, w23, w24, w25, w26, w27, w28, .ref q1, .ref q2, .int (nI ca), .ref q0, .ref q3, .int (nI q_26)])), (q1, .inl (kq1, 40, .inl fmp)), (q2, .inl (kq2, 40, .inl fmk)), (q3, .inl (kq3, 4, .inl f_27)), (q0, .inl (kq0, 4, .inl fms))]) [1, 2, 3, 4, 0] (by decide) rfl
                have hK9 := hK.sub (tys' := [(kq1, .int), (kq2, .int), (kq3, .int), (kq0, .int)]) [1, 2, 3, 0] rfl
                exact W.iret (v := (f_27 (Int32.toNatClampNeg z_34))) hx hb hr (fun t ht hW => ⟨⟨(f_27 (Int32.toNatClampNeg z_34)), (), rfl, (hf_r (by omega) (by omega) (by show f_27 (Int32.toInt z_34).toNat = _; rw [fz_34, nI_clamp (by omega), en_24, nI_clamp (by omega)]; exact lt_in p_29 (by omega))), (nI q_26), f_27, by rw [ht]; exact hP9, va_K.moved hW.alike hK9, hD9⟩, hS.F ht⟩) hS.2.2 dX9_hits_159
            · skip
              refine lv_if_ne (tgt := 121) hx hb dX9_hits_115 (by decide) (fun h => absurd h (by decide)) (fun _ => ?_)
              refine lv_bipush (v := (-2)) hx hb dX9_hits_118 (by decide) ?_
              have hP9 := hP.sub (ws' := [(h0, .inr (8, [w0, w1, w2, w3, w4, w5, w6, w7, w8, w9, w10, w11, w12, w13, w14, w15, w16, w17, w18, w19, w20, w21, w22, w23, w24, w25, w26, w27, w28, .ref q1, .ref q2, .int (nI ca), .ref q0, .ref q3, .int rr])), (q1, .inl (kq1, 40, .inl fmp)), (q2, .inl (kq2, 40, .inl fmk)), (q3, .inl (kq3, 4, .inl fmr)), (q0, .inl (kq0, 4, .inl fms))]) [0, 1, 2, 3, 4] rfl
              have hD9 := hD.sub (ws' := [(h0, .inr (8, [w0, w1, w2, w3, w4, w5, w6, w7, w8, w9, w10, w11, w12, w13, w14, w15, w16, w17, w18, w19, w20, w21, w22, w23, w24, w25, w26, w27, w28, .ref q1, .ref q2, .int (nI ca), .ref q0, .ref q3, .int rr])), (q1, .inl (kq1, 40, .inl fmp)), (q2, .inl (kq2, 40, .inl fmk)), (q3, .inl (kq3, 4, .inl fmr)), (q0, .inl (kq0, 4, .inl fms))]) [0, 1, 2, 3, 4] (by decide) rfl
              have hK9 := hK.sub (tys' := [(kq1, .int), (kq2, .int), (kq3, .int), (kq0, .int)]) [0, 1, 2, 3] rfl
              exact W.iret (v := (-2)) hx hb hr (fun t ht hW => ⟨⟨(-2), (), rfl, (hf_m2 (by omega) (by omega)), rr, fmr, by rw [ht]; exact hP9, va_K.moved hW.alike hK9, hD9⟩, hS.F ht⟩) hS.2.2 dX9_hits_120
        · have b_7 := gn_ge (X := ((k : Nat) : Int)) (C := ((ca : Nat) : Int)) (nI_toInt (by omega)) (nI_toInt (by omega)) c_6
          refine lv_iload_n hx hb dX9_hits_23 rfl (lv_at hl 1 rfl) ?_
          refine lv_aload_n hx hb dX9_hits_24 rfl (lv_at hl 2 rfl) ?_
          refine va_get (D := (dC, dI)) (ci := 8) (v := .ref q1) (C := RX9) (T := TX9) (N := 35) hx hb hts inB_9 hown hK hP 0 rfl rfl 29 (by decide) (hts _ mw_3_211) (fun _ h9 => h9) rfl dX9_hits_25 ?_
          refine lv_iload hx hb dX9_hits_28 (lv_at hl 0 rfl) ?_
          refine va_iald hx hb hK hP 1 0 rfl rfl (show vp_in (nI k) 40 from vp_in_nI (by omega) (by omega)) dX9_hits_30 ?_
          refine hx_top (y := (fmp k)) (congrArg _ (nI_clamp (by omega))) ?_
          refine lv_iload_n hx hb dX9_hits_31 rfl (lv_at hl 3 rfl) ?_
          refine lv_icmp_ne (tgt := 39) hx hb dX9_hits_32 (by decide) (fun c_35 => ?_) (fun c_35 => ?_)
          · have b_36 := gx_ne (X := (Int32.toInt (fmp k))) (C := ((j_3 : Nat) : Int)) rfl (nI_toInt (by omega)) c_35
            refine lv_iconst (v := 0) hx hb dX9_hits_39 (by decide) ?_
            refine lv_iadd hx hb dX9_hits_40 ?_
            refine hx_top (y := (nI (cc + 0))) (nI_add cc 0) ?_
            refine lv_istore_n (lv' := [(3, .int (nI (cc + 0))), (4, .int (nI k)), (0, .ref h0), (1, .int (nI j_3)), (2, .int n2)]) hx hb dX9_hits_41 rfl hl (by decide) rfl (fun ls hl => ?_)
            refine lv_iinc (v := (nI (k + 1))) (lv' := [(4, .int (nI (k + 1))), (3, .int (nI (cc + 0))), (0, .ref h0), (1, .int (nI j_3)), (2, .int n2)]) hx hb dX9_hits_42 hl (k := 1) rfl (nI_add k 1) (by decide) rfl (fun ls hl => ?_)
            refine lv_goto (tgt := 14) hx hb dX9_hits_45 (by decide) ?_
            exact ih_5 (k + 1) (cc + 0) (by omega) (cnt_f hcc (decide_eq_false c_35)) (by omega) (by omega) _ _ hP hD hS ls (lv_sub hl [0, 1, 2, 3, 4] rfl)
          · have b_36 := gn_ne (X := (Int32.toInt (fmp k))) (C := ((j_3 : Nat) : Int)) rfl (nI_toInt (by omega)) c_35
            refine lv_iconst (v := 1) hx hb dX9_hits_35 (by decide) ?_
            refine lv_goto (tgt := 40) hx hb dX9_hits_36 (by decide) ?_
            refine lv_iadd hx hb dX9_hits_40 ?_
            refine hx_top (y := (nI (cc + 1))) (nI_add cc 1) ?_
            refine lv_istore_n (lv' := [(3, .int (nI (cc + 1))), (4, .int (nI k)), (0, .ref h0), (1, .int (nI j_3)), (2, .int n2)]) hx hb dX9_hits_41 rfl hl (by decide) rfl (fun ls hl => ?_)
            refine lv_iinc (v := (nI (k + 1))) (lv' := [(4, .int (nI (k + 1))), (3, .int (nI (cc + 1))), (0, .ref h0), (1, .int (nI j_3)), (2, .int n2)]) hx hb dX9_hits_42 hl (k := 1) rfl (nI_add k 1) (by decide) rfl (fun ls hl => ?_)
            refine lv_goto (tgt := 14) hx hb dX9_hits_45 (by decide) ?_
            exact ih_5 (k + 1) (cc + 1) (by omega) (cnt_t hcc (decide_eq_true c_35)) (by omega) (by omega) _ _ hP hD hS ls (lv_sub hl [0, 1, 2, 3, 4] rfl)
    exact key_4 ((ca - 0) + 1) 0 0 (by omega) rfl (by omega) (Nat.lt_succ_self _) _ _ hP hD hS ls (lv_sub hl [0, 1, 2, 3, 4] rfl)
  · skip
    refine lv_if_ne (tgt := 9) hx hb dX9_hits_4 (by decide) (fun h => absurd h (by decide)) (fun _ => ?_)
    refine lv_iconst (v := (-1)) hx hb dX9_hits_7 (by decide) ?_
    have hP9 := hP.sub (ws' := [(h0, .inr (8, [w0, w1, w2, w3, w4, w5, w6, w7, w8, w9, w10, w11, w12, w13, w14, w15, w16, w17, w18, w19, w20, w21, w22, w23, w24, w25, w26, w27, w28, .ref q1, .ref q2, .int (nI ca), .ref q0, .ref q3, .int rr])), (q1, .inl (kq1, 40, .inl fmp)), (q2, .inl (kq2, 40, .inl fmk)), (q3, .inl (kq3, 4, .inl fmr)), (q0, .inl (kq0, 4, .inl fms))]) [0, 1, 2, 3, 4] rfl
    have hD9 := hD.sub (ws' := [(h0, .inr (8, [w0, w1, w2, w3, w4, w5, w6, w7, w8, w9, w10, w11, w12, w13, w14, w15, w16, w17, w18, w19, w20, w21, w22, w23, w24, w25, w26, w27, w28, .ref q1, .ref q2, .int (nI ca), .ref q0, .ref q3, .int rr])), (q1, .inl (kq1, 40, .inl fmp)), (q2, .inl (kq2, 40, .inl fmk)), (q3, .inl (kq3, 4, .inl fmr)), (q0, .inl (kq0, 4, .inl fms))]) [0, 1, 2, 3, 4] (by decide) rfl
    have hK9 := hK.sub (tys' := [(kq1, .int), (kq2, .int), (kq3, .int), (kq0, .int)]) [0, 1, 2, 3] rfl
    exact W.iret (v := (-1)) hx hb hr (fun t ht hW => ⟨⟨(-1), (), rfl, (hf_m1 (by omega)), rr, fmr, by rw [ht]; exact hP9, va_K.moved hW.alike hK9, hD9⟩, hS.F ht⟩) hS.2.2 dX9_hits_8
set_option maxHeartbeats 4000000 in
set_option maxRecDepth 100000 in
theorem m_need (l : Launch) (dC : Nat → ClassId) (dI : Nat → Nat → Nat) (sz : Nat) (h0 : Nat) (w0 : Value) (w1 : Value) (w2 : Value) (w3 : Value) (w4 : Value) (w5 : Value) (w6 : Value) (w7 : Value) (w8 : Value) (w9 : Value) (w10 : Value) (w11 : Value) (w12 : Value) (w13 : Value) (w14 : Value) (w15 : Value) (w16 : Value) (w17 : Value) (w18 : Value) (w19 : Value) (w20 : Value) (w21 : Value) (w22 : Value) (w23 : Value) (w24 : Value) (w25 : Value) (w26 : Value) (w27 : Value) (w28 : Value) (q1 : Nat) (q2 : Nat) (ca : Nat) (w32 : Value) (q3 : Nat) (rr : Int32) (kq1 : ClassId) (fmp : Nat → Int32) (kq2 : ClassId) (fmk : Nat → Int32) (kq3 : ClassId) (fmr : Nat → Int32) (n1 : Int32) (n2 : Int32) (hca : ca ≤ 40) : Met l yX9_need (wq yX9_need cX9_need 4 (some .int)) ({ frames := 2, cells := 0, slots := 0, locals := 49 }) (va_Pc [.ref h0, .int n1, .int n2] (pcW dC dI [(kq1, .int), (kq2, .int), (kq3, .int)] [(h0, .inr (8, [w0, w1, w2, w3, w4, w5, w6, w7, w8, w9, w10, w11, w12, w13, w14, w15, w16, w17, w18, w19, w20, w21, w22, w23, w24, w25, w26, w27, w28, .ref q1, .ref q2, .int (nI ca), w32, .ref q3, .int rr])), (q1, .inl (kq1, 40, .inl fmp)), (q2, .inl (kq2, 40, .inl fmk)), (q3, .inl (kq3, 4, .inl fmr))] sz)) (va_Qi (fun (r : Int32) (_ : Unit) => r = (F_need (lruH fmp fmk n1 1 ca) (lruH fmp fmk n1 2 ca) (lruH fmp fmk n1 3 ca) (lruH fmp fmk n1 4 ca) n1 n2)) (fun _ t => ∃ (rr2 : Int32) (fmr2 : Nat → Int32), va_P (dC, dI) vwCl [(h0, .inr (8, [w0, w1, w2, w3, w4, w5, w6, w7, w8, w9, w10, w11, w12, w13, w14, w15, w16, w17, w18, w19, w20, w21, w22, w23, w24, w25, w26, w27, w28, .ref q1, .ref q2, .int (nI ca), w32, .ref q3, .int rr2])), (q1, .inl (kq1, 40, .inl fmp)), (q2, .inl (kq2, 40, .inl fmk)), (q3, .inl (kq3, 4, .inl fmr2))] t.heap ∧ va_K (dC, dI) vwCl [(kq1, .int), (kq2, .int), (kq3, .int)] t ∧ va_D (va_A [(h0, .inr (8, [w0, w1, w2, w3, w4, w5, w6, w7, w8, w9, w10, w11, w12, w13, w14, w15, w16, w17, w18, w19, w20, w21, w22, w23, w24, w25, w26, w27, w28, .ref q1, .ref q2, .int (nI ca), w32, .ref q3, .int rr])), (q1, .inl (kq1, 40, .inl fmp)), (q2, .inl (kq2, 40, .inl fmk)), (q3, .inl (kq3, 4, .inl fmr))] sz) [(h0, .inr (8, [w0, w1, w2, w3, w4, w5, w6, w7, w8, w9, w10, w11, w12, w13, w14, w15, w16, w17, w18, w19, w20, w21, w22, w23, w24, w25, w26, w27, w28, .ref q1, .ref q2, .int (nI ca), w32, .ref q3, .int rr2])), (q1, .inl (kq1, 40, .inl fmp)), (q2, .inl (kq2, 40, .inl fmk)), (q3, .inl (kq3, 4, .inl fmr2))]) (va_A [(h0, .inr (8, [w0, w1, w2, w3, w4, w5, w6, w7, w8, w9, w10, w11, w12, w13, w14, w15, w16, w17, w18, w19, w20, w21, w22, w23, w24, w25, w26, w27, w28, .ref q1, .ref q2, .int (nI ca), w32, .ref q3, .int rr])), (q1, .inl (kq1, 40, .inl fmp)), (q2, .inl (kq2, 40, .inl fmk)), (q3, .inl (kq3, 4, .inl fmr))] sz)) 0 0 (va_A [(h0, .inr (8, [w0, w1, w2, w3, w4, w5, w6, w7, w8, w9, w10, w11, w12, w13, w14, w15, w16, w17, w18, w19, w20, w21, w22, w23, w24, w25, w26, w27, w28, .ref q1, .ref q2, .int (nI ca), w32, .ref q3, .int rr])), (q1, .inl (kq1, 40, .inl fmp)), (q2, .inl (kq2, 40, .inl fmk)), (q3, .inl (kq3, 4, .inl fmr))] sz) := by
  refine Met.ofW (cc := cX9_need) (maxL := 4) (ret := (some .int)) (by decide) rfl ?_
  intro p e s m args below meth c s₁ B hml hv
  obtain ⟨rfl, hsz, hN, hP, hK, hD0⟩ := hv
  have hx := B.exec
  have hb := B.bytes
  have hr := B.returns
  have hts0 := atoms_spec (ws := (wq yX9_need cX9_need 4 (some .int))) B.pre
  have hts : ∀ w ∈ BG, w.before _ s = true := fun w h => hts0 w (List.mem_cons_of_mem _ h)
  have hown : s.vm.findClass RX9 = some m.cls := findClass_of_methodNamed B.named
  have hlocks := B.notSynchronized
  subst hsz
  have hD := hD0.self (sz := s.heap.size)
  generalize hAe : va_A [(h0, .inr (8, [w0, w1, w2, w3, w4, w5, w6, w7, w8, w9, w10, w11, w12, w13, w14, w15, w16, w17, w18, w19, w20, w21, w22, w23, w24, w25, w26, w27, w28, .ref q1, .ref q2, .int (nI ca), w32, .ref q3, .int rr])), (q1, .inl (kq1, 40, .inl fmp)), (q2, .inl (kq2, 40, .inl fmk)), (q3, .inl (kq3, 4, .inl fmr))] s.heap.size = A at hD ⊢
  have hA : ∀ q : Nat, s.heap.size ≤ q → A q := fun q h => by rw [← hAe]; exact Or.inr h
  have hS : va_S A s.heap s.heap [] := va_S.rf
  clear hAe hD0
  have hP : va_P (dC, dI) vwCl [(h0, .inr (8, [w0, w1, w2, w3, w4, w5, w6, w7, w8, w9, w10, w11, w12, w13, w14, w15, w16, w17, w18, w19, w20, w21, w22, w23, w24, w25, w26, w27, w28, .ref q1, .ref q2, .int (nI ca), w32, .ref q3, .int rr])), (q1, .inl (kq1, 40, .inl fmp)), (q2, .inl (kq2, 40, .inl fmk)), (q3, .inl (kq3, 4, .inl fmr))] s.heap := hP
  have hl := lv_entry ([.ref h0, .int n1, .int n2]) (n := 4) (Nat.le_of_ble_eq_true rfl)
  rw [lg_entry_eq]
  generalize (lg_sl ([.ref h0, .int n1, .int n2]) ++ List.replicate (4 - (lg_sl ([.ref h0, .int n1, .int n2])).length) Slot.unset).toArray = ls at hl ⊢
  have hl : lv_has ls 4 [(0, .ref h0), (1, .int n1), (2, .int n2)] := hl
  refine lv_iload_n hx hb dX9_need_0 rfl (lv_at hl 1 rfl) ?_
  have hPc := hP.sub (ws' := []) [] rfl
  have hDc := hD.sub (ws' := []) [] (by decide) rfl
  have hKc := hK.sub (tys' := []) [] rfl
  refine va_calli (va_runS (As := [.int n1]) (rest := []) ⟨hx, hb, hml, hown, hts⟩ (m_isPlace l dC dI s.heap.size n1 ) (va_cwS 1 hts (gS mw_5_7 mw_5_8 mw_1_9 mw_5_9) rfl rfl rfl (by decide +kernel) ⟨Nat.le_of_ble_eq_true rfl, Nat.le_of_ble_eq_true rfl⟩) ⟨pcW_blind, pcW_at hPc hKc hDc hN⟩ rfl rfl hl.1 rfl (lv_room (Nat.le_of_ble_eq_true rfl)) dX9_need_1 ⟨Nat.le_of_ble_eq_true rfl, Nat.le_of_ble_eq_true rfl⟩) hS (fun q h1 h2 => absurd h2 (Nat.not_le.mpr h1)) (fun q h => hA q (Nat.le_trans hS.1 h)) (fun r_1 u t H1 locs ht hvm hw_1 hB hz1 hk1 hS => ?_)
  have hP := keepP hP hk1
  clear hz1 hk1 hB ht hvm hPc hDc hKc
  generalize H1 = H at hP hS ⊢
  rcases fx_bool hw_1 with ⟨rfl, b_2⟩ | ⟨rfl, b_2⟩
  · skip
    refine lv_if_ne (tgt := 9) hx hb dX9_need_4 (by decide) (fun _ => ?_) (fun h => absurd h (by decide))
    refine lv_iload_n hx hb dX9_need_9 rfl (lv_at hl 2 rfl) ?_
    refine lv_i2l hx hb dX9_need_10 rfl ?_
    refine lv_lconst (v := Int32.toInt64 0) hx hb dX9_need_11 (by decide) ?_
    refine lv_ldc2 (v := Int32.toInt64 40) hx hb hown (show (Cond.constantLong RX9 254 (Int32.toInt64 40)).before _ s = true from (hts _ mw_5_53)) dX9_need_12 ?_
    have hPc := hP.sub (ws' := []) [] rfl
    have hDc := hD.sub (ws' := []) [] (by decide) rfl
    have hKc := hK.sub (tys' := []) [] rfl
    refine va_calli (va_runS (As := [.long (Int32.toInt64 n2), .long (Int32.toInt64 0), .long (Int32.toInt64 40)]) (rest := []) ⟨hx, hb, hml, hown, hts⟩ (m_in l dC dI H.size n2 0 40 0 40 (by decide) (by decide)) (va_cwS 3 hts (gS mw_4_57 mw_4_58 mw_1_9 mw_4_59) rfl rfl rfl (by decide +kernel) ⟨Nat.le_of_ble_eq_true rfl, Nat.le_of_ble_eq_true rfl⟩) ⟨pcW_blind, pcW_at hPc hKc hDc hN⟩ rfl rfl hl.1 rfl (lv_room (Nat.le_of_ble_eq_true rfl)) dX9_need_15 ⟨Nat.le_of_ble_eq_true rfl, Nat.le_of_ble_eq_true rfl⟩) hS (fun q h1 h2 => absurd h2 (Nat.not_le.mpr h1)) (fun q h => hA q (Nat.le_trans hS.1 h)) (fun r_3 u t H1 locs ht hvm hw_3 hB hz1 hk1 hS => ?_)
    have hP := keepP hP hk1
    clear hz1 hk1 hB ht hvm hPc hDc hKc
    generalize H1 = H at hP hS ⊢
    rcases fx_bool hw_3 with ⟨rfl, b_4⟩ | ⟨rfl, b_4⟩
    · skip
      refine lv_if_ne (tgt := 24) hx hb dX9_need_18 (by decide) (fun _ => ?_) (fun h => absurd h (by decide))
      refine lv_iconst (v := 1) hx hb dX9_need_24 (by decide) ?_
      refine lv_istore_n (lv' := [(3, .int 1), (0, .ref h0), (1, .int n1), (2, .int n2)]) hx hb dX9_need_25 rfl hl (by decide) rfl (fun ls hl => ?_)
      refine lv_iload_n hx hb dX9_need_26 rfl (lv_at hl 0 rfl) ?_
      refine lv_iconst (v := 4) hx hb dX9_need_27 (by decide) ?_
      refine lv_icmp_gt (tgt := 50) hx hb dX9_need_28 (by decide) (fun h => absurd h (by decide)) (fun _ => ?_)
      refine lv_aload_n hx hb dX9_need_31 rfl (lv_at hl 1 rfl) ?_
      refine lv_iload_n hx hb dX9_need_32 rfl (lv_at hl 2 rfl) ?_
      refine lv_iload_n hx hb dX9_need_33 rfl (lv_at hl 0 rfl) ?_
      refine lv_iconst (v := 0) hx hb dX9_need_34 (by decide) ?_
      have hPc := hP.sub (ws' := [(h0, .inr (8, [w0, w1, w2, w3, w4, w5, w6, w7, w8, w9, w10, w11, w12, w13, w14, w15, w16, w17, w18, w19, w20, w21, w22, w23, w24, w25, w26, w27, w28, .ref q1, .ref q2, .int (nI ca), w32, .ref q3, .int rr])), (q1, .inl (kq1, 40, .inl fmp)), (q2, .inl (kq2, 40, .inl fmk)), (q3, .inl (kq3, 4, .inl fmr))]) [0, 1, 2, 3] rfl
      have hDc := hD.sub (ws' := [(h0, .inr (8, [w0, w1, w2, w3, w4, w5, w6, w7, w8, w9, w10, w11, w12, w13, w14, w15, w16, w17, w18, w19, w20, w21, w22, w23, w24, w25, w26, w27, w28, .ref q1, .ref q2, .int (nI ca), w32, .ref q3, .int rr])), (q1, .inl (kq1, 40, .inl fmp)), (q2, .inl (kq2, 40, .inl fmk)), (q3, .inl (kq3, 4, .inl fmr))]) [0, 1, 2, 3] (by decide) rfl
      have hKc := hK.sub (tys' := [(kq1, .int), (kq2, .int), (kq3, .int)]) [0, 1, 2] rfl
      have hFc := va_free (wc := [(h0, .inr (8, [w0, w1, w2, w3, w4, w5, w6, w7, w8, w9, w10, w11, w12, w13, w14, w15, w16, w17, w18, w19, w20, w21, w22, w23, w24, w25, w26, w27, w28, .ref q1, .ref q2, .int (nI ca), w32, .ref q3, .int rr])), (q1, .inl (kq1, 40, .inl fmp)), (q2, .inl (kq2, 40, .inl fmk)), (q3, .inl (kq3, 4, .inl fmr))]) hD hS hA [0, 1, 2, 3] rfl
      refine va_calli (va_runV (As := [.int n1, .int 1, .int 0]) (rest := []) ⟨hx, hb, hml, hown, hts⟩ (m_hitsBy l dC dI H.size h0 (w0) (w1) (w2) (w3) (w4) (w5) (w6) (w7) (w8) (w9) (w10) (w11) (w12) (w13) (w14) (w15) (w16) (w17) (w18) (w19) (w20) (w21) (w22) (w23) (w24) (w25) (w26) (w27) (w28) q1 q2 ca (w32) q3 rr kq1 fmp kq2 fmk kq3 fmr n1 1 hca (by omega) (by omega)) (cwV 3 hts (gV mw_5_23 mw_5_25 mw_0_37 mw_1_9 mw_5_26) rfl rfl rfl (by decide +kernel) ⟨Nat.le_of_ble_eq_true rfl, Nat.le_of_ble_eq_true rfl⟩) ⟨pcW_blind, va_recv hKc hPc (ci := 8) (q0 := 0) rfl rfl, pcW_at hPc hKc hDc hN⟩ rfl rfl hl.1 rfl (lv_room (Nat.le_of_ble_eq_true rfl)) dX9_need_35 ⟨Nat.le_of_ble_eq_true rfl, Nat.le_of_ble_eq_true rfl⟩) hS (fun q _ h => hFc q h) hFc (fun r_5 u t H1 locs ht hvm hw_5 hB hz1 hk1 hS => ?_)
      obtain ⟨q_6, f_7, p_8, p_9, hP1, hK1, hD1⟩ := hB
      rw [ht] at hP1
      have hK1 := va_K.moved hvm.symm hK1
      obtain ⟨hP, hD⟩ := va_join (wr := []) (w1 := [(h0, .inr (8, [w0, w1, w2, w3, w4, w5, w6, w7, w8, w9, w10, w11, w12, w13, w14, w15, w16, w17, w18, w19, w20, w21, w22, w23, w24, w25, w26, w27, w28, .ref q1, .ref q2, .int (nI ca), w32, .ref q3, .int (nI q_6)])), (q1, .inl (kq1, 40, .inl fmp)), (q2, .inl (kq2, 40, .inl fmk)), (q3, .inl (kq3, 4, .inl f_7))]) hP hD [0, 1, 2, 3] [] rfl rfl (by decide) (by decide) hk1 hFc hP1 hD1
      have hK := (hK.sub (tys' := []) [] rfl).app hK1
      clear hz1 hk1 hPc hDc hKc hFc
      generalize H1 = H at hP hS ⊢
      have hK : va_K (dC, dI) vwCl [(kq1, .int), (kq2, .int), (kq3, .int)] s := hK
      have hP : va_P (dC, dI) vwCl [(h0, .inr (8, [w0, w1, w2, w3, w4, w5, w6, w7, w8, w9, w10, w11, w12, w13, w14, w15, w16, w17, w18, w19, w20, w21, w22, w23, w24, w25, w26, w27, w28, .ref q1, .ref q2, .int (nI ca), w32, .ref q3, .int (nI q_6)])), (q1, .inl (kq1, 40, .inl fmp)), (q2, .inl (kq2, 40, .inl fmk)), (q3, .inl (kq3, 4, .inl f_7))] H := hP
      have hD : va_D A [(h0, .inr (8, [w0, w1, w2, w3, w4, w5, w6, w7, w8, w9, w10, w11, w12, w13, w14, w15, w16, w17, w18, w19, w20, w21, w22, w23, w24, w25, w26, w27, w28, .ref q1, .ref q2, .int (nI ca), w32, .ref q3, .int (nI q_6)])), (q1, .inl (kq1, 40, .inl fmp)), (q2, .inl (kq2, 40, .inl fmk)), (q3, .inl (kq3, 4, .inl f_7))] := hD
      obtain rfl : r_5 = nI (lruH fmp fmk n1 1 ca) := hw_5
      have b_10 := (lruH_le (by omega) : lruH fmp fmk n1 1 ca ≤ ca)
      refine lv_iload_n hx hb dX9_need_38 rfl (lv_at hl 3 rfl) ?_
      refine lv_icmp_lt (tgt := 44) hx hb dX9_need_39 (by decide) (fun c_11 => ?_) (fun c_11 => ?_)
      · have b_12 := gx_lt (X := ((lruH fmp fmk n1 1 ca : Nat) : Int)) (C := (Int32.toInt n2)) (nI_toInt (by omega)) rfl c_11
        refine lv_iinc (v := 2) (lv' := [(3, .int 2), (0, .ref h0), (1, .int n1), (2, .int n2)]) hx hb dX9_need_44 hl (k := 0) rfl (by decide) (by decide) rfl (fun ls hl => ?_)
        refine lv_goto (tgt := 26) hx hb dX9_need_47 (by decide) ?_
        refine lv_iload_n hx hb dX9_need_26 rfl (lv_at hl 0 rfl) ?_
        refine lv_iconst (v := 4) hx hb dX9_need_27 (by decide) ?_
        refine lv_icmp_gt (tgt := 50) hx hb dX9_need_28 (by decide) (fun h => absurd h (by decide)) (fun _ => ?_)
        refine lv_aload_n hx hb dX9_need_31 rfl (lv_at hl 1 rfl) ?_
        refine lv_iload_n hx hb dX9_need_32 rfl (lv_at hl 2 rfl) ?_
        refine lv_iload_n hx hb dX9_need_33 rfl (lv_at hl 0 rfl) ?_
        refine lv_iconst (v := 0) hx hb dX9_need_34 (by decide) ?_
        have hPc := hP.sub (ws' := [(h0, .inr (8, [w0, w1, w2, w3, w4, w5, w6, w7, w8, w9, w10, w11, w12, w13, w14, w15, w16, w17, w18, w19, w20, w21, w22, w23, w24, w25, w26, w27, w28, .ref q1, .ref q2, .int (nI ca), w32, .ref q3, .int (nI q_6)])), (q1, .inl (kq1, 40, .inl fmp)), (q2, .inl (kq2, 40, .inl fmk)), (q3, .inl (kq3, 4, .inl f_7))]) [0, 1, 2, 3] rfl
        have hDc := hD.sub (ws' := [(h0, .inr (8, [w0, w1, w2, w3, w4, w5, w6, w7, w8, w9, w10, w11, w12, w13, w14, w15, w16, w17, w18, w19, w20, w21, w22, w23, w24, w25, w26, w27, w28, .ref q1, .ref q2, .int (nI ca), w32, .ref q3, .int (nI q_6)])), (q1, .inl (kq1, 40, .inl fmp)), (q2, .inl (kq2, 40, .inl fmk)), (q3, .inl (kq3, 4, .inl f_7))]) [0, 1, 2, 3] (by decide) rfl
        have hKc := hK.sub (tys' := [(kq1, .int), (kq2, .int), (kq3, .int)]) [0, 1, 2] rfl
        have hFc := va_free (wc := [(h0, .inr (8, [w0, w1, w2, w3, w4, w5, w6, w7, w8, w9, w10, w11, w12, w13, w14, w15, w16, w17, w18, w19, w20, w21, w22, w23, w24, w25, w26, w27, w28, .ref q1, .ref q2, .int (nI ca), w32, .ref q3, .int (nI q_6)])), (q1, .inl (kq1, 40, .inl fmp)), (q2, .inl (kq2, 40, .inl fmk)), (q3, .inl (kq3, 4, .inl f_7))]) hD hS hA [0, 1, 2, 3] rfl
        refine va_calli (va_runV (As := [.int n1, .int 2, .int 0]) (rest := []) ⟨hx, hb, hml, hown, hts⟩ (m_hitsBy l dC dI H.size h0 (w0) (w1) (w2) (w3) (w4) (w5) (w6) (w7) (w8) (w9) (w10) (w11) (w12) (w13) (w14) (w15) (w16) (w17) (w18) (w19) (w20) (w21) (w22) (w23) (w24) (w25) (w26) (w27) (w28) q1 q2 ca (w32) q3 (nI q_6) kq1 fmp kq2 fmk kq3 f_7 n1 2 hca (by omega) (by omega)) (cwV 3 hts (gV mw_5_23 mw_5_25 mw_0_37 mw_1_9 mw_5_26) rfl rfl rfl (by decide +kernel) ⟨Nat.le_of_ble_eq_true rfl, Nat.le_of_ble_eq_true rfl⟩) ⟨pcW_blind, va_recv hKc hPc (ci := 8) (q0 := 0) rfl rfl, pcW_at hPc hKc hDc hN⟩ rfl rfl hl.1 rfl (lv_room (Nat.le_of_ble_eq_true rfl)) dX9_need_35 ⟨Nat.le_of_ble_eq_true rfl, Nat.le_of_ble_eq_true rfl⟩) hS (fun q _ h => hFc q h) hFc (fun r_13 u t H1 locs ht hvm hw_13 hB hz1 hk1 hS => ?_)
        obtain ⟨q_14, f_15, p_16, p_17, hP1, hK1, hD1⟩ := hB
        rw [ht] at hP1
        have hK1 := va_K.moved hvm.symm hK1
        obtain ⟨hP, hD⟩ := va_join (wr := []) (w1 := [(h0, .inr (8, [w0, w1, w2, w3, w4, w5, w6, w7, w8, w9, w10, w11, w12, w13, w14, w15, w16, w17, w18, w19, w20, w21, w22, w23, w24, w25, w26, w27, w28, .ref q1, .ref q2, .int (nI ca), w32, .ref q3, .int (nI q_14)])), (q1, .inl (kq1, 40, .inl fmp)), (q2, .inl (kq2, 40, .inl fmk)), (q3, .inl (kq3, 4, .inl f_15))]) hP hD [0, 1, 2, 3] [] rfl rfl (by decide) (by decide) hk1 hFc hP1 hD1
        have hK := (hK.sub (tys' := []) [] rfl).app hK1
        clear hz1 hk1 hPc hDc hKc hFc
        generalize H1 = H at hP hS ⊢
        have hK : va_K (dC, dI) vwCl [(kq1, .int), (kq2, .int), (kq3, .int)] s := hK
        have hP : va_P (dC, dI) vwCl [(h0, .inr (8, [w0, w1, w2, w3, w4, w5, w6, w7, w8, w9, w10, w11, w12, w13, w14, w15, w16, w17, w18, w19, w20, w21, w22, w23, w24, w25, w26, w27, w28, .ref q1, .ref q2, .int (nI ca), w32, .ref q3, .int (nI q_14)])), (q1, .inl (kq1, 40, .inl fmp)), (q2, .inl (kq2, 40, .inl fmk)), (q3, .inl (kq3, 4, .inl f_15))] H := hP
        have hD : va_D A [(h0, .inr (8, [w0, w1, w2, w3, w4, w5, w6, w7, w8, w9, w10, w11, w12, w13, w14, w15, w16, w17, w18, w19, w20, w21, w22, w23, w24, w25, w26, w27, w28, .ref q1, .ref q2, .int (nI ca), w32, .ref q3, .int (nI q_14)])), (q1, .inl (kq1, 40, .inl fmp)), (q2, .inl (kq2, 40, .inl fmk)), (q3, .inl (kq3, 4, .inl f_15))] := hD
        obtain rfl : r_13 = nI (lruH fmp fmk n1 2 ca) := hw_13
        have b_18 := (lruH_le (by omega) : lruH fmp fmk n1 2 ca ≤ ca)
        refine lv_iload_n hx hb dX9_need_38 rfl (lv_at hl 3 rfl) ?_
        refine lv_icmp_lt (tgt := 44) hx hb dX9_need_39 (by decide) (fun c_19 => ?_) (fun c_19 => ?_)
        · have b_20 := gx_lt (X := ((lruH fmp fmk n1 2 ca : Nat) : Int)) (C := (Int32.toInt n2)) (nI_toInt (by omega)) rfl c_19
          refine lv_iinc (v := 3) (lv' := [(3, .int 3), (0, .ref h0), (1, .int n1), (2, .int n2)]) hx hb dX9_need_44 hl (k := 0) rfl (by decide) (by decide) rfl (fun ls hl => ?_)
          refine lv_goto (tgt := 26) hx hb dX9_need_47 (by decide) ?_
          refine lv_iload_n hx hb dX9_need_26 rfl (lv_at hl 0 rfl) ?_
          refine lv_iconst (v := 4) hx hb dX9_need_27 (by decide) ?_
          refine lv_icmp_gt (tgt := 50) hx hb dX9_need_28 (by decide) (fun h => absurd h (by decide)) (fun _ => ?_)
          refine lv_aload_n hx hb dX9_need_31 rfl (lv_at hl 1 rfl) ?_
          refine lv_iload_n hx hb dX9_need_32 rfl (lv_at hl 2 rfl) ?_
          refine lv_iload_n hx hb dX9_need_33 rfl (lv_at hl 0 rfl) ?_
          refine lv_iconst (v := 0) hx hb dX9_need_34 (by decide) ?_
          have hPc := hP.sub (ws' := [(h0, .inr (8, [w0, w1, w2, w3, w4, w5, w6, w7, w8, w9, w10, w11, w12, w13, w14, w15, w16, w17, w18, w19, w20, w21, w22, w23, w24, w25, w26, w27, w28, .ref q1, .ref q2, .int (nI ca), w32, .ref q3, .int (nI q_14)])), (q1, .inl (kq1, 40, .inl fmp)), (q2, .inl (kq2, 40, .inl fmk)), (q3, .inl (kq3, 4, .inl f_15))]) [0, 1, 2, 3] rfl
          have hDc := hD.sub (ws' := [(h0, .inr (8, [w0, w1, w2, w3, w4, w5, w6, w7, w8, w9, w10, w11, w12, w13, w14, w15, w16, w17, w18, w19, w20, w21, w22, w23, w24, w25, w26, w27, w28, .ref q1, .ref q2, .int (nI ca), w32, .ref q3, .int (nI q_14)])), (q1, .inl (kq1, 40, .inl fmp)), (q2, .inl (kq2, 40, .inl fmk)), (q3, .inl (kq3, 4, .inl f_15))]) [0, 1, 2, 3] (by decide) rfl
          have hKc := hK.sub (tys' := [(kq1, .int), (kq2, .int), (kq3, .int)]) [0, 1, 2] rfl
          have hFc := va_free (wc := [(h0, .inr (8, [w0, w1, w2, w3, w4, w5, w6, w7, w8, w9, w10, w11, w12, w13, w14, w15, w16, w17, w18, w19, w20, w21, w22, w23, w24, w25, w26, w27, w28, .ref q1, .ref q2, .int (nI ca), w32, .ref q3, .int (nI q_14)])), (q1, .inl (kq1, 40, .inl fmp)), (q2, .inl (kq2, 40, .inl fmk)), (q3, .inl (kq3, 4, .inl f_15))]) hD hS hA [0, 1, 2, 3] rfl
          refine va_calli (va_runV (As := [.int n1, .int 3, .int 0]) (rest := []) ⟨hx, hb, hml, hown, hts⟩ (m_hitsBy l dC dI H.size h0 (w0) (w1) (w2) (w3) (w4) (w5) (w6) (w7) (w8) (w9) (w10) (w11) (w12) (w13) (w14) (w15) (w16) (w17) (w18) (w19) (w20) (w21) (w22) (w23) (w24) (w25) (w26) (w27) (w28) q1 q2 ca (w32) q3 (nI q_14) kq1 fmp kq2 fmk kq3 f_15 n1 3 hca (by omega) (by omega)) (cwV 3 hts (gV mw_5_23 mw_5_25 mw_0_37 mw_1_9 mw_5_26) rfl rfl rfl (by decide +kernel) ⟨Nat.le_of_ble_eq_true rfl, Nat.le_of_ble_eq_true rfl⟩) ⟨pcW_blind, va_recv hKc hPc (ci := 8) (q0 := 0) rfl rfl, pcW_at hPc hKc hDc hN⟩ rfl rfl hl.1 rfl (lv_room (Nat.le_of_ble_eq_true rfl)) dX9_need_35 ⟨Nat.le_of_ble_eq_true rfl, Nat.le_of_ble_eq_true rfl⟩) hS (fun q _ h => hFc q h) hFc (fun r_21 u t H1 locs ht hvm hw_21 hB hz1 hk1 hS => ?_)
          obtain ⟨q_22, f_23, p_24, p_25, hP1, hK1, hD1⟩ := hB
          rw [ht] at hP1
          have hK1 := va_K.moved hvm.symm hK1
          obtain ⟨hP, hD⟩ := va_join (wr := []) (w1 := [(h0, .inr (8, [w0, w1, w2, w3, w4, w5, w6, w7, w8, w9, w10, w11, w12, w13, w14, w15, w16, w17, w18, w19, w20, w21, w22, w23, w24, w25, w26, w27, w28, .ref q1, .ref q2, .int (nI ca), w32, .ref q3, .int (nI q_22)])), (q1, .inl (kq1, 40, .inl fmp)), (q2, .inl (kq2, 40, .inl fmk)), (q3, .inl (kq3, 4, .inl f_23))]) hP hD [0, 1, 2, 3] [] rfl rfl (by decide) (by decide) hk1 hFc hP1 hD1
          have hK := (hK.sub (tys' := []) [] rfl).app hK1
          clear hz1 hk1 hPc hDc hKc hFc
          generalize H1 = H at hP hS ⊢
          have hK : va_K (dC, dI) vwCl [(kq1, .int), (kq2, .int), (kq3, .int)] s := hK
          have hP : va_P (dC, dI) vwCl [(h0, .inr (8, [w0, w1, w2, w3, w4, w5, w6, w7, w8, w9, w10, w11, w12, w13, w14, w15, w16, w17, w18, w19, w20, w21, w22, w23, w24, w25, w26, w27, w28, .ref q1, .ref q2, .int (nI ca), w32, .ref q3, .int (nI q_22)])), (q1, .inl (kq1, 40, .inl fmp)), (q2, .inl (kq2, 40, .inl fmk)), (q3, .inl (kq3, 4, .inl f_23))] H := hP
          have hD : va_D A [(h0, .inr (8, [w0, w1, w2, w3, w4, w5, w6, w7, w8, w9, w10, w11, w12, w13, w14, w15, w16, w17, w18, w19, w20, w21, w22, w23, w24, w25, w26, w27, w28, .ref q1, .ref q2, .int (nI ca), w32, .ref q3, .int (nI q_22)])), (q1, .inl (kq1, 40, .inl fmp)), (q2, .inl (kq2, 40, .inl fmk)), (q3, .inl (kq3, 4, .inl f_23))] := hD
          obtain rfl : r_21 = nI (lruH fmp fmk n1 3 ca) := hw_21
          have b_26 := (lruH_le (by omega) : lruH fmp fmk n1 3 ca ≤ ca)
          refine lv_iload_n hx hb dX9_need_38 rfl (lv_at hl 3 rfl) ?_
          refine lv_icmp_lt (tgt := 44) hx hb dX9_need_39 (by decide) (fun c_27 => ?_) (fun c_27 => ?_)
          · have b_28 := gx_lt (X := ((lruH fmp fmk n1 3 ca : Nat) : Int)) (C := (Int32.toInt n2)) (nI_toInt (by omega)) rfl c_27
            refine lv_iinc (v := 4) (lv' := [(3, .int 4), (0, .ref h0), (1, .int n1), (2, .int n2)]) hx hb dX9_need_44 hl (k := 0) rfl (by decide) (by decide) rfl (fun ls hl => ?_)
            refine lv_goto (tgt := 26) hx hb dX9_need_47 (by decide) ?_
            refine lv_iload_n hx hb dX9_need_26 rfl (lv_at hl 0 rfl) ?_
            refine lv_iconst (v := 4) hx hb dX9_need_27 (by decide) ?_
            refine lv_icmp_gt (tgt := 50) hx hb dX9_need_28 (by decide) (fun h => absurd h (by decide)) (fun _ => ?_)
            refine lv_aload_n hx hb dX9_need_31 rfl (lv_at hl 1 rfl) ?_
            refine lv_iload_n hx hb dX9_need_32 rfl (lv_at hl 2 rfl) ?_
            refine lv_iload_n hx hb dX9_need_33 rfl (lv_at hl 0 rfl) ?_
            refine lv_iconst (v := 0) hx hb dX9_need_34 (by decide) ?_
            have hPc := hP.sub (ws' := [(h0, .inr (8, [w0, w1, w2, w3, w4, w5, w6, w7, w8, w9, w10, w11, w12, w13, w14, w15, w16, w17, w18, w19, w20, w21, w22, w23, w24, w25, w26, w27, w28, .ref q1, .ref q2, .int (nI ca), w32, .ref q3, .int (nI q_22)])), (q1, .inl (kq1, 40, .inl fmp)), (q2, .inl (kq2, 40, .inl fmk)), (q3, .inl (kq3, 4, .inl f_23))]) [0, 1, 2, 3] rfl
            have hDc := hD.sub (ws' := [(h0, .inr (8, [w0, w1, w2, w3, w4, w5, w6, w7, w8, w9, w10, w11, w12, w13, w14, w15, w16, w17, w18, w19, w20, w21, w22, w23, w24, w25, w26, w27, w28, .ref q1, .ref q2, .int (nI ca), w32, .ref q3, .int (nI q_22)])), (q1, .inl (kq1, 40, .inl fmp)), (q2, .inl (kq2, 40, .inl fmk)), (q3, .inl (kq3, 4, .inl f_23))]) [0, 1, 2, 3] (by decide) rfl
            have hKc := hK.sub (tys' := [(kq1, .int), (kq2, .int), (kq3, .int)]) [0, 1, 2] rfl
            have hFc := va_free (wc := [(h0, .inr (8, [w0, w1, w2, w3, w4, w5, w6, w7, w8, w9, w10, w11, w12, w13, w14, w15, w16, w17, w18, w19, w20, w21, w22, w23, w24, w25, w26, w27, w28, .ref q1, .ref q2, .int (nI ca), w32, .ref q3, .int (nI q_22)])), (q1, .inl (kq1, 40, .inl fmp)), (q2, .inl (kq2, 40, .inl fmk)), (q3, .inl (kq3, 4, .inl f_23))]) hD hS hA [0, 1, 2, 3] rfl
            refine va_calli (va_runV (As := [.int n1, .int 4, .int 0]) (rest := []) ⟨hx, hb, hml, hown, hts⟩ (m_hitsBy l dC dI H.size h0 (w0) (w1) (w2) (w3) (w4) (w5) (w6) (w7) (w8) (w9) (w10) (w11) (w12) (w13) (w14) (w15) (w16) (w17) (w18) (w19) (w20) (w21) (w22) (w23) (w24) (w25) (w26) (w27) (w28) q1 q2 ca (w32) q3 (nI q_22) kq1 fmp kq2 fmk kq3 f_23 n1 4 hca (by omega) (by omega)) (cwV 3 hts (gV mw_5_23 mw_5_25 mw_0_37 mw_1_9 mw_5_26) rfl rfl rfl (by decide +kernel) ⟨Nat.le_of_ble_eq_true rfl, Nat.le_of_ble_eq_true rfl⟩) ⟨pcW_blind, va_recv hKc hPc (ci := 8) (q0 := 0) rfl rfl, pcW_at hPc hKc hDc hN⟩ rfl rfl hl.1 rfl (lv_room (Nat.le_of_ble_eq_true rfl)) dX9_need_35 ⟨Nat.le_of_ble_eq_true rfl, Nat.le_of_ble_eq_true rfl⟩) hS (fun q _ h => hFc q h) hFc (fun r_29 u t H1 locs ht hvm hw_29 hB hz1 hk1 hS => ?_)
            obtain ⟨q_30, f_31, p_32, p_33, hP1, hK1, hD1⟩ := hB
            rw [ht] at hP1
            have hK1 := va_K.moved hvm.symm hK1
            obtain ⟨hP, hD⟩ := va_join (wr := []) (w1 := [(h0, .inr (8, [w0, w1, w2, w3, w4, w5, w6, w7, w8, w9, w10, w11, w12, w13, w14, w15, w16, w17, w18, w19, w20, w21, w22, w23, w24, w25, w26, w27, w28, .ref q1, .ref q2, .int (nI ca), w32, .ref q3, .int (nI q_30)])), (q1, .inl (kq1, 40, .inl fmp)), (q2, .inl (kq2, 40, .inl fmk)), (q3, .inl (kq3, 4, .inl f_31))]) hP hD [0, 1, 2, 3] [] rfl rfl (by decide) (by decide) hk1 hFc hP1 hD1
            have hK := (hK.sub (tys' := []) [] rfl).app hK1
            clear hz1 hk1 hPc hDc hKc hFc
            generalize H1 = H at hP hS ⊢
            have hK : va_K (dC, dI) vwCl [(kq1, .int), (kq2, .int), (kq3, .int)] s := hK
            have hP : va_P (dC, dI) vwCl [(h0, .inr (8, [w0, w1, w2, w3, w4, w5, w6, w7, w8, w9, w10, w11, w12, w13, w14, w15, w16, w17, w18, w19, w20, w21, w22, w23, w24, w25, w26, w27, w28, .ref q1, .ref q2, .int (nI ca), w32, .ref q3, .int (nI q_30)])), (q1, .inl (kq1, 40, .inl fmp)), (q2, .inl (kq2, 40, .inl fmk)), (q3, .inl (kq3, 4, .inl f_31))] H := hP
            have hD : va_D A [(h0, .inr (8, [w0, w1, w2, w3, w4, w5, w6, w7, w8, w9, w10, w11, w12, w13, w14, w15, w16, w17, w18, w19, w20, w21, w22, w23, w24, w25, w26, w27, w28, .ref q1, .ref q2, .int (nI ca), w32, .ref q3, .int (nI q_30)])), (q1, .inl (kq1, 40, .inl fmp)), (q2, .inl (kq2, 40, .inl fmk)), (q3, .inl (kq3, 4, .inl f_31))] := hD
            obtain rfl : r_29 = nI (lruH fmp fmk n1 4 ca) := hw_29
            have b_34 := (lruH_le (by omega) : lruH fmp fmk n1 4 ca ≤ ca)
            refine lv_iload_n hx hb dX9_need_38 rfl (lv_at hl 3 rfl) ?_
            refine lv_icmp_lt (tgt := 44) hx hb dX9_need_39 (by decide) (fun c_35 => ?_) (fun c_35 => ?_)
            · have b_36 := gx_lt (X := ((lruH fmp fmk n1 4 ca : Nat) : Int)) (C := (Int32.toInt n2)) (nI_toInt (by omega)) rfl c_35
              refine lv_iinc (v := 5) (lv' := [(3, .int 5), (0, .ref h0), (1, .int n1), (2, .int n2)]) hx hb dX9_need_44 hl (k := 0) rfl (by decide) (by decide) rfl (fun ls hl => ?_)
              refine lv_goto (tgt := 26) hx hb dX9_need_47 (by decide) ?_
              refine lv_iload_n hx hb dX9_need_26 rfl (lv_at hl 0 rfl) ?_
              refine lv_iconst (v := 4) hx hb dX9_need_27 (by decide) ?_
              refine lv_icmp_gt (tgt := 50) hx hb dX9_need_28 (by decide) (fun _ => ?_) (fun h => absurd (by decide) h)
              refine lv_bipush (v := (-6)) hx hb dX9_need_50 (by decide) ?_
              have hP9 := hP.sub (ws' := [(h0, .inr (8, [w0, w1, w2, w3, w4, w5, w6, w7, w8, w9, w10, w11, w12, w13, w14, w15, w16, w17, w18, w19, w20, w21, w22, w23, w24, w25, w26, w27, w28, .ref q1, .ref q2, .int (nI ca), w32, .ref q3, .int (nI q_30)])), (q1, .inl (kq1, 40, .inl fmp)), (q2, .inl (kq2, 40, .inl fmk)), (q3, .inl (kq3, 4, .inl f_31))]) [0, 1, 2, 3] rfl
              have hD9 := hD.sub (ws' := [(h0, .inr (8, [w0, w1, w2, w3, w4, w5, w6, w7, w8, w9, w10, w11, w12, w13, w14, w15, w16, w17, w18, w19, w20, w21, w22, w23, w24, w25, w26, w27, w28, .ref q1, .ref q2, .int (nI ca), w32, .ref q3, .int (nI q_30)])), (q1, .inl (kq1, 40, .inl fmp)), (q2, .inl (kq2, 40, .inl fmk)), (q3, .inl (kq3, 4, .inl f_31))]) [0, 1, 2, 3] (by decide) rfl
              have hK9 := hK.sub (tys' := [(kq1, .int), (kq2, .int), (kq3, .int)]) [0, 1, 2] rfl
              exact W.iret (v := (-6)) hx hb hr (fun t ht hW => ⟨⟨(-6), (), rfl, (by unfold F_need; rw [if_pos (by omega), if_neg (by omega), if_neg (by omega), if_neg (by omega), if_neg (by omega), if_neg (by omega)]), (nI q_30), f_31, by rw [ht]; exact hP9, va_K.moved hW.alike hK9, hD9⟩, hS.F ht⟩) hS.2.2 dX9_need_52
            · have b_36 := gn_lt (X := ((lruH fmp fmk n1 4 ca : Nat) : Int)) (C := (Int32.toInt n2)) (nI_toInt (by omega)) rfl c_35
              refine lv_iload_n hx hb dX9_need_42 rfl (lv_at hl 0 rfl) ?_
              have hP9 := hP.sub (ws' := [(h0, .inr (8, [w0, w1, w2, w3, w4, w5, w6, w7, w8, w9, w10, w11, w12, w13, w14, w15, w16, w17, w18, w19, w20, w21, w22, w23, w24, w25, w26, w27, w28, .ref q1, .ref q2, .int (nI ca), w32, .ref q3, .int (nI q_30)])), (q1, .inl (kq1, 40, .inl fmp)), (q2, .inl (kq2, 40, .inl fmk)), (q3, .inl (kq3, 4, .inl f_31))]) [0, 1, 2, 3] rfl
              have hD9 := hD.sub (ws' := [(h0, .inr (8, [w0, w1, w2, w3, w4, w5, w6, w7, w8, w9, w10, w11, w12, w13, w14, w15, w16, w17, w18, w19, w20, w21, w22, w23, w24, w25, w26, w27, w28, .ref q1, .ref q2, .int (nI ca), w32, .ref q3, .int (nI q_30)])), (q1, .inl (kq1, 40, .inl fmp)), (q2, .inl (kq2, 40, .inl fmk)), (q3, .inl (kq3, 4, .inl f_31))]) [0, 1, 2, 3] (by decide) rfl
              have hK9 := hK.sub (tys' := [(kq1, .int), (kq2, .int), (kq3, .int)]) [0, 1, 2] rfl
              exact W.iret (v := 4) hx hb hr (fun t ht hW => ⟨⟨4, (), rfl, (by unfold F_need; rw [if_pos (by omega), if_neg (by omega), if_neg (by omega), if_neg (by omega), if_neg (by omega), if_pos (by omega)]), (nI q_30), f_31, by rw [ht]; exact hP9, va_K.moved hW.alike hK9, hD9⟩, hS.F ht⟩) hS.2.2 dX9_need_43
          · have b_28 := gn_lt (X := ((lruH fmp fmk n1 3 ca : Nat) : Int)) (C := (Int32.toInt n2)) (nI_toInt (by omega)) rfl c_27
            refine lv_iload_n hx hb dX9_need_42 rfl (lv_at hl 0 rfl) ?_
            have hP9 := hP.sub (ws' := [(h0, .inr (8, [w0, w1, w2, w3, w4, w5, w6, w7, w8, w9, w10, w11, w12, w13, w14, w15, w16, w17, w18, w19, w20, w21, w22, w23, w24, w25, w26, w27, w28, .ref q1, .ref q2, .int (nI ca), w32, .ref q3, .int (nI q_22)])), (q1, .inl (kq1, 40, .inl fmp)), (q2, .inl (kq2, 40, .inl fmk)), (q3, .inl (kq3, 4, .inl f_23))]) [0, 1, 2, 3] rfl
            have hD9 := hD.sub (ws' := [(h0, .inr (8, [w0, w1, w2, w3, w4, w5, w6, w7, w8, w9, w10, w11, w12, w13, w14, w15, w16, w17, w18, w19, w20, w21, w22, w23, w24, w25, w26, w27, w28, .ref q1, .ref q2, .int (nI ca), w32, .ref q3, .int (nI q_22)])), (q1, .inl (kq1, 40, .inl fmp)), (q2, .inl (kq2, 40, .inl fmk)), (q3, .inl (kq3, 4, .inl f_23))]) [0, 1, 2, 3] (by decide) rfl
            have hK9 := hK.sub (tys' := [(kq1, .int), (kq2, .int), (kq3, .int)]) [0, 1, 2] rfl
            exact W.iret (v := 3) hx hb hr (fun t ht hW => ⟨⟨3, (), rfl, (by unfold F_need; rw [if_pos (by omega), if_neg (by omega), if_neg (by omega), if_neg (by omega), if_pos (by omega)]), (nI q_22), f_23, by rw [ht]; exact hP9, va_K.moved hW.alike hK9, hD9⟩, hS.F ht⟩) hS.2.2 dX9_need_43
        · have b_20 := gn_lt (X := ((lruH fmp fmk n1 2 ca : Nat) : Int)) (C := (Int32.toInt n2)) (nI_toInt (by omega)) rfl c_19
          refine lv_iload_n hx hb dX9_need_42 rfl (lv_at hl 0 rfl) ?_
          have hP9 := hP.sub (ws' := [(h0, .inr (8, [w0, w1, w2, w3, w4, w5, w6, w7, w8, w9, w10, w11, w12, w13, w14, w15, w16, w17, w18, w19, w20, w21, w22, w23, w24, w25, w26, w27, w28, .ref q1, .ref q2, .int (nI ca), w32, .ref q3, .int (nI q_14)])), (q1, .inl (kq1, 40, .inl fmp)), (q2, .inl (kq2, 40, .inl fmk)), (q3, .inl (kq3, 4, .inl f_15))]) [0, 1, 2, 3] rfl
          have hD9 := hD.sub (ws' := [(h0, .inr (8, [w0, w1, w2, w3, w4, w5, w6, w7, w8, w9, w10, w11, w12, w13, w14, w15, w16, w17, w18, w19, w20, w21, w22, w23, w24, w25, w26, w27, w28, .ref q1, .ref q2, .int (nI ca), w32, .ref q3, .int (nI q_14)])), (q1, .inl (kq1, 40, .inl fmp)), (q2, .inl (kq2, 40, .inl fmk)), (q3, .inl (kq3, 4, .inl f_15))]) [0, 1, 2, 3] (by decide) rfl
          have hK9 := hK.sub (tys' := [(kq1, .int), (kq2, .int), (kq3, .int)]) [0, 1, 2] rfl
          exact W.iret (v := 2) hx hb hr (fun t ht hW => ⟨⟨2, (), rfl, (by unfold F_need; rw [if_pos (by omega), if_neg (by omega), if_neg (by omega), if_pos (by omega)]), (nI q_14), f_15, by rw [ht]; exact hP9, va_K.moved hW.alike hK9, hD9⟩, hS.F ht⟩) hS.2.2 dX9_need_43
      · have b_12 := gn_lt (X := ((lruH fmp fmk n1 1 ca : Nat) : Int)) (C := (Int32.toInt n2)) (nI_toInt (by omega)) rfl c_11
        refine lv_iload_n hx hb dX9_need_42 rfl (lv_at hl 0 rfl) ?_
        have hP9 := hP.sub (ws' := [(h0, .inr (8, [w0, w1, w2, w3, w4, w5, w6, w7, w8, w9, w10, w11, w12, w13, w14, w15, w16, w17, w18, w19, w20, w21, w22, w23, w24, w25, w26, w27, w28, .ref q1, .ref q2, .int (nI ca), w32, .ref q3, .int (nI q_6)])), (q1, .inl (kq1, 40, .inl fmp)), (q2, .inl (kq2, 40, .inl fmk)), (q3, .inl (kq3, 4, .inl f_7))]) [0, 1, 2, 3] rfl
        have hD9 := hD.sub (ws' := [(h0, .inr (8, [w0, w1, w2, w3, w4, w5, w6, w7, w8, w9, w10, w11, w12, w13, w14, w15, w16, w17, w18, w19, w20, w21, w22, w23, w24, w25, w26, w27, w28, .ref q1, .ref q2, .int (nI ca), w32, .ref q3, .int (nI q_6)])), (q1, .inl (kq1, 40, .inl fmp)), (q2, .inl (kq2, 40, .inl fmk)), (q3, .inl (kq3, 4, .inl f_7))]) [0, 1, 2, 3] (by decide) rfl
        have hK9 := hK.sub (tys' := [(kq1, .int), (kq2, .int), (kq3, .int)]) [0, 1, 2] rfl
        exact W.iret (v := 1) hx hb hr (fun t ht hW => ⟨⟨1, (), rfl, (by unfold F_need; rw [if_pos (by omega), if_neg (by omega), if_pos (by omega)]), (nI q_6), f_7, by rw [ht]; exact hP9, va_K.moved hW.alike hK9, hD9⟩, hS.F ht⟩) hS.2.2 dX9_need_43
    · skip
      refine lv_if_ne (tgt := 24) hx hb dX9_need_18 (by decide) (fun h => absurd h (by decide)) (fun _ => ?_)
      refine lv_bipush (v := (-2)) hx hb dX9_need_21 (by decide) ?_
      have hP9 := hP.sub (ws' := [(h0, .inr (8, [w0, w1, w2, w3, w4, w5, w6, w7, w8, w9, w10, w11, w12, w13, w14, w15, w16, w17, w18, w19, w20, w21, w22, w23, w24, w25, w26, w27, w28, .ref q1, .ref q2, .int (nI ca), w32, .ref q3, .int rr])), (q1, .inl (kq1, 40, .inl fmp)), (q2, .inl (kq2, 40, .inl fmk)), (q3, .inl (kq3, 4, .inl fmr))]) [0, 1, 2, 3] rfl
      have hD9 := hD.sub (ws' := [(h0, .inr (8, [w0, w1, w2, w3, w4, w5, w6, w7, w8, w9, w10, w11, w12, w13, w14, w15, w16, w17, w18, w19, w20, w21, w22, w23, w24, w25, w26, w27, w28, .ref q1, .ref q2, .int (nI ca), w32, .ref q3, .int rr])), (q1, .inl (kq1, 40, .inl fmp)), (q2, .inl (kq2, 40, .inl fmk)), (q3, .inl (kq3, 4, .inl fmr))]) [0, 1, 2, 3] (by decide) rfl
      have hK9 := hK.sub (tys' := [(kq1, .int), (kq2, .int), (kq3, .int)]) [0, 1, 2] rfl
      exact W.iret (v := (-2)) hx hb hr (fun t ht hW => ⟨⟨(-2), (), rfl, (by unfold F_need; rw [if_pos (by omega), if_pos (by omega)]), rr, fmr, by rw [ht]; exact hP9, va_K.moved hW.alike hK9, hD9⟩, hS.F ht⟩) hS.2.2 dX9_need_23
  · skip
    refine lv_if_ne (tgt := 9) hx hb dX9_need_4 (by decide) (fun h => absurd h (by decide)) (fun _ => ?_)
    refine lv_iconst (v := (-1)) hx hb dX9_need_7 (by decide) ?_
    have hP9 := hP.sub (ws' := [(h0, .inr (8, [w0, w1, w2, w3, w4, w5, w6, w7, w8, w9, w10, w11, w12, w13, w14, w15, w16, w17, w18, w19, w20, w21, w22, w23, w24, w25, w26, w27, w28, .ref q1, .ref q2, .int (nI ca), w32, .ref q3, .int rr])), (q1, .inl (kq1, 40, .inl fmp)), (q2, .inl (kq2, 40, .inl fmk)), (q3, .inl (kq3, 4, .inl fmr))]) [0, 1, 2, 3] rfl
    have hD9 := hD.sub (ws' := [(h0, .inr (8, [w0, w1, w2, w3, w4, w5, w6, w7, w8, w9, w10, w11, w12, w13, w14, w15, w16, w17, w18, w19, w20, w21, w22, w23, w24, w25, w26, w27, w28, .ref q1, .ref q2, .int (nI ca), w32, .ref q3, .int rr])), (q1, .inl (kq1, 40, .inl fmp)), (q2, .inl (kq2, 40, .inl fmk)), (q3, .inl (kq3, 4, .inl fmr))]) [0, 1, 2, 3] (by decide) rfl
    have hK9 := hK.sub (tys' := [(kq1, .int), (kq2, .int), (kq3, .int)]) [0, 1, 2] rfl
    exact W.iret (v := (-1)) hx hb hr (fun t ht hW => ⟨⟨(-1), (), rfl, (by unfold F_need; rw [if_neg (by omega)]), rr, fmr, by rw [ht]; exact hP9, va_K.moved hW.alike hK9, hD9⟩, hS.F ht⟩) hS.2.2 dX9_need_8
set_option maxHeartbeats 4000000 in
set_option maxRecDepth 100000 in
theorem m_told (l : Launch) (dC : Nat → ClassId) (dI : Nat → Nat → Nat) (sz : Nat) (h0 : Nat) (w0 : Value) (w1 : Value) (w2 : Value) (l7 : Nat) (kn : Nat) (w5 : Value) (w6 : Value) (w7 : Value) (w8 : Value) (w9 : Value) (w10 : Value) (w11 : Value) (w12 : Value) (v2 : Nat) (nm0 : Nat) (w15 : Value) (w16 : Value) (w17 : Value) (w18 : Value) (w19 : Value) (w20 : Value) (w21 : Value) (w22 : Value) (w23 : Value) (w24 : Value) (w25 : Value) (w26 : Value) (w27 : Value) (w28 : Value) (w29 : Value) (w30 : Value) (ca : Nat) (w32 : Value) (w33 : Value) (w34 : Value) (kv2 : ClassId) (fsm : Nat → Int32) (knm0 : ClassId) (fnm : Nat → Int32) (kl7 : ClassId) (fib : Nat → Int32) (n1 : Int32) (hkn : kn ≤ 10) (hsm : BdOk 81 12 fsm) : Met l yX9_told (wq yX9_told cX9_told 2 (some .int)) ({ frames := 2, cells := 0, slots := 0, locals := 46 }) (va_Pc [.ref h0, .int n1] (pcW dC dI [(kv2, .int), (knm0, .int), (kl7, .boolean)] [(h0, .inr (8, [w0, w1, w2, .ref l7, .int (nI kn), w5, w6, w7, w8, w9, w10, w11, w12, .ref v2, .ref nm0, w15, w16, w17, w18, w19, w20, w21, w22, w23, w24, w25, w26, w27, w28, w29, w30, .int (nI ca), w32, w33, w34])), (v2, .inl (kv2, 81, .inl fsm)), (nm0, .inl (knm0, 10, .inl fnm)), (l7, .inl (kl7, 10, .inl fib))] sz)) (va_Qi (fun (r : Int32) (_ : Unit) => r = (F_told (nI kn) (fsm 80) (nI ca) (fun k => if k < kn then fnm k else 0) (fun k => decide (k < kn) && decide (¬ fib k = 0)) n1)) (fun _ _ => True) (fun q : Nat => sz ≤ q)) 0 0 (fun q : Nat => sz ≤ q) := by
  refine Met.ofW (cc := cX9_told) (maxL := 2) (ret := (some .int)) (by decide) rfl ?_
  intro p e s m args below meth c s₁ B hml hv
  obtain ⟨rfl, hsz, hN, hP, hK, hD0⟩ := hv
  have hx := B.exec
  have hb := B.bytes
  have hr := B.returns
  have hts0 := atoms_spec (ws := (wq yX9_told cX9_told 2 (some .int))) B.pre
  have hts : ∀ w ∈ BG, w.before _ s = true := fun w h => hts0 w (List.mem_cons_of_mem _ h)
  have hown : s.vm.findClass RX9 = some m.cls := findClass_of_methodNamed B.named
  have hlocks := B.notSynchronized
  subst hsz
  have hA : ∀ q : Nat, s.heap.size ≤ q → (fun q : Nat => s.heap.size ≤ q) q := fun _ h => h
  have hD := hD0
  have hS : va_S (fun q : Nat => s.heap.size ≤ q) s.heap s.heap [] := va_S.rf
  have hP : va_P (dC, dI) vwCl [(h0, .inr (8, [w0, w1, w2, .ref l7, .int (nI kn), w5, w6, w7, w8, w9, w10, w11, w12, .ref v2, .ref nm0, w15, w16, w17, w18, w19, w20, w21, w22, w23, w24, w25, w26, w27, w28, w29, w30, .int (nI ca), w32, w33, w34])), (v2, .inl (kv2, 81, .inl fsm)), (nm0, .inl (knm0, 10, .inl fnm)), (l7, .inl (kl7, 10, .inl fib))] s.heap := hP
  have hl := lv_entry ([.ref h0, .int n1]) (n := 2) (Nat.le_of_ble_eq_true rfl)
  rw [lg_entry_eq]
  generalize (lg_sl ([.ref h0, .int n1]) ++ List.replicate (2 - (lg_sl ([.ref h0, .int n1])).length) Slot.unset).toArray = ls at hl ⊢
  have hl : lv_has ls 2 [(0, .ref h0), (1, .int n1)] := hl
  refine lv_iload_n hx hb dX9_told_0 rfl (lv_at hl 1 rfl) ?_
  refine lv_i2l hx hb dX9_told_1 rfl ?_
  refine lv_ldc2 (v := Int32.toInt64 10) hx hb hown (show (Cond.constantLong RX9 250 (Int32.toInt64 10)).before _ s = true from (hts _ mw_5_47)) dX9_told_2 ?_
  refine lv_ldc2 (v := Int32.toInt64 19) hx hb hown (show (Cond.constantLong RX9 256 (Int32.toInt64 19)).before _ s = true from (hts _ mw_5_58)) dX9_told_5 ?_
  have hPc := hP.sub (ws' := []) [] rfl
  have hDc := hD.sub (ws' := []) [] (by decide) rfl
  have hKc := hK.sub (tys' := []) [] rfl
  refine va_calli (va_runS (As := [.long (Int32.toInt64 n1), .long (Int32.toInt64 10), .long (Int32.toInt64 19)]) (rest := []) ⟨hx, hb, hml, hown, hts⟩ (m_in l dC dI s.heap.size n1 10 19 10 19 (by decide) (by decide)) (va_cwS 3 hts (gS mw_4_57 mw_4_58 mw_1_9 mw_4_59) rfl rfl rfl (by decide +kernel) ⟨Nat.le_of_ble_eq_true rfl, Nat.le_of_ble_eq_true rfl⟩) ⟨pcW_blind, pcW_at hPc hKc hDc hN⟩ rfl rfl hl.1 rfl (lv_room (Nat.le_of_ble_eq_true rfl)) dX9_told_8 ⟨Nat.le_of_ble_eq_true rfl, Nat.le_of_ble_eq_true rfl⟩) hS (fun q h1 h2 => absurd h2 (Nat.not_le.mpr h1)) (fun q h => hA q (Nat.le_trans hS.1 h)) (fun r_1 u t H1 locs ht hvm hw_1 hB hz1 hk1 hS => ?_)
  have hP := keepP hP hk1
  clear hz1 hk1 hB ht hvm hPc hDc hKc
  generalize H1 = H at hP hS ⊢
  rcases fx_bool hw_1 with ⟨rfl, b_2⟩ | ⟨rfl, b_2⟩
  · skip
    refine lv_if_eq (tgt := 39) hx hb dX9_told_11 (by decide) (fun h => absurd h (by decide)) (fun _ => ?_)
    refine lv_aload_n hx hb dX9_told_14 rfl (lv_at hl 0 rfl) ?_
    refine lv_iload_n hx hb dX9_told_15 rfl (lv_at hl 1 rfl) ?_
    refine lv_bipush (v := 10) hx hb dX9_told_16 (by decide) ?_
    refine lv_isub hx hb dX9_told_18 ?_
    refine lv_topi (fun z_3 ez_3 => ?_)
    have gz_3 := fx_rng n1
    have fz_3 : Int32.toInt z_3 = (Int32.toInt n1) - 10 := by rw [ez_3]; exact gx_sub (X := (Int32.toInt n1)) (C := 10) rfl (by decide) (by omega) (by omega)
    have hPc := hP.sub (ws' := [(h0, .inr (8, [w0, w1, w2, .ref l7, .int (nI kn), w5, w6, w7, w8, w9, w10, w11, w12, .ref v2, .ref nm0, w15, w16, w17, w18, w19, w20, w21, w22, w23, w24, w25, w26, w27, w28, w29, w30, .int (nI ca), w32, w33, w34]))]) [0] rfl
    have hDc := hD.sub (ws' := [(h0, .inr (8, [w0, w1, w2, .ref l7, .int (nI kn), w5, w6, w7, w8, w9, w10, w11, w12, .ref v2, .ref nm0, w15, w16, w17, w18, w19, w20, w21, w22, w23, w24, w25, w26, w27, w28, w29, w30, .int (nI ca), w32, w33, w34]))]) [0] (by decide) rfl
    have hKc := hK.sub (tys' := []) [] rfl
    refine va_calli (va_runV (As := [.int z_3]) (rest := []) ⟨hx, hb, hml, hown, hts⟩ (m_isKind l dC dI H.size h0 (w0) (w1) (w2) (.ref l7) kn (w5) (w6) (w7) (w8) (w9) (w10) (w11) (w12) (.ref v2) (.ref nm0) (w15) (w16) (w17) (w18) (w19) (w20) (w21) (w22) (w23) (w24) (w25) (w26) (w27) (w28) (w29) (w30) (.int (nI ca)) (w32) (w33) (w34) z_3 hkn) (cwV 1 hts (gV mw_4_53 mw_4_55 mw_0_15 mw_1_9 mw_4_56) rfl rfl rfl (by decide +kernel) ⟨Nat.le_of_ble_eq_true rfl, Nat.le_of_ble_eq_true rfl⟩) ⟨pcW_blind, va_recv hKc hPc (ci := 8) (q0 := 0) rfl rfl, pcW_at hPc hKc hDc hN⟩ rfl rfl hl.1 rfl (lv_room (Nat.le_of_ble_eq_true rfl)) dX9_told_19 ⟨Nat.le_of_ble_eq_true rfl, Nat.le_of_ble_eq_true rfl⟩) hS (fun q h1 h2 => absurd h2 (Nat.not_le.mpr h1)) (fun q h => hA q (Nat.le_trans hS.1 h)) (fun r_4 u t H1 locs ht hvm hw_4 hB hz1 hk1 hS => ?_)
    have hP := keepP hP hk1
    clear hz1 hk1 hB ht hvm hPc hDc hKc
    generalize H1 = H at hP hS ⊢
    rcases fx_bool hw_4 with ⟨rfl, b_5⟩ | ⟨rfl, b_5⟩
    · skip
      refine lv_if_eq (tgt := 37) hx hb dX9_told_22 (by decide) (fun h => absurd h (by decide)) (fun _ => ?_)
      refine lv_aload_n hx hb dX9_told_25 rfl (lv_at hl 0 rfl) ?_
      refine va_get (D := (dC, dI)) (ci := 8) (v := .ref nm0) (C := RX9) (T := TX9) (N := 35) hx hb hts inB_9 hown hK hP 0 rfl rfl 14 (by decide) (hts _ mw_3_196) (fun _ h9 => h9) rfl dX9_told_26 ?_
      refine lv_iload_n hx hb dX9_told_29 rfl (lv_at hl 1 rfl) ?_
      refine lv_bipush (v := 10) hx hb dX9_told_30 (by decide) ?_
      refine lv_isub hx hb dX9_told_32 ?_
      refine lv_topi (fun z_6 ez_6 => ?_)
      have gz_6 := fx_rng n1
      have fz_6 : Int32.toInt z_6 = (Int32.toInt n1) - 10 := by rw [ez_6]; exact gx_sub (X := (Int32.toInt n1)) (C := 10) rfl (by decide) (by omega) (by omega)
      obtain ⟨j_7, tj_7, ej_7⟩ := fx_nat (x := z_6) (by omega)
      subst ej_7
      have yj_7 : Int32.toInt (nI j_7) = (j_7 : Int) := nI_toInt tj_7
      refine va_iald hx hb hK hP 2 1 rfl rfl (show vp_in (nI j_7) 10 from vp_in_nI (by omega) (by omega)) dX9_told_33 ?_
      refine hx_top (y := (fnm j_7)) (congrArg _ (nI_clamp (by omega))) ?_
      refine lv_goto (tgt := 38) hx hb dX9_told_34 (by decide) ?_
      exact W.iret (v := (fnm j_7)) hx hb hr (fun t ht hW => ⟨⟨(fnm j_7), (), rfl, (by unfold F_told; rw [if_neg (by omega), if_neg (by omega), if_neg (by omega), if_pos (by omega), show (Int32.toInt n1 - 10).toNat = j_7 from (by omega)]; exact (if_pos (show j_7 < kn by omega)).symm), trivial⟩, hS.F ht⟩) hS.2.2 dX9_told_38
    · skip
      refine lv_if_eq (tgt := 37) hx hb dX9_told_22 (by decide) (fun _ => ?_) (fun h => absurd (by decide) h)
      refine lv_iconst (v := 0) hx hb dX9_told_37 (by decide) ?_
      exact W.iret (v := 0) hx hb hr (fun t ht hW => ⟨⟨0, (), rfl, (by unfold F_told; rw [if_neg (by omega), if_neg (by omega), if_neg (by omega), if_pos (by omega)]; exact (if_neg (show ¬ (Int32.toInt n1 - 10).toNat < kn by omega)).symm), trivial⟩, hS.F ht⟩) hS.2.2 dX9_told_38
  · skip
    refine lv_if_eq (tgt := 39) hx hb dX9_told_11 (by decide) (fun _ => ?_) (fun h => absurd (by decide) h)
    refine lv_iload_n hx hb dX9_told_39 rfl (lv_at hl 1 rfl) ?_
    refine lv_i2l hx hb dX9_told_40 rfl ?_
    refine lv_ldc2 (v := Int32.toInt64 20) hx hb hown (show (Cond.constantLong RX9 258 (Int32.toInt64 20)).before _ s = true from (hts _ mw_5_59)) dX9_told_41 ?_
    refine lv_ldc2 (v := Int32.toInt64 29) hx hb hown (show (Cond.constantLong RX9 260 (Int32.toInt64 29)).before _ s = true from (hts _ mw_5_60)) dX9_told_44 ?_
    have hPc := hP.sub (ws' := []) [] rfl
    have hDc := hD.sub (ws' := []) [] (by decide) rfl
    have hKc := hK.sub (tys' := []) [] rfl
    refine va_calli (va_runS (As := [.long (Int32.toInt64 n1), .long (Int32.toInt64 20), .long (Int32.toInt64 29)]) (rest := []) ⟨hx, hb, hml, hown, hts⟩ (m_in l dC dI H.size n1 20 29 20 29 (by decide) (by decide)) (va_cwS 3 hts (gS mw_4_57 mw_4_58 mw_1_9 mw_4_59) rfl rfl rfl (by decide +kernel) ⟨Nat.le_of_ble_eq_true rfl, Nat.le_of_ble_eq_true rfl⟩) ⟨pcW_blind, pcW_at hPc hKc hDc hN⟩ rfl rfl hl.1 rfl (lv_room (Nat.le_of_ble_eq_true rfl)) dX9_told_47 ⟨Nat.le_of_ble_eq_true rfl, Nat.le_of_ble_eq_true rfl⟩) hS (fun q h1 h2 => absurd h2 (Nat.not_le.mpr h1)) (fun q h => hA q (Nat.le_trans hS.1 h)) (fun r_8 u t H1 locs ht hvm hw_8 hB hz1 hk1 hS => ?_)
    have hP := keepP hP hk1
    clear hz1 hk1 hB ht hvm hPc hDc hKc
    generalize H1 = H at hP hS ⊢
    rcases fx_bool hw_8 with ⟨rfl, b_9⟩ | ⟨rfl, b_9⟩
    · skip
      refine lv_if_eq (tgt := 82) hx hb dX9_told_50 (by decide) (fun h => absurd h (by decide)) (fun _ => ?_)
      refine lv_aload_n hx hb dX9_told_53 rfl (lv_at hl 0 rfl) ?_
      refine lv_iload_n hx hb dX9_told_54 rfl (lv_at hl 1 rfl) ?_
      refine lv_bipush (v := 20) hx hb dX9_told_55 (by decide) ?_
      refine lv_isub hx hb dX9_told_57 ?_
      refine lv_topi (fun z_10 ez_10 => ?_)
      have gz_10 := fx_rng n1
      have fz_10 : Int32.toInt z_10 = (Int32.toInt n1) - 20 := by rw [ez_10]; exact gx_sub (X := (Int32.toInt n1)) (C := 20) rfl (by decide) (by omega) (by omega)
      have hPc := hP.sub (ws' := [(h0, .inr (8, [w0, w1, w2, .ref l7, .int (nI kn), w5, w6, w7, w8, w9, w10, w11, w12, .ref v2, .ref nm0, w15, w16, w17, w18, w19, w20, w21, w22, w23, w24, w25, w26, w27, w28, w29, w30, .int (nI ca), w32, w33, w34]))]) [0] rfl
      have hDc := hD.sub (ws' := [(h0, .inr (8, [w0, w1, w2, .ref l7, .int (nI kn), w5, w6, w7, w8, w9, w10, w11, w12, .ref v2, .ref nm0, w15, w16, w17, w18, w19, w20, w21, w22, w23, w24, w25, w26, w27, w28, w29, w30, .int (nI ca), w32, w33, w34]))]) [0] (by decide) rfl
      have hKc := hK.sub (tys' := []) [] rfl
      refine va_calli (va_runV (As := [.int z_10]) (rest := []) ⟨hx, hb, hml, hown, hts⟩ (m_isKind l dC dI H.size h0 (w0) (w1) (w2) (.ref l7) kn (w5) (w6) (w7) (w8) (w9) (w10) (w11) (w12) (.ref v2) (.ref nm0) (w15) (w16) (w17) (w18) (w19) (w20) (w21) (w22) (w23) (w24) (w25) (w26) (w27) (w28) (w29) (w30) (.int (nI ca)) (w32) (w33) (w34) z_10 hkn) (cwV 1 hts (gV mw_4_53 mw_4_55 mw_0_15 mw_1_9 mw_4_56) rfl rfl rfl (by decide +kernel) ⟨Nat.le_of_ble_eq_true rfl, Nat.le_of_ble_eq_true rfl⟩) ⟨pcW_blind, va_recv hKc hPc (ci := 8) (q0 := 0) rfl rfl, pcW_at hPc hKc hDc hN⟩ rfl rfl hl.1 rfl (lv_room (Nat.le_of_ble_eq_true rfl)) dX9_told_58 ⟨Nat.le_of_ble_eq_true rfl, Nat.le_of_ble_eq_true rfl⟩) hS (fun q h1 h2 => absurd h2 (Nat.not_le.mpr h1)) (fun q h => hA q (Nat.le_trans hS.1 h)) (fun r_11 u t H1 locs ht hvm hw_11 hB hz1 hk1 hS => ?_)
      have hP := keepP hP hk1
      clear hz1 hk1 hB ht hvm hPc hDc hKc
      generalize H1 = H at hP hS ⊢
      rcases fx_bool hw_11 with ⟨rfl, b_12⟩ | ⟨rfl, b_12⟩
      · skip
        refine lv_if_eq (tgt := 80) hx hb dX9_told_61 (by decide) (fun h => absurd h (by decide)) (fun _ => ?_)
        refine lv_aload_n hx hb dX9_told_64 rfl (lv_at hl 0 rfl) ?_
        refine va_get (D := (dC, dI)) (ci := 8) (v := .ref l7) (C := RX9) (T := TX9) (N := 35) hx hb hts inB_9 hown hK hP 0 rfl rfl 3 (by decide) (hts _ mw_3_185) (fun _ h9 => h9) rfl dX9_told_65 ?_
        refine lv_iload_n hx hb dX9_told_68 rfl (lv_at hl 1 rfl) ?_
        refine lv_bipush (v := 20) hx hb dX9_told_69 (by decide) ?_
        refine lv_isub hx hb dX9_told_71 ?_
        refine lv_topi (fun z_13 ez_13 => ?_)
        have gz_13 := fx_rng n1
        have fz_13 : Int32.toInt z_13 = (Int32.toInt n1) - 20 := by rw [ez_13]; exact gx_sub (X := (Int32.toInt n1)) (C := 20) rfl (by decide) (by omega) (by omega)
        obtain ⟨j_14, tj_14, ej_14⟩ := fx_nat (x := z_13) (by omega)
        subst ej_14
        have yj_14 : Int32.toInt (nI j_14) = (j_14 : Int) := nI_toInt tj_14
        refine va_zald hx hb hK hP 3 2 rfl rfl (show vp_in (nI j_14) 10 from vp_in_nI (by omega) (by omega)) dX9_told_72 ?_
        refine hx_top (y := (fib j_14)) (congrArg _ (nI_clamp (by omega))) ?_
        refine lv_if_eq (tgt := 80) hx hb dX9_told_73 (by decide) (fun c_15 => ?_) (fun c_15 => ?_)
        · have b_16 := gx_eq (X := (Int32.toInt (fib j_14))) (C := 0) rfl (by decide) c_15
          refine lv_iconst (v := 0) hx hb dX9_told_80 (by decide) ?_
          exact W.iret (v := 0) hx hb hr (fun t ht hW => ⟨⟨0, (), rfl, (by unfold F_told; rw [if_neg (by omega), if_neg (by omega), if_neg (by omega), if_neg (by omega), if_pos (by omega), show (Int32.toInt n1 - 20).toNat = j_14 from (by omega)]; exact (if_neg (show ¬ (decide (j_14 < kn) && decide (¬ fib j_14 = 0)) = true from by rw [decide_eq_false (p := ¬ fib j_14 = 0) (fun q => q c_15), Bool.and_false]; decide)).symm), trivial⟩, hS.F ht⟩) hS.2.2 dX9_told_81
        · have b_16 := gn_eq (X := (Int32.toInt (fib j_14))) (C := 0) rfl (by decide) c_15
          refine lv_iconst (v := 1) hx hb dX9_told_76 (by decide) ?_
          refine lv_goto (tgt := 81) hx hb dX9_told_77 (by decide) ?_
          exact W.iret (v := 1) hx hb hr (fun t ht hW => ⟨⟨1, (), rfl, (by unfold F_told; rw [if_neg (by omega), if_neg (by omega), if_neg (by omega), if_neg (by omega), if_pos (by omega), show (Int32.toInt n1 - 20).toNat = j_14 from (by omega)]; exact (if_pos (show (decide (j_14 < kn) && decide (¬ fib j_14 = 0)) = true from by rw [decide_eq_true (p := j_14 < kn) (by omega), decide_eq_true (p := ¬ fib j_14 = 0) c_15]; rfl)).symm), trivial⟩, hS.F ht⟩) hS.2.2 dX9_told_81
      · skip
        refine lv_if_eq (tgt := 80) hx hb dX9_told_61 (by decide) (fun _ => ?_) (fun h => absurd (by decide) h)
        refine lv_iconst (v := 0) hx hb dX9_told_80 (by decide) ?_
        exact W.iret (v := 0) hx hb hr (fun t ht hW => ⟨⟨0, (), rfl, (by unfold F_told; rw [if_neg (by omega), if_neg (by omega), if_neg (by omega), if_neg (by omega), if_pos (by omega)]; exact (if_neg (show ¬ (decide ((Int32.toInt n1 - 20).toNat < kn) && decide (¬ fib (Int32.toInt n1 - 20).toNat = 0)) = true from by rw [decide_eq_false (p := (Int32.toInt n1 - 20).toNat < kn) (by omega), Bool.false_and]; decide)).symm), trivial⟩, hS.F ht⟩) hS.2.2 dX9_told_81
    · skip
      refine lv_if_eq (tgt := 82) hx hb dX9_told_50 (by decide) (fun _ => ?_) (fun h => absurd (by decide) h)
      refine lv_iload_n hx hb dX9_told_82 rfl (lv_at hl 1 rfl) ?_
      refine lv_if_ne (tgt := 93) hx hb dX9_told_83 (by decide) (fun c_17 => ?_) (fun c_17 => ?_)
      · have b_18 := gx_ne (X := (Int32.toInt n1)) (C := 0) rfl (by decide) c_17
        refine lv_iload_n hx hb dX9_told_93 rfl (lv_at hl 1 rfl) ?_
        refine lv_iconst (v := 1) hx hb dX9_told_94 (by decide) ?_
        refine lv_icmp_ne (tgt := 108) hx hb dX9_told_95 (by decide) (fun c_19 => ?_) (fun c_19 => ?_)
        · have b_20 := gx_ne (X := (Int32.toInt n1)) (C := 1) rfl (by decide) c_19
          refine lv_iload_n hx hb dX9_told_108 rfl (lv_at hl 1 rfl) ?_
          refine lv_iconst (v := 2) hx hb dX9_told_109 (by decide) ?_
          refine lv_icmp_ne (tgt := 120) hx hb dX9_told_110 (by decide) (fun c_21 => ?_) (fun c_21 => ?_)
          · have b_22 := gx_ne (X := (Int32.toInt n1)) (C := 2) rfl (by decide) c_21
            refine lv_bipush (v := (-2)) hx hb dX9_told_120 (by decide) ?_
            exact W.iret (v := (-2)) hx hb hr (fun t ht hW => ⟨⟨(-2), (), rfl, (by unfold F_told; rw [if_neg (by omega), if_neg (by omega), if_neg (by omega), if_neg (by omega), if_neg (by omega)]), trivial⟩, hS.F ht⟩) hS.2.2 dX9_told_122
          · have b_22 := gn_ne (X := (Int32.toInt n1)) (C := 2) rfl (by decide) c_21
            refine lv_aload_n hx hb dX9_told_113 rfl (lv_at hl 0 rfl) ?_
            refine va_get (D := (dC, dI)) (ci := 8) (v := .int (nI ca)) (C := RX9) (T := TX9) (N := 35) hx hb hts inB_9 hown hK hP 0 rfl rfl 31 (by decide) (hts _ mw_3_213) (fun _ h9 => h9) rfl dX9_told_114 ?_
            refine lv_goto (tgt := 122) hx hb dX9_told_117 (by decide) ?_
            exact W.iret (v := (nI ca)) hx hb hr (fun t ht hW => ⟨⟨(nI ca), (), rfl, (by unfold F_told; rw [if_neg (by omega), if_neg (by omega), if_pos (by omega)]), trivial⟩, hS.F ht⟩) hS.2.2 dX9_told_122
        · have b_20 := gn_ne (X := (Int32.toInt n1)) (C := 1) rfl (by decide) c_19
          refine lv_aload_n hx hb dX9_told_98 rfl (lv_at hl 0 rfl) ?_
          refine va_get (D := (dC, dI)) (ci := 8) (v := .ref v2) (C := RX9) (T := TX9) (N := 35) hx hb hts inB_9 hown hK hP 0 rfl rfl 13 (by decide) (hts _ mw_3_195) (fun _ h9 => h9) rfl dX9_told_99 ?_
          refine lv_bipush (v := 80) hx hb dX9_told_102 (by decide) ?_
          refine va_iald hx hb hK hP 1 0 rfl rfl (show vp_in 80 81 by unfold vp_in; decide) dX9_told_104 ?_
          refine hx_top (y := (fsm 80)) rfl ?_
          obtain ⟨n_23, hn_23, en_23⟩ := hsm 80 (by omega)
          refine hx_top (y := (nI n_23)) en_23 ?_
          refine lv_goto (tgt := 122) hx hb dX9_told_105 (by decide) ?_
          exact W.iret (v := (nI n_23)) hx hb hr (fun t ht hW => ⟨⟨(nI n_23), (), rfl, (by unfold F_told; rw [if_neg (by omega), if_pos (by omega)]; exact en_23.symm), trivial⟩, hS.F ht⟩) hS.2.2 dX9_told_122
      · have b_18 := gn_ne (X := (Int32.toInt n1)) (C := 0) rfl (by decide) c_17
        refine lv_aload_n hx hb dX9_told_86 rfl (lv_at hl 0 rfl) ?_
        refine va_get (D := (dC, dI)) (ci := 8) (v := .int (nI kn)) (C := RX9) (T := TX9) (N := 35) hx hb hts inB_9 hown hK hP 0 rfl rfl 4 (by decide) (hts _ mw_3_186) (fun _ h9 => h9) rfl dX9_told_87 ?_
        refine lv_goto (tgt := 122) hx hb dX9_told_90 (by decide) ?_
        exact W.iret (v := (nI kn)) hx hb hr (fun t ht hW => ⟨⟨(nI kn), (), rfl, (by unfold F_told; rw [if_pos (by omega)]), trivial⟩, hS.F ht⟩) hS.2.2 dX9_told_122
