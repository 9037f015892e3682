theorem mw_2_200 : Cond.methodLink RX6 9 yX1_aboveOf ∈ BG := mB (t2 (i := 200) (by decide +kernel)) (by decide +kernel)
theorem mw_2_199 : Cond.code yX6_nearestOf cX6_nearestOf 6 (some .int) ∈ BG := mB (t2 (i := 199) rfl) (by decide +kernel)
theorem mw_2_216 : Cond.methodLink RX6 40 yX6_nearestOf ∈ BG := mB (t2 (i := 216) (by decide +kernel)) (by decide +kernel)
theorem mw_2_198 : Cond.static yX6_nearestOf ∈ BG := mB (t2 (i := 198) (by decide +kernel)) (by decide +kernel)
theorem mw_1_11 : Cond.initialized RX6 ∈ BG := mB (t1 (i := 11) (by decide +kernel)) (by decide +kernel)
theorem mw_2_217 : Cond.methodLink RX6 44 yJ6_bitCount_0f7a4 ∈ BG := mB (t2 (i := 217) (by decide +kernel)) (by decide +kernel)
theorem mw_2_212 : Cond.code yX1_howMany cX1_howMany 1 (some .int) ∈ BG := mB (t2 (i := 212) rfl) (by decide +kernel)
theorem mw_2_209 : Cond.methodLink RX6 19 yX1_howMany ∈ BG := mB (t2 (i := 209) (by decide +kernel)) (by decide +kernel)
theorem mw_2_210 : Cond.instanceMethod yX1_howMany ∈ BG := mB (t2 (i := 210) (by decide +kernel)) (by decide +kernel)
theorem mw_2_211 : Cond.selects RX1 yX1_howMany yX1_howMany ∈ BG := mB (t2 (i := 211) (by decide +kernel)) (by decide +kernel)
theorem mw_2_215 : Cond.code yX6_isInDoubt cX6_isInDoubt 3 (some .boolean) ∈ BG := mB (t2 (i := 215) rfl) (by decide +kernel)
theorem mw_2_213 : Cond.methodLink RX6 23 yX6_isInDoubt ∈ BG := mB (t2 (i := 213) (by decide +kernel)) (by decide +kernel)
theorem mw_2_214 : Cond.static yX6_isInDoubt ∈ BG := mB (t2 (i := 214) (by decide +kernel)) (by decide +kernel)
theorem mw_2_144 : Cond.code yX1_firstOf cX1_firstOf 4 (some .int) ∈ BG := mB (t2 (i := 144) rfl) (by decide +kernel)
theorem mw_3_1 : Cond.methodLink RX6 29 yX1_firstOf ∈ BG := mB (t3 (i := 1) (by decide +kernel)) (by decide +kernel)
theorem mw_2_142 : Cond.instanceMethod yX1_firstOf ∈ BG := mB (t2 (i := 142) (by decide +kernel)) (by decide +kernel)
theorem mw_2_143 : Cond.selects RX1 yX1_firstOf yX1_firstOf ∈ BG := mB (t2 (i := 143) (by decide +kernel)) (by decide +kernel)
theorem mw_2_45 : Cond.code yX1_belowOf cX1_belowOf 4 (some .int) ∈ BG := mB (t2 (i := 45) rfl) (by decide +kernel)
theorem mw_3_79 : Cond.methodLink RX6 33 yX1_belowOf ∈ BG := mB (t3 (i := 79) (by decide +kernel)) (by decide +kernel)
theorem mw_2_43 : Cond.instanceMethod yX1_belowOf ∈ BG := mB (t2 (i := 43) (by decide +kernel)) (by decide +kernel)
theorem mw_2_44 : Cond.selects RX1 yX1_belowOf yX1_belowOf ∈ BG := mB (t2 (i := 44) (by decide +kernel)) (by decide +kernel)
theorem mw_3_13 : Cond.code yX1_hasRow cX1_hasRow 2 (some .boolean) ∈ BG := mB (t3 (i := 13) rfl) (by decide +kernel)
theorem mw_3_80 : Cond.methodLink RX6 36 yX1_hasRow ∈ BG := mB (t3 (i := 80) (by decide +kernel)) (by decide +kernel)
theorem mw_3_11 : Cond.instanceMethod yX1_hasRow ∈ BG := mB (t3 (i := 11) (by decide +kernel)) (by decide +kernel)
theorem mw_3_12 : Cond.selects RX1 yX1_hasRow yX1_hasRow ∈ BG := mB (t3 (i := 12) (by decide +kernel)) (by decide +kernel)
theorem dX6_nearestOf_0 : decode cX6_nearestOf 0 = .ok (.iload_n 2, 1) := by decide +kernel
theorem dX6_nearestOf_1 : decode cX6_nearestOf 1 = .ok (.aload_n 0, 1) := by decide +kernel
theorem dX6_nearestOf_2 : decode cX6_nearestOf 2 = .ok (.iload_n 1, 1) := by decide +kernel
theorem dX6_nearestOf_3 : decode cX6_nearestOf 3 = .ok (.invokevirtual 9, 3) := by decide +kernel
theorem dX6_nearestOf_6 : decode cX6_nearestOf 6 = .ok (.iconst 1, 1) := by decide +kernel
theorem dX6_nearestOf_7 : decode cX6_nearestOf 7 = .ok (.iload_n 1, 1) := by decide +kernel
theorem dX6_nearestOf_8 : decode cX6_nearestOf 8 = .ok (.ishl, 1) := by decide +kernel
theorem dX6_nearestOf_9 : decode cX6_nearestOf 9 = .ok (.ior, 1) := by decide +kernel
theorem dX6_nearestOf_10 : decode cX6_nearestOf 10 = .ok (.iand, 1) := by decide +kernel
theorem dX6_nearestOf_11 : decode cX6_nearestOf 11 = .ok (.istore_n 3, 1) := by decide +kernel
theorem dX6_nearestOf_12 : decode cX6_nearestOf 12 = .ok (.iconst 0, 1) := by decide +kernel
theorem dX6_nearestOf_13 : decode cX6_nearestOf 13 = .ok (.istore 4, 2) := by decide +kernel
theorem dX6_nearestOf_15 : decode cX6_nearestOf 15 = .ok (.iconst 0, 1) := by decide +kernel
theorem dX6_nearestOf_16 : decode cX6_nearestOf 16 = .ok (.istore 5, 2) := by decide +kernel
theorem dX6_nearestOf_18 : decode cX6_nearestOf 18 = .ok (.iload 5, 2) := by decide +kernel
theorem dX6_nearestOf_20 : decode cX6_nearestOf 20 = .ok (.iload_n 1, 1) := by decide +kernel
theorem dX6_nearestOf_21 : decode cX6_nearestOf 21 = .ok (.if_icmp .gt 36, 3) := by decide +kernel
theorem dX6_nearestOf_57 : decode cX6_nearestOf 57 = .ok (.iload_n 3, 1) := by decide +kernel
theorem dX6_nearestOf_58 : decode cX6_nearestOf 58 = .ok (.iload 4, 2) := by decide +kernel
theorem dX6_nearestOf_60 : decode cX6_nearestOf 60 = .ok (.iconst (-1), 1) := by decide +kernel
theorem dX6_nearestOf_61 : decode cX6_nearestOf 61 = .ok (.ixor, 1) := by decide +kernel
theorem dX6_nearestOf_62 : decode cX6_nearestOf 62 = .ok (.iand, 1) := by decide +kernel
theorem dX6_nearestOf_63 : decode cX6_nearestOf 63 = .ok (.ireturn, 1) := by decide +kernel
theorem dX6_nearestOf_24 : decode cX6_nearestOf 24 = .ok (.iload 5, 2) := by decide +kernel
theorem dX6_nearestOf_26 : decode cX6_nearestOf 26 = .ok (.bipush 10, 2) := by decide +kernel
theorem dX6_nearestOf_28 : decode cX6_nearestOf 28 = .ok (.if_icmp .ge 29, 3) := by decide +kernel
theorem dX6_nearestOf_31 : decode cX6_nearestOf 31 = .ok (.iload 5, 2) := by decide +kernel
theorem dX6_nearestOf_33 : decode cX6_nearestOf 33 = .ok (.iload_n 3, 1) := by decide +kernel
theorem dX6_nearestOf_34 : decode cX6_nearestOf 34 = .ok (.invokestatic 15, 3) := by decide +kernel
theorem dX6_nearestOf_37 : decode cX6_nearestOf 37 = .ok (.ifCond .eq 14, 3) := by decide +kernel
theorem dX6_nearestOf_40 : decode cX6_nearestOf 40 = .ok (.iload 4, 2) := by decide +kernel
theorem dX6_nearestOf_42 : decode cX6_nearestOf 42 = .ok (.aload_n 0, 1) := by decide +kernel
theorem dX6_nearestOf_43 : decode cX6_nearestOf 43 = .ok (.iload 5, 2) := by decide +kernel
theorem dX6_nearestOf_45 : decode cX6_nearestOf 45 = .ok (.invokevirtual 9, 3) := by decide +kernel
theorem dX6_nearestOf_48 : decode cX6_nearestOf 48 = .ok (.ior, 1) := by decide +kernel
theorem dX6_nearestOf_49 : decode cX6_nearestOf 49 = .ok (.istore 4, 2) := by decide +kernel
theorem dX6_nearestOf_51 : decode cX6_nearestOf 51 = .ok (.iinc 5 1, 3) := by decide +kernel
theorem dX6_nearestOf_54 : decode cX6_nearestOf 54 = .ok (.goto (-36), 3) := by decide +kernel
theorem dX6_isInDoubt_0 : decode cX6_isInDoubt 0 = .ok (.aload_n 0, 1) := by decide +kernel
theorem dX6_isInDoubt_1 : decode cX6_isInDoubt 1 = .ok (.iload_n 1, 1) := by decide +kernel
theorem dX6_isInDoubt_2 : decode cX6_isInDoubt 2 = .ok (.iload_n 2, 1) := by decide +kernel
theorem dX6_isInDoubt_3 : decode cX6_isInDoubt 3 = .ok (.invokestatic 40, 3) := by decide +kernel
theorem dX6_isInDoubt_6 : decode cX6_isInDoubt 6 = .ok (.invokestatic 44, 3) := by decide +kernel
theorem dX6_isInDoubt_9 : decode cX6_isInDoubt 9 = .ok (.iconst 2, 1) := by decide +kernel
theorem dX6_isInDoubt_10 : decode cX6_isInDoubt 10 = .ok (.if_icmp .lt 7, 3) := by decide +kernel
theorem dX6_isInDoubt_17 : decode cX6_isInDoubt 17 = .ok (.iconst 0, 1) := by decide +kernel
theorem dX6_isInDoubt_18 : decode cX6_isInDoubt 18 = .ok (.ireturn, 1) := by decide +kernel
theorem dX6_isInDoubt_13 : decode cX6_isInDoubt 13 = .ok (.iconst 1, 1) := by decide +kernel
theorem dX6_isInDoubt_14 : decode cX6_isInDoubt 14 = .ok (.goto 4, 3) := by decide +kernel
theorem dX6_doubtful_0 : decode cX6_doubtful 0 = .ok (.iconst 0, 1) := by decide +kernel
theorem dX6_doubtful_1 : decode cX6_doubtful 1 = .ok (.istore_n 2, 1) := by decide +kernel
theorem dX6_doubtful_2 : decode cX6_doubtful 2 = .ok (.aload_n 0, 1) := by decide +kernel
theorem dX6_doubtful_3 : decode cX6_doubtful 3 = .ok (.invokevirtual 19, 3) := by decide +kernel
theorem dX6_doubtful_6 : decode cX6_doubtful 6 = .ok (.istore_n 3, 1) := by decide +kernel
theorem dX6_doubtful_7 : decode cX6_doubtful 7 = .ok (.iconst 0, 1) := by decide +kernel
theorem dX6_doubtful_8 : decode cX6_doubtful 8 = .ok (.istore 4, 2) := by decide +kernel
theorem dX6_doubtful_10 : decode cX6_doubtful 10 = .ok (.iload 4, 2) := by decide +kernel
theorem dX6_doubtful_12 : decode cX6_doubtful 12 = .ok (.iload_n 3, 1) := by decide +kernel
theorem dX6_doubtful_13 : decode cX6_doubtful 13 = .ok (.if_icmp .ge 26, 3) := by decide +kernel
theorem dX6_doubtful_39 : decode cX6_doubtful 39 = .ok (.iload_n 2, 1) := by decide +kernel
theorem dX6_doubtful_40 : decode cX6_doubtful 40 = .ok (.ireturn, 1) := by decide +kernel
theorem dX6_doubtful_16 : decode cX6_doubtful 16 = .ok (.aload_n 0, 1) := by decide +kernel
theorem dX6_doubtful_17 : decode cX6_doubtful 17 = .ok (.iload 4, 2) := by decide +kernel
theorem dX6_doubtful_19 : decode cX6_doubtful 19 = .ok (.iload_n 1, 1) := by decide +kernel
theorem dX6_doubtful_20 : decode cX6_doubtful 20 = .ok (.invokestatic 23, 3) := by decide +kernel
theorem dX6_doubtful_23 : decode cX6_doubtful 23 = .ok (.ifCond .eq 10, 3) := by decide +kernel
theorem dX6_doubtful_26 : decode cX6_doubtful 26 = .ok (.iload_n 2, 1) := by decide +kernel
theorem dX6_doubtful_27 : decode cX6_doubtful 27 = .ok (.iconst 1, 1) := by decide +kernel
theorem dX6_doubtful_28 : decode cX6_doubtful 28 = .ok (.iload 4, 2) := by decide +kernel
theorem dX6_doubtful_30 : decode cX6_doubtful 30 = .ok (.ishl, 1) := by decide +kernel
theorem dX6_doubtful_31 : decode cX6_doubtful 31 = .ok (.ior, 1) := by decide +kernel
theorem dX6_doubtful_32 : decode cX6_doubtful 32 = .ok (.istore_n 2, 1) := by decide +kernel
theorem dX6_doubtful_33 : decode cX6_doubtful 33 = .ok (.iinc 4 1, 3) := by decide +kernel
theorem dX6_doubtful_36 : decode cX6_doubtful 36 = .ok (.goto (-26), 3) := by decide +kernel
theorem dX6_settlers_0 : decode cX6_settlers 0 = .ok (.iconst 0, 1) := by decide +kernel
theorem dX6_settlers_1 : decode cX6_settlers 1 = .ok (.istore_n 2, 1) := by decide +kernel
theorem dX6_settlers_2 : decode cX6_settlers 2 = .ok (.aload_n 0, 1) := by decide +kernel
theorem dX6_settlers_3 : decode cX6_settlers 3 = .ok (.invokevirtual 19, 3) := by decide +kernel
theorem dX6_settlers_6 : decode cX6_settlers 6 = .ok (.istore_n 3, 1) := by decide +kernel
theorem dX6_settlers_7 : decode cX6_settlers 7 = .ok (.iconst 0, 1) := by decide +kernel
theorem dX6_settlers_8 : decode cX6_settlers 8 = .ok (.istore 4, 2) := by decide +kernel
theorem dX6_settlers_10 : decode cX6_settlers 10 = .ok (.iload 4, 2) := by decide +kernel
theorem dX6_settlers_12 : decode cX6_settlers 12 = .ok (.iload_n 3, 1) := by decide +kernel
theorem dX6_settlers_13 : decode cX6_settlers 13 = .ok (.if_icmp .ge 28, 3) := by decide +kernel
theorem dX6_settlers_41 : decode cX6_settlers 41 = .ok (.iload_n 2, 1) := by decide +kernel
theorem dX6_settlers_42 : decode cX6_settlers 42 = .ok (.ireturn, 1) := by decide +kernel
theorem dX6_settlers_16 : decode cX6_settlers 16 = .ok (.aload_n 0, 1) := by decide +kernel
theorem dX6_settlers_17 : decode cX6_settlers 17 = .ok (.iload 4, 2) := by decide +kernel
theorem dX6_settlers_19 : decode cX6_settlers 19 = .ok (.iload_n 1, 1) := by decide +kernel
theorem dX6_settlers_20 : decode cX6_settlers 20 = .ok (.iload_n 2, 1) := by decide +kernel
theorem dX6_settlers_21 : decode cX6_settlers 21 = .ok (.ior, 1) := by decide +kernel
theorem dX6_settlers_22 : decode cX6_settlers 22 = .ok (.invokestatic 23, 3) := by decide +kernel
theorem dX6_settlers_25 : decode cX6_settlers 25 = .ok (.ifCond .eq 10, 3) := by decide +kernel
theorem dX6_settlers_28 : decode cX6_settlers 28 = .ok (.iload_n 2, 1) := by decide +kernel
theorem dX6_settlers_29 : decode cX6_settlers 29 = .ok (.iconst 1, 1) := by decide +kernel
theorem dX6_settlers_30 : decode cX6_settlers 30 = .ok (.iload 4, 2) := by decide +kernel
theorem dX6_settlers_32 : decode cX6_settlers 32 = .ok (.ishl, 1) := by decide +kernel
theorem dX6_settlers_33 : decode cX6_settlers 33 = .ok (.ior, 1) := by decide +kernel
theorem dX6_settlers_34 : decode cX6_settlers 34 = .ok (.istore_n 2, 1) := by decide +kernel
theorem dX6_settlers_35 : decode cX6_settlers 35 = .ok (.iinc 4 1, 3) := by decide +kernel
theorem dX6_settlers_38 : decode cX6_settlers 38 = .ok (.goto (-28), 3) := by decide +kernel
theorem dX6_shifted_0 : decode cX6_shifted 0 = .ok (.iconst 0, 1) := by decide +kernel
theorem dX6_shifted_1 : decode cX6_shifted 1 = .ok (.istore_n 3, 1) := by decide +kernel
theorem dX6_shifted_2 : decode cX6_shifted 2 = .ok (.aload_n 0, 1) := by decide +kernel
theorem dX6_shifted_3 : decode cX6_shifted 3 = .ok (.invokevirtual 19, 3) := by decide +kernel
theorem dX6_shifted_6 : decode cX6_shifted 6 = .ok (.istore 4, 2) := by decide +kernel
theorem dX6_shifted_8 : decode cX6_shifted 8 = .ok (.iconst 0, 1) := by decide +kernel
theorem dX6_shifted_9 : decode cX6_shifted 9 = .ok (.istore 5, 2) := by decide +kernel
theorem dX6_shifted_11 : decode cX6_shifted 11 = .ok (.iload 5, 2) := by decide +kernel
theorem dX6_shifted_13 : decode cX6_shifted 13 = .ok (.iload 4, 2) := by decide +kernel
theorem dX6_shifted_15 : decode cX6_shifted 15 = .ok (.if_icmp .ge 43, 3) := by decide +kernel
theorem dX6_shifted_58 : decode cX6_shifted 58 = .ok (.iload_n 3, 1) := by decide +kernel
theorem dX6_shifted_59 : decode cX6_shifted 59 = .ok (.ireturn, 1) := by decide +kernel
theorem dX6_shifted_18 : decode cX6_shifted 18 = .ok (.aload_n 0, 1) := by decide +kernel
theorem dX6_shifted_19 : decode cX6_shifted 19 = .ok (.iload 5, 2) := by decide +kernel
theorem dX6_shifted_21 : decode cX6_shifted 21 = .ok (.iload_n 2, 1) := by decide +kernel
theorem dX6_shifted_22 : decode cX6_shifted 22 = .ok (.iconst 0, 1) := by decide +kernel
theorem dX6_shifted_23 : decode cX6_shifted 23 = .ok (.invokevirtual 29, 3) := by decide +kernel
theorem dX6_shifted_26 : decode cX6_shifted 26 = .ok (.istore 6, 2) := by decide +kernel
theorem dX6_shifted_28 : decode cX6_shifted 28 = .ok (.aload_n 0, 1) := by decide +kernel
theorem dX6_shifted_29 : decode cX6_shifted 29 = .ok (.iload 5, 2) := by decide +kernel
theorem dX6_shifted_31 : decode cX6_shifted 31 = .ok (.iload_n 2, 1) := by decide +kernel
theorem dX6_shifted_32 : decode cX6_shifted 32 = .ok (.iconst 1, 1) := by decide +kernel
theorem dX6_shifted_33 : decode cX6_shifted 33 = .ok (.iload_n 1, 1) := by decide +kernel
theorem dX6_shifted_34 : decode cX6_shifted 34 = .ok (.ishl, 1) := by decide +kernel
theorem dX6_shifted_35 : decode cX6_shifted 35 = .ok (.ior, 1) := by decide +kernel
theorem dX6_shifted_36 : decode cX6_shifted 36 = .ok (.iconst 0, 1) := by decide +kernel
theorem dX6_shifted_37 : decode cX6_shifted 37 = .ok (.invokevirtual 29, 3) := by decide +kernel
theorem dX6_shifted_40 : decode cX6_shifted 40 = .ok (.iload 6, 2) := by decide +kernel
theorem dX6_shifted_42 : decode cX6_shifted 42 = .ok (.if_icmp .eq 10, 3) := by decide +kernel
theorem dX6_shifted_52 : decode cX6_shifted 52 = .ok (.iinc 5 1, 3) := by decide +kernel
theorem dX6_shifted_55 : decode cX6_shifted 55 = .ok (.goto (-44), 3) := by decide +kernel
theorem dX6_shifted_45 : decode cX6_shifted 45 = .ok (.iload_n 3, 1) := by decide +kernel
theorem dX6_shifted_46 : decode cX6_shifted 46 = .ok (.iconst 1, 1) := by decide +kernel
theorem dX6_shifted_47 : decode cX6_shifted 47 = .ok (.iload 5, 2) := by decide +kernel
theorem dX6_shifted_49 : decode cX6_shifted 49 = .ok (.ishl, 1) := by decide +kernel
theorem dX6_shifted_50 : decode cX6_shifted 50 = .ok (.ior, 1) := by decide +kernel
theorem dX6_shifted_51 : decode cX6_shifted 51 = .ok (.istore_n 3, 1) := by decide +kernel
theorem dX6_unlikeAnswers_0 : decode cX6_unlikeAnswers 0 = .ok (.aload_n 0, 1) := by decide +kernel
theorem dX6_unlikeAnswers_1 : decode cX6_unlikeAnswers 1 = .ok (.iload_n 1, 1) := by decide +kernel
theorem dX6_unlikeAnswers_2 : decode cX6_unlikeAnswers 2 = .ok (.invokevirtual 33, 3) := by decide +kernel
theorem dX6_unlikeAnswers_5 : decode cX6_unlikeAnswers 5 = .ok (.iconst 1, 1) := by decide +kernel
theorem dX6_unlikeAnswers_6 : decode cX6_unlikeAnswers 6 = .ok (.iload_n 1, 1) := by decide +kernel
theorem dX6_unlikeAnswers_7 : decode cX6_unlikeAnswers 7 = .ok (.ishl, 1) := by decide +kernel
theorem dX6_unlikeAnswers_8 : decode cX6_unlikeAnswers 8 = .ok (.ior, 1) := by decide +kernel
theorem dX6_unlikeAnswers_9 : decode cX6_unlikeAnswers 9 = .ok (.istore_n 3, 1) := by decide +kernel
theorem dX6_unlikeAnswers_10 : decode cX6_unlikeAnswers 10 = .ok (.iconst 0, 1) := by decide +kernel
theorem dX6_unlikeAnswers_11 : decode cX6_unlikeAnswers 11 = .ok (.istore 4, 2) := by decide +kernel
theorem dX6_unlikeAnswers_13 : decode cX6_unlikeAnswers 13 = .ok (.aload_n 0, 1) := by decide +kernel
theorem dX6_unlikeAnswers_14 : decode cX6_unlikeAnswers 14 = .ok (.invokevirtual 19, 3) := by decide +kernel
theorem dX6_unlikeAnswers_17 : decode cX6_unlikeAnswers 17 = .ok (.istore 5, 2) := by decide +kernel
theorem dX6_unlikeAnswers_19 : decode cX6_unlikeAnswers 19 = .ok (.iconst 0, 1) := by decide +kernel
theorem dX6_unlikeAnswers_20 : decode cX6_unlikeAnswers 20 = .ok (.istore 6, 2) := by decide +kernel
theorem dX6_unlikeAnswers_22 : decode cX6_unlikeAnswers 22 = .ok (.iload 6, 2) := by decide +kernel
theorem dX6_unlikeAnswers_24 : decode cX6_unlikeAnswers 24 = .ok (.iload 5, 2) := by decide +kernel
theorem dX6_unlikeAnswers_26 : decode cX6_unlikeAnswers 26 = .ok (.if_icmp .ge 56, 3) := by decide +kernel
theorem dX6_unlikeAnswers_82 : decode cX6_unlikeAnswers 82 = .ok (.iload 4, 2) := by decide +kernel
theorem dX6_unlikeAnswers_84 : decode cX6_unlikeAnswers 84 = .ok (.ireturn, 1) := by decide +kernel
theorem dX6_unlikeAnswers_29 : decode cX6_unlikeAnswers 29 = .ok (.iload 6, 2) := by decide +kernel
theorem dX6_unlikeAnswers_31 : decode cX6_unlikeAnswers 31 = .ok (.iload_n 3, 1) := by decide +kernel
theorem dX6_unlikeAnswers_32 : decode cX6_unlikeAnswers 32 = .ok (.invokestatic 15, 3) := by decide +kernel
theorem dX6_unlikeAnswers_35 : decode cX6_unlikeAnswers 35 = .ok (.ifCond .eq 41, 3) := by decide +kernel
theorem dX6_unlikeAnswers_38 : decode cX6_unlikeAnswers 38 = .ok (.aload_n 0, 1) := by decide +kernel
theorem dX6_unlikeAnswers_39 : decode cX6_unlikeAnswers 39 = .ok (.iload 6, 2) := by decide +kernel
theorem dX6_unlikeAnswers_41 : decode cX6_unlikeAnswers 41 = .ok (.invokevirtual 36, 3) := by decide +kernel
theorem dX6_unlikeAnswers_44 : decode cX6_unlikeAnswers 44 = .ok (.ifCond .ne 6, 3) := by decide +kernel
theorem dX6_unlikeAnswers_50 : decode cX6_unlikeAnswers 50 = .ok (.aload_n 0, 1) := by decide +kernel
theorem dX6_unlikeAnswers_51 : decode cX6_unlikeAnswers 51 = .ok (.iload 6, 2) := by decide +kernel
theorem dX6_unlikeAnswers_53 : decode cX6_unlikeAnswers 53 = .ok (.iload_n 2, 1) := by decide +kernel
theorem dX6_unlikeAnswers_54 : decode cX6_unlikeAnswers 54 = .ok (.iconst 0, 1) := by decide +kernel
theorem dX6_unlikeAnswers_55 : decode cX6_unlikeAnswers 55 = .ok (.invokevirtual 29, 3) := by decide +kernel
theorem dX6_unlikeAnswers_58 : decode cX6_unlikeAnswers 58 = .ok (.istore 7, 2) := by decide +kernel
theorem dX6_unlikeAnswers_60 : decode cX6_unlikeAnswers 60 = .ok (.iload 7, 2) := by decide +kernel
theorem dX6_unlikeAnswers_62 : decode cX6_unlikeAnswers 62 = .ok (.bipush (-6), 2) := by decide +kernel
theorem dX6_unlikeAnswers_64 : decode cX6_unlikeAnswers 64 = .ok (.if_icmp .eq 12, 3) := by decide +kernel
theorem dX6_unlikeAnswers_76 : decode cX6_unlikeAnswers 76 = .ok (.iinc 6 1, 3) := by decide +kernel
theorem dX6_unlikeAnswers_79 : decode cX6_unlikeAnswers 79 = .ok (.goto (-57), 3) := by decide +kernel
theorem dX6_unlikeAnswers_67 : decode cX6_unlikeAnswers 67 = .ok (.iload 4, 2) := by decide +kernel
theorem dX6_unlikeAnswers_69 : decode cX6_unlikeAnswers 69 = .ok (.iconst 1, 1) := by decide +kernel
theorem dX6_unlikeAnswers_70 : decode cX6_unlikeAnswers 70 = .ok (.iload 7, 2) := by decide +kernel
theorem dX6_unlikeAnswers_72 : decode cX6_unlikeAnswers 72 = .ok (.ishl, 1) := by decide +kernel
theorem dX6_unlikeAnswers_73 : decode cX6_unlikeAnswers 73 = .ok (.ior, 1) := by decide +kernel
theorem dX6_unlikeAnswers_74 : decode cX6_unlikeAnswers 74 = .ok (.istore 4, 2) := by decide +kernel
theorem dX6_unlikeAnswers_47 : decode cX6_unlikeAnswers 47 = .ok (.goto 29, 3) := by decide +kernel
set_option maxHeartbeats 4000000 in
set_option maxRecDepth 100000 in
theorem c_nearestOf (l : Launch) (dC : Nat → ClassId) (dI : Nat → Nat → Nat) (sz : Nat) (h0 : Nat) (b0 : Nat) (w1 : Value) (w2 : Value) (w3 : Value) (w4 : Value) (w5 : Value) (cn : Nat) (w7 : Value) (kb0 : ClassId) (fab : Nat → Int32) (kq : Nat) (o : Int32) (hc : cn ≤ 10) (hkq : kq < cn) : Met l yX6_nearestOf (wq yX6_nearestOf cX6_nearestOf 6 (some .int)) ({ frames := 2, cells := 0, slots := 0, locals := 42 }) (va_Pc [.ref h0, .int (nI kq), .int o] (pcW dC dI [(kb0, .int)] [(h0, .inr (1, [.ref b0, w1, w2, w3, w4, w5, .int (nI cn), w7])), (b0, .inl (kb0, 10, .inl fab))] sz)) (va_Qi (fun (r : Int32) (_ : Unit) => r = (nrC fab kq o)) (fun _ _ => True) (fun q : Nat => sz ≤ q)) 0 0 (fun q : Nat => sz ≤ q) := by
  refine Met.ofW (cc := cX6_nearestOf) (maxL := 6) (ret := (some .int)) (by decide) rfl ?_
  intro p e s m args below meth c s₁ B hml hv
  obtain ⟨rfl, hsz, hN, hP, hK, hD0⟩ := hv
  have hx := B.exec
  have hb := B.bytes
  have hr := B.returns
  have hts0 := atoms_spec (ws := (wq yX6_nearestOf cX6_nearestOf 6 (some .int))) B.pre
  have hts : ∀ w ∈ BG, w.before _ s = true := fun w h => hts0 w (List.mem_cons_of_mem _ h)
  have hown : s.vm.findClass RX6 = some m.cls := findClass_of_methodNamed B.named
  have hlocks := B.notSynchronized
  subst hsz
  have hA : ∀ q : Nat, s.heap.size ≤ q → (fun q : Nat => s.heap.size ≤ q) q := fun _ h => h
  have hD := hD0
  have hS : va_S (fun q : Nat => s.heap.size ≤ q) s.heap s.heap [] := va_S.rf
  have hP : va_P (dC, dI) vwCl [(h0, .inr (1, [.ref b0, w1, w2, w3, w4, w5, .int (nI cn), w7])), (b0, .inl (kb0, 10, .inl fab))] s.heap := hP
  have hl := lv_entry ([.ref h0, .int (nI kq), .int o]) (n := 6) (Nat.le_of_ble_eq_true rfl)
  rw [lg_entry_eq]
  generalize (lg_sl ([.ref h0, .int (nI kq), .int o]) ++ List.replicate (6 - (lg_sl ([.ref h0, .int (nI kq), .int o])).length) Slot.unset).toArray = ls at hl ⊢
  have hl : lv_has ls 6 [(0, .ref h0), (1, .int (nI kq)), (2, .int o)] := hl
  refine lv_iload_n hx hb dX6_nearestOf_0 rfl (lv_at hl 2 rfl) ?_
  refine lv_aload_n hx hb dX6_nearestOf_1 rfl (lv_at hl 0 rfl) ?_
  refine lv_iload_n hx hb dX6_nearestOf_2 rfl (lv_at hl 1 rfl) ?_
  have hPc := hP.sub (ws' := [(h0, .inr (1, [.ref b0, w1, w2, w3, w4, w5, .int (nI cn), w7])), (b0, .inl (kb0, 10, .inl fab))]) [0, 1] rfl
  have hDc := hD.sub (ws' := [(h0, .inr (1, [.ref b0, w1, w2, w3, w4, w5, .int (nI cn), w7])), (b0, .inl (kb0, 10, .inl fab))]) [0, 1] (by decide) rfl
  have hKc := hK.sub (tys' := [(kb0, .int)]) [0] rfl
  refine va_calli (va_runV (As := [.int (nI kq)]) (rest := [.int o]) ⟨hx, hb, hml, hown, hts⟩ (c_aboveOf l dC dI s.heap.size h0 b0 (w1) (w2) (w3) (w4) (w5) cn (w7) kb0 fab kq hc hkq) (cwV 1 hts (gV mw_2_200 mw_1_205 mw_1_206 mw_1_2 mw_1_207) rfl rfl rfl (by decide +kernel) ⟨Nat.le_of_ble_eq_true rfl, Nat.le_of_ble_eq_true rfl⟩) ⟨pcW_blind, va_recv hKc hPc (ci := 1) (q0 := 0) rfl rfl, pcW_at hPc hKc hDc hN⟩ rfl rfl hl.1 rfl (lv_room (Nat.le_of_ble_eq_true rfl)) dX6_nearestOf_3 ⟨Nat.le_of_ble_eq_true rfl, Nat.le_of_ble_eq_true rfl⟩) hS (fun q h1 h2 => absurd h2 (Nat.not_le.mpr h1)) (fun q h => hA q (Nat.le_trans hS.1 h)) (fun r_1 u t H1 locs ht hvm hw_1 hB hz1 hk1 hS => ?_)
  have hP := keepP hP hk1
  clear hz1 hk1 hB ht hvm hPc hDc hKc
  generalize H1 = H at hP hS ⊢
  obtain rfl : r_1 = (fab kq) := hw_1
  refine lv_iconst (v := 1) hx hb dX6_nearestOf_6 (by decide) ?_
  refine lv_iload_n hx hb dX6_nearestOf_7 rfl (lv_at hl 1 rfl) ?_
  refine lv_ishl hx hb dX6_nearestOf_8 ?_
  refine lv_ior hx hb dX6_nearestOf_9 ?_
  refine lv_iand hx hb dX6_nearestOf_10 ?_
  refine lv_topi (fun z_2 ez_2 => ?_)
  refine lv_istore_n (lv' := [(3, .int z_2), (0, .ref h0), (1, .int (nI kq)), (2, .int o)]) hx hb dX6_nearestOf_11 rfl hl (by decide) rfl (fun ls hl => ?_)
  refine lv_iconst (v := 0) hx hb dX6_nearestOf_12 (by decide) ?_
  refine lv_istore (lv' := [(4, .int 0), (3, .int z_2), (0, .ref h0), (1, .int (nI kq)), (2, .int o)]) hx hb dX6_nearestOf_13 hl (by decide) rfl (fun ls hl => ?_)
  refine lv_iconst (v := 0) hx hb dX6_nearestOf_15 (by decide) ?_
  refine lv_istore (lv' := [(5, .int 0), (4, .int 0), (3, .int z_2), (0, .ref h0), (1, .int (nI kq)), (2, .int o)]) hx hb dX6_nearestOf_16 hl (by decide) rfl (fun ls hl => ?_)
  have key_3 : ∀ (fu : Nat) (k : Nat) (ac : Int32), (k ≤ (kq + 1)) → (ac = hidF fab z_2 k) → (kq + 1) - k < fu → ∀ (H : Heap) (locs : List Loc), va_P (dC, dI) vwCl [(h0, .inr (1, [.ref b0, w1, w2, w3, w4, w5, .int (nI cn), w7])), (b0, .inl (kb0, 10, .inl fab))] H → va_S (fun q : Nat => s.heap.size ≤ q) s.heap H locs → ∀ (ls : Array Slot), lv_has ls 6 [(5, .int (nI k)), (4, .int ac), (3, .int z_2), (0, .ref h0), (1, .int (nI kq)), (2, .int o)] → W p l e (headSpec (wq yX6_nearestOf cX6_nearestOf 6 (some .int)) ({ frames := 2, cells := 0, slots := 0, locals := 42 })).room s m (([.ref h0, .int (nI kq), .int o] : List Value)).toArray below meth c H locs 0 0 (MQ below (va_Qi (fun (r : Int32) (_ : Unit) => r = (nrC fab kq o)) (fun _ _ => True) (fun q : Nat => s.heap.size ≤ q)) (([.ref h0, .int (nI kq), .int o] : List Value)).toArray s 0 0 (fun q : Nat => s.heap.size ≤ q)) (F0 m 18 ls []) := by
    intro fu
    induction fu with
    | zero => intro k ac hk hac hme; exact absurd hme (Nat.not_lt_zero _)
    | succ fu ih_4 =>
      intro k ac hk hac hme H locs hP hS ls hl
      refine lv_iload hx hb dX6_nearestOf_18 (lv_at hl 0 rfl) ?_
      refine lv_iload_n hx hb dX6_nearestOf_20 rfl (lv_at hl 4 rfl) ?_
      refine lv_icmp_gt (tgt := 57) hx hb dX6_nearestOf_21 (by decide) (fun c_5 => ?_) (fun c_5 => ?_)
      · have b_6 := gx_gt (X := ((k : Nat) : Int)) (C := ((kq : Nat) : Int)) (nI_toInt (by omega)) (nI_toInt (by omega)) c_5
        refine lv_iload_n hx hb dX6_nearestOf_57 rfl (lv_at hl 2 rfl) ?_
        refine lv_iload hx hb dX6_nearestOf_58 (lv_at hl 1 rfl) ?_
        refine lv_iconst (v := (-1)) hx hb dX6_nearestOf_60 (by decide) ?_
        refine lv_ixor hx hb dX6_nearestOf_61 ?_
        refine lv_iand hx hb dX6_nearestOf_62 ?_
        exact W.iret (v := (z_2 &&& (ac ^^^ (-1)))) hx hb hr (fun t ht hW => ⟨⟨(z_2 &&& (ac ^^^ (-1))), (), rfl, (by rw [hac, show k = kq + 1 from (by omega), ez_2]; rfl), trivial⟩, hS.F ht⟩) hS.2.2 dX6_nearestOf_63
      · have b_6 := gn_gt (X := ((k : Nat) : Int)) (C := ((kq : Nat) : Int)) (nI_toInt (by omega)) (nI_toInt (by omega)) c_5
        refine lv_iload hx hb dX6_nearestOf_24 (lv_at hl 0 rfl) ?_
        refine lv_bipush (v := 10) hx hb dX6_nearestOf_26 (by decide) ?_
        refine lv_icmp_ge (tgt := 57) hx hb dX6_nearestOf_28 (by decide) (fun c_7 => ?_) (fun c_7 => ?_)
        · have b_8 := gx_ge (X := ((k : Nat) : Int)) (C := 10) (nI_toInt (by omega)) (by decide) c_7
          refine lv_iload_n hx hb dX6_nearestOf_57 rfl (lv_at hl 2 rfl) ?_
          refine lv_iload hx hb dX6_nearestOf_58 (lv_at hl 1 rfl) ?_
          refine lv_iconst (v := (-1)) hx hb dX6_nearestOf_60 (by decide) ?_
          refine lv_ixor hx hb dX6_nearestOf_61 ?_
          refine lv_iand hx hb dX6_nearestOf_62 ?_
          exact W.iret (v := (z_2 &&& (ac ^^^ (-1)))) hx hb hr (fun t ht hW => ⟨⟨(z_2 &&& (ac ^^^ (-1))), (), rfl, (by rw [hac, show k = kq + 1 from (by omega), ez_2]; rfl), trivial⟩, hS.F ht⟩) hS.2.2 dX6_nearestOf_63
        · have b_8 := gn_ge (X := ((k : Nat) : Int)) (C := 10) (nI_toInt (by omega)) (by decide) c_7
          refine lv_iload hx hb dX6_nearestOf_31 (lv_at hl 0 rfl) ?_
          refine lv_iload_n hx hb dX6_nearestOf_33 rfl (lv_at hl 2 rfl) ?_
          have hPc := hP.sub (ws' := []) [] rfl
          have hDc := hD.sub (ws' := []) [] (by decide) rfl
          have hKc := hK.sub (tys' := []) [] rfl
          refine va_calli (va_runSN (As := [.int (nI k), .int z_2]) (rest := []) ⟨hx, hb, hml, hown, hts⟩ (c_isIn l dC dI H.size (nI k) z_2 ) ⟨va_cnB 2 hts (gN mw_2_15) rfl rfl rfl (hN (RX6, 15, yX8_isIn, RX8) (List.mem_of_getElem? (i := 10) rfl)) (hts _ mw_1_1) (by decide +kernel) ⟨Nat.le_of_ble_eq_true rfl, Nat.le_of_ble_eq_true rfl⟩, (hts _ mw_2_14), trivial⟩ ⟨pcW_blind, pcW_at hPc hKc hDc hN⟩ rfl rfl hl.1 rfl (lv_room (Nat.le_of_ble_eq_true rfl)) dX6_nearestOf_34 ⟨Nat.le_of_ble_eq_true rfl, Nat.le_of_ble_eq_true rfl⟩) hS (fun q h1 h2 => absurd h2 (Nat.not_le.mpr h1)) (fun q h => hA q (Nat.le_trans hS.1 h)) (fun r_9 u t H1 locs ht hvm hw_9 hB hz1 hk1 hS => ?_)
          have hP := keepP hP hk1
          clear hz1 hk1 hB ht hvm hPc hDc hKc
          generalize H1 = H at hP hS ⊢
          rcases fx_bool hw_9 with ⟨rfl, b_10⟩ | ⟨rfl, b_10⟩
          · skip
            refine lv_if_eq (tgt := 51) hx hb dX6_nearestOf_37 (by decide) (fun h => absurd h (by decide)) (fun _ => ?_)
            refine lv_iload hx hb dX6_nearestOf_40 (lv_at hl 1 rfl) ?_
            refine lv_aload_n hx hb dX6_nearestOf_42 rfl (lv_at hl 3 rfl) ?_
            refine lv_iload hx hb dX6_nearestOf_43 (lv_at hl 0 rfl) ?_
            have hPc := hP.sub (ws' := [(h0, .inr (1, [.ref b0, w1, w2, w3, w4, w5, .int (nI cn), w7])), (b0, .inl (kb0, 10, .inl fab))]) [0, 1] rfl
            have hDc := hD.sub (ws' := [(h0, .inr (1, [.ref b0, w1, w2, w3, w4, w5, .int (nI cn), w7])), (b0, .inl (kb0, 10, .inl fab))]) [0, 1] (by decide) rfl
            have hKc := hK.sub (tys' := [(kb0, .int)]) [0] rfl
            refine va_calli (va_runV (As := [.int (nI k)]) (rest := [.int ac]) ⟨hx, hb, hml, hown, hts⟩ (c_aboveOf l dC dI H.size h0 b0 (w1) (w2) (w3) (w4) (w5) cn (w7) kb0 fab k hc (by omega)) (cwV 1 hts (gV mw_2_200 mw_1_205 mw_1_206 mw_1_2 mw_1_207) rfl rfl rfl (by decide +kernel) ⟨Nat.le_of_ble_eq_true rfl, Nat.le_of_ble_eq_true rfl⟩) ⟨pcW_blind, va_recv hKc hPc (ci := 1) (q0 := 0) rfl rfl, pcW_at hPc hKc hDc hN⟩ rfl rfl hl.1 rfl (lv_room (Nat.le_of_ble_eq_true rfl)) dX6_nearestOf_45 ⟨Nat.le_of_ble_eq_true rfl, Nat.le_of_ble_eq_true rfl⟩) hS (fun q h1 h2 => absurd h2 (Nat.not_le.mpr h1)) (fun q h => hA q (Nat.le_trans hS.1 h)) (fun r_11 u t H1 locs ht hvm hw_11 hB hz1 hk1 hS => ?_)
            have hP := keepP hP hk1
            clear hz1 hk1 hB ht hvm hPc hDc hKc
            generalize H1 = H at hP hS ⊢
            obtain rfl : r_11 = (fab k) := hw_11
            refine lv_ior hx hb dX6_nearestOf_48 ?_
            refine lv_istore (lv' := [(4, .int (ac ||| (fab k))), (5, .int (nI k)), (3, .int z_2), (0, .ref h0), (1, .int (nI kq)), (2, .int o)]) hx hb dX6_nearestOf_49 hl (by decide) rfl (fun ls hl => ?_)
            refine lv_iinc (v := (nI (k + 1))) (lv' := [(5, .int (nI (k + 1))), (4, .int (ac ||| (fab k))), (3, .int z_2), (0, .ref h0), (1, .int (nI kq)), (2, .int o)]) hx hb dX6_nearestOf_51 hl (k := 1) rfl (nI_add k 1) (by decide) rfl (fun ls hl => ?_)
            refine lv_goto (tgt := 18) hx hb dX6_nearestOf_54 (by decide) ?_
            exact ih_4 (k + 1) (ac ||| (fab k)) (by omega) (by rw [hac]; exact hid_t (t_yes (by omega) b_10)) (by omega) _ _ hP hS ls (lv_sub hl [0, 1, 2, 3, 4, 5] rfl)
          · skip
            refine lv_if_eq (tgt := 51) hx hb dX6_nearestOf_37 (by decide) (fun _ => ?_) (fun h => absurd (by decide) h)
            refine lv_iinc (v := (nI (k + 1))) (lv' := [(5, .int (nI (k + 1))), (4, .int ac), (3, .int z_2), (0, .ref h0), (1, .int (nI kq)), (2, .int o)]) hx hb dX6_nearestOf_51 hl (k := 0) rfl (nI_add k 1) (by decide) rfl (fun ls hl => ?_)
            refine lv_goto (tgt := 18) hx hb dX6_nearestOf_54 (by decide) ?_
            exact ih_4 (k + 1) ac (by omega) (by rw [hac]; exact hid_f (t_no (by omega) b_10)) (by omega) _ _ hP hS ls (lv_sub hl [0, 1, 2, 3, 4, 5] rfl)
  exact key_3 (((kq + 1) - 0) + 1) 0 0 (by omega) rfl (Nat.lt_succ_self _) _ _ hP hS ls (lv_sub hl [0, 1, 2, 3, 4, 5] rfl)
set_option maxHeartbeats 4000000 in
set_option maxRecDepth 100000 in
theorem c_isInDoubt (l : Launch) (dC : Nat → ClassId) (dI : Nat → Nat → Nat) (sz : Nat) (h0 : Nat) (b0 : Nat) (w1 : Value) (w2 : Value) (w3 : Value) (w4 : Value) (w5 : Value) (cn : Nat) (w7 : Value) (kb0 : ClassId) (fab : Nat → Int32) (kq : Nat) (o : Int32) (hc : cn ≤ 10) (hkq : kq < cn) : Met l yX6_isInDoubt (wq yX6_isInDoubt cX6_isInDoubt 3 (some .boolean)) ({ frames := 3, cells := 0, slots := 0, locals := 67 }) (va_Pc [.ref h0, .int (nI kq), .int o] (pcW dC dI [(kb0, .int)] [(h0, .inr (1, [.ref b0, w1, w2, w3, w4, w5, .int (nI cn), w7])), (b0, .inl (kb0, 10, .inl fab))] sz)) (va_Qi (fun (r : Int32) (_ : Unit) => r = (if 2 ≤ Int32.toInt (bcF (nrC fab kq o)) then 1 else 0)) (fun _ _ => True) (fun q : Nat => sz ≤ q)) 0 0 (fun q : Nat => sz ≤ q) := by
  refine Met.ofW (cc := cX6_isInDoubt) (maxL := 3) (ret := (some .boolean)) (by decide) rfl ?_
  intro p e s m args below meth c s₁ B hml hv
  obtain ⟨rfl, hsz, hN, hP, hK, hD0⟩ := hv
  have hx := B.exec
  have hb := B.bytes
  have hr := B.returns
  have hts0 := atoms_spec (ws := (wq yX6_isInDoubt cX6_isInDoubt 3 (some .boolean))) B.pre
  have hts : ∀ w ∈ BG, w.before _ s = true := fun w h => hts0 w (List.mem_cons_of_mem _ h)
  have hown : s.vm.findClass RX6 = some m.cls := findClass_of_methodNamed B.named
  have hlocks := B.notSynchronized
  subst hsz
  have hA : ∀ q : Nat, s.heap.size ≤ q → (fun q : Nat => s.heap.size ≤ q) q := fun _ h => h
  have hD := hD0
  have hS : va_S (fun q : Nat => s.heap.size ≤ q) s.heap s.heap [] := va_S.rf
  have hP : va_P (dC, dI) vwCl [(h0, .inr (1, [.ref b0, w1, w2, w3, w4, w5, .int (nI cn), w7])), (b0, .inl (kb0, 10, .inl fab))] s.heap := hP
  have hl := lv_entry ([.ref h0, .int (nI kq), .int o]) (n := 3) (Nat.le_of_ble_eq_true rfl)
  rw [lg_entry_eq]
  generalize (lg_sl ([.ref h0, .int (nI kq), .int o]) ++ List.replicate (3 - (lg_sl ([.ref h0, .int (nI kq), .int o])).length) Slot.unset).toArray = ls at hl ⊢
  have hl : lv_has ls 3 [(0, .ref h0), (1, .int (nI kq)), (2, .int o)] := hl
  refine lv_aload_n hx hb dX6_isInDoubt_0 rfl (lv_at hl 0 rfl) ?_
  refine lv_iload_n hx hb dX6_isInDoubt_1 rfl (lv_at hl 1 rfl) ?_
  refine lv_iload_n hx hb dX6_isInDoubt_2 rfl (lv_at hl 2 rfl) ?_
  have hPc := hP.sub (ws' := [(h0, .inr (1, [.ref b0, w1, w2, w3, w4, w5, .int (nI cn), w7])), (b0, .inl (kb0, 10, .inl fab))]) [0, 1] rfl
  have hDc := hD.sub (ws' := [(h0, .inr (1, [.ref b0, w1, w2, w3, w4, w5, .int (nI cn), w7])), (b0, .inl (kb0, 10, .inl fab))]) [0, 1] (by decide) rfl
  have hKc := hK.sub (tys' := [(kb0, .int)]) [0] rfl
  refine va_calli (va_runS (As := [.ref h0, .int (nI kq), .int o]) (rest := []) ⟨hx, hb, hml, hown, hts⟩ (c_nearestOf l dC dI s.heap.size h0 b0 (w1) (w2) (w3) (w4) (w5) cn (w7) kb0 fab kq o hc hkq) (va_cwS 3 hts (gS mw_2_216 mw_2_198 mw_1_11 mw_2_199) rfl rfl rfl (by decide +kernel) ⟨Nat.le_of_ble_eq_true rfl, Nat.le_of_ble_eq_true rfl⟩) ⟨pcW_blind, pcW_at hPc hKc hDc hN⟩ rfl rfl hl.1 rfl (lv_room (Nat.le_of_ble_eq_true rfl)) dX6_isInDoubt_3 ⟨Nat.le_of_ble_eq_true rfl, Nat.le_of_ble_eq_true rfl⟩) hS (fun q h1 h2 => absurd h2 (Nat.not_le.mpr h1)) (fun q h => hA q (Nat.le_trans hS.1 h)) (fun r_1 u t H1 locs ht hvm hw_1 hB hz1 hk1 hS => ?_)
  have hP := keepP hP hk1
  clear hz1 hk1 hB ht hvm hPc hDc hKc
  generalize H1 = H at hP hS ⊢
  obtain rfl : r_1 = (nrC fab kq o) := hw_1
  have hPc := hP.sub (ws' := []) [] rfl
  have hDc := hD.sub (ws' := []) [] (by decide) rfl
  have hKc := hK.sub (tys' := []) [] rfl
  refine va_calli (va_runS (As := [.int (nrC fab kq o)]) (rest := []) ⟨hx, hb, hml, hown, hts⟩ (c_bit l dC dI H.size (nrC fab kq o) ) (va_cwS 1 hts (gS mw_2_217 mw_2_218 mw_1_12 mw_2_219) rfl rfl rfl (by decide +kernel) ⟨Nat.le_of_ble_eq_true rfl, Nat.le_of_ble_eq_true rfl⟩) ⟨pcW_blind, pcW_at hPc hKc hDc hN⟩ rfl rfl hl.1 rfl (lv_room (Nat.le_of_ble_eq_true rfl)) dX6_isInDoubt_6 ⟨Nat.le_of_ble_eq_true rfl, Nat.le_of_ble_eq_true rfl⟩) hS (fun q h1 h2 => absurd h2 (Nat.not_le.mpr h1)) (fun q h => hA q (Nat.le_trans hS.1 h)) (fun r_2 u t H1 locs ht hvm hw_2 hB hz1 hk1 hS => ?_)
  have hP := keepP hP hk1
  clear hz1 hk1 hB ht hvm hPc hDc hKc
  generalize H1 = H at hP hS ⊢
  obtain rfl : r_2 = (bcF (nrC fab kq o)) := hw_2
  refine lv_iconst (v := 2) hx hb dX6_isInDoubt_9 (by decide) ?_
  refine lv_icmp_lt (tgt := 17) hx hb dX6_isInDoubt_10 (by decide) (fun c_3 => ?_) (fun c_3 => ?_)
  · have b_4 := gx_lt (X := (Int32.toInt (bcF (nrC fab kq o)))) (C := 2) rfl (by decide) c_3
    refine lv_iconst (v := 0) hx hb dX6_isInDoubt_17 (by decide) ?_
    exact W.zret (v := 0) hx hb hr (by decide) (fun t ht hW => ⟨⟨0, (), rfl, (by first | exact (if_pos (by omega)).symm | exact (if_neg (by omega)).symm), trivial⟩, hS.F ht⟩) hS.2.2 dX6_isInDoubt_18
  · have b_4 := gn_lt (X := (Int32.toInt (bcF (nrC fab kq o)))) (C := 2) rfl (by decide) c_3
    refine lv_iconst (v := 1) hx hb dX6_isInDoubt_13 (by decide) ?_
    refine lv_goto (tgt := 18) hx hb dX6_isInDoubt_14 (by decide) ?_
    exact W.zret (v := 1) hx hb hr (by decide) (fun t ht hW => ⟨⟨1, (), rfl, (by first | exact (if_pos (by omega)).symm | exact (if_neg (by omega)).symm), trivial⟩, hS.F ht⟩) hS.2.2 dX6_isInDoubt_18
set_option maxHeartbeats 4000000 in
set_option maxRecDepth 100000 in
theorem c_doubtful (l : Launch) (dC : Nat → ClassId) (dI : Nat → Nat → Nat) (sz : Nat) (h0 : Nat) (b0 : Nat) (w1 : Value) (w2 : Value) (w3 : Value) (w4 : Value) (w5 : Value) (cn : Nat) (w7 : Value) (kb0 : ClassId) (fab : Nat → Int32) (o : Int32) (hc : cn ≤ 10) : Met l yX6_doubtful (wq yX6_doubtful cX6_doubtful 5 (some .int)) ({ frames := 4, cells := 0, slots := 0, locals := 89 }) (va_Pc [.ref h0, .int o] (pcW dC dI [(kb0, .int)] [(h0, .inr (1, [.ref b0, w1, w2, w3, w4, w5, .int (nI cn), w7])), (b0, .inl (kb0, 10, .inl fab))] sz)) (va_Qi (fun (r : Int32) (_ : Unit) => r = (dbC fab cn o)) (fun _ _ => True) (fun q : Nat => sz ≤ q)) 0 0 (fun q : Nat => sz ≤ q) := by
  refine Met.ofW (cc := cX6_doubtful) (maxL := 5) (ret := (some .int)) (by decide) rfl ?_
  intro p e s m args below meth c s₁ B hml hv
  obtain ⟨rfl, hsz, hN, hP, hK, hD0⟩ := hv
  have hx := B.exec
  have hb := B.bytes
  have hr := B.returns
  have hts0 := atoms_spec (ws := (wq yX6_doubtful cX6_doubtful 5 (some .int))) B.pre
  have hts : ∀ w ∈ BG, w.before _ s = true := fun w h => hts0 w (List.mem_cons_of_mem _ h)
  have hown : s.vm.findClass RX6 = some m.cls := findClass_of_methodNamed B.named
  have hlocks := B.notSynchronized
  subst hsz
  have hA : ∀ q : Nat, s.heap.size ≤ q → (fun q : Nat => s.heap.size ≤ q) q := fun _ h => h
  have hD := hD0
  have hS : va_S (fun q : Nat => s.heap.size ≤ q) s.heap s.heap [] := va_S.rf
  have hP : va_P (dC, dI) vwCl [(h0, .inr (1, [.ref b0, w1, w2, w3, w4, w5, .int (nI cn), w7])), (b0, .inl (kb0, 10, .inl fab))] s.heap := hP
  have hl := lv_entry ([.ref h0, .int o]) (n := 5) (Nat.le_of_ble_eq_true rfl)
  rw [lg_entry_eq]
  generalize (lg_sl ([.ref h0, .int o]) ++ List.replicate (5 - (lg_sl ([.ref h0, .int o])).length) Slot.unset).toArray = ls at hl ⊢
  have hl : lv_has ls 5 [(0, .ref h0), (1, .int o)] := hl
  refine lv_iconst (v := 0) hx hb dX6_doubtful_0 (by decide) ?_
  refine lv_istore_n (lv' := [(2, .int 0), (0, .ref h0), (1, .int o)]) hx hb dX6_doubtful_1 rfl hl (by decide) rfl (fun ls hl => ?_)
  refine lv_aload_n hx hb dX6_doubtful_2 rfl (lv_at hl 1 rfl) ?_
  have hPc := hP.sub (ws' := [(h0, .inr (1, [.ref b0, w1, w2, w3, w4, w5, .int (nI cn), w7]))]) [0] rfl
  have hDc := hD.sub (ws' := [(h0, .inr (1, [.ref b0, w1, w2, w3, w4, w5, .int (nI cn), w7]))]) [0] (by decide) rfl
  have hKc := hK.sub (tys' := []) [] rfl
  refine va_calli (va_runV (As := []) (rest := []) ⟨hx, hb, hml, hown, hts⟩ (c_howMany l dC dI s.heap.size h0 (.ref b0) (w1) (w2) (w3) (w4) (w5) cn (w7) hc) (cwV 0 hts (gV mw_2_209 mw_2_210 mw_2_211 mw_1_2 mw_2_212) rfl rfl rfl (by decide +kernel) ⟨Nat.le_of_ble_eq_true rfl, Nat.le_of_ble_eq_true rfl⟩) ⟨pcW_blind, va_recv hKc hPc (ci := 1) (q0 := 0) rfl rfl, pcW_at hPc hKc hDc hN⟩ rfl rfl hl.1 rfl (lv_room (Nat.le_of_ble_eq_true rfl)) dX6_doubtful_3 ⟨Nat.le_of_ble_eq_true rfl, Nat.le_of_ble_eq_true rfl⟩) hS (fun q h1 h2 => absurd h2 (Nat.not_le.mpr h1)) (fun q h => hA q (Nat.le_trans hS.1 h)) (fun r_1 u t H1 locs ht hvm hw_1 hB hz1 hk1 hS => ?_)
  have hP := keepP hP hk1
  clear hz1 hk1 hB ht hvm hPc hDc hKc
  generalize H1 = H at hP hS ⊢
  obtain rfl : r_1 = nI cn := hw_1
  refine lv_istore_n (lv' := [(3, .int (nI cn)), (2, .int 0), (0, .ref h0), (1, .int o)]) hx hb dX6_doubtful_6 rfl hl (by decide) rfl (fun ls hl => ?_)
  refine lv_iconst (v := 0) hx hb dX6_doubtful_7 (by decide) ?_
  refine lv_istore (lv' := [(4, .int 0), (3, .int (nI cn)), (2, .int 0), (0, .ref h0), (1, .int o)]) hx hb dX6_doubtful_8 hl (by decide) rfl (fun ls hl => ?_)
  have key_2 : ∀ (fu : Nat) (k : Nat) (ac : Int32), (k ≤ cn) → (ac = bitsF (fun k => decide (2 ≤ (bcF (nrC fab k o)).toInt)) k) → cn - k < fu → ∀ (H : Heap) (locs : List Loc), va_P (dC, dI) vwCl [(h0, .inr (1, [.ref b0, w1, w2, w3, w4, w5, .int (nI cn), w7])), (b0, .inl (kb0, 10, .inl fab))] H → va_S (fun q : Nat => s.heap.size ≤ q) s.heap H locs → ∀ (ls : Array Slot), lv_has ls 5 [(4, .int (nI k)), (3, .int (nI cn)), (2, .int ac), (0, .ref h0), (1, .int o)] → W p l e (headSpec (wq yX6_doubtful cX6_doubtful 5 (some .int)) ({ frames := 4, cells := 0, slots := 0, locals := 89 })).room s m (([.ref h0, .int o] : List Value)).toArray below meth c H locs 0 0 (MQ below (va_Qi (fun (r : Int32) (_ : Unit) => r = (dbC fab cn o)) (fun _ _ => True) (fun q : Nat => s.heap.size ≤ q)) (([.ref h0, .int o] : List Value)).toArray s 0 0 (fun q : Nat => s.heap.size ≤ q)) (F0 m 10 ls []) := by
    intro fu
    induction fu with
    | zero => intro k ac hk hac hme; exact absurd hme (Nat.not_lt_zero _)
    | succ fu ih_3 =>
      intro k ac hk hac hme H locs hP hS ls hl
      refine lv_iload hx hb dX6_doubtful_10 (lv_at hl 0 rfl) ?_
      refine lv_iload_n hx hb dX6_doubtful_12 rfl (lv_at hl 1 rfl) ?_
      refine lv_icmp_ge (tgt := 39) hx hb dX6_doubtful_13 (by decide) (fun c_4 => ?_) (fun c_4 => ?_)
      · have b_5 := gx_ge (X := ((k : Nat) : Int)) (C := ((cn : Nat) : Int)) (nI_toInt (by omega)) (nI_toInt (by omega)) c_4
        refine lv_iload_n hx hb dX6_doubtful_39 rfl (lv_at hl 2 rfl) ?_
        exact W.iret (v := ac) hx hb hr (fun t ht hW => ⟨⟨ac, (), rfl, (by rw [hac, show k = cn from (by omega)]; rfl), trivial⟩, hS.F ht⟩) hS.2.2 dX6_doubtful_40
      · have b_5 := gn_ge (X := ((k : Nat) : Int)) (C := ((cn : Nat) : Int)) (nI_toInt (by omega)) (nI_toInt (by omega)) c_4
        refine lv_aload_n hx hb dX6_doubtful_16 rfl (lv_at hl 3 rfl) ?_
        refine lv_iload hx hb dX6_doubtful_17 (lv_at hl 0 rfl) ?_
        refine lv_iload_n hx hb dX6_doubtful_19 rfl (lv_at hl 4 rfl) ?_
        have hPc := hP.sub (ws' := [(h0, .inr (1, [.ref b0, w1, w2, w3, w4, w5, .int (nI cn), w7])), (b0, .inl (kb0, 10, .inl fab))]) [0, 1] rfl
        have hDc := hD.sub (ws' := [(h0, .inr (1, [.ref b0, w1, w2, w3, w4, w5, .int (nI cn), w7])), (b0, .inl (kb0, 10, .inl fab))]) [0, 1] (by decide) rfl
        have hKc := hK.sub (tys' := [(kb0, .int)]) [0] rfl
        refine va_calli (va_runS (As := [.ref h0, .int (nI k), .int o]) (rest := []) ⟨hx, hb, hml, hown, hts⟩ (c_isInDoubt l dC dI H.size h0 b0 (w1) (w2) (w3) (w4) (w5) cn (w7) kb0 fab k o hc (by omega)) (va_cwS 3 hts (gS mw_2_213 mw_2_214 mw_1_11 mw_2_215) rfl rfl rfl (by decide +kernel) ⟨Nat.le_of_ble_eq_true rfl, Nat.le_of_ble_eq_true rfl⟩) ⟨pcW_blind, pcW_at hPc hKc hDc hN⟩ rfl rfl hl.1 rfl (lv_room (Nat.le_of_ble_eq_true rfl)) dX6_doubtful_20 ⟨Nat.le_of_ble_eq_true rfl, Nat.le_of_ble_eq_true rfl⟩) hS (fun q h1 h2 => absurd h2 (Nat.not_le.mpr h1)) (fun q h => hA q (Nat.le_trans hS.1 h)) (fun r_6 u t H1 locs ht hvm hw_6 hB hz1 hk1 hS => ?_)
        have hP := keepP hP hk1
        clear hz1 hk1 hB ht hvm hPc hDc hKc
        generalize H1 = H at hP hS ⊢
        rcases fx_bool hw_6 with ⟨rfl, b_7⟩ | ⟨rfl, b_7⟩
        · skip
          refine lv_if_eq (tgt := 33) hx hb dX6_doubtful_23 (by decide) (fun h => absurd h (by decide)) (fun _ => ?_)
          refine lv_iload_n hx hb dX6_doubtful_26 rfl (lv_at hl 2 rfl) ?_
          refine lv_iconst (v := 1) hx hb dX6_doubtful_27 (by decide) ?_
          refine lv_iload hx hb dX6_doubtful_28 (lv_at hl 0 rfl) ?_
          refine lv_ishl hx hb dX6_doubtful_30 ?_
          refine lv_ior hx hb dX6_doubtful_31 ?_
          refine lv_istore_n (lv' := [(2, .int (ac ||| (1 <<< ((nI k) &&& 31)))), (4, .int (nI k)), (3, .int (nI cn)), (0, .ref h0), (1, .int o)]) hx hb dX6_doubtful_32 rfl hl (by decide) rfl (fun ls hl => ?_)
          refine lv_iinc (v := (nI (k + 1))) (lv' := [(4, .int (nI (k + 1))), (2, .int (ac ||| (1 <<< ((nI k) &&& 31)))), (3, .int (nI cn)), (0, .ref h0), (1, .int o)]) hx hb dX6_doubtful_33 hl (k := 1) rfl (nI_add k 1) (by decide) rfl (fun ls hl => ?_)
          refine lv_goto (tgt := 10) hx hb dX6_doubtful_36 (by decide) ?_
          exact ih_3 (k + 1) (ac ||| (1 <<< ((nI k) &&& 31))) (by omega) (by rw [hac]; exact bits_t (decide_eq_true b_7)) (by omega) _ _ hP hS ls (lv_sub hl [0, 2, 1, 3, 4] rfl)
        · skip
          refine lv_if_eq (tgt := 33) hx hb dX6_doubtful_23 (by decide) (fun _ => ?_) (fun h => absurd (by decide) h)
          refine lv_iinc (v := (nI (k + 1))) (lv' := [(4, .int (nI (k + 1))), (3, .int (nI cn)), (2, .int ac), (0, .ref h0), (1, .int o)]) hx hb dX6_doubtful_33 hl (k := 0) rfl (nI_add k 1) (by decide) rfl (fun ls hl => ?_)
          refine lv_goto (tgt := 10) hx hb dX6_doubtful_36 (by decide) ?_
          exact ih_3 (k + 1) ac (by omega) (by rw [hac]; exact bits_f (decide_eq_false b_7)) (by omega) _ _ hP hS ls (lv_sub hl [0, 1, 2, 3, 4] rfl)
  exact key_2 ((cn - 0) + 1) 0 0 (by omega) rfl (Nat.lt_succ_self _) _ _ hP hS ls (lv_sub hl [0, 1, 2, 3, 4] rfl)
set_option maxHeartbeats 4000000 in
set_option maxRecDepth 100000 in
theorem c_settlers (l : Launch) (dC : Nat → ClassId) (dI : Nat → Nat → Nat) (sz : Nat) (h0 : Nat) (b0 : Nat) (w1 : Value) (w2 : Value) (w3 : Value) (w4 : Value) (w5 : Value) (cn : Nat) (w7 : Value) (kb0 : ClassId) (fab : Nat → Int32) (o : Int32) (hc : cn ≤ 10) : Met l yX6_settlers (wq yX6_settlers cX6_settlers 5 (some .int)) ({ frames := 4, cells := 0, slots := 0, locals := 89 }) (va_Pc [.ref h0, .int o] (pcW dC dI [(kb0, .int)] [(h0, .inr (1, [.ref b0, w1, w2, w3, w4, w5, .int (nI cn), w7])), (b0, .inl (kb0, 10, .inl fab))] sz)) (va_Qi (fun (r : Int32) (_ : Unit) => r = (stF fab o cn)) (fun _ _ => True) (fun q : Nat => sz ≤ q)) 0 0 (fun q : Nat => sz ≤ q) := by
  refine Met.ofW (cc := cX6_settlers) (maxL := 5) (ret := (some .int)) (by decide) rfl ?_
  intro p e s m args below meth c s₁ B hml hv
  obtain ⟨rfl, hsz, hN, hP, hK, hD0⟩ := hv
  have hx := B.exec
  have hb := B.bytes
  have hr := B.returns
  have hts0 := atoms_spec (ws := (wq yX6_settlers cX6_settlers 5 (some .int))) B.pre
  have hts : ∀ w ∈ BG, w.before _ s = true := fun w h => hts0 w (List.mem_cons_of_mem _ h)
  have hown : s.vm.findClass RX6 = some m.cls := findClass_of_methodNamed B.named
  have hlocks := B.notSynchronized
  subst hsz
  have hA : ∀ q : Nat, s.heap.size ≤ q → (fun q : Nat => s.heap.size ≤ q) q := fun _ h => h
  have hD := hD0
  have hS : va_S (fun q : Nat => s.heap.size ≤ q) s.heap s.heap [] := va_S.rf
  have hP : va_P (dC, dI) vwCl [(h0, .inr (1, [.ref b0, w1, w2, w3, w4, w5, .int (nI cn), w7])), (b0, .inl (kb0, 10, .inl fab))] s.heap := hP
  have hl := lv_entry ([.ref h0, .int o]) (n := 5) (Nat.le_of_ble_eq_true rfl)
  rw [lg_entry_eq]
  generalize (lg_sl ([.ref h0, .int o]) ++ List.replicate (5 - (lg_sl ([.ref h0, .int o])).length) Slot.unset).toArray = ls at hl ⊢
  have hl : lv_has ls 5 [(0, .ref h0), (1, .int o)] := hl
  refine lv_iconst (v := 0) hx hb dX6_settlers_0 (by decide) ?_
  refine lv_istore_n (lv' := [(2, .int 0), (0, .ref h0), (1, .int o)]) hx hb dX6_settlers_1 rfl hl (by decide) rfl (fun ls hl => ?_)
  refine lv_aload_n hx hb dX6_settlers_2 rfl (lv_at hl 1 rfl) ?_
  have hPc := hP.sub (ws' := [(h0, .inr (1, [.ref b0, w1, w2, w3, w4, w5, .int (nI cn), w7]))]) [0] rfl
  have hDc := hD.sub (ws' := [(h0, .inr (1, [.ref b0, w1, w2, w3, w4, w5, .int (nI cn), w7]))]) [0] (by decide) rfl
  have hKc := hK.sub (tys' := []) [] rfl
  refine va_calli (va_runV (As := []) (rest := []) ⟨hx, hb, hml, hown, hts⟩ (c_howMany l dC dI s.heap.size h0 (.ref b0) (w1) (w2) (w3) (w4) (w5) cn (w7) hc) (cwV 0 hts (gV mw_2_209 mw_2_210 mw_2_211 mw_1_2 mw_2_212) rfl rfl rfl (by decide +kernel) ⟨Nat.le_of_ble_eq_true rfl, Nat.le_of_ble_eq_true rfl⟩) ⟨pcW_blind, va_recv hKc hPc (ci := 1) (q0 := 0) rfl rfl, pcW_at hPc hKc hDc hN⟩ rfl rfl hl.1 rfl (lv_room (Nat.le_of_ble_eq_true rfl)) dX6_settlers_3 ⟨Nat.le_of_ble_eq_true rfl, Nat.le_of_ble_eq_true rfl⟩) hS (fun q h1 h2 => absurd h2 (Nat.not_le.mpr h1)) (fun q h => hA q (Nat.le_trans hS.1 h)) (fun r_1 u t H1 locs ht hvm hw_1 hB hz1 hk1 hS => ?_)
  have hP := keepP hP hk1
  clear hz1 hk1 hB ht hvm hPc hDc hKc
  generalize H1 = H at hP hS ⊢
  obtain rfl : r_1 = nI cn := hw_1
  refine lv_istore_n (lv' := [(3, .int (nI cn)), (2, .int 0), (0, .ref h0), (1, .int o)]) hx hb dX6_settlers_6 rfl hl (by decide) rfl (fun ls hl => ?_)
  refine lv_iconst (v := 0) hx hb dX6_settlers_7 (by decide) ?_
  refine lv_istore (lv' := [(4, .int 0), (3, .int (nI cn)), (2, .int 0), (0, .ref h0), (1, .int o)]) hx hb dX6_settlers_8 hl (by decide) rfl (fun ls hl => ?_)
  have key_2 : ∀ (fu : Nat) (k : Nat) (ac : Int32), (k ≤ cn) → (ac = stF fab o k) → cn - k < fu → ∀ (H : Heap) (locs : List Loc), va_P (dC, dI) vwCl [(h0, .inr (1, [.ref b0, w1, w2, w3, w4, w5, .int (nI cn), w7])), (b0, .inl (kb0, 10, .inl fab))] H → va_S (fun q : Nat => s.heap.size ≤ q) s.heap H locs → ∀ (ls : Array Slot), lv_has ls 5 [(4, .int (nI k)), (3, .int (nI cn)), (2, .int ac), (0, .ref h0), (1, .int o)] → W p l e (headSpec (wq yX6_settlers cX6_settlers 5 (some .int)) ({ frames := 4, cells := 0, slots := 0, locals := 89 })).room s m (([.ref h0, .int o] : List Value)).toArray below meth c H locs 0 0 (MQ below (va_Qi (fun (r : Int32) (_ : Unit) => r = (stF fab o cn)) (fun _ _ => True) (fun q : Nat => s.heap.size ≤ q)) (([.ref h0, .int o] : List Value)).toArray s 0 0 (fun q : Nat => s.heap.size ≤ q)) (F0 m 10 ls []) := by
    intro fu
    induction fu with
    | zero => intro k ac hk hac hme; exact absurd hme (Nat.not_lt_zero _)
    | succ fu ih_3 =>
      intro k ac hk hac hme H locs hP hS ls hl
      refine lv_iload hx hb dX6_settlers_10 (lv_at hl 0 rfl) ?_
      refine lv_iload_n hx hb dX6_settlers_12 rfl (lv_at hl 1 rfl) ?_
      refine lv_icmp_ge (tgt := 41) hx hb dX6_settlers_13 (by decide) (fun c_4 => ?_) (fun c_4 => ?_)
      · have b_5 := gx_ge (X := ((k : Nat) : Int)) (C := ((cn : Nat) : Int)) (nI_toInt (by omega)) (nI_toInt (by omega)) c_4
        refine lv_iload_n hx hb dX6_settlers_41 rfl (lv_at hl 2 rfl) ?_
        exact W.iret (v := ac) hx hb hr (fun t ht hW => ⟨⟨ac, (), rfl, (by rw [hac, show k = cn from (by omega)]), trivial⟩, hS.F ht⟩) hS.2.2 dX6_settlers_42
      · have b_5 := gn_ge (X := ((k : Nat) : Int)) (C := ((cn : Nat) : Int)) (nI_toInt (by omega)) (nI_toInt (by omega)) c_4
        refine lv_aload_n hx hb dX6_settlers_16 rfl (lv_at hl 3 rfl) ?_
        refine lv_iload hx hb dX6_settlers_17 (lv_at hl 0 rfl) ?_
        refine lv_iload_n hx hb dX6_settlers_19 rfl (lv_at hl 4 rfl) ?_
        refine lv_iload_n hx hb dX6_settlers_20 rfl (lv_at hl 2 rfl) ?_
        refine lv_ior hx hb dX6_settlers_21 ?_
        have hPc := hP.sub (ws' := [(h0, .inr (1, [.ref b0, w1, w2, w3, w4, w5, .int (nI cn), w7])), (b0, .inl (kb0, 10, .inl fab))]) [0, 1] rfl
        have hDc := hD.sub (ws' := [(h0, .inr (1, [.ref b0, w1, w2, w3, w4, w5, .int (nI cn), w7])), (b0, .inl (kb0, 10, .inl fab))]) [0, 1] (by decide) rfl
        have hKc := hK.sub (tys' := [(kb0, .int)]) [0] rfl
        refine va_calli (va_runS (As := [.ref h0, .int (nI k), .int (o ||| ac)]) (rest := []) ⟨hx, hb, hml, hown, hts⟩ (c_isInDoubt l dC dI H.size h0 b0 (w1) (w2) (w3) (w4) (w5) cn (w7) kb0 fab k (o ||| ac) hc (by omega)) (va_cwS 3 hts (gS mw_2_213 mw_2_214 mw_1_11 mw_2_215) rfl rfl rfl (by decide +kernel) ⟨Nat.le_of_ble_eq_true rfl, Nat.le_of_ble_eq_true rfl⟩) ⟨pcW_blind, pcW_at hPc hKc hDc hN⟩ rfl rfl hl.1 rfl (lv_room (Nat.le_of_ble_eq_true rfl)) dX6_settlers_22 ⟨Nat.le_of_ble_eq_true rfl, Nat.le_of_ble_eq_true rfl⟩) hS (fun q h1 h2 => absurd h2 (Nat.not_le.mpr h1)) (fun q h => hA q (Nat.le_trans hS.1 h)) (fun r_6 u t H1 locs ht hvm hw_6 hB hz1 hk1 hS => ?_)
        have hP := keepP hP hk1
        clear hz1 hk1 hB ht hvm hPc hDc hKc
        generalize H1 = H at hP hS ⊢
        rcases fx_bool hw_6 with ⟨rfl, b_7⟩ | ⟨rfl, b_7⟩
        · skip
          refine lv_if_eq (tgt := 35) hx hb dX6_settlers_25 (by decide) (fun h => absurd h (by decide)) (fun _ => ?_)
          refine lv_iload_n hx hb dX6_settlers_28 rfl (lv_at hl 2 rfl) ?_
          refine lv_iconst (v := 1) hx hb dX6_settlers_29 (by decide) ?_
          refine lv_iload hx hb dX6_settlers_30 (lv_at hl 0 rfl) ?_
          refine lv_ishl hx hb dX6_settlers_32 ?_
          refine lv_ior hx hb dX6_settlers_33 ?_
          refine lv_istore_n (lv' := [(2, .int (ac ||| (1 <<< ((nI k) &&& 31)))), (4, .int (nI k)), (3, .int (nI cn)), (0, .ref h0), (1, .int o)]) hx hb dX6_settlers_34 rfl hl (by decide) rfl (fun ls hl => ?_)
          refine lv_iinc (v := (nI (k + 1))) (lv' := [(4, .int (nI (k + 1))), (2, .int (ac ||| (1 <<< ((nI k) &&& 31)))), (3, .int (nI cn)), (0, .ref h0), (1, .int o)]) hx hb dX6_settlers_35 hl (k := 1) rfl (nI_add k 1) (by decide) rfl (fun ls hl => ?_)
          refine lv_goto (tgt := 10) hx hb dX6_settlers_38 (by decide) ?_
          exact ih_3 (k + 1) (ac ||| (1 <<< ((nI k) &&& 31))) (by omega) (by subst hac; exact (if_pos b_7).symm) (by omega) _ _ hP hS ls (lv_sub hl [0, 2, 1, 3, 4] rfl)
        · skip
          refine lv_if_eq (tgt := 35) hx hb dX6_settlers_25 (by decide) (fun _ => ?_) (fun h => absurd (by decide) h)
          refine lv_iinc (v := (nI (k + 1))) (lv' := [(4, .int (nI (k + 1))), (3, .int (nI cn)), (2, .int ac), (0, .ref h0), (1, .int o)]) hx hb dX6_settlers_35 hl (k := 0) rfl (nI_add k 1) (by decide) rfl (fun ls hl => ?_)
          refine lv_goto (tgt := 10) hx hb dX6_settlers_38 (by decide) ?_
          exact ih_3 (k + 1) ac (by omega) (by subst hac; exact (if_neg b_7).symm) (by omega) _ _ hP hS ls (lv_sub hl [0, 1, 2, 3, 4] rfl)
  exact key_2 ((cn - 0) + 1) 0 0 (by omega) rfl (Nat.lt_succ_self _) _ _ hP hS ls (lv_sub hl [0, 1, 2, 3, 4] rfl)
set_option maxHeartbeats 4000000 in
set_option maxRecDepth 100000 in
theorem c_shifted (l : Launch) (dC : Nat → ClassId) (dI : Nat → Nat → Nat) (sz : Nat) (h0 : Nat) (w0 : Value) (b1 : Nat) (w2 : Value) (b3 : Nat) (w4 : Value) (w5 : Value) (cn : Nat) (w7 : Value) (kb1 : ClassId) (fle : Nat → Int32) (kb3 : ClassId) (fli : Nat → Int32) (kq : Nat) (o : Int32) (hc : cn ≤ 10) (hle : BdOk 10 10 fle) (hlk : LnOk fle fli cn) (hk10 : kq < 10) : Met l yX6_shifted (wq yX6_shifted cX6_shifted 7 (some .int)) ({ frames := 4, cells := 0, slots := 0, locals := 90 }) (va_Pc [.ref h0, .int (nI kq), .int o] (pcW dC dI [(kb1, .int), (kb3, .int)] [(h0, .inr (1, [w0, .ref b1, w2, .ref b3, w4, w5, .int (nI cn), w7])), (b1, .inl (kb1, 10, .inl fle)), (b3, .inl (kb3, 100, .inl fli))] sz)) (va_Qi (fun (r : Int32) (_ : Unit) => r = (shC fle fli cn kq o)) (fun _ _ => True) (fun q : Nat => sz ≤ q)) 0 0 (fun q : Nat => sz ≤ q) := by
  refine Met.ofW (cc := cX6_shifted) (maxL := 7) (ret := (some .int)) (by decide) rfl ?_
  intro p e s m args below meth c s₁ B hml hv
  obtain ⟨rfl, hsz, hN, hP, hK, hD0⟩ := hv
  have hx := B.exec
  have hb := B.bytes
  have hr := B.returns
  have hts0 := atoms_spec (ws := (wq yX6_shifted cX6_shifted 7 (some .int))) B.pre
  have hts : ∀ w ∈ BG, w.before _ s = true := fun w h => hts0 w (List.mem_cons_of_mem _ h)
  have hown : s.vm.findClass RX6 = some m.cls := findClass_of_methodNamed B.named
  have hlocks := B.notSynchronized
  subst hsz
  have hA : ∀ q : Nat, s.heap.size ≤ q → (fun q : Nat => s.heap.size ≤ q) q := fun _ h => h
  have hD := hD0
  have hS : va_S (fun q : Nat => s.heap.size ≤ q) s.heap s.heap [] := va_S.rf
  have hP : va_P (dC, dI) vwCl [(h0, .inr (1, [w0, .ref b1, w2, .ref b3, w4, w5, .int (nI cn), w7])), (b1, .inl (kb1, 10, .inl fle)), (b3, .inl (kb3, 100, .inl fli))] s.heap := hP
  have hl := lv_entry ([.ref h0, .int (nI kq), .int o]) (n := 7) (Nat.le_of_ble_eq_true rfl)
  rw [lg_entry_eq]
  generalize (lg_sl ([.ref h0, .int (nI kq), .int o]) ++ List.replicate (7 - (lg_sl ([.ref h0, .int (nI kq), .int o])).length) Slot.unset).toArray = ls at hl ⊢
  have hl : lv_has ls 7 [(0, .ref h0), (1, .int (nI kq)), (2, .int o)] := hl
  refine lv_iconst (v := 0) hx hb dX6_shifted_0 (by decide) ?_
  refine lv_istore_n (lv' := [(3, .int 0), (0, .ref h0), (1, .int (nI kq)), (2, .int o)]) hx hb dX6_shifted_1 rfl hl (by decide) rfl (fun ls hl => ?_)
  refine lv_aload_n hx hb dX6_shifted_2 rfl (lv_at hl 1 rfl) ?_
  have hPc := hP.sub (ws' := [(h0, .inr (1, [w0, .ref b1, w2, .ref b3, w4, w5, .int (nI cn), w7]))]) [0] rfl
  have hDc := hD.sub (ws' := [(h0, .inr (1, [w0, .ref b1, w2, .ref b3, w4, w5, .int (nI cn), w7]))]) [0] (by decide) rfl
  have hKc := hK.sub (tys' := []) [] rfl
  refine va_calli (va_runV (As := []) (rest := []) ⟨hx, hb, hml, hown, hts⟩ (c_howMany l dC dI s.heap.size h0 (w0) (.ref b1) (w2) (.ref b3) (w4) (w5) cn (w7) hc) (cwV 0 hts (gV mw_2_209 mw_2_210 mw_2_211 mw_1_2 mw_2_212) rfl rfl rfl (by decide +kernel) ⟨Nat.le_of_ble_eq_true rfl, Nat.le_of_ble_eq_true rfl⟩) ⟨pcW_blind, va_recv hKc hPc (ci := 1) (q0 := 0) rfl rfl, pcW_at hPc hKc hDc hN⟩ rfl rfl hl.1 rfl (lv_room (Nat.le_of_ble_eq_true rfl)) dX6_shifted_3 ⟨Nat.le_of_ble_eq_true rfl, Nat.le_of_ble_eq_true rfl⟩) hS (fun q h1 h2 => absurd h2 (Nat.not_le.mpr h1)) (fun q h => hA q (Nat.le_trans hS.1 h)) (fun r_1 u t H1 locs ht hvm hw_1 hB hz1 hk1 hS => ?_)
  have hP := keepP hP hk1
  clear hz1 hk1 hB ht hvm hPc hDc hKc
  generalize H1 = H at hP hS ⊢
  obtain rfl : r_1 = nI cn := hw_1
  refine lv_istore (lv' := [(4, .int (nI cn)), (3, .int 0), (0, .ref h0), (1, .int (nI kq)), (2, .int o)]) hx hb dX6_shifted_6 hl (by decide) rfl (fun ls hl => ?_)
  refine lv_iconst (v := 0) hx hb dX6_shifted_8 (by decide) ?_
  refine lv_istore (lv' := [(5, .int 0), (4, .int (nI cn)), (3, .int 0), (0, .ref h0), (1, .int (nI kq)), (2, .int o)]) hx hb dX6_shifted_9 hl (by decide) rfl (fun ls hl => ?_)
  have key_2 : ∀ (fu : Nat) (k : Nat) (ac : Int32), (k ≤ cn) → (ac = bitsF (fun k => decide (¬ ansF fle fli cn k (o ||| ((1 : Int32) <<< (nI kq &&& 31))) 0 = ansF fle fli cn k o 0)) k) → cn - k < fu → ∀ (H : Heap) (locs : List Loc), va_P (dC, dI) vwCl [(h0, .inr (1, [w0, .ref b1, w2, .ref b3, w4, w5, .int (nI cn), w7])), (b1, .inl (kb1, 10, .inl fle)), (b3, .inl (kb3, 100, .inl fli))] H → va_S (fun q : Nat => s.heap.size ≤ q) s.heap H locs → ∀ (ls : Array Slot), lv_has ls 7 [(5, .int (nI k)), (4, .int (nI cn)), (3, .int ac), (0, .ref h0), (1, .int (nI kq)), (2, .int o)] → W p l e (headSpec (wq yX6_shifted cX6_shifted 7 (some .int)) ({ frames := 4, cells := 0, slots := 0, locals := 90 })).room s m (([.ref h0, .int (nI kq), .int o] : List Value)).toArray below meth c H locs 0 0 (MQ below (va_Qi (fun (r : Int32) (_ : Unit) => r = (shC fle fli cn kq o)) (fun _ _ => True) (fun q : Nat => s.heap.size ≤ q)) (([.ref h0, .int (nI kq), .int o] : List Value)).toArray s 0 0 (fun q : Nat => s.heap.size ≤ q)) (F0 m 11 ls []) := by
    intro fu
    induction fu with
    | zero => intro k ac hk hac hme; exact absurd hme (Nat.not_lt_zero _)
    | succ fu ih_3 =>
      intro k ac hk hac hme H locs hP hS ls hl
      refine lv_iload hx hb dX6_shifted_11 (lv_at hl 0 rfl) ?_
      refine lv_iload hx hb dX6_shifted_13 (lv_at hl 1 rfl) ?_
      refine lv_icmp_ge (tgt := 58) hx hb dX6_shifted_15 (by decide) (fun c_4 => ?_) (fun c_4 => ?_)
      · have b_5 := gx_ge (X := ((k : Nat) : Int)) (C := ((cn : Nat) : Int)) (nI_toInt (by omega)) (nI_toInt (by omega)) c_4
        refine lv_iload_n hx hb dX6_shifted_58 rfl (lv_at hl 2 rfl) ?_
        exact W.iret (v := ac) hx hb hr (fun t ht hW => ⟨⟨ac, (), rfl, (by rw [hac, show k = cn from (by omega)]; rfl), trivial⟩, hS.F ht⟩) hS.2.2 dX6_shifted_59
      · have b_5 := gn_ge (X := ((k : Nat) : Int)) (C := ((cn : Nat) : Int)) (nI_toInt (by omega)) (nI_toInt (by omega)) c_4
        refine lv_aload_n hx hb dX6_shifted_18 rfl (lv_at hl 3 rfl) ?_
        refine lv_iload hx hb dX6_shifted_19 (lv_at hl 0 rfl) ?_
        refine lv_iload_n hx hb dX6_shifted_21 rfl (lv_at hl 5 rfl) ?_
        refine lv_iconst (v := 0) hx hb dX6_shifted_22 (by decide) ?_
        have hPc := hP.sub (ws' := [(h0, .inr (1, [w0, .ref b1, w2, .ref b3, w4, w5, .int (nI cn), w7])), (b1, .inl (kb1, 10, .inl fle)), (b3, .inl (kb3, 100, .inl fli))]) [0, 1, 2] rfl
        have hDc := hD.sub (ws' := [(h0, .inr (1, [w0, .ref b1, w2, .ref b3, w4, w5, .int (nI cn), w7])), (b1, .inl (kb1, 10, .inl fle)), (b3, .inl (kb3, 100, .inl fli))]) [0, 1, 2] (by decide) rfl
        have hKc := hK.sub (tys' := [(kb1, .int), (kb3, .int)]) [0, 1] rfl
        refine va_calli (va_runV (As := [.int (nI k), .int o, .int 0]) (rest := []) ⟨hx, hb, hml, hown, hts⟩ (c_firstOf l dC dI H.size h0 (w0) b1 (w2) b3 (w4) (w5) cn (w7) kb1 fle kb3 fli k o 0 hc hle hlk (by omega) (by omega)) (cwV 3 hts (gV mw_3_1 mw_2_142 mw_2_143 mw_1_2 mw_2_144) rfl rfl rfl (by decide +kernel) ⟨Nat.le_of_ble_eq_true rfl, Nat.le_of_ble_eq_true rfl⟩) ⟨pcW_blind, va_recv hKc hPc (ci := 1) (q0 := 0) rfl rfl, pcW_at hPc hKc hDc hN⟩ rfl rfl hl.1 rfl (lv_room (Nat.le_of_ble_eq_true rfl)) dX6_shifted_23 ⟨Nat.le_of_ble_eq_true rfl, Nat.le_of_ble_eq_true rfl⟩) hS (fun q h1 h2 => absurd h2 (Nat.not_le.mpr h1)) (fun q h => hA q (Nat.le_trans hS.1 h)) (fun r_6 u t H1 locs ht hvm hw_6 hB hz1 hk1 hS => ?_)
        have hP := keepP hP hk1
        clear hz1 hk1 hB ht hvm hPc hDc hKc
        generalize H1 = H at hP hS ⊢
        refine lv_istore (lv' := [(6, .int r_6), (5, .int (nI k)), (4, .int (nI cn)), (3, .int ac), (0, .ref h0), (1, .int (nI kq)), (2, .int o)]) hx hb dX6_shifted_26 hl (by decide) rfl (fun ls hl => ?_)
        refine lv_aload_n hx hb dX6_shifted_28 rfl (lv_at hl 4 rfl) ?_
        refine lv_iload hx hb dX6_shifted_29 (lv_at hl 1 rfl) ?_
        refine lv_iload_n hx hb dX6_shifted_31 rfl (lv_at hl 6 rfl) ?_
        refine lv_iconst (v := 1) hx hb dX6_shifted_32 (by decide) ?_
        refine lv_iload_n hx hb dX6_shifted_33 rfl (lv_at hl 5 rfl) ?_
        refine lv_ishl hx hb dX6_shifted_34 ?_
        refine lv_ior hx hb dX6_shifted_35 ?_
        refine lv_iconst (v := 0) hx hb dX6_shifted_36 (by decide) ?_
        have hPc := hP.sub (ws' := [(h0, .inr (1, [w0, .ref b1, w2, .ref b3, w4, w5, .int (nI cn), w7])), (b1, .inl (kb1, 10, .inl fle)), (b3, .inl (kb3, 100, .inl fli))]) [0, 1, 2] rfl
        have hDc := hD.sub (ws' := [(h0, .inr (1, [w0, .ref b1, w2, .ref b3, w4, w5, .int (nI cn), w7])), (b1, .inl (kb1, 10, .inl fle)), (b3, .inl (kb3, 100, .inl fli))]) [0, 1, 2] (by decide) rfl
        have hKc := hK.sub (tys' := [(kb1, .int), (kb3, .int)]) [0, 1] rfl
        refine va_calli (va_runV (As := [.int (nI k), .int (o ||| (1 <<< ((nI kq) &&& 31))), .int 0]) (rest := []) ⟨hx, hb, hml, hown, hts⟩ (c_firstOf l dC dI H.size h0 (w0) b1 (w2) b3 (w4) (w5) cn (w7) kb1 fle kb3 fli k (o ||| (1 <<< ((nI kq) &&& 31))) 0 hc hle hlk (by omega) (by omega)) (cwV 3 hts (gV mw_3_1 mw_2_142 mw_2_143 mw_1_2 mw_2_144) rfl rfl rfl (by decide +kernel) ⟨Nat.le_of_ble_eq_true rfl, Nat.le_of_ble_eq_true rfl⟩) ⟨pcW_blind, va_recv hKc hPc (ci := 1) (q0 := 0) rfl rfl, pcW_at hPc hKc hDc hN⟩ rfl rfl hl.1 rfl (lv_room (Nat.le_of_ble_eq_true rfl)) dX6_shifted_37 ⟨Nat.le_of_ble_eq_true rfl, Nat.le_of_ble_eq_true rfl⟩) hS (fun q h1 h2 => absurd h2 (Nat.not_le.mpr h1)) (fun q h => hA q (Nat.le_trans hS.1 h)) (fun r_7 u t H1 locs ht hvm hw_7 hB hz1 hk1 hS => ?_)
        have hP := keepP hP hk1
        clear hz1 hk1 hB ht hvm hPc hDc hKc
        generalize H1 = H at hP hS ⊢
        refine lv_iload hx hb dX6_shifted_40 (lv_at hl 0 rfl) ?_
        refine lv_icmp_eq (tgt := 52) hx hb dX6_shifted_42 (by decide) (fun c_8 => ?_) (fun c_8 => ?_)
        · have b_9 := gx_eq (X := (Int32.toInt r_7)) (C := (Int32.toInt r_6)) rfl rfl c_8
          refine lv_iinc (v := (nI (k + 1))) (lv' := [(5, .int (nI (k + 1))), (6, .int r_6), (4, .int (nI cn)), (3, .int ac), (0, .ref h0), (1, .int (nI kq)), (2, .int o)]) hx hb dX6_shifted_52 hl (k := 1) rfl (nI_add k 1) (by decide) rfl (fun ls hl => ?_)
          refine lv_goto (tgt := 11) hx hb dX6_shifted_55 (by decide) ?_
          exact ih_3 (k + 1) ac (by omega) (by rw [hac]; exact bits_f (decide_eq_false (fun q => q (by rw [← hw_6, ← hw_7]; exact c_8)))) (by omega) _ _ hP hS ls (lv_sub hl [0, 2, 3, 4, 5, 6] rfl)
        · have b_9 := gn_eq (X := (Int32.toInt r_7)) (C := (Int32.toInt r_6)) rfl rfl c_8
          refine lv_iload_n hx hb dX6_shifted_45 rfl (lv_at hl 3 rfl) ?_
          refine lv_iconst (v := 1) hx hb dX6_shifted_46 (by decide) ?_
          refine lv_iload hx hb dX6_shifted_47 (lv_at hl 1 rfl) ?_
          refine lv_ishl hx hb dX6_shifted_49 ?_
          refine lv_ior hx hb dX6_shifted_50 ?_
          refine lv_istore_n (lv' := [(3, .int (ac ||| (1 <<< ((nI k) &&& 31)))), (6, .int r_6), (5, .int (nI k)), (4, .int (nI cn)), (0, .ref h0), (1, .int (nI kq)), (2, .int o)]) hx hb dX6_shifted_51 rfl hl (by decide) rfl (fun ls hl => ?_)
          refine lv_iinc (v := (nI (k + 1))) (lv' := [(5, .int (nI (k + 1))), (3, .int (ac ||| (1 <<< ((nI k) &&& 31)))), (6, .int r_6), (4, .int (nI cn)), (0, .ref h0), (1, .int (nI kq)), (2, .int o)]) hx hb dX6_shifted_52 hl (k := 2) rfl (nI_add k 1) (by decide) rfl (fun ls hl => ?_)
          refine lv_goto (tgt := 11) hx hb dX6_shifted_55 (by decide) ?_
          exact ih_3 (k + 1) (ac ||| (1 <<< ((nI k) &&& 31))) (by omega) (by rw [hac]; exact bits_t (decide_eq_true (by rw [← hw_6, ← hw_7]; exact c_8))) (by omega) _ _ hP hS ls (lv_sub hl [0, 3, 1, 4, 5, 6] rfl)
  exact key_2 ((cn - 0) + 1) 0 0 (by omega) rfl (Nat.lt_succ_self _) _ _ hP hS ls (lv_sub hl [0, 1, 2, 3, 4, 5] rfl)
set_option maxHeartbeats 4000000 in
set_option maxRecDepth 100000 in
theorem c_unlike (l : Launch) (dC : Nat → ClassId) (dI : Nat → Nat → Nat) (sz : Nat) (h0 : Nat) (b0 : Nat) (b1 : Nat) (w2 : Value) (b3 : Nat) (w4 : Value) (w5 : Value) (cn : Nat) (bb : Int32) (kb0 : ClassId) (fab : Nat → Int32) (kb1 : ClassId) (fle : Nat → Int32) (kb3 : ClassId) (fli : Nat → Int32) (kq : Nat) (o : Int32) (hc : cn ≤ 10) (hle : BdOk 10 10 fle) (hlk : LnOk fle fli cn) (hk10 : kq < 10) : Met l yX6_unlikeAnswers (wq yX6_unlikeAnswers cX6_unlikeAnswers 8 (some .int)) ({ frames := 4, cells := 0, slots := 0, locals := 90 }) (va_Pc [.ref h0, .int (nI kq), .int o] (pcW dC dI [(kb0, .int), (kb1, .int), (kb3, .int)] [(h0, .inr (1, [.ref b0, .ref b1, w2, .ref b3, w4, w5, .int (nI cn), .int bb])), (b0, .inl (kb0, 10, .inl fab)), (b1, .inl (kb1, 10, .inl fle)), (b3, .inl (kb3, 100, .inl fli))] sz)) (va_Qi (fun (r : Int32) (_ : Unit) => r = (orA (unA fab fle fli cn bb kq o) cn)) (fun _ _ => True) (fun q : Nat => sz ≤ q)) 0 0 (fun q : Nat => sz ≤ q) := by
  refine Met.ofW (cc := cX6_unlikeAnswers) (maxL := 8) (ret := (some .int)) (by decide) rfl ?_
  intro p e s m args below meth c s₁ B hml hv
  obtain ⟨rfl, hsz, hN, hP, hK, hD0⟩ := hv
  have hx := B.exec
  have hb := B.bytes
  have hr := B.returns
  have hts0 := atoms_spec (ws := (wq yX6_unlikeAnswers cX6_unlikeAnswers 8 (some .int))) B.pre
  have hts : ∀ w ∈ BG, w.before _ s = true := fun w h => hts0 w (List.mem_cons_of_mem _ h)
  have hown : s.vm.findClass RX6 = some m.cls := findClass_of_methodNamed B.named
  have hlocks := B.notSynchronized
  subst hsz
  have hA : ∀ q : Nat, s.heap.size ≤ q → (fun q : Nat => s.heap.size ≤ q) q := fun _ h => h
  have hD := hD0
  have hS : va_S (fun q : Nat => s.heap.size ≤ q) s.heap s.heap [] := va_S.rf
  have hP : va_P (dC, dI) vwCl [(h0, .inr (1, [.ref b0, .ref b1, w2, .ref b3, w4, w5, .int (nI cn), .int bb])), (b0, .inl (kb0, 10, .inl fab)), (b1, .inl (kb1, 10, .inl fle)), (b3, .inl (kb3, 100, .inl fli))] s.heap := hP
  have hl := lv_entry ([.ref h0, .int (nI kq), .int o]) (n := 8) (Nat.le_of_ble_eq_true rfl)
  rw [lg_entry_eq]
  generalize (lg_sl ([.ref h0, .int (nI kq), .int o]) ++ List.replicate (8 - (lg_sl ([.ref h0, .int (nI kq), .int o])).length) Slot.unset).toArray = ls at hl ⊢
  have hl : lv_has ls 8 [(0, .ref h0), (1, .int (nI kq)), (2, .int o)] := hl
  refine lv_aload_n hx hb dX6_unlikeAnswers_0 rfl (lv_at hl 0 rfl) ?_
  refine lv_iload_n hx hb dX6_unlikeAnswers_1 rfl (lv_at hl 1 rfl) ?_
  have hPc := hP.sub (ws' := [(h0, .inr (1, [.ref b0, .ref b1, w2, .ref b3, w4, w5, .int (nI cn), .int bb])), (b0, .inl (kb0, 10, .inl fab))]) [0, 1] rfl
  have hDc := hD.sub (ws' := [(h0, .inr (1, [.ref b0, .ref b1, w2, .ref b3, w4, w5, .int (nI cn), .int bb])), (b0, .inl (kb0, 10, .inl fab))]) [0, 1] (by decide) rfl
  have hKc := hK.sub (tys' := [(kb0, .int)]) [0] rfl
  refine va_calli (va_runV (As := [.int (nI kq)]) (rest := []) ⟨hx, hb, hml, hown, hts⟩ (c_belowOf l dC dI s.heap.size h0 b0 (.ref b1) (w2) (.ref b3) (w4) (w5) cn (.int bb) kb0 fab kq hc hk10) (cwV 1 hts (gV mw_3_79 mw_2_43 mw_2_44 mw_1_2 mw_2_45) rfl rfl rfl (by decide +kernel) ⟨Nat.le_of_ble_eq_true rfl, Nat.le_of_ble_eq_true rfl⟩) ⟨pcW_blind, va_recv hKc hPc (ci := 1) (q0 := 0) rfl rfl, pcW_at hPc hKc hDc hN⟩ rfl rfl hl.1 rfl (lv_room (Nat.le_of_ble_eq_true rfl)) dX6_unlikeAnswers_2 ⟨Nat.le_of_ble_eq_true rfl, Nat.le_of_ble_eq_true rfl⟩) hS (fun q h1 h2 => absurd h2 (Nat.not_le.mpr h1)) (fun q h => hA q (Nat.le_trans hS.1 h)) (fun r_1 u t H1 locs ht hvm hw_1 hB hz1 hk1 hS => ?_)
  have hP := keepP hP hk1
  clear hz1 hk1 hB ht hvm hPc hDc hKc
  generalize H1 = H at hP hS ⊢
  obtain rfl : r_1 = (blF fab cn kq) := hw_1
  refine lv_iconst (v := 1) hx hb dX6_unlikeAnswers_5 (by decide) ?_
  refine lv_iload_n hx hb dX6_unlikeAnswers_6 rfl (lv_at hl 1 rfl) ?_
  refine lv_ishl hx hb dX6_unlikeAnswers_7 ?_
  refine lv_ior hx hb dX6_unlikeAnswers_8 ?_
  refine lv_topi (fun z_2 ez_2 => ?_)
  refine lv_istore_n (lv' := [(3, .int z_2), (0, .ref h0), (1, .int (nI kq)), (2, .int o)]) hx hb dX6_unlikeAnswers_9 rfl hl (by decide) rfl (fun ls hl => ?_)
  refine lv_iconst (v := 0) hx hb dX6_unlikeAnswers_10 (by decide) ?_
  refine lv_istore (lv' := [(4, .int 0), (3, .int z_2), (0, .ref h0), (1, .int (nI kq)), (2, .int o)]) hx hb dX6_unlikeAnswers_11 hl (by decide) rfl (fun ls hl => ?_)
  refine lv_aload_n hx hb dX6_unlikeAnswers_13 rfl (lv_at hl 2 rfl) ?_
  have hPc := hP.sub (ws' := [(h0, .inr (1, [.ref b0, .ref b1, w2, .ref b3, w4, w5, .int (nI cn), .int bb]))]) [0] rfl
  have hDc := hD.sub (ws' := [(h0, .inr (1, [.ref b0, .ref b1, w2, .ref b3, w4, w5, .int (nI cn), .int bb]))]) [0] (by decide) rfl
  have hKc := hK.sub (tys' := []) [] rfl
  refine va_calli (va_runV (As := []) (rest := []) ⟨hx, hb, hml, hown, hts⟩ (c_howMany l dC dI H.size h0 (.ref b0) (.ref b1) (w2) (.ref b3) (w4) (w5) cn (.int bb) hc) (cwV 0 hts (gV mw_2_209 mw_2_210 mw_2_211 mw_1_2 mw_2_212) rfl rfl rfl (by decide +kernel) ⟨Nat.le_of_ble_eq_true rfl, Nat.le_of_ble_eq_true rfl⟩) ⟨pcW_blind, va_recv hKc hPc (ci := 1) (q0 := 0) rfl rfl, pcW_at hPc hKc hDc hN⟩ rfl rfl hl.1 rfl (lv_room (Nat.le_of_ble_eq_true rfl)) dX6_unlikeAnswers_14 ⟨Nat.le_of_ble_eq_true rfl, Nat.le_of_ble_eq_true rfl⟩) hS (fun q h1 h2 => absurd h2 (Nat.not_le.mpr h1)) (fun q h => hA q (Nat.le_trans hS.1 h)) (fun r_3 u t H1 locs ht hvm hw_3 hB hz1 hk1 hS => ?_)
  have hP := keepP hP hk1
  clear hz1 hk1 hB ht hvm hPc hDc hKc
  generalize H1 = H at hP hS ⊢
  obtain rfl : r_3 = nI cn := hw_3
  refine lv_istore (lv' := [(5, .int (nI cn)), (4, .int 0), (3, .int z_2), (0, .ref h0), (1, .int (nI kq)), (2, .int o)]) hx hb dX6_unlikeAnswers_17 hl (by decide) rfl (fun ls hl => ?_)
  refine lv_iconst (v := 0) hx hb dX6_unlikeAnswers_19 (by decide) ?_
  refine lv_istore (lv' := [(6, .int 0), (5, .int (nI cn)), (4, .int 0), (3, .int z_2), (0, .ref h0), (1, .int (nI kq)), (2, .int o)]) hx hb dX6_unlikeAnswers_20 hl (by decide) rfl (fun ls hl => ?_)
  have key_4 : ∀ (fu : Nat) (k : Nat) (ac : Int32), (k ≤ cn) → (ac = orA (unA fab fle fli cn bb kq o) k) → cn - k < fu → ∀ (H : Heap) (locs : List Loc), va_P (dC, dI) vwCl [(h0, .inr (1, [.ref b0, .ref b1, w2, .ref b3, w4, w5, .int (nI cn), .int bb])), (b0, .inl (kb0, 10, .inl fab)), (b1, .inl (kb1, 10, .inl fle)), (b3, .inl (kb3, 100, .inl fli))] H → va_S (fun q : Nat => s.heap.size ≤ q) s.heap H locs → ∀ (ls : Array Slot), lv_has ls 8 [(6, .int (nI k)), (5, .int (nI cn)), (4, .int ac), (3, .int z_2), (0, .ref h0), (1, .int (nI kq)), (2, .int o)] → W p l e (headSpec (wq yX6_unlikeAnswers cX6_unlikeAnswers 8 (some .int)) ({ frames := 4, cells := 0, slots := 0, locals := 90 })).room s m (([.ref h0, .int (nI kq), .int o] : List Value)).toArray below meth c H locs 0 0 (MQ below (va_Qi (fun (r : Int32) (_ : Unit) => r = (orA (unA fab fle fli cn bb kq o) cn)) (fun _ _ => True) (fun q : Nat => s.heap.size ≤ q)) (([.ref h0, .int (nI kq), .int o] : List Value)).toArray s 0 0 (fun q : Nat => s.heap.size ≤ q)) (F0 m 22 ls []) := by
    intro fu
    induction fu with
    | zero => intro k ac hk hac hme; exact absurd hme (Nat.not_lt_zero _)
    | succ fu ih_5 =>
      intro k ac hk hac hme H locs hP hS ls hl
      refine lv_iload hx hb dX6_unlikeAnswers_22 (lv_at hl 0 rfl) ?_
      refine lv_iload hx hb dX6_unlikeAnswers_24 (lv_at hl 1 rfl) ?_
      refine lv_icmp_ge (tgt := 82) hx hb dX6_unlikeAnswers_26 (by decide) (fun c_6 => ?_) (fun c_6 => ?_)
      · have b_7 := gx_ge (X := ((k : Nat) : Int)) (C := ((cn : Nat) : Int)) (nI_toInt (by omega)) (nI_toInt (by omega)) c_6
        refine lv_iload hx hb dX6_unlikeAnswers_82 (lv_at hl 2 rfl) ?_
        exact W.iret (v := ac) hx hb hr (fun t ht hW => ⟨⟨ac, (), rfl, (by rw [hac, show k = cn from (by omega)]), trivial⟩, hS.F ht⟩) hS.2.2 dX6_unlikeAnswers_84
      · have b_7 := gn_ge (X := ((k : Nat) : Int)) (C := ((cn : Nat) : Int)) (nI_toInt (by omega)) (nI_toInt (by omega)) c_6
        refine lv_iload hx hb dX6_unlikeAnswers_29 (lv_at hl 0 rfl) ?_
        refine lv_iload_n hx hb dX6_unlikeAnswers_31 rfl (lv_at hl 3 rfl) ?_
        have hPc := hP.sub (ws' := []) [] rfl
        have hDc := hD.sub (ws' := []) [] (by decide) rfl
        have hKc := hK.sub (tys' := []) [] rfl
        refine va_calli (va_runSN (As := [.int (nI k), .int z_2]) (rest := []) ⟨hx, hb, hml, hown, hts⟩ (c_isIn l dC dI H.size (nI k) z_2 ) ⟨va_cnB 2 hts (gN mw_2_15) rfl rfl rfl (hN (RX6, 15, yX8_isIn, RX8) (List.mem_of_getElem? (i := 10) rfl)) (hts _ mw_1_1) (by decide +kernel) ⟨Nat.le_of_ble_eq_true rfl, Nat.le_of_ble_eq_true rfl⟩, (hts _ mw_2_14), trivial⟩ ⟨pcW_blind, pcW_at hPc hKc hDc hN⟩ rfl rfl hl.1 rfl (lv_room (Nat.le_of_ble_eq_true rfl)) dX6_unlikeAnswers_32 ⟨Nat.le_of_ble_eq_true rfl, Nat.le_of_ble_eq_true rfl⟩) hS (fun q h1 h2 => absurd h2 (Nat.not_le.mpr h1)) (fun q h => hA q (Nat.le_trans hS.1 h)) (fun r_8 u t H1 locs ht hvm hw_8 hB hz1 hk1 hS => ?_)
        have hP := keepP hP hk1
        clear hz1 hk1 hB ht hvm hPc hDc hKc
        generalize H1 = H at hP hS ⊢
        rcases fx_bool hw_8 with ⟨rfl, b_9⟩ | ⟨rfl, b_9⟩
        · skip
          refine lv_if_eq (tgt := 76) hx hb dX6_unlikeAnswers_35 (by decide) (fun h => absurd h (by decide)) (fun _ => ?_)
          refine lv_aload_n hx hb dX6_unlikeAnswers_38 rfl (lv_at hl 4 rfl) ?_
          refine lv_iload hx hb dX6_unlikeAnswers_39 (lv_at hl 0 rfl) ?_
          have hPc := hP.sub (ws' := [(h0, .inr (1, [.ref b0, .ref b1, w2, .ref b3, w4, w5, .int (nI cn), .int bb])), (b1, .inl (kb1, 10, .inl fle))]) [0, 2] rfl
          have hDc := hD.sub (ws' := [(h0, .inr (1, [.ref b0, .ref b1, w2, .ref b3, w4, w5, .int (nI cn), .int bb])), (b1, .inl (kb1, 10, .inl fle))]) [0, 2] (by decide) rfl
          have hKc := hK.sub (tys' := [(kb1, .int)]) [1] rfl
          refine va_calli (va_runV (As := [.int (nI k)]) (rest := []) ⟨hx, hb, hml, hown, hts⟩ (c_hasRow l dC dI H.size h0 (.ref b0) b1 (w2) (.ref b3) (w4) (w5) cn bb kb1 fle k hc hle (by omega)) (cwV 1 hts (gV mw_3_80 mw_3_11 mw_3_12 mw_1_2 mw_3_13) rfl rfl rfl (by decide +kernel) ⟨Nat.le_of_ble_eq_true rfl, Nat.le_of_ble_eq_true rfl⟩) ⟨pcW_blind, va_recv hKc hPc (ci := 1) (q0 := 0) rfl rfl, pcW_at hPc hKc hDc hN⟩ rfl rfl hl.1 rfl (lv_room (Nat.le_of_ble_eq_true rfl)) dX6_unlikeAnswers_41 ⟨Nat.le_of_ble_eq_true rfl, Nat.le_of_ble_eq_true rfl⟩) hS (fun q h1 h2 => absurd h2 (Nat.not_le.mpr h1)) (fun q h => hA q (Nat.le_trans hS.1 h)) (fun r_10 u t H1 locs ht hvm hw_10 hB hz1 hk1 hS => ?_)
          have hP := keepP hP hk1
          clear hz1 hk1 hB ht hvm hPc hDc hKc
          generalize H1 = H at hP hS ⊢
          rcases fx_bool hw_10 with ⟨rfl, b_11⟩ | ⟨rfl, b_11⟩
          · skip
            refine lv_if_ne (tgt := 50) hx hb dX6_unlikeAnswers_44 (by decide) (fun _ => ?_) (fun h => absurd h (by decide))
            refine lv_aload_n hx hb dX6_unlikeAnswers_50 rfl (lv_at hl 4 rfl) ?_
            refine lv_iload hx hb dX6_unlikeAnswers_51 (lv_at hl 0 rfl) ?_
            refine lv_iload_n hx hb dX6_unlikeAnswers_53 rfl (lv_at hl 6 rfl) ?_
            refine lv_iconst (v := 0) hx hb dX6_unlikeAnswers_54 (by decide) ?_
            have hPc := hP.sub (ws' := [(h0, .inr (1, [.ref b0, .ref b1, w2, .ref b3, w4, w5, .int (nI cn), .int bb])), (b1, .inl (kb1, 10, .inl fle)), (b3, .inl (kb3, 100, .inl fli))]) [0, 2, 3] rfl
            have hDc := hD.sub (ws' := [(h0, .inr (1, [.ref b0, .ref b1, w2, .ref b3, w4, w5, .int (nI cn), .int bb])), (b1, .inl (kb1, 10, .inl fle)), (b3, .inl (kb3, 100, .inl fli))]) [0, 2, 3] (by decide) rfl
            have hKc := hK.sub (tys' := [(kb1, .int), (kb3, .int)]) [1, 2] rfl
            refine va_calli (va_runV (As := [.int (nI k), .int o, .int 0]) (rest := []) ⟨hx, hb, hml, hown, hts⟩ (c_firstOf l dC dI H.size h0 (.ref b0) b1 (w2) b3 (w4) (w5) cn (.int bb) kb1 fle kb3 fli k o 0 hc hle hlk (by omega) (by omega)) (cwV 3 hts (gV mw_3_1 mw_2_142 mw_2_143 mw_1_2 mw_2_144) rfl rfl rfl (by decide +kernel) ⟨Nat.le_of_ble_eq_true rfl, Nat.le_of_ble_eq_true rfl⟩) ⟨pcW_blind, va_recv hKc hPc (ci := 1) (q0 := 0) rfl rfl, pcW_at hPc hKc hDc hN⟩ rfl rfl hl.1 rfl (lv_room (Nat.le_of_ble_eq_true rfl)) dX6_unlikeAnswers_55 ⟨Nat.le_of_ble_eq_true rfl, Nat.le_of_ble_eq_true rfl⟩) hS (fun q h1 h2 => absurd h2 (Nat.not_le.mpr h1)) (fun q h => hA q (Nat.le_trans hS.1 h)) (fun r_12 u t H1 locs ht hvm hw_12 hB hz1 hk1 hS => ?_)
            have hP := keepP hP hk1
            clear hz1 hk1 hB ht hvm hPc hDc hKc
            generalize H1 = H at hP hS ⊢
            refine lv_istore (lv' := [(7, .int r_12), (6, .int (nI k)), (5, .int (nI cn)), (4, .int ac), (3, .int z_2), (0, .ref h0), (1, .int (nI kq)), (2, .int o)]) hx hb dX6_unlikeAnswers_58 hl (by decide) rfl (fun ls hl => ?_)
            refine lv_iload hx hb dX6_unlikeAnswers_60 (lv_at hl 0 rfl) ?_
            refine lv_bipush (v := (-6)) hx hb dX6_unlikeAnswers_62 (by decide) ?_
            refine lv_icmp_eq (tgt := 76) hx hb dX6_unlikeAnswers_64 (by decide) (fun c_13 => ?_) (fun c_13 => ?_)
            · have b_14 := gx_eq (X := (Int32.toInt r_12)) (C := (-6)) rfl (by decide) c_13
              refine lv_iinc (v := (nI (k + 1))) (lv' := [(6, .int (nI (k + 1))), (7, .int r_12), (5, .int (nI cn)), (4, .int ac), (3, .int z_2), (0, .ref h0), (1, .int (nI kq)), (2, .int o)]) hx hb dX6_unlikeAnswers_76 hl (k := 1) rfl (nI_add k 1) (by decide) rfl (fun ls hl => ?_)
              refine lv_goto (tgt := 22) hx hb dX6_unlikeAnswers_79 (by decide) ?_
              exact ih_5 (k + 1) ac (by omega) (orA_no hac (show unA fab fle fli cn bb kq o k = r_12 from (if_pos ⟨(b_call (z := z_2) ez_2 hc hk10 (by omega)).mp (t_yes (by omega) b_9), b_11⟩).trans hw_12.symm) (by rw [c_13]; decide)) (by omega) _ _ hP hS ls (lv_sub hl [0, 2, 3, 4, 5, 6, 7] rfl)
            · have b_14 := gn_eq (X := (Int32.toInt r_12)) (C := (-6)) rfl (by decide) c_13
              refine lv_iload hx hb dX6_unlikeAnswers_67 (lv_at hl 3 rfl) ?_
              refine lv_iconst (v := 1) hx hb dX6_unlikeAnswers_69 (by decide) ?_
              refine lv_iload hx hb dX6_unlikeAnswers_70 (lv_at hl 0 rfl) ?_
              refine lv_ishl hx hb dX6_unlikeAnswers_72 ?_
              refine lv_ior hx hb dX6_unlikeAnswers_73 ?_
              refine lv_istore (lv' := [(4, .int (ac ||| (1 <<< (r_12 &&& 31)))), (7, .int r_12), (6, .int (nI k)), (5, .int (nI cn)), (3, .int z_2), (0, .ref h0), (1, .int (nI kq)), (2, .int o)]) hx hb dX6_unlikeAnswers_74 hl (by decide) rfl (fun ls hl => ?_)
              refine lv_iinc (v := (nI (k + 1))) (lv' := [(6, .int (nI (k + 1))), (4, .int (ac ||| (1 <<< (r_12 &&& 31)))), (7, .int r_12), (5, .int (nI cn)), (3, .int z_2), (0, .ref h0), (1, .int (nI kq)), (2, .int o)]) hx hb dX6_unlikeAnswers_76 hl (k := 2) rfl (nI_add k 1) (by decide) rfl (fun ls hl => ?_)
              refine lv_goto (tgt := 22) hx hb dX6_unlikeAnswers_79 (by decide) ?_
              exact ih_5 (k + 1) (ac ||| (1 <<< (r_12 &&& 31))) (by omega) (by exact orA_yes hac (show unA fab fle fli cn bb kq o k = r_12 from (if_pos ⟨(b_call (z := z_2) ez_2 hc hk10 (by omega)).mp (t_yes (by omega) b_9), b_11⟩).trans hw_12.symm) (ans_neg hlk (by omega) hc hw_12 (by omega))) (by omega) _ _ hP hS ls (lv_sub hl [0, 3, 1, 4, 5, 6, 7] rfl)
          · skip
            refine lv_if_ne (tgt := 50) hx hb dX6_unlikeAnswers_44 (by decide) (fun h => absurd h (by decide)) (fun _ => ?_)
            refine lv_goto (tgt := 76) hx hb dX6_unlikeAnswers_47 (by decide) ?_
            refine lv_iinc (v := (nI (k + 1))) (lv' := [(6, .int (nI (k + 1))), (5, .int (nI cn)), (4, .int ac), (3, .int z_2), (0, .ref h0), (1, .int (nI kq)), (2, .int o)]) hx hb dX6_unlikeAnswers_76 hl (k := 0) rfl (nI_add k 1) (by decide) rfl (fun ls hl => ?_)
            refine lv_goto (tgt := 22) hx hb dX6_unlikeAnswers_79 (by decide) ?_
            exact ih_5 (k + 1) ac (by omega) (orA_no hac (show unA fab fle fli cn bb kq o k = -6 from if_neg (fun q => b_11 q.2)) (by decide)) (by omega) _ _ hP hS ls (lv_sub hl [0, 1, 2, 3, 4, 5, 6] rfl)
        · skip
          refine lv_if_eq (tgt := 76) hx hb dX6_unlikeAnswers_35 (by decide) (fun _ => ?_) (fun h => absurd (by decide) h)
          refine lv_iinc (v := (nI (k + 1))) (lv' := [(6, .int (nI (k + 1))), (5, .int (nI cn)), (4, .int ac), (3, .int z_2), (0, .ref h0), (1, .int (nI kq)), (2, .int o)]) hx hb dX6_unlikeAnswers_76 hl (k := 0) rfl (nI_add k 1) (by decide) rfl (fun ls hl => ?_)
          refine lv_goto (tgt := 22) hx hb dX6_unlikeAnswers_79 (by decide) ?_
          exact ih_5 (k + 1) ac (by omega) (orA_no hac (show unA fab fle fli cn bb kq o k = -6 from if_neg (fun q => absurd ((b_call (z := z_2) ez_2 hc hk10 (by omega)).mpr q.1) (by rw [t_no (by omega) b_9]; decide))) (by decide)) (by omega) _ _ hP hS ls (lv_sub hl [0, 1, 2, 3, 4, 5, 6] rfl)
  exact key_4 ((cn - 0) + 1) 0 0 (by omega) rfl (Nat.lt_succ_self _) _ _ hP hS ls (lv_sub hl [0, 1, 2, 3, 4, 5, 6] rfl)
