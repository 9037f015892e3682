theorem mw_1_52 : Cond.fieldLink RX1 30 "AnswerLines$Kinds" "rows" "LAnswerLines$Rows;" ∈ BG := mB (t1 (i := 52) (by decide +kernel)) (by decide +kernel)
theorem mw_1_228 : Cond.code yX4_clear cX4_clear 1 none ∈ BG := mB (t1 (i := 228) rfl) (by decide +kernel)
theorem mw_1_225 : Cond.methodLink RX1 97 yX4_clear ∈ BG := mB (t1 (i := 225) (by decide +kernel)) (by decide +kernel)
theorem mw_1_226 : Cond.instanceMethod yX4_clear ∈ BG := mB (t1 (i := 226) (by decide +kernel)) (by decide +kernel)
theorem mw_1_227 : Cond.selects RX4 yX4_clear yX4_clear ∈ BG := mB (t1 (i := 227) (by decide +kernel)) (by decide +kernel)
theorem mw_1_232 : Cond.code yX4_begin cX4_begin 1 none ∈ BG := mB (t1 (i := 232) rfl) (by decide +kernel)
theorem mw_1_229 : Cond.methodLink RX1 100 yX4_begin ∈ BG := mB (t1 (i := 229) (by decide +kernel)) (by decide +kernel)
theorem mw_1_230 : Cond.instanceMethod yX4_begin ∈ BG := mB (t1 (i := 230) (by decide +kernel)) (by decide +kernel)
theorem mw_1_231 : Cond.selects RX4 yX4_begin yX4_begin ∈ BG := mB (t1 (i := 231) (by decide +kernel)) (by decide +kernel)
theorem mw_1_51 : Cond.fieldLink RX1 24 "AnswerLines$Kinds" "parents" "[I" ∈ BG := mB (t1 (i := 51) (by decide +kernel)) (by decide +kernel)
theorem mw_2_0 : Cond.code yX4_put cX4_put 3 none ∈ BG := mB (t2 (i := 0) rfl) (by decide +kernel)
theorem mw_1_237 : Cond.methodLink RX1 103 yX4_put ∈ BG := mB (t1 (i := 237) (by decide +kernel)) (by decide +kernel)
theorem mw_1_238 : Cond.instanceMethod yX4_put ∈ BG := mB (t1 (i := 238) (by decide +kernel)) (by decide +kernel)
theorem mw_1_239 : Cond.selects RX4 yX4_put yX4_put ∈ BG := mB (t1 (i := 239) (by decide +kernel)) (by decide +kernel)
theorem mw_1_224 : Cond.code yX1_layRows cX1_layRows 5 none ∈ BG := mB (t1 (i := 224) rfl) (by decide +kernel)
theorem mw_1_221 : Cond.methodLink RX1 83 yX1_layRows ∈ BG := mB (t1 (i := 221) (by decide +kernel)) (by decide +kernel)
theorem mw_1_223 : Cond.instanceMethod yX1_layRows ∈ BG := mB (t1 (i := 223) (by decide +kernel)) (by decide +kernel)
theorem mw_0_1 : Cond.selects RX1 yX1_layRows yX1_layRows ∈ BG := mB (t0 (i := 1) (by decide +kernel)) (by decide +kernel)
theorem mw_2_4 : Cond.code yX4_firstFree cX4_firstFree 4 (some .int) ∈ BG := mB (t2 (i := 4) rfl) (by decide +kernel)
theorem mw_2_1 : Cond.methodLink RX1 87 yX4_firstFree ∈ BG := mB (t2 (i := 1) (by decide +kernel)) (by decide +kernel)
theorem mw_2_2 : Cond.instanceMethod yX4_firstFree ∈ BG := mB (t2 (i := 2) (by decide +kernel)) (by decide +kernel)
theorem mw_2_3 : Cond.selects RX4 yX4_firstFree yX4_firstFree ∈ BG := mB (t2 (i := 3) (by decide +kernel)) (by decide +kernel)
theorem mw_2_23 : Cond.code yX4_beginnings cX4_beginnings 4 (some .int) ∈ BG := mB (t2 (i := 23) rfl) (by decide +kernel)
theorem mw_2_20 : Cond.methodLink RX1 94 yX4_beginnings ∈ BG := mB (t2 (i := 20) (by decide +kernel)) (by decide +kernel)
theorem mw_2_21 : Cond.instanceMethod yX4_beginnings ∈ BG := mB (t2 (i := 21) (by decide +kernel)) (by decide +kernel)
theorem mw_2_22 : Cond.selects RX4 yX4_beginnings yX4_beginnings ∈ BG := mB (t2 (i := 22) (by decide +kernel)) (by decide +kernel)
theorem mw_2_19 : Cond.code yX4_take cX4_take 3 none ∈ BG := mB (t2 (i := 19) rfl) (by decide +kernel)
theorem mw_2_16 : Cond.methodLink RX1 91 yX4_take ∈ BG := mB (t2 (i := 16) (by decide +kernel)) (by decide +kernel)
theorem mw_2_17 : Cond.instanceMethod yX4_take ∈ BG := mB (t2 (i := 17) (by decide +kernel)) (by decide +kernel)
theorem mw_2_18 : Cond.selects RX4 yX4_take yX4_take ∈ BG := mB (t2 (i := 18) (by decide +kernel)) (by decide +kernel)
theorem mw_1_198 : Cond.code yX1_isFull cX1_isFull 1 (some .boolean) ∈ BG := mB (t1 (i := 198) rfl) (by decide +kernel)
theorem mw_1_203 : Cond.methodLink RX1 72 yX1_isFull ∈ BG := mB (t1 (i := 203) (by decide +kernel)) (by decide +kernel)
theorem mw_1_196 : Cond.instanceMethod yX1_isFull ∈ BG := mB (t1 (i := 196) (by decide +kernel)) (by decide +kernel)
theorem mw_1_197 : Cond.selects RX1 yX1_isFull yX1_isFull ∈ BG := mB (t1 (i := 197) (by decide +kernel)) (by decide +kernel)
theorem mw_1_220 : Cond.code yX1_layLine cX1_layLine 6 none ∈ BG := mB (t1 (i := 220) rfl) (by decide +kernel)
theorem mw_1_217 : Cond.methodLink RX1 79 yX1_layLine ∈ BG := mB (t1 (i := 217) (by decide +kernel)) (by decide +kernel)
theorem mw_1_219 : Cond.instanceMethod yX1_layLine ∈ BG := mB (t1 (i := 219) (by decide +kernel)) (by decide +kernel)
theorem mw_0_0 : Cond.selects RX1 yX1_layLine yX1_layLine ∈ BG := mB (t0 (i := 0) (by decide +kernel)) (by decide +kernel)
theorem mw_1_207 : Cond.code yX1_aboveOf cX1_aboveOf 2 (some .int) ∈ BG := mB (t1 (i := 207) rfl) (by decide +kernel)
theorem mw_1_204 : Cond.methodLink RX1 76 yX1_aboveOf ∈ BG := mB (t1 (i := 204) (by decide +kernel)) (by decide +kernel)
theorem mw_1_205 : Cond.instanceMethod yX1_aboveOf ∈ BG := mB (t1 (i := 205) (by decide +kernel)) (by decide +kernel)
theorem mw_1_206 : Cond.selects RX1 yX1_aboveOf yX1_aboveOf ∈ BG := mB (t1 (i := 206) (by decide +kernel)) (by decide +kernel)
theorem dX1_layRows_0 : decode cX1_layRows 0 = .ok (.aload_n 0, 1) := by decide +kernel
theorem dX1_layRows_1 : decode cX1_layRows 1 = .ok (.getfield 30, 3) := by decide +kernel
theorem dX1_layRows_4 : decode cX1_layRows 4 = .ok (.invokevirtual 97, 3) := by decide +kernel
theorem dX1_layRows_7 : decode cX1_layRows 7 = .ok (.iconst 0, 1) := by decide +kernel
theorem dX1_layRows_8 : decode cX1_layRows 8 = .ok (.istore_n 2, 1) := by decide +kernel
theorem dX1_layRows_9 : decode cX1_layRows 9 = .ok (.iload_n 2, 1) := by decide +kernel
theorem dX1_layRows_10 : decode cX1_layRows 10 = .ok (.iload_n 1, 1) := by decide +kernel
theorem dX1_layRows_11 : decode cX1_layRows 11 = .ok (.if_icmp .ge 61, 3) := by decide +kernel
theorem dX1_layRows_72 : decode cX1_layRows 72 = .ok (.aload_n 0, 1) := by decide +kernel
theorem dX1_layRows_73 : decode cX1_layRows 73 = .ok (.getfield 30, 3) := by decide +kernel
theorem dX1_layRows_76 : decode cX1_layRows 76 = .ok (.invokevirtual 100, 3) := by decide +kernel
theorem dX1_layRows_79 : decode cX1_layRows 79 = .ok (.iconst 0, 1) := by decide +kernel
theorem dX1_layRows_80 : decode cX1_layRows 80 = .ok (.istore_n 2, 1) := by decide +kernel
theorem dX1_layRows_81 : decode cX1_layRows 81 = .ok (.iload_n 2, 1) := by decide +kernel
theorem dX1_layRows_82 : decode cX1_layRows 82 = .ok (.iload_n 1, 1) := by decide +kernel
theorem dX1_layRows_83 : decode cX1_layRows 83 = .ok (.if_icmp .ge 22, 3) := by decide +kernel
theorem dX1_layRows_105 : decode cX1_layRows 105 = .ok (.return_, 1) := by decide +kernel
theorem dX1_layRows_86 : decode cX1_layRows 86 = .ok (.aload_n 0, 1) := by decide +kernel
theorem dX1_layRows_87 : decode cX1_layRows 87 = .ok (.getfield 30, 3) := by decide +kernel
theorem dX1_layRows_90 : decode cX1_layRows 90 = .ok (.aload_n 0, 1) := by decide +kernel
theorem dX1_layRows_91 : decode cX1_layRows 91 = .ok (.getfield 24, 3) := by decide +kernel
theorem dX1_layRows_94 : decode cX1_layRows 94 = .ok (.iload_n 2, 1) := by decide +kernel
theorem dX1_layRows_95 : decode cX1_layRows 95 = .ok (.iaload, 1) := by decide +kernel
theorem dX1_layRows_96 : decode cX1_layRows 96 = .ok (.invokevirtual 103, 3) := by decide +kernel
theorem dX1_layRows_99 : decode cX1_layRows 99 = .ok (.iinc 2 1, 3) := by decide +kernel
theorem dX1_layRows_102 : decode cX1_layRows 102 = .ok (.goto (-21), 3) := by decide +kernel
theorem dX1_layRows_14 : decode cX1_layRows 14 = .ok (.aload_n 0, 1) := by decide +kernel
theorem dX1_layRows_15 : decode cX1_layRows 15 = .ok (.getfield 30, 3) := by decide +kernel
theorem dX1_layRows_18 : decode cX1_layRows 18 = .ok (.invokevirtual 100, 3) := by decide +kernel
theorem dX1_layRows_21 : decode cX1_layRows 21 = .ok (.aload_n 0, 1) := by decide +kernel
theorem dX1_layRows_22 : decode cX1_layRows 22 = .ok (.aload_n 0, 1) := by decide +kernel
theorem dX1_layRows_23 : decode cX1_layRows 23 = .ok (.getfield 24, 3) := by decide +kernel
theorem dX1_layRows_26 : decode cX1_layRows 26 = .ok (.iload_n 2, 1) := by decide +kernel
theorem dX1_layRows_27 : decode cX1_layRows 27 = .ok (.iaload, 1) := by decide +kernel
theorem dX1_layRows_28 : decode cX1_layRows 28 = .ok (.invokevirtual 49, 3) := by decide +kernel
theorem dX1_layRows_31 : decode cX1_layRows 31 = .ok (.istore_n 3, 1) := by decide +kernel
theorem dX1_layRows_32 : decode cX1_layRows 32 = .ok (.iconst 0, 1) := by decide +kernel
theorem dX1_layRows_33 : decode cX1_layRows 33 = .ok (.istore 4, 2) := by decide +kernel
theorem dX1_layRows_35 : decode cX1_layRows 35 = .ok (.iload 4, 2) := by decide +kernel
theorem dX1_layRows_37 : decode cX1_layRows 37 = .ok (.iload_n 3, 1) := by decide +kernel
theorem dX1_layRows_38 : decode cX1_layRows 38 = .ok (.if_icmp .ge 28, 3) := by decide +kernel
theorem dX1_layRows_66 : decode cX1_layRows 66 = .ok (.iinc 2 1, 3) := by decide +kernel
theorem dX1_layRows_69 : decode cX1_layRows 69 = .ok (.goto (-60), 3) := by decide +kernel
theorem dX1_layRows_41 : decode cX1_layRows 41 = .ok (.aload_n 0, 1) := by decide +kernel
theorem dX1_layRows_42 : decode cX1_layRows 42 = .ok (.getfield 30, 3) := by decide +kernel
theorem dX1_layRows_45 : decode cX1_layRows 45 = .ok (.aload_n 0, 1) := by decide +kernel
theorem dX1_layRows_46 : decode cX1_layRows 46 = .ok (.aload_n 0, 1) := by decide +kernel
theorem dX1_layRows_47 : decode cX1_layRows 47 = .ok (.getfield 24, 3) := by decide +kernel
theorem dX1_layRows_50 : decode cX1_layRows 50 = .ok (.iload_n 2, 1) := by decide +kernel
theorem dX1_layRows_51 : decode cX1_layRows 51 = .ok (.iaload, 1) := by decide +kernel
theorem dX1_layRows_52 : decode cX1_layRows 52 = .ok (.iload 4, 2) := by decide +kernel
theorem dX1_layRows_54 : decode cX1_layRows 54 = .ok (.invokevirtual 69, 3) := by decide +kernel
theorem dX1_layRows_57 : decode cX1_layRows 57 = .ok (.invokevirtual 103, 3) := by decide +kernel
theorem dX1_layRows_60 : decode cX1_layRows 60 = .ok (.iinc 4 1, 3) := by decide +kernel
theorem dX1_layRows_63 : decode cX1_layRows 63 = .ok (.goto (-28), 3) := by decide +kernel
theorem dX1_layLine_0 : decode cX1_layLine 0 = .ok (.aload_n 0, 1) := by decide +kernel
theorem dX1_layLine_1 : decode cX1_layLine 1 = .ok (.iload_n 2, 1) := by decide +kernel
theorem dX1_layLine_2 : decode cX1_layLine 2 = .ok (.invokevirtual 83, 3) := by decide +kernel
theorem dX1_layLine_5 : decode cX1_layLine 5 = .ok (.aload_n 0, 1) := by decide +kernel
theorem dX1_layLine_6 : decode cX1_layLine 6 = .ok (.getfield 21, 3) := by decide +kernel
theorem dX1_layLine_9 : decode cX1_layLine 9 = .ok (.iload_n 1, 1) := by decide +kernel
theorem dX1_layLine_10 : decode cX1_layLine 10 = .ok (.bipush 10, 2) := by decide +kernel
theorem dX1_layLine_12 : decode cX1_layLine 12 = .ok (.imul, 1) := by decide +kernel
theorem dX1_layLine_13 : decode cX1_layLine 13 = .ok (.iload_n 1, 1) := by decide +kernel
theorem dX1_layLine_14 : decode cX1_layLine 14 = .ok (.iastore, 1) := by decide +kernel
theorem dX1_layLine_15 : decode cX1_layLine 15 = .ok (.iconst 1, 1) := by decide +kernel
theorem dX1_layLine_16 : decode cX1_layLine 16 = .ok (.istore_n 3, 1) := by decide +kernel
theorem dX1_layLine_17 : decode cX1_layLine 17 = .ok (.aload_n 0, 1) := by decide +kernel
theorem dX1_layLine_18 : decode cX1_layLine 18 = .ok (.getfield 30, 3) := by decide +kernel
theorem dX1_layLine_21 : decode cX1_layLine 21 = .ok (.invokevirtual 87, 3) := by decide +kernel
theorem dX1_layLine_24 : decode cX1_layLine 24 = .ok (.istore 4, 2) := by decide +kernel
theorem dX1_layLine_26 : decode cX1_layLine 26 = .ok (.iload 4, 2) := by decide +kernel
theorem dX1_layLine_28 : decode cX1_layLine 28 = .ok (.bipush (-6), 2) := by decide +kernel
theorem dX1_layLine_30 : decode cX1_layLine 30 = .ok (.if_icmp .eq 46, 3) := by decide +kernel
theorem dX1_layLine_76 : decode cX1_layLine 76 = .ok (.aload_n 0, 1) := by decide +kernel
theorem dX1_layLine_77 : decode cX1_layLine 77 = .ok (.getfield 30, 3) := by decide +kernel
theorem dX1_layLine_80 : decode cX1_layLine 80 = .ok (.invokevirtual 94, 3) := by decide +kernel
theorem dX1_layLine_83 : decode cX1_layLine 83 = .ok (.istore 5, 2) := by decide +kernel
theorem dX1_layLine_85 : decode cX1_layLine 85 = .ok (.aload_n 0, 1) := by decide +kernel
theorem dX1_layLine_86 : decode cX1_layLine 86 = .ok (.getfield 18, 3) := by decide +kernel
theorem dX1_layLine_89 : decode cX1_layLine 89 = .ok (.iload_n 1, 1) := by decide +kernel
theorem dX1_layLine_90 : decode cX1_layLine 90 = .ok (.iload 5, 2) := by decide +kernel
theorem dX1_layLine_92 : decode cX1_layLine 92 = .ok (.ifCond .ne 8, 3) := by decide +kernel
theorem dX1_layLine_100 : decode cX1_layLine 100 = .ok (.iload 5, 2) := by decide +kernel
theorem dX1_layLine_102 : decode cX1_layLine 102 = .ok (.iastore, 1) := by decide +kernel
theorem dX1_layLine_103 : decode cX1_layLine 103 = .ok (.aload_n 0, 1) := by decide +kernel
theorem dX1_layLine_104 : decode cX1_layLine 104 = .ok (.getfield 15, 3) := by decide +kernel
theorem dX1_layLine_107 : decode cX1_layLine 107 = .ok (.iload_n 1, 1) := by decide +kernel
theorem dX1_layLine_108 : decode cX1_layLine 108 = .ok (.iload 5, 2) := by decide +kernel
theorem dX1_layLine_110 : decode cX1_layLine 110 = .ok (.ifCond .ne 7, 3) := by decide +kernel
theorem dX1_layLine_117 : decode cX1_layLine 117 = .ok (.iconst 0, 1) := by decide +kernel
theorem dX1_layLine_118 : decode cX1_layLine 118 = .ok (.iastore, 1) := by decide +kernel
theorem dX1_layLine_119 : decode cX1_layLine 119 = .ok (.return_, 1) := by decide +kernel
theorem dX1_layLine_95 : decode cX1_layLine 95 = .ok (.bipush (-6), 2) := by decide +kernel
theorem dX1_layLine_97 : decode cX1_layLine 97 = .ok (.goto 5, 3) := by decide +kernel
theorem dX1_layLine_113 : decode cX1_layLine 113 = .ok (.iload_n 3, 1) := by decide +kernel
theorem dX1_layLine_114 : decode cX1_layLine 114 = .ok (.goto 4, 3) := by decide +kernel
theorem dX1_layLine_33 : decode cX1_layLine 33 = .ok (.iload_n 3, 1) := by decide +kernel
theorem dX1_layLine_34 : decode cX1_layLine 34 = .ok (.bipush 10, 2) := by decide +kernel
theorem dX1_layLine_36 : decode cX1_layLine 36 = .ok (.if_icmp .ge 40, 3) := by decide +kernel
theorem dX1_layLine_39 : decode cX1_layLine 39 = .ok (.aload_n 0, 1) := by decide +kernel
theorem dX1_layLine_40 : decode cX1_layLine 40 = .ok (.getfield 30, 3) := by decide +kernel
theorem dX1_layLine_43 : decode cX1_layLine 43 = .ok (.iload 4, 2) := by decide +kernel
theorem dX1_layLine_45 : decode cX1_layLine 45 = .ok (.invokevirtual 91, 3) := by decide +kernel
theorem dX1_layLine_48 : decode cX1_layLine 48 = .ok (.aload_n 0, 1) := by decide +kernel
theorem dX1_layLine_49 : decode cX1_layLine 49 = .ok (.getfield 21, 3) := by decide +kernel
theorem dX1_layLine_52 : decode cX1_layLine 52 = .ok (.iload_n 1, 1) := by decide +kernel
theorem dX1_layLine_53 : decode cX1_layLine 53 = .ok (.bipush 10, 2) := by decide +kernel
theorem dX1_layLine_55 : decode cX1_layLine 55 = .ok (.imul, 1) := by decide +kernel
theorem dX1_layLine_56 : decode cX1_layLine 56 = .ok (.iload_n 3, 1) := by decide +kernel
theorem dX1_layLine_57 : decode cX1_layLine 57 = .ok (.iadd, 1) := by decide +kernel
theorem dX1_layLine_58 : decode cX1_layLine 58 = .ok (.iload 4, 2) := by decide +kernel
theorem dX1_layLine_60 : decode cX1_layLine 60 = .ok (.iastore, 1) := by decide +kernel
theorem dX1_layLine_61 : decode cX1_layLine 61 = .ok (.iinc 3 1, 3) := by decide +kernel
theorem dX1_layLine_64 : decode cX1_layLine 64 = .ok (.aload_n 0, 1) := by decide +kernel
theorem dX1_layLine_65 : decode cX1_layLine 65 = .ok (.getfield 30, 3) := by decide +kernel
theorem dX1_layLine_68 : decode cX1_layLine 68 = .ok (.invokevirtual 87, 3) := by decide +kernel
theorem dX1_layLine_71 : decode cX1_layLine 71 = .ok (.istore 4, 2) := by decide +kernel
theorem dX1_layLine_73 : decode cX1_layLine 73 = .ok (.goto (-47), 3) := by decide +kernel
theorem dX1_add_0 : decode cX1_add 0 = .ok (.aload_n 0, 1) := by decide +kernel
theorem dX1_add_1 : decode cX1_add 1 = .ok (.invokevirtual 72, 3) := by decide +kernel
theorem dX1_add_4 : decode cX1_add 4 = .ok (.ifCond .ne 12, 3) := by decide +kernel
theorem dX1_add_7 : decode cX1_add 7 = .ok (.iload_n 1, 1) := by decide +kernel
theorem dX1_add_8 : decode cX1_add 8 = .ok (.ifCond .lt 8, 3) := by decide +kernel
theorem dX1_add_11 : decode cX1_add 11 = .ok (.iload_n 1, 1) := by decide +kernel
theorem dX1_add_12 : decode cX1_add 12 = .ok (.iconst 3, 1) := by decide +kernel
theorem dX1_add_13 : decode cX1_add 13 = .ok (.if_icmp .le 6, 3) := by decide +kernel
theorem dX1_add_19 : decode cX1_add 19 = .ok (.aload_n 0, 1) := by decide +kernel
theorem dX1_add_20 : decode cX1_add 20 = .ok (.getfield 34, 3) := by decide +kernel
theorem dX1_add_23 : decode cX1_add 23 = .ok (.istore 5, 2) := by decide +kernel
theorem dX1_add_25 : decode cX1_add 25 = .ok (.aload_n 0, 1) := by decide +kernel
theorem dX1_add_26 : decode cX1_add 26 = .ok (.getfield 24, 3) := by decide +kernel
theorem dX1_add_29 : decode cX1_add 29 = .ok (.iconst 0, 1) := by decide +kernel
theorem dX1_add_30 : decode cX1_add 30 = .ok (.iload_n 2, 1) := by decide +kernel
theorem dX1_add_31 : decode cX1_add 31 = .ok (.iastore, 1) := by decide +kernel
theorem dX1_add_32 : decode cX1_add 32 = .ok (.aload_n 0, 1) := by decide +kernel
theorem dX1_add_33 : decode cX1_add 33 = .ok (.getfield 24, 3) := by decide +kernel
theorem dX1_add_36 : decode cX1_add 36 = .ok (.iconst 1, 1) := by decide +kernel
theorem dX1_add_37 : decode cX1_add 37 = .ok (.iload_n 3, 1) := by decide +kernel
theorem dX1_add_38 : decode cX1_add 38 = .ok (.iastore, 1) := by decide +kernel
theorem dX1_add_39 : decode cX1_add 39 = .ok (.aload_n 0, 1) := by decide +kernel
theorem dX1_add_40 : decode cX1_add 40 = .ok (.getfield 24, 3) := by decide +kernel
theorem dX1_add_43 : decode cX1_add 43 = .ok (.iconst 2, 1) := by decide +kernel
theorem dX1_add_44 : decode cX1_add 44 = .ok (.iload 4, 2) := by decide +kernel
theorem dX1_add_46 : decode cX1_add 46 = .ok (.iastore, 1) := by decide +kernel
theorem dX1_add_47 : decode cX1_add 47 = .ok (.aload_n 0, 1) := by decide +kernel
theorem dX1_add_48 : decode cX1_add 48 = .ok (.getfield 9, 3) := by decide +kernel
theorem dX1_add_51 : decode cX1_add 51 = .ok (.iload 5, 2) := by decide +kernel
theorem dX1_add_53 : decode cX1_add 53 = .ok (.iconst 0, 1) := by decide +kernel
theorem dX1_add_54 : decode cX1_add 54 = .ok (.iastore, 1) := by decide +kernel
theorem dX1_add_55 : decode cX1_add 55 = .ok (.iconst 1, 1) := by decide +kernel
theorem dX1_add_56 : decode cX1_add 56 = .ok (.istore 6, 2) := by decide +kernel
theorem dX1_add_58 : decode cX1_add 58 = .ok (.iconst 0, 1) := by decide +kernel
theorem dX1_add_59 : decode cX1_add 59 = .ok (.istore 7, 2) := by decide +kernel
theorem dX1_add_61 : decode cX1_add 61 = .ok (.iload 7, 2) := by decide +kernel
theorem dX1_add_63 : decode cX1_add 63 = .ok (.iload_n 1, 1) := by decide +kernel
theorem dX1_add_64 : decode cX1_add 64 = .ok (.if_icmp .ge 57, 3) := by decide +kernel
theorem dX1_add_121 : decode cX1_add 121 = .ok (.aload_n 0, 1) := by decide +kernel
theorem dX1_add_122 : decode cX1_add 122 = .ok (.getfield 15, 3) := by decide +kernel
theorem dX1_add_125 : decode cX1_add 125 = .ok (.iload 5, 2) := by decide +kernel
theorem dX1_add_127 : decode cX1_add 127 = .ok (.iconst 0, 1) := by decide +kernel
theorem dX1_add_128 : decode cX1_add 128 = .ok (.iastore, 1) := by decide +kernel
theorem dX1_add_129 : decode cX1_add 129 = .ok (.aload_n 0, 1) := by decide +kernel
theorem dX1_add_130 : decode cX1_add 130 = .ok (.getfield 18, 3) := by decide +kernel
theorem dX1_add_133 : decode cX1_add 133 = .ok (.iload 5, 2) := by decide +kernel
theorem dX1_add_135 : decode cX1_add 135 = .ok (.bipush (-5), 2) := by decide +kernel
theorem dX1_add_137 : decode cX1_add 137 = .ok (.iastore, 1) := by decide +kernel
theorem dX1_add_138 : decode cX1_add 138 = .ok (.iload 6, 2) := by decide +kernel
theorem dX1_add_140 : decode cX1_add 140 = .ok (.ifCond .eq 10, 3) := by decide +kernel
theorem dX1_add_150 : decode cX1_add 150 = .ok (.aload_n 0, 1) := by decide +kernel
theorem dX1_add_151 : decode cX1_add 151 = .ok (.dup, 1) := by decide +kernel
theorem dX1_add_152 : decode cX1_add 152 = .ok (.getfield 34, 3) := by decide +kernel
theorem dX1_add_155 : decode cX1_add 155 = .ok (.iconst 1, 1) := by decide +kernel
theorem dX1_add_156 : decode cX1_add 156 = .ok (.iadd, 1) := by decide +kernel
theorem dX1_add_157 : decode cX1_add 157 = .ok (.putfield 34, 3) := by decide +kernel
theorem dX1_add_160 : decode cX1_add 160 = .ok (.iload 5, 2) := by decide +kernel
theorem dX1_add_162 : decode cX1_add 162 = .ok (.ireturn, 1) := by decide +kernel
theorem dX1_add_143 : decode cX1_add 143 = .ok (.aload_n 0, 1) := by decide +kernel
theorem dX1_add_144 : decode cX1_add 144 = .ok (.iload 5, 2) := by decide +kernel
theorem dX1_add_146 : decode cX1_add 146 = .ok (.iload_n 1, 1) := by decide +kernel
theorem dX1_add_147 : decode cX1_add 147 = .ok (.invokevirtual 79, 3) := by decide +kernel
theorem dX1_add_67 : decode cX1_add 67 = .ok (.aload_n 0, 1) := by decide +kernel
theorem dX1_add_68 : decode cX1_add 68 = .ok (.getfield 9, 3) := by decide +kernel
theorem dX1_add_71 : decode cX1_add 71 = .ok (.iload 5, 2) := by decide +kernel
theorem dX1_add_73 : decode cX1_add 73 = .ok (.dup2, 1) := by decide +kernel
theorem dX1_add_74 : decode cX1_add 74 = .ok (.iaload, 1) := by decide +kernel
theorem dX1_add_75 : decode cX1_add 75 = .ok (.iconst 1, 1) := by decide +kernel
theorem dX1_add_76 : decode cX1_add 76 = .ok (.aload_n 0, 1) := by decide +kernel
theorem dX1_add_77 : decode cX1_add 77 = .ok (.getfield 24, 3) := by decide +kernel
theorem dX1_add_80 : decode cX1_add 80 = .ok (.iload 7, 2) := by decide +kernel
theorem dX1_add_82 : decode cX1_add 82 = .ok (.iaload, 1) := by decide +kernel
theorem dX1_add_83 : decode cX1_add 83 = .ok (.ishl, 1) := by decide +kernel
theorem dX1_add_84 : decode cX1_add 84 = .ok (.aload_n 0, 1) := by decide +kernel
theorem dX1_add_85 : decode cX1_add 85 = .ok (.aload_n 0, 1) := by decide +kernel
theorem dX1_add_86 : decode cX1_add 86 = .ok (.getfield 24, 3) := by decide +kernel
theorem dX1_add_89 : decode cX1_add 89 = .ok (.iload 7, 2) := by decide +kernel
theorem dX1_add_91 : decode cX1_add 91 = .ok (.iaload, 1) := by decide +kernel
theorem dX1_add_92 : decode cX1_add 92 = .ok (.invokevirtual 76, 3) := by decide +kernel
theorem dX1_add_95 : decode cX1_add 95 = .ok (.ior, 1) := by decide +kernel
theorem dX1_add_96 : decode cX1_add 96 = .ok (.ior, 1) := by decide +kernel
theorem dX1_add_97 : decode cX1_add 97 = .ok (.iastore, 1) := by decide +kernel
theorem dX1_add_98 : decode cX1_add 98 = .ok (.aload_n 0, 1) := by decide +kernel
theorem dX1_add_99 : decode cX1_add 99 = .ok (.aload_n 0, 1) := by decide +kernel
theorem dX1_add_100 : decode cX1_add 100 = .ok (.getfield 24, 3) := by decide +kernel
theorem dX1_add_103 : decode cX1_add 103 = .ok (.iload 7, 2) := by decide +kernel
theorem dX1_add_105 : decode cX1_add 105 = .ok (.iaload, 1) := by decide +kernel
theorem dX1_add_106 : decode cX1_add 106 = .ok (.invokevirtual 53, 3) := by decide +kernel
theorem dX1_add_109 : decode cX1_add 109 = .ok (.ifCond .ne 6, 3) := by decide +kernel
theorem dX1_add_115 : decode cX1_add 115 = .ok (.iinc 7 1, 3) := by decide +kernel
theorem dX1_add_118 : decode cX1_add 118 = .ok (.goto (-57), 3) := by decide +kernel
theorem dX1_add_112 : decode cX1_add 112 = .ok (.iconst 0, 1) := by decide +kernel
theorem dX1_add_113 : decode cX1_add 113 = .ok (.istore 6, 2) := by decide +kernel
set_option maxHeartbeats 4000000 in
set_option maxRecDepth 100000 in
theorem c_layRows (l : Launch) (dC : Nat → ClassId) (dI : Nat → Nat → Nat) (sz : Nat) (h0 : Nat) (w0 : Value) (b1 : Nat) (w2 : Value) (b3 : Nat) (b4 : Nat) (r0 : Nat) (cn : Nat) (w7 : Value) (kb1 : ClassId) (fle : Nat → Int32) (kb3 : ClassId) (fli : Nat → Int32) (kb4 : ClassId) (fpa : Nat → Int32) (g0 : Nat) (g1 : Nat) (g2 : Nat) (rc : Int32) (kg0 : ClassId) (fc : Nat → Int32) (kg1 : ClassId) (fh : Nat → Int32) (kg2 : ClassId) (fl : Nat → Int32) (nn : Nat) (hc : cn ≤ 10) (hle : BdOk 10 10 fle) (hnn : nn ≤ 3) (hfh : BdOk 4 10 fh) (hfl : BdOk 4 10 fl) (hpa : ∀ i, i < nn → ∃ q : Nat, q < cn ∧ fpa i = nI q) : Met l yX1_layRows (wq yX1_layRows cX1_layRows 5 none) ({ frames := 3, cells := 0, slots := 0, locals := 64 }) (va_Pc [.ref h0, .int (nI nn)] (pcW dC dI [(kb1, .int), (kb3, .int), (kb4, .int), (kg0, .int), (kg1, .int), (kg2, .int)] [(h0, .inr (1, [w0, .ref b1, w2, .ref b3, .ref b4, .ref r0, .int (nI cn), w7])), (b1, .inl (kb1, 10, .inl fle)), (b3, .inl (kb3, 100, .inl fli)), (b4, .inl (kb4, 3, .inl fpa)), (r0, .inr (4, [.ref g0, .ref g1, .ref g2, .int rc])), (g0, .inl (kg0, 40, .inl fc)), (g1, .inl (kg1, 4, .inl fh)), (g2, .inl (kg2, 4, .inl fl))] sz)) (va_Qv (fun _ : Unit => True) (fun _ t => ∃ (fc2 : Nat → Int32) (fh2 : Nat → Int32) (fl2 : Nat → Int32) (rc2 : Nat), (BdOk 4 10 fh2) ∧ (BdOk 4 10 fl2) ∧ (rc2 = nn + 1) ∧ (RowS fc2 fh2 fl2 fpa fle fli nn) ∧ va_P (dC, dI) vwCl [(h0, .inr (1, [w0, .ref b1, w2, .ref b3, .ref b4, .ref r0, .int (nI cn), w7])), (b1, .inl (kb1, 10, .inl fle)), (b3, .inl (kb3, 100, .inl fli)), (b4, .inl (kb4, 3, .inl fpa)), (r0, .inr (4, [.ref g0, .ref g1, .ref g2, .int (nI rc2)])), (g0, .inl (kg0, 40, .inl fc2)), (g1, .inl (kg1, 4, .inl fh2)), (g2, .inl (kg2, 4, .inl fl2))] t.heap ∧ va_K (dC, dI) vwCl [(kb1, .int), (kb3, .int), (kb4, .int), (kg0, .int), (kg1, .int), (kg2, .int)] t ∧ va_D (va_A [(h0, .inr (1, [w0, .ref b1, w2, .ref b3, .ref b4, .ref r0, .int (nI cn), w7])), (b1, .inl (kb1, 10, .inl fle)), (b3, .inl (kb3, 100, .inl fli)), (b4, .inl (kb4, 3, .inl fpa)), (r0, .inr (4, [.ref g0, .ref g1, .ref g2, .int rc])), (g0, .inl (kg0, 40, .inl fc)), (g1, .inl (kg1, 4, .inl fh)), (g2, .inl (kg2, 4, .inl fl))] sz) [(h0, .inr (1, [w0, .ref b1, w2, .ref b3, .ref b4, .ref r0, .int (nI cn), w7])), (b1, .inl (kb1, 10, .inl fle)), (b3, .inl (kb3, 100, .inl fli)), (b4, .inl (kb4, 3, .inl fpa)), (r0, .inr (4, [.ref g0, .ref g1, .ref g2, .int (nI rc2)])), (g0, .inl (kg0, 40, .inl fc2)), (g1, .inl (kg1, 4, .inl fh2)), (g2, .inl (kg2, 4, .inl fl2))]) (va_A [(h0, .inr (1, [w0, .ref b1, w2, .ref b3, .ref b4, .ref r0, .int (nI cn), w7])), (b1, .inl (kb1, 10, .inl fle)), (b3, .inl (kb3, 100, .inl fli)), (b4, .inl (kb4, 3, .inl fpa)), (r0, .inr (4, [.ref g0, .ref g1, .ref g2, .int rc])), (g0, .inl (kg0, 40, .inl fc)), (g1, .inl (kg1, 4, .inl fh)), (g2, .inl (kg2, 4, .inl fl))] sz)) 0 0 (va_A [(h0, .inr (1, [w0, .ref b1, w2, .ref b3, .ref b4, .ref r0, .int (nI cn), w7])), (b1, .inl (kb1, 10, .inl fle)), (b3, .inl (kb3, 100, .inl fli)), (b4, .inl (kb4, 3, .inl fpa)), (r0, .inr (4, [.ref g0, .ref g1, .ref g2, .int rc])), (g0, .inl (kg0, 40, .inl fc)), (g1, .inl (kg1, 4, .inl fh)), (g2, .inl (kg2, 4, .inl fl))] sz) := by
  refine Met.ofW (cc := cX1_layRows) (maxL := 5) (ret := none) (by decide) rfl ?_
  intro p e s m args below meth c s₁ B hml hv
  obtain ⟨rfl, hsz, hN, hP, hK, hD0⟩ := hv
  have hx := B.exec
  have hb := B.bytes
  have hr := B.returns
  have hts0 := atoms_spec (ws := (wq yX1_layRows cX1_layRows 5 none)) B.pre
  have hts : ∀ w ∈ BG, w.before _ s = true := fun w h => hts0 w (List.mem_cons_of_mem _ h)
  have hown : s.vm.findClass RX1 = some m.cls := findClass_of_methodNamed B.named
  have hlocks := B.notSynchronized
  subst hsz
  have hD := hD0.self (sz := s.heap.size)
  generalize hAe : va_A [(h0, .inr (1, [w0, .ref b1, w2, .ref b3, .ref b4, .ref r0, .int (nI cn), w7])), (b1, .inl (kb1, 10, .inl fle)), (b3, .inl (kb3, 100, .inl fli)), (b4, .inl (kb4, 3, .inl fpa)), (r0, .inr (4, [.ref g0, .ref g1, .ref g2, .int rc])), (g0, .inl (kg0, 40, .inl fc)), (g1, .inl (kg1, 4, .inl fh)), (g2, .inl (kg2, 4, .inl fl))] s.heap.size = A at hD ⊢
  have hA : ∀ q : Nat, s.heap.size ≤ q → A q := fun q h => by rw [← hAe]; exact Or.inr h
  have hS : va_S A s.heap s.heap [] := va_S.rf
  clear hAe hD0
  have hP : va_P (dC, dI) vwCl [(h0, .inr (1, [w0, .ref b1, w2, .ref b3, .ref b4, .ref r0, .int (nI cn), w7])), (b1, .inl (kb1, 10, .inl fle)), (b3, .inl (kb3, 100, .inl fli)), (b4, .inl (kb4, 3, .inl fpa)), (r0, .inr (4, [.ref g0, .ref g1, .ref g2, .int rc])), (g0, .inl (kg0, 40, .inl fc)), (g1, .inl (kg1, 4, .inl fh)), (g2, .inl (kg2, 4, .inl fl))] s.heap := hP
  have hl := lv_entry ([.ref h0, .int (nI nn)]) (n := 5) (Nat.le_of_ble_eq_true rfl)
  rw [lg_entry_eq]
  generalize (lg_sl ([.ref h0, .int (nI nn)]) ++ List.replicate (5 - (lg_sl ([.ref h0, .int (nI nn)])).length) Slot.unset).toArray = ls at hl ⊢
  have hl : lv_has ls 5 [(0, .ref h0), (1, .int (nI nn))] := hl
  refine lv_aload_n hx hb dX1_layRows_0 rfl (lv_at hl 0 rfl) ?_
  refine va_get (D := (dC, dI)) (ci := 1) (v := .ref r0) (C := RX1) (T := TX1) (N := 8) hx hb hts inB_1 hown hK hP 0 rfl rfl 5 (by decide) (hts _ mw_1_52) (fun _ h9 => h9) rfl dX1_layRows_1 ?_
  have hPc := hP.sub (ws' := [(r0, .inr (4, [.ref g0, .ref g1, .ref g2, .int rc]))]) [4] rfl
  have hDc := hD.sub (ws' := [(r0, .inr (4, [.ref g0, .ref g1, .ref g2, .int rc]))]) [4] (by decide) rfl
  have hKc := hK.sub (tys' := []) [] rfl
  have hFc := va_free (wc := [(r0, .inr (4, [.ref g0, .ref g1, .ref g2, .int rc]))]) hD hS hA [4] rfl
  refine va_callv (va_runV (As := []) (rest := []) ⟨hx, hb, hml, hown, hts⟩ (c_rClear l dC dI s.heap.size r0 (.ref g0) (.ref g1) (.ref g2) rc ) (cwV 0 hts (gV mw_1_225 mw_1_226 mw_1_227 mw_1_3 mw_1_228) rfl rfl rfl (by decide +kernel) ⟨Nat.le_of_ble_eq_true rfl, Nat.le_of_ble_eq_true rfl⟩) ⟨pcW_blind, va_recv hKc hPc (ci := 4) (q0 := 0) rfl rfl, pcW_at hPc hKc hDc hN⟩ rfl rfl hl.1 rfl (lv_room (Nat.le_of_ble_eq_true rfl)) dX1_layRows_4 ⟨Nat.le_of_ble_eq_true rfl, Nat.le_of_ble_eq_true rfl⟩) hS (fun q _ h => hFc q h) hFc (fun u t H1 locs ht hvm hw_1 hB hz1 hk1 hS => ?_)
  obtain ⟨hP1, hK1, hD1⟩ := hB
  rw [ht] at hP1
  have hK1 := va_K.moved hvm.symm hK1
  obtain ⟨hP, hD⟩ := va_join (wr := [(h0, .inr (1, [w0, .ref b1, w2, .ref b3, .ref b4, .ref r0, .int (nI cn), w7])), (b1, .inl (kb1, 10, .inl fle)), (b3, .inl (kb3, 100, .inl fli)), (b4, .inl (kb4, 3, .inl fpa)), (g0, .inl (kg0, 40, .inl fc)), (g1, .inl (kg1, 4, .inl fh)), (g2, .inl (kg2, 4, .inl fl))]) (w1 := [(r0, .inr (4, [.ref g0, .ref g1, .ref g2, .int 0]))]) hP hD [4] [0, 1, 2, 3, 5, 6, 7] rfl rfl (by decide) (by decide) hk1 hFc hP1 hD1
  have hK := (hK.sub (tys' := [(kb1, .int), (kb3, .int), (kb4, .int), (kg0, .int), (kg1, .int), (kg2, .int)]) [0, 1, 2, 3, 4, 5] rfl).app hK1
  clear hz1 hk1 hPc hDc hKc hFc
  generalize H1 = H at hP hS ⊢
  have hK : va_K (dC, dI) vwCl [(kb1, .int), (kb3, .int), (kb4, .int), (kg0, .int), (kg1, .int), (kg2, .int)] s := hK
  have hP : va_P (dC, dI) vwCl [(h0, .inr (1, [w0, .ref b1, w2, .ref b3, .ref b4, .ref r0, .int (nI cn), w7])), (b1, .inl (kb1, 10, .inl fle)), (b3, .inl (kb3, 100, .inl fli)), (b4, .inl (kb4, 3, .inl fpa)), (g0, .inl (kg0, 40, .inl fc)), (g1, .inl (kg1, 4, .inl fh)), (g2, .inl (kg2, 4, .inl fl)), (r0, .inr (4, [.ref g0, .ref g1, .ref g2, .int 0]))] H := hP
  have hD : va_D A [(h0, .inr (1, [w0, .ref b1, w2, .ref b3, .ref b4, .ref r0, .int (nI cn), w7])), (b1, .inl (kb1, 10, .inl fle)), (b3, .inl (kb3, 100, .inl fli)), (b4, .inl (kb4, 3, .inl fpa)), (g0, .inl (kg0, 40, .inl fc)), (g1, .inl (kg1, 4, .inl fh)), (g2, .inl (kg2, 4, .inl fl)), (r0, .inr (4, [.ref g0, .ref g1, .ref g2, .int 0]))] := hD
  refine lv_iconst (v := 0) hx hb dX1_layRows_7 (by decide) ?_
  refine lv_istore_n (lv' := [(2, .int 0), (0, .ref h0), (1, .int (nI nn))]) hx hb dX1_layRows_8 rfl hl (by decide) rfl (fun ls hl => ?_)
  have key_2 : ∀ (fu : Nat) (k5 : Nat) (fcx : Nat → Int32) (fhx : Nat → Int32) (flx : Nat → Int32), (k5 ≤ nn) → (BdOk 4 10 fhx) → (BdOk 4 10 flx) → (RowP fcx fhx flx fpa fle fli k5) → nn - k5 < fu → ∀ (H : Heap) (locs : List Loc), va_P (dC, dI) vwCl [(h0, .inr (1, [w0, .ref b1, w2, .ref b3, .ref b4, .ref r0, .int (nI cn), w7])), (b1, .inl (kb1, 10, .inl fle)), (b3, .inl (kb3, 100, .inl fli)), (b4, .inl (kb4, 3, .inl fpa)), (g0, .inl (kg0, 40, .inl fcx)), (g1, .inl (kg1, 4, .inl fhx)), (g2, .inl (kg2, 4, .inl flx)), (r0, .inr (4, [.ref g0, .ref g1, .ref g2, .int (nI k5)]))] H → va_D A [(h0, .inr (1, [w0, .ref b1, w2, .ref b3, .ref b4, .ref r0, .int (nI cn), w7])), (b1, .inl (kb1, 10, .inl fle)), (b3, .inl (kb3, 100, .inl fli)), (b4, .inl (kb4, 3, .inl fpa)), (g0, .inl (kg0, 40, .inl fcx)), (g1, .inl (kg1, 4, .inl fhx)), (g2, .inl (kg2, 4, .inl flx)), (r0, .inr (4, [.ref g0, .ref g1, .ref g2, .int (nI k5)]))] → va_S A s.heap H locs → ∀ (ls : Array Slot), lv_has ls 5 [(2, .int (nI k5)), (0, .ref h0), (1, .int (nI nn))] → W p l e (headSpec (wq yX1_layRows cX1_layRows 5 none) ({ frames := 3, cells := 0, slots := 0, locals := 64 })).room s m (([.ref h0, .int (nI nn)] : List Value)).toArray below meth c H locs 0 0 (MQ below (va_Qv (fun _ : Unit => True) (fun _ t => ∃ (fc2 : Nat → Int32) (fh2 : Nat → Int32) (fl2 : Nat → Int32) (rc2 : Nat), (BdOk 4 10 fh2) ∧ (BdOk 4 10 fl2) ∧ (rc2 = nn + 1) ∧ (RowS fc2 fh2 fl2 fpa fle fli nn) ∧ va_P (dC, dI) vwCl [(h0, .inr (1, [w0, .ref b1, w2, .ref b3, .ref b4, .ref r0, .int (nI cn), w7])), (b1, .inl (kb1, 10, .inl fle)), (b3, .inl (kb3, 100, .inl fli)), (b4, .inl (kb4, 3, .inl fpa)), (r0, .inr (4, [.ref g0, .ref g1, .ref g2, .int (nI rc2)])), (g0, .inl (kg0, 40, .inl fc2)), (g1, .inl (kg1, 4, .inl fh2)), (g2, .inl (kg2, 4, .inl fl2))] t.heap ∧ va_K (dC, dI) vwCl [(kb1, .int), (kb3, .int), (kb4, .int), (kg0, .int), (kg1, .int), (kg2, .int)] t ∧ va_D A [(h0, .inr (1, [w0, .ref b1, w2, .ref b3, .ref b4, .ref r0, .int (nI cn), w7])), (b1, .inl (kb1, 10, .inl fle)), (b3, .inl (kb3, 100, .inl fli)), (b4, .inl (kb4, 3, .inl fpa)), (r0, .inr (4, [.ref g0, .ref g1, .ref g2, .int (nI rc2)])), (g0, .inl (kg0, 40, .inl fc2)), (g1, .inl (kg1, 4, .inl fh2)), (g2, .inl (kg2, 4, .inl fl2))]) A) (([.ref h0, .int (nI nn)] : List Value)).toArray s 0 0 A) (F0 m 9 ls []) := by
    intro fu
    induction fu with
    | zero => intro k5 fcx fhx flx hk5 hhx hlx hrp hme; exact absurd hme (Nat.not_lt_zero _)
    | succ fu ih_3 =>
      intro k5 fcx fhx flx hk5 hhx hlx hrp hme H locs hP hD hS ls hl
      refine lv_iload_n hx hb dX1_layRows_9 rfl (lv_at hl 0 rfl) ?_
      refine lv_iload_n hx hb dX1_layRows_10 rfl (lv_at hl 2 rfl) ?_
      refine lv_icmp_ge (tgt := 72) hx hb dX1_layRows_11 (by decide) (fun c_4 => ?_) (fun c_4 => ?_)
      · have b_5 := gx_ge (X := ((k5 : Nat) : Int)) (C := ((nn : Nat) : Int)) (nI_toInt (by omega)) (nI_toInt (by omega)) c_4
        refine lv_aload_n hx hb dX1_layRows_72 rfl (lv_at hl 1 rfl) ?_
        refine va_get (D := (dC, dI)) (ci := 1) (v := .ref r0) (C := RX1) (T := TX1) (N := 8) hx hb hts inB_1 hown hK hP 0 rfl rfl 5 (by decide) (hts _ mw_1_52) (fun _ h9 => h9) rfl dX1_layRows_73 ?_
        have hPc := hP.sub (ws' := [(r0, .inr (4, [.ref g0, .ref g1, .ref g2, .int (nI k5)])), (g0, .inl (kg0, 40, .inl fcx)), (g1, .inl (kg1, 4, .inl fhx)), (g2, .inl (kg2, 4, .inl flx))]) [7, 4, 5, 6] rfl
        have hDc := hD.sub (ws' := [(r0, .inr (4, [.ref g0, .ref g1, .ref g2, .int (nI k5)])), (g0, .inl (kg0, 40, .inl fcx)), (g1, .inl (kg1, 4, .inl fhx)), (g2, .inl (kg2, 4, .inl flx))]) [7, 4, 5, 6] (by decide) rfl
        have hKc := hK.sub (tys' := [(kg0, .int), (kg1, .int), (kg2, .int)]) [3, 4, 5] rfl
        have hFc := va_free (wc := [(r0, .inr (4, [.ref g0, .ref g1, .ref g2, .int (nI k5)])), (g0, .inl (kg0, 40, .inl fcx)), (g1, .inl (kg1, 4, .inl fhx)), (g2, .inl (kg2, 4, .inl flx))]) hD hS hA [7, 4, 5, 6] rfl
        refine va_callv (va_runV (As := []) (rest := []) ⟨hx, hb, hml, hown, hts⟩ (c_rBegin l dC dI H.size r0 g0 g1 g2 k5 kg0 fcx kg1 fhx kg2 flx (by omega) hhx hlx) (cwV 0 hts (gV mw_1_229 mw_1_230 mw_1_231 mw_1_3 mw_1_232) rfl rfl rfl (by decide +kernel) ⟨Nat.le_of_ble_eq_true rfl, Nat.le_of_ble_eq_true rfl⟩) ⟨pcW_blind, va_recv hKc hPc (ci := 4) (q0 := 0) rfl rfl, pcW_at hPc hKc hDc hN⟩ rfl rfl hl.1 rfl (lv_room (Nat.le_of_ble_eq_true rfl)) dX1_layRows_76 ⟨Nat.le_of_ble_eq_true rfl, Nat.le_of_ble_eq_true rfl⟩) hS (fun q _ h => hFc q h) hFc (fun u t H1 locs ht hvm hw_6 hB hz1 hk1 hS => ?_)
        obtain ⟨f_7, f_8, p_9, p_10, p_11, p_12, hP1, hK1, hD1⟩ := hB
        rw [ht] at hP1
        have hK1 := va_K.moved hvm.symm hK1
        obtain ⟨hP, hD⟩ := va_join (wr := [(h0, .inr (1, [w0, .ref b1, w2, .ref b3, .ref b4, .ref r0, .int (nI cn), w7])), (b1, .inl (kb1, 10, .inl fle)), (b3, .inl (kb3, 100, .inl fli)), (b4, .inl (kb4, 3, .inl fpa))]) (w1 := [(r0, .inr (4, [.ref g0, .ref g1, .ref g2, .int (nI (k5 + 1))])), (g0, .inl (kg0, 40, .inl fcx)), (g1, .inl (kg1, 4, .inl f_7)), (g2, .inl (kg2, 4, .inl f_8))]) hP hD [7, 4, 5, 6] [0, 1, 2, 3] rfl rfl (by decide) (by decide) hk1 hFc hP1 hD1
        have hK := (hK.sub (tys' := [(kb1, .int), (kb3, .int), (kb4, .int)]) [0, 1, 2] rfl).app hK1
        clear hz1 hk1 hPc hDc hKc hFc
        generalize H1 = H at hP hS ⊢
        have hK : va_K (dC, dI) vwCl [(kb1, .int), (kb3, .int), (kb4, .int), (kg0, .int), (kg1, .int), (kg2, .int)] s := hK
        have hP : va_P (dC, dI) vwCl [(h0, .inr (1, [w0, .ref b1, w2, .ref b3, .ref b4, .ref r0, .int (nI cn), w7])), (b1, .inl (kb1, 10, .inl fle)), (b3, .inl (kb3, 100, .inl fli)), (b4, .inl (kb4, 3, .inl fpa)), (r0, .inr (4, [.ref g0, .ref g1, .ref g2, .int (nI (k5 + 1))])), (g0, .inl (kg0, 40, .inl fcx)), (g1, .inl (kg1, 4, .inl f_7)), (g2, .inl (kg2, 4, .inl f_8))] H := hP
        have hD : va_D A [(h0, .inr (1, [w0, .ref b1, w2, .ref b3, .ref b4, .ref r0, .int (nI cn), w7])), (b1, .inl (kb1, 10, .inl fle)), (b3, .inl (kb3, 100, .inl fli)), (b4, .inl (kb4, 3, .inl fpa)), (r0, .inr (4, [.ref g0, .ref g1, .ref g2, .int (nI (k5 + 1))])), (g0, .inl (kg0, 40, .inl fcx)), (g1, .inl (kg1, 4, .inl f_7)), (g2, .inl (kg2, 4, .inl f_8))] := hD
        refine lv_iconst (v := 0) hx hb dX1_layRows_79 (by decide) ?_
        refine lv_istore_n (lv' := [(2, .int 0), (0, .ref h0), (1, .int (nI nn))]) hx hb dX1_layRows_80 rfl hl (by decide) rfl (fun ls hl => ?_)
        have key_13 : ∀ (fu : Nat) (k6 : Nat) (fcz : Nat → Int32) (flz : Nat → Int32), (k6 ≤ nn) → (BdOk 4 10 flz) → (RowL fcz f_7 flz fpa fle fli nn k6) → nn - k6 < fu → ∀ (H : Heap) (locs : List Loc), va_P (dC, dI) vwCl [(h0, .inr (1, [w0, .ref b1, w2, .ref b3, .ref b4, .ref r0, .int (nI cn), w7])), (b1, .inl (kb1, 10, .inl fle)), (b3, .inl (kb3, 100, .inl fli)), (b4, .inl (kb4, 3, .inl fpa)), (r0, .inr (4, [.ref g0, .ref g1, .ref g2, .int (nI (k5 + 1))])), (g0, .inl (kg0, 40, .inl fcz)), (g1, .inl (kg1, 4, .inl f_7)), (g2, .inl (kg2, 4, .inl flz))] H → va_D A [(h0, .inr (1, [w0, .ref b1, w2, .ref b3, .ref b4, .ref r0, .int (nI cn), w7])), (b1, .inl (kb1, 10, .inl fle)), (b3, .inl (kb3, 100, .inl fli)), (b4, .inl (kb4, 3, .inl fpa)), (r0, .inr (4, [.ref g0, .ref g1, .ref g2, .int (nI (k5 + 1))])), (g0, .inl (kg0, 40, .inl fcz)), (g1, .inl (kg1, 4, .inl f_7)), (g2, .inl (kg2, 4, .inl flz))] → va_S A s.heap H locs → ∀ (ls : Array Slot), lv_has ls 5 [(2, .int (nI k6)), (0, .ref h0), (1, .int (nI nn))] → W p l e (headSpec (wq yX1_layRows cX1_layRows 5 none) ({ frames := 3, cells := 0, slots := 0, locals := 64 })).room s m (([.ref h0, .int (nI nn)] : List Value)).toArray below meth c H locs 0 0 (MQ below (va_Qv (fun _ : Unit => True) (fun _ t => ∃ (fc2 : Nat → Int32) (fh2 : Nat → Int32) (fl2 : Nat → Int32) (rc2 : Nat), (BdOk 4 10 fh2) ∧ (BdOk 4 10 fl2) ∧ (rc2 = nn + 1) ∧ (RowS fc2 fh2 fl2 fpa fle fli nn) ∧ va_P (dC, dI) vwCl [(h0, .inr (1, [w0, .ref b1, w2, .ref b3, .ref b4, .ref r0, .int (nI cn), w7])), (b1, .inl (kb1, 10, .inl fle)), (b3, .inl (kb3, 100, .inl fli)), (b4, .inl (kb4, 3, .inl fpa)), (r0, .inr (4, [.ref g0, .ref g1, .ref g2, .int (nI rc2)])), (g0, .inl (kg0, 40, .inl fc2)), (g1, .inl (kg1, 4, .inl fh2)), (g2, .inl (kg2, 4, .inl fl2))] t.heap ∧ va_K (dC, dI) vwCl [(kb1, .int), (kb3, .int), (kb4, .int), (kg0, .int), (kg1, .int), (kg2, .int)] t ∧ va_D A [(h0, .inr (1, [w0, .ref b1, w2, .ref b3, .ref b4, .ref r0, .int (nI cn), w7])), (b1, .inl (kb1, 10, .inl fle)), (b3, .inl (kb3, 100, .inl fli)), (b4, .inl (kb4, 3, .inl fpa)), (r0, .inr (4, [.ref g0, .ref g1, .ref g2, .int (nI rc2)])), (g0, .inl (kg0, 40, .inl fc2)), (g1, .inl (kg1, 4, .inl fh2)), (g2, .inl (kg2, 4, .inl fl2))]) A) (([.ref h0, .int (nI nn)] : List Value)).toArray s 0 0 A) (F0 m 81 ls []) := by
          intro fu
          induction fu with
          | zero => intro k6 fcz flz hk6 hlz hri hme; exact absurd hme (Nat.not_lt_zero _)
          | succ fu ih_14 =>
            intro k6 fcz flz hk6 hlz hri hme H locs hP hD hS ls hl
            refine lv_iload_n hx hb dX1_layRows_81 rfl (lv_at hl 0 rfl) ?_
            refine lv_iload_n hx hb dX1_layRows_82 rfl (lv_at hl 2 rfl) ?_
            refine lv_icmp_ge (tgt := 105) hx hb dX1_layRows_83 (by decide) (fun c_15 => ?_) (fun c_15 => ?_)
            · have b_16 := gx_ge (X := ((k6 : Nat) : Int)) (C := ((nn : Nat) : Int)) (nI_toInt (by omega)) (nI_toInt (by omega)) c_15
              have hP9 := hP.sub (ws' := [(h0, .inr (1, [w0, .ref b1, w2, .ref b3, .ref b4, .ref r0, .int (nI cn), w7])), (b1, .inl (kb1, 10, .inl fle)), (b3, .inl (kb3, 100, .inl fli)), (b4, .inl (kb4, 3, .inl fpa)), (r0, .inr (4, [.ref g0, .ref g1, .ref g2, .int (nI (k5 + 1))])), (g0, .inl (kg0, 40, .inl fcz)), (g1, .inl (kg1, 4, .inl f_7)), (g2, .inl (kg2, 4, .inl flz))]) [0, 1, 2, 3, 4, 5, 6, 7] rfl
              have hD9 := hD.sub (ws' := [(h0, .inr (1, [w0, .ref b1, w2, .ref b3, .ref b4, .ref r0, .int (nI cn), w7])), (b1, .inl (kb1, 10, .inl fle)), (b3, .inl (kb3, 100, .inl fli)), (b4, .inl (kb4, 3, .inl fpa)), (r0, .inr (4, [.ref g0, .ref g1, .ref g2, .int (nI (k5 + 1))])), (g0, .inl (kg0, 40, .inl fcz)), (g1, .inl (kg1, 4, .inl f_7)), (g2, .inl (kg2, 4, .inl flz))]) [0, 1, 2, 3, 4, 5, 6, 7] (by decide) rfl
              have hK9 := hK.sub (tys' := [(kb1, .int), (kb3, .int), (kb4, .int), (kg0, .int), (kg1, .int), (kg2, .int)]) [0, 1, 2, 3, 4, 5] rfl
              exact W.vret hx hb hr (fun t ht hW => ⟨⟨(), rfl, trivial, fcz, f_7, flz, (k5 + 1), p_9, hlz, (by omega), (rl_done hri (by omega)), by rw [ht]; exact hP9, va_K.moved hW.alike hK9, hD9⟩, hS.F ht⟩) hS.2.2 dX1_layRows_105
            · have b_16 := gn_ge (X := ((k6 : Nat) : Int)) (C := ((nn : Nat) : Int)) (nI_toInt (by omega)) (nI_toInt (by omega)) c_15
              refine lv_aload_n hx hb dX1_layRows_86 rfl (lv_at hl 1 rfl) ?_
              refine va_get (D := (dC, dI)) (ci := 1) (v := .ref r0) (C := RX1) (T := TX1) (N := 8) hx hb hts inB_1 hown hK hP 0 rfl rfl 5 (by decide) (hts _ mw_1_52) (fun _ h9 => h9) rfl dX1_layRows_87 ?_
              refine lv_aload_n hx hb dX1_layRows_90 rfl (lv_at hl 1 rfl) ?_
              refine va_get (D := (dC, dI)) (ci := 1) (v := .ref b4) (C := RX1) (T := TX1) (N := 8) hx hb hts inB_1 hown hK hP 0 rfl rfl 4 (by decide) (hts _ mw_1_51) (fun _ h9 => h9) rfl dX1_layRows_91 ?_
              refine lv_iload_n hx hb dX1_layRows_94 rfl (lv_at hl 0 rfl) ?_
              refine va_iald hx hb hK hP 3 2 rfl rfl (show vp_in (nI k6) 3 from vp_in_nI (by omega) (by omega)) dX1_layRows_95 ?_
              refine hx_top (y := (fpa k6)) (congrArg _ (nI_clamp (by omega))) ?_
              obtain ⟨n_17, hn_17, en_17⟩ := hpa k6 (by omega)
              refine hx_top (y := (nI n_17)) en_17 ?_
              have cn_17 : (fpa k6).toNatClampNeg = n_17 := (by rw [en_17, nI_clamp (by omega)])
              have ln_17 : lenN fle cn (nI n_17) = (fle n_17).toNatClampNeg := lenN_k (by omega) (by omega)
              have mn_17 := lenN_le (n := nI n_17) hc hle
              have hPc := hP.sub (ws' := [(r0, .inr (4, [.ref g0, .ref g1, .ref g2, .int (nI (k5 + 1))])), (g0, .inl (kg0, 40, .inl fcz)), (g1, .inl (kg1, 4, .inl f_7)), (g2, .inl (kg2, 4, .inl flz))]) [4, 5, 6, 7] rfl
              have hDc := hD.sub (ws' := [(r0, .inr (4, [.ref g0, .ref g1, .ref g2, .int (nI (k5 + 1))])), (g0, .inl (kg0, 40, .inl fcz)), (g1, .inl (kg1, 4, .inl f_7)), (g2, .inl (kg2, 4, .inl flz))]) [4, 5, 6, 7] (by decide) rfl
              have hKc := hK.sub (tys' := [(kg0, .int), (kg1, .int), (kg2, .int)]) [3, 4, 5] rfl
              have hFc := va_free (wc := [(r0, .inr (4, [.ref g0, .ref g1, .ref g2, .int (nI (k5 + 1))])), (g0, .inl (kg0, 40, .inl fcz)), (g1, .inl (kg1, 4, .inl f_7)), (g2, .inl (kg2, 4, .inl flz))]) hD hS hA [4, 5, 6, 7] rfl
              refine va_callv (va_runV (As := [.int (nI n_17)]) (rest := []) ⟨hx, hb, hml, hown, hts⟩ (c_rPut l dC dI H.size r0 g0 g1 g2 (k5 + 1) kg0 fcz kg1 f_7 kg2 flz (nI n_17) (by omega) hlz (by omega) (by rw [show ((k5 + 1) - 1) = nn from (by omega), hri.2.2.1, nI_clamp (by omega)]; omega)) (cwV 1 hts (gV mw_1_237 mw_1_238 mw_1_239 mw_1_3 mw_2_0) rfl rfl rfl (by decide +kernel) ⟨Nat.le_of_ble_eq_true rfl, Nat.le_of_ble_eq_true rfl⟩) ⟨pcW_blind, va_recv hKc hPc (ci := 4) (q0 := 0) rfl rfl, pcW_at hPc hKc hDc hN⟩ rfl rfl hl.1 rfl (lv_room (Nat.le_of_ble_eq_true rfl)) dX1_layRows_96 ⟨Nat.le_of_ble_eq_true rfl, Nat.le_of_ble_eq_true rfl⟩) hS (fun q _ h => hFc q h) hFc (fun u t H1 locs ht hvm hw_18 hB hz1 hk1 hS => ?_)
              obtain ⟨f_19, f_20, p_21, p_22, p_23, hP1, hK1, hD1⟩ := hB
              rw [ht] at hP1
              have hK1 := va_K.moved hvm.symm hK1
              obtain ⟨hP, hD⟩ := va_join (wr := [(h0, .inr (1, [w0, .ref b1, w2, .ref b3, .ref b4, .ref r0, .int (nI cn), w7])), (b1, .inl (kb1, 10, .inl fle)), (b3, .inl (kb3, 100, .inl fli)), (b4, .inl (kb4, 3, .inl fpa))]) (w1 := [(r0, .inr (4, [.ref g0, .ref g1, .ref g2, .int (nI (k5 + 1))])), (g0, .inl (kg0, 40, .inl f_19)), (g1, .inl (kg1, 4, .inl f_7)), (g2, .inl (kg2, 4, .inl f_20))]) hP hD [4, 5, 6, 7] [0, 1, 2, 3] rfl rfl (by decide) (by decide) hk1 hFc hP1 hD1
              have hK := (hK.sub (tys' := [(kb1, .int), (kb3, .int), (kb4, .int)]) [0, 1, 2] rfl).app hK1
              clear hz1 hk1 hPc hDc hKc hFc
              generalize H1 = H at hP hS ⊢
              have hK : va_K (dC, dI) vwCl [(kb1, .int), (kb3, .int), (kb4, .int), (kg0, .int), (kg1, .int), (kg2, .int)] s := hK
              have hP : va_P (dC, dI) vwCl [(h0, .inr (1, [w0, .ref b1, w2, .ref b3, .ref b4, .ref r0, .int (nI cn), w7])), (b1, .inl (kb1, 10, .inl fle)), (b3, .inl (kb3, 100, .inl fli)), (b4, .inl (kb4, 3, .inl fpa)), (r0, .inr (4, [.ref g0, .ref g1, .ref g2, .int (nI (k5 + 1))])), (g0, .inl (kg0, 40, .inl f_19)), (g1, .inl (kg1, 4, .inl f_7)), (g2, .inl (kg2, 4, .inl f_20))] H := hP
              have hD : va_D A [(h0, .inr (1, [w0, .ref b1, w2, .ref b3, .ref b4, .ref r0, .int (nI cn), w7])), (b1, .inl (kb1, 10, .inl fle)), (b3, .inl (kb3, 100, .inl fli)), (b4, .inl (kb4, 3, .inl fpa)), (r0, .inr (4, [.ref g0, .ref g1, .ref g2, .int (nI (k5 + 1))])), (g0, .inl (kg0, 40, .inl f_19)), (g1, .inl (kg1, 4, .inl f_7)), (g2, .inl (kg2, 4, .inl f_20))] := hD
              refine lv_iinc (v := (nI (k6 + 1))) (lv' := [(2, .int (nI (k6 + 1))), (0, .ref h0), (1, .int (nI nn))]) hx hb dX1_layRows_99 hl (k := 0) rfl (nI_add k6 1) (by decide) rfl (fun ls hl => ?_)
              refine lv_goto (tgt := 81) hx hb dX1_layRows_102 (by decide) ?_
              exact ih_14 (k6 + 1) f_19 f_20 (by omega) p_21 (rl_put hri hle (by omega) (by omega) (fun i hi => by obtain ⟨x, h1, h2⟩ := hpa i (by omega); rw [h2, nI_clamp (by omega)]; omega) en_17.symm (p_22.trans (by rw [show (k5 + 1) - 1 = nn from (by omega), hri.2.2.1, nI_clamp (by omega)])) (p_23.trans (by rw [show (k5 + 1) - 1 = nn from (by omega), hri.2.2.1, nI_clamp (by omega)]))) (by omega) _ _ hP hD hS ls (lv_sub hl [0, 1, 2] rfl)
        exact key_13 ((nn - 0) + 1) 0 fcx f_8 (by omega) p_10 (rl_beg (by have q : k5 = nn := (by omega); rw [q] at hrp; exact hrp) (p_11.trans (by rw [show k5 = nn from (by omega)])) (p_12.trans (by rw [show k5 = nn from (by omega)]))) (Nat.lt_succ_self _) _ _ hP hD hS ls (lv_sub hl [0, 1, 2] rfl)
      · have b_5 := gn_ge (X := ((k5 : Nat) : Int)) (C := ((nn : Nat) : Int)) (nI_toInt (by omega)) (nI_toInt (by omega)) c_4
        refine lv_aload_n hx hb dX1_layRows_14 rfl (lv_at hl 1 rfl) ?_
        refine va_get (D := (dC, dI)) (ci := 1) (v := .ref r0) (C := RX1) (T := TX1) (N := 8) hx hb hts inB_1 hown hK hP 0 rfl rfl 5 (by decide) (hts _ mw_1_52) (fun _ h9 => h9) rfl dX1_layRows_15 ?_
        have hPc := hP.sub (ws' := [(r0, .inr (4, [.ref g0, .ref g1, .ref g2, .int (nI k5)])), (g0, .inl (kg0, 40, .inl fcx)), (g1, .inl (kg1, 4, .inl fhx)), (g2, .inl (kg2, 4, .inl flx))]) [7, 4, 5, 6] rfl
        have hDc := hD.sub (ws' := [(r0, .inr (4, [.ref g0, .ref g1, .ref g2, .int (nI k5)])), (g0, .inl (kg0, 40, .inl fcx)), (g1, .inl (kg1, 4, .inl fhx)), (g2, .inl (kg2, 4, .inl flx))]) [7, 4, 5, 6] (by decide) rfl
        have hKc := hK.sub (tys' := [(kg0, .int), (kg1, .int), (kg2, .int)]) [3, 4, 5] rfl
        have hFc := va_free (wc := [(r0, .inr (4, [.ref g0, .ref g1, .ref g2, .int (nI k5)])), (g0, .inl (kg0, 40, .inl fcx)), (g1, .inl (kg1, 4, .inl fhx)), (g2, .inl (kg2, 4, .inl flx))]) hD hS hA [7, 4, 5, 6] rfl
        refine va_callv (va_runV (As := []) (rest := []) ⟨hx, hb, hml, hown, hts⟩ (c_rBegin l dC dI H.size r0 g0 g1 g2 k5 kg0 fcx kg1 fhx kg2 flx (by omega) hhx hlx) (cwV 0 hts (gV mw_1_229 mw_1_230 mw_1_231 mw_1_3 mw_1_232) rfl rfl rfl (by decide +kernel) ⟨Nat.le_of_ble_eq_true rfl, Nat.le_of_ble_eq_true rfl⟩) ⟨pcW_blind, va_recv hKc hPc (ci := 4) (q0 := 0) rfl rfl, pcW_at hPc hKc hDc hN⟩ rfl rfl hl.1 rfl (lv_room (Nat.le_of_ble_eq_true rfl)) dX1_layRows_18 ⟨Nat.le_of_ble_eq_true rfl, Nat.le_of_ble_eq_true rfl⟩) hS (fun q _ h => hFc q h) hFc (fun u t H1 locs ht hvm hw_24 hB hz1 hk1 hS => ?_)
        obtain ⟨f_25, f_26, p_27, p_28, p_29, p_30, hP1, hK1, hD1⟩ := hB
        rw [ht] at hP1
        have hK1 := va_K.moved hvm.symm hK1
        obtain ⟨hP, hD⟩ := va_join (wr := [(h0, .inr (1, [w0, .ref b1, w2, .ref b3, .ref b4, .ref r0, .int (nI cn), w7])), (b1, .inl (kb1, 10, .inl fle)), (b3, .inl (kb3, 100, .inl fli)), (b4, .inl (kb4, 3, .inl fpa))]) (w1 := [(r0, .inr (4, [.ref g0, .ref g1, .ref g2, .int (nI (k5 + 1))])), (g0, .inl (kg0, 40, .inl fcx)), (g1, .inl (kg1, 4, .inl f_25)), (g2, .inl (kg2, 4, .inl f_26))]) hP hD [7, 4, 5, 6] [0, 1, 2, 3] rfl rfl (by decide) (by decide) hk1 hFc hP1 hD1
        have hK := (hK.sub (tys' := [(kb1, .int), (kb3, .int), (kb4, .int)]) [0, 1, 2] rfl).app hK1
        clear hz1 hk1 hPc hDc hKc hFc
        generalize H1 = H at hP hS ⊢
        have hK : va_K (dC, dI) vwCl [(kb1, .int), (kb3, .int), (kb4, .int), (kg0, .int), (kg1, .int), (kg2, .int)] s := hK
        have hP : va_P (dC, dI) vwCl [(h0, .inr (1, [w0, .ref b1, w2, .ref b3, .ref b4, .ref r0, .int (nI cn), w7])), (b1, .inl (kb1, 10, .inl fle)), (b3, .inl (kb3, 100, .inl fli)), (b4, .inl (kb4, 3, .inl fpa)), (r0, .inr (4, [.ref g0, .ref g1, .ref g2, .int (nI (k5 + 1))])), (g0, .inl (kg0, 40, .inl fcx)), (g1, .inl (kg1, 4, .inl f_25)), (g2, .inl (kg2, 4, .inl f_26))] H := hP
        have hD : va_D A [(h0, .inr (1, [w0, .ref b1, w2, .ref b3, .ref b4, .ref r0, .int (nI cn), w7])), (b1, .inl (kb1, 10, .inl fle)), (b3, .inl (kb3, 100, .inl fli)), (b4, .inl (kb4, 3, .inl fpa)), (r0, .inr (4, [.ref g0, .ref g1, .ref g2, .int (nI (k5 + 1))])), (g0, .inl (kg0, 40, .inl fcx)), (g1, .inl (kg1, 4, .inl f_25)), (g2, .inl (kg2, 4, .inl f_26))] := hD
        refine lv_aload_n hx hb dX1_layRows_21 rfl (lv_at hl 1 rfl) ?_
        refine lv_aload_n hx hb dX1_layRows_22 rfl (lv_at hl 1 rfl) ?_
        refine va_get (D := (dC, dI)) (ci := 1) (v := .ref b4) (C := RX1) (T := TX1) (N := 8) hx hb hts inB_1 hown hK hP 0 rfl rfl 4 (by decide) (hts _ mw_1_51) (fun _ h9 => h9) rfl dX1_layRows_23 ?_
        refine lv_iload_n hx hb dX1_layRows_26 rfl (lv_at hl 0 rfl) ?_
        refine va_iald hx hb hK hP 3 2 rfl rfl (show vp_in (nI k5) 3 from vp_in_nI (by omega) (by omega)) dX1_layRows_27 ?_
        refine hx_top (y := (fpa k5)) (congrArg _ (nI_clamp (by omega))) ?_
        obtain ⟨n_31, hn_31, en_31⟩ := hpa k5 (by omega)
        refine hx_top (y := (nI n_31)) en_31 ?_
        have cn_31 : (fpa k5).toNatClampNeg = n_31 := (by rw [en_31, nI_clamp (by omega)])
        have ln_31 : lenN fle cn (nI n_31) = (fle n_31).toNatClampNeg := lenN_k (by omega) (by omega)
        have mn_31 := lenN_le (n := nI n_31) hc hle
        have hPc := hP.sub (ws' := [(h0, .inr (1, [w0, .ref b1, w2, .ref b3, .ref b4, .ref r0, .int (nI cn), w7])), (b1, .inl (kb1, 10, .inl fle))]) [0, 1] rfl
        have hDc := hD.sub (ws' := [(h0, .inr (1, [w0, .ref b1, w2, .ref b3, .ref b4, .ref r0, .int (nI cn), w7])), (b1, .inl (kb1, 10, .inl fle))]) [0, 1] (by decide) rfl
        have hKc := hK.sub (tys' := [(kb1, .int)]) [0] rfl
        refine va_calli (va_runV (As := [.int (nI n_31)]) (rest := []) ⟨hx, hb, hml, hown, hts⟩ (c_lengthOf l dC dI H.size h0 (w0) b1 (w2) (.ref b3) (.ref b4) (.ref r0) cn (w7) kb1 fle (nI n_31) hc hle) (cwV 1 hts (gV mw_1_213 mw_1_214 mw_1_215 mw_1_2 mw_1_216) rfl rfl rfl (by decide +kernel) ⟨Nat.le_of_ble_eq_true rfl, Nat.le_of_ble_eq_true rfl⟩) ⟨pcW_blind, va_recv hKc hPc (ci := 1) (q0 := 0) rfl rfl, pcW_at hPc hKc hDc hN⟩ rfl rfl hl.1 rfl (lv_room (Nat.le_of_ble_eq_true rfl)) dX1_layRows_28 ⟨Nat.le_of_ble_eq_true rfl, Nat.le_of_ble_eq_true rfl⟩) hS (fun q h1 h2 => absurd h2 (Nat.not_le.mpr h1)) (fun q h => hA q (Nat.le_trans hS.1 h)) (fun r_32 u t H1 locs ht hvm hw_32 hB hz1 hk1 hS => ?_)
        have hP := keepP hP hk1
        clear hz1 hk1 hB ht hvm hPc hDc hKc
        generalize H1 = H at hP hS ⊢
        obtain rfl : r_32 = nI (lenN fle cn (nI n_31)) := hw_32
        have b_33 := (lenN_le hc hle : lenN fle cn (nI n_31) ≤ 10)
        refine lv_istore_n (lv' := [(3, .int (nI (lenN fle cn (nI n_31)))), (2, .int (nI k5)), (0, .ref h0), (1, .int (nI nn))]) hx hb dX1_layRows_31 rfl hl (by decide) rfl (fun ls hl => ?_)
        refine lv_iconst (v := 0) hx hb dX1_layRows_32 (by decide) ?_
        refine lv_istore (lv' := [(4, .int 0), (3, .int (nI (lenN fle cn (nI n_31)))), (2, .int (nI k5)), (0, .ref h0), (1, .int (nI nn))]) hx hb dX1_layRows_33 hl (by decide) rfl (fun ls hl => ?_)
        have key_34 : ∀ (fu : Nat) (j5 : Nat) (fcy : Nat → Int32) (fly : Nat → Int32), (j5 ≤ 10) → (BdOk 4 10 fly) → (RowI fcy f_25 fly fpa fle fli k5 j5) → (j5 ≤ lenN fle cn (nI n_31)) → 10 - j5 < fu → ∀ (H : Heap) (locs : List Loc), va_P (dC, dI) vwCl [(h0, .inr (1, [w0, .ref b1, w2, .ref b3, .ref b4, .ref r0, .int (nI cn), w7])), (b1, .inl (kb1, 10, .inl fle)), (b3, .inl (kb3, 100, .inl fli)), (b4, .inl (kb4, 3, .inl fpa)), (r0, .inr (4, [.ref g0, .ref g1, .ref g2, .int (nI (k5 + 1))])), (g0, .inl (kg0, 40, .inl fcy)), (g1, .inl (kg1, 4, .inl f_25)), (g2, .inl (kg2, 4, .inl fly))] H → va_D A [(h0, .inr (1, [w0, .ref b1, w2, .ref b3, .ref b4, .ref r0, .int (nI cn), w7])), (b1, .inl (kb1, 10, .inl fle)), (b3, .inl (kb3, 100, .inl fli)), (b4, .inl (kb4, 3, .inl fpa)), (r0, .inr (4, [.ref g0, .ref g1, .ref g2, .int (nI (k5 + 1))])), (g0, .inl (kg0, 40, .inl fcy)), (g1, .inl (kg1, 4, .inl f_25)), (g2, .inl (kg2, 4, .inl fly))] → va_S A s.heap H locs → ∀ (ls : Array Slot), lv_has ls 5 [(4, .int (nI j5)), (3, .int (nI (lenN fle cn (nI n_31)))), (2, .int (nI k5)), (0, .ref h0), (1, .int (nI nn))] → W p l e (headSpec (wq yX1_layRows cX1_layRows 5 none) ({ frames := 3, cells := 0, slots := 0, locals := 64 })).room s m (([.ref h0, .int (nI nn)] : List Value)).toArray below meth c H locs 0 0 (MQ below (va_Qv (fun _ : Unit => True) (fun _ t => ∃ (fc2 : Nat → Int32) (fh2 : Nat → Int32) (fl2 : Nat → Int32) (rc2 : Nat), (BdOk 4 10 fh2) ∧ (BdOk 4 10 fl2) ∧ (rc2 = nn + 1) ∧ (RowS fc2 fh2 fl2 fpa fle fli nn) ∧ va_P (dC, dI) vwCl [(h0, .inr (1, [w0, .ref b1, w2, .ref b3, .ref b4, .ref r0, .int (nI cn), w7])), (b1, .inl (kb1, 10, .inl fle)), (b3, .inl (kb3, 100, .inl fli)), (b4, .inl (kb4, 3, .inl fpa)), (r0, .inr (4, [.ref g0, .ref g1, .ref g2, .int (nI rc2)])), (g0, .inl (kg0, 40, .inl fc2)), (g1, .inl (kg1, 4, .inl fh2)), (g2, .inl (kg2, 4, .inl fl2))] t.heap ∧ va_K (dC, dI) vwCl [(kb1, .int), (kb3, .int), (kb4, .int), (kg0, .int), (kg1, .int), (kg2, .int)] t ∧ va_D A [(h0, .inr (1, [w0, .ref b1, w2, .ref b3, .ref b4, .ref r0, .int (nI cn), w7])), (b1, .inl (kb1, 10, .inl fle)), (b3, .inl (kb3, 100, .inl fli)), (b4, .inl (kb4, 3, .inl fpa)), (r0, .inr (4, [.ref g0, .ref g1, .ref g2, .int (nI rc2)])), (g0, .inl (kg0, 40, .inl fc2)), (g1, .inl (kg1, 4, .inl fh2)), (g2, .inl (kg2, 4, .inl fl2))]) A) (([.ref h0, .int (nI nn)] : List Value)).toArray s 0 0 A) (F0 m 35 ls []) := by
          intro fu
          induction fu with
          | zero => intro j5 fcy fly hj5 hly hri hj6 hme; exact absurd hme (Nat.not_lt_zero _)
          | succ fu ih_35 =>
            intro j5 fcy fly hj5 hly hri hj6 hme H locs hP hD hS ls hl
            refine lv_iload hx hb dX1_layRows_35 (lv_at hl 0 rfl) ?_
            refine lv_iload_n hx hb dX1_layRows_37 rfl (lv_at hl 1 rfl) ?_
            refine lv_icmp_ge (tgt := 66) hx hb dX1_layRows_38 (by decide) (fun c_36 => ?_) (fun c_36 => ?_)
            · have b_37 := gx_ge (X := ((j5 : Nat) : Int)) (C := ((lenN fle cn (nI n_31) : Nat) : Int)) (nI_toInt (by omega)) (nI_toInt (by omega)) c_36
              refine lv_iinc (v := (nI (k5 + 1))) (lv' := [(2, .int (nI (k5 + 1))), (4, .int (nI j5)), (3, .int (nI (lenN fle cn (nI n_31)))), (0, .ref h0), (1, .int (nI nn))]) hx hb dX1_layRows_66 hl (k := 2) rfl (nI_add k5 1) (by decide) rfl (fun ls hl => ?_)
              refine lv_goto (tgt := 9) hx hb dX1_layRows_69 (by decide) ?_
              exact ih_3 (k5 + 1) fcy f_25 fly (by omega) p_27 hly (ro_done hri hle (by omega) (by rw [cn_31, ← ln_31]; omega)) (by omega) _ _ (hP.sub (ws' := [(h0, .inr (1, [w0, .ref b1, w2, .ref b3, .ref b4, .ref r0, .int (nI cn), w7])), (b1, .inl (kb1, 10, .inl fle)), (b3, .inl (kb3, 100, .inl fli)), (b4, .inl (kb4, 3, .inl fpa)), (g0, .inl (kg0, 40, .inl fcy)), (g1, .inl (kg1, 4, .inl f_25)), (g2, .inl (kg2, 4, .inl fly)), (r0, .inr (4, [.ref g0, .ref g1, .ref g2, .int (nI (k5 + 1))]))]) [0, 1, 2, 3, 5, 6, 7, 4] rfl) (hD.sub (ws' := [(h0, .inr (1, [w0, .ref b1, w2, .ref b3, .ref b4, .ref r0, .int (nI cn), w7])), (b1, .inl (kb1, 10, .inl fle)), (b3, .inl (kb3, 100, .inl fli)), (b4, .inl (kb4, 3, .inl fpa)), (g0, .inl (kg0, 40, .inl fcy)), (g1, .inl (kg1, 4, .inl f_25)), (g2, .inl (kg2, 4, .inl fly)), (r0, .inr (4, [.ref g0, .ref g1, .ref g2, .int (nI (k5 + 1))]))]) [0, 1, 2, 3, 5, 6, 7, 4] (by decide) rfl) hS ls (lv_sub hl [0, 3, 4] rfl)
            · have b_37 := gn_ge (X := ((j5 : Nat) : Int)) (C := ((lenN fle cn (nI n_31) : Nat) : Int)) (nI_toInt (by omega)) (nI_toInt (by omega)) c_36
              refine lv_aload_n hx hb dX1_layRows_41 rfl (lv_at hl 3 rfl) ?_
              refine va_get (D := (dC, dI)) (ci := 1) (v := .ref r0) (C := RX1) (T := TX1) (N := 8) hx hb hts inB_1 hown hK hP 0 rfl rfl 5 (by decide) (hts _ mw_1_52) (fun _ h9 => h9) rfl dX1_layRows_42 ?_
              refine lv_aload_n hx hb dX1_layRows_45 rfl (lv_at hl 3 rfl) ?_
              refine lv_aload_n hx hb dX1_layRows_46 rfl (lv_at hl 3 rfl) ?_
              refine va_get (D := (dC, dI)) (ci := 1) (v := .ref b4) (C := RX1) (T := TX1) (N := 8) hx hb hts inB_1 hown hK hP 0 rfl rfl 4 (by decide) (hts _ mw_1_51) (fun _ h9 => h9) rfl dX1_layRows_47 ?_
              refine lv_iload_n hx hb dX1_layRows_50 rfl (lv_at hl 2 rfl) ?_
              refine va_iald hx hb hK hP 3 2 rfl rfl (show vp_in (nI k5) 3 from vp_in_nI (by omega) (by omega)) dX1_layRows_51 ?_
              refine hx_top (y := (fpa k5)) (congrArg _ (nI_clamp (by omega))) ?_
              refine hx_top (y := (nI n_31)) en_31 ?_
              refine lv_iload hx hb dX1_layRows_52 (lv_at hl 0 rfl) ?_
              have hPc := hP.sub (ws' := [(h0, .inr (1, [w0, .ref b1, w2, .ref b3, .ref b4, .ref r0, .int (nI cn), w7])), (b1, .inl (kb1, 10, .inl fle)), (b3, .inl (kb3, 100, .inl fli))]) [0, 1, 2] rfl
              have hDc := hD.sub (ws' := [(h0, .inr (1, [w0, .ref b1, w2, .ref b3, .ref b4, .ref r0, .int (nI cn), w7])), (b1, .inl (kb1, 10, .inl fle)), (b3, .inl (kb3, 100, .inl fli))]) [0, 1, 2] (by decide) rfl
              have hKc := hK.sub (tys' := [(kb1, .int), (kb3, .int)]) [0, 1] rfl
              refine va_calli (va_runV (As := [.int (nI n_31), .int (nI j5)]) (rest := [.ref r0]) ⟨hx, hb, hml, hown, hts⟩ (c_inLine l dC dI H.size h0 (w0) b1 (w2) b3 (.ref b4) (.ref r0) cn (w7) kb1 fle kb3 fli n_31 j5 hc hle (by omega) (by omega)) (cwV 2 hts (gV mw_1_233 mw_1_234 mw_1_235 mw_1_2 mw_1_236) rfl rfl rfl (by decide +kernel) ⟨Nat.le_of_ble_eq_true rfl, Nat.le_of_ble_eq_true rfl⟩) ⟨pcW_blind, va_recv hKc hPc (ci := 1) (q0 := 0) rfl rfl, pcW_at hPc hKc hDc hN⟩ rfl rfl hl.1 rfl (lv_room (Nat.le_of_ble_eq_true rfl)) dX1_layRows_54 ⟨Nat.le_of_ble_eq_true rfl, Nat.le_of_ble_eq_true rfl⟩) hS (fun q h1 h2 => absurd h2 (Nat.not_le.mpr h1)) (fun q h => hA q (Nat.le_trans hS.1 h)) (fun r_38 u t H1 locs ht hvm hw_38 hB hz1 hk1 hS => ?_)
              have hP := keepP hP hk1
              clear hz1 hk1 hB ht hvm hPc hDc hKc
              generalize H1 = H at hP hS ⊢
              obtain rfl : r_38 = (fli (10 * n_31 + j5)) := hw_38
              have hPc := hP.sub (ws' := [(r0, .inr (4, [.ref g0, .ref g1, .ref g2, .int (nI (k5 + 1))])), (g0, .inl (kg0, 40, .inl fcy)), (g1, .inl (kg1, 4, .inl f_25)), (g2, .inl (kg2, 4, .inl fly))]) [4, 5, 6, 7] rfl
              have hDc := hD.sub (ws' := [(r0, .inr (4, [.ref g0, .ref g1, .ref g2, .int (nI (k5 + 1))])), (g0, .inl (kg0, 40, .inl fcy)), (g1, .inl (kg1, 4, .inl f_25)), (g2, .inl (kg2, 4, .inl fly))]) [4, 5, 6, 7] (by decide) rfl
              have hKc := hK.sub (tys' := [(kg0, .int), (kg1, .int), (kg2, .int)]) [3, 4, 5] rfl
              have hFc := va_free (wc := [(r0, .inr (4, [.ref g0, .ref g1, .ref g2, .int (nI (k5 + 1))])), (g0, .inl (kg0, 40, .inl fcy)), (g1, .inl (kg1, 4, .inl f_25)), (g2, .inl (kg2, 4, .inl fly))]) hD hS hA [4, 5, 6, 7] rfl
              refine va_callv (va_runV (As := [.int (fli (10 * n_31 + j5))]) (rest := []) ⟨hx, hb, hml, hown, hts⟩ (c_rPut l dC dI H.size r0 g0 g1 g2 (k5 + 1) kg0 fcy kg1 f_25 kg2 fly (fli (10 * n_31 + j5)) (by omega) hly (by omega) (by rw [show ((k5 + 1) - 1) = k5 from (by omega), hri.2.2.1, nI_clamp (by omega)]; omega)) (cwV 1 hts (gV mw_1_237 mw_1_238 mw_1_239 mw_1_3 mw_2_0) rfl rfl rfl (by decide +kernel) ⟨Nat.le_of_ble_eq_true rfl, Nat.le_of_ble_eq_true rfl⟩) ⟨pcW_blind, va_recv hKc hPc (ci := 4) (q0 := 0) rfl rfl, pcW_at hPc hKc hDc hN⟩ rfl rfl hl.1 rfl (lv_room (Nat.le_of_ble_eq_true rfl)) dX1_layRows_57 ⟨Nat.le_of_ble_eq_true rfl, Nat.le_of_ble_eq_true rfl⟩) hS (fun q _ h => hFc q h) hFc (fun u t H1 locs ht hvm hw_39 hB hz1 hk1 hS => ?_)
              obtain ⟨f_40, f_41, p_42, p_43, p_44, hP1, hK1, hD1⟩ := hB
              rw [ht] at hP1
              have hK1 := va_K.moved hvm.symm hK1
              obtain ⟨hP, hD⟩ := va_join (wr := [(h0, .inr (1, [w0, .ref b1, w2, .ref b3, .ref b4, .ref r0, .int (nI cn), w7])), (b1, .inl (kb1, 10, .inl fle)), (b3, .inl (kb3, 100, .inl fli)), (b4, .inl (kb4, 3, .inl fpa))]) (w1 := [(r0, .inr (4, [.ref g0, .ref g1, .ref g2, .int (nI (k5 + 1))])), (g0, .inl (kg0, 40, .inl f_40)), (g1, .inl (kg1, 4, .inl f_25)), (g2, .inl (kg2, 4, .inl f_41))]) hP hD [4, 5, 6, 7] [0, 1, 2, 3] rfl rfl (by decide) (by decide) hk1 hFc hP1 hD1
              have hK := (hK.sub (tys' := [(kb1, .int), (kb3, .int), (kb4, .int)]) [0, 1, 2] rfl).app hK1
              clear hz1 hk1 hPc hDc hKc hFc
              generalize H1 = H at hP hS ⊢
              have hK : va_K (dC, dI) vwCl [(kb1, .int), (kb3, .int), (kb4, .int), (kg0, .int), (kg1, .int), (kg2, .int)] s := hK
              have hP : va_P (dC, dI) vwCl [(h0, .inr (1, [w0, .ref b1, w2, .ref b3, .ref b4, .ref r0, .int (nI cn), w7])), (b1, .inl (kb1, 10, .inl fle)), (b3, .inl (kb3, 100, .inl fli)), (b4, .inl (kb4, 3, .inl fpa)), (r0, .inr (4, [.ref g0, .ref g1, .ref g2, .int (nI (k5 + 1))])), (g0, .inl (kg0, 40, .inl f_40)), (g1, .inl (kg1, 4, .inl f_25)), (g2, .inl (kg2, 4, .inl f_41))] H := hP
              have hD : va_D A [(h0, .inr (1, [w0, .ref b1, w2, .ref b3, .ref b4, .ref r0, .int (nI cn), w7])), (b1, .inl (kb1, 10, .inl fle)), (b3, .inl (kb3, 100, .inl fli)), (b4, .inl (kb4, 3, .inl fpa)), (r0, .inr (4, [.ref g0, .ref g1, .ref g2, .int (nI (k5 + 1))])), (g0, .inl (kg0, 40, .inl f_40)), (g1, .inl (kg1, 4, .inl f_25)), (g2, .inl (kg2, 4, .inl f_41))] := hD
              refine lv_iinc (v := (nI (j5 + 1))) (lv' := [(4, .int (nI (j5 + 1))), (3, .int (nI (lenN fle cn (nI n_31)))), (2, .int (nI k5)), (0, .ref h0), (1, .int (nI nn))]) hx hb dX1_layRows_60 hl (k := 0) rfl (nI_add j5 1) (by decide) rfl (fun ls hl => ?_)
              refine lv_goto (tgt := 35) hx hb dX1_layRows_63 (by decide) ?_
              exact ih_35 (j5 + 1) f_40 f_41 (by omega) p_42 (ro_put hri hle (by omega) (by omega) (fun i hi => by obtain ⟨x, h1, h2⟩ := hpa i (by omega); rw [h2, nI_clamp (by omega)]; omega) rfl (p_43.trans (by rw [show (k5 + 1) - 1 = k5 from (by omega), hri.2.2.1, nI_clamp (by omega), cn_31])) (p_44.trans (by rw [show (k5 + 1) - 1 = k5 from (by omega), hri.2.2.1, nI_clamp (by omega)]))) (by omega) (by omega) _ _ hP hD hS ls (lv_sub hl [0, 1, 2, 3, 4] rfl)
        exact key_34 ((10 - 0) + 1) 0 fcx f_26 (by omega) p_28 (ro_beg hrp p_29 p_30) (by omega) (Nat.lt_succ_self _) _ _ hP hD hS ls (lv_sub hl [0, 1, 2, 3, 4] rfl)
  exact key_2 ((nn - 0) + 1) 0 fc fh fl (by omega) hfh hfl (fun i h => absurd h (Nat.not_lt_zero i)) (Nat.lt_succ_self _) _ _ hP hD hS ls (lv_sub hl [0, 1, 2] rfl)
set_option maxHeartbeats 4000000 in
set_option maxRecDepth 100000 in
theorem c_layLine (l : Launch) (dC : Nat → ClassId) (dI : Nat → Nat → Nat) (sz : Nat) (h0 : Nat) (w0 : Value) (b1 : Nat) (b2 : Nat) (b3 : Nat) (b4 : Nat) (r0 : Nat) (cn : Nat) (w7 : Value) (kb1 : ClassId) (fle : Nat → Int32) (kb2 : ClassId) (fqu : Nat → Int32) (kb3 : ClassId) (fli : Nat → Int32) (kb4 : ClassId) (fpa : Nat → Int32) (g0 : Nat) (g1 : Nat) (g2 : Nat) (rc : Int32) (kg0 : ClassId) (fc : Nat → Int32) (kg1 : ClassId) (fh : Nat → Int32) (kg2 : ClassId) (fl : Nat → Int32) (kk : Nat) (nn : Nat) (hc : cn ≤ 10) (hle : BdOk 10 10 fle) (hnn : nn ≤ 3) (hfh : BdOk 4 10 fh) (hfl : BdOk 4 10 fl) (hkk : kk < 10) (hlk : LnOk fle fli cn) (hpa : ∀ i, i < nn → ∃ q : Nat, q < cn ∧ fpa i = nI q) : Met l yX1_layLine (wq yX1_layLine cX1_layLine 6 none) ({ frames := 4, cells := 0, slots := 0, locals := 88 }) (va_Pc [.ref h0, .int (nI kk), .int (nI nn)] (pcW dC dI [(kb1, .int), (kb2, .int), (kb3, .int), (kb4, .int), (kg0, .int), (kg1, .int), (kg2, .int)] [(h0, .inr (1, [w0, .ref b1, .ref b2, .ref b3, .ref b4, .ref r0, .int (nI cn), w7])), (b1, .inl (kb1, 10, .inl fle)), (b2, .inl (kb2, 10, .inl fqu)), (b3, .inl (kb3, 100, .inl fli)), (b4, .inl (kb4, 3, .inl fpa)), (r0, .inr (4, [.ref g0, .ref g1, .ref g2, .int rc])), (g0, .inl (kg0, 40, .inl fc)), (g1, .inl (kg1, 4, .inl fh)), (g2, .inl (kg2, 4, .inl fl))] sz)) (va_Qv (fun _ : Unit => True) (fun _ t => ∃ (fle2 : Nat → Int32) (fqu2 : Nat → Int32) (fli2 : Nat → Int32) (fc2 : Nat → Int32) (fh2 : Nat → Int32) (fl2 : Nat → Int32), (BdOk 10 10 fle2) ∧ (BdOk 4 10 fh2) ∧ (BdOk 4 10 fl2) ∧ (∃ L Q : Int32, fle2 = upd fle kk L ∧ fqu2 = upd fqu kk (qcF Q) ∧ LayS fle fli fpa nn kk L Q fli2) ∧ va_P (dC, dI) vwCl [(h0, .inr (1, [w0, .ref b1, .ref b2, .ref b3, .ref b4, .ref r0, .int (nI cn), w7])), (b1, .inl (kb1, 10, .inl fle2)), (b2, .inl (kb2, 10, .inl fqu2)), (b3, .inl (kb3, 100, .inl fli2)), (b4, .inl (kb4, 3, .inl fpa)), (r0, .inr (4, [.ref g0, .ref g1, .ref g2, .int (nI (nn + 1))])), (g0, .inl (kg0, 40, .inl fc2)), (g1, .inl (kg1, 4, .inl fh2)), (g2, .inl (kg2, 4, .inl fl2))] t.heap ∧ va_K (dC, dI) vwCl [(kb1, .int), (kb2, .int), (kb3, .int), (kb4, .int), (kg0, .int), (kg1, .int), (kg2, .int)] t ∧ va_D (va_A [(h0, .inr (1, [w0, .ref b1, .ref b2, .ref b3, .ref b4, .ref r0, .int (nI cn), w7])), (b1, .inl (kb1, 10, .inl fle)), (b2, .inl (kb2, 10, .inl fqu)), (b3, .inl (kb3, 100, .inl fli)), (b4, .inl (kb4, 3, .inl fpa)), (r0, .inr (4, [.ref g0, .ref g1, .ref g2, .int rc])), (g0, .inl (kg0, 40, .inl fc)), (g1, .inl (kg1, 4, .inl fh)), (g2, .inl (kg2, 4, .inl fl))] sz) [(h0, .inr (1, [w0, .ref b1, .ref b2, .ref b3, .ref b4, .ref r0, .int (nI cn), w7])), (b1, .inl (kb1, 10, .inl fle2)), (b2, .inl (kb2, 10, .inl fqu2)), (b3, .inl (kb3, 100, .inl fli2)), (b4, .inl (kb4, 3, .inl fpa)), (r0, .inr (4, [.ref g0, .ref g1, .ref g2, .int (nI (nn + 1))])), (g0, .inl (kg0, 40, .inl fc2)), (g1, .inl (kg1, 4, .inl fh2)), (g2, .inl (kg2, 4, .inl fl2))]) (va_A [(h0, .inr (1, [w0, .ref b1, .ref b2, .ref b3, .ref b4, .ref r0, .int (nI cn), w7])), (b1, .inl (kb1, 10, .inl fle)), (b2, .inl (kb2, 10, .inl fqu)), (b3, .inl (kb3, 100, .inl fli)), (b4, .inl (kb4, 3, .inl fpa)), (r0, .inr (4, [.ref g0, .ref g1, .ref g2, .int rc])), (g0, .inl (kg0, 40, .inl fc)), (g1, .inl (kg1, 4, .inl fh)), (g2, .inl (kg2, 4, .inl fl))] sz)) 0 0 (va_A [(h0, .inr (1, [w0, .ref b1, .ref b2, .ref b3, .ref b4, .ref r0, .int (nI cn), w7])), (b1, .inl (kb1, 10, .inl fle)), (b2, .inl (kb2, 10, .inl fqu)), (b3, .inl (kb3, 100, .inl fli)), (b4, .inl (kb4, 3, .inl fpa)), (r0, .inr (4, [.ref g0, .ref g1, .ref g2, .int rc])), (g0, .inl (kg0, 40, .inl fc)), (g1, .inl (kg1, 4, .inl fh)), (g2, .inl (kg2, 4, .inl fl))] sz) := by
  refine Met.ofW (cc := cX1_layLine) (maxL := 6) (ret := none) (by decide) rfl ?_
  intro p e s m args below meth c s₁ B hml hv
  obtain ⟨rfl, hsz, hN, hP, hK, hD0⟩ := hv
  have hx := B.exec
  have hb := B.bytes
  have hr := B.returns
  have hts0 := atoms_spec (ws := (wq yX1_layLine cX1_layLine 6 none)) B.pre
  have hts : ∀ w ∈ BG, w.before _ s = true := fun w h => hts0 w (List.mem_cons_of_mem _ h)
  have hown : s.vm.findClass RX1 = some m.cls := findClass_of_methodNamed B.named
  have hlocks := B.notSynchronized
  subst hsz
  have hD := hD0.self (sz := s.heap.size)
  generalize hAe : va_A [(h0, .inr (1, [w0, .ref b1, .ref b2, .ref b3, .ref b4, .ref r0, .int (nI cn), w7])), (b1, .inl (kb1, 10, .inl fle)), (b2, .inl (kb2, 10, .inl fqu)), (b3, .inl (kb3, 100, .inl fli)), (b4, .inl (kb4, 3, .inl fpa)), (r0, .inr (4, [.ref g0, .ref g1, .ref g2, .int rc])), (g0, .inl (kg0, 40, .inl fc)), (g1, .inl (kg1, 4, .inl fh)), (g2, .inl (kg2, 4, .inl fl))] s.heap.size = A at hD ⊢
  have hA : ∀ q : Nat, s.heap.size ≤ q → A q := fun q h => by rw [← hAe]; exact Or.inr h
  have hS : va_S A s.heap s.heap [] := va_S.rf
  clear hAe hD0
  have hP : va_P (dC, dI) vwCl [(h0, .inr (1, [w0, .ref b1, .ref b2, .ref b3, .ref b4, .ref r0, .int (nI cn), w7])), (b1, .inl (kb1, 10, .inl fle)), (b2, .inl (kb2, 10, .inl fqu)), (b3, .inl (kb3, 100, .inl fli)), (b4, .inl (kb4, 3, .inl fpa)), (r0, .inr (4, [.ref g0, .ref g1, .ref g2, .int rc])), (g0, .inl (kg0, 40, .inl fc)), (g1, .inl (kg1, 4, .inl fh)), (g2, .inl (kg2, 4, .inl fl))] s.heap := hP
  have hl := lv_entry ([.ref h0, .int (nI kk), .int (nI nn)]) (n := 6) (Nat.le_of_ble_eq_true rfl)
  rw [lg_entry_eq]
  generalize (lg_sl ([.ref h0, .int (nI kk), .int (nI nn)]) ++ List.replicate (6 - (lg_sl ([.ref h0, .int (nI kk), .int (nI nn)])).length) Slot.unset).toArray = ls at hl ⊢
  have hl : lv_has ls 6 [(0, .ref h0), (1, .int (nI kk)), (2, .int (nI nn))] := hl
  refine lv_aload_n hx hb dX1_layLine_0 rfl (lv_at hl 0 rfl) ?_
  refine lv_iload_n hx hb dX1_layLine_1 rfl (lv_at hl 2 rfl) ?_
  have hPc := hP.sub (ws' := [(h0, .inr (1, [w0, .ref b1, .ref b2, .ref b3, .ref b4, .ref r0, .int (nI cn), w7])), (b1, .inl (kb1, 10, .inl fle)), (b3, .inl (kb3, 100, .inl fli)), (b4, .inl (kb4, 3, .inl fpa)), (r0, .inr (4, [.ref g0, .ref g1, .ref g2, .int rc])), (g0, .inl (kg0, 40, .inl fc)), (g1, .inl (kg1, 4, .inl fh)), (g2, .inl (kg2, 4, .inl fl))]) [0, 1, 3, 4, 5, 6, 7, 8] rfl
  have hDc := hD.sub (ws' := [(h0, .inr (1, [w0, .ref b1, .ref b2, .ref b3, .ref b4, .ref r0, .int (nI cn), w7])), (b1, .inl (kb1, 10, .inl fle)), (b3, .inl (kb3, 100, .inl fli)), (b4, .inl (kb4, 3, .inl fpa)), (r0, .inr (4, [.ref g0, .ref g1, .ref g2, .int rc])), (g0, .inl (kg0, 40, .inl fc)), (g1, .inl (kg1, 4, .inl fh)), (g2, .inl (kg2, 4, .inl fl))]) [0, 1, 3, 4, 5, 6, 7, 8] (by decide) rfl
  have hKc := hK.sub (tys' := [(kb1, .int), (kb3, .int), (kb4, .int), (kg0, .int), (kg1, .int), (kg2, .int)]) [0, 2, 3, 4, 5, 6] rfl
  have hFc := va_free (wc := [(h0, .inr (1, [w0, .ref b1, .ref b2, .ref b3, .ref b4, .ref r0, .int (nI cn), w7])), (b1, .inl (kb1, 10, .inl fle)), (b3, .inl (kb3, 100, .inl fli)), (b4, .inl (kb4, 3, .inl fpa)), (r0, .inr (4, [.ref g0, .ref g1, .ref g2, .int rc])), (g0, .inl (kg0, 40, .inl fc)), (g1, .inl (kg1, 4, .inl fh)), (g2, .inl (kg2, 4, .inl fl))]) hD hS hA [0, 1, 3, 4, 5, 6, 7, 8] rfl
  refine va_callv (va_runV (As := [.int (nI nn)]) (rest := []) ⟨hx, hb, hml, hown, hts⟩ (c_layRows l dC dI s.heap.size h0 (w0) b1 (.ref b2) b3 b4 r0 cn (w7) kb1 fle kb3 fli kb4 fpa g0 g1 g2 rc kg0 fc kg1 fh kg2 fl nn hc hle hnn hfh hfl hpa) (cwV 1 hts (gV mw_1_221 mw_1_223 mw_0_1 mw_1_2 mw_1_224) rfl rfl rfl (by decide +kernel) ⟨Nat.le_of_ble_eq_true rfl, Nat.le_of_ble_eq_true rfl⟩) ⟨pcW_blind, va_recv hKc hPc (ci := 1) (q0 := 0) rfl rfl, pcW_at hPc hKc hDc hN⟩ rfl rfl hl.1 rfl (lv_room (Nat.le_of_ble_eq_true rfl)) dX1_layLine_2 ⟨Nat.le_of_ble_eq_true rfl, Nat.le_of_ble_eq_true rfl⟩) hS (fun q _ h => hFc q h) hFc (fun u t H1 locs ht hvm hw_1 hB hz1 hk1 hS => ?_)
  obtain ⟨f_2, f_3, f_4, q_5, p_6, p_7, p_8, p_9, hP1, hK1, hD1⟩ := hB
  rw [ht] at hP1
  have hK1 := va_K.moved hvm.symm hK1
  obtain ⟨hP, hD⟩ := va_join (wr := [(b2, .inl (kb2, 10, .inl fqu))]) (w1 := [(h0, .inr (1, [w0, .ref b1, .ref b2, .ref b3, .ref b4, .ref r0, .int (nI cn), w7])), (b1, .inl (kb1, 10, .inl fle)), (b3, .inl (kb3, 100, .inl fli)), (b4, .inl (kb4, 3, .inl fpa)), (r0, .inr (4, [.ref g0, .ref g1, .ref g2, .int (nI q_5)])), (g0, .inl (kg0, 40, .inl f_2)), (g1, .inl (kg1, 4, .inl f_3)), (g2, .inl (kg2, 4, .inl f_4))]) hP hD [0, 1, 3, 4, 5, 6, 7, 8] [2] rfl rfl (by decide) (by decide) hk1 hFc hP1 hD1
  have hK := (hK.sub (tys' := [(kb2, .int)]) [1] rfl).app hK1
  clear hz1 hk1 hPc hDc hKc hFc
  generalize H1 = H at hP hS ⊢
  have hK : va_K (dC, dI) vwCl [(kb2, .int), (kb1, .int), (kb3, .int), (kb4, .int), (kg0, .int), (kg1, .int), (kg2, .int)] s := hK
  have hP : va_P (dC, dI) vwCl [(b2, .inl (kb2, 10, .inl fqu)), (h0, .inr (1, [w0, .ref b1, .ref b2, .ref b3, .ref b4, .ref r0, .int (nI cn), w7])), (b1, .inl (kb1, 10, .inl fle)), (b3, .inl (kb3, 100, .inl fli)), (b4, .inl (kb4, 3, .inl fpa)), (r0, .inr (4, [.ref g0, .ref g1, .ref g2, .int (nI q_5)])), (g0, .inl (kg0, 40, .inl f_2)), (g1, .inl (kg1, 4, .inl f_3)), (g2, .inl (kg2, 4, .inl f_4))] H := hP
  have hD : va_D A [(b2, .inl (kb2, 10, .inl fqu)), (h0, .inr (1, [w0, .ref b1, .ref b2, .ref b3, .ref b4, .ref r0, .int (nI cn), w7])), (b1, .inl (kb1, 10, .inl fle)), (b3, .inl (kb3, 100, .inl fli)), (b4, .inl (kb4, 3, .inl fpa)), (r0, .inr (4, [.ref g0, .ref g1, .ref g2, .int (nI q_5)])), (g0, .inl (kg0, 40, .inl f_2)), (g1, .inl (kg1, 4, .inl f_3)), (g2, .inl (kg2, 4, .inl f_4))] := hD
  subst p_8
  have hrwc : RwOk f_2 f_4 (nn + 1) cn := rs_ok p_9 (by omega) hlk hpa hc
  have hrw10 : RwOk f_2 f_4 (nn + 1) 10 := (fun r hr i hi => by obtain ⟨x, h1, h2⟩ := hrwc r hr i hi; exact ⟨x, by omega, h2⟩)
  refine lv_aload_n hx hb dX1_layLine_5 rfl (lv_at hl 0 rfl) ?_
  refine va_get (D := (dC, dI)) (ci := 1) (v := .ref b3) (C := RX1) (T := TX1) (N := 8) hx hb hts inB_1 hown hK hP 1 rfl rfl 3 (by decide) (hts _ mw_1_50) (fun _ h9 => h9) rfl dX1_layLine_6 ?_
  refine lv_iload_n hx hb dX1_layLine_9 rfl (lv_at hl 1 rfl) ?_
  refine lv_bipush (v := 10) hx hb dX1_layLine_10 (by decide) ?_
  refine lv_imul hx hb dX1_layLine_12 ?_
  refine hx_top (y := (nI (kk * 10))) (pk_mul kk 10) ?_
  refine lv_iload_n hx hb dX1_layLine_13 rfl (lv_at hl 1 rfl) ?_
  refine va_iast hx hb hK hP hD hS 3 2 rfl rfl (show vp_in (nI (kk * 10)) 100 from vp_in_nI (by omega) (by omega)) dX1_layLine_14 (fun H locs hP hD hS => ?_)
  obtain ⟨f_10, ef_10⟩ : ∃ g : Nat → Int32, g = upd fli (Int32.toNatClampNeg (nI (kk * 10))) (nI kk) := ⟨_, rfl⟩
  rw [← ef_10] at hP hD
  have ef_10 : f_10 = upd fli (kk * 10) (nI kk) := by rw [ef_10, nI_clamp (by omega)]
  have hP : va_P (dC, dI) vwCl [(b2, .inl (kb2, 10, .inl fqu)), (h0, .inr (1, [w0, .ref b1, .ref b2, .ref b3, .ref b4, .ref r0, .int (nI cn), w7])), (b1, .inl (kb1, 10, .inl fle)), (b3, .inl (kb3, 100, .inl f_10)), (b4, .inl (kb4, 3, .inl fpa)), (r0, .inr (4, [.ref g0, .ref g1, .ref g2, .int (nI (nn + 1))])), (g0, .inl (kg0, 40, .inl f_2)), (g1, .inl (kg1, 4, .inl f_3)), (g2, .inl (kg2, 4, .inl f_4))] H := hP
  have hD : va_D A [(b2, .inl (kb2, 10, .inl fqu)), (h0, .inr (1, [w0, .ref b1, .ref b2, .ref b3, .ref b4, .ref r0, .int (nI cn), w7])), (b1, .inl (kb1, 10, .inl fle)), (b3, .inl (kb3, 100, .inl f_10)), (b4, .inl (kb4, 3, .inl fpa)), (r0, .inr (4, [.ref g0, .ref g1, .ref g2, .int (nI (nn + 1))])), (g0, .inl (kg0, 40, .inl f_2)), (g1, .inl (kg1, 4, .inl f_3)), (g2, .inl (kg2, 4, .inl f_4))] := hD
  have hly0 : layI f_2 f_4 (nn + 1) kk 9 (f_3, f_10, 1) = layI f_2 f_4 (nn + 1) kk 9 (f_3, upd fli (10 * kk) (nI kk), 1) := (by rw [ef_10, Nat.mul_comm kk 10])
  refine lv_iconst (v := 1) hx hb dX1_layLine_15 (by decide) ?_
  refine lv_istore_n (lv' := [(3, .int 1), (0, .ref h0), (1, .int (nI kk)), (2, .int (nI nn))]) hx hb dX1_layLine_16 rfl hl (by decide) rfl (fun ls hl => ?_)
  refine lv_aload_n hx hb dX1_layLine_17 rfl (lv_at hl 1 rfl) ?_
  refine va_get (D := (dC, dI)) (ci := 1) (v := .ref r0) (C := RX1) (T := TX1) (N := 8) hx hb hts inB_1 hown hK hP 1 rfl rfl 5 (by decide) (hts _ mw_1_52) (fun _ h9 => h9) rfl dX1_layLine_18 ?_
  have hPc := hP.sub (ws' := [(r0, .inr (4, [.ref g0, .ref g1, .ref g2, .int (nI (nn + 1))])), (g0, .inl (kg0, 40, .inl f_2)), (g1, .inl (kg1, 4, .inl f_3)), (g2, .inl (kg2, 4, .inl f_4))]) [5, 6, 7, 8] rfl
  have hDc := hD.sub (ws' := [(r0, .inr (4, [.ref g0, .ref g1, .ref g2, .int (nI (nn + 1))])), (g0, .inl (kg0, 40, .inl f_2)), (g1, .inl (kg1, 4, .inl f_3)), (g2, .inl (kg2, 4, .inl f_4))]) [5, 6, 7, 8] (by decide) rfl
  have hKc := hK.sub (tys' := [(kg0, .int), (kg1, .int), (kg2, .int)]) [4, 5, 6] rfl
  refine va_calli (va_runV (As := []) (rest := []) ⟨hx, hb, hml, hown, hts⟩ (c_rFree l dC dI H.size r0 g0 g1 g2 (nn + 1) kg0 f_2 kg1 f_3 kg2 f_4 (by omega) p_6 p_7 hrw10) (cwV 0 hts (gV mw_2_1 mw_2_2 mw_2_3 mw_1_3 mw_2_4) rfl rfl rfl (by decide +kernel) ⟨Nat.le_of_ble_eq_true rfl, Nat.le_of_ble_eq_true rfl⟩) ⟨pcW_blind, va_recv hKc hPc (ci := 4) (q0 := 0) rfl rfl, pcW_at hPc hKc hDc hN⟩ rfl rfl hl.1 rfl (lv_room (Nat.le_of_ble_eq_true rfl)) dX1_layLine_21 ⟨Nat.le_of_ble_eq_true rfl, Nat.le_of_ble_eq_true rfl⟩) hS (fun q h1 h2 => absurd h2 (Nat.not_le.mpr h1)) (fun q h => hA q (Nat.le_trans hS.1 h)) (fun r_11 u t H1 locs ht hvm hw_11 hB hz1 hk1 hS => ?_)
  have hP := keepP hP hk1
  clear hz1 hk1 hB ht hvm hPc hDc hKc
  generalize H1 = H at hP hS ⊢
  refine lv_istore (lv' := [(4, .int r_11), (3, .int 1), (0, .ref h0), (1, .int (nI kk)), (2, .int (nI nn))]) hx hb dX1_layLine_24 hl (by decide) rfl (fun ls hl => ?_)
  have key_12 : ∀ (fu : Nat) (ln : Nat) (fr : Int32) (flx : Nat → Int32) (fhx : Nat → Int32), (ln ≤ 10) → (1 ≤ ln) → (BdOk 4 10 fhx) → (fr = nhF f_2 fhx f_4 (nn + 1) 0 (nn + 1)) → (layI f_2 f_4 (nn + 1) kk (10 - ln) (fhx, flx, ln) = layI f_2 f_4 (nn + 1) kk 9 (f_3, f_10, 1)) → 10 - ln < fu → ∀ (H : Heap) (locs : List Loc), va_P (dC, dI) vwCl [(b2, .inl (kb2, 10, .inl fqu)), (h0, .inr (1, [w0, .ref b1, .ref b2, .ref b3, .ref b4, .ref r0, .int (nI cn), w7])), (b1, .inl (kb1, 10, .inl fle)), (b3, .inl (kb3, 100, .inl flx)), (b4, .inl (kb4, 3, .inl fpa)), (r0, .inr (4, [.ref g0, .ref g1, .ref g2, .int (nI (nn + 1))])), (g0, .inl (kg0, 40, .inl f_2)), (g1, .inl (kg1, 4, .inl fhx)), (g2, .inl (kg2, 4, .inl f_4))] H → va_D A [(b2, .inl (kb2, 10, .inl fqu)), (h0, .inr (1, [w0, .ref b1, .ref b2, .ref b3, .ref b4, .ref r0, .int (nI cn), w7])), (b1, .inl (kb1, 10, .inl fle)), (b3, .inl (kb3, 100, .inl flx)), (b4, .inl (kb4, 3, .inl fpa)), (r0, .inr (4, [.ref g0, .ref g1, .ref g2, .int (nI (nn + 1))])), (g0, .inl (kg0, 40, .inl f_2)), (g1, .inl (kg1, 4, .inl fhx)), (g2, .inl (kg2, 4, .inl f_4))] → va_S A s.heap H locs → ∀ (ls : Array Slot), lv_has ls 6 [(4, .int fr), (3, .int (nI ln)), (0, .ref h0), (1, .int (nI kk)), (2, .int (nI nn))] → W p l e (headSpec (wq yX1_layLine cX1_layLine 6 none) ({ frames := 4, cells := 0, slots := 0, locals := 88 })).room s m (([.ref h0, .int (nI kk), .int (nI nn)] : List Value)).toArray below meth c H locs 0 0 (MQ below (va_Qv (fun _ : Unit => True) (fun _ t => ∃ (fle2 : Nat → Int32) (fqu2 : Nat → Int32) (fli2 : Nat → Int32) (fc2 : Nat → Int32) (fh2 : Nat → Int32) (fl2 : Nat → Int32), (BdOk 10 10 fle2) ∧ (BdOk 4 10 fh2) ∧ (BdOk 4 10 fl2) ∧ (∃ L Q : Int32, fle2 = upd fle kk L ∧ fqu2 = upd fqu kk (qcF Q) ∧ LayS fle fli fpa nn kk L Q fli2) ∧ va_P (dC, dI) vwCl [(h0, .inr (1, [w0, .ref b1, .ref b2, .ref b3, .ref b4, .ref r0, .int (nI cn), w7])), (b1, .inl (kb1, 10, .inl fle2)), (b2, .inl (kb2, 10, .inl fqu2)), (b3, .inl (kb3, 100, .inl fli2)), (b4, .inl (kb4, 3, .inl fpa)), (r0, .inr (4, [.ref g0, .ref g1, .ref g2, .int (nI (nn + 1))])), (g0, .inl (kg0, 40, .inl fc2)), (g1, .inl (kg1, 4, .inl fh2)), (g2, .inl (kg2, 4, .inl fl2))] t.heap ∧ va_K (dC, dI) vwCl [(kb1, .int), (kb2, .int), (kb3, .int), (kb4, .int), (kg0, .int), (kg1, .int), (kg2, .int)] t ∧ va_D A [(h0, .inr (1, [w0, .ref b1, .ref b2, .ref b3, .ref b4, .ref r0, .int (nI cn), w7])), (b1, .inl (kb1, 10, .inl fle2)), (b2, .inl (kb2, 10, .inl fqu2)), (b3, .inl (kb3, 100, .inl fli2)), (b4, .inl (kb4, 3, .inl fpa)), (r0, .inr (4, [.ref g0, .ref g1, .ref g2, .int (nI (nn + 1))])), (g0, .inl (kg0, 40, .inl fc2)), (g1, .inl (kg1, 4, .inl fh2)), (g2, .inl (kg2, 4, .inl fl2))]) A) (([.ref h0, .int (nI kk), .int (nI nn)] : List Value)).toArray s 0 0 A) (F0 m 26 ls []) := by
    intro fu
    induction fu with
    | zero => intro ln fr flx fhx hln hln1 hhx hfr hly hme; exact absurd hme (Nat.not_lt_zero _)
    | succ fu ih_13 =>
      intro ln fr flx fhx hln hln1 hhx hfr hly hme H locs hP hD hS ls hl
      have hfrc : fr = -6 ∨ ∃ q : Nat, q < cn ∧ fr = nI q := (by rw [hfr]; exact nh_cases hrwc _ 0 (by omega))
      have hfr6 : Int32.toInt fr = -6 ∨ 0 ≤ Int32.toInt fr := hfrc.elim (fun q => Or.inl (by rw [q]; decide)) (fun ⟨q, h1, h2⟩ => Or.inr (by rw [h2, nI_toInt (by omega)]; omega))
      refine lv_iload hx hb dX1_layLine_26 (lv_at hl 0 rfl) ?_
      refine lv_bipush (v := (-6)) hx hb dX1_layLine_28 (by decide) ?_
      refine lv_icmp_eq (tgt := 76) hx hb dX1_layLine_30 (by decide) (fun c_14 => ?_) (fun c_14 => ?_)
      · have b_15 := gx_eq (X := (Int32.toInt fr)) (C := (-6)) rfl (by decide) c_14
        refine lv_aload_n hx hb dX1_layLine_76 rfl (lv_at hl 2 rfl) ?_
        refine va_get (D := (dC, dI)) (ci := 1) (v := .ref r0) (C := RX1) (T := TX1) (N := 8) hx hb hts inB_1 hown hK hP 1 rfl rfl 5 (by decide) (hts _ mw_1_52) (fun _ h9 => h9) rfl dX1_layLine_77 ?_
        have hPc := hP.sub (ws' := [(r0, .inr (4, [.ref g0, .ref g1, .ref g2, .int (nI (nn + 1))])), (g0, .inl (kg0, 40, .inl f_2)), (g1, .inl (kg1, 4, .inl fhx)), (g2, .inl (kg2, 4, .inl f_4))]) [5, 6, 7, 8] rfl
        have hDc := hD.sub (ws' := [(r0, .inr (4, [.ref g0, .ref g1, .ref g2, .int (nI (nn + 1))])), (g0, .inl (kg0, 40, .inl f_2)), (g1, .inl (kg1, 4, .inl fhx)), (g2, .inl (kg2, 4, .inl f_4))]) [5, 6, 7, 8] (by decide) rfl
        have hKc := hK.sub (tys' := [(kg0, .int), (kg1, .int), (kg2, .int)]) [4, 5, 6] rfl
        refine va_calli (va_runV (As := []) (rest := []) ⟨hx, hb, hml, hown, hts⟩ (c_rBegs l dC dI H.size r0 g0 g1 g2 (nn + 1) kg0 f_2 kg1 fhx kg2 f_4 (by omega) hhx p_7 hrw10) (cwV 0 hts (gV mw_2_20 mw_2_21 mw_2_22 mw_1_3 mw_2_23) rfl rfl rfl (by decide +kernel) ⟨Nat.le_of_ble_eq_true rfl, Nat.le_of_ble_eq_true rfl⟩) ⟨pcW_blind, va_recv hKc hPc (ci := 4) (q0 := 0) rfl rfl, pcW_at hPc hKc hDc hN⟩ rfl rfl hl.1 rfl (lv_room (Nat.le_of_ble_eq_true rfl)) dX1_layLine_80 ⟨Nat.le_of_ble_eq_true rfl, Nat.le_of_ble_eq_true rfl⟩) hS (fun q h1 h2 => absurd h2 (Nat.not_le.mpr h1)) (fun q h => hA q (Nat.le_trans hS.1 h)) (fun r_16 u t H1 locs ht hvm hw_16 hB hz1 hk1 hS => ?_)
        have hP := keepP hP hk1
        clear hz1 hk1 hB ht hvm hPc hDc hKc
        generalize H1 = H at hP hS ⊢
        refine lv_istore (lv' := [(5, .int r_16), (4, .int fr), (3, .int (nI ln)), (0, .ref h0), (1, .int (nI kk)), (2, .int (nI nn))]) hx hb dX1_layLine_83 hl (by decide) rfl (fun ls hl => ?_)
        refine lv_aload_n hx hb dX1_layLine_85 rfl (lv_at hl 3 rfl) ?_
        refine va_get (D := (dC, dI)) (ci := 1) (v := .ref b2) (C := RX1) (T := TX1) (N := 8) hx hb hts inB_1 hown hK hP 1 rfl rfl 2 (by decide) (hts _ mw_1_49) (fun _ h9 => h9) rfl dX1_layLine_86 ?_
        refine lv_iload_n hx hb dX1_layLine_89 rfl (lv_at hl 4 rfl) ?_
        refine lv_iload hx hb dX1_layLine_90 (lv_at hl 0 rfl) ?_
        refine lv_if_ne (tgt := 100) hx hb dX1_layLine_92 (by decide) (fun c_17 => ?_) (fun c_17 => ?_)
        · have b_18 := gx_ne (X := (Int32.toInt r_16)) (C := 0) rfl (by decide) c_17
          refine lv_iload hx hb dX1_layLine_100 (lv_at hl 0 rfl) ?_
          refine va_iast hx hb hK hP hD hS 0 0 rfl rfl (show vp_in (nI kk) 10 from vp_in_nI (by omega) (by omega)) dX1_layLine_102 (fun H locs hP hD hS => ?_)
          obtain ⟨f_19, ef_19⟩ : ∃ g : Nat → Int32, g = upd fqu (Int32.toNatClampNeg (nI kk)) r_16 := ⟨_, rfl⟩
          rw [← ef_19] at hP hD
          have ef_19 : f_19 = upd fqu kk r_16 := by rw [ef_19, nI_clamp (by omega)]
          have hP : va_P (dC, dI) vwCl [(b2, .inl (kb2, 10, .inl f_19)), (h0, .inr (1, [w0, .ref b1, .ref b2, .ref b3, .ref b4, .ref r0, .int (nI cn), w7])), (b1, .inl (kb1, 10, .inl fle)), (b3, .inl (kb3, 100, .inl flx)), (b4, .inl (kb4, 3, .inl fpa)), (r0, .inr (4, [.ref g0, .ref g1, .ref g2, .int (nI (nn + 1))])), (g0, .inl (kg0, 40, .inl f_2)), (g1, .inl (kg1, 4, .inl fhx)), (g2, .inl (kg2, 4, .inl f_4))] H := hP
          have hD : va_D A [(b2, .inl (kb2, 10, .inl f_19)), (h0, .inr (1, [w0, .ref b1, .ref b2, .ref b3, .ref b4, .ref r0, .int (nI cn), w7])), (b1, .inl (kb1, 10, .inl fle)), (b3, .inl (kb3, 100, .inl flx)), (b4, .inl (kb4, 3, .inl fpa)), (r0, .inr (4, [.ref g0, .ref g1, .ref g2, .int (nI (nn + 1))])), (g0, .inl (kg0, 40, .inl f_2)), (g1, .inl (kg1, 4, .inl fhx)), (g2, .inl (kg2, 4, .inl f_4))] := hD
          refine lv_aload_n hx hb dX1_layLine_103 rfl (lv_at hl 3 rfl) ?_
          refine va_get (D := (dC, dI)) (ci := 1) (v := .ref b1) (C := RX1) (T := TX1) (N := 8) hx hb hts inB_1 hown hK hP 1 rfl rfl 1 (by decide) (hts _ mw_1_48) (fun _ h9 => h9) rfl dX1_layLine_104 ?_
          refine lv_iload_n hx hb dX1_layLine_107 rfl (lv_at hl 4 rfl) ?_
          refine lv_iload hx hb dX1_layLine_108 (lv_at hl 0 rfl) ?_
          refine lv_if_ne (tgt := 117) hx hb dX1_layLine_110 (by decide) (fun c_20 => ?_) (fun h => absurd (gn_ne (X := (Int32.toInt r_16)) (C := 0) rfl (by decide) h) (by omega))
          have b_21 := gx_ne (X := (Int32.toInt r_16)) (C := 0) rfl (by decide) c_20
          refine lv_iconst (v := 0) hx hb dX1_layLine_117 (by decide) ?_
          refine va_iast hx hb hK hP hD hS 2 1 rfl rfl (show vp_in (nI kk) 10 from vp_in_nI (by omega) (by omega)) dX1_layLine_118 (fun H locs hP hD hS => ?_)
          obtain ⟨f_22, ef_22⟩ : ∃ g : Nat → Int32, g = upd fle (Int32.toNatClampNeg (nI kk)) 0 := ⟨_, rfl⟩
          rw [← ef_22] at hP hD
          have ef_22 : f_22 = upd fle kk 0 := by rw [ef_22, nI_clamp (by omega)]
          have pf_22 : BdOk 10 10 f_22 := by rw [ef_22]; exact bd_upd (z := 0) hle (by omega)
          have hP : va_P (dC, dI) vwCl [(b2, .inl (kb2, 10, .inl f_19)), (h0, .inr (1, [w0, .ref b1, .ref b2, .ref b3, .ref b4, .ref r0, .int (nI cn), w7])), (b1, .inl (kb1, 10, .inl f_22)), (b3, .inl (kb3, 100, .inl flx)), (b4, .inl (kb4, 3, .inl fpa)), (r0, .inr (4, [.ref g0, .ref g1, .ref g2, .int (nI (nn + 1))])), (g0, .inl (kg0, 40, .inl f_2)), (g1, .inl (kg1, 4, .inl fhx)), (g2, .inl (kg2, 4, .inl f_4))] H := hP
          have hD : va_D A [(b2, .inl (kb2, 10, .inl f_19)), (h0, .inr (1, [w0, .ref b1, .ref b2, .ref b3, .ref b4, .ref r0, .int (nI cn), w7])), (b1, .inl (kb1, 10, .inl f_22)), (b3, .inl (kb3, 100, .inl flx)), (b4, .inl (kb4, 3, .inl fpa)), (r0, .inr (4, [.ref g0, .ref g1, .ref g2, .int (nI (nn + 1))])), (g0, .inl (kg0, 40, .inl f_2)), (g1, .inl (kg1, 4, .inl fhx)), (g2, .inl (kg2, 4, .inl f_4))] := hD
          have hP9 := hP.sub (ws' := [(h0, .inr (1, [w0, .ref b1, .ref b2, .ref b3, .ref b4, .ref r0, .int (nI cn), w7])), (b1, .inl (kb1, 10, .inl f_22)), (b2, .inl (kb2, 10, .inl f_19)), (b3, .inl (kb3, 100, .inl flx)), (b4, .inl (kb4, 3, .inl fpa)), (r0, .inr (4, [.ref g0, .ref g1, .ref g2, .int (nI (nn + 1))])), (g0, .inl (kg0, 40, .inl f_2)), (g1, .inl (kg1, 4, .inl fhx)), (g2, .inl (kg2, 4, .inl f_4))]) [1, 2, 0, 3, 4, 5, 6, 7, 8] rfl
          have hD9 := hD.sub (ws' := [(h0, .inr (1, [w0, .ref b1, .ref b2, .ref b3, .ref b4, .ref r0, .int (nI cn), w7])), (b1, .inl (kb1, 10, .inl f_22)), (b2, .inl (kb2, 10, .inl f_19)), (b3, .inl (kb3, 100, .inl flx)), (b4, .inl (kb4, 3, .inl fpa)), (r0, .inr (4, [.ref g0, .ref g1, .ref g2, .int (nI (nn + 1))])), (g0, .inl (kg0, 40, .inl f_2)), (g1, .inl (kg1, 4, .inl fhx)), (g2, .inl (kg2, 4, .inl f_4))]) [1, 2, 0, 3, 4, 5, 6, 7, 8] (by decide) rfl
          have hK9 := hK.sub (tys' := [(kb1, .int), (kb2, .int), (kb3, .int), (kb4, .int), (kg0, .int), (kg1, .int), (kg2, .int)]) [1, 0, 2, 3, 4, 5, 6] rfl
          exact W.vret hx hb hr (fun t ht hW => ⟨⟨(), rfl, trivial, f_22, f_19, flx, f_2, fhx, f_4, pf_22, hhx, p_7, ⟨0, (begF f_2 fhx f_4 (nn + 1)), ef_22, (ef_19.trans (by rw [hw_16]; unfold qcF; rw [if_neg (by rw [← hw_16]; exact c_17)])), (by have q := c_17; rw [hw_16] at q; exact (show LayS fle fli fpa nn kk 0 (begF f_2 fhx f_4 (nn + 1)) flx from ⟨f_2, f_3, f_4, fhx, ln, p_9, (by rw [← hly0, ← hly]; exact lay_end hfr (by omega)), rfl, (if_neg q).symm⟩))⟩, by rw [ht]; exact hP9, va_K.moved hW.alike hK9, hD9⟩, hS.F ht⟩) hS.2.2 dX1_layLine_119
        · have b_18 := gn_ne (X := (Int32.toInt r_16)) (C := 0) rfl (by decide) c_17
          refine lv_bipush (v := (-6)) hx hb dX1_layLine_95 (by decide) ?_
          refine lv_goto (tgt := 102) hx hb dX1_layLine_97 (by decide) ?_
          refine va_iast hx hb hK hP hD hS 0 0 rfl rfl (show vp_in (nI kk) 10 from vp_in_nI (by omega) (by omega)) dX1_layLine_102 (fun H locs hP hD hS => ?_)
          obtain ⟨f_23, ef_23⟩ : ∃ g : Nat → Int32, g = upd fqu (Int32.toNatClampNeg (nI kk)) (-6) := ⟨_, rfl⟩
          rw [← ef_23] at hP hD
          have ef_23 : f_23 = upd fqu kk (-6) := by rw [ef_23, nI_clamp (by omega)]
          have hP : va_P (dC, dI) vwCl [(b2, .inl (kb2, 10, .inl f_23)), (h0, .inr (1, [w0, .ref b1, .ref b2, .ref b3, .ref b4, .ref r0, .int (nI cn), w7])), (b1, .inl (kb1, 10, .inl fle)), (b3, .inl (kb3, 100, .inl flx)), (b4, .inl (kb4, 3, .inl fpa)), (r0, .inr (4, [.ref g0, .ref g1, .ref g2, .int (nI (nn + 1))])), (g0, .inl (kg0, 40, .inl f_2)), (g1, .inl (kg1, 4, .inl fhx)), (g2, .inl (kg2, 4, .inl f_4))] H := hP
          have hD : va_D A [(b2, .inl (kb2, 10, .inl f_23)), (h0, .inr (1, [w0, .ref b1, .ref b2, .ref b3, .ref b4, .ref r0, .int (nI cn), w7])), (b1, .inl (kb1, 10, .inl fle)), (b3, .inl (kb3, 100, .inl flx)), (b4, .inl (kb4, 3, .inl fpa)), (r0, .inr (4, [.ref g0, .ref g1, .ref g2, .int (nI (nn + 1))])), (g0, .inl (kg0, 40, .inl f_2)), (g1, .inl (kg1, 4, .inl fhx)), (g2, .inl (kg2, 4, .inl f_4))] := hD
          refine lv_aload_n hx hb dX1_layLine_103 rfl (lv_at hl 3 rfl) ?_
          refine va_get (D := (dC, dI)) (ci := 1) (v := .ref b1) (C := RX1) (T := TX1) (N := 8) hx hb hts inB_1 hown hK hP 1 rfl rfl 1 (by decide) (hts _ mw_1_48) (fun _ h9 => h9) rfl dX1_layLine_104 ?_
          refine lv_iload_n hx hb dX1_layLine_107 rfl (lv_at hl 4 rfl) ?_
          refine lv_iload hx hb dX1_layLine_108 (lv_at hl 0 rfl) ?_
          refine hx_top (y := 0) (fx_sing (C := 0) (by decide) (by omega)) ?_
          refine lv_if_ne (tgt := 117) hx hb dX1_layLine_110 (by decide) (fun h => absurd h (by decide)) (fun _ => ?_)
          refine lv_iload_n hx hb dX1_layLine_113 rfl (lv_at hl 2 rfl) ?_
          refine lv_goto (tgt := 118) hx hb dX1_layLine_114 (by decide) ?_
          refine va_iast hx hb hK hP hD hS 2 1 rfl rfl (show vp_in (nI kk) 10 from vp_in_nI (by omega) (by omega)) dX1_layLine_118 (fun H locs hP hD hS => ?_)
          obtain ⟨f_24, ef_24⟩ : ∃ g : Nat → Int32, g = upd fle (Int32.toNatClampNeg (nI kk)) (nI ln) := ⟨_, rfl⟩
          rw [← ef_24] at hP hD
          have ef_24 : f_24 = upd fle kk (nI ln) := by rw [ef_24, nI_clamp (by omega)]
          have pf_24 : BdOk 10 10 f_24 := by rw [ef_24]; exact bd_upd (z := ln) hle (by omega)
          have hP : va_P (dC, dI) vwCl [(b2, .inl (kb2, 10, .inl f_23)), (h0, .inr (1, [w0, .ref b1, .ref b2, .ref b3, .ref b4, .ref r0, .int (nI cn), w7])), (b1, .inl (kb1, 10, .inl f_24)), (b3, .inl (kb3, 100, .inl flx)), (b4, .inl (kb4, 3, .inl fpa)), (r0, .inr (4, [.ref g0, .ref g1, .ref g2, .int (nI (nn + 1))])), (g0, .inl (kg0, 40, .inl f_2)), (g1, .inl (kg1, 4, .inl fhx)), (g2, .inl (kg2, 4, .inl f_4))] H := hP
          have hD : va_D A [(b2, .inl (kb2, 10, .inl f_23)), (h0, .inr (1, [w0, .ref b1, .ref b2, .ref b3, .ref b4, .ref r0, .int (nI cn), w7])), (b1, .inl (kb1, 10, .inl f_24)), (b3, .inl (kb3, 100, .inl flx)), (b4, .inl (kb4, 3, .inl fpa)), (r0, .inr (4, [.ref g0, .ref g1, .ref g2, .int (nI (nn + 1))])), (g0, .inl (kg0, 40, .inl f_2)), (g1, .inl (kg1, 4, .inl fhx)), (g2, .inl (kg2, 4, .inl f_4))] := hD
          have hP9 := hP.sub (ws' := [(h0, .inr (1, [w0, .ref b1, .ref b2, .ref b3, .ref b4, .ref r0, .int (nI cn), w7])), (b1, .inl (kb1, 10, .inl f_24)), (b2, .inl (kb2, 10, .inl f_23)), (b3, .inl (kb3, 100, .inl flx)), (b4, .inl (kb4, 3, .inl fpa)), (r0, .inr (4, [.ref g0, .ref g1, .ref g2, .int (nI (nn + 1))])), (g0, .inl (kg0, 40, .inl f_2)), (g1, .inl (kg1, 4, .inl fhx)), (g2, .inl (kg2, 4, .inl f_4))]) [1, 2, 0, 3, 4, 5, 6, 7, 8] rfl
          have hD9 := hD.sub (ws' := [(h0, .inr (1, [w0, .ref b1, .ref b2, .ref b3, .ref b4, .ref r0, .int (nI cn), w7])), (b1, .inl (kb1, 10, .inl f_24)), (b2, .inl (kb2, 10, .inl f_23)), (b3, .inl (kb3, 100, .inl flx)), (b4, .inl (kb4, 3, .inl fpa)), (r0, .inr (4, [.ref g0, .ref g1, .ref g2, .int (nI (nn + 1))])), (g0, .inl (kg0, 40, .inl f_2)), (g1, .inl (kg1, 4, .inl fhx)), (g2, .inl (kg2, 4, .inl f_4))]) [1, 2, 0, 3, 4, 5, 6, 7, 8] (by decide) rfl
          have hK9 := hK.sub (tys' := [(kb1, .int), (kb2, .int), (kb3, .int), (kb4, .int), (kg0, .int), (kg1, .int), (kg2, .int)]) [1, 0, 2, 3, 4, 5, 6] rfl
          exact W.vret hx hb hr (fun t ht hW => ⟨⟨(), rfl, trivial, f_24, f_23, flx, f_2, fhx, f_4, pf_24, hhx, p_7, ⟨nI ln, (begF f_2 fhx f_4 (nn + 1)), ef_24, (ef_23.trans (by unfold qcF; rw [if_pos (by rw [← hw_16]; exact c_17)])), (by have q := c_17; rw [hw_16] at q; exact (show LayS fle fli fpa nn kk (nI ln) (begF f_2 fhx f_4 (nn + 1)) flx from ⟨f_2, f_3, f_4, fhx, ln, p_9, (by rw [← hly0, ← hly]; exact lay_end hfr (by omega)), rfl, (if_pos q).symm⟩))⟩, by rw [ht]; exact hP9, va_K.moved hW.alike hK9, hD9⟩, hS.F ht⟩) hS.2.2 dX1_layLine_119
      · have b_15 := gn_eq (X := (Int32.toInt fr)) (C := (-6)) rfl (by decide) c_14
        refine lv_iload_n hx hb dX1_layLine_33 rfl (lv_at hl 1 rfl) ?_
        refine lv_bipush (v := 10) hx hb dX1_layLine_34 (by decide) ?_
        refine lv_icmp_ge (tgt := 76) hx hb dX1_layLine_36 (by decide) (fun c_25 => ?_) (fun c_25 => ?_)
        · have b_26 := gx_ge (X := ((ln : Nat) : Int)) (C := 10) (nI_toInt (by omega)) (by decide) c_25
          refine lv_aload_n hx hb dX1_layLine_76 rfl (lv_at hl 2 rfl) ?_
          refine va_get (D := (dC, dI)) (ci := 1) (v := .ref r0) (C := RX1) (T := TX1) (N := 8) hx hb hts inB_1 hown hK hP 1 rfl rfl 5 (by decide) (hts _ mw_1_52) (fun _ h9 => h9) rfl dX1_layLine_77 ?_
          have hPc := hP.sub (ws' := [(r0, .inr (4, [.ref g0, .ref g1, .ref g2, .int (nI (nn + 1))])), (g0, .inl (kg0, 40, .inl f_2)), (g1, .inl (kg1, 4, .inl fhx)), (g2, .inl (kg2, 4, .inl f_4))]) [5, 6, 7, 8] rfl
          have hDc := hD.sub (ws' := [(r0, .inr (4, [.ref g0, .ref g1, .ref g2, .int (nI (nn + 1))])), (g0, .inl (kg0, 40, .inl f_2)), (g1, .inl (kg1, 4, .inl fhx)), (g2, .inl (kg2, 4, .inl f_4))]) [5, 6, 7, 8] (by decide) rfl
          have hKc := hK.sub (tys' := [(kg0, .int), (kg1, .int), (kg2, .int)]) [4, 5, 6] rfl
          refine va_calli (va_runV (As := []) (rest := []) ⟨hx, hb, hml, hown, hts⟩ (c_rBegs l dC dI H.size r0 g0 g1 g2 (nn + 1) kg0 f_2 kg1 fhx kg2 f_4 (by omega) hhx p_7 hrw10) (cwV 0 hts (gV mw_2_20 mw_2_21 mw_2_22 mw_1_3 mw_2_23) rfl rfl rfl (by decide +kernel) ⟨Nat.le_of_ble_eq_true rfl, Nat.le_of_ble_eq_true rfl⟩) ⟨pcW_blind, va_recv hKc hPc (ci := 4) (q0 := 0) rfl rfl, pcW_at hPc hKc hDc hN⟩ rfl rfl hl.1 rfl (lv_room (Nat.le_of_ble_eq_true rfl)) dX1_layLine_80 ⟨Nat.le_of_ble_eq_true rfl, Nat.le_of_ble_eq_true rfl⟩) hS (fun q h1 h2 => absurd h2 (Nat.not_le.mpr h1)) (fun q h => hA q (Nat.le_trans hS.1 h)) (fun r_27 u t H1 locs ht hvm hw_27 hB hz1 hk1 hS => ?_)
          have hP := keepP hP hk1
          clear hz1 hk1 hB ht hvm hPc hDc hKc
          generalize H1 = H at hP hS ⊢
          refine lv_istore (lv' := [(5, .int r_27), (4, .int fr), (3, .int (nI ln)), (0, .ref h0), (1, .int (nI kk)), (2, .int (nI nn))]) hx hb dX1_layLine_83 hl (by decide) rfl (fun ls hl => ?_)
          refine lv_aload_n hx hb dX1_layLine_85 rfl (lv_at hl 3 rfl) ?_
          refine va_get (D := (dC, dI)) (ci := 1) (v := .ref b2) (C := RX1) (T := TX1) (N := 8) hx hb hts inB_1 hown hK hP 1 rfl rfl 2 (by decide) (hts _ mw_1_49) (fun _ h9 => h9) rfl dX1_layLine_86 ?_
          refine lv_iload_n hx hb dX1_layLine_89 rfl (lv_at hl 4 rfl) ?_
          refine lv_iload hx hb dX1_layLine_90 (lv_at hl 0 rfl) ?_
          refine lv_if_ne (tgt := 100) hx hb dX1_layLine_92 (by decide) (fun c_28 => ?_) (fun c_28 => ?_)
          · have b_29 := gx_ne (X := (Int32.toInt r_27)) (C := 0) rfl (by decide) c_28
            refine lv_iload hx hb dX1_layLine_100 (lv_at hl 0 rfl) ?_
            refine va_iast hx hb hK hP hD hS 0 0 rfl rfl (show vp_in (nI kk) 10 from vp_in_nI (by omega) (by omega)) dX1_layLine_102 (fun H locs hP hD hS => ?_)
            obtain ⟨f_30, ef_30⟩ : ∃ g : Nat → Int32, g = upd fqu (Int32.toNatClampNeg (nI kk)) r_27 := ⟨_, rfl⟩
            rw [← ef_30] at hP hD
            have ef_30 : f_30 = upd fqu kk r_27 := by rw [ef_30, nI_clamp (by omega)]
            have hP : va_P (dC, dI) vwCl [(b2, .inl (kb2, 10, .inl f_30)), (h0, .inr (1, [w0, .ref b1, .ref b2, .ref b3, .ref b4, .ref r0, .int (nI cn), w7])), (b1, .inl (kb1, 10, .inl fle)), (b3, .inl (kb3, 100, .inl flx)), (b4, .inl (kb4, 3, .inl fpa)), (r0, .inr (4, [.ref g0, .ref g1, .ref g2, .int (nI (nn + 1))])), (g0, .inl (kg0, 40, .inl f_2)), (g1, .inl (kg1, 4, .inl fhx)), (g2, .inl (kg2, 4, .inl f_4))] H := hP
            have hD : va_D A [(b2, .inl (kb2, 10, .inl f_30)), (h0, .inr (1, [w0, .ref b1, .ref b2, .ref b3, .ref b4, .ref r0, .int (nI cn), w7])), (b1, .inl (kb1, 10, .inl fle)), (b3, .inl (kb3, 100, .inl flx)), (b4, .inl (kb4, 3, .inl fpa)), (r0, .inr (4, [.ref g0, .ref g1, .ref g2, .int (nI (nn + 1))])), (g0, .inl (kg0, 40, .inl f_2)), (g1, .inl (kg1, 4, .inl fhx)), (g2, .inl (kg2, 4, .inl f_4))] := hD
            refine lv_aload_n hx hb dX1_layLine_103 rfl (lv_at hl 3 rfl) ?_
            refine va_get (D := (dC, dI)) (ci := 1) (v := .ref b1) (C := RX1) (T := TX1) (N := 8) hx hb hts inB_1 hown hK hP 1 rfl rfl 1 (by decide) (hts _ mw_1_48) (fun _ h9 => h9) rfl dX1_layLine_104 ?_
            refine lv_iload_n hx hb dX1_layLine_107 rfl (lv_at hl 4 rfl) ?_
            refine lv_iload hx hb dX1_layLine_108 (lv_at hl 0 rfl) ?_
            refine lv_if_ne (tgt := 117) hx hb dX1_layLine_110 (by decide) (fun c_31 => ?_) (fun h => absurd (gn_ne (X := (Int32.toInt r_27)) (C := 0) rfl (by decide) h) (by omega))
            have b_32 := gx_ne (X := (Int32.toInt r_27)) (C := 0) rfl (by decide) c_31
            refine lv_iconst (v := 0) hx hb dX1_layLine_117 (by decide) ?_
            refine va_iast hx hb hK hP hD hS 2 1 rfl rfl (show vp_in (nI kk) 10 from vp_in_nI (by omega) (by omega)) dX1_layLine_118 (fun H locs hP hD hS => ?_)
            obtain ⟨f_33, ef_33⟩ : ∃ g : Nat → Int32, g = upd fle (Int32.toNatClampNeg (nI kk)) 0 := ⟨_, rfl⟩
            rw [← ef_33] at hP hD
            have ef_33 : f_33 = upd fle kk 0 := by rw [ef_33, nI_clamp (by omega)]
            have pf_33 : BdOk 10 10 f_33 := by rw [ef_33]; exact bd_upd (z := 0) hle (by omega)
            have hP : va_P (dC, dI) vwCl [(b2, .inl (kb2, 10, .inl f_30)), (h0, .inr (1, [w0, .ref b1, .ref b2, .ref b3, .ref b4, .ref r0, .int (nI cn), w7])), (b1, .inl (kb1, 10, .inl f_33)), (b3, .inl (kb3, 100, .inl flx)), (b4, .inl (kb4, 3, .inl fpa)), (r0, .inr (4, [.ref g0, .ref g1, .ref g2, .int (nI (nn + 1))])), (g0, .inl (kg0, 40, .inl f_2)), (g1, .inl (kg1, 4, .inl fhx)), (g2, .inl (kg2, 4, .inl f_4))] H := hP
            have hD : va_D A [(b2, .inl (kb2, 10, .inl f_30)), (h0, .inr (1, [w0, .ref b1, .ref b2, .ref b3, .ref b4, .ref r0, .int (nI cn), w7])), (b1, .inl (kb1, 10, .inl f_33)), (b3, .inl (kb3, 100, .inl flx)), (b4, .inl (kb4, 3, .inl fpa)), (r0, .inr (4, [.ref g0, .ref g1, .ref g2, .int (nI (nn + 1))])), (g0, .inl (kg0, 40, .inl f_2)), (g1, .inl (kg1, 4, .inl fhx)), (g2, .inl (kg2, 4, .inl f_4))] := hD
            have hP9 := hP.sub (ws' := [(h0, .inr (1, [w0, .ref b1, .ref b2, .ref b3, .ref b4, .ref r0, .int (nI cn), w7])), (b1, .inl (kb1, 10, .inl f_33)), (b2, .inl (kb2, 10, .inl f_30)), (b3, .inl (kb3, 100, .inl flx)), (b4, .inl (kb4, 3, .inl fpa)), (r0, .inr (4, [.ref g0, .ref g1, .ref g2, .int (nI (nn + 1))])), (g0, .inl (kg0, 40, .inl f_2)), (g1, .inl (kg1, 4, .inl fhx)), (g2, .inl (kg2, 4, .inl f_4))]) [1, 2, 0, 3, 4, 5, 6, 7, 8] rfl
            have hD9 := hD.sub (ws' := [(h0, .inr (1, [w0, .ref b1, .ref b2, .ref b3, .ref b4, .ref r0, .int (nI cn), w7])), (b1, .inl (kb1, 10, .inl f_33)), (b2, .inl (kb2, 10, .inl f_30)), (b3, .inl (kb3, 100, .inl flx)), (b4, .inl (kb4, 3, .inl fpa)), (r0, .inr (4, [.ref g0, .ref g1, .ref g2, .int (nI (nn + 1))])), (g0, .inl (kg0, 40, .inl f_2)), (g1, .inl (kg1, 4, .inl fhx)), (g2, .inl (kg2, 4, .inl f_4))]) [1, 2, 0, 3, 4, 5, 6, 7, 8] (by decide) rfl
            have hK9 := hK.sub (tys' := [(kb1, .int), (kb2, .int), (kb3, .int), (kb4, .int), (kg0, .int), (kg1, .int), (kg2, .int)]) [1, 0, 2, 3, 4, 5, 6] rfl
            exact W.vret hx hb hr (fun t ht hW => ⟨⟨(), rfl, trivial, f_33, f_30, flx, f_2, fhx, f_4, pf_33, hhx, p_7, ⟨0, (begF f_2 fhx f_4 (nn + 1)), ef_33, (ef_30.trans (by rw [hw_27]; unfold qcF; rw [if_neg (by rw [← hw_27]; exact c_28)])), (by have q := c_28; rw [hw_27] at q; exact (show LayS fle fli fpa nn kk 0 (begF f_2 fhx f_4 (nn + 1)) flx from ⟨f_2, f_3, f_4, fhx, ln, p_9, (by rw [← hly0, ← hly]; exact lay_end hfr (by omega)), rfl, (if_neg q).symm⟩))⟩, by rw [ht]; exact hP9, va_K.moved hW.alike hK9, hD9⟩, hS.F ht⟩) hS.2.2 dX1_layLine_119
          · have b_29 := gn_ne (X := (Int32.toInt r_27)) (C := 0) rfl (by decide) c_28
            refine lv_bipush (v := (-6)) hx hb dX1_layLine_95 (by decide) ?_
            refine lv_goto (tgt := 102) hx hb dX1_layLine_97 (by decide) ?_
            refine va_iast hx hb hK hP hD hS 0 0 rfl rfl (show vp_in (nI kk) 10 from vp_in_nI (by omega) (by omega)) dX1_layLine_102 (fun H locs hP hD hS => ?_)
            obtain ⟨f_34, ef_34⟩ : ∃ g : Nat → Int32, g = upd fqu (Int32.toNatClampNeg (nI kk)) (-6) := ⟨_, rfl⟩
            rw [← ef_34] at hP hD
            have ef_34 : f_34 = upd fqu kk (-6) := by rw [ef_34, nI_clamp (by omega)]
            have hP : va_P (dC, dI) vwCl [(b2, .inl (kb2, 10, .inl f_34)), (h0, .inr (1, [w0, .ref b1, .ref b2, .ref b3, .ref b4, .ref r0, .int (nI cn), w7])), (b1, .inl (kb1, 10, .inl fle)), (b3, .inl (kb3, 100, .inl flx)), (b4, .inl (kb4, 3, .inl fpa)), (r0, .inr (4, [.ref g0, .ref g1, .ref g2, .int (nI (nn + 1))])), (g0, .inl (kg0, 40, .inl f_2)), (g1, .inl (kg1, 4, .inl fhx)), (g2, .inl (kg2, 4, .inl f_4))] H := hP
            have hD : va_D A [(b2, .inl (kb2, 10, .inl f_34)), (h0, .inr (1, [w0, .ref b1, .ref b2, .ref b3, .ref b4, .ref r0, .int (nI cn), w7])), (b1, .inl (kb1, 10, .inl fle)), (b3, .inl (kb3, 100, .inl flx)), (b4, .inl (kb4, 3, .inl fpa)), (r0, .inr (4, [.ref g0, .ref g1, .ref g2, .int (nI (nn + 1))])), (g0, .inl (kg0, 40, .inl f_2)), (g1, .inl (kg1, 4, .inl fhx)), (g2, .inl (kg2, 4, .inl f_4))] := hD
            refine lv_aload_n hx hb dX1_layLine_103 rfl (lv_at hl 3 rfl) ?_
            refine va_get (D := (dC, dI)) (ci := 1) (v := .ref b1) (C := RX1) (T := TX1) (N := 8) hx hb hts inB_1 hown hK hP 1 rfl rfl 1 (by decide) (hts _ mw_1_48) (fun _ h9 => h9) rfl dX1_layLine_104 ?_
            refine lv_iload_n hx hb dX1_layLine_107 rfl (lv_at hl 4 rfl) ?_
            refine lv_iload hx hb dX1_layLine_108 (lv_at hl 0 rfl) ?_
            refine hx_top (y := 0) (fx_sing (C := 0) (by decide) (by omega)) ?_
            refine lv_if_ne (tgt := 117) hx hb dX1_layLine_110 (by decide) (fun h => absurd h (by decide)) (fun _ => ?_)
            refine lv_iload_n hx hb dX1_layLine_113 rfl (lv_at hl 2 rfl) ?_
            refine lv_goto (tgt := 118) hx hb dX1_layLine_114 (by decide) ?_
            refine va_iast hx hb hK hP hD hS 2 1 rfl rfl (show vp_in (nI kk) 10 from vp_in_nI (by omega) (by omega)) dX1_layLine_118 (fun H locs hP hD hS => ?_)
            obtain ⟨f_35, ef_35⟩ : ∃ g : Nat → Int32, g = upd fle (Int32.toNatClampNeg (nI kk)) (nI ln) := ⟨_, rfl⟩
            rw [← ef_35] at hP hD
            have ef_35 : f_35 = upd fle kk (nI ln) := by rw [ef_35, nI_clamp (by omega)]
            have pf_35 : BdOk 10 10 f_35 := by rw [ef_35]; exact bd_upd (z := ln) hle (by omega)
            have hP : va_P (dC, dI) vwCl [(b2, .inl (kb2, 10, .inl f_34)), (h0, .inr (1, [w0, .ref b1, .ref b2, .ref b3, .ref b4, .ref r0, .int (nI cn), w7])), (b1, .inl (kb1, 10, .inl f_35)), (b3, .inl (kb3, 100, .inl flx)), (b4, .inl (kb4, 3, .inl fpa)), (r0, .inr (4, [.ref g0, .ref g1, .ref g2, .int (nI (nn + 1))])), (g0, .inl (kg0, 40, .inl f_2)), (g1, .inl (kg1, 4, .inl fhx)), (g2, .inl (kg2, 4, .inl f_4))] H := hP
            have hD : va_D A [(b2, .inl (kb2, 10, .inl f_34)), (h0, .inr (1, [w0, .ref b1, .ref b2, .ref b3, .ref b4, .ref r0, .int (nI cn), w7])), (b1, .inl (kb1, 10, .inl f_35)), (b3, .inl (kb3, 100, .inl flx)), (b4, .inl (kb4, 3, .inl fpa)), (r0, .inr (4, [.ref g0, .ref g1, .ref g2, .int (nI (nn + 1))])), (g0, .inl (kg0, 40, .inl f_2)), (g1, .inl (kg1, 4, .inl fhx)), (g2, .inl (kg2, 4, .inl f_4))] := hD
            have hP9 := hP.sub (ws' := [(h0, .inr (1, [w0, .ref b1, .ref b2, .ref b3, .ref b4, .ref r0, .int (nI cn), w7])), (b1, .inl (kb1, 10, .inl f_35)), (b2, .inl (kb2, 10, .inl f_34)), (b3, .inl (kb3, 100, .inl flx)), (b4, .inl (kb4, 3, .inl fpa)), (r0, .inr (4, [.ref g0, .ref g1, .ref g2, .int (nI (nn + 1))])), (g0, .inl (kg0, 40, .inl f_2)), (g1, .inl (kg1, 4, .inl fhx)), (g2, .inl (kg2, 4, .inl f_4))]) [1, 2, 0, 3, 4, 5, 6, 7, 8] rfl
            have hD9 := hD.sub (ws' := [(h0, .inr (1, [w0, .ref b1, .ref b2, .ref b3, .ref b4, .ref r0, .int (nI cn), w7])), (b1, .inl (kb1, 10, .inl f_35)), (b2, .inl (kb2, 10, .inl f_34)), (b3, .inl (kb3, 100, .inl flx)), (b4, .inl (kb4, 3, .inl fpa)), (r0, .inr (4, [.ref g0, .ref g1, .ref g2, .int (nI (nn + 1))])), (g0, .inl (kg0, 40, .inl f_2)), (g1, .inl (kg1, 4, .inl fhx)), (g2, .inl (kg2, 4, .inl f_4))]) [1, 2, 0, 3, 4, 5, 6, 7, 8] (by decide) rfl
            have hK9 := hK.sub (tys' := [(kb1, .int), (kb2, .int), (kb3, .int), (kb4, .int), (kg0, .int), (kg1, .int), (kg2, .int)]) [1, 0, 2, 3, 4, 5, 6] rfl
            exact W.vret hx hb hr (fun t ht hW => ⟨⟨(), rfl, trivial, f_35, f_34, flx, f_2, fhx, f_4, pf_35, hhx, p_7, ⟨nI ln, (begF f_2 fhx f_4 (nn + 1)), ef_35, (ef_34.trans (by unfold qcF; rw [if_pos (by rw [← hw_27]; exact c_28)])), (by have q := c_28; rw [hw_27] at q; exact (show LayS fle fli fpa nn kk (nI ln) (begF f_2 fhx f_4 (nn + 1)) flx from ⟨f_2, f_3, f_4, fhx, ln, p_9, (by rw [← hly0, ← hly]; exact lay_end hfr (by omega)), rfl, (if_pos q).symm⟩))⟩, by rw [ht]; exact hP9, va_K.moved hW.alike hK9, hD9⟩, hS.F ht⟩) hS.2.2 dX1_layLine_119
        · have b_26 := gn_ge (X := ((ln : Nat) : Int)) (C := 10) (nI_toInt (by omega)) (by decide) c_25
          refine lv_aload_n hx hb dX1_layLine_39 rfl (lv_at hl 2 rfl) ?_
          refine va_get (D := (dC, dI)) (ci := 1) (v := .ref r0) (C := RX1) (T := TX1) (N := 8) hx hb hts inB_1 hown hK hP 1 rfl rfl 5 (by decide) (hts _ mw_1_52) (fun _ h9 => h9) rfl dX1_layLine_40 ?_
          refine lv_iload hx hb dX1_layLine_43 (lv_at hl 0 rfl) ?_
          have hPc := hP.sub (ws' := [(r0, .inr (4, [.ref g0, .ref g1, .ref g2, .int (nI (nn + 1))])), (g0, .inl (kg0, 40, .inl f_2)), (g1, .inl (kg1, 4, .inl fhx)), (g2, .inl (kg2, 4, .inl f_4))]) [5, 6, 7, 8] rfl
          have hDc := hD.sub (ws' := [(r0, .inr (4, [.ref g0, .ref g1, .ref g2, .int (nI (nn + 1))])), (g0, .inl (kg0, 40, .inl f_2)), (g1, .inl (kg1, 4, .inl fhx)), (g2, .inl (kg2, 4, .inl f_4))]) [5, 6, 7, 8] (by decide) rfl
          have hKc := hK.sub (tys' := [(kg0, .int), (kg1, .int), (kg2, .int)]) [4, 5, 6] rfl
          have hFc := va_free (wc := [(r0, .inr (4, [.ref g0, .ref g1, .ref g2, .int (nI (nn + 1))])), (g0, .inl (kg0, 40, .inl f_2)), (g1, .inl (kg1, 4, .inl fhx)), (g2, .inl (kg2, 4, .inl f_4))]) hD hS hA [5, 6, 7, 8] rfl
          refine va_callv (va_runV (As := [.int fr]) (rest := []) ⟨hx, hb, hml, hown, hts⟩ (c_rTake l dC dI H.size r0 g0 g1 g2 (nn + 1) kg0 f_2 kg1 fhx kg2 f_4 fr (by omega) hhx p_7 (by omega)) (cwV 1 hts (gV mw_2_16 mw_2_17 mw_2_18 mw_1_3 mw_2_19) rfl rfl rfl (by decide +kernel) ⟨Nat.le_of_ble_eq_true rfl, Nat.le_of_ble_eq_true rfl⟩) ⟨pcW_blind, va_recv hKc hPc (ci := 4) (q0 := 0) rfl rfl, pcW_at hPc hKc hDc hN⟩ rfl rfl hl.1 rfl (lv_room (Nat.le_of_ble_eq_true rfl)) dX1_layLine_45 ⟨Nat.le_of_ble_eq_true rfl, Nat.le_of_ble_eq_true rfl⟩) hS (fun q _ h => hFc q h) hFc (fun u t H1 locs ht hvm hw_36 hB hz1 hk1 hS => ?_)
          obtain ⟨f_37, p_38, p_39, hP1, hK1, hD1⟩ := hB
          rw [ht] at hP1
          have hK1 := va_K.moved hvm.symm hK1
          obtain ⟨hP, hD⟩ := va_join (wr := [(b2, .inl (kb2, 10, .inl fqu)), (h0, .inr (1, [w0, .ref b1, .ref b2, .ref b3, .ref b4, .ref r0, .int (nI cn), w7])), (b1, .inl (kb1, 10, .inl fle)), (b3, .inl (kb3, 100, .inl flx)), (b4, .inl (kb4, 3, .inl fpa))]) (w1 := [(r0, .inr (4, [.ref g0, .ref g1, .ref g2, .int (nI (nn + 1))])), (g0, .inl (kg0, 40, .inl f_2)), (g1, .inl (kg1, 4, .inl f_37)), (g2, .inl (kg2, 4, .inl f_4))]) hP hD [5, 6, 7, 8] [0, 1, 2, 3, 4] rfl rfl (by decide) (by decide) hk1 hFc hP1 hD1
          have hK := (hK.sub (tys' := [(kb2, .int), (kb1, .int), (kb3, .int), (kb4, .int)]) [0, 1, 2, 3] rfl).app hK1
          clear hz1 hk1 hPc hDc hKc hFc
          generalize H1 = H at hP hS ⊢
          have hK : va_K (dC, dI) vwCl [(kb2, .int), (kb1, .int), (kb3, .int), (kb4, .int), (kg0, .int), (kg1, .int), (kg2, .int)] s := hK
          have hP : va_P (dC, dI) vwCl [(b2, .inl (kb2, 10, .inl fqu)), (h0, .inr (1, [w0, .ref b1, .ref b2, .ref b3, .ref b4, .ref r0, .int (nI cn), w7])), (b1, .inl (kb1, 10, .inl fle)), (b3, .inl (kb3, 100, .inl flx)), (b4, .inl (kb4, 3, .inl fpa)), (r0, .inr (4, [.ref g0, .ref g1, .ref g2, .int (nI (nn + 1))])), (g0, .inl (kg0, 40, .inl f_2)), (g1, .inl (kg1, 4, .inl f_37)), (g2, .inl (kg2, 4, .inl f_4))] H := hP
          have hD : va_D A [(b2, .inl (kb2, 10, .inl fqu)), (h0, .inr (1, [w0, .ref b1, .ref b2, .ref b3, .ref b4, .ref r0, .int (nI cn), w7])), (b1, .inl (kb1, 10, .inl fle)), (b3, .inl (kb3, 100, .inl flx)), (b4, .inl (kb4, 3, .inl fpa)), (r0, .inr (4, [.ref g0, .ref g1, .ref g2, .int (nI (nn + 1))])), (g0, .inl (kg0, 40, .inl f_2)), (g1, .inl (kg1, 4, .inl f_37)), (g2, .inl (kg2, 4, .inl f_4))] := hD
          refine lv_aload_n hx hb dX1_layLine_48 rfl (lv_at hl 2 rfl) ?_
          refine va_get (D := (dC, dI)) (ci := 1) (v := .ref b3) (C := RX1) (T := TX1) (N := 8) hx hb hts inB_1 hown hK hP 1 rfl rfl 3 (by decide) (hts _ mw_1_50) (fun _ h9 => h9) rfl dX1_layLine_49 ?_
          refine lv_iload_n hx hb dX1_layLine_52 rfl (lv_at hl 3 rfl) ?_
          refine lv_bipush (v := 10) hx hb dX1_layLine_53 (by decide) ?_
          refine lv_imul hx hb dX1_layLine_55 ?_
          refine hx_top (y := (nI (kk * 10))) (pk_mul kk 10) ?_
          refine lv_iload_n hx hb dX1_layLine_56 rfl (lv_at hl 1 rfl) ?_
          refine lv_iadd hx hb dX1_layLine_57 ?_
          refine hx_top (y := (nI ((kk * 10) + ln))) (nI_add (kk * 10) ln) ?_
          refine lv_iload hx hb dX1_layLine_58 (lv_at hl 0 rfl) ?_
          refine va_iast hx hb hK hP hD hS 3 2 rfl rfl (show vp_in (nI ((kk * 10) + ln)) 100 from vp_in_nI (by omega) (by omega)) dX1_layLine_60 (fun H locs hP hD hS => ?_)
          obtain ⟨f_40, ef_40⟩ : ∃ g : Nat → Int32, g = upd flx (Int32.toNatClampNeg (nI ((kk * 10) + ln))) fr := ⟨_, rfl⟩
          rw [← ef_40] at hP hD
          have ef_40 : f_40 = upd flx ((kk * 10) + ln) fr := by rw [ef_40, nI_clamp (by omega)]
          have hP : va_P (dC, dI) vwCl [(b2, .inl (kb2, 10, .inl fqu)), (h0, .inr (1, [w0, .ref b1, .ref b2, .ref b3, .ref b4, .ref r0, .int (nI cn), w7])), (b1, .inl (kb1, 10, .inl fle)), (b3, .inl (kb3, 100, .inl f_40)), (b4, .inl (kb4, 3, .inl fpa)), (r0, .inr (4, [.ref g0, .ref g1, .ref g2, .int (nI (nn + 1))])), (g0, .inl (kg0, 40, .inl f_2)), (g1, .inl (kg1, 4, .inl f_37)), (g2, .inl (kg2, 4, .inl f_4))] H := hP
          have hD : va_D A [(b2, .inl (kb2, 10, .inl fqu)), (h0, .inr (1, [w0, .ref b1, .ref b2, .ref b3, .ref b4, .ref r0, .int (nI cn), w7])), (b1, .inl (kb1, 10, .inl fle)), (b3, .inl (kb3, 100, .inl f_40)), (b4, .inl (kb4, 3, .inl fpa)), (r0, .inr (4, [.ref g0, .ref g1, .ref g2, .int (nI (nn + 1))])), (g0, .inl (kg0, 40, .inl f_2)), (g1, .inl (kg1, 4, .inl f_37)), (g2, .inl (kg2, 4, .inl f_4))] := hD
          refine lv_iinc (v := (nI (ln + 1))) (lv' := [(3, .int (nI (ln + 1))), (4, .int fr), (0, .ref h0), (1, .int (nI kk)), (2, .int (nI nn))]) hx hb dX1_layLine_61 hl (k := 1) rfl (nI_add ln 1) (by decide) rfl (fun ls hl => ?_)
          refine lv_aload_n hx hb dX1_layLine_64 rfl (lv_at hl 2 rfl) ?_
          refine va_get (D := (dC, dI)) (ci := 1) (v := .ref r0) (C := RX1) (T := TX1) (N := 8) hx hb hts inB_1 hown hK hP 1 rfl rfl 5 (by decide) (hts _ mw_1_52) (fun _ h9 => h9) rfl dX1_layLine_65 ?_
          have hPc := hP.sub (ws' := [(r0, .inr (4, [.ref g0, .ref g1, .ref g2, .int (nI (nn + 1))])), (g0, .inl (kg0, 40, .inl f_2)), (g1, .inl (kg1, 4, .inl f_37)), (g2, .inl (kg2, 4, .inl f_4))]) [5, 6, 7, 8] rfl
          have hDc := hD.sub (ws' := [(r0, .inr (4, [.ref g0, .ref g1, .ref g2, .int (nI (nn + 1))])), (g0, .inl (kg0, 40, .inl f_2)), (g1, .inl (kg1, 4, .inl f_37)), (g2, .inl (kg2, 4, .inl f_4))]) [5, 6, 7, 8] (by decide) rfl
          have hKc := hK.sub (tys' := [(kg0, .int), (kg1, .int), (kg2, .int)]) [4, 5, 6] rfl
          refine va_calli (va_runV (As := []) (rest := []) ⟨hx, hb, hml, hown, hts⟩ (c_rFree l dC dI H.size r0 g0 g1 g2 (nn + 1) kg0 f_2 kg1 f_37 kg2 f_4 (by omega) p_38 p_7 hrw10) (cwV 0 hts (gV mw_2_1 mw_2_2 mw_2_3 mw_1_3 mw_2_4) rfl rfl rfl (by decide +kernel) ⟨Nat.le_of_ble_eq_true rfl, Nat.le_of_ble_eq_true rfl⟩) ⟨pcW_blind, va_recv hKc hPc (ci := 4) (q0 := 0) rfl rfl, pcW_at hPc hKc hDc hN⟩ rfl rfl hl.1 rfl (lv_room (Nat.le_of_ble_eq_true rfl)) dX1_layLine_68 ⟨Nat.le_of_ble_eq_true rfl, Nat.le_of_ble_eq_true rfl⟩) hS (fun q h1 h2 => absurd h2 (Nat.not_le.mpr h1)) (fun q h => hA q (Nat.le_trans hS.1 h)) (fun r_41 u t H1 locs ht hvm hw_41 hB hz1 hk1 hS => ?_)
          have hP := keepP hP hk1
          clear hz1 hk1 hB ht hvm hPc hDc hKc
          generalize H1 = H at hP hS ⊢
          refine lv_istore (lv' := [(4, .int r_41), (3, .int (nI (ln + 1))), (0, .ref h0), (1, .int (nI kk)), (2, .int (nI nn))]) hx hb dX1_layLine_71 hl (by decide) rfl (fun ls hl => ?_)
          refine lv_goto (tgt := 26) hx hb dX1_layLine_73 (by decide) ?_
          exact ih_13 (ln + 1) r_41 f_40 f_37 (by omega) (by omega) p_38 hw_41 ((lay_step hfr (by omega) (by omega) p_39 (ef_40.trans (by rw [Nat.mul_comm kk 10]))).symm.trans hly) (by omega) _ _ hP hD hS ls (lv_sub hl [0, 1, 2, 3, 4] rfl)
  exact key_12 ((10 - 1) + 1) 1 r_11 f_10 f_3 (by omega) (by omega) p_6 hw_11 rfl (Nat.lt_succ_self _) _ _ hP hD hS ls (lv_sub hl [0, 1, 2, 3, 4] rfl)
set_option maxHeartbeats 4000000 in
set_option maxRecDepth 100000 in
theorem c_add (l : Launch) (dC : Nat → ClassId) (dI : Nat → Nat → Nat) (sz : Nat) (h0 : Nat) (b0 : Nat) (b1 : Nat) (b2 : Nat) (b3 : Nat) (b4 : Nat) (r0 : Nat) (cn : Nat) (w7 : Value) (kb0 : ClassId) (fab : Nat → Int32) (kb1 : ClassId) (fle : Nat → Int32) (kb2 : ClassId) (fqu : Nat → Int32) (kb3 : ClassId) (fli : Nat → Int32) (kb4 : ClassId) (fpa : Nat → Int32) (g0 : Nat) (g1 : Nat) (g2 : Nat) (rc : Int32) (kg0 : ClassId) (fc : Nat → Int32) (kg1 : ClassId) (fh : Nat → Int32) (kg2 : ClassId) (fl : Nat → Int32) (nn : Nat) (n1 : Int32) (n2 : Int32) (n3 : Int32) (hc9 : cn < 10) (hle : BdOk 10 10 fle) (hnn : nn ≤ 3) (hfh : BdOk 4 10 fh) (hfl : BdOk 4 10 fl) (hpv : ∀ i, i < nn → 0 ≤ Int32.toInt (par3 n1 n2 n3 i) ∧ Int32.toInt (par3 n1 n2 n3 i) < ((cn : Nat) : Int)) (hlk : LnOk fle fli cn) : Met l yX1_add (wq yX1_add cX1_add 8 (some .int)) ({ frames := 5, cells := 0, slots := 0, locals := 113 }) (va_Pc [.ref h0, .int (nI nn), .int n1, .int n2, .int n3] (pcW dC dI [(kb0, .int), (kb1, .int), (kb2, .int), (kb3, .int), (kb4, .int), (kg0, .int), (kg1, .int), (kg2, .int)] [(h0, .inr (1, [.ref b0, .ref b1, .ref b2, .ref b3, .ref b4, .ref r0, .int (nI cn), w7])), (b0, .inl (kb0, 10, .inl fab)), (b1, .inl (kb1, 10, .inl fle)), (b2, .inl (kb2, 10, .inl fqu)), (b3, .inl (kb3, 100, .inl fli)), (b4, .inl (kb4, 3, .inl fpa)), (r0, .inr (4, [.ref g0, .ref g1, .ref g2, .int rc])), (g0, .inl (kg0, 40, .inl fc)), (g1, .inl (kg1, 4, .inl fh)), (g2, .inl (kg2, 4, .inl fl))] sz)) (va_Qi (fun (r : Int32) (_ : Unit) => r = nI cn) (fun _ t => ∃ (cn2 : Nat) (fab2 : Nat → Int32) (fle2 : Nat → Int32) (fqu2 : Nat → Int32) (fli2 : Nat → Int32) (fpa2 : Nat → Int32) (rc2 : Int32) (fc2 : Nat → Int32) (fh2 : Nat → Int32) (fl2 : Nat → Int32), (cn2 = cn + 1) ∧ (fab2 = upd fab cn (abv fab (par3 n1 n2 n3) nn)) ∧ (KC cn fle fli fqu fle2 fli2 fqu2 (par3 n1 n2 n3) nn) ∧ (BdOk 10 10 fle2) ∧ (BdOk 4 10 fh2) ∧ (BdOk 4 10 fl2) ∧ va_P (dC, dI) vwCl [(h0, .inr (1, [.ref b0, .ref b1, .ref b2, .ref b3, .ref b4, .ref r0, .int (nI cn2), w7])), (b0, .inl (kb0, 10, .inl fab2)), (b1, .inl (kb1, 10, .inl fle2)), (b2, .inl (kb2, 10, .inl fqu2)), (b3, .inl (kb3, 100, .inl fli2)), (b4, .inl (kb4, 3, .inl fpa2)), (r0, .inr (4, [.ref g0, .ref g1, .ref g2, .int rc2])), (g0, .inl (kg0, 40, .inl fc2)), (g1, .inl (kg1, 4, .inl fh2)), (g2, .inl (kg2, 4, .inl fl2))] t.heap ∧ va_K (dC, dI) vwCl [(kb0, .int), (kb1, .int), (kb2, .int), (kb3, .int), (kb4, .int), (kg0, .int), (kg1, .int), (kg2, .int)] t ∧ va_D (va_A [(h0, .inr (1, [.ref b0, .ref b1, .ref b2, .ref b3, .ref b4, .ref r0, .int (nI cn), w7])), (b0, .inl (kb0, 10, .inl fab)), (b1, .inl (kb1, 10, .inl fle)), (b2, .inl (kb2, 10, .inl fqu)), (b3, .inl (kb3, 100, .inl fli)), (b4, .inl (kb4, 3, .inl fpa)), (r0, .inr (4, [.ref g0, .ref g1, .ref g2, .int rc])), (g0, .inl (kg0, 40, .inl fc)), (g1, .inl (kg1, 4, .inl fh)), (g2, .inl (kg2, 4, .inl fl))] sz) [(h0, .inr (1, [.ref b0, .ref b1, .ref b2, .ref b3, .ref b4, .ref r0, .int (nI cn2), w7])), (b0, .inl (kb0, 10, .inl fab2)), (b1, .inl (kb1, 10, .inl fle2)), (b2, .inl (kb2, 10, .inl fqu2)), (b3, .inl (kb3, 100, .inl fli2)), (b4, .inl (kb4, 3, .inl fpa2)), (r0, .inr (4, [.ref g0, .ref g1, .ref g2, .int rc2])), (g0, .inl (kg0, 40, .inl fc2)), (g1, .inl (kg1, 4, .inl fh2)), (g2, .inl (kg2, 4, .inl fl2))]) (va_A [(h0, .inr (1, [.ref b0, .ref b1, .ref b2, .ref b3, .ref b4, .ref r0, .int (nI cn), w7])), (b0, .inl (kb0, 10, .inl fab)), (b1, .inl (kb1, 10, .inl fle)), (b2, .inl (kb2, 10, .inl fqu)), (b3, .inl (kb3, 100, .inl fli)), (b4, .inl (kb4, 3, .inl fpa)), (r0, .inr (4, [.ref g0, .ref g1, .ref g2, .int rc])), (g0, .inl (kg0, 40, .inl fc)), (g1, .inl (kg1, 4, .inl fh)), (g2, .inl (kg2, 4, .inl fl))] sz)) 0 0 (va_A [(h0, .inr (1, [.ref b0, .ref b1, .ref b2, .ref b3, .ref b4, .ref r0, .int (nI cn), w7])), (b0, .inl (kb0, 10, .inl fab)), (b1, .inl (kb1, 10, .inl fle)), (b2, .inl (kb2, 10, .inl fqu)), (b3, .inl (kb3, 100, .inl fli)), (b4, .inl (kb4, 3, .inl fpa)), (r0, .inr (4, [.ref g0, .ref g1, .ref g2, .int rc])), (g0, .inl (kg0, 40, .inl fc)), (g1, .inl (kg1, 4, .inl fh)), (g2, .inl (kg2, 4, .inl fl))] sz) := by
  refine Met.ofW (cc := cX1_add) (maxL := 8) (ret := (some .int)) (by decide) rfl ?_
  intro p e s m args below meth c s₁ B hml hv
  obtain ⟨rfl, hsz, hN, hP, hK, hD0⟩ := hv
  have hx := B.exec
  have hb := B.bytes
  have hr := B.returns
  have hts0 := atoms_spec (ws := (wq yX1_add cX1_add 8 (some .int))) B.pre
  have hts : ∀ w ∈ BG, w.before _ s = true := fun w h => hts0 w (List.mem_cons_of_mem _ h)
  have hown : s.vm.findClass RX1 = some m.cls := findClass_of_methodNamed B.named
  have hlocks := B.notSynchronized
  subst hsz
  have hD := hD0.self (sz := s.heap.size)
  generalize hAe : va_A [(h0, .inr (1, [.ref b0, .ref b1, .ref b2, .ref b3, .ref b4, .ref r0, .int (nI cn), w7])), (b0, .inl (kb0, 10, .inl fab)), (b1, .inl (kb1, 10, .inl fle)), (b2, .inl (kb2, 10, .inl fqu)), (b3, .inl (kb3, 100, .inl fli)), (b4, .inl (kb4, 3, .inl fpa)), (r0, .inr (4, [.ref g0, .ref g1, .ref g2, .int rc])), (g0, .inl (kg0, 40, .inl fc)), (g1, .inl (kg1, 4, .inl fh)), (g2, .inl (kg2, 4, .inl fl))] s.heap.size = A at hD ⊢
  have hA : ∀ q : Nat, s.heap.size ≤ q → A q := fun q h => by rw [← hAe]; exact Or.inr h
  have hS : va_S A s.heap s.heap [] := va_S.rf
  clear hAe hD0
  have hP : va_P (dC, dI) vwCl [(h0, .inr (1, [.ref b0, .ref b1, .ref b2, .ref b3, .ref b4, .ref r0, .int (nI cn), w7])), (b0, .inl (kb0, 10, .inl fab)), (b1, .inl (kb1, 10, .inl fle)), (b2, .inl (kb2, 10, .inl fqu)), (b3, .inl (kb3, 100, .inl fli)), (b4, .inl (kb4, 3, .inl fpa)), (r0, .inr (4, [.ref g0, .ref g1, .ref g2, .int rc])), (g0, .inl (kg0, 40, .inl fc)), (g1, .inl (kg1, 4, .inl fh)), (g2, .inl (kg2, 4, .inl fl))] s.heap := hP
  have hl := lv_entry ([.ref h0, .int (nI nn), .int n1, .int n2, .int n3]) (n := 8) (Nat.le_of_ble_eq_true rfl)
  rw [lg_entry_eq]
  generalize (lg_sl ([.ref h0, .int (nI nn), .int n1, .int n2, .int n3]) ++ List.replicate (8 - (lg_sl ([.ref h0, .int (nI nn), .int n1, .int n2, .int n3])).length) Slot.unset).toArray = ls at hl ⊢
  have hl : lv_has ls 8 [(0, .ref h0), (1, .int (nI nn)), (2, .int n1), (3, .int n2), (4, .int n3)] := hl
  refine lv_aload_n hx hb dX1_add_0 rfl (lv_at hl 0 rfl) ?_
  have hPc := hP.sub (ws' := [(h0, .inr (1, [.ref b0, .ref b1, .ref b2, .ref b3, .ref b4, .ref r0, .int (nI cn), w7]))]) [0] rfl
  have hDc := hD.sub (ws' := [(h0, .inr (1, [.ref b0, .ref b1, .ref b2, .ref b3, .ref b4, .ref r0, .int (nI cn), w7]))]) [0] (by decide) rfl
  have hKc := hK.sub (tys' := []) [] rfl
  refine va_calli (va_runV (As := []) (rest := []) ⟨hx, hb, hml, hown, hts⟩ (c_isFull l dC dI s.heap.size h0 (.ref b0) (.ref b1) (.ref b2) (.ref b3) (.ref b4) (.ref r0) cn (w7) (by omega)) (cwV 0 hts (gV mw_1_203 mw_1_196 mw_1_197 mw_1_2 mw_1_198) rfl rfl rfl (by decide +kernel) ⟨Nat.le_of_ble_eq_true rfl, Nat.le_of_ble_eq_true rfl⟩) ⟨pcW_blind, va_recv hKc hPc (ci := 1) (q0 := 0) rfl rfl, pcW_at hPc hKc hDc hN⟩ rfl rfl hl.1 rfl (lv_room (Nat.le_of_ble_eq_true rfl)) dX1_add_1 ⟨Nat.le_of_ble_eq_true rfl, Nat.le_of_ble_eq_true rfl⟩) hS (fun q h1 h2 => absurd h2 (Nat.not_le.mpr h1)) (fun q h => hA q (Nat.le_trans hS.1 h)) (fun r_1 u t H1 locs ht hvm hw_1 hB hz1 hk1 hS => ?_)
  have hP := keepP hP hk1
  clear hz1 hk1 hB ht hvm hPc hDc hKc
  generalize H1 = H at hP hS ⊢
  obtain rfl : r_1 = 0 := hw_1.trans (if_neg (by omega))
  refine lv_if_ne (tgt := 16) hx hb dX1_add_4 (by decide) (fun h => absurd h (by decide)) (fun _ => ?_)
  refine lv_iload_n hx hb dX1_add_7 rfl (lv_at hl 1 rfl) ?_
  refine lv_if_lt (tgt := 16) hx hb dX1_add_8 (by decide) (fun h => absurd (gx_lt (X := ((nn : Nat) : Int)) (C := 0) (nI_toInt (by omega)) (by decide) h) (by omega)) (fun c_3 => ?_)
  have b_4 := gn_lt (X := ((nn : Nat) : Int)) (C := 0) (nI_toInt (by omega)) (by decide) c_3
  refine lv_iload_n hx hb dX1_add_11 rfl (lv_at hl 1 rfl) ?_
  refine lv_iconst (v := 3) hx hb dX1_add_12 (by decide) ?_
  refine lv_icmp_le (tgt := 19) hx hb dX1_add_13 (by decide) (fun c_5 => ?_) (fun h => absurd (gn_le (X := ((nn : Nat) : Int)) (C := 3) (nI_toInt (by omega)) (by decide) h) (by omega))
  have b_6 := gx_le (X := ((nn : Nat) : Int)) (C := 3) (nI_toInt (by omega)) (by decide) c_5
  refine lv_aload_n hx hb dX1_add_19 rfl (lv_at hl 0 rfl) ?_
  refine va_get (D := (dC, dI)) (ci := 1) (v := .int (nI cn)) (C := RX1) (T := TX1) (N := 8) hx hb hts inB_1 hown hK hP 0 rfl rfl 6 (by decide) (hts _ mw_1_53) (fun _ h9 => h9) rfl dX1_add_20 ?_
  refine lv_istore (lv' := [(5, .int (nI cn)), (0, .ref h0), (1, .int (nI nn)), (2, .int n1), (3, .int n2), (4, .int n3)]) hx hb dX1_add_23 hl (by decide) rfl (fun ls hl => ?_)
  refine lv_aload_n hx hb dX1_add_25 rfl (lv_at hl 1 rfl) ?_
  refine va_get (D := (dC, dI)) (ci := 1) (v := .ref b4) (C := RX1) (T := TX1) (N := 8) hx hb hts inB_1 hown hK hP 0 rfl rfl 4 (by decide) (hts _ mw_1_51) (fun _ h9 => h9) rfl dX1_add_26 ?_
  refine lv_iconst (v := 0) hx hb dX1_add_29 (by decide) ?_
  refine lv_iload_n hx hb dX1_add_30 rfl (lv_at hl 3 rfl) ?_
  refine va_iast hx hb hK hP hD hS 5 4 rfl rfl (show vp_in 0 3 by unfold vp_in; decide) dX1_add_31 (fun H locs hP hD hS => ?_)
  obtain ⟨f_7, ef_7⟩ : ∃ g : Nat → Int32, g = upd fpa (Int32.toNatClampNeg 0) n1 := ⟨_, rfl⟩
  rw [← ef_7] at hP hD
  have ef_7 : f_7 = upd fpa 0 n1 := ef_7
  have hP : va_P (dC, dI) vwCl [(h0, .inr (1, [.ref b0, .ref b1, .ref b2, .ref b3, .ref b4, .ref r0, .int (nI cn), w7])), (b0, .inl (kb0, 10, .inl fab)), (b1, .inl (kb1, 10, .inl fle)), (b2, .inl (kb2, 10, .inl fqu)), (b3, .inl (kb3, 100, .inl fli)), (b4, .inl (kb4, 3, .inl f_7)), (r0, .inr (4, [.ref g0, .ref g1, .ref g2, .int rc])), (g0, .inl (kg0, 40, .inl fc)), (g1, .inl (kg1, 4, .inl fh)), (g2, .inl (kg2, 4, .inl fl))] H := hP
  have hD : va_D A [(h0, .inr (1, [.ref b0, .ref b1, .ref b2, .ref b3, .ref b4, .ref r0, .int (nI cn), w7])), (b0, .inl (kb0, 10, .inl fab)), (b1, .inl (kb1, 10, .inl fle)), (b2, .inl (kb2, 10, .inl fqu)), (b3, .inl (kb3, 100, .inl fli)), (b4, .inl (kb4, 3, .inl f_7)), (r0, .inr (4, [.ref g0, .ref g1, .ref g2, .int rc])), (g0, .inl (kg0, 40, .inl fc)), (g1, .inl (kg1, 4, .inl fh)), (g2, .inl (kg2, 4, .inl fl))] := hD
  refine lv_aload_n hx hb dX1_add_32 rfl (lv_at hl 1 rfl) ?_
  refine va_get (D := (dC, dI)) (ci := 1) (v := .ref b4) (C := RX1) (T := TX1) (N := 8) hx hb hts inB_1 hown hK hP 0 rfl rfl 4 (by decide) (hts _ mw_1_51) (fun _ h9 => h9) rfl dX1_add_33 ?_
  refine lv_iconst (v := 1) hx hb dX1_add_36 (by decide) ?_
  refine lv_iload_n hx hb dX1_add_37 rfl (lv_at hl 4 rfl) ?_
  refine va_iast hx hb hK hP hD hS 5 4 rfl rfl (show vp_in 1 3 by unfold vp_in; decide) dX1_add_38 (fun H locs hP hD hS => ?_)
  obtain ⟨f_8, ef_8⟩ : ∃ g : Nat → Int32, g = upd f_7 (Int32.toNatClampNeg 1) n2 := ⟨_, rfl⟩
  rw [← ef_8] at hP hD
  have ef_8 : f_8 = upd f_7 1 n2 := ef_8
  have hP : va_P (dC, dI) vwCl [(h0, .inr (1, [.ref b0, .ref b1, .ref b2, .ref b3, .ref b4, .ref r0, .int (nI cn), w7])), (b0, .inl (kb0, 10, .inl fab)), (b1, .inl (kb1, 10, .inl fle)), (b2, .inl (kb2, 10, .inl fqu)), (b3, .inl (kb3, 100, .inl fli)), (b4, .inl (kb4, 3, .inl f_8)), (r0, .inr (4, [.ref g0, .ref g1, .ref g2, .int rc])), (g0, .inl (kg0, 40, .inl fc)), (g1, .inl (kg1, 4, .inl fh)), (g2, .inl (kg2, 4, .inl fl))] H := hP
  have hD : va_D A [(h0, .inr (1, [.ref b0, .ref b1, .ref b2, .ref b3, .ref b4, .ref r0, .int (nI cn), w7])), (b0, .inl (kb0, 10, .inl fab)), (b1, .inl (kb1, 10, .inl fle)), (b2, .inl (kb2, 10, .inl fqu)), (b3, .inl (kb3, 100, .inl fli)), (b4, .inl (kb4, 3, .inl f_8)), (r0, .inr (4, [.ref g0, .ref g1, .ref g2, .int rc])), (g0, .inl (kg0, 40, .inl fc)), (g1, .inl (kg1, 4, .inl fh)), (g2, .inl (kg2, 4, .inl fl))] := hD
  refine lv_aload_n hx hb dX1_add_39 rfl (lv_at hl 1 rfl) ?_
  refine va_get (D := (dC, dI)) (ci := 1) (v := .ref b4) (C := RX1) (T := TX1) (N := 8) hx hb hts inB_1 hown hK hP 0 rfl rfl 4 (by decide) (hts _ mw_1_51) (fun _ h9 => h9) rfl dX1_add_40 ?_
  refine lv_iconst (v := 2) hx hb dX1_add_43 (by decide) ?_
  refine lv_iload hx hb dX1_add_44 (lv_at hl 5 rfl) ?_
  refine va_iast hx hb hK hP hD hS 5 4 rfl rfl (show vp_in 2 3 by unfold vp_in; decide) dX1_add_46 (fun H locs hP hD hS => ?_)
  obtain ⟨f_9, ef_9⟩ : ∃ g : Nat → Int32, g = upd f_8 (Int32.toNatClampNeg 2) n3 := ⟨_, rfl⟩
  rw [← ef_9] at hP hD
  have ef_9 : f_9 = upd f_8 2 n3 := ef_9
  have hP : va_P (dC, dI) vwCl [(h0, .inr (1, [.ref b0, .ref b1, .ref b2, .ref b3, .ref b4, .ref r0, .int (nI cn), w7])), (b0, .inl (kb0, 10, .inl fab)), (b1, .inl (kb1, 10, .inl fle)), (b2, .inl (kb2, 10, .inl fqu)), (b3, .inl (kb3, 100, .inl fli)), (b4, .inl (kb4, 3, .inl f_9)), (r0, .inr (4, [.ref g0, .ref g1, .ref g2, .int rc])), (g0, .inl (kg0, 40, .inl fc)), (g1, .inl (kg1, 4, .inl fh)), (g2, .inl (kg2, 4, .inl fl))] H := hP
  have hD : va_D A [(h0, .inr (1, [.ref b0, .ref b1, .ref b2, .ref b3, .ref b4, .ref r0, .int (nI cn), w7])), (b0, .inl (kb0, 10, .inl fab)), (b1, .inl (kb1, 10, .inl fle)), (b2, .inl (kb2, 10, .inl fqu)), (b3, .inl (kb3, 100, .inl fli)), (b4, .inl (kb4, 3, .inl f_9)), (r0, .inr (4, [.ref g0, .ref g1, .ref g2, .int rc])), (g0, .inl (kg0, 40, .inl fc)), (g1, .inl (kg1, 4, .inl fh)), (g2, .inl (kg2, 4, .inl fl))] := hD
  have hpp : ∀ i, i < 3 → f_9 i = par3 n1 n2 n3 i := p3_get0 ef_7 ef_8 ef_9
  refine lv_aload_n hx hb dX1_add_47 rfl (lv_at hl 1 rfl) ?_
  refine va_get (D := (dC, dI)) (ci := 1) (v := .ref b0) (C := RX1) (T := TX1) (N := 8) hx hb hts inB_1 hown hK hP 0 rfl rfl 0 (by decide) (hts _ mw_1_47) (fun _ h9 => h9) rfl dX1_add_48 ?_
  refine lv_iload hx hb dX1_add_51 (lv_at hl 0 rfl) ?_
  refine lv_iconst (v := 0) hx hb dX1_add_53 (by decide) ?_
  refine va_iast hx hb hK hP hD hS 1 0 rfl rfl (show vp_in (nI cn) 10 from vp_in_nI (by omega) (by omega)) dX1_add_54 (fun H locs hP hD hS => ?_)
  obtain ⟨f_10, ef_10⟩ : ∃ g : Nat → Int32, g = upd fab (Int32.toNatClampNeg (nI cn)) 0 := ⟨_, rfl⟩
  rw [← ef_10] at hP hD
  have ef_10 : f_10 = upd fab cn 0 := by rw [ef_10, nI_clamp (by omega)]
  have hP : va_P (dC, dI) vwCl [(h0, .inr (1, [.ref b0, .ref b1, .ref b2, .ref b3, .ref b4, .ref r0, .int (nI cn), w7])), (b0, .inl (kb0, 10, .inl f_10)), (b1, .inl (kb1, 10, .inl fle)), (b2, .inl (kb2, 10, .inl fqu)), (b3, .inl (kb3, 100, .inl fli)), (b4, .inl (kb4, 3, .inl f_9)), (r0, .inr (4, [.ref g0, .ref g1, .ref g2, .int rc])), (g0, .inl (kg0, 40, .inl fc)), (g1, .inl (kg1, 4, .inl fh)), (g2, .inl (kg2, 4, .inl fl))] H := hP
  have hD : va_D A [(h0, .inr (1, [.ref b0, .ref b1, .ref b2, .ref b3, .ref b4, .ref r0, .int (nI cn), w7])), (b0, .inl (kb0, 10, .inl f_10)), (b1, .inl (kb1, 10, .inl fle)), (b2, .inl (kb2, 10, .inl fqu)), (b3, .inl (kb3, 100, .inl fli)), (b4, .inl (kb4, 3, .inl f_9)), (r0, .inr (4, [.ref g0, .ref g1, .ref g2, .int rc])), (g0, .inl (kg0, 40, .inl fc)), (g1, .inl (kg1, 4, .inl fh)), (g2, .inl (kg2, 4, .inl fl))] := hD
  refine lv_iconst (v := 1) hx hb dX1_add_55 (by decide) ?_
  refine lv_istore (lv' := [(6, .int 1), (5, .int (nI cn)), (0, .ref h0), (1, .int (nI nn)), (2, .int n1), (3, .int n2), (4, .int n3)]) hx hb dX1_add_56 hl (by decide) rfl (fun ls hl => ?_)
  refine lv_iconst (v := 0) hx hb dX1_add_58 (by decide) ?_
  refine lv_istore (lv' := [(7, .int 0), (6, .int 1), (5, .int (nI cn)), (0, .ref h0), (1, .int (nI nn)), (2, .int n1), (3, .int n2), (4, .int n3)]) hx hb dX1_add_59 hl (by decide) rfl (fun ls hl => ?_)
  have key_11 : ∀ (fu : Nat) (k5 : Nat) (ld : Int32) (fax : Nat → Int32), (k5 ≤ nn) → (fax = upd fab cn (abv fab (par3 n1 n2 n3) k5)) → (LdI fle (par3 n1 n2 n3) k5 ld) → nn - k5 < fu → ∀ (H : Heap) (locs : List Loc), va_P (dC, dI) vwCl [(h0, .inr (1, [.ref b0, .ref b1, .ref b2, .ref b3, .ref b4, .ref r0, .int (nI cn), w7])), (b0, .inl (kb0, 10, .inl fax)), (b1, .inl (kb1, 10, .inl fle)), (b2, .inl (kb2, 10, .inl fqu)), (b3, .inl (kb3, 100, .inl fli)), (b4, .inl (kb4, 3, .inl f_9)), (r0, .inr (4, [.ref g0, .ref g1, .ref g2, .int rc])), (g0, .inl (kg0, 40, .inl fc)), (g1, .inl (kg1, 4, .inl fh)), (g2, .inl (kg2, 4, .inl fl))] H → va_D A [(h0, .inr (1, [.ref b0, .ref b1, .ref b2, .ref b3, .ref b4, .ref r0, .int (nI cn), w7])), (b0, .inl (kb0, 10, .inl fax)), (b1, .inl (kb1, 10, .inl fle)), (b2, .inl (kb2, 10, .inl fqu)), (b3, .inl (kb3, 100, .inl fli)), (b4, .inl (kb4, 3, .inl f_9)), (r0, .inr (4, [.ref g0, .ref g1, .ref g2, .int rc])), (g0, .inl (kg0, 40, .inl fc)), (g1, .inl (kg1, 4, .inl fh)), (g2, .inl (kg2, 4, .inl fl))] → va_S A s.heap H locs → ∀ (ls : Array Slot), lv_has ls 8 [(7, .int (nI k5)), (6, .int ld), (5, .int (nI cn)), (0, .ref h0), (1, .int (nI nn)), (2, .int n1), (3, .int n2), (4, .int n3)] → W p l e (headSpec (wq yX1_add cX1_add 8 (some .int)) ({ frames := 5, cells := 0, slots := 0, locals := 113 })).room s m (([.ref h0, .int (nI nn), .int n1, .int n2, .int n3] : List Value)).toArray below meth c H locs 0 0 (MQ below (va_Qi (fun (r : Int32) (_ : Unit) => r = nI cn) (fun _ t => ∃ (cn2 : Nat) (fab2 : Nat → Int32) (fle2 : Nat → Int32) (fqu2 : Nat → Int32) (fli2 : Nat → Int32) (fpa2 : Nat → Int32) (rc2 : Int32) (fc2 : Nat → Int32) (fh2 : Nat → Int32) (fl2 : Nat → Int32), (cn2 = cn + 1) ∧ (fab2 = upd fab cn (abv fab (par3 n1 n2 n3) nn)) ∧ (KC cn fle fli fqu fle2 fli2 fqu2 (par3 n1 n2 n3) nn) ∧ (BdOk 10 10 fle2) ∧ (BdOk 4 10 fh2) ∧ (BdOk 4 10 fl2) ∧ va_P (dC, dI) vwCl [(h0, .inr (1, [.ref b0, .ref b1, .ref b2, .ref b3, .ref b4, .ref r0, .int (nI cn2), w7])), (b0, .inl (kb0, 10, .inl fab2)), (b1, .inl (kb1, 10, .inl fle2)), (b2, .inl (kb2, 10, .inl fqu2)), (b3, .inl (kb3, 100, .inl fli2)), (b4, .inl (kb4, 3, .inl fpa2)), (r0, .inr (4, [.ref g0, .ref g1, .ref g2, .int rc2])), (g0, .inl (kg0, 40, .inl fc2)), (g1, .inl (kg1, 4, .inl fh2)), (g2, .inl (kg2, 4, .inl fl2))] t.heap ∧ va_K (dC, dI) vwCl [(kb0, .int), (kb1, .int), (kb2, .int), (kb3, .int), (kb4, .int), (kg0, .int), (kg1, .int), (kg2, .int)] t ∧ va_D A [(h0, .inr (1, [.ref b0, .ref b1, .ref b2, .ref b3, .ref b4, .ref r0, .int (nI cn2), w7])), (b0, .inl (kb0, 10, .inl fab2)), (b1, .inl (kb1, 10, .inl fle2)), (b2, .inl (kb2, 10, .inl fqu2)), (b3, .inl (kb3, 100, .inl fli2)), (b4, .inl (kb4, 3, .inl fpa2)), (r0, .inr (4, [.ref g0, .ref g1, .ref g2, .int rc2])), (g0, .inl (kg0, 40, .inl fc2)), (g1, .inl (kg1, 4, .inl fh2)), (g2, .inl (kg2, 4, .inl fl2))]) A) (([.ref h0, .int (nI nn), .int n1, .int n2, .int n3] : List Value)).toArray s 0 0 A) (F0 m 61 ls []) := by
    intro fu
    induction fu with
    | zero => intro k5 ld fax hk5 hax hld hme; exact absurd hme (Nat.not_lt_zero _)
    | succ fu ih_12 =>
      intro k5 ld fax hk5 hax hld hme H locs hP hD hS ls hl
      refine lv_iload hx hb dX1_add_61 (lv_at hl 0 rfl) ?_
      refine lv_iload_n hx hb dX1_add_63 rfl (lv_at hl 4 rfl) ?_
      refine lv_icmp_ge (tgt := 121) hx hb dX1_add_64 (by decide) (fun c_13 => ?_) (fun c_13 => ?_)
      · have b_14 := gx_ge (X := ((k5 : Nat) : Int)) (C := ((nn : Nat) : Int)) (nI_toInt (by omega)) (nI_toInt (by omega)) c_13
        refine lv_aload_n hx hb dX1_add_121 rfl (lv_at hl 3 rfl) ?_
        refine va_get (D := (dC, dI)) (ci := 1) (v := .ref b1) (C := RX1) (T := TX1) (N := 8) hx hb hts inB_1 hown hK hP 0 rfl rfl 1 (by decide) (hts _ mw_1_48) (fun _ h9 => h9) rfl dX1_add_122 ?_
        refine lv_iload hx hb dX1_add_125 (lv_at hl 2 rfl) ?_
        refine lv_iconst (v := 0) hx hb dX1_add_127 (by decide) ?_
        refine va_iast hx hb hK hP hD hS 2 1 rfl rfl (show vp_in (nI cn) 10 from vp_in_nI (by omega) (by omega)) dX1_add_128 (fun H locs hP hD hS => ?_)
        obtain ⟨f_15, ef_15⟩ : ∃ g : Nat → Int32, g = upd fle (Int32.toNatClampNeg (nI cn)) 0 := ⟨_, rfl⟩
        rw [← ef_15] at hP hD
        have ef_15 : f_15 = upd fle cn 0 := by rw [ef_15, nI_clamp (by omega)]
        have pf_15 : BdOk 10 10 f_15 := by rw [ef_15]; exact bd_upd (z := 0) hle (by omega)
        have hP : va_P (dC, dI) vwCl [(h0, .inr (1, [.ref b0, .ref b1, .ref b2, .ref b3, .ref b4, .ref r0, .int (nI cn), w7])), (b0, .inl (kb0, 10, .inl fax)), (b1, .inl (kb1, 10, .inl f_15)), (b2, .inl (kb2, 10, .inl fqu)), (b3, .inl (kb3, 100, .inl fli)), (b4, .inl (kb4, 3, .inl f_9)), (r0, .inr (4, [.ref g0, .ref g1, .ref g2, .int rc])), (g0, .inl (kg0, 40, .inl fc)), (g1, .inl (kg1, 4, .inl fh)), (g2, .inl (kg2, 4, .inl fl))] H := hP
        have hD : va_D A [(h0, .inr (1, [.ref b0, .ref b1, .ref b2, .ref b3, .ref b4, .ref r0, .int (nI cn), w7])), (b0, .inl (kb0, 10, .inl fax)), (b1, .inl (kb1, 10, .inl f_15)), (b2, .inl (kb2, 10, .inl fqu)), (b3, .inl (kb3, 100, .inl fli)), (b4, .inl (kb4, 3, .inl f_9)), (r0, .inr (4, [.ref g0, .ref g1, .ref g2, .int rc])), (g0, .inl (kg0, 40, .inl fc)), (g1, .inl (kg1, 4, .inl fh)), (g2, .inl (kg2, 4, .inl fl))] := hD
        refine lv_aload_n hx hb dX1_add_129 rfl (lv_at hl 3 rfl) ?_
        refine va_get (D := (dC, dI)) (ci := 1) (v := .ref b2) (C := RX1) (T := TX1) (N := 8) hx hb hts inB_1 hown hK hP 0 rfl rfl 2 (by decide) (hts _ mw_1_49) (fun _ h9 => h9) rfl dX1_add_130 ?_
        refine lv_iload hx hb dX1_add_133 (lv_at hl 2 rfl) ?_
        refine lv_bipush (v := (-5)) hx hb dX1_add_135 (by decide) ?_
        refine va_iast hx hb hK hP hD hS 3 2 rfl rfl (show vp_in (nI cn) 10 from vp_in_nI (by omega) (by omega)) dX1_add_137 (fun H locs hP hD hS => ?_)
        obtain ⟨f_16, ef_16⟩ : ∃ g : Nat → Int32, g = upd fqu (Int32.toNatClampNeg (nI cn)) (-5) := ⟨_, rfl⟩
        rw [← ef_16] at hP hD
        have ef_16 : f_16 = upd fqu cn (-5) := by rw [ef_16, nI_clamp (by omega)]
        have hP : va_P (dC, dI) vwCl [(h0, .inr (1, [.ref b0, .ref b1, .ref b2, .ref b3, .ref b4, .ref r0, .int (nI cn), w7])), (b0, .inl (kb0, 10, .inl fax)), (b1, .inl (kb1, 10, .inl f_15)), (b2, .inl (kb2, 10, .inl f_16)), (b3, .inl (kb3, 100, .inl fli)), (b4, .inl (kb4, 3, .inl f_9)), (r0, .inr (4, [.ref g0, .ref g1, .ref g2, .int rc])), (g0, .inl (kg0, 40, .inl fc)), (g1, .inl (kg1, 4, .inl fh)), (g2, .inl (kg2, 4, .inl fl))] H := hP
        have hD : va_D A [(h0, .inr (1, [.ref b0, .ref b1, .ref b2, .ref b3, .ref b4, .ref r0, .int (nI cn), w7])), (b0, .inl (kb0, 10, .inl fax)), (b1, .inl (kb1, 10, .inl f_15)), (b2, .inl (kb2, 10, .inl f_16)), (b3, .inl (kb3, 100, .inl fli)), (b4, .inl (kb4, 3, .inl f_9)), (r0, .inr (4, [.ref g0, .ref g1, .ref g2, .int rc])), (g0, .inl (kg0, 40, .inl fc)), (g1, .inl (kg1, 4, .inl fh)), (g2, .inl (kg2, 4, .inl fl))] := hD
        have hlk2 : LnOk f_15 fli cn := ln_upd0 hlk ef_15
        refine lv_iload hx hb dX1_add_138 (lv_at hl 1 rfl) ?_
        refine lv_if_eq (tgt := 150) hx hb dX1_add_140 (by decide) (fun c_17 => ?_) (fun c_17 => ?_)
        · have b_18 := gx_eq (X := (Int32.toInt ld)) (C := 0) rfl (by decide) c_17
          refine lv_aload_n hx hb dX1_add_150 rfl (lv_at hl 3 rfl) ?_
          refine lv_dup hx hb dX1_add_151 rfl ?_
          refine va_get (D := (dC, dI)) (ci := 1) (v := .int (nI cn)) (C := RX1) (T := TX1) (N := 8) hx hb hts inB_1 hown hK hP 0 rfl rfl 6 (by decide) (hts _ mw_1_53) (fun _ h9 => h9) rfl dX1_add_152 ?_
          refine lv_iconst (v := 1) hx hb dX1_add_155 (by decide) ?_
          refine lv_iadd hx hb dX1_add_156 ?_
          refine hx_top (y := (nI (cn + 1))) (nI_add cn 1) ?_
          refine va_put (D := (dC, dI)) (ci := 1) (v := .int (nI (cn + 1))) (ty := .int) (C := RX1) (T := TX1) (N := 8) hx hb hts inB_1 tyX1 tyX1_ok nmX1 hown hK hP hD hS 0 rfl rfl 6 (by decide) (hts _ mw_1_53) (fun _ h9 => h9) rfl (by decide +kernel) rfl rfl (Nat.le_of_ble_eq_true rfl) dX1_add_157 (fun H locs hP hD hS => ?_)
          have hP : va_P (dC, dI) vwCl [(h0, .inr (1, [.ref b0, .ref b1, .ref b2, .ref b3, .ref b4, .ref r0, .int (nI (cn + 1)), w7])), (b0, .inl (kb0, 10, .inl fax)), (b1, .inl (kb1, 10, .inl f_15)), (b2, .inl (kb2, 10, .inl f_16)), (b3, .inl (kb3, 100, .inl fli)), (b4, .inl (kb4, 3, .inl f_9)), (r0, .inr (4, [.ref g0, .ref g1, .ref g2, .int rc])), (g0, .inl (kg0, 40, .inl fc)), (g1, .inl (kg1, 4, .inl fh)), (g2, .inl (kg2, 4, .inl fl))] H := hP
          have hD : va_D A [(h0, .inr (1, [.ref b0, .ref b1, .ref b2, .ref b3, .ref b4, .ref r0, .int (nI (cn + 1)), w7])), (b0, .inl (kb0, 10, .inl fax)), (b1, .inl (kb1, 10, .inl f_15)), (b2, .inl (kb2, 10, .inl f_16)), (b3, .inl (kb3, 100, .inl fli)), (b4, .inl (kb4, 3, .inl f_9)), (r0, .inr (4, [.ref g0, .ref g1, .ref g2, .int rc])), (g0, .inl (kg0, 40, .inl fc)), (g1, .inl (kg1, 4, .inl fh)), (g2, .inl (kg2, 4, .inl fl))] := hD
          refine lv_iload hx hb dX1_add_160 (lv_at hl 2 rfl) ?_
          have hP9 := hP.sub (ws' := [(h0, .inr (1, [.ref b0, .ref b1, .ref b2, .ref b3, .ref b4, .ref r0, .int (nI (cn + 1)), w7])), (b0, .inl (kb0, 10, .inl fax)), (b1, .inl (kb1, 10, .inl f_15)), (b2, .inl (kb2, 10, .inl f_16)), (b3, .inl (kb3, 100, .inl fli)), (b4, .inl (kb4, 3, .inl f_9)), (r0, .inr (4, [.ref g0, .ref g1, .ref g2, .int rc])), (g0, .inl (kg0, 40, .inl fc)), (g1, .inl (kg1, 4, .inl fh)), (g2, .inl (kg2, 4, .inl fl))]) [0, 1, 2, 3, 4, 5, 6, 7, 8, 9] rfl
          have hD9 := hD.sub (ws' := [(h0, .inr (1, [.ref b0, .ref b1, .ref b2, .ref b3, .ref b4, .ref r0, .int (nI (cn + 1)), w7])), (b0, .inl (kb0, 10, .inl fax)), (b1, .inl (kb1, 10, .inl f_15)), (b2, .inl (kb2, 10, .inl f_16)), (b3, .inl (kb3, 100, .inl fli)), (b4, .inl (kb4, 3, .inl f_9)), (r0, .inr (4, [.ref g0, .ref g1, .ref g2, .int rc])), (g0, .inl (kg0, 40, .inl fc)), (g1, .inl (kg1, 4, .inl fh)), (g2, .inl (kg2, 4, .inl fl))]) [0, 1, 2, 3, 4, 5, 6, 7, 8, 9] (by decide) rfl
          have hK9 := hK.sub (tys' := [(kb0, .int), (kb1, .int), (kb2, .int), (kb3, .int), (kb4, .int), (kg0, .int), (kg1, .int), (kg2, .int)]) [0, 1, 2, 3, 4, 5, 6, 7] rfl
          exact W.iret (v := (nI cn)) hx hb hr (fun t ht hW => ⟨⟨(nI cn), (), rfl, rfl, (cn + 1), fax, f_15, f_16, fli, f_9, rc, fc, fh, fl, rfl, (by rw [hax, show k5 = nn from (by omega)]), (kc_no (by obtain ⟨_, q⟩ := hld.resolve_left (fun q => absurd (q.1.symm.trans c_17) (by decide)); rw [show k5 = nn from (by omega)] at q; exact q) ef_15 ef_16), pf_15, hfh, hfl, by rw [ht]; exact hP9, va_K.moved hW.alike hK9, hD9⟩, hS.F ht⟩) hS.2.2 dX1_add_162
        · have b_18 := gn_eq (X := (Int32.toInt ld)) (C := 0) rfl (by decide) c_17
          refine lv_aload_n hx hb dX1_add_143 rfl (lv_at hl 3 rfl) ?_
          refine lv_iload hx hb dX1_add_144 (lv_at hl 2 rfl) ?_
          refine lv_iload_n hx hb dX1_add_146 rfl (lv_at hl 4 rfl) ?_
          have hPc := hP.sub (ws' := [(h0, .inr (1, [.ref b0, .ref b1, .ref b2, .ref b3, .ref b4, .ref r0, .int (nI cn), w7])), (b1, .inl (kb1, 10, .inl f_15)), (b2, .inl (kb2, 10, .inl f_16)), (b3, .inl (kb3, 100, .inl fli)), (b4, .inl (kb4, 3, .inl f_9)), (r0, .inr (4, [.ref g0, .ref g1, .ref g2, .int rc])), (g0, .inl (kg0, 40, .inl fc)), (g1, .inl (kg1, 4, .inl fh)), (g2, .inl (kg2, 4, .inl fl))]) [0, 2, 3, 4, 5, 6, 7, 8, 9] rfl
          have hDc := hD.sub (ws' := [(h0, .inr (1, [.ref b0, .ref b1, .ref b2, .ref b3, .ref b4, .ref r0, .int (nI cn), w7])), (b1, .inl (kb1, 10, .inl f_15)), (b2, .inl (kb2, 10, .inl f_16)), (b3, .inl (kb3, 100, .inl fli)), (b4, .inl (kb4, 3, .inl f_9)), (r0, .inr (4, [.ref g0, .ref g1, .ref g2, .int rc])), (g0, .inl (kg0, 40, .inl fc)), (g1, .inl (kg1, 4, .inl fh)), (g2, .inl (kg2, 4, .inl fl))]) [0, 2, 3, 4, 5, 6, 7, 8, 9] (by decide) rfl
          have hKc := hK.sub (tys' := [(kb1, .int), (kb2, .int), (kb3, .int), (kb4, .int), (kg0, .int), (kg1, .int), (kg2, .int)]) [1, 2, 3, 4, 5, 6, 7] rfl
          have hFc := va_free (wc := [(h0, .inr (1, [.ref b0, .ref b1, .ref b2, .ref b3, .ref b4, .ref r0, .int (nI cn), w7])), (b1, .inl (kb1, 10, .inl f_15)), (b2, .inl (kb2, 10, .inl f_16)), (b3, .inl (kb3, 100, .inl fli)), (b4, .inl (kb4, 3, .inl f_9)), (r0, .inr (4, [.ref g0, .ref g1, .ref g2, .int rc])), (g0, .inl (kg0, 40, .inl fc)), (g1, .inl (kg1, 4, .inl fh)), (g2, .inl (kg2, 4, .inl fl))]) hD hS hA [0, 2, 3, 4, 5, 6, 7, 8, 9] rfl
          refine va_callv (va_runV (As := [.int (nI cn), .int (nI nn)]) (rest := []) ⟨hx, hb, hml, hown, hts⟩ (c_layLine l dC dI H.size h0 (.ref b0) b1 b2 b3 b4 r0 cn (w7) kb1 f_15 kb2 f_16 kb3 fli kb4 f_9 g0 g1 g2 rc kg0 fc kg1 fh kg2 fl cn nn (by omega) pf_15 hnn hfh hfl hc9 hlk2 (fun i hi => by obtain ⟨q, h1, h2⟩ := arg_nat (hpv i hi); exact ⟨q, h1, (hpp i (by omega)).trans h2⟩)) (cwV 2 hts (gV mw_1_217 mw_1_219 mw_0_0 mw_1_2 mw_1_220) rfl rfl rfl (by decide +kernel) ⟨Nat.le_of_ble_eq_true rfl, Nat.le_of_ble_eq_true rfl⟩) ⟨pcW_blind, va_recv hKc hPc (ci := 1) (q0 := 0) rfl rfl, pcW_at hPc hKc hDc hN⟩ rfl rfl hl.1 rfl (lv_room (Nat.le_of_ble_eq_true rfl)) dX1_add_147 ⟨Nat.le_of_ble_eq_true rfl, Nat.le_of_ble_eq_true rfl⟩) hS (fun q _ h => hFc q h) hFc (fun u t H1 locs ht hvm hw_19 hB hz1 hk1 hS => ?_)
          obtain ⟨f_20, f_21, f_22, f_23, f_24, f_25, p_26, p_27, p_28, p_29, hP1, hK1, hD1⟩ := hB
          rw [ht] at hP1
          have hK1 := va_K.moved hvm.symm hK1
          obtain ⟨hP, hD⟩ := va_join (wr := [(b0, .inl (kb0, 10, .inl fax))]) (w1 := [(h0, .inr (1, [.ref b0, .ref b1, .ref b2, .ref b3, .ref b4, .ref r0, .int (nI cn), w7])), (b1, .inl (kb1, 10, .inl f_20)), (b2, .inl (kb2, 10, .inl f_21)), (b3, .inl (kb3, 100, .inl f_22)), (b4, .inl (kb4, 3, .inl f_9)), (r0, .inr (4, [.ref g0, .ref g1, .ref g2, .int (nI (nn + 1))])), (g0, .inl (kg0, 40, .inl f_23)), (g1, .inl (kg1, 4, .inl f_24)), (g2, .inl (kg2, 4, .inl f_25))]) hP hD [0, 2, 3, 4, 5, 6, 7, 8, 9] [1] rfl rfl (by decide) (by decide) hk1 hFc hP1 hD1
          have hK := (hK.sub (tys' := [(kb0, .int)]) [0] rfl).app hK1
          clear hz1 hk1 hPc hDc hKc hFc
          generalize H1 = H at hP hS ⊢
          have hK : va_K (dC, dI) vwCl [(kb0, .int), (kb1, .int), (kb2, .int), (kb3, .int), (kb4, .int), (kg0, .int), (kg1, .int), (kg2, .int)] s := hK
          have hP : va_P (dC, dI) vwCl [(b0, .inl (kb0, 10, .inl fax)), (h0, .inr (1, [.ref b0, .ref b1, .ref b2, .ref b3, .ref b4, .ref r0, .int (nI cn), w7])), (b1, .inl (kb1, 10, .inl f_20)), (b2, .inl (kb2, 10, .inl f_21)), (b3, .inl (kb3, 100, .inl f_22)), (b4, .inl (kb4, 3, .inl f_9)), (r0, .inr (4, [.ref g0, .ref g1, .ref g2, .int (nI (nn + 1))])), (g0, .inl (kg0, 40, .inl f_23)), (g1, .inl (kg1, 4, .inl f_24)), (g2, .inl (kg2, 4, .inl f_25))] H := hP
          have hD : va_D A [(b0, .inl (kb0, 10, .inl fax)), (h0, .inr (1, [.ref b0, .ref b1, .ref b2, .ref b3, .ref b4, .ref r0, .int (nI cn), w7])), (b1, .inl (kb1, 10, .inl f_20)), (b2, .inl (kb2, 10, .inl f_21)), (b3, .inl (kb3, 100, .inl f_22)), (b4, .inl (kb4, 3, .inl f_9)), (r0, .inr (4, [.ref g0, .ref g1, .ref g2, .int (nI (nn + 1))])), (g0, .inl (kg0, 40, .inl f_23)), (g1, .inl (kg1, 4, .inl f_24)), (g2, .inl (kg2, 4, .inl f_25))] := hD
          refine lv_aload_n hx hb dX1_add_150 rfl (lv_at hl 3 rfl) ?_
          refine lv_dup hx hb dX1_add_151 rfl ?_
          refine va_get (D := (dC, dI)) (ci := 1) (v := .int (nI cn)) (C := RX1) (T := TX1) (N := 8) hx hb hts inB_1 hown hK hP 1 rfl rfl 6 (by decide) (hts _ mw_1_53) (fun _ h9 => h9) rfl dX1_add_152 ?_
          refine lv_iconst (v := 1) hx hb dX1_add_155 (by decide) ?_
          refine lv_iadd hx hb dX1_add_156 ?_
          refine hx_top (y := (nI (cn + 1))) (nI_add cn 1) ?_
          refine va_put (D := (dC, dI)) (ci := 1) (v := .int (nI (cn + 1))) (ty := .int) (C := RX1) (T := TX1) (N := 8) hx hb hts inB_1 tyX1 tyX1_ok nmX1 hown hK hP hD hS 1 rfl rfl 6 (by decide) (hts _ mw_1_53) (fun _ h9 => h9) rfl (by decide +kernel) rfl rfl (Nat.le_of_ble_eq_true rfl) dX1_add_157 (fun H locs hP hD hS => ?_)
          have hP : va_P (dC, dI) vwCl [(b0, .inl (kb0, 10, .inl fax)), (h0, .inr (1, [.ref b0, .ref b1, .ref b2, .ref b3, .ref b4, .ref r0, .int (nI (cn + 1)), w7])), (b1, .inl (kb1, 10, .inl f_20)), (b2, .inl (kb2, 10, .inl f_21)), (b3, .inl (kb3, 100, .inl f_22)), (b4, .inl (kb4, 3, .inl f_9)), (r0, .inr (4, [.ref g0, .ref g1, .ref g2, .int (nI (nn + 1))])), (g0, .inl (kg0, 40, .inl f_23)), (g1, .inl (kg1, 4, .inl f_24)), (g2, .inl (kg2, 4, .inl f_25))] H := hP
          have hD : va_D A [(b0, .inl (kb0, 10, .inl fax)), (h0, .inr (1, [.ref b0, .ref b1, .ref b2, .ref b3, .ref b4, .ref r0, .int (nI (cn + 1)), w7])), (b1, .inl (kb1, 10, .inl f_20)), (b2, .inl (kb2, 10, .inl f_21)), (b3, .inl (kb3, 100, .inl f_22)), (b4, .inl (kb4, 3, .inl f_9)), (r0, .inr (4, [.ref g0, .ref g1, .ref g2, .int (nI (nn + 1))])), (g0, .inl (kg0, 40, .inl f_23)), (g1, .inl (kg1, 4, .inl f_24)), (g2, .inl (kg2, 4, .inl f_25))] := hD
          refine lv_iload hx hb dX1_add_160 (lv_at hl 2 rfl) ?_
          have hP9 := hP.sub (ws' := [(h0, .inr (1, [.ref b0, .ref b1, .ref b2, .ref b3, .ref b4, .ref r0, .int (nI (cn + 1)), w7])), (b0, .inl (kb0, 10, .inl fax)), (b1, .inl (kb1, 10, .inl f_20)), (b2, .inl (kb2, 10, .inl f_21)), (b3, .inl (kb3, 100, .inl f_22)), (b4, .inl (kb4, 3, .inl f_9)), (r0, .inr (4, [.ref g0, .ref g1, .ref g2, .int (nI (nn + 1))])), (g0, .inl (kg0, 40, .inl f_23)), (g1, .inl (kg1, 4, .inl f_24)), (g2, .inl (kg2, 4, .inl f_25))]) [1, 0, 2, 3, 4, 5, 6, 7, 8, 9] rfl
          have hD9 := hD.sub (ws' := [(h0, .inr (1, [.ref b0, .ref b1, .ref b2, .ref b3, .ref b4, .ref r0, .int (nI (cn + 1)), w7])), (b0, .inl (kb0, 10, .inl fax)), (b1, .inl (kb1, 10, .inl f_20)), (b2, .inl (kb2, 10, .inl f_21)), (b3, .inl (kb3, 100, .inl f_22)), (b4, .inl (kb4, 3, .inl f_9)), (r0, .inr (4, [.ref g0, .ref g1, .ref g2, .int (nI (nn + 1))])), (g0, .inl (kg0, 40, .inl f_23)), (g1, .inl (kg1, 4, .inl f_24)), (g2, .inl (kg2, 4, .inl f_25))]) [1, 0, 2, 3, 4, 5, 6, 7, 8, 9] (by decide) rfl
          have hK9 := hK.sub (tys' := [(kb0, .int), (kb1, .int), (kb2, .int), (kb3, .int), (kb4, .int), (kg0, .int), (kg1, .int), (kg2, .int)]) [0, 1, 2, 3, 4, 5, 6, 7] rfl
          exact W.iret (v := (nI cn)) hx hb hr (fun t ht hW => ⟨⟨(nI cn), (), rfl, rfl, (cn + 1), fax, f_20, f_21, f_22, f_9, (nI (nn + 1)), f_23, f_24, f_25, rfl, (by rw [hax, show k5 = nn from (by omega)]), (by obtain ⟨L9, Q9, a9, b9, c9⟩ := p_29; exact kc_yes (p2 := f_9) (by obtain ⟨_, q⟩ := hld.resolve_right (fun q => absurd q.1 c_17); rw [show k5 = nn from (by omega)] at q; exact q) (fun i hi => arg_nat (hpv i hi)) (by omega) (fun i hi => hpp i (by omega)) ef_15 ef_16 a9 b9 c9), p_26, p_27, p_28, by rw [ht]; exact hP9, va_K.moved hW.alike hK9, hD9⟩, hS.F ht⟩) hS.2.2 dX1_add_162
      · have b_14 := gn_ge (X := ((k5 : Nat) : Int)) (C := ((nn : Nat) : Int)) (nI_toInt (by omega)) (nI_toInt (by omega)) c_13
        refine lv_aload_n hx hb dX1_add_67 rfl (lv_at hl 3 rfl) ?_
        refine va_get (D := (dC, dI)) (ci := 1) (v := .ref b0) (C := RX1) (T := TX1) (N := 8) hx hb hts inB_1 hown hK hP 0 rfl rfl 0 (by decide) (hts _ mw_1_47) (fun _ h9 => h9) rfl dX1_add_68 ?_
        refine lv_iload hx hb dX1_add_71 (lv_at hl 2 rfl) ?_
        refine lv_dup2_11 hx hb dX1_add_73 rfl rfl ?_
        refine va_iald hx hb hK hP 1 0 rfl rfl (show vp_in (nI cn) 10 from vp_in_nI (by omega) (by omega)) dX1_add_74 ?_
        refine hx_top (y := (fax cn)) (congrArg _ (nI_clamp (by omega))) ?_
        refine lv_iconst (v := 1) hx hb dX1_add_75 (by decide) ?_
        refine lv_aload_n hx hb dX1_add_76 rfl (lv_at hl 3 rfl) ?_
        refine va_get (D := (dC, dI)) (ci := 1) (v := .ref b4) (C := RX1) (T := TX1) (N := 8) hx hb hts inB_1 hown hK hP 0 rfl rfl 4 (by decide) (hts _ mw_1_51) (fun _ h9 => h9) rfl dX1_add_77 ?_
        refine lv_iload hx hb dX1_add_80 (lv_at hl 0 rfl) ?_
        refine va_iald hx hb hK hP 5 4 rfl rfl (show vp_in (nI k5) 3 from vp_in_nI (by omega) (by omega)) dX1_add_82 ?_
        refine hx_top (y := (f_9 k5)) (congrArg _ (nI_clamp (by omega))) ?_
        obtain ⟨n_30, hn_30, un_30⟩ := arg_nat (hpv k5 (by omega))
        have en_30 : f_9 k5 = nI n_30 := (hpp k5 (by omega)).trans un_30
        refine hx_top (y := (nI n_30)) en_30 ?_
        refine lv_ishl hx hb dX1_add_83 ?_
        refine lv_aload_n hx hb dX1_add_84 rfl (lv_at hl 3 rfl) ?_
        refine lv_aload_n hx hb dX1_add_85 rfl (lv_at hl 3 rfl) ?_
        refine va_get (D := (dC, dI)) (ci := 1) (v := .ref b4) (C := RX1) (T := TX1) (N := 8) hx hb hts inB_1 hown hK hP 0 rfl rfl 4 (by decide) (hts _ mw_1_51) (fun _ h9 => h9) rfl dX1_add_86 ?_
        refine lv_iload hx hb dX1_add_89 (lv_at hl 0 rfl) ?_
        refine va_iald hx hb hK hP 5 4 rfl rfl (show vp_in (nI k5) 3 from vp_in_nI (by omega) (by omega)) dX1_add_91 ?_
        refine hx_top (y := (f_9 k5)) (congrArg _ (nI_clamp (by omega))) ?_
        refine hx_top (y := (nI n_30)) en_30 ?_
        have hPc := hP.sub (ws' := [(h0, .inr (1, [.ref b0, .ref b1, .ref b2, .ref b3, .ref b4, .ref r0, .int (nI cn), w7])), (b0, .inl (kb0, 10, .inl fax))]) [0, 1] rfl
        have hDc := hD.sub (ws' := [(h0, .inr (1, [.ref b0, .ref b1, .ref b2, .ref b3, .ref b4, .ref r0, .int (nI cn), w7])), (b0, .inl (kb0, 10, .inl fax))]) [0, 1] (by decide) rfl
        have hKc := hK.sub (tys' := [(kb0, .int)]) [0] rfl
        refine va_calli (va_runV (As := [.int (nI n_30)]) (rest := [.int (1 <<< ((nI n_30) &&& 31)), .int (fax cn), .int (nI cn), .ref b0]) ⟨hx, hb, hml, hown, hts⟩ (c_aboveOf l dC dI H.size h0 b0 (.ref b1) (.ref b2) (.ref b3) (.ref b4) (.ref r0) cn (w7) kb0 fax n_30 (by omega) (by omega)) (cwV 1 hts (gV mw_1_204 mw_1_205 mw_1_206 mw_1_2 mw_1_207) rfl rfl rfl (by decide +kernel) ⟨Nat.le_of_ble_eq_true rfl, Nat.le_of_ble_eq_true rfl⟩) ⟨pcW_blind, va_recv hKc hPc (ci := 1) (q0 := 0) rfl rfl, pcW_at hPc hKc hDc hN⟩ rfl rfl hl.1 rfl (lv_room (Nat.le_of_ble_eq_true rfl)) dX1_add_92 ⟨Nat.le_of_ble_eq_true rfl, Nat.le_of_ble_eq_true rfl⟩) hS (fun q h1 h2 => absurd h2 (Nat.not_le.mpr h1)) (fun q h => hA q (Nat.le_trans hS.1 h)) (fun r_31 u t H1 locs ht hvm hw_31 hB hz1 hk1 hS => ?_)
        have hP := keepP hP hk1
        clear hz1 hk1 hB ht hvm hPc hDc hKc
        generalize H1 = H at hP hS ⊢
        obtain rfl : r_31 = (fax n_30) := hw_31
        refine lv_ior hx hb dX1_add_95 ?_
        refine lv_ior hx hb dX1_add_96 ?_
        refine va_iast hx hb hK hP hD hS 1 0 rfl rfl (show vp_in (nI cn) 10 from vp_in_nI (by omega) (by omega)) dX1_add_97 (fun H locs hP hD hS => ?_)
        obtain ⟨f_32, ef_32⟩ : ∃ g : Nat → Int32, g = upd fax (Int32.toNatClampNeg (nI cn)) ((fax cn) ||| ((1 <<< ((nI n_30) &&& 31)) ||| (fax n_30))) := ⟨_, rfl⟩
        rw [← ef_32] at hP hD
        have ef_32 : f_32 = upd fax cn ((fax cn) ||| ((1 <<< ((nI n_30) &&& 31)) ||| (fax n_30))) := by rw [ef_32, nI_clamp (by omega)]
        have hP : va_P (dC, dI) vwCl [(h0, .inr (1, [.ref b0, .ref b1, .ref b2, .ref b3, .ref b4, .ref r0, .int (nI cn), w7])), (b0, .inl (kb0, 10, .inl f_32)), (b1, .inl (kb1, 10, .inl fle)), (b2, .inl (kb2, 10, .inl fqu)), (b3, .inl (kb3, 100, .inl fli)), (b4, .inl (kb4, 3, .inl f_9)), (r0, .inr (4, [.ref g0, .ref g1, .ref g2, .int rc])), (g0, .inl (kg0, 40, .inl fc)), (g1, .inl (kg1, 4, .inl fh)), (g2, .inl (kg2, 4, .inl fl))] H := hP
        have hD : va_D A [(h0, .inr (1, [.ref b0, .ref b1, .ref b2, .ref b3, .ref b4, .ref r0, .int (nI cn), w7])), (b0, .inl (kb0, 10, .inl f_32)), (b1, .inl (kb1, 10, .inl fle)), (b2, .inl (kb2, 10, .inl fqu)), (b3, .inl (kb3, 100, .inl fli)), (b4, .inl (kb4, 3, .inl f_9)), (r0, .inr (4, [.ref g0, .ref g1, .ref g2, .int rc])), (g0, .inl (kg0, 40, .inl fc)), (g1, .inl (kg1, 4, .inl fh)), (g2, .inl (kg2, 4, .inl fl))] := hD
        refine lv_aload_n hx hb dX1_add_98 rfl (lv_at hl 3 rfl) ?_
        refine lv_aload_n hx hb dX1_add_99 rfl (lv_at hl 3 rfl) ?_
        refine va_get (D := (dC, dI)) (ci := 1) (v := .ref b4) (C := RX1) (T := TX1) (N := 8) hx hb hts inB_1 hown hK hP 0 rfl rfl 4 (by decide) (hts _ mw_1_51) (fun _ h9 => h9) rfl dX1_add_100 ?_
        refine lv_iload hx hb dX1_add_103 (lv_at hl 0 rfl) ?_
        refine va_iald hx hb hK hP 5 4 rfl rfl (show vp_in (nI k5) 3 from vp_in_nI (by omega) (by omega)) dX1_add_105 ?_
        refine hx_top (y := (f_9 k5)) (congrArg _ (nI_clamp (by omega))) ?_
        refine hx_top (y := (nI n_30)) en_30 ?_
        have hPc := hP.sub (ws' := [(h0, .inr (1, [.ref b0, .ref b1, .ref b2, .ref b3, .ref b4, .ref r0, .int (nI cn), w7])), (b1, .inl (kb1, 10, .inl fle))]) [0, 2] rfl
        have hDc := hD.sub (ws' := [(h0, .inr (1, [.ref b0, .ref b1, .ref b2, .ref b3, .ref b4, .ref r0, .int (nI cn), w7])), (b1, .inl (kb1, 10, .inl fle))]) [0, 2] (by decide) rfl
        have hKc := hK.sub (tys' := [(kb1, .int)]) [1] rfl
        refine va_calli (va_runV (As := [.int (nI n_30)]) (rest := []) ⟨hx, hb, hml, hown, hts⟩ (c_isLaid l dC dI H.size h0 (.ref b0) b1 (.ref b2) (.ref b3) (.ref b4) (.ref r0) cn (w7) kb1 fle (nI n_30) (by omega) hle) (cwV 1 hts (gV mw_1_209 mw_1_210 mw_1_211 mw_1_2 mw_1_212) rfl rfl rfl (by decide +kernel) ⟨Nat.le_of_ble_eq_true rfl, Nat.le_of_ble_eq_true rfl⟩) ⟨pcW_blind, va_recv hKc hPc (ci := 1) (q0 := 0) rfl rfl, pcW_at hPc hKc hDc hN⟩ rfl rfl hl.1 rfl (lv_room (Nat.le_of_ble_eq_true rfl)) dX1_add_106 ⟨Nat.le_of_ble_eq_true rfl, Nat.le_of_ble_eq_true rfl⟩) hS (fun q h1 h2 => absurd h2 (Nat.not_le.mpr h1)) (fun q h => hA q (Nat.le_trans hS.1 h)) (fun r_33 u t H1 locs ht hvm hw_33 hB hz1 hk1 hS => ?_)
        have hP := keepP hP hk1
        clear hz1 hk1 hB ht hvm hPc hDc hKc
        generalize H1 = H at hP hS ⊢
        rcases fx_bool hw_33 with ⟨rfl, b_34⟩ | ⟨rfl, b_34⟩
        · skip
          refine lv_if_ne (tgt := 115) hx hb dX1_add_109 (by decide) (fun _ => ?_) (fun h => absurd h (by decide))
          refine lv_iinc (v := (nI (k5 + 1))) (lv' := [(7, .int (nI (k5 + 1))), (6, .int ld), (5, .int (nI cn)), (0, .ref h0), (1, .int (nI nn)), (2, .int n1), (3, .int n2), (4, .int n3)]) hx hb dX1_add_115 hl (k := 0) rfl (nI_add k5 1) (by decide) rfl (fun ls hl => ?_)
          refine lv_goto (tgt := 61) hx hb dX1_add_118 (by decide) ?_
          exact ih_12 (k5 + 1) ld f_32 (by omega) (ab_step hax un_30 (by omega) (by omega) ef_32) (ld_yes hld (by rw [un_30, nI_clamp (by omega), ← lenN_k (f := fle) (c := cn) (by omega) (by omega)]; exact b_34)) (by omega) _ _ hP hD hS ls (lv_sub hl [0, 1, 2, 3, 4, 5, 6, 7] rfl)
        · skip
          refine lv_if_ne (tgt := 115) hx hb dX1_add_109 (by decide) (fun h => absurd h (by decide)) (fun _ => ?_)
          refine lv_iconst (v := 0) hx hb dX1_add_112 (by decide) ?_
          refine lv_istore (lv' := [(6, .int 0), (7, .int (nI k5)), (5, .int (nI cn)), (0, .ref h0), (1, .int (nI nn)), (2, .int n1), (3, .int n2), (4, .int n3)]) hx hb dX1_add_113 hl (by decide) rfl (fun ls hl => ?_)
          refine lv_iinc (v := (nI (k5 + 1))) (lv' := [(7, .int (nI (k5 + 1))), (6, .int 0), (5, .int (nI cn)), (0, .ref h0), (1, .int (nI nn)), (2, .int n1), (3, .int n2), (4, .int n3)]) hx hb dX1_add_115 hl (k := 1) rfl (nI_add k5 1) (by decide) rfl (fun ls hl => ?_)
          refine lv_goto (tgt := 61) hx hb dX1_add_118 (by decide) ?_
          exact ih_12 (k5 + 1) 0 f_32 (by omega) (ab_step hax un_30 (by omega) (by omega) ef_32) (ld_no hld (by rw [un_30, nI_clamp (by omega), ← lenN_k (f := fle) (c := cn) (by omega) (by omega)]; exact b_34)) (by omega) _ _ hP hD hS ls (lv_sub hl [0, 1, 2, 3, 4, 5, 6, 7] rfl)
  exact key_11 ((nn - 0) + 1) 0 1 f_10 (by omega) ef_10 ld_0 (Nat.lt_succ_self _) _ _ hP hD hS ls (lv_sub hl [0, 1, 2, 3, 4, 5, 6, 7] rfl)
