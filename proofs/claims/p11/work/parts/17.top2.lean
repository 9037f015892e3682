theorem mw_1_169 : Cond.fieldLink RX8 19 "AnswerLines" "pad" "LAnswerLines$Pad;" ∈ BG := mB (t1 (i := 169) (by decide +kernel)) (by decide +kernel)
theorem mw_2_65 : Cond.methodLink RX8 90 yX2_isFull ∈ BG := mB (t2 (i := 65) (by decide +kernel)) (by decide +kernel)
theorem mw_2_72 : Cond.code yX2_put cX2_put 2 (some .int) ∈ BG := mB (t2 (i := 72) rfl) (by decide +kernel)
theorem mw_2_69 : Cond.methodLink RX8 91 yX2_put ∈ BG := mB (t2 (i := 69) (by decide +kernel)) (by decide +kernel)
theorem mw_2_70 : Cond.instanceMethod yX2_put ∈ BG := mB (t2 (i := 70) (by decide +kernel)) (by decide +kernel)
theorem mw_2_71 : Cond.selects RX2 yX2_put yX2_put ∈ BG := mB (t2 (i := 71) (by decide +kernel)) (by decide +kernel)
theorem mw_2_81 : Cond.code yX2_empty cX2_empty 2 (some .int) ∈ BG := mB (t2 (i := 81) rfl) (by decide +kernel)
theorem mw_2_78 : Cond.methodLink RX8 94 yX2_empty ∈ BG := mB (t2 (i := 78) (by decide +kernel)) (by decide +kernel)
theorem mw_2_79 : Cond.instanceMethod yX2_empty ∈ BG := mB (t2 (i := 79) (by decide +kernel)) (by decide +kernel)
theorem mw_2_80 : Cond.selects RX2 yX2_empty yX2_empty ∈ BG := mB (t2 (i := 80) (by decide +kernel)) (by decide +kernel)
theorem mw_2_89 : Cond.code yX2_firstFault cX2_firstFault 2 (some .int) ∈ BG := mB (t2 (i := 89) rfl) (by decide +kernel)
theorem mw_2_86 : Cond.methodLink RX8 98 yX2_firstFault ∈ BG := mB (t2 (i := 86) (by decide +kernel)) (by decide +kernel)
theorem mw_2_87 : Cond.instanceMethod yX2_firstFault ∈ BG := mB (t2 (i := 87) (by decide +kernel)) (by decide +kernel)
theorem mw_2_88 : Cond.selects RX2 yX2_firstFault yX2_firstFault ∈ BG := mB (t2 (i := 88) (by decide +kernel)) (by decide +kernel)
theorem mw_2_97 : Cond.methodLink RX8 101 yX8_isName ∈ BG := mB (t2 (i := 97) (by decide +kernel)) (by decide +kernel)
theorem mw_1_170 : Cond.fieldLink RX8 26 "AnswerLines" "bodies" "LAnswerLines$Bodies;" ∈ BG := mB (t1 (i := 170) (by decide +kernel)) (by decide +kernel)
theorem mw_2_100 : Cond.methodLink RX8 104 yX0_isOwner ∈ BG := mB (t2 (i := 100) (by decide +kernel)) (by decide +kernel)
theorem mw_2_113 : Cond.code yX0_give cX0_give 7 none ∈ BG := mB (t2 (i := 113) rfl) (by decide +kernel)
theorem mw_2_110 : Cond.methodLink RX8 108 yX0_give ∈ BG := mB (t2 (i := 110) (by decide +kernel)) (by decide +kernel)
theorem mw_2_111 : Cond.instanceMethod yX0_give ∈ BG := mB (t2 (i := 111) (by decide +kernel)) (by decide +kernel)
theorem mw_2_112 : Cond.selects RX0 yX0_give yX0_give ∈ BG := mB (t2 (i := 112) (by decide +kernel)) (by decide +kernel)
theorem mw_2_135 : Cond.code yX0_takeAway cX0_takeAway 3 (some .int) ∈ BG := mB (t2 (i := 135) rfl) (by decide +kernel)
theorem mw_2_132 : Cond.methodLink RX8 112 yX0_takeAway ∈ BG := mB (t2 (i := 132) (by decide +kernel)) (by decide +kernel)
theorem mw_2_133 : Cond.instanceMethod yX0_takeAway ∈ BG := mB (t2 (i := 133) (by decide +kernel)) (by decide +kernel)
theorem mw_2_134 : Cond.selects RX0 yX0_takeAway yX0_takeAway ∈ BG := mB (t2 (i := 134) (by decide +kernel)) (by decide +kernel)
theorem mw_2_140 : Cond.methodLink RX8 115 yX0_ownersOf ∈ BG := mB (t2 (i := 140) (by decide +kernel)) (by decide +kernel)
theorem mw_2_141 : Cond.methodLink RX8 118 yX1_firstOf ∈ BG := mB (t2 (i := 141) (by decide +kernel)) (by decide +kernel)
theorem mw_2_156 : Cond.methodLink RX8 122 yX1_whereFirst ∈ BG := mB (t2 (i := 156) (by decide +kernel)) (by decide +kernel)
theorem mw_1_171 : Cond.fieldLink RX8 33 "AnswerLines" "runner" "LAnswerLines$Runner;" ∈ BG := mB (t1 (i := 171) (by decide +kernel)) (by decide +kernel)
theorem mw_2_164 : Cond.code yX5_start cX5_start 5 (some .int) ∈ BG := mB (t2 (i := 164) rfl) (by decide +kernel)
theorem mw_2_161 : Cond.methodLink RX8 125 yX5_start ∈ BG := mB (t2 (i := 161) (by decide +kernel)) (by decide +kernel)
theorem mw_2_162 : Cond.instanceMethod yX5_start ∈ BG := mB (t2 (i := 162) (by decide +kernel)) (by decide +kernel)
theorem mw_2_163 : Cond.selects RX5 yX5_start yX5_start ∈ BG := mB (t2 (i := 163) (by decide +kernel)) (by decide +kernel)
theorem mw_2_192 : Cond.code yX5_digit cX5_digit 2 (some .int) ∈ BG := mB (t2 (i := 192) rfl) (by decide +kernel)
theorem mw_2_189 : Cond.methodLink RX8 132 yX5_digit ∈ BG := mB (t2 (i := 189) (by decide +kernel)) (by decide +kernel)
theorem mw_2_190 : Cond.instanceMethod yX5_digit ∈ BG := mB (t2 (i := 190) (by decide +kernel)) (by decide +kernel)
theorem mw_2_191 : Cond.selects RX5 yX5_digit yX5_digit ∈ BG := mB (t2 (i := 191) (by decide +kernel)) (by decide +kernel)
theorem mw_2_188 : Cond.code yX5_howManySaid cX5_howManySaid 1 (some .int) ∈ BG := mB (t2 (i := 188) rfl) (by decide +kernel)
theorem mw_2_185 : Cond.methodLink RX8 129 yX5_howManySaid ∈ BG := mB (t2 (i := 185) (by decide +kernel)) (by decide +kernel)
theorem mw_2_186 : Cond.instanceMethod yX5_howManySaid ∈ BG := mB (t2 (i := 186) (by decide +kernel)) (by decide +kernel)
theorem mw_2_187 : Cond.selects RX5 yX5_howManySaid yX5_howManySaid ∈ BG := mB (t2 (i := 187) (by decide +kernel)) (by decide +kernel)
theorem mw_2_197 : Cond.methodLink RX8 135 yX6_nearestOf ∈ BG := mB (t2 (i := 197) (by decide +kernel)) (by decide +kernel)
theorem mw_2_208 : Cond.code yX6_doubtful cX6_doubtful 5 (some .int) ∈ BG := mB (t2 (i := 208) rfl) (by decide +kernel)
theorem mw_2_206 : Cond.methodLink RX8 141 yX6_doubtful ∈ BG := mB (t2 (i := 206) (by decide +kernel)) (by decide +kernel)
theorem mw_2_207 : Cond.static yX6_doubtful ∈ BG := mB (t2 (i := 207) (by decide +kernel)) (by decide +kernel)
theorem mw_2_229 : Cond.code yX6_settlers cX6_settlers 5 (some .int) ∈ BG := mB (t2 (i := 229) rfl) (by decide +kernel)
theorem mw_2_227 : Cond.methodLink RX8 145 yX6_settlers ∈ BG := mB (t2 (i := 227) (by decide +kernel)) (by decide +kernel)
theorem mw_2_228 : Cond.static yX6_settlers ∈ BG := mB (t2 (i := 228) (by decide +kernel)) (by decide +kernel)
theorem mw_2_232 : Cond.code yX8_bitsOrCount cX8_bitsOrCount 2 (some .int) ∈ BG := mB (t2 (i := 232) rfl) (by decide +kernel)
theorem mw_2_230 : Cond.methodLink RX8 148 yX8_bitsOrCount ∈ BG := mB (t2 (i := 230) (by decide +kernel)) (by decide +kernel)
theorem mw_2_231 : Cond.static yX8_bitsOrCount ∈ BG := mB (t2 (i := 231) (by decide +kernel)) (by decide +kernel)
theorem mw_3_0 : Cond.code yX6_shifted cX6_shifted 7 (some .int) ∈ BG := mB (t3 (i := 0) rfl) (by decide +kernel)
theorem mw_2_238 : Cond.methodLink RX8 151 yX6_shifted ∈ BG := mB (t2 (i := 238) (by decide +kernel)) (by decide +kernel)
theorem mw_2_239 : Cond.static yX6_shifted ∈ BG := mB (t2 (i := 239) (by decide +kernel)) (by decide +kernel)
theorem mw_3_78 : Cond.code yX6_unlikeAnswers cX6_unlikeAnswers 8 (some .int) ∈ BG := mB (t3 (i := 78) rfl) (by decide +kernel)
theorem mw_3_76 : Cond.methodLink RX8 173 yX6_unlikeAnswers ∈ BG := mB (t3 (i := 76) (by decide +kernel)) (by decide +kernel)
theorem mw_3_77 : Cond.static yX6_unlikeAnswers ∈ BG := mB (t3 (i := 77) (by decide +kernel)) (by decide +kernel)
theorem dX8_say_0 : decode cX8_say 0 = .ok (.iload_n 1, 1) := by decide +kernel
theorem dX8_say_1 : decode cX8_say 1 = .ok (.bipush 33, 2) := by decide +kernel
theorem dX8_say_3 : decode cX8_say 3 = .ok (.if_icmp .lt 9, 3) := by decide +kernel
theorem dX8_say_12 : decode cX8_say 12 = .ok (.bipush (-2), 2) := by decide +kernel
theorem dX8_say_14 : decode cX8_say 14 = .ok (.ireturn, 1) := by decide +kernel
theorem dX8_say_6 : decode cX8_say 6 = .ok (.iload_n 1, 1) := by decide +kernel
theorem dX8_say_7 : decode cX8_say 7 = .ok (.bipush 126, 2) := by decide +kernel
theorem dX8_say_9 : decode cX8_say 9 = .ok (.if_icmp .le 6, 3) := by decide +kernel
theorem dX8_say_15 : decode cX8_say 15 = .ok (.aload_n 0, 1) := by decide +kernel
theorem dX8_say_16 : decode cX8_say 16 = .ok (.getfield 19, 3) := by decide +kernel
theorem dX8_say_19 : decode cX8_say 19 = .ok (.invokevirtual 90, 3) := by decide +kernel
theorem dX8_say_22 : decode cX8_say 22 = .ok (.ifCond .eq 6, 3) := by decide +kernel
theorem dX8_say_25 : decode cX8_say 25 = .ok (.bipush (-4), 2) := by decide +kernel
theorem dX8_say_27 : decode cX8_say 27 = .ok (.ireturn, 1) := by decide +kernel
theorem dX8_say_28 : decode cX8_say 28 = .ok (.aload_n 0, 1) := by decide +kernel
theorem dX8_say_29 : decode cX8_say 29 = .ok (.getfield 19, 3) := by decide +kernel
theorem dX8_say_32 : decode cX8_say 32 = .ok (.iload_n 1, 1) := by decide +kernel
theorem dX8_say_33 : decode cX8_say 33 = .ok (.invokevirtual 91, 3) := by decide +kernel
theorem dX8_say_36 : decode cX8_say 36 = .ok (.ireturn, 1) := by decide +kernel
theorem dX8_wipe_0 : decode cX8_wipe 0 = .ok (.aload_n 0, 1) := by decide +kernel
theorem dX8_wipe_1 : decode cX8_wipe 1 = .ok (.getfield 19, 3) := by decide +kernel
theorem dX8_wipe_4 : decode cX8_wipe 4 = .ok (.invokevirtual 94, 3) := by decide +kernel
theorem dX8_wipe_7 : decode cX8_wipe 7 = .ok (.ireturn, 1) := by decide +kernel
theorem dX8_fault_0 : decode cX8_fault 0 = .ok (.aload_n 0, 1) := by decide +kernel
theorem dX8_fault_1 : decode cX8_fault 1 = .ok (.getfield 19, 3) := by decide +kernel
theorem dX8_fault_4 : decode cX8_fault 4 = .ok (.invokevirtual 98, 3) := by decide +kernel
theorem dX8_fault_7 : decode cX8_fault 7 = .ok (.ireturn, 1) := by decide +kernel
theorem dX8_has_0 : decode cX8_has 0 = .ok (.aload_n 0, 1) := by decide +kernel
theorem dX8_has_1 : decode cX8_has 1 = .ok (.getfield 10, 3) := by decide +kernel
theorem dX8_has_4 : decode cX8_has 4 = .ok (.iload_n 1, 1) := by decide +kernel
theorem dX8_has_5 : decode cX8_has 5 = .ok (.invokevirtual 51, 3) := by decide +kernel
theorem dX8_has_8 : decode cX8_has 8 = .ok (.ifCond .eq 10, 3) := by decide +kernel
theorem dX8_has_11 : decode cX8_has 11 = .ok (.iload_n 2, 1) := by decide +kernel
theorem dX8_has_12 : decode cX8_has 12 = .ok (.invokestatic 101, 3) := by decide +kernel
theorem dX8_has_15 : decode cX8_has 15 = .ok (.ifCond .ne 5, 3) := by decide +kernel
theorem dX8_has_20 : decode cX8_has 20 = .ok (.aload_n 0, 1) := by decide +kernel
theorem dX8_has_21 : decode cX8_has 21 = .ok (.getfield 19, 3) := by decide +kernel
theorem dX8_has_24 : decode cX8_has 24 = .ok (.invokevirtual 98, 3) := by decide +kernel
theorem dX8_has_27 : decode cX8_has 27 = .ok (.bipush (-6), 2) := by decide +kernel
theorem dX8_has_29 : decode cX8_has 29 = .ok (.if_icmp .eq 6, 3) := by decide +kernel
theorem dX8_has_35 : decode cX8_has 35 = .ok (.aload_n 0, 1) := by decide +kernel
theorem dX8_has_36 : decode cX8_has 36 = .ok (.getfield 26, 3) := by decide +kernel
theorem dX8_has_39 : decode cX8_has 39 = .ok (.iload_n 1, 1) := by decide +kernel
theorem dX8_has_40 : decode cX8_has 40 = .ok (.iload_n 2, 1) := by decide +kernel
theorem dX8_has_41 : decode cX8_has 41 = .ok (.invokevirtual 104, 3) := by decide +kernel
theorem dX8_has_44 : decode cX8_has 44 = .ok (.ifCond .eq 7, 3) := by decide +kernel
theorem dX8_has_47 : decode cX8_has 47 = .ok (.iconst 0, 1) := by decide +kernel
theorem dX8_has_48 : decode cX8_has 48 = .ok (.goto 4, 3) := by decide +kernel
theorem dX8_has_52 : decode cX8_has 52 = .ok (.istore_n 3, 1) := by decide +kernel
theorem dX8_has_53 : decode cX8_has 53 = .ok (.aload_n 0, 1) := by decide +kernel
theorem dX8_has_54 : decode cX8_has 54 = .ok (.getfield 26, 3) := by decide +kernel
theorem dX8_has_57 : decode cX8_has 57 = .ok (.iload_n 1, 1) := by decide +kernel
theorem dX8_has_58 : decode cX8_has 58 = .ok (.iload_n 2, 1) := by decide +kernel
theorem dX8_has_59 : decode cX8_has 59 = .ok (.aload_n 0, 1) := by decide +kernel
theorem dX8_has_60 : decode cX8_has 60 = .ok (.getfield 19, 3) := by decide +kernel
theorem dX8_has_63 : decode cX8_has 63 = .ok (.invokevirtual 108, 3) := by decide +kernel
theorem dX8_has_66 : decode cX8_has 66 = .ok (.aload_n 0, 1) := by decide +kernel
theorem dX8_has_67 : decode cX8_has 67 = .ok (.getfield 19, 3) := by decide +kernel
theorem dX8_has_70 : decode cX8_has 70 = .ok (.invokevirtual 94, 3) := by decide +kernel
theorem dX8_has_73 : decode cX8_has 73 = .ok (.pop, 1) := by decide +kernel
theorem dX8_has_74 : decode cX8_has 74 = .ok (.iload_n 3, 1) := by decide +kernel
theorem dX8_has_75 : decode cX8_has 75 = .ok (.ireturn, 1) := by decide +kernel
theorem dX8_has_51 : decode cX8_has 51 = .ok (.iconst 1, 1) := by decide +kernel
theorem dX8_has_32 : decode cX8_has 32 = .ok (.bipush (-5), 2) := by decide +kernel
theorem dX8_has_34 : decode cX8_has 34 = .ok (.ireturn, 1) := by decide +kernel
theorem dX8_has_18 : decode cX8_has 18 = .ok (.iconst (-1), 1) := by decide +kernel
theorem dX8_has_19 : decode cX8_has 19 = .ok (.ireturn, 1) := by decide +kernel
theorem dX8_drop_0 : decode cX8_drop 0 = .ok (.aload_n 0, 1) := by decide +kernel
theorem dX8_drop_1 : decode cX8_drop 1 = .ok (.getfield 10, 3) := by decide +kernel
theorem dX8_drop_4 : decode cX8_drop 4 = .ok (.iload_n 1, 1) := by decide +kernel
theorem dX8_drop_5 : decode cX8_drop 5 = .ok (.invokevirtual 51, 3) := by decide +kernel
theorem dX8_drop_8 : decode cX8_drop 8 = .ok (.ifCond .eq 10, 3) := by decide +kernel
theorem dX8_drop_11 : decode cX8_drop 11 = .ok (.iload_n 2, 1) := by decide +kernel
theorem dX8_drop_12 : decode cX8_drop 12 = .ok (.invokestatic 101, 3) := by decide +kernel
theorem dX8_drop_15 : decode cX8_drop 15 = .ok (.ifCond .ne 5, 3) := by decide +kernel
theorem dX8_drop_20 : decode cX8_drop 20 = .ok (.aload_n 0, 1) := by decide +kernel
theorem dX8_drop_21 : decode cX8_drop 21 = .ok (.getfield 26, 3) := by decide +kernel
theorem dX8_drop_24 : decode cX8_drop 24 = .ok (.iload_n 1, 1) := by decide +kernel
theorem dX8_drop_25 : decode cX8_drop 25 = .ok (.iload_n 2, 1) := by decide +kernel
theorem dX8_drop_26 : decode cX8_drop 26 = .ok (.invokevirtual 104, 3) := by decide +kernel
theorem dX8_drop_29 : decode cX8_drop 29 = .ok (.ifCond .ne 6, 3) := by decide +kernel
theorem dX8_drop_35 : decode cX8_drop 35 = .ok (.aload_n 0, 1) := by decide +kernel
theorem dX8_drop_36 : decode cX8_drop 36 = .ok (.getfield 26, 3) := by decide +kernel
theorem dX8_drop_39 : decode cX8_drop 39 = .ok (.iload_n 1, 1) := by decide +kernel
theorem dX8_drop_40 : decode cX8_drop 40 = .ok (.iload_n 2, 1) := by decide +kernel
theorem dX8_drop_41 : decode cX8_drop 41 = .ok (.invokevirtual 112, 3) := by decide +kernel
theorem dX8_drop_44 : decode cX8_drop 44 = .ok (.ireturn, 1) := by decide +kernel
theorem dX8_drop_32 : decode cX8_drop 32 = .ok (.bipush (-5), 2) := by decide +kernel
theorem dX8_drop_34 : decode cX8_drop 34 = .ok (.ireturn, 1) := by decide +kernel
theorem dX8_drop_18 : decode cX8_drop 18 = .ok (.iconst (-1), 1) := by decide +kernel
theorem dX8_drop_19 : decode cX8_drop 19 = .ok (.ireturn, 1) := by decide +kernel
theorem dX8_answer_0 : decode cX8_answer 0 = .ok (.aload_n 0, 1) := by decide +kernel
theorem dX8_answer_1 : decode cX8_answer 1 = .ok (.getfield 10, 3) := by decide +kernel
theorem dX8_answer_4 : decode cX8_answer 4 = .ok (.iload_n 1, 1) := by decide +kernel
theorem dX8_answer_5 : decode cX8_answer 5 = .ok (.invokevirtual 51, 3) := by decide +kernel
theorem dX8_answer_8 : decode cX8_answer 8 = .ok (.ifCond .eq 10, 3) := by decide +kernel
theorem dX8_answer_11 : decode cX8_answer 11 = .ok (.iload_n 2, 1) := by decide +kernel
theorem dX8_answer_12 : decode cX8_answer 12 = .ok (.invokestatic 101, 3) := by decide +kernel
theorem dX8_answer_15 : decode cX8_answer 15 = .ok (.ifCond .ne 5, 3) := by decide +kernel
theorem dX8_answer_20 : decode cX8_answer 20 = .ok (.aload_n 0, 1) := by decide +kernel
theorem dX8_answer_21 : decode cX8_answer 21 = .ok (.getfield 10, 3) := by decide +kernel
theorem dX8_answer_24 : decode cX8_answer 24 = .ok (.iload_n 1, 1) := by decide +kernel
theorem dX8_answer_25 : decode cX8_answer 25 = .ok (.invokevirtual 77, 3) := by decide +kernel
theorem dX8_answer_28 : decode cX8_answer 28 = .ok (.ifCond .ne 6, 3) := by decide +kernel
theorem dX8_answer_34 : decode cX8_answer 34 = .ok (.aload_n 0, 1) := by decide +kernel
theorem dX8_answer_35 : decode cX8_answer 35 = .ok (.getfield 10, 3) := by decide +kernel
theorem dX8_answer_38 : decode cX8_answer 38 = .ok (.iload_n 1, 1) := by decide +kernel
theorem dX8_answer_39 : decode cX8_answer 39 = .ok (.aload_n 0, 1) := by decide +kernel
theorem dX8_answer_40 : decode cX8_answer 40 = .ok (.getfield 26, 3) := by decide +kernel
theorem dX8_answer_43 : decode cX8_answer 43 = .ok (.iload_n 2, 1) := by decide +kernel
theorem dX8_answer_44 : decode cX8_answer 44 = .ok (.invokevirtual 115, 3) := by decide +kernel
theorem dX8_answer_47 : decode cX8_answer 47 = .ok (.iconst 0, 1) := by decide +kernel
theorem dX8_answer_48 : decode cX8_answer 48 = .ok (.invokevirtual 118, 3) := by decide +kernel
theorem dX8_answer_51 : decode cX8_answer 51 = .ok (.ireturn, 1) := by decide +kernel
theorem dX8_answer_31 : decode cX8_answer 31 = .ok (.bipush (-3), 2) := by decide +kernel
theorem dX8_answer_33 : decode cX8_answer 33 = .ok (.ireturn, 1) := by decide +kernel
theorem dX8_answer_18 : decode cX8_answer 18 = .ok (.iconst (-1), 1) := by decide +kernel
theorem dX8_answer_19 : decode cX8_answer 19 = .ok (.ireturn, 1) := by decide +kernel
theorem dX8_next_0 : decode cX8_next 0 = .ok (.aload_n 0, 1) := by decide +kernel
theorem dX8_next_1 : decode cX8_next 1 = .ok (.getfield 10, 3) := by decide +kernel
theorem dX8_next_4 : decode cX8_next 4 = .ok (.iload_n 1, 1) := by decide +kernel
theorem dX8_next_5 : decode cX8_next 5 = .ok (.invokevirtual 51, 3) := by decide +kernel
theorem dX8_next_8 : decode cX8_next 8 = .ok (.ifCond .eq 21, 3) := by decide +kernel
theorem dX8_next_11 : decode cX8_next 11 = .ok (.iload_n 2, 1) := by decide +kernel
theorem dX8_next_12 : decode cX8_next 12 = .ok (.invokestatic 101, 3) := by decide +kernel
theorem dX8_next_15 : decode cX8_next 15 = .ok (.ifCond .eq 14, 3) := by decide +kernel
theorem dX8_next_18 : decode cX8_next 18 = .ok (.aload_n 0, 1) := by decide +kernel
theorem dX8_next_19 : decode cX8_next 19 = .ok (.getfield 10, 3) := by decide +kernel
theorem dX8_next_22 : decode cX8_next 22 = .ok (.iload_n 3, 1) := by decide +kernel
theorem dX8_next_23 : decode cX8_next 23 = .ok (.invokevirtual 51, 3) := by decide +kernel
theorem dX8_next_26 : decode cX8_next 26 = .ok (.ifCond .ne 5, 3) := by decide +kernel
theorem dX8_next_31 : decode cX8_next 31 = .ok (.aload_n 0, 1) := by decide +kernel
theorem dX8_next_32 : decode cX8_next 32 = .ok (.getfield 10, 3) := by decide +kernel
theorem dX8_next_35 : decode cX8_next 35 = .ok (.iload_n 1, 1) := by decide +kernel
theorem dX8_next_36 : decode cX8_next 36 = .ok (.invokevirtual 77, 3) := by decide +kernel
theorem dX8_next_39 : decode cX8_next 39 = .ok (.ifCond .ne 6, 3) := by decide +kernel
theorem dX8_next_45 : decode cX8_next 45 = .ok (.aload_n 0, 1) := by decide +kernel
theorem dX8_next_46 : decode cX8_next 46 = .ok (.getfield 10, 3) := by decide +kernel
theorem dX8_next_49 : decode cX8_next 49 = .ok (.iload_n 1, 1) := by decide +kernel
theorem dX8_next_50 : decode cX8_next 50 = .ok (.iconst 1, 1) := by decide +kernel
theorem dX8_next_51 : decode cX8_next 51 = .ok (.iload_n 3, 1) := by decide +kernel
theorem dX8_next_52 : decode cX8_next 52 = .ok (.ishl, 1) := by decide +kernel
theorem dX8_next_53 : decode cX8_next 53 = .ok (.iconst 0, 1) := by decide +kernel
theorem dX8_next_54 : decode cX8_next 54 = .ok (.invokevirtual 122, 3) := by decide +kernel
theorem dX8_next_57 : decode cX8_next 57 = .ok (.istore 4, 2) := by decide +kernel
theorem dX8_next_59 : decode cX8_next 59 = .ok (.iload 4, 2) := by decide +kernel
theorem dX8_next_61 : decode cX8_next 61 = .ok (.bipush (-6), 2) := by decide +kernel
theorem dX8_next_63 : decode cX8_next 63 = .ok (.if_icmp .ne 5, 3) := by decide +kernel
theorem dX8_next_66 : decode cX8_next 66 = .ok (.iconst (-1), 1) := by decide +kernel
theorem dX8_next_67 : decode cX8_next 67 = .ok (.ireturn, 1) := by decide +kernel
theorem dX8_next_68 : decode cX8_next 68 = .ok (.aload_n 0, 1) := by decide +kernel
theorem dX8_next_69 : decode cX8_next 69 = .ok (.getfield 10, 3) := by decide +kernel
theorem dX8_next_72 : decode cX8_next 72 = .ok (.iload_n 1, 1) := by decide +kernel
theorem dX8_next_73 : decode cX8_next 73 = .ok (.aload_n 0, 1) := by decide +kernel
theorem dX8_next_74 : decode cX8_next 74 = .ok (.getfield 26, 3) := by decide +kernel
theorem dX8_next_77 : decode cX8_next 77 = .ok (.iload_n 2, 1) := by decide +kernel
theorem dX8_next_78 : decode cX8_next 78 = .ok (.invokevirtual 115, 3) := by decide +kernel
theorem dX8_next_81 : decode cX8_next 81 = .ok (.iload 4, 2) := by decide +kernel
theorem dX8_next_83 : decode cX8_next 83 = .ok (.iconst 1, 1) := by decide +kernel
theorem dX8_next_84 : decode cX8_next 84 = .ok (.iadd, 1) := by decide +kernel
theorem dX8_next_85 : decode cX8_next 85 = .ok (.invokevirtual 118, 3) := by decide +kernel
theorem dX8_next_88 : decode cX8_next 88 = .ok (.ireturn, 1) := by decide +kernel
theorem dX8_next_42 : decode cX8_next 42 = .ok (.bipush (-3), 2) := by decide +kernel
theorem dX8_next_44 : decode cX8_next 44 = .ok (.ireturn, 1) := by decide +kernel
theorem dX8_next_29 : decode cX8_next 29 = .ok (.iconst (-1), 1) := by decide +kernel
theorem dX8_next_30 : decode cX8_next 30 = .ok (.ireturn, 1) := by decide +kernel
theorem dX8_run_0 : decode cX8_run 0 = .ok (.aload_n 0, 1) := by decide +kernel
theorem dX8_run_1 : decode cX8_run 1 = .ok (.getfield 10, 3) := by decide +kernel
theorem dX8_run_4 : decode cX8_run 4 = .ok (.iload_n 1, 1) := by decide +kernel
theorem dX8_run_5 : decode cX8_run 5 = .ok (.invokevirtual 51, 3) := by decide +kernel
theorem dX8_run_8 : decode cX8_run 8 = .ok (.ifCond .eq 10, 3) := by decide +kernel
theorem dX8_run_11 : decode cX8_run 11 = .ok (.iload_n 2, 1) := by decide +kernel
theorem dX8_run_12 : decode cX8_run 12 = .ok (.invokestatic 101, 3) := by decide +kernel
theorem dX8_run_15 : decode cX8_run 15 = .ok (.ifCond .ne 5, 3) := by decide +kernel
theorem dX8_run_20 : decode cX8_run 20 = .ok (.aload_n 0, 1) := by decide +kernel
theorem dX8_run_21 : decode cX8_run 21 = .ok (.getfield 10, 3) := by decide +kernel
theorem dX8_run_24 : decode cX8_run 24 = .ok (.iload_n 1, 1) := by decide +kernel
theorem dX8_run_25 : decode cX8_run 25 = .ok (.invokevirtual 77, 3) := by decide +kernel
theorem dX8_run_28 : decode cX8_run 28 = .ok (.ifCond .ne 6, 3) := by decide +kernel
theorem dX8_run_34 : decode cX8_run 34 = .ok (.aload_n 0, 1) := by decide +kernel
theorem dX8_run_35 : decode cX8_run 35 = .ok (.getfield 33, 3) := by decide +kernel
theorem dX8_run_38 : decode cX8_run 38 = .ok (.aload_n 0, 1) := by decide +kernel
theorem dX8_run_39 : decode cX8_run 39 = .ok (.getfield 10, 3) := by decide +kernel
theorem dX8_run_42 : decode cX8_run 42 = .ok (.aload_n 0, 1) := by decide +kernel
theorem dX8_run_43 : decode cX8_run 43 = .ok (.getfield 26, 3) := by decide +kernel
theorem dX8_run_46 : decode cX8_run 46 = .ok (.iload_n 1, 1) := by decide +kernel
theorem dX8_run_47 : decode cX8_run 47 = .ok (.iload_n 2, 1) := by decide +kernel
theorem dX8_run_48 : decode cX8_run 48 = .ok (.invokevirtual 125, 3) := by decide +kernel
theorem dX8_run_51 : decode cX8_run 51 = .ok (.istore 4, 2) := by decide +kernel
theorem dX8_run_53 : decode cX8_run 53 = .ok (.iload_n 3, 1) := by decide +kernel
theorem dX8_run_54 : decode cX8_run 54 = .ok (.iconst (-1), 1) := by decide +kernel
theorem dX8_run_55 : decode cX8_run 55 = .ok (.if_icmp .ne 6, 3) := by decide +kernel
theorem dX8_run_61 : decode cX8_run 61 = .ok (.iload_n 3, 1) := by decide +kernel
theorem dX8_run_62 : decode cX8_run 62 = .ok (.bipush (-2), 2) := by decide +kernel
theorem dX8_run_64 : decode cX8_run 64 = .ok (.if_icmp .ne 11, 3) := by decide +kernel
theorem dX8_run_75 : decode cX8_run 75 = .ok (.aload_n 0, 1) := by decide +kernel
theorem dX8_run_76 : decode cX8_run 76 = .ok (.getfield 33, 3) := by decide +kernel
theorem dX8_run_79 : decode cX8_run 79 = .ok (.iload_n 3, 1) := by decide +kernel
theorem dX8_run_80 : decode cX8_run 80 = .ok (.invokevirtual 132, 3) := by decide +kernel
theorem dX8_run_83 : decode cX8_run 83 = .ok (.ireturn, 1) := by decide +kernel
theorem dX8_run_67 : decode cX8_run 67 = .ok (.aload_n 0, 1) := by decide +kernel
theorem dX8_run_68 : decode cX8_run 68 = .ok (.getfield 33, 3) := by decide +kernel
theorem dX8_run_71 : decode cX8_run 71 = .ok (.invokevirtual 129, 3) := by decide +kernel
theorem dX8_run_74 : decode cX8_run 74 = .ok (.ireturn, 1) := by decide +kernel
theorem dX8_run_58 : decode cX8_run 58 = .ok (.iload 4, 2) := by decide +kernel
theorem dX8_run_60 : decode cX8_run 60 = .ok (.ireturn, 1) := by decide +kernel
theorem dX8_run_31 : decode cX8_run 31 = .ok (.bipush (-3), 2) := by decide +kernel
theorem dX8_run_33 : decode cX8_run 33 = .ok (.ireturn, 1) := by decide +kernel
theorem dX8_run_18 : decode cX8_run 18 = .ok (.iconst (-1), 1) := by decide +kernel
theorem dX8_run_19 : decode cX8_run 19 = .ok (.ireturn, 1) := by decide +kernel
theorem dX8_nearest_0 : decode cX8_nearest 0 = .ok (.aload_n 0, 1) := by decide +kernel
theorem dX8_nearest_1 : decode cX8_nearest 1 = .ok (.getfield 10, 3) := by decide +kernel
theorem dX8_nearest_4 : decode cX8_nearest 4 = .ok (.iload_n 1, 1) := by decide +kernel
theorem dX8_nearest_5 : decode cX8_nearest 5 = .ok (.invokevirtual 51, 3) := by decide +kernel
theorem dX8_nearest_8 : decode cX8_nearest 8 = .ok (.ifCond .eq 10, 3) := by decide +kernel
theorem dX8_nearest_11 : decode cX8_nearest 11 = .ok (.iload_n 2, 1) := by decide +kernel
theorem dX8_nearest_12 : decode cX8_nearest 12 = .ok (.invokestatic 101, 3) := by decide +kernel
theorem dX8_nearest_15 : decode cX8_nearest 15 = .ok (.ifCond .ne 5, 3) := by decide +kernel
theorem dX8_nearest_20 : decode cX8_nearest 20 = .ok (.aload_n 0, 1) := by decide +kernel
theorem dX8_nearest_21 : decode cX8_nearest 21 = .ok (.getfield 10, 3) := by decide +kernel
theorem dX8_nearest_24 : decode cX8_nearest 24 = .ok (.iload_n 1, 1) := by decide +kernel
theorem dX8_nearest_25 : decode cX8_nearest 25 = .ok (.aload_n 0, 1) := by decide +kernel
theorem dX8_nearest_26 : decode cX8_nearest 26 = .ok (.getfield 26, 3) := by decide +kernel
theorem dX8_nearest_29 : decode cX8_nearest 29 = .ok (.iload_n 2, 1) := by decide +kernel
theorem dX8_nearest_30 : decode cX8_nearest 30 = .ok (.invokevirtual 115, 3) := by decide +kernel
theorem dX8_nearest_33 : decode cX8_nearest 33 = .ok (.invokestatic 135, 3) := by decide +kernel
theorem dX8_nearest_36 : decode cX8_nearest 36 = .ok (.ireturn, 1) := by decide +kernel
theorem dX8_nearest_18 : decode cX8_nearest 18 = .ok (.iconst (-1), 1) := by decide +kernel
theorem dX8_nearest_19 : decode cX8_nearest 19 = .ok (.ireturn, 1) := by decide +kernel
theorem dX8_doubt_0 : decode cX8_doubt 0 = .ok (.iload_n 1, 1) := by decide +kernel
theorem dX8_doubt_1 : decode cX8_doubt 1 = .ok (.invokestatic 101, 3) := by decide +kernel
theorem dX8_doubt_4 : decode cX8_doubt 4 = .ok (.ifCond .ne 5, 3) := by decide +kernel
theorem dX8_doubt_9 : decode cX8_doubt 9 = .ok (.aload_n 0, 1) := by decide +kernel
theorem dX8_doubt_10 : decode cX8_doubt 10 = .ok (.getfield 10, 3) := by decide +kernel
theorem dX8_doubt_13 : decode cX8_doubt 13 = .ok (.aload_n 0, 1) := by decide +kernel
theorem dX8_doubt_14 : decode cX8_doubt 14 = .ok (.getfield 26, 3) := by decide +kernel
theorem dX8_doubt_17 : decode cX8_doubt 17 = .ok (.iload_n 1, 1) := by decide +kernel
theorem dX8_doubt_18 : decode cX8_doubt 18 = .ok (.invokevirtual 115, 3) := by decide +kernel
theorem dX8_doubt_21 : decode cX8_doubt 21 = .ok (.invokestatic 141, 3) := by decide +kernel
theorem dX8_doubt_24 : decode cX8_doubt 24 = .ok (.ireturn, 1) := by decide +kernel
theorem dX8_doubt_7 : decode cX8_doubt 7 = .ok (.iconst (-1), 1) := by decide +kernel
theorem dX8_doubt_8 : decode cX8_doubt 8 = .ok (.ireturn, 1) := by decide +kernel
theorem dX8_settle_0 : decode cX8_settle 0 = .ok (.iload_n 1, 1) := by decide +kernel
theorem dX8_settle_1 : decode cX8_settle 1 = .ok (.invokestatic 101, 3) := by decide +kernel
theorem dX8_settle_4 : decode cX8_settle 4 = .ok (.ifCond .ne 5, 3) := by decide +kernel
theorem dX8_settle_9 : decode cX8_settle 9 = .ok (.iload_n 2, 1) := by decide +kernel
theorem dX8_settle_10 : decode cX8_settle 10 = .ok (.ifCond .eq 11, 3) := by decide +kernel
theorem dX8_settle_21 : decode cX8_settle 21 = .ok (.aload_n 0, 1) := by decide +kernel
theorem dX8_settle_22 : decode cX8_settle 22 = .ok (.getfield 10, 3) := by decide +kernel
theorem dX8_settle_25 : decode cX8_settle 25 = .ok (.aload_n 0, 1) := by decide +kernel
theorem dX8_settle_26 : decode cX8_settle 26 = .ok (.getfield 26, 3) := by decide +kernel
theorem dX8_settle_29 : decode cX8_settle 29 = .ok (.iload_n 1, 1) := by decide +kernel
theorem dX8_settle_30 : decode cX8_settle 30 = .ok (.invokevirtual 115, 3) := by decide +kernel
theorem dX8_settle_33 : decode cX8_settle 33 = .ok (.invokestatic 145, 3) := by decide +kernel
theorem dX8_settle_36 : decode cX8_settle 36 = .ok (.iload_n 2, 1) := by decide +kernel
theorem dX8_settle_37 : decode cX8_settle 37 = .ok (.invokestatic 148, 3) := by decide +kernel
theorem dX8_settle_40 : decode cX8_settle 40 = .ok (.ireturn, 1) := by decide +kernel
theorem dX8_settle_13 : decode cX8_settle 13 = .ok (.iload_n 2, 1) := by decide +kernel
theorem dX8_settle_14 : decode cX8_settle 14 = .ok (.iconst 1, 1) := by decide +kernel
theorem dX8_settle_15 : decode cX8_settle 15 = .ok (.if_icmp .eq 6, 3) := by decide +kernel
theorem dX8_settle_18 : decode cX8_settle 18 = .ok (.bipush (-2), 2) := by decide +kernel
theorem dX8_settle_20 : decode cX8_settle 20 = .ok (.ireturn, 1) := by decide +kernel
theorem dX8_settle_7 : decode cX8_settle 7 = .ok (.iconst (-1), 1) := by decide +kernel
theorem dX8_settle_8 : decode cX8_settle 8 = .ok (.ireturn, 1) := by decide +kernel
theorem dX8_shift_0 : decode cX8_shift 0 = .ok (.aload_n 0, 1) := by decide +kernel
theorem dX8_shift_1 : decode cX8_shift 1 = .ok (.getfield 10, 3) := by decide +kernel
theorem dX8_shift_4 : decode cX8_shift 4 = .ok (.iload_n 1, 1) := by decide +kernel
theorem dX8_shift_5 : decode cX8_shift 5 = .ok (.invokevirtual 51, 3) := by decide +kernel
theorem dX8_shift_8 : decode cX8_shift 8 = .ok (.ifCond .eq 10, 3) := by decide +kernel
theorem dX8_shift_11 : decode cX8_shift 11 = .ok (.iload_n 2, 1) := by decide +kernel
theorem dX8_shift_12 : decode cX8_shift 12 = .ok (.invokestatic 101, 3) := by decide +kernel
theorem dX8_shift_15 : decode cX8_shift 15 = .ok (.ifCond .ne 5, 3) := by decide +kernel
theorem dX8_shift_20 : decode cX8_shift 20 = .ok (.aload_n 0, 1) := by decide +kernel
theorem dX8_shift_21 : decode cX8_shift 21 = .ok (.getfield 26, 3) := by decide +kernel
theorem dX8_shift_24 : decode cX8_shift 24 = .ok (.iload_n 1, 1) := by decide +kernel
theorem dX8_shift_25 : decode cX8_shift 25 = .ok (.iload_n 2, 1) := by decide +kernel
theorem dX8_shift_26 : decode cX8_shift 26 = .ok (.invokevirtual 104, 3) := by decide +kernel
theorem dX8_shift_29 : decode cX8_shift 29 = .ok (.ifCond .eq 6, 3) := by decide +kernel
theorem dX8_shift_32 : decode cX8_shift 32 = .ok (.bipush (-5), 2) := by decide +kernel
theorem dX8_shift_34 : decode cX8_shift 34 = .ok (.ireturn, 1) := by decide +kernel
theorem dX8_shift_35 : decode cX8_shift 35 = .ok (.aload_n 0, 1) := by decide +kernel
theorem dX8_shift_36 : decode cX8_shift 36 = .ok (.getfield 10, 3) := by decide +kernel
theorem dX8_shift_39 : decode cX8_shift 39 = .ok (.iload_n 1, 1) := by decide +kernel
theorem dX8_shift_40 : decode cX8_shift 40 = .ok (.aload_n 0, 1) := by decide +kernel
theorem dX8_shift_41 : decode cX8_shift 41 = .ok (.getfield 26, 3) := by decide +kernel
theorem dX8_shift_44 : decode cX8_shift 44 = .ok (.iload_n 2, 1) := by decide +kernel
theorem dX8_shift_45 : decode cX8_shift 45 = .ok (.invokevirtual 115, 3) := by decide +kernel
theorem dX8_shift_48 : decode cX8_shift 48 = .ok (.invokestatic 151, 3) := by decide +kernel
theorem dX8_shift_51 : decode cX8_shift 51 = .ok (.ireturn, 1) := by decide +kernel
theorem dX8_shift_18 : decode cX8_shift 18 = .ok (.iconst (-1), 1) := by decide +kernel
theorem dX8_shift_19 : decode cX8_shift 19 = .ok (.ireturn, 1) := by decide +kernel
theorem dX8_one_0 : decode cX8_one 0 = .ok (.aload_n 0, 1) := by decide +kernel
theorem dX8_one_1 : decode cX8_one 1 = .ok (.getfield 10, 3) := by decide +kernel
theorem dX8_one_4 : decode cX8_one 4 = .ok (.iload_n 1, 1) := by decide +kernel
theorem dX8_one_5 : decode cX8_one 5 = .ok (.invokevirtual 51, 3) := by decide +kernel
theorem dX8_one_8 : decode cX8_one 8 = .ok (.ifCond .eq 10, 3) := by decide +kernel
theorem dX8_one_11 : decode cX8_one 11 = .ok (.iload_n 2, 1) := by decide +kernel
theorem dX8_one_12 : decode cX8_one 12 = .ok (.invokestatic 101, 3) := by decide +kernel
theorem dX8_one_15 : decode cX8_one 15 = .ok (.ifCond .ne 5, 3) := by decide +kernel
theorem dX8_one_20 : decode cX8_one 20 = .ok (.iload_n 3, 1) := by decide +kernel
theorem dX8_one_21 : decode cX8_one 21 = .ok (.ifCond .eq 11, 3) := by decide +kernel
theorem dX8_one_32 : decode cX8_one 32 = .ok (.aload_n 0, 1) := by decide +kernel
theorem dX8_one_33 : decode cX8_one 33 = .ok (.getfield 10, 3) := by decide +kernel
theorem dX8_one_36 : decode cX8_one 36 = .ok (.iload_n 1, 1) := by decide +kernel
theorem dX8_one_37 : decode cX8_one 37 = .ok (.aload_n 0, 1) := by decide +kernel
theorem dX8_one_38 : decode cX8_one 38 = .ok (.getfield 26, 3) := by decide +kernel
theorem dX8_one_41 : decode cX8_one 41 = .ok (.iload_n 2, 1) := by decide +kernel
theorem dX8_one_42 : decode cX8_one 42 = .ok (.invokevirtual 115, 3) := by decide +kernel
theorem dX8_one_45 : decode cX8_one 45 = .ok (.invokestatic 173, 3) := by decide +kernel
theorem dX8_one_48 : decode cX8_one 48 = .ok (.iload_n 3, 1) := by decide +kernel
theorem dX8_one_49 : decode cX8_one 49 = .ok (.invokestatic 148, 3) := by decide +kernel
theorem dX8_one_52 : decode cX8_one 52 = .ok (.ireturn, 1) := by decide +kernel
theorem dX8_one_24 : decode cX8_one 24 = .ok (.iload_n 3, 1) := by decide +kernel
theorem dX8_one_25 : decode cX8_one 25 = .ok (.iconst 1, 1) := by decide +kernel
theorem dX8_one_26 : decode cX8_one 26 = .ok (.if_icmp .eq 6, 3) := by decide +kernel
theorem dX8_one_29 : decode cX8_one 29 = .ok (.bipush (-2), 2) := by decide +kernel
theorem dX8_one_31 : decode cX8_one 31 = .ok (.ireturn, 1) := by decide +kernel
theorem dX8_one_18 : decode cX8_one 18 = .ok (.iconst (-1), 1) := by decide +kernel
theorem dX8_one_19 : decode cX8_one 19 = .ok (.ireturn, 1) := by decide +kernel
set_option maxHeartbeats 4000000 in
set_option maxRecDepth 100000 in
theorem x_say (l : Launch) (dC : Nat → ClassId) (dI : Nat → Nat → Nat) (sz : Nat) (h0 : Nat) (u0 : Value) (p2 : Nat) (u2 : Value) (u3 : Value) (u4 : Value) (u5 : Value) (d0 : Nat) (pn : Nat) (kd0 : ClassId) (fps : Nat → Int32) (n1 : Int32) (hpn : pn ≤ 12) (hch : ChOk fps) : Met l yX8_say (wq yX8_say cX8_say 2 (some .int)) ({ frames := 2, cells := 0, slots := 0, locals := 41 }) (va_Pc [.ref h0, .int n1] (pcW dC dI [(kd0, .char)] [(h0, .inr (7, [u0, .ref p2, u2, u3, u4, u5])), (p2, .inr (2, [.ref d0, .int (nI pn)])), (d0, .inl (kd0, 12, .inl fps))] sz)) (va_Qi (fun (r : Int32) (_ : Unit) => r = (F_say pn n1)) (fun _ t => ∃ (pn2 : Nat) (fps2 : Nat → Int32), (pn2 ≤ 12) ∧ (ChOk fps2) ∧ (pn2 = P_say pn n1) ∧ (fps2 = PS_say pn fps n1) ∧ va_P (dC, dI) vwCl [(h0, .inr (7, [u0, .ref p2, u2, u3, u4, u5])), (p2, .inr (2, [.ref d0, .int (nI pn2)])), (d0, .inl (kd0, 12, .inl fps2))] t.heap ∧ va_K (dC, dI) vwCl [(kd0, .char)] t ∧ va_D (va_A [(h0, .inr (7, [u0, .ref p2, u2, u3, u4, u5])), (p2, .inr (2, [.ref d0, .int (nI pn)])), (d0, .inl (kd0, 12, .inl fps))] sz) [(h0, .inr (7, [u0, .ref p2, u2, u3, u4, u5])), (p2, .inr (2, [.ref d0, .int (nI pn2)])), (d0, .inl (kd0, 12, .inl fps2))]) (va_A [(h0, .inr (7, [u0, .ref p2, u2, u3, u4, u5])), (p2, .inr (2, [.ref d0, .int (nI pn)])), (d0, .inl (kd0, 12, .inl fps))] sz)) 0 0 (va_A [(h0, .inr (7, [u0, .ref p2, u2, u3, u4, u5])), (p2, .inr (2, [.ref d0, .int (nI pn)])), (d0, .inl (kd0, 12, .inl fps))] sz) := by
  refine Met.ofW (cc := cX8_say) (maxL := 2) (ret := (some .int)) (by decide) rfl ?_
  intro p e s m args below meth c s₁ B hml hv
  obtain ⟨rfl, hsz, hN, hP, hK, hD0⟩ := hv
  have hx := B.exec
  have hb := B.bytes
  have hr := B.returns
  have hts0 := atoms_spec (ws := (wq yX8_say cX8_say 2 (some .int))) B.pre
  have hts : ∀ w ∈ BG, w.before _ s = true := fun w h => hts0 w (List.mem_cons_of_mem _ h)
  have hown : s.vm.findClass RX8 = some m.cls := findClass_of_methodNamed B.named
  have hlocks := B.notSynchronized
  subst hsz
  have hD := hD0.self (sz := s.heap.size)
  generalize hAe : va_A [(h0, .inr (7, [u0, .ref p2, u2, u3, u4, u5])), (p2, .inr (2, [.ref d0, .int (nI pn)])), (d0, .inl (kd0, 12, .inl fps))] s.heap.size = A at hD ⊢
  have hA : ∀ q : Nat, s.heap.size ≤ q → A q := fun q h => by rw [← hAe]; exact Or.inr h
  have hS : va_S A s.heap s.heap [] := va_S.rf
  clear hAe hD0
  have hP : va_P (dC, dI) vwCl [(h0, .inr (7, [u0, .ref p2, u2, u3, u4, u5])), (p2, .inr (2, [.ref d0, .int (nI pn)])), (d0, .inl (kd0, 12, .inl fps))] s.heap := hP
  have hl := lv_entry ([.ref h0, .int n1]) (n := 2) (Nat.le_of_ble_eq_true rfl)
  rw [lg_entry_eq]
  generalize (lg_sl ([.ref h0, .int n1]) ++ List.replicate (2 - (lg_sl ([.ref h0, .int n1])).length) Slot.unset).toArray = ls at hl ⊢
  have hl : lv_has ls 2 [(0, .ref h0), (1, .int n1)] := hl
  refine lv_iload_n hx hb dX8_say_0 rfl (lv_at hl 1 rfl) ?_
  refine lv_bipush (v := 33) hx hb dX8_say_1 (by decide) ?_
  refine lv_icmp_lt (tgt := 12) hx hb dX8_say_3 (by decide) (fun c_1 => ?_) (fun c_1 => ?_)
  · have b_2 := gx_lt (X := (Int32.toInt n1)) (C := 33) rfl (by decide) c_1
    refine lv_bipush (v := (-2)) hx hb dX8_say_12 (by decide) ?_
    have hP9 := hP.sub (ws' := [(h0, .inr (7, [u0, .ref p2, u2, u3, u4, u5])), (p2, .inr (2, [.ref d0, .int (nI pn)])), (d0, .inl (kd0, 12, .inl fps))]) [0, 1, 2] rfl
    have hD9 := hD.sub (ws' := [(h0, .inr (7, [u0, .ref p2, u2, u3, u4, u5])), (p2, .inr (2, [.ref d0, .int (nI pn)])), (d0, .inl (kd0, 12, .inl fps))]) [0, 1, 2] (by decide) rfl
    have hK9 := hK.sub (tys' := [(kd0, .char)]) [0] rfl
    exact W.iret (v := (-2)) hx hb hr (fun t ht hW => ⟨⟨(-2), (), rfl, (by (unfold F_say; repeat' split) <;> first | rfl | (exfalso; omega)), pn, fps, hpn, hch, (by (unfold P_say; repeat' split) <;> first | rfl | assumption | (exfalso; omega)), (by (unfold PS_say; repeat' split) <;> first | rfl | assumption | (exfalso; omega)), by rw [ht]; exact hP9, va_K.moved hW.alike hK9, hD9⟩, hS.F ht⟩) hS.2.2 dX8_say_14
  · have b_2 := gn_lt (X := (Int32.toInt n1)) (C := 33) rfl (by decide) c_1
    refine lv_iload_n hx hb dX8_say_6 rfl (lv_at hl 1 rfl) ?_
    refine lv_bipush (v := 126) hx hb dX8_say_7 (by decide) ?_
    refine lv_icmp_le (tgt := 15) hx hb dX8_say_9 (by decide) (fun c_3 => ?_) (fun c_3 => ?_)
    · have b_4 := gx_le (X := (Int32.toInt n1)) (C := 126) rfl (by decide) c_3
      refine lv_aload_n hx hb dX8_say_15 rfl (lv_at hl 0 rfl) ?_
      refine va_get (D := (dC, dI)) (ci := 7) (v := .ref p2) (C := RX8) (T := TX8) (N := 6) hx hb hts inB_8 hown hK hP 0 rfl rfl 1 (by decide) (hts _ mw_1_169) (fun _ h9 => h9) rfl dX8_say_16 ?_
      have hPc := hP.sub (ws' := [(p2, .inr (2, [.ref d0, .int (nI pn)]))]) [1] rfl
      have hDc := hD.sub (ws' := [(p2, .inr (2, [.ref d0, .int (nI pn)]))]) [1] (by decide) rfl
      have hKc := hK.sub (tys' := []) [] rfl
      refine va_calli (va_runV (As := []) (rest := []) ⟨hx, hb, hml, hown, hts⟩ (c_pFull l dC dI s.heap.size p2 (.ref d0) pn hpn) (cwV 0 hts (gV mw_2_65 mw_2_66 mw_2_67 mw_1_4 mw_2_68) rfl rfl rfl (by decide +kernel) ⟨Nat.le_of_ble_eq_true rfl, Nat.le_of_ble_eq_true rfl⟩) ⟨pcW_blind, va_recv hKc hPc (ci := 2) (q0 := 0) rfl rfl, pcW_at hPc hKc hDc hN⟩ rfl rfl hl.1 rfl (lv_room (Nat.le_of_ble_eq_true rfl)) dX8_say_19 ⟨Nat.le_of_ble_eq_true rfl, Nat.le_of_ble_eq_true rfl⟩) hS (fun q h1 h2 => absurd h2 (Nat.not_le.mpr h1)) (fun q h => hA q (Nat.le_trans hS.1 h)) (fun r_5 u t H1 locs ht hvm hw_5 hB hz1 hk1 hS => ?_)
      have hP := keepP hP hk1
      clear hz1 hk1 hB ht hvm hPc hDc hKc
      generalize H1 = H at hP hS ⊢
      rcases fx_bool hw_5 with ⟨rfl, b_6⟩ | ⟨rfl, b_6⟩
      · skip
        refine lv_if_eq (tgt := 28) hx hb dX8_say_22 (by decide) (fun h => absurd h (by decide)) (fun _ => ?_)
        refine lv_bipush (v := (-4)) hx hb dX8_say_25 (by decide) ?_
        have hP9 := hP.sub (ws' := [(h0, .inr (7, [u0, .ref p2, u2, u3, u4, u5])), (p2, .inr (2, [.ref d0, .int (nI pn)])), (d0, .inl (kd0, 12, .inl fps))]) [0, 1, 2] rfl
        have hD9 := hD.sub (ws' := [(h0, .inr (7, [u0, .ref p2, u2, u3, u4, u5])), (p2, .inr (2, [.ref d0, .int (nI pn)])), (d0, .inl (kd0, 12, .inl fps))]) [0, 1, 2] (by decide) rfl
        have hK9 := hK.sub (tys' := [(kd0, .char)]) [0] rfl
        exact W.iret (v := (-4)) hx hb hr (fun t ht hW => ⟨⟨(-4), (), rfl, (by (unfold F_say; repeat' split) <;> first | rfl | (exfalso; omega)), pn, fps, hpn, hch, (by (unfold P_say; repeat' split) <;> first | rfl | assumption | (exfalso; omega)), (by (unfold PS_say; repeat' split) <;> first | rfl | assumption | (exfalso; omega)), by rw [ht]; exact hP9, va_K.moved hW.alike hK9, hD9⟩, hS.F ht⟩) hS.2.2 dX8_say_27
      · skip
        refine lv_if_eq (tgt := 28) hx hb dX8_say_22 (by decide) (fun _ => ?_) (fun h => absurd (by decide) h)
        refine lv_aload_n hx hb dX8_say_28 rfl (lv_at hl 0 rfl) ?_
        refine va_get (D := (dC, dI)) (ci := 7) (v := .ref p2) (C := RX8) (T := TX8) (N := 6) hx hb hts inB_8 hown hK hP 0 rfl rfl 1 (by decide) (hts _ mw_1_169) (fun _ h9 => h9) rfl dX8_say_29 ?_
        refine lv_iload_n hx hb dX8_say_32 rfl (lv_at hl 1 rfl) ?_
        have hPc := hP.sub (ws' := [(p2, .inr (2, [.ref d0, .int (nI pn)])), (d0, .inl (kd0, 12, .inl fps))]) [1, 2] rfl
        have hDc := hD.sub (ws' := [(p2, .inr (2, [.ref d0, .int (nI pn)])), (d0, .inl (kd0, 12, .inl fps))]) [1, 2] (by decide) rfl
        have hKc := hK.sub (tys' := [(kd0, .char)]) [0] rfl
        have hFc := va_free (wc := [(p2, .inr (2, [.ref d0, .int (nI pn)])), (d0, .inl (kd0, 12, .inl fps))]) hD hS hA [1, 2] rfl
        refine va_calli (va_runV (As := [.int n1]) (rest := []) ⟨hx, hb, hml, hown, hts⟩ (c_pPut l dC dI H.size p2 d0 pn kd0 fps n1 (by omega) hch (by omega)) (cwV 1 hts (gV mw_2_69 mw_2_70 mw_2_71 mw_1_4 mw_2_72) rfl rfl rfl (by decide +kernel) ⟨Nat.le_of_ble_eq_true rfl, Nat.le_of_ble_eq_true rfl⟩) ⟨pcW_blind, va_recv hKc hPc (ci := 2) (q0 := 0) rfl rfl, pcW_at hPc hKc hDc hN⟩ rfl rfl hl.1 rfl (lv_room (Nat.le_of_ble_eq_true rfl)) dX8_say_33 ⟨Nat.le_of_ble_eq_true rfl, Nat.le_of_ble_eq_true rfl⟩) hS (fun q _ h => hFc q h) hFc (fun r_7 u t H1 locs ht hvm hw_7 hB hz1 hk1 hS => ?_)
        obtain ⟨f_8, p_9, p_10, hP1, hK1, hD1⟩ := hB
        rw [ht] at hP1
        have hK1 := va_K.moved hvm.symm hK1
        obtain ⟨hP, hD⟩ := va_join (wr := [(h0, .inr (7, [u0, .ref p2, u2, u3, u4, u5]))]) (w1 := [(p2, .inr (2, [.ref d0, .int (nI (pn + 1))])), (d0, .inl (kd0, 12, .inl f_8))]) hP hD [1, 2] [0] rfl rfl (by decide) (by decide) hk1 hFc hP1 hD1
        have hK := (hK.sub (tys' := []) [] rfl).app hK1
        clear hz1 hk1 hPc hDc hKc hFc
        generalize H1 = H at hP hS ⊢
        have hK : va_K (dC, dI) vwCl [(kd0, .char)] s := hK
        have hP : va_P (dC, dI) vwCl [(h0, .inr (7, [u0, .ref p2, u2, u3, u4, u5])), (p2, .inr (2, [.ref d0, .int (nI (pn + 1))])), (d0, .inl (kd0, 12, .inl f_8))] H := hP
        have hD : va_D A [(h0, .inr (7, [u0, .ref p2, u2, u3, u4, u5])), (p2, .inr (2, [.ref d0, .int (nI (pn + 1))])), (d0, .inl (kd0, 12, .inl f_8))] := hD
        obtain rfl : r_7 = nI (pn + 1) := hw_7
        have hP9 := hP.sub (ws' := [(h0, .inr (7, [u0, .ref p2, u2, u3, u4, u5])), (p2, .inr (2, [.ref d0, .int (nI (pn + 1))])), (d0, .inl (kd0, 12, .inl f_8))]) [0, 1, 2] rfl
        have hD9 := hD.sub (ws' := [(h0, .inr (7, [u0, .ref p2, u2, u3, u4, u5])), (p2, .inr (2, [.ref d0, .int (nI (pn + 1))])), (d0, .inl (kd0, 12, .inl f_8))]) [0, 1, 2] (by decide) rfl
        have hK9 := hK.sub (tys' := [(kd0, .char)]) [0] rfl
        exact W.iret (v := (nI (pn + 1))) hx hb hr (fun t ht hW => ⟨⟨(nI (pn + 1)), (), rfl, (by (unfold F_say; repeat' split) <;> first | rfl | (exfalso; omega)), (pn + 1), f_8, (by omega), p_10, (by (unfold P_say; repeat' split) <;> first | rfl | assumption | (exfalso; omega)), (by (unfold PS_say; repeat' split) <;> first | rfl | assumption | (exfalso; omega)), by rw [ht]; exact hP9, va_K.moved hW.alike hK9, hD9⟩, hS.F ht⟩) hS.2.2 dX8_say_36
    · have b_4 := gn_le (X := (Int32.toInt n1)) (C := 126) rfl (by decide) c_3
      refine lv_bipush (v := (-2)) hx hb dX8_say_12 (by decide) ?_
      have hP9 := hP.sub (ws' := [(h0, .inr (7, [u0, .ref p2, u2, u3, u4, u5])), (p2, .inr (2, [.ref d0, .int (nI pn)])), (d0, .inl (kd0, 12, .inl fps))]) [0, 1, 2] rfl
      have hD9 := hD.sub (ws' := [(h0, .inr (7, [u0, .ref p2, u2, u3, u4, u5])), (p2, .inr (2, [.ref d0, .int (nI pn)])), (d0, .inl (kd0, 12, .inl fps))]) [0, 1, 2] (by decide) rfl
      have hK9 := hK.sub (tys' := [(kd0, .char)]) [0] rfl
      exact W.iret (v := (-2)) hx hb hr (fun t ht hW => ⟨⟨(-2), (), rfl, (by (unfold F_say; repeat' split) <;> first | rfl | (exfalso; omega)), pn, fps, hpn, hch, (by (unfold P_say; repeat' split) <;> first | rfl | assumption | (exfalso; omega)), (by (unfold PS_say; repeat' split) <;> first | rfl | assumption | (exfalso; omega)), by rw [ht]; exact hP9, va_K.moved hW.alike hK9, hD9⟩, hS.F ht⟩) hS.2.2 dX8_say_14
set_option maxHeartbeats 4000000 in
set_option maxRecDepth 100000 in
theorem x_wipe (l : Launch) (dC : Nat → ClassId) (dI : Nat → Nat → Nat) (sz : Nat) (h0 : Nat) (u0 : Value) (p2 : Nat) (u2 : Value) (u3 : Value) (u4 : Value) (u5 : Value) (w0 : Value) (pn : Nat)  : Met l yX8_wipe (wq yX8_wipe cX8_wipe 1 (some .int)) ({ frames := 1, cells := 0, slots := 0, locals := 21 }) (va_Pc [.ref h0] (pcW dC dI [] [(h0, .inr (7, [u0, .ref p2, u2, u3, u4, u5])), (p2, .inr (2, [w0, .int (nI pn)]))] sz)) (va_Qi (fun (r : Int32) (_ : Unit) => r = nI pn) (fun _ t => va_P (dC, dI) vwCl [(h0, .inr (7, [u0, .ref p2, u2, u3, u4, u5])), (p2, .inr (2, [w0, .int 0]))] t.heap ∧ va_K (dC, dI) vwCl [] t ∧ va_D (va_A [(h0, .inr (7, [u0, .ref p2, u2, u3, u4, u5])), (p2, .inr (2, [w0, .int (nI pn)]))] sz) [(h0, .inr (7, [u0, .ref p2, u2, u3, u4, u5])), (p2, .inr (2, [w0, .int 0]))]) (va_A [(h0, .inr (7, [u0, .ref p2, u2, u3, u4, u5])), (p2, .inr (2, [w0, .int (nI pn)]))] sz)) 0 0 (va_A [(h0, .inr (7, [u0, .ref p2, u2, u3, u4, u5])), (p2, .inr (2, [w0, .int (nI pn)]))] sz) := by
  refine Met.ofW (cc := cX8_wipe) (maxL := 1) (ret := (some .int)) (by decide) rfl ?_
  intro p e s m args below meth c s₁ B hml hv
  obtain ⟨rfl, hsz, hN, hP, hK, hD0⟩ := hv
  have hx := B.exec
  have hb := B.bytes
  have hr := B.returns
  have hts0 := atoms_spec (ws := (wq yX8_wipe cX8_wipe 1 (some .int))) B.pre
  have hts : ∀ w ∈ BG, w.before _ s = true := fun w h => hts0 w (List.mem_cons_of_mem _ h)
  have hown : s.vm.findClass RX8 = some m.cls := findClass_of_methodNamed B.named
  have hlocks := B.notSynchronized
  subst hsz
  have hD := hD0.self (sz := s.heap.size)
  generalize hAe : va_A [(h0, .inr (7, [u0, .ref p2, u2, u3, u4, u5])), (p2, .inr (2, [w0, .int (nI pn)]))] s.heap.size = A at hD ⊢
  have hA : ∀ q : Nat, s.heap.size ≤ q → A q := fun q h => by rw [← hAe]; exact Or.inr h
  have hS : va_S A s.heap s.heap [] := va_S.rf
  clear hAe hD0
  have hP : va_P (dC, dI) vwCl [(h0, .inr (7, [u0, .ref p2, u2, u3, u4, u5])), (p2, .inr (2, [w0, .int (nI pn)]))] s.heap := hP
  have hl := lv_entry ([.ref h0]) (n := 1) (Nat.le_of_ble_eq_true rfl)
  rw [lg_entry_eq]
  generalize (lg_sl ([.ref h0]) ++ List.replicate (1 - (lg_sl ([.ref h0])).length) Slot.unset).toArray = ls at hl ⊢
  have hl : lv_has ls 1 [(0, .ref h0)] := hl
  refine lv_aload_n hx hb dX8_wipe_0 rfl (lv_at hl 0 rfl) ?_
  refine va_get (D := (dC, dI)) (ci := 7) (v := .ref p2) (C := RX8) (T := TX8) (N := 6) hx hb hts inB_8 hown hK hP 0 rfl rfl 1 (by decide) (hts _ mw_1_169) (fun _ h9 => h9) rfl dX8_wipe_1 ?_
  have hPc := hP.sub (ws' := [(p2, .inr (2, [w0, .int (nI pn)]))]) [1] rfl
  have hDc := hD.sub (ws' := [(p2, .inr (2, [w0, .int (nI pn)]))]) [1] (by decide) rfl
  have hKc := hK.sub (tys' := []) [] rfl
  have hFc := va_free (wc := [(p2, .inr (2, [w0, .int (nI pn)]))]) hD hS hA [1] rfl
  refine va_calli (va_runV (As := []) (rest := []) ⟨hx, hb, hml, hown, hts⟩ (c_pEmpty l dC dI s.heap.size p2 (w0) pn ) (cwV 0 hts (gV mw_2_78 mw_2_79 mw_2_80 mw_1_4 mw_2_81) rfl rfl rfl (by decide +kernel) ⟨Nat.le_of_ble_eq_true rfl, Nat.le_of_ble_eq_true rfl⟩) ⟨pcW_blind, va_recv hKc hPc (ci := 2) (q0 := 0) rfl rfl, pcW_at hPc hKc hDc hN⟩ rfl rfl hl.1 rfl (lv_room (Nat.le_of_ble_eq_true rfl)) dX8_wipe_4 ⟨Nat.le_of_ble_eq_true rfl, Nat.le_of_ble_eq_true rfl⟩) hS (fun q _ h => hFc q h) hFc (fun r_1 u t H1 locs ht hvm hw_1 hB hz1 hk1 hS => ?_)
  obtain ⟨hP1, hK1, hD1⟩ := hB
  rw [ht] at hP1
  have hK1 := va_K.moved hvm.symm hK1
  obtain ⟨hP, hD⟩ := va_join (wr := [(h0, .inr (7, [u0, .ref p2, u2, u3, u4, u5]))]) (w1 := [(p2, .inr (2, [w0, .int 0]))]) hP hD [1] [0] rfl rfl (by decide) (by decide) hk1 hFc hP1 hD1
  have hK := (hK.sub (tys' := []) [] rfl).app hK1
  clear hz1 hk1 hPc hDc hKc hFc
  generalize H1 = H at hP hS ⊢
  have hK : va_K (dC, dI) vwCl [] s := hK
  have hP : va_P (dC, dI) vwCl [(h0, .inr (7, [u0, .ref p2, u2, u3, u4, u5])), (p2, .inr (2, [w0, .int 0]))] H := hP
  have hD : va_D A [(h0, .inr (7, [u0, .ref p2, u2, u3, u4, u5])), (p2, .inr (2, [w0, .int 0]))] := hD
  obtain rfl : r_1 = nI pn := hw_1
  have hP9 := hP.sub (ws' := [(h0, .inr (7, [u0, .ref p2, u2, u3, u4, u5])), (p2, .inr (2, [w0, .int 0]))]) [0, 1] rfl
  have hD9 := hD.sub (ws' := [(h0, .inr (7, [u0, .ref p2, u2, u3, u4, u5])), (p2, .inr (2, [w0, .int 0]))]) [0, 1] (by decide) rfl
  have hK9 := hK.sub (tys' := []) [] rfl
  exact W.iret (v := (nI pn)) hx hb hr (fun t ht hW => ⟨⟨(nI pn), (), rfl, rfl, by rw [ht]; exact hP9, va_K.moved hW.alike hK9, hD9⟩, hS.F ht⟩) hS.2.2 dX8_wipe_7
set_option maxHeartbeats 4000000 in
set_option maxRecDepth 100000 in
theorem x_fault (l : Launch) (dC : Nat → ClassId) (dI : Nat → Nat → Nat) (sz : Nat) (h0 : Nat) (u0 : Value) (p2 : Nat) (u2 : Value) (u3 : Value) (u4 : Value) (u5 : Value) (d0 : Nat) (pn : Nat) (kd0 : ClassId) (fps : Nat → Int32) (hpn : pn ≤ 12) : Met l yX8_fault (wq yX8_fault cX8_fault 1 (some .int)) ({ frames := 2, cells := 0, slots := 0, locals := 41 }) (va_Pc [.ref h0] (pcW dC dI [(kd0, .char)] [(h0, .inr (7, [u0, .ref p2, u2, u3, u4, u5])), (p2, .inr (2, [.ref d0, .int (nI pn)])), (d0, .inl (kd0, 12, .inl fps))] sz)) (va_Qi (fun (r : Int32) (_ : Unit) => r = (fltF fps pn)) (fun _ _ => True) (fun q : Nat => sz ≤ q)) 0 0 (fun q : Nat => sz ≤ q) := by
  refine Met.ofW (cc := cX8_fault) (maxL := 1) (ret := (some .int)) (by decide) rfl ?_
  intro p e s m args below meth c s₁ B hml hv
  obtain ⟨rfl, hsz, hN, hP, hK, hD0⟩ := hv
  have hx := B.exec
  have hb := B.bytes
  have hr := B.returns
  have hts0 := atoms_spec (ws := (wq yX8_fault cX8_fault 1 (some .int))) B.pre
  have hts : ∀ w ∈ BG, w.before _ s = true := fun w h => hts0 w (List.mem_cons_of_mem _ h)
  have hown : s.vm.findClass RX8 = some m.cls := findClass_of_methodNamed B.named
  have hlocks := B.notSynchronized
  subst hsz
  have hA : ∀ q : Nat, s.heap.size ≤ q → (fun q : Nat => s.heap.size ≤ q) q := fun _ h => h
  have hD := hD0
  have hS : va_S (fun q : Nat => s.heap.size ≤ q) s.heap s.heap [] := va_S.rf
  have hP : va_P (dC, dI) vwCl [(h0, .inr (7, [u0, .ref p2, u2, u3, u4, u5])), (p2, .inr (2, [.ref d0, .int (nI pn)])), (d0, .inl (kd0, 12, .inl fps))] s.heap := hP
  have hl := lv_entry ([.ref h0]) (n := 1) (Nat.le_of_ble_eq_true rfl)
  rw [lg_entry_eq]
  generalize (lg_sl ([.ref h0]) ++ List.replicate (1 - (lg_sl ([.ref h0])).length) Slot.unset).toArray = ls at hl ⊢
  have hl : lv_has ls 1 [(0, .ref h0)] := hl
  refine lv_aload_n hx hb dX8_fault_0 rfl (lv_at hl 0 rfl) ?_
  refine va_get (D := (dC, dI)) (ci := 7) (v := .ref p2) (C := RX8) (T := TX8) (N := 6) hx hb hts inB_8 hown hK hP 0 rfl rfl 1 (by decide) (hts _ mw_1_169) (fun _ h9 => h9) rfl dX8_fault_1 ?_
  have hPc := hP.sub (ws' := [(p2, .inr (2, [.ref d0, .int (nI pn)])), (d0, .inl (kd0, 12, .inl fps))]) [1, 2] rfl
  have hDc := hD.sub (ws' := [(p2, .inr (2, [.ref d0, .int (nI pn)])), (d0, .inl (kd0, 12, .inl fps))]) [1, 2] (by decide) rfl
  have hKc := hK.sub (tys' := [(kd0, .char)]) [0] rfl
  refine va_calli (va_runV (As := []) (rest := []) ⟨hx, hb, hml, hown, hts⟩ (c_pFault l dC dI s.heap.size p2 d0 pn kd0 fps hpn) (cwV 0 hts (gV mw_2_86 mw_2_87 mw_2_88 mw_1_4 mw_2_89) rfl rfl rfl (by decide +kernel) ⟨Nat.le_of_ble_eq_true rfl, Nat.le_of_ble_eq_true rfl⟩) ⟨pcW_blind, va_recv hKc hPc (ci := 2) (q0 := 0) rfl rfl, pcW_at hPc hKc hDc hN⟩ rfl rfl hl.1 rfl (lv_room (Nat.le_of_ble_eq_true rfl)) dX8_fault_4 ⟨Nat.le_of_ble_eq_true rfl, Nat.le_of_ble_eq_true rfl⟩) hS (fun q h1 h2 => absurd h2 (Nat.not_le.mpr h1)) (fun q h => hA q (Nat.le_trans hS.1 h)) (fun r_1 u t H1 locs ht hvm hw_1 hB hz1 hk1 hS => ?_)
  have hP := keepP hP hk1
  clear hz1 hk1 hB ht hvm hPc hDc hKc
  generalize H1 = H at hP hS ⊢
  obtain rfl : r_1 = (fltF fps pn) := hw_1
  exact W.iret (v := (fltF fps pn)) hx hb hr (fun t ht hW => ⟨⟨(fltF fps pn), (), rfl, rfl, trivial⟩, hS.F ht⟩) hS.2.2 dX8_fault_7
set_option maxHeartbeats 4000000 in
set_option maxRecDepth 100000 in
theorem x_has (l : Launch) (dC : Nat → ClassId) (dI : Nat → Nat → Nat) (sz : Nat) (h0 : Nat) (p1 : Nat) (p2 : Nat) (p3 : Nat) (u3 : Value) (u4 : Value) (u5 : Value) (w0 : Value) (w1 : Value) (w2 : Value) (w3 : Value) (w4 : Value) (w5 : Value) (cn : Nat) (bb : Int32) (d0 : Nat) (pn : Nat) (kd0 : ClassId) (fps : Nat → Int32) (e0 : Nat) (e1 : Nat) (e2 : Nat) (ke0 : ClassId) (fo : Nat → Int32) (ke1 : ClassId) (fbl : Nat → Int32) (ke2 : ClassId) (fbs : Nat → Int32) (n1 : Int32) (n2 : Int32) (hc : cn ≤ 10) (hpn : pn ≤ 12) (hch : ChOk fps) (hbl : BdOk 80 12 fbl) (hbs : ChOk fbs) : Met l yX8_has (wq yX8_has cX8_has 4 (some .int)) ({ frames := 3, cells := 0, slots := 0, locals := 67 }) (va_Pc [.ref h0, .int n1, .int n2] (pcW dC dI [(kd0, .char), (ke0, .int), (ke1, .int), (ke2, .char)] [(h0, .inr (7, [.ref p1, .ref p2, .ref p3, u3, u4, u5])), (p1, .inr (1, [w0, w1, w2, w3, w4, w5, .int (nI cn), .int bb])), (p2, .inr (2, [.ref d0, .int (nI pn)])), (d0, .inl (kd0, 12, .inl fps)), (p3, .inr (0, [.ref e0, .ref e1, .ref e2])), (e0, .inl (ke0, 8, .inl fo)), (e1, .inl (ke1, 80, .inl fbl)), (e2, .inl (ke2, 960, .inl fbs))] sz)) (va_Qi (fun (r : Int32) (_ : Unit) => r = (F_has cn (fltF fps pn) (bt (fo n2.toNatClampNeg) n1.toNatClampNeg) n1 n2)) (fun _ t => ∃ (pn2 : Nat) (fo2 : Nat → Int32) (fbl2 : Nat → Int32) (fbs2 : Nat → Int32), (pn2 ≤ 12) ∧ (BdOk 80 12 fbl2) ∧ (ChOk fbs2) ∧ (¬ HasG cn (fltF fps pn) n1 n2 → pn2 = pn ∧ fo2 = fo ∧ fbl2 = fbl ∧ fbs2 = fbs) ∧ (HasG cn (fltF fps pn) n1 n2 → pn2 = 0) ∧ (HasG cn (fltF fps pn) n1 n2 → fo2 = upd fo n2.toNatClampNeg (fo n2.toNatClampNeg ||| ((1 : Int32) <<< (n1 &&& 31)))) ∧ (HasG cn (fltF fps pn) n1 n2 → fbl2 = upd fbl (8 * n1.toNatClampNeg + n2.toNatClampNeg) (nI pn)) ∧ (HasG cn (fltF fps pn) n1 n2 → fbs2 = cpF fbs (12 * (8 * n1.toNatClampNeg + n2.toNatClampNeg)) fps pn) ∧ va_P (dC, dI) vwCl [(h0, .inr (7, [.ref p1, .ref p2, .ref p3, u3, u4, u5])), (p1, .inr (1, [w0, w1, w2, w3, w4, w5, .int (nI cn), .int bb])), (p2, .inr (2, [.ref d0, .int (nI pn2)])), (d0, .inl (kd0, 12, .inl fps)), (p3, .inr (0, [.ref e0, .ref e1, .ref e2])), (e0, .inl (ke0, 8, .inl fo2)), (e1, .inl (ke1, 80, .inl fbl2)), (e2, .inl (ke2, 960, .inl fbs2))] t.heap ∧ va_K (dC, dI) vwCl [(kd0, .char), (ke0, .int), (ke1, .int), (ke2, .char)] t ∧ va_D (va_A [(h0, .inr (7, [.ref p1, .ref p2, .ref p3, u3, u4, u5])), (p1, .inr (1, [w0, w1, w2, w3, w4, w5, .int (nI cn), .int bb])), (p2, .inr (2, [.ref d0, .int (nI pn)])), (d0, .inl (kd0, 12, .inl fps)), (p3, .inr (0, [.ref e0, .ref e1, .ref e2])), (e0, .inl (ke0, 8, .inl fo)), (e1, .inl (ke1, 80, .inl fbl)), (e2, .inl (ke2, 960, .inl fbs))] sz) [(h0, .inr (7, [.ref p1, .ref p2, .ref p3, u3, u4, u5])), (p1, .inr (1, [w0, w1, w2, w3, w4, w5, .int (nI cn), .int bb])), (p2, .inr (2, [.ref d0, .int (nI pn2)])), (d0, .inl (kd0, 12, .inl fps)), (p3, .inr (0, [.ref e0, .ref e1, .ref e2])), (e0, .inl (ke0, 8, .inl fo2)), (e1, .inl (ke1, 80, .inl fbl2)), (e2, .inl (ke2, 960, .inl fbs2))]) (va_A [(h0, .inr (7, [.ref p1, .ref p2, .ref p3, u3, u4, u5])), (p1, .inr (1, [w0, w1, w2, w3, w4, w5, .int (nI cn), .int bb])), (p2, .inr (2, [.ref d0, .int (nI pn)])), (d0, .inl (kd0, 12, .inl fps)), (p3, .inr (0, [.ref e0, .ref e1, .ref e2])), (e0, .inl (ke0, 8, .inl fo)), (e1, .inl (ke1, 80, .inl fbl)), (e2, .inl (ke2, 960, .inl fbs))] sz)) 0 0 (va_A [(h0, .inr (7, [.ref p1, .ref p2, .ref p3, u3, u4, u5])), (p1, .inr (1, [w0, w1, w2, w3, w4, w5, .int (nI cn), .int bb])), (p2, .inr (2, [.ref d0, .int (nI pn)])), (d0, .inl (kd0, 12, .inl fps)), (p3, .inr (0, [.ref e0, .ref e1, .ref e2])), (e0, .inl (ke0, 8, .inl fo)), (e1, .inl (ke1, 80, .inl fbl)), (e2, .inl (ke2, 960, .inl fbs))] sz) := by
  refine Met.ofW (cc := cX8_has) (maxL := 4) (ret := (some .int)) (by decide) rfl ?_
  intro p e s m args below meth c s₁ B hml hv
  obtain ⟨rfl, hsz, hN, hP, hK, hD0⟩ := hv
  have hx := B.exec
  have hb := B.bytes
  have hr := B.returns
  have hts0 := atoms_spec (ws := (wq yX8_has cX8_has 4 (some .int))) B.pre
  have hts : ∀ w ∈ BG, w.before _ s = true := fun w h => hts0 w (List.mem_cons_of_mem _ h)
  have hown : s.vm.findClass RX8 = some m.cls := findClass_of_methodNamed B.named
  have hlocks := B.notSynchronized
  subst hsz
  have hD := hD0.self (sz := s.heap.size)
  generalize hAe : va_A [(h0, .inr (7, [.ref p1, .ref p2, .ref p3, u3, u4, u5])), (p1, .inr (1, [w0, w1, w2, w3, w4, w5, .int (nI cn), .int bb])), (p2, .inr (2, [.ref d0, .int (nI pn)])), (d0, .inl (kd0, 12, .inl fps)), (p3, .inr (0, [.ref e0, .ref e1, .ref e2])), (e0, .inl (ke0, 8, .inl fo)), (e1, .inl (ke1, 80, .inl fbl)), (e2, .inl (ke2, 960, .inl fbs))] s.heap.size = A at hD ⊢
  have hA : ∀ q : Nat, s.heap.size ≤ q → A q := fun q h => by rw [← hAe]; exact Or.inr h
  have hS : va_S A s.heap s.heap [] := va_S.rf
  clear hAe hD0
  have hP : va_P (dC, dI) vwCl [(h0, .inr (7, [.ref p1, .ref p2, .ref p3, u3, u4, u5])), (p1, .inr (1, [w0, w1, w2, w3, w4, w5, .int (nI cn), .int bb])), (p2, .inr (2, [.ref d0, .int (nI pn)])), (d0, .inl (kd0, 12, .inl fps)), (p3, .inr (0, [.ref e0, .ref e1, .ref e2])), (e0, .inl (ke0, 8, .inl fo)), (e1, .inl (ke1, 80, .inl fbl)), (e2, .inl (ke2, 960, .inl fbs))] s.heap := hP
  have hl := lv_entry ([.ref h0, .int n1, .int n2]) (n := 4) (Nat.le_of_ble_eq_true rfl)
  rw [lg_entry_eq]
  generalize (lg_sl ([.ref h0, .int n1, .int n2]) ++ List.replicate (4 - (lg_sl ([.ref h0, .int n1, .int n2])).length) Slot.unset).toArray = ls at hl ⊢
  have hl : lv_has ls 4 [(0, .ref h0), (1, .int n1), (2, .int n2)] := hl
  refine lv_aload_n hx hb dX8_has_0 rfl (lv_at hl 0 rfl) ?_
  refine va_get (D := (dC, dI)) (ci := 7) (v := .ref p1) (C := RX8) (T := TX8) (N := 6) hx hb hts inB_8 hown hK hP 0 rfl rfl 0 (by decide) (hts _ mw_1_168) (fun _ h9 => h9) rfl dX8_has_1 ?_
  refine lv_iload_n hx hb dX8_has_4 rfl (lv_at hl 1 rfl) ?_
  have hPc := hP.sub (ws' := [(p1, .inr (1, [w0, w1, w2, w3, w4, w5, .int (nI cn), .int bb]))]) [1] rfl
  have hDc := hD.sub (ws' := [(p1, .inr (1, [w0, w1, w2, w3, w4, w5, .int (nI cn), .int bb]))]) [1] (by decide) rfl
  have hKc := hK.sub (tys' := []) [] rfl
  refine va_calli (va_runV (As := [.int n1]) (rest := []) ⟨hx, hb, hml, hown, hts⟩ (c_knows l dC dI s.heap.size p1 (w0) (w1) (w2) (w3) (w4) (w5) cn (.int bb) n1 hc) (cwV 1 hts (gV mw_1_191 mw_1_192 mw_1_193 mw_1_2 mw_1_194) rfl rfl rfl (by decide +kernel) ⟨Nat.le_of_ble_eq_true rfl, Nat.le_of_ble_eq_true rfl⟩) ⟨pcW_blind, va_recv hKc hPc (ci := 1) (q0 := 0) rfl rfl, pcW_at hPc hKc hDc hN⟩ rfl rfl hl.1 rfl (lv_room (Nat.le_of_ble_eq_true rfl)) dX8_has_5 ⟨Nat.le_of_ble_eq_true rfl, Nat.le_of_ble_eq_true rfl⟩) hS (fun q h1 h2 => absurd h2 (Nat.not_le.mpr h1)) (fun q h => hA q (Nat.le_trans hS.1 h)) (fun r_1 u t H1 locs ht hvm hw_1 hB hz1 hk1 hS => ?_)
  have hP := keepP hP hk1
  clear hz1 hk1 hB ht hvm hPc hDc hKc
  generalize H1 = H at hP hS ⊢
  rcases fx_bool hw_1 with ⟨rfl, b_2⟩ | ⟨rfl, b_2⟩
  · skip
    refine lv_if_eq (tgt := 18) hx hb dX8_has_8 (by decide) (fun h => absurd h (by decide)) (fun _ => ?_)
    refine lv_iload_n hx hb dX8_has_11 rfl (lv_at hl 2 rfl) ?_
    have hPc := hP.sub (ws' := []) [] rfl
    have hDc := hD.sub (ws' := []) [] (by decide) rfl
    have hKc := hK.sub (tys' := []) [] rfl
    refine va_calli (va_runS (As := [.int n2]) (rest := []) ⟨hx, hb, hml, hown, hts⟩ (c_isName l dC dI H.size n2 ) (va_cwS 1 hts (gS mw_2_97 mw_2_98 mw_1_1 mw_2_99) rfl rfl rfl (by decide +kernel) ⟨Nat.le_of_ble_eq_true rfl, Nat.le_of_ble_eq_true rfl⟩) ⟨pcW_blind, pcW_at hPc hKc hDc hN⟩ rfl rfl hl.1 rfl (lv_room (Nat.le_of_ble_eq_true rfl)) dX8_has_12 ⟨Nat.le_of_ble_eq_true rfl, Nat.le_of_ble_eq_true rfl⟩) hS (fun q h1 h2 => absurd h2 (Nat.not_le.mpr h1)) (fun q h => hA q (Nat.le_trans hS.1 h)) (fun r_3 u t H1 locs ht hvm hw_3 hB hz1 hk1 hS => ?_)
    have hP := keepP hP hk1
    clear hz1 hk1 hB ht hvm hPc hDc hKc
    generalize H1 = H at hP hS ⊢
    rcases fx_bool hw_3 with ⟨rfl, b_4⟩ | ⟨rfl, b_4⟩
    · skip
      refine lv_if_ne (tgt := 20) hx hb dX8_has_15 (by decide) (fun _ => ?_) (fun h => absurd h (by decide))
      obtain ⟨j_5, tj_5, ej_5⟩ := fx_nat (x := n1) (by omega)
      subst ej_5
      have yj_5 : Int32.toInt (nI j_5) = (j_5 : Int) := nI_toInt tj_5
      obtain ⟨j_6, tj_6, ej_6⟩ := fx_nat (x := n2) (by omega)
      subst ej_6
      have yj_6 : Int32.toInt (nI j_6) = (j_6 : Int) := nI_toInt tj_6
      refine lv_aload_n hx hb dX8_has_20 rfl (lv_at hl 0 rfl) ?_
      refine va_get (D := (dC, dI)) (ci := 7) (v := .ref p2) (C := RX8) (T := TX8) (N := 6) hx hb hts inB_8 hown hK hP 0 rfl rfl 1 (by decide) (hts _ mw_1_169) (fun _ h9 => h9) rfl dX8_has_21 ?_
      have hPc := hP.sub (ws' := [(p2, .inr (2, [.ref d0, .int (nI pn)])), (d0, .inl (kd0, 12, .inl fps))]) [2, 3] rfl
      have hDc := hD.sub (ws' := [(p2, .inr (2, [.ref d0, .int (nI pn)])), (d0, .inl (kd0, 12, .inl fps))]) [2, 3] (by decide) rfl
      have hKc := hK.sub (tys' := [(kd0, .char)]) [0] rfl
      refine va_calli (va_runV (As := []) (rest := []) ⟨hx, hb, hml, hown, hts⟩ (c_pFault l dC dI H.size p2 d0 pn kd0 fps hpn) (cwV 0 hts (gV mw_2_86 mw_2_87 mw_2_88 mw_1_4 mw_2_89) rfl rfl rfl (by decide +kernel) ⟨Nat.le_of_ble_eq_true rfl, Nat.le_of_ble_eq_true rfl⟩) ⟨pcW_blind, va_recv hKc hPc (ci := 2) (q0 := 0) rfl rfl, pcW_at hPc hKc hDc hN⟩ rfl rfl hl.1 rfl (lv_room (Nat.le_of_ble_eq_true rfl)) dX8_has_24 ⟨Nat.le_of_ble_eq_true rfl, Nat.le_of_ble_eq_true rfl⟩) hS (fun q h1 h2 => absurd h2 (Nat.not_le.mpr h1)) (fun q h => hA q (Nat.le_trans hS.1 h)) (fun r_7 u t H1 locs ht hvm hw_7 hB hz1 hk1 hS => ?_)
      have hP := keepP hP hk1
      clear hz1 hk1 hB ht hvm hPc hDc hKc
      generalize H1 = H at hP hS ⊢
      obtain rfl : r_7 = (fltF fps pn) := hw_7
      refine lv_bipush (v := (-6)) hx hb dX8_has_27 (by decide) ?_
      refine lv_icmp_eq (tgt := 35) hx hb dX8_has_29 (by decide) (fun c_8 => ?_) (fun c_8 => ?_)
      · have b_9 := gx_eq (X := (Int32.toInt (fltF fps pn))) (C := (-6)) rfl (by decide) c_8
        refine lv_aload_n hx hb dX8_has_35 rfl (lv_at hl 0 rfl) ?_
        refine va_get (D := (dC, dI)) (ci := 7) (v := .ref p3) (C := RX8) (T := TX8) (N := 6) hx hb hts inB_8 hown hK hP 0 rfl rfl 2 (by decide) (hts _ mw_1_170) (fun _ h9 => h9) rfl dX8_has_36 ?_
        refine lv_iload_n hx hb dX8_has_39 rfl (lv_at hl 1 rfl) ?_
        refine lv_iload_n hx hb dX8_has_40 rfl (lv_at hl 2 rfl) ?_
        have hPc := hP.sub (ws' := [(p3, .inr (0, [.ref e0, .ref e1, .ref e2])), (e0, .inl (ke0, 8, .inl fo))]) [4, 5] rfl
        have hDc := hD.sub (ws' := [(p3, .inr (0, [.ref e0, .ref e1, .ref e2])), (e0, .inl (ke0, 8, .inl fo))]) [4, 5] (by decide) rfl
        have hKc := hK.sub (tys' := [(ke0, .int)]) [1] rfl
        refine va_calli (va_runV (As := [.int (nI j_5), .int (nI j_6)]) (rest := []) ⟨hx, hb, hml, hown, hts⟩ (c_isOwn l dC dI H.size p3 e0 (.ref e1) (.ref e2) ke0 fo j_5 j_6 (by omega) (by omega)) (cwV 2 hts (gV mw_2_100 mw_2_101 mw_2_102 mw_1_5 mw_2_103) rfl rfl rfl (by decide +kernel) ⟨Nat.le_of_ble_eq_true rfl, Nat.le_of_ble_eq_true rfl⟩) ⟨pcW_blind, va_recv hKc hPc (ci := 0) (q0 := 0) rfl rfl, pcW_at hPc hKc hDc hN⟩ rfl rfl hl.1 rfl (lv_room (Nat.le_of_ble_eq_true rfl)) dX8_has_41 ⟨Nat.le_of_ble_eq_true rfl, Nat.le_of_ble_eq_true rfl⟩) hS (fun q h1 h2 => absurd h2 (Nat.not_le.mpr h1)) (fun q h => hA q (Nat.le_trans hS.1 h)) (fun r_10 u t H1 locs ht hvm hw_10 hB hz1 hk1 hS => ?_)
        have hP := keepP hP hk1
        clear hz1 hk1 hB ht hvm hPc hDc hKc
        generalize H1 = H at hP hS ⊢
        rcases fx_bool hw_10 with ⟨rfl, b_11⟩ | ⟨rfl, b_11⟩
        · skip
          refine lv_if_eq (tgt := 51) hx hb dX8_has_44 (by decide) (fun h => absurd h (by decide)) (fun _ => ?_)
          refine lv_iconst (v := 0) hx hb dX8_has_47 (by decide) ?_
          refine lv_goto (tgt := 52) hx hb dX8_has_48 (by decide) ?_
          refine lv_istore_n (lv' := [(3, .int 0), (0, .ref h0), (1, .int (nI j_5)), (2, .int (nI j_6))]) hx hb dX8_has_52 rfl hl (by decide) rfl (fun ls hl => ?_)
          refine lv_aload_n hx hb dX8_has_53 rfl (lv_at hl 1 rfl) ?_
          refine va_get (D := (dC, dI)) (ci := 7) (v := .ref p3) (C := RX8) (T := TX8) (N := 6) hx hb hts inB_8 hown hK hP 0 rfl rfl 2 (by decide) (hts _ mw_1_170) (fun _ h9 => h9) rfl dX8_has_54 ?_
          refine lv_iload_n hx hb dX8_has_57 rfl (lv_at hl 2 rfl) ?_
          refine lv_iload_n hx hb dX8_has_58 rfl (lv_at hl 3 rfl) ?_
          refine lv_aload_n hx hb dX8_has_59 rfl (lv_at hl 1 rfl) ?_
          refine va_get (D := (dC, dI)) (ci := 7) (v := .ref p2) (C := RX8) (T := TX8) (N := 6) hx hb hts inB_8 hown hK hP 0 rfl rfl 1 (by decide) (hts _ mw_1_169) (fun _ h9 => h9) rfl dX8_has_60 ?_
          have hPc := hP.sub (ws' := [(p3, .inr (0, [.ref e0, .ref e1, .ref e2])), (e0, .inl (ke0, 8, .inl fo)), (e1, .inl (ke1, 80, .inl fbl)), (e2, .inl (ke2, 960, .inl fbs)), (p2, .inr (2, [.ref d0, .int (nI pn)])), (d0, .inl (kd0, 12, .inl fps))]) [4, 5, 6, 7, 2, 3] rfl
          have hDc := hD.sub (ws' := [(p3, .inr (0, [.ref e0, .ref e1, .ref e2])), (e0, .inl (ke0, 8, .inl fo)), (e1, .inl (ke1, 80, .inl fbl)), (e2, .inl (ke2, 960, .inl fbs)), (p2, .inr (2, [.ref d0, .int (nI pn)])), (d0, .inl (kd0, 12, .inl fps))]) [4, 5, 6, 7, 2, 3] (by decide) rfl
          have hKc := hK.sub (tys' := [(ke0, .int), (ke1, .int), (ke2, .char), (kd0, .char)]) [1, 2, 3, 0] rfl
          have hFc := va_free (wc := [(p3, .inr (0, [.ref e0, .ref e1, .ref e2])), (e0, .inl (ke0, 8, .inl fo)), (e1, .inl (ke1, 80, .inl fbl)), (e2, .inl (ke2, 960, .inl fbs)), (p2, .inr (2, [.ref d0, .int (nI pn)])), (d0, .inl (kd0, 12, .inl fps))]) hD hS hA [4, 5, 6, 7, 2, 3] rfl
          refine va_callv (va_runV (As := [.int (nI j_5), .int (nI j_6), .ref p2]) (rest := []) ⟨hx, hb, hml, hown, hts⟩ (c_give l dC dI H.size p3 e0 e1 e2 ke0 fo ke1 fbl ke2 fbs p2 d0 pn kd0 fps j_5 j_6 hbl hbs hpn hch (by omega) (by omega)) (cwV 3 hts (gV mw_2_110 mw_2_111 mw_2_112 mw_1_5 mw_2_113) rfl rfl rfl (by decide +kernel) ⟨Nat.le_of_ble_eq_true rfl, Nat.le_of_ble_eq_true rfl⟩) ⟨pcW_blind, va_recv hKc hPc (ci := 0) (q0 := 0) rfl rfl, pcW_at hPc hKc hDc hN⟩ rfl rfl hl.1 rfl (lv_room (Nat.le_of_ble_eq_true rfl)) dX8_has_63 ⟨Nat.le_of_ble_eq_true rfl, Nat.le_of_ble_eq_true rfl⟩) hS (fun q _ h => hFc q h) hFc (fun u t H1 locs ht hvm hw_12 hB hz1 hk1 hS => ?_)
          obtain ⟨f_13, f_14, f_15, p_16, p_17, p_18, p_19, p_20, hP1, hK1, hD1⟩ := hB
          rw [ht] at hP1
          have hK1 := va_K.moved hvm.symm hK1
          obtain ⟨hP, hD⟩ := va_join (wr := [(h0, .inr (7, [.ref p1, .ref p2, .ref p3, u3, u4, u5])), (p1, .inr (1, [w0, w1, w2, w3, w4, w5, .int (nI cn), .int bb]))]) (w1 := [(p3, .inr (0, [.ref e0, .ref e1, .ref e2])), (e0, .inl (ke0, 8, .inl f_13)), (e1, .inl (ke1, 80, .inl f_14)), (e2, .inl (ke2, 960, .inl f_15)), (p2, .inr (2, [.ref d0, .int (nI pn)])), (d0, .inl (kd0, 12, .inl fps))]) hP hD [4, 5, 6, 7, 2, 3] [0, 1] rfl rfl (by decide) (by decide) hk1 hFc hP1 hD1
          have hK := (hK.sub (tys' := []) [] rfl).app hK1
          clear hz1 hk1 hPc hDc hKc hFc
          generalize H1 = H at hP hS ⊢
          have hK : va_K (dC, dI) vwCl [(ke0, .int), (ke1, .int), (ke2, .char), (kd0, .char)] s := hK
          have hP : va_P (dC, dI) vwCl [(h0, .inr (7, [.ref p1, .ref p2, .ref p3, u3, u4, u5])), (p1, .inr (1, [w0, w1, w2, w3, w4, w5, .int (nI cn), .int bb])), (p3, .inr (0, [.ref e0, .ref e1, .ref e2])), (e0, .inl (ke0, 8, .inl f_13)), (e1, .inl (ke1, 80, .inl f_14)), (e2, .inl (ke2, 960, .inl f_15)), (p2, .inr (2, [.ref d0, .int (nI pn)])), (d0, .inl (kd0, 12, .inl fps))] H := hP
          have hD : va_D A [(h0, .inr (7, [.ref p1, .ref p2, .ref p3, u3, u4, u5])), (p1, .inr (1, [w0, w1, w2, w3, w4, w5, .int (nI cn), .int bb])), (p3, .inr (0, [.ref e0, .ref e1, .ref e2])), (e0, .inl (ke0, 8, .inl f_13)), (e1, .inl (ke1, 80, .inl f_14)), (e2, .inl (ke2, 960, .inl f_15)), (p2, .inr (2, [.ref d0, .int (nI pn)])), (d0, .inl (kd0, 12, .inl fps))] := hD
          refine lv_aload_n hx hb dX8_has_66 rfl (lv_at hl 1 rfl) ?_
          refine va_get (D := (dC, dI)) (ci := 7) (v := .ref p2) (C := RX8) (T := TX8) (N := 6) hx hb hts inB_8 hown hK hP 0 rfl rfl 1 (by decide) (hts _ mw_1_169) (fun _ h9 => h9) rfl dX8_has_67 ?_
          have hPc := hP.sub (ws' := [(p2, .inr (2, [.ref d0, .int (nI pn)]))]) [6] rfl
          have hDc := hD.sub (ws' := [(p2, .inr (2, [.ref d0, .int (nI pn)]))]) [6] (by decide) rfl
          have hKc := hK.sub (tys' := []) [] rfl
          have hFc := va_free (wc := [(p2, .inr (2, [.ref d0, .int (nI pn)]))]) hD hS hA [6] rfl
          refine va_calli (va_runV (As := []) (rest := []) ⟨hx, hb, hml, hown, hts⟩ (c_pEmpty l dC dI H.size p2 (.ref d0) pn ) (cwV 0 hts (gV mw_2_78 mw_2_79 mw_2_80 mw_1_4 mw_2_81) rfl rfl rfl (by decide +kernel) ⟨Nat.le_of_ble_eq_true rfl, Nat.le_of_ble_eq_true rfl⟩) ⟨pcW_blind, va_recv hKc hPc (ci := 2) (q0 := 0) rfl rfl, pcW_at hPc hKc hDc hN⟩ rfl rfl hl.1 rfl (lv_room (Nat.le_of_ble_eq_true rfl)) dX8_has_70 ⟨Nat.le_of_ble_eq_true rfl, Nat.le_of_ble_eq_true rfl⟩) hS (fun q _ h => hFc q h) hFc (fun r_21 u t H1 locs ht hvm hw_21 hB hz1 hk1 hS => ?_)
          obtain ⟨hP1, hK1, hD1⟩ := hB
          rw [ht] at hP1
          have hK1 := va_K.moved hvm.symm hK1
          obtain ⟨hP, hD⟩ := va_join (wr := [(h0, .inr (7, [.ref p1, .ref p2, .ref p3, u3, u4, u5])), (p1, .inr (1, [w0, w1, w2, w3, w4, w5, .int (nI cn), .int bb])), (p3, .inr (0, [.ref e0, .ref e1, .ref e2])), (e0, .inl (ke0, 8, .inl f_13)), (e1, .inl (ke1, 80, .inl f_14)), (e2, .inl (ke2, 960, .inl f_15)), (d0, .inl (kd0, 12, .inl fps))]) (w1 := [(p2, .inr (2, [.ref d0, .int 0]))]) hP hD [6] [0, 1, 2, 3, 4, 5, 7] rfl rfl (by decide) (by decide) hk1 hFc hP1 hD1
          have hK := (hK.sub (tys' := [(ke0, .int), (ke1, .int), (ke2, .char), (kd0, .char)]) [0, 1, 2, 3] rfl).app hK1
          clear hz1 hk1 hPc hDc hKc hFc
          generalize H1 = H at hP hS ⊢
          have hK : va_K (dC, dI) vwCl [(ke0, .int), (ke1, .int), (ke2, .char), (kd0, .char)] s := hK
          have hP : va_P (dC, dI) vwCl [(h0, .inr (7, [.ref p1, .ref p2, .ref p3, u3, u4, u5])), (p1, .inr (1, [w0, w1, w2, w3, w4, w5, .int (nI cn), .int bb])), (p3, .inr (0, [.ref e0, .ref e1, .ref e2])), (e0, .inl (ke0, 8, .inl f_13)), (e1, .inl (ke1, 80, .inl f_14)), (e2, .inl (ke2, 960, .inl f_15)), (d0, .inl (kd0, 12, .inl fps)), (p2, .inr (2, [.ref d0, .int 0]))] H := hP
          have hD : va_D A [(h0, .inr (7, [.ref p1, .ref p2, .ref p3, u3, u4, u5])), (p1, .inr (1, [w0, w1, w2, w3, w4, w5, .int (nI cn), .int bb])), (p3, .inr (0, [.ref e0, .ref e1, .ref e2])), (e0, .inl (ke0, 8, .inl f_13)), (e1, .inl (ke1, 80, .inl f_14)), (e2, .inl (ke2, 960, .inl f_15)), (d0, .inl (kd0, 12, .inl fps)), (p2, .inr (2, [.ref d0, .int 0]))] := hD
          obtain rfl : r_21 = nI pn := hw_21
          refine lv_pop hx hb dX8_has_73 rfl ?_
          refine lv_iload_n hx hb dX8_has_74 rfl (lv_at hl 0 rfl) ?_
          have hP9 := hP.sub (ws' := [(h0, .inr (7, [.ref p1, .ref p2, .ref p3, u3, u4, u5])), (p1, .inr (1, [w0, w1, w2, w3, w4, w5, .int (nI cn), .int bb])), (p2, .inr (2, [.ref d0, .int 0])), (d0, .inl (kd0, 12, .inl fps)), (p3, .inr (0, [.ref e0, .ref e1, .ref e2])), (e0, .inl (ke0, 8, .inl f_13)), (e1, .inl (ke1, 80, .inl f_14)), (e2, .inl (ke2, 960, .inl f_15))]) [0, 1, 7, 6, 2, 3, 4, 5] rfl
          have hD9 := hD.sub (ws' := [(h0, .inr (7, [.ref p1, .ref p2, .ref p3, u3, u4, u5])), (p1, .inr (1, [w0, w1, w2, w3, w4, w5, .int (nI cn), .int bb])), (p2, .inr (2, [.ref d0, .int 0])), (d0, .inl (kd0, 12, .inl fps)), (p3, .inr (0, [.ref e0, .ref e1, .ref e2])), (e0, .inl (ke0, 8, .inl f_13)), (e1, .inl (ke1, 80, .inl f_14)), (e2, .inl (ke2, 960, .inl f_15))]) [0, 1, 7, 6, 2, 3, 4, 5] (by decide) rfl
          have hK9 := hK.sub (tys' := [(kd0, .char), (ke0, .int), (ke1, .int), (ke2, .char)]) [3, 0, 1, 2] rfl
          exact W.iret (v := 0) hx hb hr (fun t ht hW => ⟨⟨0, (), rfl, (by unfold F_has; rw [if_pos (by omega), if_pos (by omega), nI_clamp (by omega), nI_clamp (by omega), if_pos b_11]), 0, f_13, f_14, f_15, (by omega), p_16, p_17, (fun h => absurd (show HasG _ _ _ _ from by unfold HasG; omega) h), (fun _ => rfl), (fun _ => (by rw [nI_clamp (by omega)]; exact p_18)), (fun _ => (by rw [nI_clamp (by omega), nI_clamp (by omega)]; exact p_19)), (fun _ => (by rw [nI_clamp (by omega), nI_clamp (by omega)]; exact p_20)), by rw [ht]; exact hP9, va_K.moved hW.alike hK9, hD9⟩, hS.F ht⟩) hS.2.2 dX8_has_75
        · skip
          refine lv_if_eq (tgt := 51) hx hb dX8_has_44 (by decide) (fun _ => ?_) (fun h => absurd (by decide) h)
          refine lv_iconst (v := 1) hx hb dX8_has_51 (by decide) ?_
          refine lv_istore_n (lv' := [(3, .int 1), (0, .ref h0), (1, .int (nI j_5)), (2, .int (nI j_6))]) hx hb dX8_has_52 rfl hl (by decide) rfl (fun ls hl => ?_)
          refine lv_aload_n hx hb dX8_has_53 rfl (lv_at hl 1 rfl) ?_
          refine va_get (D := (dC, dI)) (ci := 7) (v := .ref p3) (C := RX8) (T := TX8) (N := 6) hx hb hts inB_8 hown hK hP 0 rfl rfl 2 (by decide) (hts _ mw_1_170) (fun _ h9 => h9) rfl dX8_has_54 ?_
          refine lv_iload_n hx hb dX8_has_57 rfl (lv_at hl 2 rfl) ?_
          refine lv_iload_n hx hb dX8_has_58 rfl (lv_at hl 3 rfl) ?_
          refine lv_aload_n hx hb dX8_has_59 rfl (lv_at hl 1 rfl) ?_
          refine va_get (D := (dC, dI)) (ci := 7) (v := .ref p2) (C := RX8) (T := TX8) (N := 6) hx hb hts inB_8 hown hK hP 0 rfl rfl 1 (by decide) (hts _ mw_1_169) (fun _ h9 => h9) rfl dX8_has_60 ?_
          have hPc := hP.sub (ws' := [(p3, .inr (0, [.ref e0, .ref e1, .ref e2])), (e0, .inl (ke0, 8, .inl fo)), (e1, .inl (ke1, 80, .inl fbl)), (e2, .inl (ke2, 960, .inl fbs)), (p2, .inr (2, [.ref d0, .int (nI pn)])), (d0, .inl (kd0, 12, .inl fps))]) [4, 5, 6, 7, 2, 3] rfl
          have hDc := hD.sub (ws' := [(p3, .inr (0, [.ref e0, .ref e1, .ref e2])), (e0, .inl (ke0, 8, .inl fo)), (e1, .inl (ke1, 80, .inl fbl)), (e2, .inl (ke2, 960, .inl fbs)), (p2, .inr (2, [.ref d0, .int (nI pn)])), (d0, .inl (kd0, 12, .inl fps))]) [4, 5, 6, 7, 2, 3] (by decide) rfl
          have hKc := hK.sub (tys' := [(ke0, .int), (ke1, .int), (ke2, .char), (kd0, .char)]) [1, 2, 3, 0] rfl
          have hFc := va_free (wc := [(p3, .inr (0, [.ref e0, .ref e1, .ref e2])), (e0, .inl (ke0, 8, .inl fo)), (e1, .inl (ke1, 80, .inl fbl)), (e2, .inl (ke2, 960, .inl fbs)), (p2, .inr (2, [.ref d0, .int (nI pn)])), (d0, .inl (kd0, 12, .inl fps))]) hD hS hA [4, 5, 6, 7, 2, 3] rfl
          refine va_callv (va_runV (As := [.int (nI j_5), .int (nI j_6), .ref p2]) (rest := []) ⟨hx, hb, hml, hown, hts⟩ (c_give l dC dI H.size p3 e0 e1 e2 ke0 fo ke1 fbl ke2 fbs p2 d0 pn kd0 fps j_5 j_6 hbl hbs hpn hch (by omega) (by omega)) (cwV 3 hts (gV mw_2_110 mw_2_111 mw_2_112 mw_1_5 mw_2_113) rfl rfl rfl (by decide +kernel) ⟨Nat.le_of_ble_eq_true rfl, Nat.le_of_ble_eq_true rfl⟩) ⟨pcW_blind, va_recv hKc hPc (ci := 0) (q0 := 0) rfl rfl, pcW_at hPc hKc hDc hN⟩ rfl rfl hl.1 rfl (lv_room (Nat.le_of_ble_eq_true rfl)) dX8_has_63 ⟨Nat.le_of_ble_eq_true rfl, Nat.le_of_ble_eq_true rfl⟩) hS (fun q _ h => hFc q h) hFc (fun u t H1 locs ht hvm hw_22 hB hz1 hk1 hS => ?_)
          obtain ⟨f_23, f_24, f_25, p_26, p_27, p_28, p_29, p_30, hP1, hK1, hD1⟩ := hB
          rw [ht] at hP1
          have hK1 := va_K.moved hvm.symm hK1
          obtain ⟨hP, hD⟩ := va_join (wr := [(h0, .inr (7, [.ref p1, .ref p2, .ref p3, u3, u4, u5])), (p1, .inr (1, [w0, w1, w2, w3, w4, w5, .int (nI cn), .int bb]))]) (w1 := [(p3, .inr (0, [.ref e0, .ref e1, .ref e2])), (e0, .inl (ke0, 8, .inl f_23)), (e1, .inl (ke1, 80, .inl f_24)), (e2, .inl (ke2, 960, .inl f_25)), (p2, .inr (2, [.ref d0, .int (nI pn)])), (d0, .inl (kd0, 12, .inl fps))]) hP hD [4, 5, 6, 7, 2, 3] [0, 1] rfl rfl (by decide) (by decide) hk1 hFc hP1 hD1
          have hK := (hK.sub (tys' := []) [] rfl).app hK1
          clear hz1 hk1 hPc hDc hKc hFc
          generalize H1 = H at hP hS ⊢
          have hK : va_K (dC, dI) vwCl [(ke0, .int), (ke1, .int), (ke2, .char), (kd0, .char)] s := hK
          have hP : va_P (dC, dI) vwCl [(h0, .inr (7, [.ref p1, .ref p2, .ref p3, u3, u4, u5])), (p1, .inr (1, [w0, w1, w2, w3, w4, w5, .int (nI cn), .int bb])), (p3, .inr (0, [.ref e0, .ref e1, .ref e2])), (e0, .inl (ke0, 8, .inl f_23)), (e1, .inl (ke1, 80, .inl f_24)), (e2, .inl (ke2, 960, .inl f_25)), (p2, .inr (2, [.ref d0, .int (nI pn)])), (d0, .inl (kd0, 12, .inl fps))] H := hP
          have hD : va_D A [(h0, .inr (7, [.ref p1, .ref p2, .ref p3, u3, u4, u5])), (p1, .inr (1, [w0, w1, w2, w3, w4, w5, .int (nI cn), .int bb])), (p3, .inr (0, [.ref e0, .ref e1, .ref e2])), (e0, .inl (ke0, 8, .inl f_23)), (e1, .inl (ke1, 80, .inl f_24)), (e2, .inl (ke2, 960, .inl f_25)), (p2, .inr (2, [.ref d0, .int (nI pn)])), (d0, .inl (kd0, 12, .inl fps))] := hD
          refine lv_aload_n hx hb dX8_has_66 rfl (lv_at hl 1 rfl) ?_
          refine va_get (D := (dC, dI)) (ci := 7) (v := .ref p2) (C := RX8) (T := TX8) (N := 6) hx hb hts inB_8 hown hK hP 0 rfl rfl 1 (by decide) (hts _ mw_1_169) (fun _ h9 => h9) rfl dX8_has_67 ?_
          have hPc := hP.sub (ws' := [(p2, .inr (2, [.ref d0, .int (nI pn)]))]) [6] rfl
          have hDc := hD.sub (ws' := [(p2, .inr (2, [.ref d0, .int (nI pn)]))]) [6] (by decide) rfl
          have hKc := hK.sub (tys' := []) [] rfl
          have hFc := va_free (wc := [(p2, .inr (2, [.ref d0, .int (nI pn)]))]) hD hS hA [6] rfl
          refine va_calli (va_runV (As := []) (rest := []) ⟨hx, hb, hml, hown, hts⟩ (c_pEmpty l dC dI H.size p2 (.ref d0) pn ) (cwV 0 hts (gV mw_2_78 mw_2_79 mw_2_80 mw_1_4 mw_2_81) rfl rfl rfl (by decide +kernel) ⟨Nat.le_of_ble_eq_true rfl, Nat.le_of_ble_eq_true rfl⟩) ⟨pcW_blind, va_recv hKc hPc (ci := 2) (q0 := 0) rfl rfl, pcW_at hPc hKc hDc hN⟩ rfl rfl hl.1 rfl (lv_room (Nat.le_of_ble_eq_true rfl)) dX8_has_70 ⟨Nat.le_of_ble_eq_true rfl, Nat.le_of_ble_eq_true rfl⟩) hS (fun q _ h => hFc q h) hFc (fun r_31 u t H1 locs ht hvm hw_31 hB hz1 hk1 hS => ?_)
          obtain ⟨hP1, hK1, hD1⟩ := hB
          rw [ht] at hP1
          have hK1 := va_K.moved hvm.symm hK1
          obtain ⟨hP, hD⟩ := va_join (wr := [(h0, .inr (7, [.ref p1, .ref p2, .ref p3, u3, u4, u5])), (p1, .inr (1, [w0, w1, w2, w3, w4, w5, .int (nI cn), .int bb])), (p3, .inr (0, [.ref e0, .ref e1, .ref e2])), (e0, .inl (ke0, 8, .inl f_23)), (e1, .inl (ke1, 80, .inl f_24)), (e2, .inl (ke2, 960, .inl f_25)), (d0, .inl (kd0, 12, .inl fps))]) (w1 := [(p2, .inr (2, [.ref d0, .int 0]))]) hP hD [6] [0, 1, 2, 3, 4, 5, 7] rfl rfl (by decide) (by decide) hk1 hFc hP1 hD1
          have hK := (hK.sub (tys' := [(ke0, .int), (ke1, .int), (ke2, .char), (kd0, .char)]) [0, 1, 2, 3] rfl).app hK1
          clear hz1 hk1 hPc hDc hKc hFc
          generalize H1 = H at hP hS ⊢
          have hK : va_K (dC, dI) vwCl [(ke0, .int), (ke1, .int), (ke2, .char), (kd0, .char)] s := hK
          have hP : va_P (dC, dI) vwCl [(h0, .inr (7, [.ref p1, .ref p2, .ref p3, u3, u4, u5])), (p1, .inr (1, [w0, w1, w2, w3, w4, w5, .int (nI cn), .int bb])), (p3, .inr (0, [.ref e0, .ref e1, .ref e2])), (e0, .inl (ke0, 8, .inl f_23)), (e1, .inl (ke1, 80, .inl f_24)), (e2, .inl (ke2, 960, .inl f_25)), (d0, .inl (kd0, 12, .inl fps)), (p2, .inr (2, [.ref d0, .int 0]))] H := hP
          have hD : va_D A [(h0, .inr (7, [.ref p1, .ref p2, .ref p3, u3, u4, u5])), (p1, .inr (1, [w0, w1, w2, w3, w4, w5, .int (nI cn), .int bb])), (p3, .inr (0, [.ref e0, .ref e1, .ref e2])), (e0, .inl (ke0, 8, .inl f_23)), (e1, .inl (ke1, 80, .inl f_24)), (e2, .inl (ke2, 960, .inl f_25)), (d0, .inl (kd0, 12, .inl fps)), (p2, .inr (2, [.ref d0, .int 0]))] := hD
          obtain rfl : r_31 = nI pn := hw_31
          refine lv_pop hx hb dX8_has_73 rfl ?_
          refine lv_iload_n hx hb dX8_has_74 rfl (lv_at hl 0 rfl) ?_
          have hP9 := hP.sub (ws' := [(h0, .inr (7, [.ref p1, .ref p2, .ref p3, u3, u4, u5])), (p1, .inr (1, [w0, w1, w2, w3, w4, w5, .int (nI cn), .int bb])), (p2, .inr (2, [.ref d0, .int 0])), (d0, .inl (kd0, 12, .inl fps)), (p3, .inr (0, [.ref e0, .ref e1, .ref e2])), (e0, .inl (ke0, 8, .inl f_23)), (e1, .inl (ke1, 80, .inl f_24)), (e2, .inl (ke2, 960, .inl f_25))]) [0, 1, 7, 6, 2, 3, 4, 5] rfl
          have hD9 := hD.sub (ws' := [(h0, .inr (7, [.ref p1, .ref p2, .ref p3, u3, u4, u5])), (p1, .inr (1, [w0, w1, w2, w3, w4, w5, .int (nI cn), .int bb])), (p2, .inr (2, [.ref d0, .int 0])), (d0, .inl (kd0, 12, .inl fps)), (p3, .inr (0, [.ref e0, .ref e1, .ref e2])), (e0, .inl (ke0, 8, .inl f_23)), (e1, .inl (ke1, 80, .inl f_24)), (e2, .inl (ke2, 960, .inl f_25))]) [0, 1, 7, 6, 2, 3, 4, 5] (by decide) rfl
          have hK9 := hK.sub (tys' := [(kd0, .char), (ke0, .int), (ke1, .int), (ke2, .char)]) [3, 0, 1, 2] rfl
          exact W.iret (v := 1) hx hb hr (fun t ht hW => ⟨⟨1, (), rfl, (by unfold F_has; rw [if_pos (by omega), if_pos (by omega), nI_clamp (by omega), nI_clamp (by omega), if_neg b_11]), 0, f_23, f_24, f_25, (by omega), p_26, p_27, (fun h => absurd (show HasG _ _ _ _ from by unfold HasG; omega) h), (fun _ => rfl), (fun _ => (by rw [nI_clamp (by omega)]; exact p_28)), (fun _ => (by rw [nI_clamp (by omega), nI_clamp (by omega)]; exact p_29)), (fun _ => (by rw [nI_clamp (by omega), nI_clamp (by omega)]; exact p_30)), by rw [ht]; exact hP9, va_K.moved hW.alike hK9, hD9⟩, hS.F ht⟩) hS.2.2 dX8_has_75
      · have b_9 := gn_eq (X := (Int32.toInt (fltF fps pn))) (C := (-6)) rfl (by decide) c_8
        refine lv_bipush (v := (-5)) hx hb dX8_has_32 (by decide) ?_
        have hP9 := hP.sub (ws' := [(h0, .inr (7, [.ref p1, .ref p2, .ref p3, u3, u4, u5])), (p1, .inr (1, [w0, w1, w2, w3, w4, w5, .int (nI cn), .int bb])), (p2, .inr (2, [.ref d0, .int (nI pn)])), (d0, .inl (kd0, 12, .inl fps)), (p3, .inr (0, [.ref e0, .ref e1, .ref e2])), (e0, .inl (ke0, 8, .inl fo)), (e1, .inl (ke1, 80, .inl fbl)), (e2, .inl (ke2, 960, .inl fbs))]) [0, 1, 2, 3, 4, 5, 6, 7] rfl
        have hD9 := hD.sub (ws' := [(h0, .inr (7, [.ref p1, .ref p2, .ref p3, u3, u4, u5])), (p1, .inr (1, [w0, w1, w2, w3, w4, w5, .int (nI cn), .int bb])), (p2, .inr (2, [.ref d0, .int (nI pn)])), (d0, .inl (kd0, 12, .inl fps)), (p3, .inr (0, [.ref e0, .ref e1, .ref e2])), (e0, .inl (ke0, 8, .inl fo)), (e1, .inl (ke1, 80, .inl fbl)), (e2, .inl (ke2, 960, .inl fbs))]) [0, 1, 2, 3, 4, 5, 6, 7] (by decide) rfl
        have hK9 := hK.sub (tys' := [(kd0, .char), (ke0, .int), (ke1, .int), (ke2, .char)]) [0, 1, 2, 3] rfl
        exact W.iret (v := (-5)) hx hb hr (fun t ht hW => ⟨⟨(-5), (), rfl, (by unfold F_has; rw [if_pos (by omega), if_neg (by omega)]), pn, fo, fbl, fbs, hpn, hbl, hbs, (fun _ => ⟨rfl, rfl, rfl, rfl⟩), (fun h => absurd h (by unfold HasG; omega)), (fun h => absurd h (by unfold HasG; omega)), (fun h => absurd h (by unfold HasG; omega)), (fun h => absurd h (by unfold HasG; omega)), by rw [ht]; exact hP9, va_K.moved hW.alike hK9, hD9⟩, hS.F ht⟩) hS.2.2 dX8_has_34
    · skip
      refine lv_if_ne (tgt := 20) hx hb dX8_has_15 (by decide) (fun h => absurd h (by decide)) (fun _ => ?_)
      refine lv_iconst (v := (-1)) hx hb dX8_has_18 (by decide) ?_
      have hP9 := hP.sub (ws' := [(h0, .inr (7, [.ref p1, .ref p2, .ref p3, u3, u4, u5])), (p1, .inr (1, [w0, w1, w2, w3, w4, w5, .int (nI cn), .int bb])), (p2, .inr (2, [.ref d0, .int (nI pn)])), (d0, .inl (kd0, 12, .inl fps)), (p3, .inr (0, [.ref e0, .ref e1, .ref e2])), (e0, .inl (ke0, 8, .inl fo)), (e1, .inl (ke1, 80, .inl fbl)), (e2, .inl (ke2, 960, .inl fbs))]) [0, 1, 2, 3, 4, 5, 6, 7] rfl
      have hD9 := hD.sub (ws' := [(h0, .inr (7, [.ref p1, .ref p2, .ref p3, u3, u4, u5])), (p1, .inr (1, [w0, w1, w2, w3, w4, w5, .int (nI cn), .int bb])), (p2, .inr (2, [.ref d0, .int (nI pn)])), (d0, .inl (kd0, 12, .inl fps)), (p3, .inr (0, [.ref e0, .ref e1, .ref e2])), (e0, .inl (ke0, 8, .inl fo)), (e1, .inl (ke1, 80, .inl fbl)), (e2, .inl (ke2, 960, .inl fbs))]) [0, 1, 2, 3, 4, 5, 6, 7] (by decide) rfl
      have hK9 := hK.sub (tys' := [(kd0, .char), (ke0, .int), (ke1, .int), (ke2, .char)]) [0, 1, 2, 3] rfl
      exact W.iret (v := (-1)) hx hb hr (fun t ht hW => ⟨⟨(-1), (), rfl, (by unfold F_has; rw [if_neg (by omega)]), pn, fo, fbl, fbs, hpn, hbl, hbs, (fun _ => ⟨rfl, rfl, rfl, rfl⟩), (fun h => absurd h (by unfold HasG; omega)), (fun h => absurd h (by unfold HasG; omega)), (fun h => absurd h (by unfold HasG; omega)), (fun h => absurd h (by unfold HasG; omega)), by rw [ht]; exact hP9, va_K.moved hW.alike hK9, hD9⟩, hS.F ht⟩) hS.2.2 dX8_has_19
  · skip
    refine lv_if_eq (tgt := 18) hx hb dX8_has_8 (by decide) (fun _ => ?_) (fun h => absurd (by decide) h)
    refine lv_iconst (v := (-1)) hx hb dX8_has_18 (by decide) ?_
    have hP9 := hP.sub (ws' := [(h0, .inr (7, [.ref p1, .ref p2, .ref p3, u3, u4, u5])), (p1, .inr (1, [w0, w1, w2, w3, w4, w5, .int (nI cn), .int bb])), (p2, .inr (2, [.ref d0, .int (nI pn)])), (d0, .inl (kd0, 12, .inl fps)), (p3, .inr (0, [.ref e0, .ref e1, .ref e2])), (e0, .inl (ke0, 8, .inl fo)), (e1, .inl (ke1, 80, .inl fbl)), (e2, .inl (ke2, 960, .inl fbs))]) [0, 1, 2, 3, 4, 5, 6, 7] rfl
    have hD9 := hD.sub (ws' := [(h0, .inr (7, [.ref p1, .ref p2, .ref p3, u3, u4, u5])), (p1, .inr (1, [w0, w1, w2, w3, w4, w5, .int (nI cn), .int bb])), (p2, .inr (2, [.ref d0, .int (nI pn)])), (d0, .inl (kd0, 12, .inl fps)), (p3, .inr (0, [.ref e0, .ref e1, .ref e2])), (e0, .inl (ke0, 8, .inl fo)), (e1, .inl (ke1, 80, .inl fbl)), (e2, .inl (ke2, 960, .inl fbs))]) [0, 1, 2, 3, 4, 5, 6, 7] (by decide) rfl
    have hK9 := hK.sub (tys' := [(kd0, .char), (ke0, .int), (ke1, .int), (ke2, .char)]) [0, 1, 2, 3] rfl
    exact W.iret (v := (-1)) hx hb hr (fun t ht hW => ⟨⟨(-1), (), rfl, (by unfold F_has; rw [if_neg (by omega)]), pn, fo, fbl, fbs, hpn, hbl, hbs, (fun _ => ⟨rfl, rfl, rfl, rfl⟩), (fun h => absurd h (by unfold HasG; omega)), (fun h => absurd h (by unfold HasG; omega)), (fun h => absurd h (by unfold HasG; omega)), (fun h => absurd h (by unfold HasG; omega)), by rw [ht]; exact hP9, va_K.moved hW.alike hK9, hD9⟩, hS.F ht⟩) hS.2.2 dX8_has_19
set_option maxHeartbeats 4000000 in
set_option maxRecDepth 100000 in
theorem x_drop (l : Launch) (dC : Nat → ClassId) (dI : Nat → Nat → Nat) (sz : Nat) (h0 : Nat) (p1 : Nat) (u1 : Value) (p3 : Nat) (u3 : Value) (u4 : Value) (u5 : Value) (w0 : Value) (w1 : Value) (w2 : Value) (w3 : Value) (w4 : Value) (w5 : Value) (cn : Nat) (bb : Int32) (e0 : Nat) (e1 : Nat) (e2 : Nat) (ke0 : ClassId) (fo : Nat → Int32) (ke1 : ClassId) (fbl : Nat → Int32) (ke2 : ClassId) (fbs : Nat → Int32) (n1 : Int32) (n2 : Int32) (hc : cn ≤ 10) (hbl : BdOk 80 12 fbl) : Met l yX8_drop (wq yX8_drop cX8_drop 3 (some .int)) ({ frames := 3, cells := 0, slots := 0, locals := 63 }) (va_Pc [.ref h0, .int n1, .int n2] (pcW dC dI [(ke0, .int), (ke1, .int), (ke2, .char)] [(h0, .inr (7, [.ref p1, u1, .ref p3, u3, u4, u5])), (p1, .inr (1, [w0, w1, w2, w3, w4, w5, .int (nI cn), .int bb])), (p3, .inr (0, [.ref e0, .ref e1, .ref e2])), (e0, .inl (ke0, 8, .inl fo)), (e1, .inl (ke1, 80, .inl fbl)), (e2, .inl (ke2, 960, .inl fbs))] sz)) (va_Qi (fun (r : Int32) (_ : Unit) => r = (F_drop cn (bt (fo n2.toNatClampNeg) n1.toNatClampNeg) (fbl (8 * n1.toNatClampNeg + n2.toNatClampNeg)) n1 n2)) (fun _ t => ∃ (fo2 : Nat → Int32), (¬ DropG cn (bt (fo n2.toNatClampNeg) n1.toNatClampNeg) n1 n2 → fo2 = fo) ∧ (DropG cn (bt (fo n2.toNatClampNeg) n1.toNatClampNeg) n1 n2 → fo2 = upd fo n2.toNatClampNeg (fo n2.toNatClampNeg &&& (((1 : Int32) <<< (n1 &&& 31)) ^^^ (-1)))) ∧ va_P (dC, dI) vwCl [(h0, .inr (7, [.ref p1, u1, .ref p3, u3, u4, u5])), (p1, .inr (1, [w0, w1, w2, w3, w4, w5, .int (nI cn), .int bb])), (p3, .inr (0, [.ref e0, .ref e1, .ref e2])), (e0, .inl (ke0, 8, .inl fo2)), (e1, .inl (ke1, 80, .inl fbl)), (e2, .inl (ke2, 960, .inl fbs))] t.heap ∧ va_K (dC, dI) vwCl [(ke0, .int), (ke1, .int), (ke2, .char)] t ∧ va_D (va_A [(h0, .inr (7, [.ref p1, u1, .ref p3, u3, u4, u5])), (p1, .inr (1, [w0, w1, w2, w3, w4, w5, .int (nI cn), .int bb])), (p3, .inr (0, [.ref e0, .ref e1, .ref e2])), (e0, .inl (ke0, 8, .inl fo)), (e1, .inl (ke1, 80, .inl fbl)), (e2, .inl (ke2, 960, .inl fbs))] sz) [(h0, .inr (7, [.ref p1, u1, .ref p3, u3, u4, u5])), (p1, .inr (1, [w0, w1, w2, w3, w4, w5, .int (nI cn), .int bb])), (p3, .inr (0, [.ref e0, .ref e1, .ref e2])), (e0, .inl (ke0, 8, .inl fo2)), (e1, .inl (ke1, 80, .inl fbl)), (e2, .inl (ke2, 960, .inl fbs))]) (va_A [(h0, .inr (7, [.ref p1, u1, .ref p3, u3, u4, u5])), (p1, .inr (1, [w0, w1, w2, w3, w4, w5, .int (nI cn), .int bb])), (p3, .inr (0, [.ref e0, .ref e1, .ref e2])), (e0, .inl (ke0, 8, .inl fo)), (e1, .inl (ke1, 80, .inl fbl)), (e2, .inl (ke2, 960, .inl fbs))] sz)) 0 0 (va_A [(h0, .inr (7, [.ref p1, u1, .ref p3, u3, u4, u5])), (p1, .inr (1, [w0, w1, w2, w3, w4, w5, .int (nI cn), .int bb])), (p3, .inr (0, [.ref e0, .ref e1, .ref e2])), (e0, .inl (ke0, 8, .inl fo)), (e1, .inl (ke1, 80, .inl fbl)), (e2, .inl (ke2, 960, .inl fbs))] sz) := by
  refine Met.ofW (cc := cX8_drop) (maxL := 3) (ret := (some .int)) (by decide) rfl ?_
  intro p e s m args below meth c s₁ B hml hv
  obtain ⟨rfl, hsz, hN, hP, hK, hD0⟩ := hv
  have hx := B.exec
  have hb := B.bytes
  have hr := B.returns
  have hts0 := atoms_spec (ws := (wq yX8_drop cX8_drop 3 (some .int))) B.pre
  have hts : ∀ w ∈ BG, w.before _ s = true := fun w h => hts0 w (List.mem_cons_of_mem _ h)
  have hown : s.vm.findClass RX8 = some m.cls := findClass_of_methodNamed B.named
  have hlocks := B.notSynchronized
  subst hsz
  have hD := hD0.self (sz := s.heap.size)
  generalize hAe : va_A [(h0, .inr (7, [.ref p1, u1, .ref p3, u3, u4, u5])), (p1, .inr (1, [w0, w1, w2, w3, w4, w5, .int (nI cn), .int bb])), (p3, .inr (0, [.ref e0, .ref e1, .ref e2])), (e0, .inl (ke0, 8, .inl fo)), (e1, .inl (ke1, 80, .inl fbl)), (e2, .inl (ke2, 960, .inl fbs))] s.heap.size = A at hD ⊢
  have hA : ∀ q : Nat, s.heap.size ≤ q → A q := fun q h => by rw [← hAe]; exact Or.inr h
  have hS : va_S A s.heap s.heap [] := va_S.rf
  clear hAe hD0
  have hP : va_P (dC, dI) vwCl [(h0, .inr (7, [.ref p1, u1, .ref p3, u3, u4, u5])), (p1, .inr (1, [w0, w1, w2, w3, w4, w5, .int (nI cn), .int bb])), (p3, .inr (0, [.ref e0, .ref e1, .ref e2])), (e0, .inl (ke0, 8, .inl fo)), (e1, .inl (ke1, 80, .inl fbl)), (e2, .inl (ke2, 960, .inl fbs))] s.heap := hP
  have hl := lv_entry ([.ref h0, .int n1, .int n2]) (n := 3) (Nat.le_of_ble_eq_true rfl)
  rw [lg_entry_eq]
  generalize (lg_sl ([.ref h0, .int n1, .int n2]) ++ List.replicate (3 - (lg_sl ([.ref h0, .int n1, .int n2])).length) Slot.unset).toArray = ls at hl ⊢
  have hl : lv_has ls 3 [(0, .ref h0), (1, .int n1), (2, .int n2)] := hl
  refine lv_aload_n hx hb dX8_drop_0 rfl (lv_at hl 0 rfl) ?_
  refine va_get (D := (dC, dI)) (ci := 7) (v := .ref p1) (C := RX8) (T := TX8) (N := 6) hx hb hts inB_8 hown hK hP 0 rfl rfl 0 (by decide) (hts _ mw_1_168) (fun _ h9 => h9) rfl dX8_drop_1 ?_
  refine lv_iload_n hx hb dX8_drop_4 rfl (lv_at hl 1 rfl) ?_
  have hPc := hP.sub (ws' := [(p1, .inr (1, [w0, w1, w2, w3, w4, w5, .int (nI cn), .int bb]))]) [1] rfl
  have hDc := hD.sub (ws' := [(p1, .inr (1, [w0, w1, w2, w3, w4, w5, .int (nI cn), .int bb]))]) [1] (by decide) rfl
  have hKc := hK.sub (tys' := []) [] rfl
  refine va_calli (va_runV (As := [.int n1]) (rest := []) ⟨hx, hb, hml, hown, hts⟩ (c_knows l dC dI s.heap.size p1 (w0) (w1) (w2) (w3) (w4) (w5) cn (.int bb) n1 hc) (cwV 1 hts (gV mw_1_191 mw_1_192 mw_1_193 mw_1_2 mw_1_194) rfl rfl rfl (by decide +kernel) ⟨Nat.le_of_ble_eq_true rfl, Nat.le_of_ble_eq_true rfl⟩) ⟨pcW_blind, va_recv hKc hPc (ci := 1) (q0 := 0) rfl rfl, pcW_at hPc hKc hDc hN⟩ rfl rfl hl.1 rfl (lv_room (Nat.le_of_ble_eq_true rfl)) dX8_drop_5 ⟨Nat.le_of_ble_eq_true rfl, Nat.le_of_ble_eq_true rfl⟩) hS (fun q h1 h2 => absurd h2 (Nat.not_le.mpr h1)) (fun q h => hA q (Nat.le_trans hS.1 h)) (fun r_1 u t H1 locs ht hvm hw_1 hB hz1 hk1 hS => ?_)
  have hP := keepP hP hk1
  clear hz1 hk1 hB ht hvm hPc hDc hKc
  generalize H1 = H at hP hS ⊢
  rcases fx_bool hw_1 with ⟨rfl, b_2⟩ | ⟨rfl, b_2⟩
  · skip
    refine lv_if_eq (tgt := 18) hx hb dX8_drop_8 (by decide) (fun h => absurd h (by decide)) (fun _ => ?_)
    refine lv_iload_n hx hb dX8_drop_11 rfl (lv_at hl 2 rfl) ?_
    have hPc := hP.sub (ws' := []) [] rfl
    have hDc := hD.sub (ws' := []) [] (by decide) rfl
    have hKc := hK.sub (tys' := []) [] rfl
    refine va_calli (va_runS (As := [.int n2]) (rest := []) ⟨hx, hb, hml, hown, hts⟩ (c_isName l dC dI H.size n2 ) (va_cwS 1 hts (gS mw_2_97 mw_2_98 mw_1_1 mw_2_99) rfl rfl rfl (by decide +kernel) ⟨Nat.le_of_ble_eq_true rfl, Nat.le_of_ble_eq_true rfl⟩) ⟨pcW_blind, pcW_at hPc hKc hDc hN⟩ rfl rfl hl.1 rfl (lv_room (Nat.le_of_ble_eq_true rfl)) dX8_drop_12 ⟨Nat.le_of_ble_eq_true rfl, Nat.le_of_ble_eq_true rfl⟩) hS (fun q h1 h2 => absurd h2 (Nat.not_le.mpr h1)) (fun q h => hA q (Nat.le_trans hS.1 h)) (fun r_3 u t H1 locs ht hvm hw_3 hB hz1 hk1 hS => ?_)
    have hP := keepP hP hk1
    clear hz1 hk1 hB ht hvm hPc hDc hKc
    generalize H1 = H at hP hS ⊢
    rcases fx_bool hw_3 with ⟨rfl, b_4⟩ | ⟨rfl, b_4⟩
    · skip
      refine lv_if_ne (tgt := 20) hx hb dX8_drop_15 (by decide) (fun _ => ?_) (fun h => absurd h (by decide))
      obtain ⟨j_5, tj_5, ej_5⟩ := fx_nat (x := n1) (by omega)
      subst ej_5
      have yj_5 : Int32.toInt (nI j_5) = (j_5 : Int) := nI_toInt tj_5
      obtain ⟨j_6, tj_6, ej_6⟩ := fx_nat (x := n2) (by omega)
      subst ej_6
      have yj_6 : Int32.toInt (nI j_6) = (j_6 : Int) := nI_toInt tj_6
      refine lv_aload_n hx hb dX8_drop_20 rfl (lv_at hl 0 rfl) ?_
      refine va_get (D := (dC, dI)) (ci := 7) (v := .ref p3) (C := RX8) (T := TX8) (N := 6) hx hb hts inB_8 hown hK hP 0 rfl rfl 2 (by decide) (hts _ mw_1_170) (fun _ h9 => h9) rfl dX8_drop_21 ?_
      refine lv_iload_n hx hb dX8_drop_24 rfl (lv_at hl 1 rfl) ?_
      refine lv_iload_n hx hb dX8_drop_25 rfl (lv_at hl 2 rfl) ?_
      have hPc := hP.sub (ws' := [(p3, .inr (0, [.ref e0, .ref e1, .ref e2])), (e0, .inl (ke0, 8, .inl fo))]) [2, 3] rfl
      have hDc := hD.sub (ws' := [(p3, .inr (0, [.ref e0, .ref e1, .ref e2])), (e0, .inl (ke0, 8, .inl fo))]) [2, 3] (by decide) rfl
      have hKc := hK.sub (tys' := [(ke0, .int)]) [0] rfl
      refine va_calli (va_runV (As := [.int (nI j_5), .int (nI j_6)]) (rest := []) ⟨hx, hb, hml, hown, hts⟩ (c_isOwn l dC dI H.size p3 e0 (.ref e1) (.ref e2) ke0 fo j_5 j_6 (by omega) (by omega)) (cwV 2 hts (gV mw_2_100 mw_2_101 mw_2_102 mw_1_5 mw_2_103) rfl rfl rfl (by decide +kernel) ⟨Nat.le_of_ble_eq_true rfl, Nat.le_of_ble_eq_true rfl⟩) ⟨pcW_blind, va_recv hKc hPc (ci := 0) (q0 := 0) rfl rfl, pcW_at hPc hKc hDc hN⟩ rfl rfl hl.1 rfl (lv_room (Nat.le_of_ble_eq_true rfl)) dX8_drop_26 ⟨Nat.le_of_ble_eq_true rfl, Nat.le_of_ble_eq_true rfl⟩) hS (fun q h1 h2 => absurd h2 (Nat.not_le.mpr h1)) (fun q h => hA q (Nat.le_trans hS.1 h)) (fun r_7 u t H1 locs ht hvm hw_7 hB hz1 hk1 hS => ?_)
      have hP := keepP hP hk1
      clear hz1 hk1 hB ht hvm hPc hDc hKc
      generalize H1 = H at hP hS ⊢
      rcases fx_bool hw_7 with ⟨rfl, b_8⟩ | ⟨rfl, b_8⟩
      · skip
        refine lv_if_ne (tgt := 35) hx hb dX8_drop_29 (by decide) (fun _ => ?_) (fun h => absurd h (by decide))
        refine lv_aload_n hx hb dX8_drop_35 rfl (lv_at hl 0 rfl) ?_
        refine va_get (D := (dC, dI)) (ci := 7) (v := .ref p3) (C := RX8) (T := TX8) (N := 6) hx hb hts inB_8 hown hK hP 0 rfl rfl 2 (by decide) (hts _ mw_1_170) (fun _ h9 => h9) rfl dX8_drop_36 ?_
        refine lv_iload_n hx hb dX8_drop_39 rfl (lv_at hl 1 rfl) ?_
        refine lv_iload_n hx hb dX8_drop_40 rfl (lv_at hl 2 rfl) ?_
        have hPc := hP.sub (ws' := [(p3, .inr (0, [.ref e0, .ref e1, .ref e2])), (e0, .inl (ke0, 8, .inl fo)), (e1, .inl (ke1, 80, .inl fbl)), (e2, .inl (ke2, 960, .inl fbs))]) [2, 3, 4, 5] rfl
        have hDc := hD.sub (ws' := [(p3, .inr (0, [.ref e0, .ref e1, .ref e2])), (e0, .inl (ke0, 8, .inl fo)), (e1, .inl (ke1, 80, .inl fbl)), (e2, .inl (ke2, 960, .inl fbs))]) [2, 3, 4, 5] (by decide) rfl
        have hKc := hK.sub (tys' := [(ke0, .int), (ke1, .int), (ke2, .char)]) [0, 1, 2] rfl
        have hFc := va_free (wc := [(p3, .inr (0, [.ref e0, .ref e1, .ref e2])), (e0, .inl (ke0, 8, .inl fo)), (e1, .inl (ke1, 80, .inl fbl)), (e2, .inl (ke2, 960, .inl fbs))]) hD hS hA [2, 3, 4, 5] rfl
        refine va_calli (va_runV (As := [.int (nI j_5), .int (nI j_6)]) (rest := []) ⟨hx, hb, hml, hown, hts⟩ (c_take l dC dI H.size p3 e0 e1 e2 ke0 fo ke1 fbl ke2 fbs j_5 j_6 hbl (by omega) (by omega)) (cwV 2 hts (gV mw_2_132 mw_2_133 mw_2_134 mw_1_5 mw_2_135) rfl rfl rfl (by decide +kernel) ⟨Nat.le_of_ble_eq_true rfl, Nat.le_of_ble_eq_true rfl⟩) ⟨pcW_blind, va_recv hKc hPc (ci := 0) (q0 := 0) rfl rfl, pcW_at hPc hKc hDc hN⟩ rfl rfl hl.1 rfl (lv_room (Nat.le_of_ble_eq_true rfl)) dX8_drop_41 ⟨Nat.le_of_ble_eq_true rfl, Nat.le_of_ble_eq_true rfl⟩) hS (fun q _ h => hFc q h) hFc (fun r_9 u t H1 locs ht hvm hw_9 hB hz1 hk1 hS => ?_)
        obtain ⟨f_10, p_11, hP1, hK1, hD1⟩ := hB
        rw [ht] at hP1
        have hK1 := va_K.moved hvm.symm hK1
        obtain ⟨hP, hD⟩ := va_join (wr := [(h0, .inr (7, [.ref p1, u1, .ref p3, u3, u4, u5])), (p1, .inr (1, [w0, w1, w2, w3, w4, w5, .int (nI cn), .int bb]))]) (w1 := [(p3, .inr (0, [.ref e0, .ref e1, .ref e2])), (e0, .inl (ke0, 8, .inl f_10)), (e1, .inl (ke1, 80, .inl fbl)), (e2, .inl (ke2, 960, .inl fbs))]) hP hD [2, 3, 4, 5] [0, 1] rfl rfl (by decide) (by decide) hk1 hFc hP1 hD1
        have hK := (hK.sub (tys' := []) [] rfl).app hK1
        clear hz1 hk1 hPc hDc hKc hFc
        generalize H1 = H at hP hS ⊢
        have hK : va_K (dC, dI) vwCl [(ke0, .int), (ke1, .int), (ke2, .char)] s := hK
        have hP : va_P (dC, dI) vwCl [(h0, .inr (7, [.ref p1, u1, .ref p3, u3, u4, u5])), (p1, .inr (1, [w0, w1, w2, w3, w4, w5, .int (nI cn), .int bb])), (p3, .inr (0, [.ref e0, .ref e1, .ref e2])), (e0, .inl (ke0, 8, .inl f_10)), (e1, .inl (ke1, 80, .inl fbl)), (e2, .inl (ke2, 960, .inl fbs))] H := hP
        have hD : va_D A [(h0, .inr (7, [.ref p1, u1, .ref p3, u3, u4, u5])), (p1, .inr (1, [w0, w1, w2, w3, w4, w5, .int (nI cn), .int bb])), (p3, .inr (0, [.ref e0, .ref e1, .ref e2])), (e0, .inl (ke0, 8, .inl f_10)), (e1, .inl (ke1, 80, .inl fbl)), (e2, .inl (ke2, 960, .inl fbs))] := hD
        obtain rfl : r_9 = (fbl (8 * j_5 + j_6)) := hw_9
        have hP9 := hP.sub (ws' := [(h0, .inr (7, [.ref p1, u1, .ref p3, u3, u4, u5])), (p1, .inr (1, [w0, w1, w2, w3, w4, w5, .int (nI cn), .int bb])), (p3, .inr (0, [.ref e0, .ref e1, .ref e2])), (e0, .inl (ke0, 8, .inl f_10)), (e1, .inl (ke1, 80, .inl fbl)), (e2, .inl (ke2, 960, .inl fbs))]) [0, 1, 2, 3, 4, 5] rfl
        have hD9 := hD.sub (ws' := [(h0, .inr (7, [.ref p1, u1, .ref p3, u3, u4, u5])), (p1, .inr (1, [w0, w1, w2, w3, w4, w5, .int (nI cn), .int bb])), (p3, .inr (0, [.ref e0, .ref e1, .ref e2])), (e0, .inl (ke0, 8, .inl f_10)), (e1, .inl (ke1, 80, .inl fbl)), (e2, .inl (ke2, 960, .inl fbs))]) [0, 1, 2, 3, 4, 5] (by decide) rfl
        have hK9 := hK.sub (tys' := [(ke0, .int), (ke1, .int), (ke2, .char)]) [0, 1, 2] rfl
        exact W.iret (v := (fbl (8 * j_5 + j_6))) hx hb hr (fun t ht hW => ⟨⟨(fbl (8 * j_5 + j_6)), (), rfl, (by unfold F_drop; rw [if_pos (by omega), nI_clamp (by omega), nI_clamp (by omega), if_pos b_8]), f_10, (fun h => absurd (show DropG _ _ _ _ from ⟨by omega, by omega, by rw [nI_clamp (by omega), nI_clamp (by omega)]; exact b_8⟩) h), (fun _ => (by rw [nI_clamp (by omega)]; exact p_11)), by rw [ht]; exact hP9, va_K.moved hW.alike hK9, hD9⟩, hS.F ht⟩) hS.2.2 dX8_drop_44
      · skip
        refine lv_if_ne (tgt := 35) hx hb dX8_drop_29 (by decide) (fun h => absurd h (by decide)) (fun _ => ?_)
        refine lv_bipush (v := (-5)) hx hb dX8_drop_32 (by decide) ?_
        have hP9 := hP.sub (ws' := [(h0, .inr (7, [.ref p1, u1, .ref p3, u3, u4, u5])), (p1, .inr (1, [w0, w1, w2, w3, w4, w5, .int (nI cn), .int bb])), (p3, .inr (0, [.ref e0, .ref e1, .ref e2])), (e0, .inl (ke0, 8, .inl fo)), (e1, .inl (ke1, 80, .inl fbl)), (e2, .inl (ke2, 960, .inl fbs))]) [0, 1, 2, 3, 4, 5] rfl
        have hD9 := hD.sub (ws' := [(h0, .inr (7, [.ref p1, u1, .ref p3, u3, u4, u5])), (p1, .inr (1, [w0, w1, w2, w3, w4, w5, .int (nI cn), .int bb])), (p3, .inr (0, [.ref e0, .ref e1, .ref e2])), (e0, .inl (ke0, 8, .inl fo)), (e1, .inl (ke1, 80, .inl fbl)), (e2, .inl (ke2, 960, .inl fbs))]) [0, 1, 2, 3, 4, 5] (by decide) rfl
        have hK9 := hK.sub (tys' := [(ke0, .int), (ke1, .int), (ke2, .char)]) [0, 1, 2] rfl
        exact W.iret (v := (-5)) hx hb hr (fun t ht hW => ⟨⟨(-5), (), rfl, (by unfold F_drop; rw [if_pos (by omega), nI_clamp (by omega), nI_clamp (by omega), if_neg b_8]), fo, (fun _ => rfl), (fun h => absurd h.2.2 (by rw [nI_clamp (by omega), nI_clamp (by omega)]; exact b_8)), by rw [ht]; exact hP9, va_K.moved hW.alike hK9, hD9⟩, hS.F ht⟩) hS.2.2 dX8_drop_34
    · skip
      refine lv_if_ne (tgt := 20) hx hb dX8_drop_15 (by decide) (fun h => absurd h (by decide)) (fun _ => ?_)
      refine lv_iconst (v := (-1)) hx hb dX8_drop_18 (by decide) ?_
      have hP9 := hP.sub (ws' := [(h0, .inr (7, [.ref p1, u1, .ref p3, u3, u4, u5])), (p1, .inr (1, [w0, w1, w2, w3, w4, w5, .int (nI cn), .int bb])), (p3, .inr (0, [.ref e0, .ref e1, .ref e2])), (e0, .inl (ke0, 8, .inl fo)), (e1, .inl (ke1, 80, .inl fbl)), (e2, .inl (ke2, 960, .inl fbs))]) [0, 1, 2, 3, 4, 5] rfl
      have hD9 := hD.sub (ws' := [(h0, .inr (7, [.ref p1, u1, .ref p3, u3, u4, u5])), (p1, .inr (1, [w0, w1, w2, w3, w4, w5, .int (nI cn), .int bb])), (p3, .inr (0, [.ref e0, .ref e1, .ref e2])), (e0, .inl (ke0, 8, .inl fo)), (e1, .inl (ke1, 80, .inl fbl)), (e2, .inl (ke2, 960, .inl fbs))]) [0, 1, 2, 3, 4, 5] (by decide) rfl
      have hK9 := hK.sub (tys' := [(ke0, .int), (ke1, .int), (ke2, .char)]) [0, 1, 2] rfl
      exact W.iret (v := (-1)) hx hb hr (fun t ht hW => ⟨⟨(-1), (), rfl, (by unfold F_drop; rw [if_neg (by omega)]), fo, (fun _ => rfl), (fun h => absurd h (by unfold DropG; omega)), by rw [ht]; exact hP9, va_K.moved hW.alike hK9, hD9⟩, hS.F ht⟩) hS.2.2 dX8_drop_19
  · skip
    refine lv_if_eq (tgt := 18) hx hb dX8_drop_8 (by decide) (fun _ => ?_) (fun h => absurd (by decide) h)
    refine lv_iconst (v := (-1)) hx hb dX8_drop_18 (by decide) ?_
    have hP9 := hP.sub (ws' := [(h0, .inr (7, [.ref p1, u1, .ref p3, u3, u4, u5])), (p1, .inr (1, [w0, w1, w2, w3, w4, w5, .int (nI cn), .int bb])), (p3, .inr (0, [.ref e0, .ref e1, .ref e2])), (e0, .inl (ke0, 8, .inl fo)), (e1, .inl (ke1, 80, .inl fbl)), (e2, .inl (ke2, 960, .inl fbs))]) [0, 1, 2, 3, 4, 5] rfl
    have hD9 := hD.sub (ws' := [(h0, .inr (7, [.ref p1, u1, .ref p3, u3, u4, u5])), (p1, .inr (1, [w0, w1, w2, w3, w4, w5, .int (nI cn), .int bb])), (p3, .inr (0, [.ref e0, .ref e1, .ref e2])), (e0, .inl (ke0, 8, .inl fo)), (e1, .inl (ke1, 80, .inl fbl)), (e2, .inl (ke2, 960, .inl fbs))]) [0, 1, 2, 3, 4, 5] (by decide) rfl
    have hK9 := hK.sub (tys' := [(ke0, .int), (ke1, .int), (ke2, .char)]) [0, 1, 2] rfl
    exact W.iret (v := (-1)) hx hb hr (fun t ht hW => ⟨⟨(-1), (), rfl, (by unfold F_drop; rw [if_neg (by omega)]), fo, (fun _ => rfl), (fun h => absurd h (by unfold DropG; omega)), by rw [ht]; exact hP9, va_K.moved hW.alike hK9, hD9⟩, hS.F ht⟩) hS.2.2 dX8_drop_19
set_option maxHeartbeats 4000000 in
set_option maxRecDepth 100000 in
theorem x_answer (l : Launch) (dC : Nat → ClassId) (dI : Nat → Nat → Nat) (sz : Nat) (h0 : Nat) (p1 : Nat) (u1 : Value) (p3 : Nat) (u3 : Value) (u4 : Value) (u5 : Value) (w0 : Value) (b1 : Nat) (w2 : Value) (b3 : Nat) (w4 : Value) (w5 : Value) (cn : Nat) (bb : Int32) (kb1 : ClassId) (fle : Nat → Int32) (kb3 : ClassId) (fli : Nat → Int32) (e0 : Nat) (z1 : Value) (z2 : Value) (ke0 : ClassId) (fo : Nat → Int32) (n1 : Int32) (n2 : Int32) (hc : cn ≤ 10) (hle : BdOk 10 10 fle) (hlk : LnOk fle fli cn) : Met l yX8_answer (wq yX8_answer cX8_answer 3 (some .int)) ({ frames := 4, cells := 0, slots := 0, locals := 90 }) (va_Pc [.ref h0, .int n1, .int n2] (pcW dC dI [(kb1, .int), (kb3, .int), (ke0, .int)] [(h0, .inr (7, [.ref p1, u1, .ref p3, u3, u4, u5])), (p1, .inr (1, [w0, .ref b1, w2, .ref b3, w4, w5, .int (nI cn), .int bb])), (b1, .inl (kb1, 10, .inl fle)), (b3, .inl (kb3, 100, .inl fli)), (p3, .inr (0, [.ref e0, z1, z2])), (e0, .inl (ke0, 8, .inl fo))] sz)) (va_Qi (fun (r : Int32) (_ : Unit) => r = F_ans cn (fle n1.toNatClampNeg).toNatClampNeg (ansF fle fli cn n1.toNatClampNeg (fo n2.toNatClampNeg) 0) n1 n2) (fun _ _ => True) (fun q : Nat => sz ≤ q)) 0 0 (fun q : Nat => sz ≤ q) := by
  refine Met.ofW (cc := cX8_answer) (maxL := 3) (ret := (some .int)) (by decide) rfl ?_
  intro p e s m args below meth c s₁ B hml hv
  obtain ⟨rfl, hsz, hN, hP, hK, hD0⟩ := hv
  have hx := B.exec
  have hb := B.bytes
  have hr := B.returns
  have hts0 := atoms_spec (ws := (wq yX8_answer cX8_answer 3 (some .int))) B.pre
  have hts : ∀ w ∈ BG, w.before _ s = true := fun w h => hts0 w (List.mem_cons_of_mem _ h)
  have hown : s.vm.findClass RX8 = some m.cls := findClass_of_methodNamed B.named
  have hlocks := B.notSynchronized
  subst hsz
  have hA : ∀ q : Nat, s.heap.size ≤ q → (fun q : Nat => s.heap.size ≤ q) q := fun _ h => h
  have hD := hD0
  have hS : va_S (fun q : Nat => s.heap.size ≤ q) s.heap s.heap [] := va_S.rf
  have hP : va_P (dC, dI) vwCl [(h0, .inr (7, [.ref p1, u1, .ref p3, u3, u4, u5])), (p1, .inr (1, [w0, .ref b1, w2, .ref b3, w4, w5, .int (nI cn), .int bb])), (b1, .inl (kb1, 10, .inl fle)), (b3, .inl (kb3, 100, .inl fli)), (p3, .inr (0, [.ref e0, z1, z2])), (e0, .inl (ke0, 8, .inl fo))] s.heap := hP
  have hl := lv_entry ([.ref h0, .int n1, .int n2]) (n := 3) (Nat.le_of_ble_eq_true rfl)
  rw [lg_entry_eq]
  generalize (lg_sl ([.ref h0, .int n1, .int n2]) ++ List.replicate (3 - (lg_sl ([.ref h0, .int n1, .int n2])).length) Slot.unset).toArray = ls at hl ⊢
  have hl : lv_has ls 3 [(0, .ref h0), (1, .int n1), (2, .int n2)] := hl
  refine lv_aload_n hx hb dX8_answer_0 rfl (lv_at hl 0 rfl) ?_
  refine va_get (D := (dC, dI)) (ci := 7) (v := .ref p1) (C := RX8) (T := TX8) (N := 6) hx hb hts inB_8 hown hK hP 0 rfl rfl 0 (by decide) (hts _ mw_1_168) (fun _ h9 => h9) rfl dX8_answer_1 ?_
  refine lv_iload_n hx hb dX8_answer_4 rfl (lv_at hl 1 rfl) ?_
  have hPc := hP.sub (ws' := [(p1, .inr (1, [w0, .ref b1, w2, .ref b3, w4, w5, .int (nI cn), .int bb]))]) [1] rfl
  have hDc := hD.sub (ws' := [(p1, .inr (1, [w0, .ref b1, w2, .ref b3, w4, w5, .int (nI cn), .int bb]))]) [1] (by decide) rfl
  have hKc := hK.sub (tys' := []) [] rfl
  refine va_calli (va_runV (As := [.int n1]) (rest := []) ⟨hx, hb, hml, hown, hts⟩ (c_knows l dC dI s.heap.size p1 (w0) (.ref b1) (w2) (.ref b3) (w4) (w5) cn (.int bb) n1 hc) (cwV 1 hts (gV mw_1_191 mw_1_192 mw_1_193 mw_1_2 mw_1_194) rfl rfl rfl (by decide +kernel) ⟨Nat.le_of_ble_eq_true rfl, Nat.le_of_ble_eq_true rfl⟩) ⟨pcW_blind, va_recv hKc hPc (ci := 1) (q0 := 0) rfl rfl, pcW_at hPc hKc hDc hN⟩ rfl rfl hl.1 rfl (lv_room (Nat.le_of_ble_eq_true rfl)) dX8_answer_5 ⟨Nat.le_of_ble_eq_true rfl, Nat.le_of_ble_eq_true rfl⟩) hS (fun q h1 h2 => absurd h2 (Nat.not_le.mpr h1)) (fun q h => hA q (Nat.le_trans hS.1 h)) (fun r_1 u t H1 locs ht hvm hw_1 hB hz1 hk1 hS => ?_)
  have hP := keepP hP hk1
  clear hz1 hk1 hB ht hvm hPc hDc hKc
  generalize H1 = H at hP hS ⊢
  rcases fx_bool hw_1 with ⟨rfl, b_2⟩ | ⟨rfl, b_2⟩
  · skip
    refine lv_if_eq (tgt := 18) hx hb dX8_answer_8 (by decide) (fun h => absurd h (by decide)) (fun _ => ?_)
    refine lv_iload_n hx hb dX8_answer_11 rfl (lv_at hl 2 rfl) ?_
    have hPc := hP.sub (ws' := []) [] rfl
    have hDc := hD.sub (ws' := []) [] (by decide) rfl
    have hKc := hK.sub (tys' := []) [] rfl
    refine va_calli (va_runS (As := [.int n2]) (rest := []) ⟨hx, hb, hml, hown, hts⟩ (c_isName l dC dI H.size n2 ) (va_cwS 1 hts (gS mw_2_97 mw_2_98 mw_1_1 mw_2_99) rfl rfl rfl (by decide +kernel) ⟨Nat.le_of_ble_eq_true rfl, Nat.le_of_ble_eq_true rfl⟩) ⟨pcW_blind, pcW_at hPc hKc hDc hN⟩ rfl rfl hl.1 rfl (lv_room (Nat.le_of_ble_eq_true rfl)) dX8_answer_12 ⟨Nat.le_of_ble_eq_true rfl, Nat.le_of_ble_eq_true rfl⟩) hS (fun q h1 h2 => absurd h2 (Nat.not_le.mpr h1)) (fun q h => hA q (Nat.le_trans hS.1 h)) (fun r_3 u t H1 locs ht hvm hw_3 hB hz1 hk1 hS => ?_)
    have hP := keepP hP hk1
    clear hz1 hk1 hB ht hvm hPc hDc hKc
    generalize H1 = H at hP hS ⊢
    rcases fx_bool hw_3 with ⟨rfl, b_4⟩ | ⟨rfl, b_4⟩
    · skip
      refine lv_if_ne (tgt := 20) hx hb dX8_answer_15 (by decide) (fun _ => ?_) (fun h => absurd h (by decide))
      obtain ⟨j_5, tj_5, ej_5⟩ := fx_nat (x := n1) (by omega)
      subst ej_5
      have yj_5 : Int32.toInt (nI j_5) = (j_5 : Int) := nI_toInt tj_5
      obtain ⟨j_6, tj_6, ej_6⟩ := fx_nat (x := n2) (by omega)
      subst ej_6
      have yj_6 : Int32.toInt (nI j_6) = (j_6 : Int) := nI_toInt tj_6
      refine lv_aload_n hx hb dX8_answer_20 rfl (lv_at hl 0 rfl) ?_
      refine va_get (D := (dC, dI)) (ci := 7) (v := .ref p1) (C := RX8) (T := TX8) (N := 6) hx hb hts inB_8 hown hK hP 0 rfl rfl 0 (by decide) (hts _ mw_1_168) (fun _ h9 => h9) rfl dX8_answer_21 ?_
      refine lv_iload_n hx hb dX8_answer_24 rfl (lv_at hl 1 rfl) ?_
      have hPc := hP.sub (ws' := [(p1, .inr (1, [w0, .ref b1, w2, .ref b3, w4, w5, .int (nI cn), .int bb])), (b1, .inl (kb1, 10, .inl fle))]) [1, 2] rfl
      have hDc := hD.sub (ws' := [(p1, .inr (1, [w0, .ref b1, w2, .ref b3, w4, w5, .int (nI cn), .int bb])), (b1, .inl (kb1, 10, .inl fle))]) [1, 2] (by decide) rfl
      have hKc := hK.sub (tys' := [(kb1, .int)]) [0] rfl
      refine va_calli (va_runV (As := [.int (nI j_5)]) (rest := []) ⟨hx, hb, hml, hown, hts⟩ (c_isLaid l dC dI H.size p1 (w0) b1 (w2) (.ref b3) (w4) (w5) cn (.int bb) kb1 fle (nI j_5) hc hle) (cwV 1 hts (gV mw_2_50 mw_1_210 mw_1_211 mw_1_2 mw_1_212) rfl rfl rfl (by decide +kernel) ⟨Nat.le_of_ble_eq_true rfl, Nat.le_of_ble_eq_true rfl⟩) ⟨pcW_blind, va_recv hKc hPc (ci := 1) (q0 := 0) rfl rfl, pcW_at hPc hKc hDc hN⟩ rfl rfl hl.1 rfl (lv_room (Nat.le_of_ble_eq_true rfl)) dX8_answer_25 ⟨Nat.le_of_ble_eq_true rfl, Nat.le_of_ble_eq_true rfl⟩) hS (fun q h1 h2 => absurd h2 (Nat.not_le.mpr h1)) (fun q h => hA q (Nat.le_trans hS.1 h)) (fun r_7 u t H1 locs ht hvm hw_7 hB hz1 hk1 hS => ?_)
      have hP := keepP hP hk1
      clear hz1 hk1 hB ht hvm hPc hDc hKc
      generalize H1 = H at hP hS ⊢
      rcases fx_bool hw_7 with ⟨rfl, b_8⟩ | ⟨rfl, b_8⟩
      · skip
        refine lv_if_ne (tgt := 34) hx hb dX8_answer_28 (by decide) (fun _ => ?_) (fun h => absurd h (by decide))
        refine lv_aload_n hx hb dX8_answer_34 rfl (lv_at hl 0 rfl) ?_
        refine va_get (D := (dC, dI)) (ci := 7) (v := .ref p1) (C := RX8) (T := TX8) (N := 6) hx hb hts inB_8 hown hK hP 0 rfl rfl 0 (by decide) (hts _ mw_1_168) (fun _ h9 => h9) rfl dX8_answer_35 ?_
        refine lv_iload_n hx hb dX8_answer_38 rfl (lv_at hl 1 rfl) ?_
        refine lv_aload_n hx hb dX8_answer_39 rfl (lv_at hl 0 rfl) ?_
        refine va_get (D := (dC, dI)) (ci := 7) (v := .ref p3) (C := RX8) (T := TX8) (N := 6) hx hb hts inB_8 hown hK hP 0 rfl rfl 2 (by decide) (hts _ mw_1_170) (fun _ h9 => h9) rfl dX8_answer_40 ?_
        refine lv_iload_n hx hb dX8_answer_43 rfl (lv_at hl 2 rfl) ?_
        have hPc := hP.sub (ws' := [(p3, .inr (0, [.ref e0, z1, z2])), (e0, .inl (ke0, 8, .inl fo))]) [4, 5] rfl
        have hDc := hD.sub (ws' := [(p3, .inr (0, [.ref e0, z1, z2])), (e0, .inl (ke0, 8, .inl fo))]) [4, 5] (by decide) rfl
        have hKc := hK.sub (tys' := [(ke0, .int)]) [2] rfl
        refine va_calli (va_runV (As := [.int (nI j_6)]) (rest := [.int (nI j_5), .ref p1]) ⟨hx, hb, hml, hown, hts⟩ (c_own l dC dI H.size p3 e0 (z1) (z2) ke0 fo j_6 (by omega)) (cwV 1 hts (gV mw_2_140 mw_2_105 mw_2_106 mw_1_5 mw_2_107) rfl rfl rfl (by decide +kernel) ⟨Nat.le_of_ble_eq_true rfl, Nat.le_of_ble_eq_true rfl⟩) ⟨pcW_blind, va_recv hKc hPc (ci := 0) (q0 := 0) rfl rfl, pcW_at hPc hKc hDc hN⟩ rfl rfl hl.1 rfl (lv_room (Nat.le_of_ble_eq_true rfl)) dX8_answer_44 ⟨Nat.le_of_ble_eq_true rfl, Nat.le_of_ble_eq_true rfl⟩) hS (fun q h1 h2 => absurd h2 (Nat.not_le.mpr h1)) (fun q h => hA q (Nat.le_trans hS.1 h)) (fun r_9 u t H1 locs ht hvm hw_9 hB hz1 hk1 hS => ?_)
        have hP := keepP hP hk1
        clear hz1 hk1 hB ht hvm hPc hDc hKc
        generalize H1 = H at hP hS ⊢
        obtain rfl : r_9 = (fo j_6) := hw_9
        refine lv_iconst (v := 0) hx hb dX8_answer_47 (by decide) ?_
        have hPc := hP.sub (ws' := [(p1, .inr (1, [w0, .ref b1, w2, .ref b3, w4, w5, .int (nI cn), .int bb])), (b1, .inl (kb1, 10, .inl fle)), (b3, .inl (kb3, 100, .inl fli))]) [1, 2, 3] rfl
        have hDc := hD.sub (ws' := [(p1, .inr (1, [w0, .ref b1, w2, .ref b3, w4, w5, .int (nI cn), .int bb])), (b1, .inl (kb1, 10, .inl fle)), (b3, .inl (kb3, 100, .inl fli))]) [1, 2, 3] (by decide) rfl
        have hKc := hK.sub (tys' := [(kb1, .int), (kb3, .int)]) [0, 1] rfl
        refine va_calli (va_runV (As := [.int (nI j_5), .int (fo j_6), .int 0]) (rest := []) ⟨hx, hb, hml, hown, hts⟩ (c_firstOf l dC dI H.size p1 (w0) b1 (w2) b3 (w4) (w5) cn (.int bb) kb1 fle kb3 fli j_5 (fo j_6) 0 hc hle hlk (by omega) (by omega)) (cwV 3 hts (gV mw_2_141 mw_2_142 mw_2_143 mw_1_2 mw_2_144) rfl rfl rfl (by decide +kernel) ⟨Nat.le_of_ble_eq_true rfl, Nat.le_of_ble_eq_true rfl⟩) ⟨pcW_blind, va_recv hKc hPc (ci := 1) (q0 := 0) rfl rfl, pcW_at hPc hKc hDc hN⟩ rfl rfl hl.1 rfl (lv_room (Nat.le_of_ble_eq_true rfl)) dX8_answer_48 ⟨Nat.le_of_ble_eq_true rfl, Nat.le_of_ble_eq_true rfl⟩) hS (fun q h1 h2 => absurd h2 (Nat.not_le.mpr h1)) (fun q h => hA q (Nat.le_trans hS.1 h)) (fun r_10 u t H1 locs ht hvm hw_10 hB hz1 hk1 hS => ?_)
        have hP := keepP hP hk1
        clear hz1 hk1 hB ht hvm hPc hDc hKc
        generalize H1 = H at hP hS ⊢
        exact W.iret (v := r_10) hx hb hr (fun t ht hW => ⟨⟨r_10, (), rfl, (by have q := b_8; rw [lenN_k (by omega) (by omega)] at q; unfold F_ans; rw [if_pos (by omega), nI_clamp (by omega), nI_clamp (by omega), if_neg (by omega)]; exact hw_10), trivial⟩, hS.F ht⟩) hS.2.2 dX8_answer_51
      · skip
        refine lv_if_ne (tgt := 34) hx hb dX8_answer_28 (by decide) (fun h => absurd h (by decide)) (fun _ => ?_)
        refine lv_bipush (v := (-3)) hx hb dX8_answer_31 (by decide) ?_
        exact W.iret (v := (-3)) hx hb hr (fun t ht hW => ⟨⟨(-3), (), rfl, (by have q := b_8; rw [lenN_k (by omega) (by omega)] at q; unfold F_ans; rw [if_pos (by omega), nI_clamp (by omega), nI_clamp (by omega), if_pos (by omega)]), trivial⟩, hS.F ht⟩) hS.2.2 dX8_answer_33
    · skip
      refine lv_if_ne (tgt := 20) hx hb dX8_answer_15 (by decide) (fun h => absurd h (by decide)) (fun _ => ?_)
      refine lv_iconst (v := (-1)) hx hb dX8_answer_18 (by decide) ?_
      exact W.iret (v := (-1)) hx hb hr (fun t ht hW => ⟨⟨(-1), (), rfl, (by unfold F_ans; rw [if_neg (by omega)]), trivial⟩, hS.F ht⟩) hS.2.2 dX8_answer_19
  · skip
    refine lv_if_eq (tgt := 18) hx hb dX8_answer_8 (by decide) (fun _ => ?_) (fun h => absurd (by decide) h)
    refine lv_iconst (v := (-1)) hx hb dX8_answer_18 (by decide) ?_
    exact W.iret (v := (-1)) hx hb hr (fun t ht hW => ⟨⟨(-1), (), rfl, (by unfold F_ans; rw [if_neg (by omega)]), trivial⟩, hS.F ht⟩) hS.2.2 dX8_answer_19
set_option maxHeartbeats 4000000 in
set_option maxRecDepth 100000 in
theorem x_next (l : Launch) (dC : Nat → ClassId) (dI : Nat → Nat → Nat) (sz : Nat) (h0 : Nat) (p1 : Nat) (u1 : Value) (p3 : Nat) (u3 : Value) (u4 : Value) (u5 : Value) (w0 : Value) (b1 : Nat) (w2 : Value) (b3 : Nat) (w4 : Value) (w5 : Value) (cn : Nat) (bb : Int32) (kb1 : ClassId) (fle : Nat → Int32) (kb3 : ClassId) (fli : Nat → Int32) (e0 : Nat) (z1 : Value) (z2 : Value) (ke0 : ClassId) (fo : Nat → Int32) (n1 : Int32) (n2 : Int32) (n3 : Int32) (hc : cn ≤ 10) (hle : BdOk 10 10 fle) (hlk : LnOk fle fli cn) : Met l yX8_next (wq yX8_next cX8_next 5 (some .int)) ({ frames := 4, cells := 0, slots := 0, locals := 90 }) (va_Pc [.ref h0, .int n1, .int n2, .int n3] (pcW dC dI [(kb1, .int), (kb3, .int), (ke0, .int)] [(h0, .inr (7, [.ref p1, u1, .ref p3, u3, u4, u5])), (p1, .inr (1, [w0, .ref b1, w2, .ref b3, w4, w5, .int (nI cn), .int bb])), (b1, .inl (kb1, 10, .inl fle)), (b3, .inl (kb3, 100, .inl fli)), (p3, .inr (0, [.ref e0, z1, z2])), (e0, .inl (ke0, 8, .inl fo))] sz)) (va_Qi (fun (_ : Int32) (_ : Unit) => True) (fun _ _ => True) (fun q : Nat => sz ≤ q)) 0 0 (fun q : Nat => sz ≤ q) := by
  refine Met.ofW (cc := cX8_next) (maxL := 5) (ret := (some .int)) (by decide) rfl ?_
  intro p e s m args below meth c s₁ B hml hv
  obtain ⟨rfl, hsz, hN, hP, hK, hD0⟩ := hv
  have hx := B.exec
  have hb := B.bytes
  have hr := B.returns
  have hts0 := atoms_spec (ws := (wq yX8_next cX8_next 5 (some .int))) B.pre
  have hts : ∀ w ∈ BG, w.before _ s = true := fun w h => hts0 w (List.mem_cons_of_mem _ h)
  have hown : s.vm.findClass RX8 = some m.cls := findClass_of_methodNamed B.named
  have hlocks := B.notSynchronized
  subst hsz
  have hA : ∀ q : Nat, s.heap.size ≤ q → (fun q : Nat => s.heap.size ≤ q) q := fun _ h => h
  have hD := hD0
  have hS : va_S (fun q : Nat => s.heap.size ≤ q) s.heap s.heap [] := va_S.rf
  have hP : va_P (dC, dI) vwCl [(h0, .inr (7, [.ref p1, u1, .ref p3, u3, u4, u5])), (p1, .inr (1, [w0, .ref b1, w2, .ref b3, w4, w5, .int (nI cn), .int bb])), (b1, .inl (kb1, 10, .inl fle)), (b3, .inl (kb3, 100, .inl fli)), (p3, .inr (0, [.ref e0, z1, z2])), (e0, .inl (ke0, 8, .inl fo))] s.heap := hP
  have hl := lv_entry ([.ref h0, .int n1, .int n2, .int n3]) (n := 5) (Nat.le_of_ble_eq_true rfl)
  rw [lg_entry_eq]
  generalize (lg_sl ([.ref h0, .int n1, .int n2, .int n3]) ++ List.replicate (5 - (lg_sl ([.ref h0, .int n1, .int n2, .int n3])).length) Slot.unset).toArray = ls at hl ⊢
  have hl : lv_has ls 5 [(0, .ref h0), (1, .int n1), (2, .int n2), (3, .int n3)] := hl
  refine lv_aload_n hx hb dX8_next_0 rfl (lv_at hl 0 rfl) ?_
  refine va_get (D := (dC, dI)) (ci := 7) (v := .ref p1) (C := RX8) (T := TX8) (N := 6) hx hb hts inB_8 hown hK hP 0 rfl rfl 0 (by decide) (hts _ mw_1_168) (fun _ h9 => h9) rfl dX8_next_1 ?_
  refine lv_iload_n hx hb dX8_next_4 rfl (lv_at hl 1 rfl) ?_
  have hPc := hP.sub (ws' := [(p1, .inr (1, [w0, .ref b1, w2, .ref b3, w4, w5, .int (nI cn), .int bb]))]) [1] rfl
  have hDc := hD.sub (ws' := [(p1, .inr (1, [w0, .ref b1, w2, .ref b3, w4, w5, .int (nI cn), .int bb]))]) [1] (by decide) rfl
  have hKc := hK.sub (tys' := []) [] rfl
  refine va_calli (va_runV (As := [.int n1]) (rest := []) ⟨hx, hb, hml, hown, hts⟩ (c_knows l dC dI s.heap.size p1 (w0) (.ref b1) (w2) (.ref b3) (w4) (w5) cn (.int bb) n1 hc) (cwV 1 hts (gV mw_1_191 mw_1_192 mw_1_193 mw_1_2 mw_1_194) rfl rfl rfl (by decide +kernel) ⟨Nat.le_of_ble_eq_true rfl, Nat.le_of_ble_eq_true rfl⟩) ⟨pcW_blind, va_recv hKc hPc (ci := 1) (q0 := 0) rfl rfl, pcW_at hPc hKc hDc hN⟩ rfl rfl hl.1 rfl (lv_room (Nat.le_of_ble_eq_true rfl)) dX8_next_5 ⟨Nat.le_of_ble_eq_true rfl, Nat.le_of_ble_eq_true rfl⟩) hS (fun q h1 h2 => absurd h2 (Nat.not_le.mpr h1)) (fun q h => hA q (Nat.le_trans hS.1 h)) (fun r_1 u t H1 locs ht hvm hw_1 hB hz1 hk1 hS => ?_)
  have hP := keepP hP hk1
  clear hz1 hk1 hB ht hvm hPc hDc hKc
  generalize H1 = H at hP hS ⊢
  rcases fx_bool hw_1 with ⟨rfl, b_2⟩ | ⟨rfl, b_2⟩
  · skip
    refine lv_if_eq (tgt := 29) hx hb dX8_next_8 (by decide) (fun h => absurd h (by decide)) (fun _ => ?_)
    refine lv_iload_n hx hb dX8_next_11 rfl (lv_at hl 2 rfl) ?_
    have hPc := hP.sub (ws' := []) [] rfl
    have hDc := hD.sub (ws' := []) [] (by decide) rfl
    have hKc := hK.sub (tys' := []) [] rfl
    refine va_calli (va_runS (As := [.int n2]) (rest := []) ⟨hx, hb, hml, hown, hts⟩ (c_isName l dC dI H.size n2 ) (va_cwS 1 hts (gS mw_2_97 mw_2_98 mw_1_1 mw_2_99) rfl rfl rfl (by decide +kernel) ⟨Nat.le_of_ble_eq_true rfl, Nat.le_of_ble_eq_true rfl⟩) ⟨pcW_blind, pcW_at hPc hKc hDc hN⟩ rfl rfl hl.1 rfl (lv_room (Nat.le_of_ble_eq_true rfl)) dX8_next_12 ⟨Nat.le_of_ble_eq_true rfl, Nat.le_of_ble_eq_true rfl⟩) hS (fun q h1 h2 => absurd h2 (Nat.not_le.mpr h1)) (fun q h => hA q (Nat.le_trans hS.1 h)) (fun r_3 u t H1 locs ht hvm hw_3 hB hz1 hk1 hS => ?_)
    have hP := keepP hP hk1
    clear hz1 hk1 hB ht hvm hPc hDc hKc
    generalize H1 = H at hP hS ⊢
    rcases fx_bool hw_3 with ⟨rfl, b_4⟩ | ⟨rfl, b_4⟩
    · skip
      refine lv_if_eq (tgt := 29) hx hb dX8_next_15 (by decide) (fun h => absurd h (by decide)) (fun _ => ?_)
      refine lv_aload_n hx hb dX8_next_18 rfl (lv_at hl 0 rfl) ?_
      refine va_get (D := (dC, dI)) (ci := 7) (v := .ref p1) (C := RX8) (T := TX8) (N := 6) hx hb hts inB_8 hown hK hP 0 rfl rfl 0 (by decide) (hts _ mw_1_168) (fun _ h9 => h9) rfl dX8_next_19 ?_
      refine lv_iload_n hx hb dX8_next_22 rfl (lv_at hl 3 rfl) ?_
      have hPc := hP.sub (ws' := [(p1, .inr (1, [w0, .ref b1, w2, .ref b3, w4, w5, .int (nI cn), .int bb]))]) [1] rfl
      have hDc := hD.sub (ws' := [(p1, .inr (1, [w0, .ref b1, w2, .ref b3, w4, w5, .int (nI cn), .int bb]))]) [1] (by decide) rfl
      have hKc := hK.sub (tys' := []) [] rfl
      refine va_calli (va_runV (As := [.int n3]) (rest := []) ⟨hx, hb, hml, hown, hts⟩ (c_knows l dC dI H.size p1 (w0) (.ref b1) (w2) (.ref b3) (w4) (w5) cn (.int bb) n3 hc) (cwV 1 hts (gV mw_1_191 mw_1_192 mw_1_193 mw_1_2 mw_1_194) rfl rfl rfl (by decide +kernel) ⟨Nat.le_of_ble_eq_true rfl, Nat.le_of_ble_eq_true rfl⟩) ⟨pcW_blind, va_recv hKc hPc (ci := 1) (q0 := 0) rfl rfl, pcW_at hPc hKc hDc hN⟩ rfl rfl hl.1 rfl (lv_room (Nat.le_of_ble_eq_true rfl)) dX8_next_23 ⟨Nat.le_of_ble_eq_true rfl, Nat.le_of_ble_eq_true rfl⟩) hS (fun q h1 h2 => absurd h2 (Nat.not_le.mpr h1)) (fun q h => hA q (Nat.le_trans hS.1 h)) (fun r_5 u t H1 locs ht hvm hw_5 hB hz1 hk1 hS => ?_)
      have hP := keepP hP hk1
      clear hz1 hk1 hB ht hvm hPc hDc hKc
      generalize H1 = H at hP hS ⊢
      rcases fx_bool hw_5 with ⟨rfl, b_6⟩ | ⟨rfl, b_6⟩
      · skip
        refine lv_if_ne (tgt := 31) hx hb dX8_next_26 (by decide) (fun _ => ?_) (fun h => absurd h (by decide))
        obtain ⟨j_7, tj_7, ej_7⟩ := fx_nat (x := n1) (by omega)
        subst ej_7
        have yj_7 : Int32.toInt (nI j_7) = (j_7 : Int) := nI_toInt tj_7
        obtain ⟨j_8, tj_8, ej_8⟩ := fx_nat (x := n2) (by omega)
        subst ej_8
        have yj_8 : Int32.toInt (nI j_8) = (j_8 : Int) := nI_toInt tj_8
        obtain ⟨j_9, tj_9, ej_9⟩ := fx_nat (x := n3) (by omega)
        subst ej_9
        have yj_9 : Int32.toInt (nI j_9) = (j_9 : Int) := nI_toInt tj_9
        have hle9 := lenN_le (n := nI j_7) hc hle
        refine lv_aload_n hx hb dX8_next_31 rfl (lv_at hl 0 rfl) ?_
        refine va_get (D := (dC, dI)) (ci := 7) (v := .ref p1) (C := RX8) (T := TX8) (N := 6) hx hb hts inB_8 hown hK hP 0 rfl rfl 0 (by decide) (hts _ mw_1_168) (fun _ h9 => h9) rfl dX8_next_32 ?_
        refine lv_iload_n hx hb dX8_next_35 rfl (lv_at hl 1 rfl) ?_
        have hPc := hP.sub (ws' := [(p1, .inr (1, [w0, .ref b1, w2, .ref b3, w4, w5, .int (nI cn), .int bb])), (b1, .inl (kb1, 10, .inl fle))]) [1, 2] rfl
        have hDc := hD.sub (ws' := [(p1, .inr (1, [w0, .ref b1, w2, .ref b3, w4, w5, .int (nI cn), .int bb])), (b1, .inl (kb1, 10, .inl fle))]) [1, 2] (by decide) rfl
        have hKc := hK.sub (tys' := [(kb1, .int)]) [0] rfl
        refine va_calli (va_runV (As := [.int (nI j_7)]) (rest := []) ⟨hx, hb, hml, hown, hts⟩ (c_isLaid l dC dI H.size p1 (w0) b1 (w2) (.ref b3) (w4) (w5) cn (.int bb) kb1 fle (nI j_7) hc hle) (cwV 1 hts (gV mw_2_50 mw_1_210 mw_1_211 mw_1_2 mw_1_212) rfl rfl rfl (by decide +kernel) ⟨Nat.le_of_ble_eq_true rfl, Nat.le_of_ble_eq_true rfl⟩) ⟨pcW_blind, va_recv hKc hPc (ci := 1) (q0 := 0) rfl rfl, pcW_at hPc hKc hDc hN⟩ rfl rfl hl.1 rfl (lv_room (Nat.le_of_ble_eq_true rfl)) dX8_next_36 ⟨Nat.le_of_ble_eq_true rfl, Nat.le_of_ble_eq_true rfl⟩) hS (fun q h1 h2 => absurd h2 (Nat.not_le.mpr h1)) (fun q h => hA q (Nat.le_trans hS.1 h)) (fun r_10 u t H1 locs ht hvm hw_10 hB hz1 hk1 hS => ?_)
        have hP := keepP hP hk1
        clear hz1 hk1 hB ht hvm hPc hDc hKc
        generalize H1 = H at hP hS ⊢
        rcases fx_bool hw_10 with ⟨rfl, b_11⟩ | ⟨rfl, b_11⟩
        · skip
          refine lv_if_ne (tgt := 45) hx hb dX8_next_39 (by decide) (fun _ => ?_) (fun h => absurd h (by decide))
          refine lv_aload_n hx hb dX8_next_45 rfl (lv_at hl 0 rfl) ?_
          refine va_get (D := (dC, dI)) (ci := 7) (v := .ref p1) (C := RX8) (T := TX8) (N := 6) hx hb hts inB_8 hown hK hP 0 rfl rfl 0 (by decide) (hts _ mw_1_168) (fun _ h9 => h9) rfl dX8_next_46 ?_
          refine lv_iload_n hx hb dX8_next_49 rfl (lv_at hl 1 rfl) ?_
          refine lv_iconst (v := 1) hx hb dX8_next_50 (by decide) ?_
          refine lv_iload_n hx hb dX8_next_51 rfl (lv_at hl 3 rfl) ?_
          refine lv_ishl hx hb dX8_next_52 ?_
          refine lv_iconst (v := 0) hx hb dX8_next_53 (by decide) ?_
          have hPc := hP.sub (ws' := [(p1, .inr (1, [w0, .ref b1, w2, .ref b3, w4, w5, .int (nI cn), .int bb])), (b1, .inl (kb1, 10, .inl fle)), (b3, .inl (kb3, 100, .inl fli))]) [1, 2, 3] rfl
          have hDc := hD.sub (ws' := [(p1, .inr (1, [w0, .ref b1, w2, .ref b3, w4, w5, .int (nI cn), .int bb])), (b1, .inl (kb1, 10, .inl fle)), (b3, .inl (kb3, 100, .inl fli))]) [1, 2, 3] (by decide) rfl
          have hKc := hK.sub (tys' := [(kb1, .int), (kb3, .int)]) [0, 1] rfl
          refine va_calli (va_runV (As := [.int (nI j_7), .int (1 <<< ((nI j_9) &&& 31)), .int 0]) (rest := []) ⟨hx, hb, hml, hown, hts⟩ (c_whereFirst l dC dI H.size p1 (w0) b1 (w2) b3 (w4) (w5) cn (.int bb) kb1 fle kb3 fli j_7 (1 <<< ((nI j_9) &&& 31)) 0 hc hle hlk (by omega) (by omega)) (cwV 3 hts (gV mw_2_156 mw_2_146 mw_2_147 mw_1_2 mw_2_148) rfl rfl rfl (by decide +kernel) ⟨Nat.le_of_ble_eq_true rfl, Nat.le_of_ble_eq_true rfl⟩) ⟨pcW_blind, va_recv hKc hPc (ci := 1) (q0 := 0) rfl rfl, pcW_at hPc hKc hDc hN⟩ rfl rfl hl.1 rfl (lv_room (Nat.le_of_ble_eq_true rfl)) dX8_next_54 ⟨Nat.le_of_ble_eq_true rfl, Nat.le_of_ble_eq_true rfl⟩) hS (fun q h1 h2 => absurd h2 (Nat.not_le.mpr h1)) (fun q h => hA q (Nat.le_trans hS.1 h)) (fun r_12 u t H1 locs ht hvm hw_12 hB hz1 hk1 hS => ?_)
          have hP := keepP hP hk1
          clear hz1 hk1 hB ht hvm hPc hDc hKc
          generalize H1 = H at hP hS ⊢
          rcases wf_cases hw_12 with eq9 | ⟨q9, hq9, eq9⟩
          · subst eq9
            refine lv_istore (lv' := [(4, .int (-6)), (0, .ref h0), (1, .int (nI j_7)), (2, .int (nI j_8)), (3, .int (nI j_9))]) hx hb dX8_next_57 hl (by decide) rfl (fun ls hl => ?_)
            refine lv_iload hx hb dX8_next_59 (lv_at hl 0 rfl) ?_
            refine lv_bipush (v := (-6)) hx hb dX8_next_61 (by decide) ?_
            refine lv_icmp_ne (tgt := 68) hx hb dX8_next_63 (by decide) (fun h => absurd h (by decide)) (fun _ => ?_)
            refine lv_iconst (v := (-1)) hx hb dX8_next_66 (by decide) ?_
            exact W.iret (v := (-1)) hx hb hr (fun t ht hW => ⟨⟨(-1), (), rfl, trivial, trivial⟩, hS.F ht⟩) hS.2.2 dX8_next_67
          · subst eq9
            refine lv_istore (lv' := [(4, .int (nI q9)), (0, .ref h0), (1, .int (nI j_7)), (2, .int (nI j_8)), (3, .int (nI j_9))]) hx hb dX8_next_57 hl (by decide) rfl (fun ls hl => ?_)
            refine lv_iload hx hb dX8_next_59 (lv_at hl 0 rfl) ?_
            refine lv_bipush (v := (-6)) hx hb dX8_next_61 (by decide) ?_
            refine lv_icmp_ne (tgt := 68) hx hb dX8_next_63 (by decide) (fun c_13 => ?_) (fun h => absurd (gn_ne (X := ((q9 : Nat) : Int)) (C := (-6)) (nI_toInt (by omega)) (by decide) h) (by omega))
            have b_14 := gx_ne (X := ((q9 : Nat) : Int)) (C := (-6)) (nI_toInt (by omega)) (by decide) c_13
            refine lv_aload_n hx hb dX8_next_68 rfl (lv_at hl 1 rfl) ?_
            refine va_get (D := (dC, dI)) (ci := 7) (v := .ref p1) (C := RX8) (T := TX8) (N := 6) hx hb hts inB_8 hown hK hP 0 rfl rfl 0 (by decide) (hts _ mw_1_168) (fun _ h9 => h9) rfl dX8_next_69 ?_
            refine lv_iload_n hx hb dX8_next_72 rfl (lv_at hl 2 rfl) ?_
            refine lv_aload_n hx hb dX8_next_73 rfl (lv_at hl 1 rfl) ?_
            refine va_get (D := (dC, dI)) (ci := 7) (v := .ref p3) (C := RX8) (T := TX8) (N := 6) hx hb hts inB_8 hown hK hP 0 rfl rfl 2 (by decide) (hts _ mw_1_170) (fun _ h9 => h9) rfl dX8_next_74 ?_
            refine lv_iload_n hx hb dX8_next_77 rfl (lv_at hl 3 rfl) ?_
            have hPc := hP.sub (ws' := [(p3, .inr (0, [.ref e0, z1, z2])), (e0, .inl (ke0, 8, .inl fo))]) [4, 5] rfl
            have hDc := hD.sub (ws' := [(p3, .inr (0, [.ref e0, z1, z2])), (e0, .inl (ke0, 8, .inl fo))]) [4, 5] (by decide) rfl
            have hKc := hK.sub (tys' := [(ke0, .int)]) [2] rfl
            refine va_calli (va_runV (As := [.int (nI j_8)]) (rest := [.int (nI j_7), .ref p1]) ⟨hx, hb, hml, hown, hts⟩ (c_own l dC dI H.size p3 e0 (z1) (z2) ke0 fo j_8 (by omega)) (cwV 1 hts (gV mw_2_140 mw_2_105 mw_2_106 mw_1_5 mw_2_107) rfl rfl rfl (by decide +kernel) ⟨Nat.le_of_ble_eq_true rfl, Nat.le_of_ble_eq_true rfl⟩) ⟨pcW_blind, va_recv hKc hPc (ci := 0) (q0 := 0) rfl rfl, pcW_at hPc hKc hDc hN⟩ rfl rfl hl.1 rfl (lv_room (Nat.le_of_ble_eq_true rfl)) dX8_next_78 ⟨Nat.le_of_ble_eq_true rfl, Nat.le_of_ble_eq_true rfl⟩) hS (fun q h1 h2 => absurd h2 (Nat.not_le.mpr h1)) (fun q h => hA q (Nat.le_trans hS.1 h)) (fun r_15 u t H1 locs ht hvm hw_15 hB hz1 hk1 hS => ?_)
            have hP := keepP hP hk1
            clear hz1 hk1 hB ht hvm hPc hDc hKc
            generalize H1 = H at hP hS ⊢
            obtain rfl : r_15 = (fo j_8) := hw_15
            refine lv_iload hx hb dX8_next_81 (lv_at hl 0 rfl) ?_
            refine lv_iconst (v := 1) hx hb dX8_next_83 (by decide) ?_
            refine lv_iadd hx hb dX8_next_84 ?_
            refine hx_top (y := (nI (q9 + 1))) (nI_add q9 1) ?_
            have hPc := hP.sub (ws' := [(p1, .inr (1, [w0, .ref b1, w2, .ref b3, w4, w5, .int (nI cn), .int bb])), (b1, .inl (kb1, 10, .inl fle)), (b3, .inl (kb3, 100, .inl fli))]) [1, 2, 3] rfl
            have hDc := hD.sub (ws' := [(p1, .inr (1, [w0, .ref b1, w2, .ref b3, w4, w5, .int (nI cn), .int bb])), (b1, .inl (kb1, 10, .inl fle)), (b3, .inl (kb3, 100, .inl fli))]) [1, 2, 3] (by decide) rfl
            have hKc := hK.sub (tys' := [(kb1, .int), (kb3, .int)]) [0, 1] rfl
            refine va_calli (va_runV (As := [.int (nI j_7), .int (fo j_8), .int (nI (q9 + 1))]) (rest := []) ⟨hx, hb, hml, hown, hts⟩ (c_firstOf l dC dI H.size p1 (w0) b1 (w2) b3 (w4) (w5) cn (.int bb) kb1 fle kb3 fli j_7 (fo j_8) (q9 + 1) hc hle hlk (by omega) (by omega)) (cwV 3 hts (gV mw_2_141 mw_2_142 mw_2_143 mw_1_2 mw_2_144) rfl rfl rfl (by decide +kernel) ⟨Nat.le_of_ble_eq_true rfl, Nat.le_of_ble_eq_true rfl⟩) ⟨pcW_blind, va_recv hKc hPc (ci := 1) (q0 := 0) rfl rfl, pcW_at hPc hKc hDc hN⟩ rfl rfl hl.1 rfl (lv_room (Nat.le_of_ble_eq_true rfl)) dX8_next_85 ⟨Nat.le_of_ble_eq_true rfl, Nat.le_of_ble_eq_true rfl⟩) hS (fun q h1 h2 => absurd h2 (Nat.not_le.mpr h1)) (fun q h => hA q (Nat.le_trans hS.1 h)) (fun r_16 u t H1 locs ht hvm hw_16 hB hz1 hk1 hS => ?_)
            have hP := keepP hP hk1
            clear hz1 hk1 hB ht hvm hPc hDc hKc
            generalize H1 = H at hP hS ⊢
            exact W.iret (v := r_16) hx hb hr (fun t ht hW => ⟨⟨r_16, (), rfl, trivial, trivial⟩, hS.F ht⟩) hS.2.2 dX8_next_88
        · skip
          refine lv_if_ne (tgt := 45) hx hb dX8_next_39 (by decide) (fun h => absurd h (by decide)) (fun _ => ?_)
          refine lv_bipush (v := (-3)) hx hb dX8_next_42 (by decide) ?_
          exact W.iret (v := (-3)) hx hb hr (fun t ht hW => ⟨⟨(-3), (), rfl, trivial, trivial⟩, hS.F ht⟩) hS.2.2 dX8_next_44
      · skip
        refine lv_if_ne (tgt := 31) hx hb dX8_next_26 (by decide) (fun h => absurd h (by decide)) (fun _ => ?_)
        refine lv_iconst (v := (-1)) hx hb dX8_next_29 (by decide) ?_
        exact W.iret (v := (-1)) hx hb hr (fun t ht hW => ⟨⟨(-1), (), rfl, trivial, trivial⟩, hS.F ht⟩) hS.2.2 dX8_next_30
    · skip
      refine lv_if_eq (tgt := 29) hx hb dX8_next_15 (by decide) (fun _ => ?_) (fun h => absurd (by decide) h)
      refine lv_iconst (v := (-1)) hx hb dX8_next_29 (by decide) ?_
      exact W.iret (v := (-1)) hx hb hr (fun t ht hW => ⟨⟨(-1), (), rfl, trivial, trivial⟩, hS.F ht⟩) hS.2.2 dX8_next_30
  · skip
    refine lv_if_eq (tgt := 29) hx hb dX8_next_8 (by decide) (fun _ => ?_) (fun h => absurd (by decide) h)
    refine lv_iconst (v := (-1)) hx hb dX8_next_29 (by decide) ?_
    exact W.iret (v := (-1)) hx hb hr (fun t ht hW => ⟨⟨(-1), (), rfl, trivial, trivial⟩, hS.F ht⟩) hS.2.2 dX8_next_30
set_option maxHeartbeats 4000000 in
set_option maxRecDepth 100000 in
theorem x_run (l : Launch) (dC : Nat → ClassId) (dI : Nat → Nat → Nat) (sz : Nat) (h0 : Nat) (p1 : Nat) (u1 : Value) (p3 : Nat) (p7 : Nat) (u4 : Value) (u5 : Value) (w0 : Value) (b1 : Nat) (w2 : Value) (b3 : Nat) (w4 : Value) (w5 : Value) (cn : Nat) (bb : Int32) (kb1 : ClassId) (fle : Nat → Int32) (kb3 : ClassId) (fli : Nat → Int32) (e0 : Nat) (e1 : Nat) (e2 : Nat) (ke0 : ClassId) (fo : Nat → Int32) (ke1 : ClassId) (fbl : Nat → Int32) (ke2 : ClassId) (fbs : Nat → Int32) (u0 : Nat) (sd : Nat) (md : Int32) (ll : Int32) (ku0 : ClassId) (fd : Nat → Int32) (n1 : Int32) (n2 : Int32) (n3 : Int32) (hc : cn ≤ 10) (hle : BdOk 10 10 fle) (hbl : BdOk 80 12 fbl) (hbs : ChOk fbs) (hsd : sd ≤ 40) (hlk : LnOk fle fli cn) (hcv : CvOk fbl fbs) : Met l yX8_run (wq yX8_run cX8_run 5 (some .int)) ({ frames := 14, cells := 0, slots := 0, locals := 389 }) (va_Pc [.ref h0, .int n1, .int n2, .int n3] (pcW dC dI [(kb1, .int), (kb3, .int), (ke0, .int), (ke1, .int), (ke2, .char), (ku0, .int)] [(h0, .inr (7, [.ref p1, u1, .ref p3, .ref p7, u4, u5])), (p1, .inr (1, [w0, .ref b1, w2, .ref b3, w4, w5, .int (nI cn), .int bb])), (b1, .inl (kb1, 10, .inl fle)), (b3, .inl (kb3, 100, .inl fli)), (p3, .inr (0, [.ref e0, .ref e1, .ref e2])), (e0, .inl (ke0, 8, .inl fo)), (e1, .inl (ke1, 80, .inl fbl)), (e2, .inl (ke2, 960, .inl fbs)), (p7, .inr (5, [.ref u0, .int (nI sd), .int md, .int ll])), (u0, .inl (ku0, 40, .inl fd))] sz)) (va_Qi (fun (r : Int32) (_ : Unit) => r = F_run cn (fle n1.toNatClampNeg).toNatClampNeg (wdC fle fli fo fbl fbs cn n1.toNatClampNeg 9 n2.toNatClampNeg 0 (0, 0, fd)).1 (wdC fle fli fo fbl fbs cn n1.toNatClampNeg 9 n2.toNatClampNeg 0 (0, 0, fd)).2.2.1 (wdC fle fli fo fbl fbs cn n1.toNatClampNeg 9 n2.toNatClampNeg 0 (0, 0, fd)).2.2.2 n1 n2 n3) (fun _ t => ∃ (sd2 : Nat) (fd2 : Nat → Int32) (md2 : Int32) (ll2 : Int32), (sd2 ≤ 40) ∧ va_P (dC, dI) vwCl [(h0, .inr (7, [.ref p1, u1, .ref p3, .ref p7, u4, u5])), (p1, .inr (1, [w0, .ref b1, w2, .ref b3, w4, w5, .int (nI cn), .int bb])), (b1, .inl (kb1, 10, .inl fle)), (b3, .inl (kb3, 100, .inl fli)), (p3, .inr (0, [.ref e0, .ref e1, .ref e2])), (e0, .inl (ke0, 8, .inl fo)), (e1, .inl (ke1, 80, .inl fbl)), (e2, .inl (ke2, 960, .inl fbs)), (p7, .inr (5, [.ref u0, .int (nI sd2), .int md2, .int ll2])), (u0, .inl (ku0, 40, .inl fd2))] t.heap ∧ va_K (dC, dI) vwCl [(kb1, .int), (kb3, .int), (ke0, .int), (ke1, .int), (ke2, .char), (ku0, .int)] t ∧ va_D (va_A [(h0, .inr (7, [.ref p1, u1, .ref p3, .ref p7, u4, u5])), (p1, .inr (1, [w0, .ref b1, w2, .ref b3, w4, w5, .int (nI cn), .int bb])), (b1, .inl (kb1, 10, .inl fle)), (b3, .inl (kb3, 100, .inl fli)), (p3, .inr (0, [.ref e0, .ref e1, .ref e2])), (e0, .inl (ke0, 8, .inl fo)), (e1, .inl (ke1, 80, .inl fbl)), (e2, .inl (ke2, 960, .inl fbs)), (p7, .inr (5, [.ref u0, .int (nI sd), .int md, .int ll])), (u0, .inl (ku0, 40, .inl fd))] sz) [(h0, .inr (7, [.ref p1, u1, .ref p3, .ref p7, u4, u5])), (p1, .inr (1, [w0, .ref b1, w2, .ref b3, w4, w5, .int (nI cn), .int bb])), (b1, .inl (kb1, 10, .inl fle)), (b3, .inl (kb3, 100, .inl fli)), (p3, .inr (0, [.ref e0, .ref e1, .ref e2])), (e0, .inl (ke0, 8, .inl fo)), (e1, .inl (ke1, 80, .inl fbl)), (e2, .inl (ke2, 960, .inl fbs)), (p7, .inr (5, [.ref u0, .int (nI sd2), .int md2, .int ll2])), (u0, .inl (ku0, 40, .inl fd2))]) (va_A [(h0, .inr (7, [.ref p1, u1, .ref p3, .ref p7, u4, u5])), (p1, .inr (1, [w0, .ref b1, w2, .ref b3, w4, w5, .int (nI cn), .int bb])), (b1, .inl (kb1, 10, .inl fle)), (b3, .inl (kb3, 100, .inl fli)), (p3, .inr (0, [.ref e0, .ref e1, .ref e2])), (e0, .inl (ke0, 8, .inl fo)), (e1, .inl (ke1, 80, .inl fbl)), (e2, .inl (ke2, 960, .inl fbs)), (p7, .inr (5, [.ref u0, .int (nI sd), .int md, .int ll])), (u0, .inl (ku0, 40, .inl fd))] sz)) 0 0 (va_A [(h0, .inr (7, [.ref p1, u1, .ref p3, .ref p7, u4, u5])), (p1, .inr (1, [w0, .ref b1, w2, .ref b3, w4, w5, .int (nI cn), .int bb])), (b1, .inl (kb1, 10, .inl fle)), (b3, .inl (kb3, 100, .inl fli)), (p3, .inr (0, [.ref e0, .ref e1, .ref e2])), (e0, .inl (ke0, 8, .inl fo)), (e1, .inl (ke1, 80, .inl fbl)), (e2, .inl (ke2, 960, .inl fbs)), (p7, .inr (5, [.ref u0, .int (nI sd), .int md, .int ll])), (u0, .inl (ku0, 40, .inl fd))] sz) := by
  refine Met.ofW (cc := cX8_run) (maxL := 5) (ret := (some .int)) (by decide) rfl ?_
  intro p e s m args below meth c s₁ B hml hv
  obtain ⟨rfl, hsz, hN, hP, hK, hD0⟩ := hv
  have hx := B.exec
  have hb := B.bytes
  have hr := B.returns
  have hts0 := atoms_spec (ws := (wq yX8_run cX8_run 5 (some .int))) B.pre
  have hts : ∀ w ∈ BG, w.before _ s = true := fun w h => hts0 w (List.mem_cons_of_mem _ h)
  have hown : s.vm.findClass RX8 = some m.cls := findClass_of_methodNamed B.named
  have hlocks := B.notSynchronized
  subst hsz
  have hD := hD0.self (sz := s.heap.size)
  generalize hAe : va_A [(h0, .inr (7, [.ref p1, u1, .ref p3, .ref p7, u4, u5])), (p1, .inr (1, [w0, .ref b1, w2, .ref b3, w4, w5, .int (nI cn), .int bb])), (b1, .inl (kb1, 10, .inl fle)), (b3, .inl (kb3, 100, .inl fli)), (p3, .inr (0, [.ref e0, .ref e1, .ref e2])), (e0, .inl (ke0, 8, .inl fo)), (e1, .inl (ke1, 80, .inl fbl)), (e2, .inl (ke2, 960, .inl fbs)), (p7, .inr (5, [.ref u0, .int (nI sd), .int md, .int ll])), (u0, .inl (ku0, 40, .inl fd))] s.heap.size = A at hD ⊢
  have hA : ∀ q : Nat, s.heap.size ≤ q → A q := fun q h => by rw [← hAe]; exact Or.inr h
  have hS : va_S A s.heap s.heap [] := va_S.rf
  clear hAe hD0
  have hP : va_P (dC, dI) vwCl [(h0, .inr (7, [.ref p1, u1, .ref p3, .ref p7, u4, u5])), (p1, .inr (1, [w0, .ref b1, w2, .ref b3, w4, w5, .int (nI cn), .int bb])), (b1, .inl (kb1, 10, .inl fle)), (b3, .inl (kb3, 100, .inl fli)), (p3, .inr (0, [.ref e0, .ref e1, .ref e2])), (e0, .inl (ke0, 8, .inl fo)), (e1, .inl (ke1, 80, .inl fbl)), (e2, .inl (ke2, 960, .inl fbs)), (p7, .inr (5, [.ref u0, .int (nI sd), .int md, .int ll])), (u0, .inl (ku0, 40, .inl fd))] s.heap := hP
  have hl := lv_entry ([.ref h0, .int n1, .int n2, .int n3]) (n := 5) (Nat.le_of_ble_eq_true rfl)
  rw [lg_entry_eq]
  generalize (lg_sl ([.ref h0, .int n1, .int n2, .int n3]) ++ List.replicate (5 - (lg_sl ([.ref h0, .int n1, .int n2, .int n3])).length) Slot.unset).toArray = ls at hl ⊢
  have hl : lv_has ls 5 [(0, .ref h0), (1, .int n1), (2, .int n2), (3, .int n3)] := hl
  refine lv_aload_n hx hb dX8_run_0 rfl (lv_at hl 0 rfl) ?_
  refine va_get (D := (dC, dI)) (ci := 7) (v := .ref p1) (C := RX8) (T := TX8) (N := 6) hx hb hts inB_8 hown hK hP 0 rfl rfl 0 (by decide) (hts _ mw_1_168) (fun _ h9 => h9) rfl dX8_run_1 ?_
  refine lv_iload_n hx hb dX8_run_4 rfl (lv_at hl 1 rfl) ?_
  have hPc := hP.sub (ws' := [(p1, .inr (1, [w0, .ref b1, w2, .ref b3, w4, w5, .int (nI cn), .int bb]))]) [1] rfl
  have hDc := hD.sub (ws' := [(p1, .inr (1, [w0, .ref b1, w2, .ref b3, w4, w5, .int (nI cn), .int bb]))]) [1] (by decide) rfl
  have hKc := hK.sub (tys' := []) [] rfl
  refine va_calli (va_runV (As := [.int n1]) (rest := []) ⟨hx, hb, hml, hown, hts⟩ (c_knows l dC dI s.heap.size p1 (w0) (.ref b1) (w2) (.ref b3) (w4) (w5) cn (.int bb) n1 hc) (cwV 1 hts (gV mw_1_191 mw_1_192 mw_1_193 mw_1_2 mw_1_194) rfl rfl rfl (by decide +kernel) ⟨Nat.le_of_ble_eq_true rfl, Nat.le_of_ble_eq_true rfl⟩) ⟨pcW_blind, va_recv hKc hPc (ci := 1) (q0 := 0) rfl rfl, pcW_at hPc hKc hDc hN⟩ rfl rfl hl.1 rfl (lv_room (Nat.le_of_ble_eq_true rfl)) dX8_run_5 ⟨Nat.le_of_ble_eq_true rfl, Nat.le_of_ble_eq_true rfl⟩) hS (fun q h1 h2 => absurd h2 (Nat.not_le.mpr h1)) (fun q h => hA q (Nat.le_trans hS.1 h)) (fun r_1 u t H1 locs ht hvm hw_1 hB hz1 hk1 hS => ?_)
  have hP := keepP hP hk1
  clear hz1 hk1 hB ht hvm hPc hDc hKc
  generalize H1 = H at hP hS ⊢
  rcases fx_bool hw_1 with ⟨rfl, b_2⟩ | ⟨rfl, b_2⟩
  · skip
    refine lv_if_eq (tgt := 18) hx hb dX8_run_8 (by decide) (fun h => absurd h (by decide)) (fun _ => ?_)
    refine lv_iload_n hx hb dX8_run_11 rfl (lv_at hl 2 rfl) ?_
    have hPc := hP.sub (ws' := []) [] rfl
    have hDc := hD.sub (ws' := []) [] (by decide) rfl
    have hKc := hK.sub (tys' := []) [] rfl
    refine va_calli (va_runS (As := [.int n2]) (rest := []) ⟨hx, hb, hml, hown, hts⟩ (c_isName l dC dI H.size n2 ) (va_cwS 1 hts (gS mw_2_97 mw_2_98 mw_1_1 mw_2_99) rfl rfl rfl (by decide +kernel) ⟨Nat.le_of_ble_eq_true rfl, Nat.le_of_ble_eq_true rfl⟩) ⟨pcW_blind, pcW_at hPc hKc hDc hN⟩ rfl rfl hl.1 rfl (lv_room (Nat.le_of_ble_eq_true rfl)) dX8_run_12 ⟨Nat.le_of_ble_eq_true rfl, Nat.le_of_ble_eq_true rfl⟩) hS (fun q h1 h2 => absurd h2 (Nat.not_le.mpr h1)) (fun q h => hA q (Nat.le_trans hS.1 h)) (fun r_3 u t H1 locs ht hvm hw_3 hB hz1 hk1 hS => ?_)
    have hP := keepP hP hk1
    clear hz1 hk1 hB ht hvm hPc hDc hKc
    generalize H1 = H at hP hS ⊢
    rcases fx_bool hw_3 with ⟨rfl, b_4⟩ | ⟨rfl, b_4⟩
    · skip
      refine lv_if_ne (tgt := 20) hx hb dX8_run_15 (by decide) (fun _ => ?_) (fun h => absurd h (by decide))
      obtain ⟨j_5, tj_5, ej_5⟩ := fx_nat (x := n1) (by omega)
      subst ej_5
      have yj_5 : Int32.toInt (nI j_5) = (j_5 : Int) := nI_toInt tj_5
      obtain ⟨j_6, tj_6, ej_6⟩ := fx_nat (x := n2) (by omega)
      subst ej_6
      have yj_6 : Int32.toInt (nI j_6) = (j_6 : Int) := nI_toInt tj_6
      refine lv_aload_n hx hb dX8_run_20 rfl (lv_at hl 0 rfl) ?_
      refine va_get (D := (dC, dI)) (ci := 7) (v := .ref p1) (C := RX8) (T := TX8) (N := 6) hx hb hts inB_8 hown hK hP 0 rfl rfl 0 (by decide) (hts _ mw_1_168) (fun _ h9 => h9) rfl dX8_run_21 ?_
      refine lv_iload_n hx hb dX8_run_24 rfl (lv_at hl 1 rfl) ?_
      have hPc := hP.sub (ws' := [(p1, .inr (1, [w0, .ref b1, w2, .ref b3, w4, w5, .int (nI cn), .int bb])), (b1, .inl (kb1, 10, .inl fle))]) [1, 2] rfl
      have hDc := hD.sub (ws' := [(p1, .inr (1, [w0, .ref b1, w2, .ref b3, w4, w5, .int (nI cn), .int bb])), (b1, .inl (kb1, 10, .inl fle))]) [1, 2] (by decide) rfl
      have hKc := hK.sub (tys' := [(kb1, .int)]) [0] rfl
      refine va_calli (va_runV (As := [.int (nI j_5)]) (rest := []) ⟨hx, hb, hml, hown, hts⟩ (c_isLaid l dC dI H.size p1 (w0) b1 (w2) (.ref b3) (w4) (w5) cn (.int bb) kb1 fle (nI j_5) hc hle) (cwV 1 hts (gV mw_2_50 mw_1_210 mw_1_211 mw_1_2 mw_1_212) rfl rfl rfl (by decide +kernel) ⟨Nat.le_of_ble_eq_true rfl, Nat.le_of_ble_eq_true rfl⟩) ⟨pcW_blind, va_recv hKc hPc (ci := 1) (q0 := 0) rfl rfl, pcW_at hPc hKc hDc hN⟩ rfl rfl hl.1 rfl (lv_room (Nat.le_of_ble_eq_true rfl)) dX8_run_25 ⟨Nat.le_of_ble_eq_true rfl, Nat.le_of_ble_eq_true rfl⟩) hS (fun q h1 h2 => absurd h2 (Nat.not_le.mpr h1)) (fun q h => hA q (Nat.le_trans hS.1 h)) (fun r_7 u t H1 locs ht hvm hw_7 hB hz1 hk1 hS => ?_)
      have hP := keepP hP hk1
      clear hz1 hk1 hB ht hvm hPc hDc hKc
      generalize H1 = H at hP hS ⊢
      rcases fx_bool hw_7 with ⟨rfl, b_8⟩ | ⟨rfl, b_8⟩
      · skip
        refine lv_if_ne (tgt := 34) hx hb dX8_run_28 (by decide) (fun _ => ?_) (fun h => absurd h (by decide))
        refine lv_aload_n hx hb dX8_run_34 rfl (lv_at hl 0 rfl) ?_
        refine va_get (D := (dC, dI)) (ci := 7) (v := .ref p7) (C := RX8) (T := TX8) (N := 6) hx hb hts inB_8 hown hK hP 0 rfl rfl 3 (by decide) (hts _ mw_1_171) (fun _ h9 => h9) rfl dX8_run_35 ?_
        refine lv_aload_n hx hb dX8_run_38 rfl (lv_at hl 0 rfl) ?_
        refine va_get (D := (dC, dI)) (ci := 7) (v := .ref p1) (C := RX8) (T := TX8) (N := 6) hx hb hts inB_8 hown hK hP 0 rfl rfl 0 (by decide) (hts _ mw_1_168) (fun _ h9 => h9) rfl dX8_run_39 ?_
        refine lv_aload_n hx hb dX8_run_42 rfl (lv_at hl 0 rfl) ?_
        refine va_get (D := (dC, dI)) (ci := 7) (v := .ref p3) (C := RX8) (T := TX8) (N := 6) hx hb hts inB_8 hown hK hP 0 rfl rfl 2 (by decide) (hts _ mw_1_170) (fun _ h9 => h9) rfl dX8_run_43 ?_
        refine lv_iload_n hx hb dX8_run_46 rfl (lv_at hl 1 rfl) ?_
        refine lv_iload_n hx hb dX8_run_47 rfl (lv_at hl 2 rfl) ?_
        have hPc := hP.sub (ws' := [(p7, .inr (5, [.ref u0, .int (nI sd), .int md, .int ll])), (u0, .inl (ku0, 40, .inl fd)), (p1, .inr (1, [w0, .ref b1, w2, .ref b3, w4, w5, .int (nI cn), .int bb])), (b1, .inl (kb1, 10, .inl fle)), (b3, .inl (kb3, 100, .inl fli)), (p3, .inr (0, [.ref e0, .ref e1, .ref e2])), (e0, .inl (ke0, 8, .inl fo)), (e1, .inl (ke1, 80, .inl fbl)), (e2, .inl (ke2, 960, .inl fbs))]) [8, 9, 1, 2, 3, 4, 5, 6, 7] rfl
        have hDc := hD.sub (ws' := [(p7, .inr (5, [.ref u0, .int (nI sd), .int md, .int ll])), (u0, .inl (ku0, 40, .inl fd)), (p1, .inr (1, [w0, .ref b1, w2, .ref b3, w4, w5, .int (nI cn), .int bb])), (b1, .inl (kb1, 10, .inl fle)), (b3, .inl (kb3, 100, .inl fli)), (p3, .inr (0, [.ref e0, .ref e1, .ref e2])), (e0, .inl (ke0, 8, .inl fo)), (e1, .inl (ke1, 80, .inl fbl)), (e2, .inl (ke2, 960, .inl fbs))]) [8, 9, 1, 2, 3, 4, 5, 6, 7] (by decide) rfl
        have hKc := hK.sub (tys' := [(ku0, .int), (kb1, .int), (kb3, .int), (ke0, .int), (ke1, .int), (ke2, .char)]) [5, 0, 1, 2, 3, 4] rfl
        have hFc := va_free (wc := [(p7, .inr (5, [.ref u0, .int (nI sd), .int md, .int ll])), (u0, .inl (ku0, 40, .inl fd)), (p1, .inr (1, [w0, .ref b1, w2, .ref b3, w4, w5, .int (nI cn), .int bb])), (b1, .inl (kb1, 10, .inl fle)), (b3, .inl (kb3, 100, .inl fli)), (p3, .inr (0, [.ref e0, .ref e1, .ref e2])), (e0, .inl (ke0, 8, .inl fo)), (e1, .inl (ke1, 80, .inl fbl)), (e2, .inl (ke2, 960, .inl fbs))]) hD hS hA [8, 9, 1, 2, 3, 4, 5, 6, 7] rfl
        refine va_calli (va_runV (As := [.ref p1, .ref p3, .int (nI j_5), .int (nI j_6)]) (rest := []) ⟨hx, hb, hml, hown, hts⟩ (c_start l dC dI H.size p7 u0 sd md ll ku0 fd p1 (w0) b1 (w2) b3 (w4) (w5) cn (.int bb) kb1 fle kb3 fli p3 e0 e1 e2 ke0 fo ke1 fbl ke2 fbs j_5 j_6 hc hle hbl hbs hlk (by omega) (by omega) hcv) (cwV 4 hts (gV mw_2_161 mw_2_162 mw_2_163 mw_1_6 mw_2_164) rfl rfl rfl (by decide +kernel) ⟨Nat.le_of_ble_eq_true rfl, Nat.le_of_ble_eq_true rfl⟩) ⟨pcW_blind, va_recv hKc hPc (ci := 5) (q0 := 0) rfl rfl, pcW_at hPc hKc hDc hN⟩ rfl rfl hl.1 rfl (lv_room (Nat.le_of_ble_eq_true rfl)) dX8_run_48 ⟨Nat.le_of_ble_eq_true rfl, Nat.le_of_ble_eq_true rfl⟩) hS (fun q _ h => hFc q h) hFc (fun r_9 u t H1 locs ht hvm hw_9 hB hz1 hk1 hS => ?_)
        obtain ⟨q_10, f_11, z_12, z_13, p_14, p_15, p_16, hP1, hK1, hD1⟩ := hB
        rw [ht] at hP1
        have hK1 := va_K.moved hvm.symm hK1
        obtain ⟨hP, hD⟩ := va_join (wr := [(h0, .inr (7, [.ref p1, u1, .ref p3, .ref p7, u4, u5]))]) (w1 := [(p7, .inr (5, [.ref u0, .int (nI q_10), .int z_12, .int z_13])), (u0, .inl (ku0, 40, .inl f_11)), (p1, .inr (1, [w0, .ref b1, w2, .ref b3, w4, w5, .int (nI cn), .int bb])), (b1, .inl (kb1, 10, .inl fle)), (b3, .inl (kb3, 100, .inl fli)), (p3, .inr (0, [.ref e0, .ref e1, .ref e2])), (e0, .inl (ke0, 8, .inl fo)), (e1, .inl (ke1, 80, .inl fbl)), (e2, .inl (ke2, 960, .inl fbs))]) hP hD [8, 9, 1, 2, 3, 4, 5, 6, 7] [0] rfl rfl (by decide) (by decide) hk1 hFc hP1 hD1
        have hK := (hK.sub (tys' := []) [] rfl).app hK1
        clear hz1 hk1 hPc hDc hKc hFc
        generalize H1 = H at hP hS ⊢
        have hK : va_K (dC, dI) vwCl [(ku0, .int), (kb1, .int), (kb3, .int), (ke0, .int), (ke1, .int), (ke2, .char)] s := hK
        have hP : va_P (dC, dI) vwCl [(h0, .inr (7, [.ref p1, u1, .ref p3, .ref p7, u4, u5])), (p7, .inr (5, [.ref u0, .int (nI q_10), .int z_12, .int z_13])), (u0, .inl (ku0, 40, .inl f_11)), (p1, .inr (1, [w0, .ref b1, w2, .ref b3, w4, w5, .int (nI cn), .int bb])), (b1, .inl (kb1, 10, .inl fle)), (b3, .inl (kb3, 100, .inl fli)), (p3, .inr (0, [.ref e0, .ref e1, .ref e2])), (e0, .inl (ke0, 8, .inl fo)), (e1, .inl (ke1, 80, .inl fbl)), (e2, .inl (ke2, 960, .inl fbs))] H := hP
        have hD : va_D A [(h0, .inr (7, [.ref p1, u1, .ref p3, .ref p7, u4, u5])), (p7, .inr (5, [.ref u0, .int (nI q_10), .int z_12, .int z_13])), (u0, .inl (ku0, 40, .inl f_11)), (p1, .inr (1, [w0, .ref b1, w2, .ref b3, w4, w5, .int (nI cn), .int bb])), (b1, .inl (kb1, 10, .inl fle)), (b3, .inl (kb3, 100, .inl fli)), (p3, .inr (0, [.ref e0, .ref e1, .ref e2])), (e0, .inl (ke0, 8, .inl fo)), (e1, .inl (ke1, 80, .inl fbl)), (e2, .inl (ke2, 960, .inl fbs))] := hD
        refine lv_istore (lv' := [(4, .int r_9), (0, .ref h0), (1, .int (nI j_5)), (2, .int (nI j_6)), (3, .int n3)]) hx hb dX8_run_51 hl (by decide) rfl (fun ls hl => ?_)
        refine lv_iload_n hx hb dX8_run_53 rfl (lv_at hl 4 rfl) ?_
        refine lv_iconst (v := (-1)) hx hb dX8_run_54 (by decide) ?_
        refine lv_icmp_ne (tgt := 61) hx hb dX8_run_55 (by decide) (fun c_17 => ?_) (fun c_17 => ?_)
        · have b_18 := gx_ne (X := (Int32.toInt n3)) (C := (-1)) rfl (by decide) c_17
          refine lv_iload_n hx hb dX8_run_61 rfl (lv_at hl 4 rfl) ?_
          refine lv_bipush (v := (-2)) hx hb dX8_run_62 (by decide) ?_
          refine lv_icmp_ne (tgt := 75) hx hb dX8_run_64 (by decide) (fun c_19 => ?_) (fun c_19 => ?_)
          · have b_20 := gx_ne (X := (Int32.toInt n3)) (C := (-2)) rfl (by decide) c_19
            refine lv_aload_n hx hb dX8_run_75 rfl (lv_at hl 1 rfl) ?_
            refine va_get (D := (dC, dI)) (ci := 7) (v := .ref p7) (C := RX8) (T := TX8) (N := 6) hx hb hts inB_8 hown hK hP 0 rfl rfl 3 (by decide) (hts _ mw_1_171) (fun _ h9 => h9) rfl dX8_run_76 ?_
            refine lv_iload_n hx hb dX8_run_79 rfl (lv_at hl 4 rfl) ?_
            have hPc := hP.sub (ws' := [(p7, .inr (5, [.ref u0, .int (nI q_10), .int z_12, .int z_13])), (u0, .inl (ku0, 40, .inl f_11))]) [1, 2] rfl
            have hDc := hD.sub (ws' := [(p7, .inr (5, [.ref u0, .int (nI q_10), .int z_12, .int z_13])), (u0, .inl (ku0, 40, .inl f_11))]) [1, 2] (by decide) rfl
            have hKc := hK.sub (tys' := [(ku0, .int)]) [0] rfl
            refine va_calli (va_runV (As := [.int n3]) (rest := []) ⟨hx, hb, hml, hown, hts⟩ (c_digit l dC dI H.size p7 u0 q_10 z_12 z_13 ku0 f_11 n3 p_14) (cwV 1 hts (gV mw_2_189 mw_2_190 mw_2_191 mw_1_6 mw_2_192) rfl rfl rfl (by decide +kernel) ⟨Nat.le_of_ble_eq_true rfl, Nat.le_of_ble_eq_true rfl⟩) ⟨pcW_blind, va_recv hKc hPc (ci := 5) (q0 := 0) rfl rfl, pcW_at hPc hKc hDc hN⟩ rfl rfl hl.1 rfl (lv_room (Nat.le_of_ble_eq_true rfl)) dX8_run_80 ⟨Nat.le_of_ble_eq_true rfl, Nat.le_of_ble_eq_true rfl⟩) hS (fun q h1 h2 => absurd h2 (Nat.not_le.mpr h1)) (fun q h => hA q (Nat.le_trans hS.1 h)) (fun r_21 u t H1 locs ht hvm hw_21 hB hz1 hk1 hS => ?_)
            have hP := keepP hP hk1
            clear hz1 hk1 hB ht hvm hPc hDc hKc
            generalize H1 = H at hP hS ⊢
            have hP9 := hP.sub (ws' := [(h0, .inr (7, [.ref p1, u1, .ref p3, .ref p7, u4, u5])), (p1, .inr (1, [w0, .ref b1, w2, .ref b3, w4, w5, .int (nI cn), .int bb])), (b1, .inl (kb1, 10, .inl fle)), (b3, .inl (kb3, 100, .inl fli)), (p3, .inr (0, [.ref e0, .ref e1, .ref e2])), (e0, .inl (ke0, 8, .inl fo)), (e1, .inl (ke1, 80, .inl fbl)), (e2, .inl (ke2, 960, .inl fbs)), (p7, .inr (5, [.ref u0, .int (nI q_10), .int z_12, .int z_13])), (u0, .inl (ku0, 40, .inl f_11))]) [0, 3, 4, 5, 6, 7, 8, 9, 1, 2] rfl
            have hD9 := hD.sub (ws' := [(h0, .inr (7, [.ref p1, u1, .ref p3, .ref p7, u4, u5])), (p1, .inr (1, [w0, .ref b1, w2, .ref b3, w4, w5, .int (nI cn), .int bb])), (b1, .inl (kb1, 10, .inl fle)), (b3, .inl (kb3, 100, .inl fli)), (p3, .inr (0, [.ref e0, .ref e1, .ref e2])), (e0, .inl (ke0, 8, .inl fo)), (e1, .inl (ke1, 80, .inl fbl)), (e2, .inl (ke2, 960, .inl fbs)), (p7, .inr (5, [.ref u0, .int (nI q_10), .int z_12, .int z_13])), (u0, .inl (ku0, 40, .inl f_11))]) [0, 3, 4, 5, 6, 7, 8, 9, 1, 2] (by decide) rfl
            have hK9 := hK.sub (tys' := [(kb1, .int), (kb3, .int), (ke0, .int), (ke1, .int), (ke2, .char), (ku0, .int)]) [1, 2, 3, 4, 5, 0] rfl
            exact W.iret (v := r_21) hx hb hr (fun t ht hW => ⟨⟨r_21, (), rfl, (by have q := b_8; rw [lenN_k (by omega) (by omega)] at q; unfold F_run; rw [if_pos (by omega), nI_clamp (by omega), nI_clamp (by omega), if_neg (by omega), if_neg (by omega), if_neg (by omega)]; have e := hw_21; unfold dgF at e; rw [p_15, p_16] at e; exact e), q_10, f_11, z_12, z_13, p_14, by rw [ht]; exact hP9, va_K.moved hW.alike hK9, hD9⟩, hS.F ht⟩) hS.2.2 dX8_run_83
          · have b_20 := gn_ne (X := (Int32.toInt n3)) (C := (-2)) rfl (by decide) c_19
            refine lv_aload_n hx hb dX8_run_67 rfl (lv_at hl 1 rfl) ?_
            refine va_get (D := (dC, dI)) (ci := 7) (v := .ref p7) (C := RX8) (T := TX8) (N := 6) hx hb hts inB_8 hown hK hP 0 rfl rfl 3 (by decide) (hts _ mw_1_171) (fun _ h9 => h9) rfl dX8_run_68 ?_
            have hPc := hP.sub (ws' := [(p7, .inr (5, [.ref u0, .int (nI q_10), .int z_12, .int z_13])), (u0, .inl (ku0, 40, .inl f_11))]) [1, 2] rfl
            have hDc := hD.sub (ws' := [(p7, .inr (5, [.ref u0, .int (nI q_10), .int z_12, .int z_13])), (u0, .inl (ku0, 40, .inl f_11))]) [1, 2] (by decide) rfl
            have hKc := hK.sub (tys' := [(ku0, .int)]) [0] rfl
            refine va_calli (va_runV (As := []) (rest := []) ⟨hx, hb, hml, hown, hts⟩ (c_howSaid l dC dI H.size p7 u0 q_10 z_12 z_13 ku0 f_11 ) (cwV 0 hts (gV mw_2_185 mw_2_186 mw_2_187 mw_1_6 mw_2_188) rfl rfl rfl (by decide +kernel) ⟨Nat.le_of_ble_eq_true rfl, Nat.le_of_ble_eq_true rfl⟩) ⟨pcW_blind, va_recv hKc hPc (ci := 5) (q0 := 0) rfl rfl, pcW_at hPc hKc hDc hN⟩ rfl rfl hl.1 rfl (lv_room (Nat.le_of_ble_eq_true rfl)) dX8_run_71 ⟨Nat.le_of_ble_eq_true rfl, Nat.le_of_ble_eq_true rfl⟩) hS (fun q h1 h2 => absurd h2 (Nat.not_le.mpr h1)) (fun q h => hA q (Nat.le_trans hS.1 h)) (fun r_22 u t H1 locs ht hvm hw_22 hB hz1 hk1 hS => ?_)
            have hP := keepP hP hk1
            clear hz1 hk1 hB ht hvm hPc hDc hKc
            generalize H1 = H at hP hS ⊢
            obtain rfl : r_22 = nI q_10 := hw_22
            have hP9 := hP.sub (ws' := [(h0, .inr (7, [.ref p1, u1, .ref p3, .ref p7, u4, u5])), (p1, .inr (1, [w0, .ref b1, w2, .ref b3, w4, w5, .int (nI cn), .int bb])), (b1, .inl (kb1, 10, .inl fle)), (b3, .inl (kb3, 100, .inl fli)), (p3, .inr (0, [.ref e0, .ref e1, .ref e2])), (e0, .inl (ke0, 8, .inl fo)), (e1, .inl (ke1, 80, .inl fbl)), (e2, .inl (ke2, 960, .inl fbs)), (p7, .inr (5, [.ref u0, .int (nI q_10), .int z_12, .int z_13])), (u0, .inl (ku0, 40, .inl f_11))]) [0, 3, 4, 5, 6, 7, 8, 9, 1, 2] rfl
            have hD9 := hD.sub (ws' := [(h0, .inr (7, [.ref p1, u1, .ref p3, .ref p7, u4, u5])), (p1, .inr (1, [w0, .ref b1, w2, .ref b3, w4, w5, .int (nI cn), .int bb])), (b1, .inl (kb1, 10, .inl fle)), (b3, .inl (kb3, 100, .inl fli)), (p3, .inr (0, [.ref e0, .ref e1, .ref e2])), (e0, .inl (ke0, 8, .inl fo)), (e1, .inl (ke1, 80, .inl fbl)), (e2, .inl (ke2, 960, .inl fbs)), (p7, .inr (5, [.ref u0, .int (nI q_10), .int z_12, .int z_13])), (u0, .inl (ku0, 40, .inl f_11))]) [0, 3, 4, 5, 6, 7, 8, 9, 1, 2] (by decide) rfl
            have hK9 := hK.sub (tys' := [(kb1, .int), (kb3, .int), (ke0, .int), (ke1, .int), (ke2, .char), (ku0, .int)]) [1, 2, 3, 4, 5, 0] rfl
            exact W.iret (v := (nI q_10)) hx hb hr (fun t ht hW => ⟨⟨(nI q_10), (), rfl, (by have q := b_8; rw [lenN_k (by omega) (by omega)] at q; unfold F_run; rw [if_pos (by omega), nI_clamp (by omega), nI_clamp (by omega), if_neg (by omega), if_neg (by omega), if_pos (by omega)]; exact congrArg nI p_15), q_10, f_11, z_12, z_13, p_14, by rw [ht]; exact hP9, va_K.moved hW.alike hK9, hD9⟩, hS.F ht⟩) hS.2.2 dX8_run_74
        · have b_18 := gn_ne (X := (Int32.toInt n3)) (C := (-1)) rfl (by decide) c_17
          refine lv_iload hx hb dX8_run_58 (lv_at hl 0 rfl) ?_
          have hP9 := hP.sub (ws' := [(h0, .inr (7, [.ref p1, u1, .ref p3, .ref p7, u4, u5])), (p1, .inr (1, [w0, .ref b1, w2, .ref b3, w4, w5, .int (nI cn), .int bb])), (b1, .inl (kb1, 10, .inl fle)), (b3, .inl (kb3, 100, .inl fli)), (p3, .inr (0, [.ref e0, .ref e1, .ref e2])), (e0, .inl (ke0, 8, .inl fo)), (e1, .inl (ke1, 80, .inl fbl)), (e2, .inl (ke2, 960, .inl fbs)), (p7, .inr (5, [.ref u0, .int (nI q_10), .int z_12, .int z_13])), (u0, .inl (ku0, 40, .inl f_11))]) [0, 3, 4, 5, 6, 7, 8, 9, 1, 2] rfl
          have hD9 := hD.sub (ws' := [(h0, .inr (7, [.ref p1, u1, .ref p3, .ref p7, u4, u5])), (p1, .inr (1, [w0, .ref b1, w2, .ref b3, w4, w5, .int (nI cn), .int bb])), (b1, .inl (kb1, 10, .inl fle)), (b3, .inl (kb3, 100, .inl fli)), (p3, .inr (0, [.ref e0, .ref e1, .ref e2])), (e0, .inl (ke0, 8, .inl fo)), (e1, .inl (ke1, 80, .inl fbl)), (e2, .inl (ke2, 960, .inl fbs)), (p7, .inr (5, [.ref u0, .int (nI q_10), .int z_12, .int z_13])), (u0, .inl (ku0, 40, .inl f_11))]) [0, 3, 4, 5, 6, 7, 8, 9, 1, 2] (by decide) rfl
          have hK9 := hK.sub (tys' := [(kb1, .int), (kb3, .int), (ke0, .int), (ke1, .int), (ke2, .char), (ku0, .int)]) [1, 2, 3, 4, 5, 0] rfl
          exact W.iret (v := r_9) hx hb hr (fun t ht hW => ⟨⟨r_9, (), rfl, (by have q := b_8; rw [lenN_k (by omega) (by omega)] at q; unfold F_run; rw [if_pos (by omega), nI_clamp (by omega), nI_clamp (by omega), if_neg (by omega), if_pos (by omega)]; exact hw_9), q_10, f_11, z_12, z_13, p_14, by rw [ht]; exact hP9, va_K.moved hW.alike hK9, hD9⟩, hS.F ht⟩) hS.2.2 dX8_run_60
      · skip
        refine lv_if_ne (tgt := 34) hx hb dX8_run_28 (by decide) (fun h => absurd h (by decide)) (fun _ => ?_)
        refine lv_bipush (v := (-3)) hx hb dX8_run_31 (by decide) ?_
        have hP9 := hP.sub (ws' := [(h0, .inr (7, [.ref p1, u1, .ref p3, .ref p7, u4, u5])), (p1, .inr (1, [w0, .ref b1, w2, .ref b3, w4, w5, .int (nI cn), .int bb])), (b1, .inl (kb1, 10, .inl fle)), (b3, .inl (kb3, 100, .inl fli)), (p3, .inr (0, [.ref e0, .ref e1, .ref e2])), (e0, .inl (ke0, 8, .inl fo)), (e1, .inl (ke1, 80, .inl fbl)), (e2, .inl (ke2, 960, .inl fbs)), (p7, .inr (5, [.ref u0, .int (nI sd), .int md, .int ll])), (u0, .inl (ku0, 40, .inl fd))]) [0, 1, 2, 3, 4, 5, 6, 7, 8, 9] rfl
        have hD9 := hD.sub (ws' := [(h0, .inr (7, [.ref p1, u1, .ref p3, .ref p7, u4, u5])), (p1, .inr (1, [w0, .ref b1, w2, .ref b3, w4, w5, .int (nI cn), .int bb])), (b1, .inl (kb1, 10, .inl fle)), (b3, .inl (kb3, 100, .inl fli)), (p3, .inr (0, [.ref e0, .ref e1, .ref e2])), (e0, .inl (ke0, 8, .inl fo)), (e1, .inl (ke1, 80, .inl fbl)), (e2, .inl (ke2, 960, .inl fbs)), (p7, .inr (5, [.ref u0, .int (nI sd), .int md, .int ll])), (u0, .inl (ku0, 40, .inl fd))]) [0, 1, 2, 3, 4, 5, 6, 7, 8, 9] (by decide) rfl
        have hK9 := hK.sub (tys' := [(kb1, .int), (kb3, .int), (ke0, .int), (ke1, .int), (ke2, .char), (ku0, .int)]) [0, 1, 2, 3, 4, 5] rfl
        exact W.iret (v := (-3)) hx hb hr (fun t ht hW => ⟨⟨(-3), (), rfl, (by have q := b_8; rw [lenN_k (by omega) (by omega)] at q; unfold F_run; rw [if_pos (by omega), nI_clamp (by omega), nI_clamp (by omega), if_pos (by omega)]), sd, fd, md, ll, hsd, by rw [ht]; exact hP9, va_K.moved hW.alike hK9, hD9⟩, hS.F ht⟩) hS.2.2 dX8_run_33
    · skip
      refine lv_if_ne (tgt := 20) hx hb dX8_run_15 (by decide) (fun h => absurd h (by decide)) (fun _ => ?_)
      refine lv_iconst (v := (-1)) hx hb dX8_run_18 (by decide) ?_
      have hP9 := hP.sub (ws' := [(h0, .inr (7, [.ref p1, u1, .ref p3, .ref p7, u4, u5])), (p1, .inr (1, [w0, .ref b1, w2, .ref b3, w4, w5, .int (nI cn), .int bb])), (b1, .inl (kb1, 10, .inl fle)), (b3, .inl (kb3, 100, .inl fli)), (p3, .inr (0, [.ref e0, .ref e1, .ref e2])), (e0, .inl (ke0, 8, .inl fo)), (e1, .inl (ke1, 80, .inl fbl)), (e2, .inl (ke2, 960, .inl fbs)), (p7, .inr (5, [.ref u0, .int (nI sd), .int md, .int ll])), (u0, .inl (ku0, 40, .inl fd))]) [0, 1, 2, 3, 4, 5, 6, 7, 8, 9] rfl
      have hD9 := hD.sub (ws' := [(h0, .inr (7, [.ref p1, u1, .ref p3, .ref p7, u4, u5])), (p1, .inr (1, [w0, .ref b1, w2, .ref b3, w4, w5, .int (nI cn), .int bb])), (b1, .inl (kb1, 10, .inl fle)), (b3, .inl (kb3, 100, .inl fli)), (p3, .inr (0, [.ref e0, .ref e1, .ref e2])), (e0, .inl (ke0, 8, .inl fo)), (e1, .inl (ke1, 80, .inl fbl)), (e2, .inl (ke2, 960, .inl fbs)), (p7, .inr (5, [.ref u0, .int (nI sd), .int md, .int ll])), (u0, .inl (ku0, 40, .inl fd))]) [0, 1, 2, 3, 4, 5, 6, 7, 8, 9] (by decide) rfl
      have hK9 := hK.sub (tys' := [(kb1, .int), (kb3, .int), (ke0, .int), (ke1, .int), (ke2, .char), (ku0, .int)]) [0, 1, 2, 3, 4, 5] rfl
      exact W.iret (v := (-1)) hx hb hr (fun t ht hW => ⟨⟨(-1), (), rfl, (by unfold F_run; rw [if_neg (by omega)]), sd, fd, md, ll, hsd, by rw [ht]; exact hP9, va_K.moved hW.alike hK9, hD9⟩, hS.F ht⟩) hS.2.2 dX8_run_19
  · skip
    refine lv_if_eq (tgt := 18) hx hb dX8_run_8 (by decide) (fun _ => ?_) (fun h => absurd (by decide) h)
    refine lv_iconst (v := (-1)) hx hb dX8_run_18 (by decide) ?_
    have hP9 := hP.sub (ws' := [(h0, .inr (7, [.ref p1, u1, .ref p3, .ref p7, u4, u5])), (p1, .inr (1, [w0, .ref b1, w2, .ref b3, w4, w5, .int (nI cn), .int bb])), (b1, .inl (kb1, 10, .inl fle)), (b3, .inl (kb3, 100, .inl fli)), (p3, .inr (0, [.ref e0, .ref e1, .ref e2])), (e0, .inl (ke0, 8, .inl fo)), (e1, .inl (ke1, 80, .inl fbl)), (e2, .inl (ke2, 960, .inl fbs)), (p7, .inr (5, [.ref u0, .int (nI sd), .int md, .int ll])), (u0, .inl (ku0, 40, .inl fd))]) [0, 1, 2, 3, 4, 5, 6, 7, 8, 9] rfl
    have hD9 := hD.sub (ws' := [(h0, .inr (7, [.ref p1, u1, .ref p3, .ref p7, u4, u5])), (p1, .inr (1, [w0, .ref b1, w2, .ref b3, w4, w5, .int (nI cn), .int bb])), (b1, .inl (kb1, 10, .inl fle)), (b3, .inl (kb3, 100, .inl fli)), (p3, .inr (0, [.ref e0, .ref e1, .ref e2])), (e0, .inl (ke0, 8, .inl fo)), (e1, .inl (ke1, 80, .inl fbl)), (e2, .inl (ke2, 960, .inl fbs)), (p7, .inr (5, [.ref u0, .int (nI sd), .int md, .int ll])), (u0, .inl (ku0, 40, .inl fd))]) [0, 1, 2, 3, 4, 5, 6, 7, 8, 9] (by decide) rfl
    have hK9 := hK.sub (tys' := [(kb1, .int), (kb3, .int), (ke0, .int), (ke1, .int), (ke2, .char), (ku0, .int)]) [0, 1, 2, 3, 4, 5] rfl
    exact W.iret (v := (-1)) hx hb hr (fun t ht hW => ⟨⟨(-1), (), rfl, (by unfold F_run; rw [if_neg (by omega)]), sd, fd, md, ll, hsd, by rw [ht]; exact hP9, va_K.moved hW.alike hK9, hD9⟩, hS.F ht⟩) hS.2.2 dX8_run_19
set_option maxHeartbeats 4000000 in
set_option maxRecDepth 100000 in
theorem x_nearest (l : Launch) (dC : Nat → ClassId) (dI : Nat → Nat → Nat) (sz : Nat) (h0 : Nat) (p1 : Nat) (u1 : Value) (p3 : Nat) (u3 : Value) (u4 : Value) (u5 : Value) (b0 : Nat) (w1 : Value) (w2 : Value) (w3 : Value) (w4 : Value) (w5 : Value) (cn : Nat) (bb : Int32) (kb0 : ClassId) (fab : Nat → Int32) (e0 : Nat) (z1 : Value) (z2 : Value) (ke0 : ClassId) (fo : Nat → Int32) (n1 : Int32) (n2 : Int32) (hc : cn ≤ 10) : Met l yX8_nearest (wq yX8_nearest cX8_nearest 3 (some .int)) ({ frames := 3, cells := 0, slots := 0, locals := 67 }) (va_Pc [.ref h0, .int n1, .int n2] (pcW dC dI [(kb0, .int), (ke0, .int)] [(h0, .inr (7, [.ref p1, u1, .ref p3, u3, u4, u5])), (p1, .inr (1, [.ref b0, w1, w2, w3, w4, w5, .int (nI cn), .int bb])), (b0, .inl (kb0, 10, .inl fab)), (p3, .inr (0, [.ref e0, z1, z2])), (e0, .inl (ke0, 8, .inl fo))] sz)) (va_Qi (fun (r : Int32) (_ : Unit) => r = (F_near cn (nrC fab n1.toNatClampNeg (fo n2.toNatClampNeg)) n1 n2)) (fun _ _ => True) (fun q : Nat => sz ≤ q)) 0 0 (fun q : Nat => sz ≤ q) := by
  refine Met.ofW (cc := cX8_nearest) (maxL := 3) (ret := (some .int)) (by decide) rfl ?_
  intro p e s m args below meth c s₁ B hml hv
  obtain ⟨rfl, hsz, hN, hP, hK, hD0⟩ := hv
  have hx := B.exec
  have hb := B.bytes
  have hr := B.returns
  have hts0 := atoms_spec (ws := (wq yX8_nearest cX8_nearest 3 (some .int))) B.pre
  have hts : ∀ w ∈ BG, w.before _ s = true := fun w h => hts0 w (List.mem_cons_of_mem _ h)
  have hown : s.vm.findClass RX8 = some m.cls := findClass_of_methodNamed B.named
  have hlocks := B.notSynchronized
  subst hsz
  have hA : ∀ q : Nat, s.heap.size ≤ q → (fun q : Nat => s.heap.size ≤ q) q := fun _ h => h
  have hD := hD0
  have hS : va_S (fun q : Nat => s.heap.size ≤ q) s.heap s.heap [] := va_S.rf
  have hP : va_P (dC, dI) vwCl [(h0, .inr (7, [.ref p1, u1, .ref p3, u3, u4, u5])), (p1, .inr (1, [.ref b0, w1, w2, w3, w4, w5, .int (nI cn), .int bb])), (b0, .inl (kb0, 10, .inl fab)), (p3, .inr (0, [.ref e0, z1, z2])), (e0, .inl (ke0, 8, .inl fo))] s.heap := hP
  have hl := lv_entry ([.ref h0, .int n1, .int n2]) (n := 3) (Nat.le_of_ble_eq_true rfl)
  rw [lg_entry_eq]
  generalize (lg_sl ([.ref h0, .int n1, .int n2]) ++ List.replicate (3 - (lg_sl ([.ref h0, .int n1, .int n2])).length) Slot.unset).toArray = ls at hl ⊢
  have hl : lv_has ls 3 [(0, .ref h0), (1, .int n1), (2, .int n2)] := hl
  refine lv_aload_n hx hb dX8_nearest_0 rfl (lv_at hl 0 rfl) ?_
  refine va_get (D := (dC, dI)) (ci := 7) (v := .ref p1) (C := RX8) (T := TX8) (N := 6) hx hb hts inB_8 hown hK hP 0 rfl rfl 0 (by decide) (hts _ mw_1_168) (fun _ h9 => h9) rfl dX8_nearest_1 ?_
  refine lv_iload_n hx hb dX8_nearest_4 rfl (lv_at hl 1 rfl) ?_
  have hPc := hP.sub (ws' := [(p1, .inr (1, [.ref b0, w1, w2, w3, w4, w5, .int (nI cn), .int bb]))]) [1] rfl
  have hDc := hD.sub (ws' := [(p1, .inr (1, [.ref b0, w1, w2, w3, w4, w5, .int (nI cn), .int bb]))]) [1] (by decide) rfl
  have hKc := hK.sub (tys' := []) [] rfl
  refine va_calli (va_runV (As := [.int n1]) (rest := []) ⟨hx, hb, hml, hown, hts⟩ (c_knows l dC dI s.heap.size p1 (.ref b0) (w1) (w2) (w3) (w4) (w5) cn (.int bb) n1 hc) (cwV 1 hts (gV mw_1_191 mw_1_192 mw_1_193 mw_1_2 mw_1_194) rfl rfl rfl (by decide +kernel) ⟨Nat.le_of_ble_eq_true rfl, Nat.le_of_ble_eq_true rfl⟩) ⟨pcW_blind, va_recv hKc hPc (ci := 1) (q0 := 0) rfl rfl, pcW_at hPc hKc hDc hN⟩ rfl rfl hl.1 rfl (lv_room (Nat.le_of_ble_eq_true rfl)) dX8_nearest_5 ⟨Nat.le_of_ble_eq_true rfl, Nat.le_of_ble_eq_true rfl⟩) hS (fun q h1 h2 => absurd h2 (Nat.not_le.mpr h1)) (fun q h => hA q (Nat.le_trans hS.1 h)) (fun r_1 u t H1 locs ht hvm hw_1 hB hz1 hk1 hS => ?_)
  have hP := keepP hP hk1
  clear hz1 hk1 hB ht hvm hPc hDc hKc
  generalize H1 = H at hP hS ⊢
  rcases fx_bool hw_1 with ⟨rfl, b_2⟩ | ⟨rfl, b_2⟩
  · skip
    refine lv_if_eq (tgt := 18) hx hb dX8_nearest_8 (by decide) (fun h => absurd h (by decide)) (fun _ => ?_)
    refine lv_iload_n hx hb dX8_nearest_11 rfl (lv_at hl 2 rfl) ?_
    have hPc := hP.sub (ws' := []) [] rfl
    have hDc := hD.sub (ws' := []) [] (by decide) rfl
    have hKc := hK.sub (tys' := []) [] rfl
    refine va_calli (va_runS (As := [.int n2]) (rest := []) ⟨hx, hb, hml, hown, hts⟩ (c_isName l dC dI H.size n2 ) (va_cwS 1 hts (gS mw_2_97 mw_2_98 mw_1_1 mw_2_99) rfl rfl rfl (by decide +kernel) ⟨Nat.le_of_ble_eq_true rfl, Nat.le_of_ble_eq_true rfl⟩) ⟨pcW_blind, pcW_at hPc hKc hDc hN⟩ rfl rfl hl.1 rfl (lv_room (Nat.le_of_ble_eq_true rfl)) dX8_nearest_12 ⟨Nat.le_of_ble_eq_true rfl, Nat.le_of_ble_eq_true rfl⟩) hS (fun q h1 h2 => absurd h2 (Nat.not_le.mpr h1)) (fun q h => hA q (Nat.le_trans hS.1 h)) (fun r_3 u t H1 locs ht hvm hw_3 hB hz1 hk1 hS => ?_)
    have hP := keepP hP hk1
    clear hz1 hk1 hB ht hvm hPc hDc hKc
    generalize H1 = H at hP hS ⊢
    rcases fx_bool hw_3 with ⟨rfl, b_4⟩ | ⟨rfl, b_4⟩
    · skip
      refine lv_if_ne (tgt := 20) hx hb dX8_nearest_15 (by decide) (fun _ => ?_) (fun h => absurd h (by decide))
      obtain ⟨j_5, tj_5, ej_5⟩ := fx_nat (x := n1) (by omega)
      subst ej_5
      have yj_5 : Int32.toInt (nI j_5) = (j_5 : Int) := nI_toInt tj_5
      obtain ⟨j_6, tj_6, ej_6⟩ := fx_nat (x := n2) (by omega)
      subst ej_6
      have yj_6 : Int32.toInt (nI j_6) = (j_6 : Int) := nI_toInt tj_6
      refine lv_aload_n hx hb dX8_nearest_20 rfl (lv_at hl 0 rfl) ?_
      refine va_get (D := (dC, dI)) (ci := 7) (v := .ref p1) (C := RX8) (T := TX8) (N := 6) hx hb hts inB_8 hown hK hP 0 rfl rfl 0 (by decide) (hts _ mw_1_168) (fun _ h9 => h9) rfl dX8_nearest_21 ?_
      refine lv_iload_n hx hb dX8_nearest_24 rfl (lv_at hl 1 rfl) ?_
      refine lv_aload_n hx hb dX8_nearest_25 rfl (lv_at hl 0 rfl) ?_
      refine va_get (D := (dC, dI)) (ci := 7) (v := .ref p3) (C := RX8) (T := TX8) (N := 6) hx hb hts inB_8 hown hK hP 0 rfl rfl 2 (by decide) (hts _ mw_1_170) (fun _ h9 => h9) rfl dX8_nearest_26 ?_
      refine lv_iload_n hx hb dX8_nearest_29 rfl (lv_at hl 2 rfl) ?_
      have hPc := hP.sub (ws' := [(p3, .inr (0, [.ref e0, z1, z2])), (e0, .inl (ke0, 8, .inl fo))]) [3, 4] rfl
      have hDc := hD.sub (ws' := [(p3, .inr (0, [.ref e0, z1, z2])), (e0, .inl (ke0, 8, .inl fo))]) [3, 4] (by decide) rfl
      have hKc := hK.sub (tys' := [(ke0, .int)]) [1] rfl
      refine va_calli (va_runV (As := [.int (nI j_6)]) (rest := [.int (nI j_5), .ref p1]) ⟨hx, hb, hml, hown, hts⟩ (c_own l dC dI H.size p3 e0 (z1) (z2) ke0 fo j_6 (by omega)) (cwV 1 hts (gV mw_2_140 mw_2_105 mw_2_106 mw_1_5 mw_2_107) rfl rfl rfl (by decide +kernel) ⟨Nat.le_of_ble_eq_true rfl, Nat.le_of_ble_eq_true rfl⟩) ⟨pcW_blind, va_recv hKc hPc (ci := 0) (q0 := 0) rfl rfl, pcW_at hPc hKc hDc hN⟩ rfl rfl hl.1 rfl (lv_room (Nat.le_of_ble_eq_true rfl)) dX8_nearest_30 ⟨Nat.le_of_ble_eq_true rfl, Nat.le_of_ble_eq_true rfl⟩) hS (fun q h1 h2 => absurd h2 (Nat.not_le.mpr h1)) (fun q h => hA q (Nat.le_trans hS.1 h)) (fun r_7 u t H1 locs ht hvm hw_7 hB hz1 hk1 hS => ?_)
      have hP := keepP hP hk1
      clear hz1 hk1 hB ht hvm hPc hDc hKc
      generalize H1 = H at hP hS ⊢
      obtain rfl : r_7 = (fo j_6) := hw_7
      have hPc := hP.sub (ws' := [(p1, .inr (1, [.ref b0, w1, w2, w3, w4, w5, .int (nI cn), .int bb])), (b0, .inl (kb0, 10, .inl fab))]) [1, 2] rfl
      have hDc := hD.sub (ws' := [(p1, .inr (1, [.ref b0, w1, w2, w3, w4, w5, .int (nI cn), .int bb])), (b0, .inl (kb0, 10, .inl fab))]) [1, 2] (by decide) rfl
      have hKc := hK.sub (tys' := [(kb0, .int)]) [0] rfl
      refine va_calli (va_runS (As := [.ref p1, .int (nI j_5), .int (fo j_6)]) (rest := []) ⟨hx, hb, hml, hown, hts⟩ (c_nearestOf l dC dI H.size p1 b0 (w1) (w2) (w3) (w4) (w5) cn (.int bb) kb0 fab j_5 (fo j_6) hc (by omega)) (va_cwS 3 hts (gS mw_2_197 mw_2_198 mw_1_11 mw_2_199) rfl rfl rfl (by decide +kernel) ⟨Nat.le_of_ble_eq_true rfl, Nat.le_of_ble_eq_true rfl⟩) ⟨pcW_blind, pcW_at hPc hKc hDc hN⟩ rfl rfl hl.1 rfl (lv_room (Nat.le_of_ble_eq_true rfl)) dX8_nearest_33 ⟨Nat.le_of_ble_eq_true rfl, Nat.le_of_ble_eq_true rfl⟩) hS (fun q h1 h2 => absurd h2 (Nat.not_le.mpr h1)) (fun q h => hA q (Nat.le_trans hS.1 h)) (fun r_8 u t H1 locs ht hvm hw_8 hB hz1 hk1 hS => ?_)
      have hP := keepP hP hk1
      clear hz1 hk1 hB ht hvm hPc hDc hKc
      generalize H1 = H at hP hS ⊢
      obtain rfl : r_8 = (nrC fab j_5 (fo j_6)) := hw_8
      exact W.iret (v := (nrC fab j_5 (fo j_6))) hx hb hr (fun t ht hW => ⟨⟨(nrC fab j_5 (fo j_6)), (), rfl, (by unfold F_near; rw [if_pos (by omega), nI_clamp (by omega), nI_clamp (by omega)]), trivial⟩, hS.F ht⟩) hS.2.2 dX8_nearest_36
    · skip
      refine lv_if_ne (tgt := 20) hx hb dX8_nearest_15 (by decide) (fun h => absurd h (by decide)) (fun _ => ?_)
      refine lv_iconst (v := (-1)) hx hb dX8_nearest_18 (by decide) ?_
      exact W.iret (v := (-1)) hx hb hr (fun t ht hW => ⟨⟨(-1), (), rfl, (by unfold F_near; rw [if_neg (by omega)]), trivial⟩, hS.F ht⟩) hS.2.2 dX8_nearest_19
  · skip
    refine lv_if_eq (tgt := 18) hx hb dX8_nearest_8 (by decide) (fun _ => ?_) (fun h => absurd (by decide) h)
    refine lv_iconst (v := (-1)) hx hb dX8_nearest_18 (by decide) ?_
    exact W.iret (v := (-1)) hx hb hr (fun t ht hW => ⟨⟨(-1), (), rfl, (by unfold F_near; rw [if_neg (by omega)]), trivial⟩, hS.F ht⟩) hS.2.2 dX8_nearest_19
set_option maxHeartbeats 4000000 in
set_option maxRecDepth 100000 in
theorem x_doubt (l : Launch) (dC : Nat → ClassId) (dI : Nat → Nat → Nat) (sz : Nat) (h0 : Nat) (p1 : Nat) (u1 : Value) (p3 : Nat) (u3 : Value) (u4 : Value) (u5 : Value) (b0 : Nat) (w1 : Value) (w2 : Value) (w3 : Value) (w4 : Value) (w5 : Value) (cn : Nat) (bb : Int32) (kb0 : ClassId) (fab : Nat → Int32) (e0 : Nat) (z1 : Value) (z2 : Value) (ke0 : ClassId) (fo : Nat → Int32) (n1 : Int32) (hc : cn ≤ 10) : Met l yX8_doubt (wq yX8_doubt cX8_doubt 2 (some .int)) ({ frames := 5, cells := 0, slots := 0, locals := 113 }) (va_Pc [.ref h0, .int n1] (pcW dC dI [(kb0, .int), (ke0, .int)] [(h0, .inr (7, [.ref p1, u1, .ref p3, u3, u4, u5])), (p1, .inr (1, [.ref b0, w1, w2, w3, w4, w5, .int (nI cn), .int bb])), (b0, .inl (kb0, 10, .inl fab)), (p3, .inr (0, [.ref e0, z1, z2])), (e0, .inl (ke0, 8, .inl fo))] sz)) (va_Qi (fun (r : Int32) (_ : Unit) => r = (F_nm (dbC fab cn (fo n1.toNatClampNeg)) n1)) (fun _ _ => True) (fun q : Nat => sz ≤ q)) 0 0 (fun q : Nat => sz ≤ q) := by
  refine Met.ofW (cc := cX8_doubt) (maxL := 2) (ret := (some .int)) (by decide) rfl ?_
  intro p e s m args below meth c s₁ B hml hv
  obtain ⟨rfl, hsz, hN, hP, hK, hD0⟩ := hv
  have hx := B.exec
  have hb := B.bytes
  have hr := B.returns
  have hts0 := atoms_spec (ws := (wq yX8_doubt cX8_doubt 2 (some .int))) B.pre
  have hts : ∀ w ∈ BG, w.before _ s = true := fun w h => hts0 w (List.mem_cons_of_mem _ h)
  have hown : s.vm.findClass RX8 = some m.cls := findClass_of_methodNamed B.named
  have hlocks := B.notSynchronized
  subst hsz
  have hA : ∀ q : Nat, s.heap.size ≤ q → (fun q : Nat => s.heap.size ≤ q) q := fun _ h => h
  have hD := hD0
  have hS : va_S (fun q : Nat => s.heap.size ≤ q) s.heap s.heap [] := va_S.rf
  have hP : va_P (dC, dI) vwCl [(h0, .inr (7, [.ref p1, u1, .ref p3, u3, u4, u5])), (p1, .inr (1, [.ref b0, w1, w2, w3, w4, w5, .int (nI cn), .int bb])), (b0, .inl (kb0, 10, .inl fab)), (p3, .inr (0, [.ref e0, z1, z2])), (e0, .inl (ke0, 8, .inl fo))] s.heap := hP
  have hl := lv_entry ([.ref h0, .int n1]) (n := 2) (Nat.le_of_ble_eq_true rfl)
  rw [lg_entry_eq]
  generalize (lg_sl ([.ref h0, .int n1]) ++ List.replicate (2 - (lg_sl ([.ref h0, .int n1])).length) Slot.unset).toArray = ls at hl ⊢
  have hl : lv_has ls 2 [(0, .ref h0), (1, .int n1)] := hl
  refine lv_iload_n hx hb dX8_doubt_0 rfl (lv_at hl 1 rfl) ?_
  have hPc := hP.sub (ws' := []) [] rfl
  have hDc := hD.sub (ws' := []) [] (by decide) rfl
  have hKc := hK.sub (tys' := []) [] rfl
  refine va_calli (va_runS (As := [.int n1]) (rest := []) ⟨hx, hb, hml, hown, hts⟩ (c_isName l dC dI s.heap.size n1 ) (va_cwS 1 hts (gS mw_2_97 mw_2_98 mw_1_1 mw_2_99) rfl rfl rfl (by decide +kernel) ⟨Nat.le_of_ble_eq_true rfl, Nat.le_of_ble_eq_true rfl⟩) ⟨pcW_blind, pcW_at hPc hKc hDc hN⟩ rfl rfl hl.1 rfl (lv_room (Nat.le_of_ble_eq_true rfl)) dX8_doubt_1 ⟨Nat.le_of_ble_eq_true rfl, Nat.le_of_ble_eq_true rfl⟩) hS (fun q h1 h2 => absurd h2 (Nat.not_le.mpr h1)) (fun q h => hA q (Nat.le_trans hS.1 h)) (fun r_1 u t H1 locs ht hvm hw_1 hB hz1 hk1 hS => ?_)
  have hP := keepP hP hk1
  clear hz1 hk1 hB ht hvm hPc hDc hKc
  generalize H1 = H at hP hS ⊢
  rcases fx_bool hw_1 with ⟨rfl, b_2⟩ | ⟨rfl, b_2⟩
  · skip
    refine lv_if_ne (tgt := 9) hx hb dX8_doubt_4 (by decide) (fun _ => ?_) (fun h => absurd h (by decide))
    obtain ⟨j_3, tj_3, ej_3⟩ := fx_nat (x := n1) (by omega)
    subst ej_3
    have yj_3 : Int32.toInt (nI j_3) = (j_3 : Int) := nI_toInt tj_3
    refine lv_aload_n hx hb dX8_doubt_9 rfl (lv_at hl 0 rfl) ?_
    refine va_get (D := (dC, dI)) (ci := 7) (v := .ref p1) (C := RX8) (T := TX8) (N := 6) hx hb hts inB_8 hown hK hP 0 rfl rfl 0 (by decide) (hts _ mw_1_168) (fun _ h9 => h9) rfl dX8_doubt_10 ?_
    refine lv_aload_n hx hb dX8_doubt_13 rfl (lv_at hl 0 rfl) ?_
    refine va_get (D := (dC, dI)) (ci := 7) (v := .ref p3) (C := RX8) (T := TX8) (N := 6) hx hb hts inB_8 hown hK hP 0 rfl rfl 2 (by decide) (hts _ mw_1_170) (fun _ h9 => h9) rfl dX8_doubt_14 ?_
    refine lv_iload_n hx hb dX8_doubt_17 rfl (lv_at hl 1 rfl) ?_
    have hPc := hP.sub (ws' := [(p3, .inr (0, [.ref e0, z1, z2])), (e0, .inl (ke0, 8, .inl fo))]) [3, 4] rfl
    have hDc := hD.sub (ws' := [(p3, .inr (0, [.ref e0, z1, z2])), (e0, .inl (ke0, 8, .inl fo))]) [3, 4] (by decide) rfl
    have hKc := hK.sub (tys' := [(ke0, .int)]) [1] rfl
    refine va_calli (va_runV (As := [.int (nI j_3)]) (rest := [.ref p1]) ⟨hx, hb, hml, hown, hts⟩ (c_own l dC dI H.size p3 e0 (z1) (z2) ke0 fo j_3 (by omega)) (cwV 1 hts (gV mw_2_140 mw_2_105 mw_2_106 mw_1_5 mw_2_107) rfl rfl rfl (by decide +kernel) ⟨Nat.le_of_ble_eq_true rfl, Nat.le_of_ble_eq_true rfl⟩) ⟨pcW_blind, va_recv hKc hPc (ci := 0) (q0 := 0) rfl rfl, pcW_at hPc hKc hDc hN⟩ rfl rfl hl.1 rfl (lv_room (Nat.le_of_ble_eq_true rfl)) dX8_doubt_18 ⟨Nat.le_of_ble_eq_true rfl, Nat.le_of_ble_eq_true rfl⟩) hS (fun q h1 h2 => absurd h2 (Nat.not_le.mpr h1)) (fun q h => hA q (Nat.le_trans hS.1 h)) (fun r_4 u t H1 locs ht hvm hw_4 hB hz1 hk1 hS => ?_)
    have hP := keepP hP hk1
    clear hz1 hk1 hB ht hvm hPc hDc hKc
    generalize H1 = H at hP hS ⊢
    obtain rfl : r_4 = (fo j_3) := hw_4
    have hPc := hP.sub (ws' := [(p1, .inr (1, [.ref b0, w1, w2, w3, w4, w5, .int (nI cn), .int bb])), (b0, .inl (kb0, 10, .inl fab))]) [1, 2] rfl
    have hDc := hD.sub (ws' := [(p1, .inr (1, [.ref b0, w1, w2, w3, w4, w5, .int (nI cn), .int bb])), (b0, .inl (kb0, 10, .inl fab))]) [1, 2] (by decide) rfl
    have hKc := hK.sub (tys' := [(kb0, .int)]) [0] rfl
    refine va_calli (va_runS (As := [.ref p1, .int (fo j_3)]) (rest := []) ⟨hx, hb, hml, hown, hts⟩ (c_doubtful l dC dI H.size p1 b0 (w1) (w2) (w3) (w4) (w5) cn (.int bb) kb0 fab (fo j_3) hc) (va_cwS 2 hts (gS mw_2_206 mw_2_207 mw_1_11 mw_2_208) rfl rfl rfl (by decide +kernel) ⟨Nat.le_of_ble_eq_true rfl, Nat.le_of_ble_eq_true rfl⟩) ⟨pcW_blind, pcW_at hPc hKc hDc hN⟩ rfl rfl hl.1 rfl (lv_room (Nat.le_of_ble_eq_true rfl)) dX8_doubt_21 ⟨Nat.le_of_ble_eq_true rfl, Nat.le_of_ble_eq_true rfl⟩) hS (fun q h1 h2 => absurd h2 (Nat.not_le.mpr h1)) (fun q h => hA q (Nat.le_trans hS.1 h)) (fun r_5 u t H1 locs ht hvm hw_5 hB hz1 hk1 hS => ?_)
    have hP := keepP hP hk1
    clear hz1 hk1 hB ht hvm hPc hDc hKc
    generalize H1 = H at hP hS ⊢
    obtain rfl : r_5 = (dbC fab cn (fo j_3)) := hw_5
    exact W.iret (v := (dbC fab cn (fo j_3))) hx hb hr (fun t ht hW => ⟨⟨(dbC fab cn (fo j_3)), (), rfl, (by unfold F_nm; rw [if_pos (by omega), nI_clamp (by omega)]), trivial⟩, hS.F ht⟩) hS.2.2 dX8_doubt_24
  · skip
    refine lv_if_ne (tgt := 9) hx hb dX8_doubt_4 (by decide) (fun h => absurd h (by decide)) (fun _ => ?_)
    refine lv_iconst (v := (-1)) hx hb dX8_doubt_7 (by decide) ?_
    exact W.iret (v := (-1)) hx hb hr (fun t ht hW => ⟨⟨(-1), (), rfl, (by unfold F_nm; rw [if_neg (by omega)]), trivial⟩, hS.F ht⟩) hS.2.2 dX8_doubt_8
set_option maxHeartbeats 4000000 in
set_option maxRecDepth 100000 in
theorem x_settle (l : Launch) (dC : Nat → ClassId) (dI : Nat → Nat → Nat) (sz : Nat) (h0 : Nat) (p1 : Nat) (u1 : Value) (p3 : Nat) (u3 : Value) (u4 : Value) (u5 : Value) (b0 : Nat) (w1 : Value) (w2 : Value) (w3 : Value) (w4 : Value) (w5 : Value) (cn : Nat) (bb : Int32) (kb0 : ClassId) (fab : Nat → Int32) (e0 : Nat) (z1 : Value) (z2 : Value) (ke0 : ClassId) (fo : Nat → Int32) (n1 : Int32) (n2 : Int32) (hc : cn ≤ 10) : Met l yX8_settle (wq yX8_settle cX8_settle 3 (some .int)) ({ frames := 5, cells := 0, slots := 0, locals := 113 }) (va_Pc [.ref h0, .int n1, .int n2] (pcW dC dI [(kb0, .int), (ke0, .int)] [(h0, .inr (7, [.ref p1, u1, .ref p3, u3, u4, u5])), (p1, .inr (1, [.ref b0, w1, w2, w3, w4, w5, .int (nI cn), .int bb])), (b0, .inl (kb0, 10, .inl fab)), (p3, .inr (0, [.ref e0, z1, z2])), (e0, .inl (ke0, 8, .inl fo))] sz)) (va_Qi (fun (r : Int32) (_ : Unit) => r = (F_settle (stF fab (fo n1.toNatClampNeg) cn) (bcF (stF fab (fo n1.toNatClampNeg) cn)) n1 n2)) (fun _ _ => True) (fun q : Nat => sz ≤ q)) 0 0 (fun q : Nat => sz ≤ q) := by
  refine Met.ofW (cc := cX8_settle) (maxL := 3) (ret := (some .int)) (by decide) rfl ?_
  intro p e s m args below meth c s₁ B hml hv
  obtain ⟨rfl, hsz, hN, hP, hK, hD0⟩ := hv
  have hx := B.exec
  have hb := B.bytes
  have hr := B.returns
  have hts0 := atoms_spec (ws := (wq yX8_settle cX8_settle 3 (some .int))) B.pre
  have hts : ∀ w ∈ BG, w.before _ s = true := fun w h => hts0 w (List.mem_cons_of_mem _ h)
  have hown : s.vm.findClass RX8 = some m.cls := findClass_of_methodNamed B.named
  have hlocks := B.notSynchronized
  subst hsz
  have hA : ∀ q : Nat, s.heap.size ≤ q → (fun q : Nat => s.heap.size ≤ q) q := fun _ h => h
  have hD := hD0
  have hS : va_S (fun q : Nat => s.heap.size ≤ q) s.heap s.heap [] := va_S.rf
  have hP : va_P (dC, dI) vwCl [(h0, .inr (7, [.ref p1, u1, .ref p3, u3, u4, u5])), (p1, .inr (1, [.ref b0, w1, w2, w3, w4, w5, .int (nI cn), .int bb])), (b0, .inl (kb0, 10, .inl fab)), (p3, .inr (0, [.ref e0, z1, z2])), (e0, .inl (ke0, 8, .inl fo))] s.heap := hP
  have hl := lv_entry ([.ref h0, .int n1, .int n2]) (n := 3) (Nat.le_of_ble_eq_true rfl)
  rw [lg_entry_eq]
  generalize (lg_sl ([.ref h0, .int n1, .int n2]) ++ List.replicate (3 - (lg_sl ([.ref h0, .int n1, .int n2])).length) Slot.unset).toArray = ls at hl ⊢
  have hl : lv_has ls 3 [(0, .ref h0), (1, .int n1), (2, .int n2)] := hl
  refine lv_iload_n hx hb dX8_settle_0 rfl (lv_at hl 1 rfl) ?_
  have hPc := hP.sub (ws' := []) [] rfl
  have hDc := hD.sub (ws' := []) [] (by decide) rfl
  have hKc := hK.sub (tys' := []) [] rfl
  refine va_calli (va_runS (As := [.int n1]) (rest := []) ⟨hx, hb, hml, hown, hts⟩ (c_isName l dC dI s.heap.size n1 ) (va_cwS 1 hts (gS mw_2_97 mw_2_98 mw_1_1 mw_2_99) rfl rfl rfl (by decide +kernel) ⟨Nat.le_of_ble_eq_true rfl, Nat.le_of_ble_eq_true rfl⟩) ⟨pcW_blind, pcW_at hPc hKc hDc hN⟩ rfl rfl hl.1 rfl (lv_room (Nat.le_of_ble_eq_true rfl)) dX8_settle_1 ⟨Nat.le_of_ble_eq_true rfl, Nat.le_of_ble_eq_true rfl⟩) hS (fun q h1 h2 => absurd h2 (Nat.not_le.mpr h1)) (fun q h => hA q (Nat.le_trans hS.1 h)) (fun r_1 u t H1 locs ht hvm hw_1 hB hz1 hk1 hS => ?_)
  have hP := keepP hP hk1
  clear hz1 hk1 hB ht hvm hPc hDc hKc
  generalize H1 = H at hP hS ⊢
  rcases fx_bool hw_1 with ⟨rfl, b_2⟩ | ⟨rfl, b_2⟩
  · skip
    refine lv_if_ne (tgt := 9) hx hb dX8_settle_4 (by decide) (fun _ => ?_) (fun h => absurd h (by decide))
    refine lv_iload_n hx hb dX8_settle_9 rfl (lv_at hl 2 rfl) ?_
    refine lv_if_eq (tgt := 21) hx hb dX8_settle_10 (by decide) (fun c_3 => ?_) (fun c_3 => ?_)
    · have b_4 := gx_eq (X := (Int32.toInt n2)) (C := 0) rfl (by decide) c_3
      obtain ⟨j_5, tj_5, ej_5⟩ := fx_nat (x := n1) (by omega)
      subst ej_5
      have yj_5 : Int32.toInt (nI j_5) = (j_5 : Int) := nI_toInt tj_5
      refine lv_aload_n hx hb dX8_settle_21 rfl (lv_at hl 0 rfl) ?_
      refine va_get (D := (dC, dI)) (ci := 7) (v := .ref p1) (C := RX8) (T := TX8) (N := 6) hx hb hts inB_8 hown hK hP 0 rfl rfl 0 (by decide) (hts _ mw_1_168) (fun _ h9 => h9) rfl dX8_settle_22 ?_
      refine lv_aload_n hx hb dX8_settle_25 rfl (lv_at hl 0 rfl) ?_
      refine va_get (D := (dC, dI)) (ci := 7) (v := .ref p3) (C := RX8) (T := TX8) (N := 6) hx hb hts inB_8 hown hK hP 0 rfl rfl 2 (by decide) (hts _ mw_1_170) (fun _ h9 => h9) rfl dX8_settle_26 ?_
      refine lv_iload_n hx hb dX8_settle_29 rfl (lv_at hl 1 rfl) ?_
      have hPc := hP.sub (ws' := [(p3, .inr (0, [.ref e0, z1, z2])), (e0, .inl (ke0, 8, .inl fo))]) [3, 4] rfl
      have hDc := hD.sub (ws' := [(p3, .inr (0, [.ref e0, z1, z2])), (e0, .inl (ke0, 8, .inl fo))]) [3, 4] (by decide) rfl
      have hKc := hK.sub (tys' := [(ke0, .int)]) [1] rfl
      refine va_calli (va_runV (As := [.int (nI j_5)]) (rest := [.ref p1]) ⟨hx, hb, hml, hown, hts⟩ (c_own l dC dI H.size p3 e0 (z1) (z2) ke0 fo j_5 (by omega)) (cwV 1 hts (gV mw_2_140 mw_2_105 mw_2_106 mw_1_5 mw_2_107) rfl rfl rfl (by decide +kernel) ⟨Nat.le_of_ble_eq_true rfl, Nat.le_of_ble_eq_true rfl⟩) ⟨pcW_blind, va_recv hKc hPc (ci := 0) (q0 := 0) rfl rfl, pcW_at hPc hKc hDc hN⟩ rfl rfl hl.1 rfl (lv_room (Nat.le_of_ble_eq_true rfl)) dX8_settle_30 ⟨Nat.le_of_ble_eq_true rfl, Nat.le_of_ble_eq_true rfl⟩) hS (fun q h1 h2 => absurd h2 (Nat.not_le.mpr h1)) (fun q h => hA q (Nat.le_trans hS.1 h)) (fun r_6 u t H1 locs ht hvm hw_6 hB hz1 hk1 hS => ?_)
      have hP := keepP hP hk1
      clear hz1 hk1 hB ht hvm hPc hDc hKc
      generalize H1 = H at hP hS ⊢
      obtain rfl : r_6 = (fo j_5) := hw_6
      have hPc := hP.sub (ws' := [(p1, .inr (1, [.ref b0, w1, w2, w3, w4, w5, .int (nI cn), .int bb])), (b0, .inl (kb0, 10, .inl fab))]) [1, 2] rfl
      have hDc := hD.sub (ws' := [(p1, .inr (1, [.ref b0, w1, w2, w3, w4, w5, .int (nI cn), .int bb])), (b0, .inl (kb0, 10, .inl fab))]) [1, 2] (by decide) rfl
      have hKc := hK.sub (tys' := [(kb0, .int)]) [0] rfl
      refine va_calli (va_runS (As := [.ref p1, .int (fo j_5)]) (rest := []) ⟨hx, hb, hml, hown, hts⟩ (c_settlers l dC dI H.size p1 b0 (w1) (w2) (w3) (w4) (w5) cn (.int bb) kb0 fab (fo j_5) hc) (va_cwS 2 hts (gS mw_2_227 mw_2_228 mw_1_11 mw_2_229) rfl rfl rfl (by decide +kernel) ⟨Nat.le_of_ble_eq_true rfl, Nat.le_of_ble_eq_true rfl⟩) ⟨pcW_blind, pcW_at hPc hKc hDc hN⟩ rfl rfl hl.1 rfl (lv_room (Nat.le_of_ble_eq_true rfl)) dX8_settle_33 ⟨Nat.le_of_ble_eq_true rfl, Nat.le_of_ble_eq_true rfl⟩) hS (fun q h1 h2 => absurd h2 (Nat.not_le.mpr h1)) (fun q h => hA q (Nat.le_trans hS.1 h)) (fun r_7 u t H1 locs ht hvm hw_7 hB hz1 hk1 hS => ?_)
      have hP := keepP hP hk1
      clear hz1 hk1 hB ht hvm hPc hDc hKc
      generalize H1 = H at hP hS ⊢
      obtain rfl : r_7 = (stF fab (fo j_5) cn) := hw_7
      refine lv_iload_n hx hb dX8_settle_36 rfl (lv_at hl 2 rfl) ?_
      refine hx_top (y := 0) (fx_sing (C := 0) (by decide) (by omega)) ?_
      have hPc := hP.sub (ws' := []) [] rfl
      have hDc := hD.sub (ws' := []) [] (by decide) rfl
      have hKc := hK.sub (tys' := []) [] rfl
      refine va_calli (va_runS (As := [.int (stF fab (fo j_5) cn), .int 0]) (rest := []) ⟨hx, hb, hml, hown, hts⟩ (c_boc l dC dI H.size (stF fab (fo j_5) cn) 0 ) (va_cwS 2 hts (gS mw_2_230 mw_2_231 mw_1_1 mw_2_232) rfl rfl rfl (by decide +kernel) ⟨Nat.le_of_ble_eq_true rfl, Nat.le_of_ble_eq_true rfl⟩) ⟨pcW_blind, pcW_at hPc hKc hDc hN⟩ rfl rfl hl.1 rfl (lv_room (Nat.le_of_ble_eq_true rfl)) dX8_settle_37 ⟨Nat.le_of_ble_eq_true rfl, Nat.le_of_ble_eq_true rfl⟩) hS (fun q h1 h2 => absurd h2 (Nat.not_le.mpr h1)) (fun q h => hA q (Nat.le_trans hS.1 h)) (fun r_8 u t H1 locs ht hvm hw_8 hB hz1 hk1 hS => ?_)
      have hP := keepP hP hk1
      clear hz1 hk1 hB ht hvm hPc hDc hKc
      generalize H1 = H at hP hS ⊢
      exact W.iret (v := r_8) hx hb hr (fun t ht hW => ⟨⟨r_8, (), rfl, (by unfold F_settle; rw [if_pos (by omega), if_pos (by omega), nI_clamp (by omega)]; exact hw_8.trans (if_pos rfl)), trivial⟩, hS.F ht⟩) hS.2.2 dX8_settle_40
    · have b_4 := gn_eq (X := (Int32.toInt n2)) (C := 0) rfl (by decide) c_3
      refine lv_iload_n hx hb dX8_settle_13 rfl (lv_at hl 2 rfl) ?_
      refine lv_iconst (v := 1) hx hb dX8_settle_14 (by decide) ?_
      refine lv_icmp_eq (tgt := 21) hx hb dX8_settle_15 (by decide) (fun c_9 => ?_) (fun c_9 => ?_)
      · have b_10 := gx_eq (X := (Int32.toInt n2)) (C := 1) rfl (by decide) c_9
        obtain ⟨j_11, tj_11, ej_11⟩ := fx_nat (x := n1) (by omega)
        subst ej_11
        have yj_11 : Int32.toInt (nI j_11) = (j_11 : Int) := nI_toInt tj_11
        refine lv_aload_n hx hb dX8_settle_21 rfl (lv_at hl 0 rfl) ?_
        refine va_get (D := (dC, dI)) (ci := 7) (v := .ref p1) (C := RX8) (T := TX8) (N := 6) hx hb hts inB_8 hown hK hP 0 rfl rfl 0 (by decide) (hts _ mw_1_168) (fun _ h9 => h9) rfl dX8_settle_22 ?_
        refine lv_aload_n hx hb dX8_settle_25 rfl (lv_at hl 0 rfl) ?_
        refine va_get (D := (dC, dI)) (ci := 7) (v := .ref p3) (C := RX8) (T := TX8) (N := 6) hx hb hts inB_8 hown hK hP 0 rfl rfl 2 (by decide) (hts _ mw_1_170) (fun _ h9 => h9) rfl dX8_settle_26 ?_
        refine lv_iload_n hx hb dX8_settle_29 rfl (lv_at hl 1 rfl) ?_
        have hPc := hP.sub (ws' := [(p3, .inr (0, [.ref e0, z1, z2])), (e0, .inl (ke0, 8, .inl fo))]) [3, 4] rfl
        have hDc := hD.sub (ws' := [(p3, .inr (0, [.ref e0, z1, z2])), (e0, .inl (ke0, 8, .inl fo))]) [3, 4] (by decide) rfl
        have hKc := hK.sub (tys' := [(ke0, .int)]) [1] rfl
        refine va_calli (va_runV (As := [.int (nI j_11)]) (rest := [.ref p1]) ⟨hx, hb, hml, hown, hts⟩ (c_own l dC dI H.size p3 e0 (z1) (z2) ke0 fo j_11 (by omega)) (cwV 1 hts (gV mw_2_140 mw_2_105 mw_2_106 mw_1_5 mw_2_107) rfl rfl rfl (by decide +kernel) ⟨Nat.le_of_ble_eq_true rfl, Nat.le_of_ble_eq_true rfl⟩) ⟨pcW_blind, va_recv hKc hPc (ci := 0) (q0 := 0) rfl rfl, pcW_at hPc hKc hDc hN⟩ rfl rfl hl.1 rfl (lv_room (Nat.le_of_ble_eq_true rfl)) dX8_settle_30 ⟨Nat.le_of_ble_eq_true rfl, Nat.le_of_ble_eq_true rfl⟩) hS (fun q h1 h2 => absurd h2 (Nat.not_le.mpr h1)) (fun q h => hA q (Nat.le_trans hS.1 h)) (fun r_12 u t H1 locs ht hvm hw_12 hB hz1 hk1 hS => ?_)
        have hP := keepP hP hk1
        clear hz1 hk1 hB ht hvm hPc hDc hKc
        generalize H1 = H at hP hS ⊢
        obtain rfl : r_12 = (fo j_11) := hw_12
        have hPc := hP.sub (ws' := [(p1, .inr (1, [.ref b0, w1, w2, w3, w4, w5, .int (nI cn), .int bb])), (b0, .inl (kb0, 10, .inl fab))]) [1, 2] rfl
        have hDc := hD.sub (ws' := [(p1, .inr (1, [.ref b0, w1, w2, w3, w4, w5, .int (nI cn), .int bb])), (b0, .inl (kb0, 10, .inl fab))]) [1, 2] (by decide) rfl
        have hKc := hK.sub (tys' := [(kb0, .int)]) [0] rfl
        refine va_calli (va_runS (As := [.ref p1, .int (fo j_11)]) (rest := []) ⟨hx, hb, hml, hown, hts⟩ (c_settlers l dC dI H.size p1 b0 (w1) (w2) (w3) (w4) (w5) cn (.int bb) kb0 fab (fo j_11) hc) (va_cwS 2 hts (gS mw_2_227 mw_2_228 mw_1_11 mw_2_229) rfl rfl rfl (by decide +kernel) ⟨Nat.le_of_ble_eq_true rfl, Nat.le_of_ble_eq_true rfl⟩) ⟨pcW_blind, pcW_at hPc hKc hDc hN⟩ rfl rfl hl.1 rfl (lv_room (Nat.le_of_ble_eq_true rfl)) dX8_settle_33 ⟨Nat.le_of_ble_eq_true rfl, Nat.le_of_ble_eq_true rfl⟩) hS (fun q h1 h2 => absurd h2 (Nat.not_le.mpr h1)) (fun q h => hA q (Nat.le_trans hS.1 h)) (fun r_13 u t H1 locs ht hvm hw_13 hB hz1 hk1 hS => ?_)
        have hP := keepP hP hk1
        clear hz1 hk1 hB ht hvm hPc hDc hKc
        generalize H1 = H at hP hS ⊢
        obtain rfl : r_13 = (stF fab (fo j_11) cn) := hw_13
        refine lv_iload_n hx hb dX8_settle_36 rfl (lv_at hl 2 rfl) ?_
        refine hx_top (y := 1) (fx_sing (C := 1) (by decide) (by omega)) ?_
        have hPc := hP.sub (ws' := []) [] rfl
        have hDc := hD.sub (ws' := []) [] (by decide) rfl
        have hKc := hK.sub (tys' := []) [] rfl
        refine va_calli (va_runS (As := [.int (stF fab (fo j_11) cn), .int 1]) (rest := []) ⟨hx, hb, hml, hown, hts⟩ (c_boc l dC dI H.size (stF fab (fo j_11) cn) 1 ) (va_cwS 2 hts (gS mw_2_230 mw_2_231 mw_1_1 mw_2_232) rfl rfl rfl (by decide +kernel) ⟨Nat.le_of_ble_eq_true rfl, Nat.le_of_ble_eq_true rfl⟩) ⟨pcW_blind, pcW_at hPc hKc hDc hN⟩ rfl rfl hl.1 rfl (lv_room (Nat.le_of_ble_eq_true rfl)) dX8_settle_37 ⟨Nat.le_of_ble_eq_true rfl, Nat.le_of_ble_eq_true rfl⟩) hS (fun q h1 h2 => absurd h2 (Nat.not_le.mpr h1)) (fun q h => hA q (Nat.le_trans hS.1 h)) (fun r_14 u t H1 locs ht hvm hw_14 hB hz1 hk1 hS => ?_)
        have hP := keepP hP hk1
        clear hz1 hk1 hB ht hvm hPc hDc hKc
        generalize H1 = H at hP hS ⊢
        exact W.iret (v := r_14) hx hb hr (fun t ht hW => ⟨⟨r_14, (), rfl, (by unfold F_settle; rw [if_pos (by omega), if_neg (by omega), if_pos (by omega), nI_clamp (by omega)]; exact hw_14.trans (if_neg (by decide))), trivial⟩, hS.F ht⟩) hS.2.2 dX8_settle_40
      · have b_10 := gn_eq (X := (Int32.toInt n2)) (C := 1) rfl (by decide) c_9
        refine lv_bipush (v := (-2)) hx hb dX8_settle_18 (by decide) ?_
        exact W.iret (v := (-2)) hx hb hr (fun t ht hW => ⟨⟨(-2), (), rfl, (by unfold F_settle; rw [if_pos (by omega), if_neg (by omega), if_neg (by omega)]), trivial⟩, hS.F ht⟩) hS.2.2 dX8_settle_20
  · skip
    refine lv_if_ne (tgt := 9) hx hb dX8_settle_4 (by decide) (fun h => absurd h (by decide)) (fun _ => ?_)
    refine lv_iconst (v := (-1)) hx hb dX8_settle_7 (by decide) ?_
    exact W.iret (v := (-1)) hx hb hr (fun t ht hW => ⟨⟨(-1), (), rfl, (by unfold F_settle; rw [if_neg (by omega)]), trivial⟩, hS.F ht⟩) hS.2.2 dX8_settle_8
set_option maxHeartbeats 4000000 in
set_option maxRecDepth 100000 in
theorem x_shift (l : Launch) (dC : Nat → ClassId) (dI : Nat → Nat → Nat) (sz : Nat) (h0 : Nat) (p1 : Nat) (u1 : Value) (p3 : Nat) (u3 : Value) (u4 : Value) (u5 : Value) (w0 : Value) (b1 : Nat) (w2 : Value) (b3 : Nat) (w4 : Value) (w5 : Value) (cn : Nat) (bb : Int32) (kb1 : ClassId) (fle : Nat → Int32) (kb3 : ClassId) (fli : Nat → Int32) (e0 : Nat) (z1 : Value) (z2 : Value) (ke0 : ClassId) (fo : Nat → Int32) (n1 : Int32) (n2 : Int32) (hc : cn ≤ 10) (hle : BdOk 10 10 fle) (hlk : LnOk fle fli cn) : Met l yX8_shift (wq yX8_shift cX8_shift 3 (some .int)) ({ frames := 5, cells := 0, slots := 0, locals := 116 }) (va_Pc [.ref h0, .int n1, .int n2] (pcW dC dI [(kb1, .int), (kb3, .int), (ke0, .int)] [(h0, .inr (7, [.ref p1, u1, .ref p3, u3, u4, u5])), (p1, .inr (1, [w0, .ref b1, w2, .ref b3, w4, w5, .int (nI cn), .int bb])), (b1, .inl (kb1, 10, .inl fle)), (b3, .inl (kb3, 100, .inl fli)), (p3, .inr (0, [.ref e0, z1, z2])), (e0, .inl (ke0, 8, .inl fo))] sz)) (va_Qi (fun (r : Int32) (_ : Unit) => r = (F_shift cn (bt (fo n2.toNatClampNeg) n1.toNatClampNeg) (shC fle fli cn n1.toNatClampNeg (fo n2.toNatClampNeg)) n1 n2)) (fun _ _ => True) (fun q : Nat => sz ≤ q)) 0 0 (fun q : Nat => sz ≤ q) := by
  refine Met.ofW (cc := cX8_shift) (maxL := 3) (ret := (some .int)) (by decide) rfl ?_
  intro p e s m args below meth c s₁ B hml hv
  obtain ⟨rfl, hsz, hN, hP, hK, hD0⟩ := hv
  have hx := B.exec
  have hb := B.bytes
  have hr := B.returns
  have hts0 := atoms_spec (ws := (wq yX8_shift cX8_shift 3 (some .int))) B.pre
  have hts : ∀ w ∈ BG, w.before _ s = true := fun w h => hts0 w (List.mem_cons_of_mem _ h)
  have hown : s.vm.findClass RX8 = some m.cls := findClass_of_methodNamed B.named
  have hlocks := B.notSynchronized
  subst hsz
  have hA : ∀ q : Nat, s.heap.size ≤ q → (fun q : Nat => s.heap.size ≤ q) q := fun _ h => h
  have hD := hD0
  have hS : va_S (fun q : Nat => s.heap.size ≤ q) s.heap s.heap [] := va_S.rf
  have hP : va_P (dC, dI) vwCl [(h0, .inr (7, [.ref p1, u1, .ref p3, u3, u4, u5])), (p1, .inr (1, [w0, .ref b1, w2, .ref b3, w4, w5, .int (nI cn), .int bb])), (b1, .inl (kb1, 10, .inl fle)), (b3, .inl (kb3, 100, .inl fli)), (p3, .inr (0, [.ref e0, z1, z2])), (e0, .inl (ke0, 8, .inl fo))] s.heap := hP
  have hl := lv_entry ([.ref h0, .int n1, .int n2]) (n := 3) (Nat.le_of_ble_eq_true rfl)
  rw [lg_entry_eq]
  generalize (lg_sl ([.ref h0, .int n1, .int n2]) ++ List.replicate (3 - (lg_sl ([.ref h0, .int n1, .int n2])).length) Slot.unset).toArray = ls at hl ⊢
  have hl : lv_has ls 3 [(0, .ref h0), (1, .int n1), (2, .int n2)] := hl
  refine lv_aload_n hx hb dX8_shift_0 rfl (lv_at hl 0 rfl) ?_
  refine va_get (D := (dC, dI)) (ci := 7) (v := .ref p1) (C := RX8) (T := TX8) (N := 6) hx hb hts inB_8 hown hK hP 0 rfl rfl 0 (by decide) (hts _ mw_1_168) (fun _ h9 => h9) rfl dX8_shift_1 ?_
  refine lv_iload_n hx hb dX8_shift_4 rfl (lv_at hl 1 rfl) ?_
  have hPc := hP.sub (ws' := [(p1, .inr (1, [w0, .ref b1, w2, .ref b3, w4, w5, .int (nI cn), .int bb]))]) [1] rfl
  have hDc := hD.sub (ws' := [(p1, .inr (1, [w0, .ref b1, w2, .ref b3, w4, w5, .int (nI cn), .int bb]))]) [1] (by decide) rfl
  have hKc := hK.sub (tys' := []) [] rfl
  refine va_calli (va_runV (As := [.int n1]) (rest := []) ⟨hx, hb, hml, hown, hts⟩ (c_knows l dC dI s.heap.size p1 (w0) (.ref b1) (w2) (.ref b3) (w4) (w5) cn (.int bb) n1 hc) (cwV 1 hts (gV mw_1_191 mw_1_192 mw_1_193 mw_1_2 mw_1_194) rfl rfl rfl (by decide +kernel) ⟨Nat.le_of_ble_eq_true rfl, Nat.le_of_ble_eq_true rfl⟩) ⟨pcW_blind, va_recv hKc hPc (ci := 1) (q0 := 0) rfl rfl, pcW_at hPc hKc hDc hN⟩ rfl rfl hl.1 rfl (lv_room (Nat.le_of_ble_eq_true rfl)) dX8_shift_5 ⟨Nat.le_of_ble_eq_true rfl, Nat.le_of_ble_eq_true rfl⟩) hS (fun q h1 h2 => absurd h2 (Nat.not_le.mpr h1)) (fun q h => hA q (Nat.le_trans hS.1 h)) (fun r_1 u t H1 locs ht hvm hw_1 hB hz1 hk1 hS => ?_)
  have hP := keepP hP hk1
  clear hz1 hk1 hB ht hvm hPc hDc hKc
  generalize H1 = H at hP hS ⊢
  rcases fx_bool hw_1 with ⟨rfl, b_2⟩ | ⟨rfl, b_2⟩
  · skip
    refine lv_if_eq (tgt := 18) hx hb dX8_shift_8 (by decide) (fun h => absurd h (by decide)) (fun _ => ?_)
    refine lv_iload_n hx hb dX8_shift_11 rfl (lv_at hl 2 rfl) ?_
    have hPc := hP.sub (ws' := []) [] rfl
    have hDc := hD.sub (ws' := []) [] (by decide) rfl
    have hKc := hK.sub (tys' := []) [] rfl
    refine va_calli (va_runS (As := [.int n2]) (rest := []) ⟨hx, hb, hml, hown, hts⟩ (c_isName l dC dI H.size n2 ) (va_cwS 1 hts (gS mw_2_97 mw_2_98 mw_1_1 mw_2_99) rfl rfl rfl (by decide +kernel) ⟨Nat.le_of_ble_eq_true rfl, Nat.le_of_ble_eq_true rfl⟩) ⟨pcW_blind, pcW_at hPc hKc hDc hN⟩ rfl rfl hl.1 rfl (lv_room (Nat.le_of_ble_eq_true rfl)) dX8_shift_12 ⟨Nat.le_of_ble_eq_true rfl, Nat.le_of_ble_eq_true rfl⟩) hS (fun q h1 h2 => absurd h2 (Nat.not_le.mpr h1)) (fun q h => hA q (Nat.le_trans hS.1 h)) (fun r_3 u t H1 locs ht hvm hw_3 hB hz1 hk1 hS => ?_)
    have hP := keepP hP hk1
    clear hz1 hk1 hB ht hvm hPc hDc hKc
    generalize H1 = H at hP hS ⊢
    rcases fx_bool hw_3 with ⟨rfl, b_4⟩ | ⟨rfl, b_4⟩
    · skip
      refine lv_if_ne (tgt := 20) hx hb dX8_shift_15 (by decide) (fun _ => ?_) (fun h => absurd h (by decide))
      obtain ⟨j_5, tj_5, ej_5⟩ := fx_nat (x := n1) (by omega)
      subst ej_5
      have yj_5 : Int32.toInt (nI j_5) = (j_5 : Int) := nI_toInt tj_5
      obtain ⟨j_6, tj_6, ej_6⟩ := fx_nat (x := n2) (by omega)
      subst ej_6
      have yj_6 : Int32.toInt (nI j_6) = (j_6 : Int) := nI_toInt tj_6
      refine lv_aload_n hx hb dX8_shift_20 rfl (lv_at hl 0 rfl) ?_
      refine va_get (D := (dC, dI)) (ci := 7) (v := .ref p3) (C := RX8) (T := TX8) (N := 6) hx hb hts inB_8 hown hK hP 0 rfl rfl 2 (by decide) (hts _ mw_1_170) (fun _ h9 => h9) rfl dX8_shift_21 ?_
      refine lv_iload_n hx hb dX8_shift_24 rfl (lv_at hl 1 rfl) ?_
      refine lv_iload_n hx hb dX8_shift_25 rfl (lv_at hl 2 rfl) ?_
      have hPc := hP.sub (ws' := [(p3, .inr (0, [.ref e0, z1, z2])), (e0, .inl (ke0, 8, .inl fo))]) [4, 5] rfl
      have hDc := hD.sub (ws' := [(p3, .inr (0, [.ref e0, z1, z2])), (e0, .inl (ke0, 8, .inl fo))]) [4, 5] (by decide) rfl
      have hKc := hK.sub (tys' := [(ke0, .int)]) [2] rfl
      refine va_calli (va_runV (As := [.int (nI j_5), .int (nI j_6)]) (rest := []) ⟨hx, hb, hml, hown, hts⟩ (c_isOwn l dC dI H.size p3 e0 (z1) (z2) ke0 fo j_5 j_6 (by omega) (by omega)) (cwV 2 hts (gV mw_2_100 mw_2_101 mw_2_102 mw_1_5 mw_2_103) rfl rfl rfl (by decide +kernel) ⟨Nat.le_of_ble_eq_true rfl, Nat.le_of_ble_eq_true rfl⟩) ⟨pcW_blind, va_recv hKc hPc (ci := 0) (q0 := 0) rfl rfl, pcW_at hPc hKc hDc hN⟩ rfl rfl hl.1 rfl (lv_room (Nat.le_of_ble_eq_true rfl)) dX8_shift_26 ⟨Nat.le_of_ble_eq_true rfl, Nat.le_of_ble_eq_true rfl⟩) hS (fun q h1 h2 => absurd h2 (Nat.not_le.mpr h1)) (fun q h => hA q (Nat.le_trans hS.1 h)) (fun r_7 u t H1 locs ht hvm hw_7 hB hz1 hk1 hS => ?_)
      have hP := keepP hP hk1
      clear hz1 hk1 hB ht hvm hPc hDc hKc
      generalize H1 = H at hP hS ⊢
      rcases fx_bool hw_7 with ⟨rfl, b_8⟩ | ⟨rfl, b_8⟩
      · skip
        refine lv_if_eq (tgt := 35) hx hb dX8_shift_29 (by decide) (fun h => absurd h (by decide)) (fun _ => ?_)
        refine lv_bipush (v := (-5)) hx hb dX8_shift_32 (by decide) ?_
        exact W.iret (v := (-5)) hx hb hr (fun t ht hW => ⟨⟨(-5), (), rfl, (by unfold F_shift; rw [if_pos (by omega), nI_clamp (by omega), nI_clamp (by omega), if_pos b_8]), trivial⟩, hS.F ht⟩) hS.2.2 dX8_shift_34
      · skip
        refine lv_if_eq (tgt := 35) hx hb dX8_shift_29 (by decide) (fun _ => ?_) (fun h => absurd (by decide) h)
        refine lv_aload_n hx hb dX8_shift_35 rfl (lv_at hl 0 rfl) ?_
        refine va_get (D := (dC, dI)) (ci := 7) (v := .ref p1) (C := RX8) (T := TX8) (N := 6) hx hb hts inB_8 hown hK hP 0 rfl rfl 0 (by decide) (hts _ mw_1_168) (fun _ h9 => h9) rfl dX8_shift_36 ?_
        refine lv_iload_n hx hb dX8_shift_39 rfl (lv_at hl 1 rfl) ?_
        refine lv_aload_n hx hb dX8_shift_40 rfl (lv_at hl 0 rfl) ?_
        refine va_get (D := (dC, dI)) (ci := 7) (v := .ref p3) (C := RX8) (T := TX8) (N := 6) hx hb hts inB_8 hown hK hP 0 rfl rfl 2 (by decide) (hts _ mw_1_170) (fun _ h9 => h9) rfl dX8_shift_41 ?_
        refine lv_iload_n hx hb dX8_shift_44 rfl (lv_at hl 2 rfl) ?_
        have hPc := hP.sub (ws' := [(p3, .inr (0, [.ref e0, z1, z2])), (e0, .inl (ke0, 8, .inl fo))]) [4, 5] rfl
        have hDc := hD.sub (ws' := [(p3, .inr (0, [.ref e0, z1, z2])), (e0, .inl (ke0, 8, .inl fo))]) [4, 5] (by decide) rfl
        have hKc := hK.sub (tys' := [(ke0, .int)]) [2] rfl
        refine va_calli (va_runV (As := [.int (nI j_6)]) (rest := [.int (nI j_5), .ref p1]) ⟨hx, hb, hml, hown, hts⟩ (c_own l dC dI H.size p3 e0 (z1) (z2) ke0 fo j_6 (by omega)) (cwV 1 hts (gV mw_2_140 mw_2_105 mw_2_106 mw_1_5 mw_2_107) rfl rfl rfl (by decide +kernel) ⟨Nat.le_of_ble_eq_true rfl, Nat.le_of_ble_eq_true rfl⟩) ⟨pcW_blind, va_recv hKc hPc (ci := 0) (q0 := 0) rfl rfl, pcW_at hPc hKc hDc hN⟩ rfl rfl hl.1 rfl (lv_room (Nat.le_of_ble_eq_true rfl)) dX8_shift_45 ⟨Nat.le_of_ble_eq_true rfl, Nat.le_of_ble_eq_true rfl⟩) hS (fun q h1 h2 => absurd h2 (Nat.not_le.mpr h1)) (fun q h => hA q (Nat.le_trans hS.1 h)) (fun r_9 u t H1 locs ht hvm hw_9 hB hz1 hk1 hS => ?_)
        have hP := keepP hP hk1
        clear hz1 hk1 hB ht hvm hPc hDc hKc
        generalize H1 = H at hP hS ⊢
        obtain rfl : r_9 = (fo j_6) := hw_9
        have hPc := hP.sub (ws' := [(p1, .inr (1, [w0, .ref b1, w2, .ref b3, w4, w5, .int (nI cn), .int bb])), (b1, .inl (kb1, 10, .inl fle)), (b3, .inl (kb3, 100, .inl fli))]) [1, 2, 3] rfl
        have hDc := hD.sub (ws' := [(p1, .inr (1, [w0, .ref b1, w2, .ref b3, w4, w5, .int (nI cn), .int bb])), (b1, .inl (kb1, 10, .inl fle)), (b3, .inl (kb3, 100, .inl fli))]) [1, 2, 3] (by decide) rfl
        have hKc := hK.sub (tys' := [(kb1, .int), (kb3, .int)]) [0, 1] rfl
        refine va_calli (va_runS (As := [.ref p1, .int (nI j_5), .int (fo j_6)]) (rest := []) ⟨hx, hb, hml, hown, hts⟩ (c_shifted l dC dI H.size p1 (w0) b1 (w2) b3 (w4) (w5) cn (.int bb) kb1 fle kb3 fli j_5 (fo j_6) hc hle hlk (by omega)) (va_cwS 3 hts (gS mw_2_238 mw_2_239 mw_1_11 mw_3_0) rfl rfl rfl (by decide +kernel) ⟨Nat.le_of_ble_eq_true rfl, Nat.le_of_ble_eq_true rfl⟩) ⟨pcW_blind, pcW_at hPc hKc hDc hN⟩ rfl rfl hl.1 rfl (lv_room (Nat.le_of_ble_eq_true rfl)) dX8_shift_48 ⟨Nat.le_of_ble_eq_true rfl, Nat.le_of_ble_eq_true rfl⟩) hS (fun q h1 h2 => absurd h2 (Nat.not_le.mpr h1)) (fun q h => hA q (Nat.le_trans hS.1 h)) (fun r_10 u t H1 locs ht hvm hw_10 hB hz1 hk1 hS => ?_)
        have hP := keepP hP hk1
        clear hz1 hk1 hB ht hvm hPc hDc hKc
        generalize H1 = H at hP hS ⊢
        obtain rfl : r_10 = (shC fle fli cn j_5 (fo j_6)) := hw_10
        exact W.iret (v := (shC fle fli cn j_5 (fo j_6))) hx hb hr (fun t ht hW => ⟨⟨(shC fle fli cn j_5 (fo j_6)), (), rfl, (by unfold F_shift; rw [if_pos (by omega), nI_clamp (by omega), nI_clamp (by omega), if_neg b_8]), trivial⟩, hS.F ht⟩) hS.2.2 dX8_shift_51
    · skip
      refine lv_if_ne (tgt := 20) hx hb dX8_shift_15 (by decide) (fun h => absurd h (by decide)) (fun _ => ?_)
      refine lv_iconst (v := (-1)) hx hb dX8_shift_18 (by decide) ?_
      exact W.iret (v := (-1)) hx hb hr (fun t ht hW => ⟨⟨(-1), (), rfl, (by unfold F_shift; rw [if_neg (by omega)]), trivial⟩, hS.F ht⟩) hS.2.2 dX8_shift_19
  · skip
    refine lv_if_eq (tgt := 18) hx hb dX8_shift_8 (by decide) (fun _ => ?_) (fun h => absurd (by decide) h)
    refine lv_iconst (v := (-1)) hx hb dX8_shift_18 (by decide) ?_
    exact W.iret (v := (-1)) hx hb hr (fun t ht hW => ⟨⟨(-1), (), rfl, (by unfold F_shift; rw [if_neg (by omega)]), trivial⟩, hS.F ht⟩) hS.2.2 dX8_shift_19
set_option maxHeartbeats 4000000 in
set_option maxRecDepth 100000 in
theorem x_one (l : Launch) (dC : Nat → ClassId) (dI : Nat → Nat → Nat) (sz : Nat) (h0 : Nat) (p1 : Nat) (u1 : Value) (p3 : Nat) (u3 : Value) (u4 : Value) (u5 : Value) (b0 : Nat) (b1 : Nat) (w2 : Value) (b3 : Nat) (w4 : Value) (w5 : Value) (cn : Nat) (bb : Int32) (kb0 : ClassId) (fab : Nat → Int32) (kb1 : ClassId) (fle : Nat → Int32) (kb3 : ClassId) (fli : Nat → Int32) (e0 : Nat) (z1 : Value) (z2 : Value) (ke0 : ClassId) (fo : Nat → Int32) (n1 : Int32) (n2 : Int32) (n3 : Int32) (hc : cn ≤ 10) (hle : BdOk 10 10 fle) (hlk : LnOk fle fli cn) : Met l yX8_one (wq yX8_one cX8_one 4 (some .int)) ({ frames := 5, cells := 0, slots := 0, locals := 117 }) (va_Pc [.ref h0, .int n1, .int n2, .int n3] (pcW dC dI [(kb0, .int), (kb1, .int), (kb3, .int), (ke0, .int)] [(h0, .inr (7, [.ref p1, u1, .ref p3, u3, u4, u5])), (p1, .inr (1, [.ref b0, .ref b1, w2, .ref b3, w4, w5, .int (nI cn), .int bb])), (b0, .inl (kb0, 10, .inl fab)), (b1, .inl (kb1, 10, .inl fle)), (b3, .inl (kb3, 100, .inl fli)), (p3, .inr (0, [.ref e0, z1, z2])), (e0, .inl (ke0, 8, .inl fo))] sz)) (va_Qi (fun (r : Int32) (_ : Unit) => r = (F_one cn (orA (unA fab fle fli cn bb n1.toNatClampNeg (fo n2.toNatClampNeg)) cn) (bcF (orA (unA fab fle fli cn bb n1.toNatClampNeg (fo n2.toNatClampNeg)) cn)) n1 n2 n3)) (fun _ _ => True) (fun q : Nat => sz ≤ q)) 0 0 (fun q : Nat => sz ≤ q) := by
  refine Met.ofW (cc := cX8_one) (maxL := 4) (ret := (some .int)) (by decide) rfl ?_
  intro p e s m args below meth c s₁ B hml hv
  obtain ⟨rfl, hsz, hN, hP, hK, hD0⟩ := hv
  have hx := B.exec
  have hb := B.bytes
  have hr := B.returns
  have hts0 := atoms_spec (ws := (wq yX8_one cX8_one 4 (some .int))) B.pre
  have hts : ∀ w ∈ BG, w.before _ s = true := fun w h => hts0 w (List.mem_cons_of_mem _ h)
  have hown : s.vm.findClass RX8 = some m.cls := findClass_of_methodNamed B.named
  have hlocks := B.notSynchronized
  subst hsz
  have hA : ∀ q : Nat, s.heap.size ≤ q → (fun q : Nat => s.heap.size ≤ q) q := fun _ h => h
  have hD := hD0
  have hS : va_S (fun q : Nat => s.heap.size ≤ q) s.heap s.heap [] := va_S.rf
  have hP : va_P (dC, dI) vwCl [(h0, .inr (7, [.ref p1, u1, .ref p3, u3, u4, u5])), (p1, .inr (1, [.ref b0, .ref b1, w2, .ref b3, w4, w5, .int (nI cn), .int bb])), (b0, .inl (kb0, 10, .inl fab)), (b1, .inl (kb1, 10, .inl fle)), (b3, .inl (kb3, 100, .inl fli)), (p3, .inr (0, [.ref e0, z1, z2])), (e0, .inl (ke0, 8, .inl fo))] s.heap := hP
  have hl := lv_entry ([.ref h0, .int n1, .int n2, .int n3]) (n := 4) (Nat.le_of_ble_eq_true rfl)
  rw [lg_entry_eq]
  generalize (lg_sl ([.ref h0, .int n1, .int n2, .int n3]) ++ List.replicate (4 - (lg_sl ([.ref h0, .int n1, .int n2, .int n3])).length) Slot.unset).toArray = ls at hl ⊢
  have hl : lv_has ls 4 [(0, .ref h0), (1, .int n1), (2, .int n2), (3, .int n3)] := hl
  refine lv_aload_n hx hb dX8_one_0 rfl (lv_at hl 0 rfl) ?_
  refine va_get (D := (dC, dI)) (ci := 7) (v := .ref p1) (C := RX8) (T := TX8) (N := 6) hx hb hts inB_8 hown hK hP 0 rfl rfl 0 (by decide) (hts _ mw_1_168) (fun _ h9 => h9) rfl dX8_one_1 ?_
  refine lv_iload_n hx hb dX8_one_4 rfl (lv_at hl 1 rfl) ?_
  have hPc := hP.sub (ws' := [(p1, .inr (1, [.ref b0, .ref b1, w2, .ref b3, w4, w5, .int (nI cn), .int bb]))]) [1] rfl
  have hDc := hD.sub (ws' := [(p1, .inr (1, [.ref b0, .ref b1, w2, .ref b3, w4, w5, .int (nI cn), .int bb]))]) [1] (by decide) rfl
  have hKc := hK.sub (tys' := []) [] rfl
  refine va_calli (va_runV (As := [.int n1]) (rest := []) ⟨hx, hb, hml, hown, hts⟩ (c_knows l dC dI s.heap.size p1 (.ref b0) (.ref b1) (w2) (.ref b3) (w4) (w5) cn (.int bb) n1 hc) (cwV 1 hts (gV mw_1_191 mw_1_192 mw_1_193 mw_1_2 mw_1_194) rfl rfl rfl (by decide +kernel) ⟨Nat.le_of_ble_eq_true rfl, Nat.le_of_ble_eq_true rfl⟩) ⟨pcW_blind, va_recv hKc hPc (ci := 1) (q0 := 0) rfl rfl, pcW_at hPc hKc hDc hN⟩ rfl rfl hl.1 rfl (lv_room (Nat.le_of_ble_eq_true rfl)) dX8_one_5 ⟨Nat.le_of_ble_eq_true rfl, Nat.le_of_ble_eq_true rfl⟩) hS (fun q h1 h2 => absurd h2 (Nat.not_le.mpr h1)) (fun q h => hA q (Nat.le_trans hS.1 h)) (fun r_1 u t H1 locs ht hvm hw_1 hB hz1 hk1 hS => ?_)
  have hP := keepP hP hk1
  clear hz1 hk1 hB ht hvm hPc hDc hKc
  generalize H1 = H at hP hS ⊢
  rcases fx_bool hw_1 with ⟨rfl, b_2⟩ | ⟨rfl, b_2⟩
  · skip
    refine lv_if_eq (tgt := 18) hx hb dX8_one_8 (by decide) (fun h => absurd h (by decide)) (fun _ => ?_)
    refine lv_iload_n hx hb dX8_one_11 rfl (lv_at hl 2 rfl) ?_
    have hPc := hP.sub (ws' := []) [] rfl
    have hDc := hD.sub (ws' := []) [] (by decide) rfl
    have hKc := hK.sub (tys' := []) [] rfl
    refine va_calli (va_runS (As := [.int n2]) (rest := []) ⟨hx, hb, hml, hown, hts⟩ (c_isName l dC dI H.size n2 ) (va_cwS 1 hts (gS mw_2_97 mw_2_98 mw_1_1 mw_2_99) rfl rfl rfl (by decide +kernel) ⟨Nat.le_of_ble_eq_true rfl, Nat.le_of_ble_eq_true rfl⟩) ⟨pcW_blind, pcW_at hPc hKc hDc hN⟩ rfl rfl hl.1 rfl (lv_room (Nat.le_of_ble_eq_true rfl)) dX8_one_12 ⟨Nat.le_of_ble_eq_true rfl, Nat.le_of_ble_eq_true rfl⟩) hS (fun q h1 h2 => absurd h2 (Nat.not_le.mpr h1)) (fun q h => hA q (Nat.le_trans hS.1 h)) (fun r_3 u t H1 locs ht hvm hw_3 hB hz1 hk1 hS => ?_)
    have hP := keepP hP hk1
    clear hz1 hk1 hB ht hvm hPc hDc hKc
    generalize H1 = H at hP hS ⊢
    rcases fx_bool hw_3 with ⟨rfl, b_4⟩ | ⟨rfl, b_4⟩
    · skip
      refine lv_if_ne (tgt := 20) hx hb dX8_one_15 (by decide) (fun _ => ?_) (fun h => absurd h (by decide))
      obtain ⟨j_5, tj_5, ej_5⟩ := fx_nat (x := n1) (by omega)
      subst ej_5
      have yj_5 : Int32.toInt (nI j_5) = (j_5 : Int) := nI_toInt tj_5
      obtain ⟨j_6, tj_6, ej_6⟩ := fx_nat (x := n2) (by omega)
      subst ej_6
      have yj_6 : Int32.toInt (nI j_6) = (j_6 : Int) := nI_toInt tj_6
      refine lv_iload_n hx hb dX8_one_20 rfl (lv_at hl 3 rfl) ?_
      refine lv_if_eq (tgt := 32) hx hb dX8_one_21 (by decide) (fun c_7 => ?_) (fun c_7 => ?_)
      · have b_8 := gx_eq (X := (Int32.toInt n3)) (C := 0) rfl (by decide) c_7
        refine lv_aload_n hx hb dX8_one_32 rfl (lv_at hl 0 rfl) ?_
        refine va_get (D := (dC, dI)) (ci := 7) (v := .ref p1) (C := RX8) (T := TX8) (N := 6) hx hb hts inB_8 hown hK hP 0 rfl rfl 0 (by decide) (hts _ mw_1_168) (fun _ h9 => h9) rfl dX8_one_33 ?_
        refine lv_iload_n hx hb dX8_one_36 rfl (lv_at hl 1 rfl) ?_
        refine lv_aload_n hx hb dX8_one_37 rfl (lv_at hl 0 rfl) ?_
        refine va_get (D := (dC, dI)) (ci := 7) (v := .ref p3) (C := RX8) (T := TX8) (N := 6) hx hb hts inB_8 hown hK hP 0 rfl rfl 2 (by decide) (hts _ mw_1_170) (fun _ h9 => h9) rfl dX8_one_38 ?_
        refine lv_iload_n hx hb dX8_one_41 rfl (lv_at hl 2 rfl) ?_
        have hPc := hP.sub (ws' := [(p3, .inr (0, [.ref e0, z1, z2])), (e0, .inl (ke0, 8, .inl fo))]) [5, 6] rfl
        have hDc := hD.sub (ws' := [(p3, .inr (0, [.ref e0, z1, z2])), (e0, .inl (ke0, 8, .inl fo))]) [5, 6] (by decide) rfl
        have hKc := hK.sub (tys' := [(ke0, .int)]) [3] rfl
        refine va_calli (va_runV (As := [.int (nI j_6)]) (rest := [.int (nI j_5), .ref p1]) ⟨hx, hb, hml, hown, hts⟩ (c_own l dC dI H.size p3 e0 (z1) (z2) ke0 fo j_6 (by omega)) (cwV 1 hts (gV mw_2_140 mw_2_105 mw_2_106 mw_1_5 mw_2_107) rfl rfl rfl (by decide +kernel) ⟨Nat.le_of_ble_eq_true rfl, Nat.le_of_ble_eq_true rfl⟩) ⟨pcW_blind, va_recv hKc hPc (ci := 0) (q0 := 0) rfl rfl, pcW_at hPc hKc hDc hN⟩ rfl rfl hl.1 rfl (lv_room (Nat.le_of_ble_eq_true rfl)) dX8_one_42 ⟨Nat.le_of_ble_eq_true rfl, Nat.le_of_ble_eq_true rfl⟩) hS (fun q h1 h2 => absurd h2 (Nat.not_le.mpr h1)) (fun q h => hA q (Nat.le_trans hS.1 h)) (fun r_9 u t H1 locs ht hvm hw_9 hB hz1 hk1 hS => ?_)
        have hP := keepP hP hk1
        clear hz1 hk1 hB ht hvm hPc hDc hKc
        generalize H1 = H at hP hS ⊢
        obtain rfl : r_9 = (fo j_6) := hw_9
        have hPc := hP.sub (ws' := [(p1, .inr (1, [.ref b0, .ref b1, w2, .ref b3, w4, w5, .int (nI cn), .int bb])), (b0, .inl (kb0, 10, .inl fab)), (b1, .inl (kb1, 10, .inl fle)), (b3, .inl (kb3, 100, .inl fli))]) [1, 2, 3, 4] rfl
        have hDc := hD.sub (ws' := [(p1, .inr (1, [.ref b0, .ref b1, w2, .ref b3, w4, w5, .int (nI cn), .int bb])), (b0, .inl (kb0, 10, .inl fab)), (b1, .inl (kb1, 10, .inl fle)), (b3, .inl (kb3, 100, .inl fli))]) [1, 2, 3, 4] (by decide) rfl
        have hKc := hK.sub (tys' := [(kb0, .int), (kb1, .int), (kb3, .int)]) [0, 1, 2] rfl
        refine va_calli (va_runS (As := [.ref p1, .int (nI j_5), .int (fo j_6)]) (rest := []) ⟨hx, hb, hml, hown, hts⟩ (c_unlike l dC dI H.size p1 b0 b1 (w2) b3 (w4) (w5) cn bb kb0 fab kb1 fle kb3 fli j_5 (fo j_6) hc hle hlk (by omega)) (va_cwS 3 hts (gS mw_3_76 mw_3_77 mw_1_11 mw_3_78) rfl rfl rfl (by decide +kernel) ⟨Nat.le_of_ble_eq_true rfl, Nat.le_of_ble_eq_true rfl⟩) ⟨pcW_blind, pcW_at hPc hKc hDc hN⟩ rfl rfl hl.1 rfl (lv_room (Nat.le_of_ble_eq_true rfl)) dX8_one_45 ⟨Nat.le_of_ble_eq_true rfl, Nat.le_of_ble_eq_true rfl⟩) hS (fun q h1 h2 => absurd h2 (Nat.not_le.mpr h1)) (fun q h => hA q (Nat.le_trans hS.1 h)) (fun r_10 u t H1 locs ht hvm hw_10 hB hz1 hk1 hS => ?_)
        have hP := keepP hP hk1
        clear hz1 hk1 hB ht hvm hPc hDc hKc
        generalize H1 = H at hP hS ⊢
        obtain rfl : r_10 = (orA (unA fab fle fli cn bb j_5 (fo j_6)) cn) := hw_10
        refine lv_iload_n hx hb dX8_one_48 rfl (lv_at hl 3 rfl) ?_
        refine hx_top (y := 0) (fx_sing (C := 0) (by decide) (by omega)) ?_
        have hPc := hP.sub (ws' := []) [] rfl
        have hDc := hD.sub (ws' := []) [] (by decide) rfl
        have hKc := hK.sub (tys' := []) [] rfl
        refine va_calli (va_runS (As := [.int (orA (unA fab fle fli cn bb j_5 (fo j_6)) cn), .int 0]) (rest := []) ⟨hx, hb, hml, hown, hts⟩ (c_boc l dC dI H.size (orA (unA fab fle fli cn bb j_5 (fo j_6)) cn) 0 ) (va_cwS 2 hts (gS mw_2_230 mw_2_231 mw_1_1 mw_2_232) rfl rfl rfl (by decide +kernel) ⟨Nat.le_of_ble_eq_true rfl, Nat.le_of_ble_eq_true rfl⟩) ⟨pcW_blind, pcW_at hPc hKc hDc hN⟩ rfl rfl hl.1 rfl (lv_room (Nat.le_of_ble_eq_true rfl)) dX8_one_49 ⟨Nat.le_of_ble_eq_true rfl, Nat.le_of_ble_eq_true rfl⟩) hS (fun q h1 h2 => absurd h2 (Nat.not_le.mpr h1)) (fun q h => hA q (Nat.le_trans hS.1 h)) (fun r_11 u t H1 locs ht hvm hw_11 hB hz1 hk1 hS => ?_)
        have hP := keepP hP hk1
        clear hz1 hk1 hB ht hvm hPc hDc hKc
        generalize H1 = H at hP hS ⊢
        exact W.iret (v := r_11) hx hb hr (fun t ht hW => ⟨⟨r_11, (), rfl, (by unfold F_one; rw [if_pos (by omega), if_pos (by omega), nI_clamp (by omega), nI_clamp (by omega)]; exact hw_11.trans (if_pos rfl)), trivial⟩, hS.F ht⟩) hS.2.2 dX8_one_52
      · have b_8 := gn_eq (X := (Int32.toInt n3)) (C := 0) rfl (by decide) c_7
        refine lv_iload_n hx hb dX8_one_24 rfl (lv_at hl 3 rfl) ?_
        refine lv_iconst (v := 1) hx hb dX8_one_25 (by decide) ?_
        refine lv_icmp_eq (tgt := 32) hx hb dX8_one_26 (by decide) (fun c_12 => ?_) (fun c_12 => ?_)
        · have b_13 := gx_eq (X := (Int32.toInt n3)) (C := 1) rfl (by decide) c_12
          refine lv_aload_n hx hb dX8_one_32 rfl (lv_at hl 0 rfl) ?_
          refine va_get (D := (dC, dI)) (ci := 7) (v := .ref p1) (C := RX8) (T := TX8) (N := 6) hx hb hts inB_8 hown hK hP 0 rfl rfl 0 (by decide) (hts _ mw_1_168) (fun _ h9 => h9) rfl dX8_one_33 ?_
          refine lv_iload_n hx hb dX8_one_36 rfl (lv_at hl 1 rfl) ?_
          refine lv_aload_n hx hb dX8_one_37 rfl (lv_at hl 0 rfl) ?_
          refine va_get (D := (dC, dI)) (ci := 7) (v := .ref p3) (C := RX8) (T := TX8) (N := 6) hx hb hts inB_8 hown hK hP 0 rfl rfl 2 (by decide) (hts _ mw_1_170) (fun _ h9 => h9) rfl dX8_one_38 ?_
          refine lv_iload_n hx hb dX8_one_41 rfl (lv_at hl 2 rfl) ?_
          have hPc := hP.sub (ws' := [(p3, .inr (0, [.ref e0, z1, z2])), (e0, .inl (ke0, 8, .inl fo))]) [5, 6] rfl
          have hDc := hD.sub (ws' := [(p3, .inr (0, [.ref e0, z1, z2])), (e0, .inl (ke0, 8, .inl fo))]) [5, 6] (by decide) rfl
          have hKc := hK.sub (tys' := [(ke0, .int)]) [3] rfl
          refine va_calli (va_runV (As := [.int (nI j_6)]) (rest := [.int (nI j_5), .ref p1]) ⟨hx, hb, hml, hown, hts⟩ (c_own l dC dI H.size p3 e0 (z1) (z2) ke0 fo j_6 (by omega)) (cwV 1 hts (gV mw_2_140 mw_2_105 mw_2_106 mw_1_5 mw_2_107) rfl rfl rfl (by decide +kernel) ⟨Nat.le_of_ble_eq_true rfl, Nat.le_of_ble_eq_true rfl⟩) ⟨pcW_blind, va_recv hKc hPc (ci := 0) (q0 := 0) rfl rfl, pcW_at hPc hKc hDc hN⟩ rfl rfl hl.1 rfl (lv_room (Nat.le_of_ble_eq_true rfl)) dX8_one_42 ⟨Nat.le_of_ble_eq_true rfl, Nat.le_of_ble_eq_true rfl⟩) hS (fun q h1 h2 => absurd h2 (Nat.not_le.mpr h1)) (fun q h => hA q (Nat.le_trans hS.1 h)) (fun r_14 u t H1 locs ht hvm hw_14 hB hz1 hk1 hS => ?_)
          have hP := keepP hP hk1
          clear hz1 hk1 hB ht hvm hPc hDc hKc
          generalize H1 = H at hP hS ⊢
          obtain rfl : r_14 = (fo j_6) := hw_14
          have hPc := hP.sub (ws' := [(p1, .inr (1, [.ref b0, .ref b1, w2, .ref b3, w4, w5, .int (nI cn), .int bb])), (b0, .inl (kb0, 10, .inl fab)), (b1, .inl (kb1, 10, .inl fle)), (b3, .inl (kb3, 100, .inl fli))]) [1, 2, 3, 4] rfl
          have hDc := hD.sub (ws' := [(p1, .inr (1, [.ref b0, .ref b1, w2, .ref b3, w4, w5, .int (nI cn), .int bb])), (b0, .inl (kb0, 10, .inl fab)), (b1, .inl (kb1, 10, .inl fle)), (b3, .inl (kb3, 100, .inl fli))]) [1, 2, 3, 4] (by decide) rfl
          have hKc := hK.sub (tys' := [(kb0, .int), (kb1, .int), (kb3, .int)]) [0, 1, 2] rfl
          refine va_calli (va_runS (As := [.ref p1, .int (nI j_5), .int (fo j_6)]) (rest := []) ⟨hx, hb, hml, hown, hts⟩ (c_unlike l dC dI H.size p1 b0 b1 (w2) b3 (w4) (w5) cn bb kb0 fab kb1 fle kb3 fli j_5 (fo j_6) hc hle hlk (by omega)) (va_cwS 3 hts (gS mw_3_76 mw_3_77 mw_1_11 mw_3_78) rfl rfl rfl (by decide +kernel) ⟨Nat.le_of_ble_eq_true rfl, Nat.le_of_ble_eq_true rfl⟩) ⟨pcW_blind, pcW_at hPc hKc hDc hN⟩ rfl rfl hl.1 rfl (lv_room (Nat.le_of_ble_eq_true rfl)) dX8_one_45 ⟨Nat.le_of_ble_eq_true rfl, Nat.le_of_ble_eq_true rfl⟩) hS (fun q h1 h2 => absurd h2 (Nat.not_le.mpr h1)) (fun q h => hA q (Nat.le_trans hS.1 h)) (fun r_15 u t H1 locs ht hvm hw_15 hB hz1 hk1 hS => ?_)
          have hP := keepP hP hk1
          clear hz1 hk1 hB ht hvm hPc hDc hKc
          generalize H1 = H at hP hS ⊢
          obtain rfl : r_15 = (orA (unA fab fle fli cn bb j_5 (fo j_6)) cn) := hw_15
          refine lv_iload_n hx hb dX8_one_48 rfl (lv_at hl 3 rfl) ?_
          refine hx_top (y := 1) (fx_sing (C := 1) (by decide) (by omega)) ?_
          have hPc := hP.sub (ws' := []) [] rfl
          have hDc := hD.sub (ws' := []) [] (by decide) rfl
          have hKc := hK.sub (tys' := []) [] rfl
          refine va_calli (va_runS (As := [.int (orA (unA fab fle fli cn bb j_5 (fo j_6)) cn), .int 1]) (rest := []) ⟨hx, hb, hml, hown, hts⟩ (c_boc l dC dI H.size (orA (unA fab fle fli cn bb j_5 (fo j_6)) cn) 1 ) (va_cwS 2 hts (gS mw_2_230 mw_2_231 mw_1_1 mw_2_232) rfl rfl rfl (by decide +kernel) ⟨Nat.le_of_ble_eq_true rfl, Nat.le_of_ble_eq_true rfl⟩) ⟨pcW_blind, pcW_at hPc hKc hDc hN⟩ rfl rfl hl.1 rfl (lv_room (Nat.le_of_ble_eq_true rfl)) dX8_one_49 ⟨Nat.le_of_ble_eq_true rfl, Nat.le_of_ble_eq_true rfl⟩) hS (fun q h1 h2 => absurd h2 (Nat.not_le.mpr h1)) (fun q h => hA q (Nat.le_trans hS.1 h)) (fun r_16 u t H1 locs ht hvm hw_16 hB hz1 hk1 hS => ?_)
          have hP := keepP hP hk1
          clear hz1 hk1 hB ht hvm hPc hDc hKc
          generalize H1 = H at hP hS ⊢
          exact W.iret (v := r_16) hx hb hr (fun t ht hW => ⟨⟨r_16, (), rfl, (by unfold F_one; rw [if_pos (by omega), if_neg (by omega), if_pos (by omega), nI_clamp (by omega), nI_clamp (by omega)]; exact hw_16.trans (if_neg (by decide))), trivial⟩, hS.F ht⟩) hS.2.2 dX8_one_52
        · have b_13 := gn_eq (X := (Int32.toInt n3)) (C := 1) rfl (by decide) c_12
          refine lv_bipush (v := (-2)) hx hb dX8_one_29 (by decide) ?_
          exact W.iret (v := (-2)) hx hb hr (fun t ht hW => ⟨⟨(-2), (), rfl, (by unfold F_one; rw [if_pos (by omega), if_neg (by omega), if_neg (by omega)]), trivial⟩, hS.F ht⟩) hS.2.2 dX8_one_31
    · skip
      refine lv_if_ne (tgt := 20) hx hb dX8_one_15 (by decide) (fun h => absurd h (by decide)) (fun _ => ?_)
      refine lv_iconst (v := (-1)) hx hb dX8_one_18 (by decide) ?_
      exact W.iret (v := (-1)) hx hb hr (fun t ht hW => ⟨⟨(-1), (), rfl, (by unfold F_one; rw [if_neg (by omega)]), trivial⟩, hS.F ht⟩) hS.2.2 dX8_one_19
  · skip
    refine lv_if_eq (tgt := 18) hx hb dX8_one_8 (by decide) (fun _ => ?_) (fun h => absurd (by decide) h)
    refine lv_iconst (v := (-1)) hx hb dX8_one_18 (by decide) ?_
    exact W.iret (v := (-1)) hx hb hr (fun t ht hW => ⟨⟨(-1), (), rfl, (by unfold F_one; rw [if_neg (by omega)]), trivial⟩, hS.F ht⟩) hS.2.2 dX8_one_19
