theorem mw_3_217 : Cond.laysFinal RX9 "AnswerLinesModel" "parents" "[I" ∈ BG := mB (t3 (i := 217) (by decide +kernel)) (by decide +kernel)
theorem mw_3_219 : Cond.laysFinal RX9 "AnswerLinesModel" "parentMany" "[I" ∈ BG := mB (t3 (i := 219) (by decide +kernel)) (by decide +kernel)
theorem mw_3_221 : Cond.laysFinal RX9 "AnswerLinesModel" "above" "[I" ∈ BG := mB (t3 (i := 221) (by decide +kernel)) (by decide +kernel)
theorem mw_3_223 : Cond.laysFinal RX9 "AnswerLinesModel" "isBare" "[Z" ∈ BG := mB (t3 (i := 223) (by decide +kernel)) (by decide +kernel)
theorem mw_3_225 : Cond.lays RX9 "AnswerLinesModel" "kinds" "I" ∈ BG := mB (t3 (i := 225) (by decide +kernel)) (by decide +kernel)
theorem mw_3_227 : Cond.laysFinal RX9 "AnswerLinesModel" "lines" "[I" ∈ BG := mB (t3 (i := 227) (by decide +kernel)) (by decide +kernel)
theorem mw_3_229 : Cond.laysFinal RX9 "AnswerLinesModel" "lineLong" "[I" ∈ BG := mB (t3 (i := 229) (by decide +kernel)) (by decide +kernel)
theorem mw_3_231 : Cond.laysFinal RX9 "AnswerLinesModel" "quarrels" "[I" ∈ BG := mB (t3 (i := 231) (by decide +kernel)) (by decide +kernel)
theorem mw_3_233 : Cond.laysFinal RX9 "AnswerLinesModel" "rows" "[I" ∈ BG := mB (t3 (i := 233) (by decide +kernel)) (by decide +kernel)
theorem mw_3_235 : Cond.laysFinal RX9 "AnswerLinesModel" "rowAt" "[I" ∈ BG := mB (t3 (i := 235) (by decide +kernel)) (by decide +kernel)
theorem mw_3_237 : Cond.laysFinal RX9 "AnswerLinesModel" "rowEnd" "[I" ∈ BG := mB (t3 (i := 237) (by decide +kernel)) (by decide +kernel)
theorem mw_3_239 : Cond.lays RX9 "AnswerLinesModel" "rowMany" "I" ∈ BG := mB (t3 (i := 239) (by decide +kernel)) (by decide +kernel)
theorem mw_4_1 : Cond.laysFinal RX9 "AnswerLinesModel" "signs" "[I" ∈ BG := mB (t4 (i := 1) (by decide +kernel)) (by decide +kernel)
theorem mw_4_3 : Cond.laysFinal RX9 "AnswerLinesModel" "signMany" "[I" ∈ BG := mB (t4 (i := 3) (by decide +kernel)) (by decide +kernel)
theorem mw_4_5 : Cond.laysFinal RX9 "AnswerLinesModel" "names" "[I" ∈ BG := mB (t4 (i := 5) (by decide +kernel)) (by decide +kernel)
theorem mw_4_7 : Cond.laysFinal RX9 "AnswerLinesModel" "openPlace" "[I" ∈ BG := mB (t4 (i := 7) (by decide +kernel)) (by decide +kernel)
theorem mw_4_9 : Cond.laysFinal RX9 "AnswerLinesModel" "openName" "[I" ∈ BG := mB (t4 (i := 9) (by decide +kernel)) (by decide +kernel)
theorem mw_4_11 : Cond.laysFinal RX9 "AnswerLinesModel" "openSign" "[I" ∈ BG := mB (t4 (i := 11) (by decide +kernel)) (by decide +kernel)
theorem mw_4_13 : Cond.lays RX9 "AnswerLinesModel" "open" "I" ∈ BG := mB (t4 (i := 13) (by decide +kernel)) (by decide +kernel)
theorem mw_4_15 : Cond.lays RX9 "AnswerLinesModel" "worked" "I" ∈ BG := mB (t4 (i := 15) (by decide +kernel)) (by decide +kernel)
theorem mw_4_17 : Cond.laysFinal RX9 "AnswerLinesModel" "said" "[I" ∈ BG := mB (t4 (i := 17) (by decide +kernel)) (by decide +kernel)
theorem mw_4_19 : Cond.lays RX9 "AnswerLinesModel" "saidMany" "I" ∈ BG := mB (t4 (i := 19) (by decide +kernel)) (by decide +kernel)
theorem mw_4_21 : Cond.lays RX9 "AnswerLinesModel" "endIs" "I" ∈ BG := mB (t4 (i := 21) (by decide +kernel)) (by decide +kernel)
theorem mw_4_23 : Cond.laysFinal RX9 "AnswerLinesModel" "against" "[I" ∈ BG := mB (t4 (i := 23) (by decide +kernel)) (by decide +kernel)
theorem mw_4_25 : Cond.laysFinal RX9 "AnswerLinesModel" "columns" "[I" ∈ BG := mB (t4 (i := 25) (by decide +kernel)) (by decide +kernel)
theorem mw_4_27 : Cond.lays RX9 "AnswerLinesModel" "columnMany" "I" ∈ BG := mB (t4 (i := 27) (by decide +kernel)) (by decide +kernel)
theorem mw_4_29 : Cond.laysFinal RX9 "AnswerLinesModel" "slots" "[I" ∈ BG := mB (t4 (i := 29) (by decide +kernel)) (by decide +kernel)
theorem mw_4_31 : Cond.laysFinal RX9 "AnswerLinesModel" "pushed" "[I" ∈ BG := mB (t4 (i := 31) (by decide +kernel)) (by decide +kernel)
theorem mw_4_33 : Cond.lays RX9 "AnswerLinesModel" "packedLong" "I" ∈ BG := mB (t4 (i := 33) (by decide +kernel)) (by decide +kernel)
theorem mw_4_35 : Cond.laysFinal RX9 "AnswerLinesModel" "callPlace" "[I" ∈ BG := mB (t4 (i := 35) (by decide +kernel)) (by decide +kernel)
theorem mw_4_37 : Cond.laysFinal RX9 "AnswerLinesModel" "callKind" "[I" ∈ BG := mB (t4 (i := 37) (by decide +kernel)) (by decide +kernel)
theorem mw_4_39 : Cond.lays RX9 "AnswerLinesModel" "calls" "I" ∈ BG := mB (t4 (i := 39) (by decide +kernel)) (by decide +kernel)
theorem mw_4_41 : Cond.laysFinal RX9 "AnswerLinesModel" "sizes" "[I" ∈ BG := mB (t4 (i := 41) (by decide +kernel)) (by decide +kernel)
theorem mw_4_43 : Cond.laysFinal RX9 "AnswerLinesModel" "remembered" "[I" ∈ BG := mB (t4 (i := 43) (by decide +kernel)) (by decide +kernel)
theorem mw_4_45 : Cond.lays RX9 "AnswerLinesModel" "rememberedMany" "I" ∈ BG := mB (t4 (i := 45) (by decide +kernel)) (by decide +kernel)
theorem inB_9 : ∀ w ∈ u_ws RX9 TX9 35, w ∈ BG := fun w hw => by
  obtain ⟨k, hk, rfl⟩ := List.mem_map.mp hw
  have hk := List.mem_range.mp hk
  rcases (by omega : k = 0 ∨ k = 1 ∨ k = 2 ∨ k = 3 ∨ k = 4 ∨ k = 5 ∨ k = 6 ∨ k = 7 ∨ k = 8 ∨ k = 9 ∨ k = 10 ∨ k = 11 ∨ k = 12 ∨ k = 13 ∨ k = 14 ∨ k = 15 ∨ k = 16 ∨ k = 17 ∨ k = 18 ∨ k = 19 ∨ k = 20 ∨ k = 21 ∨ k = 22 ∨ k = 23 ∨ k = 24 ∨ k = 25 ∨ k = 26 ∨ k = 27 ∨ k = 28 ∨ k = 29 ∨ k = 30 ∨ k = 31 ∨ k = 32 ∨ k = 33 ∨ k = 34) with rfl | rfl | rfl | rfl | rfl | rfl | rfl | rfl | rfl | rfl | rfl | rfl | rfl | rfl | rfl | rfl | rfl | rfl | rfl | rfl | rfl | rfl | rfl | rfl | rfl | rfl | rfl | rfl | rfl | rfl | rfl | rfl | rfl | rfl | rfl
  · exact mw_3_217
  · exact mw_3_219
  · exact mw_3_221
  · exact mw_3_223
  · exact mw_3_225
  · exact mw_3_227
  · exact mw_3_229
  · exact mw_3_231
  · exact mw_3_233
  · exact mw_3_235
  · exact mw_3_237
  · exact mw_3_239
  · exact mw_4_1
  · exact mw_4_3
  · exact mw_4_5
  · exact mw_4_7
  · exact mw_4_9
  · exact mw_4_11
  · exact mw_4_13
  · exact mw_4_15
  · exact mw_4_17
  · exact mw_4_19
  · exact mw_4_21
  · exact mw_4_23
  · exact mw_4_25
  · exact mw_4_27
  · exact mw_4_29
  · exact mw_4_31
  · exact mw_4_33
  · exact mw_4_35
  · exact mw_4_37
  · exact mw_4_39
  · exact mw_4_41
  · exact mw_4_43
  · exact mw_4_45
theorem mw_3_186 : Cond.fieldLink RX9 86 "AnswerLinesModel" "kinds" "I" ∈ BG := mB (t3 (i := 186) (by decide +kernel)) (by decide +kernel)
theorem mw_4_59 : Cond.code yX9_in cX9_in 6 (some .boolean) ∈ BG := mB (t4 (i := 59) rfl) (by decide +kernel)
theorem mw_4_57 : Cond.methodLink RX9 90 yX9_in ∈ BG := mB (t4 (i := 57) (by decide +kernel)) (by decide +kernel)
theorem mw_4_58 : Cond.static yX9_in ∈ BG := mB (t4 (i := 58) (by decide +kernel)) (by decide +kernel)
theorem mw_1_9 : Cond.initialized RX9 ∈ BG := mB (t1 (i := 9) (by decide +kernel)) (by decide +kernel)
theorem mw_4_118 : Cond.constantLong RX9 94 (7) ∈ BG := mB (t4 (i := 118) (by decide +kernel)) (by decide +kernel)
theorem mw_4_60 : Cond.constantLong RX9 100 (3) ∈ BG := mB (t4 (i := 60) (by decide +kernel)) (by decide +kernel)
theorem mw_3_184 : Cond.fieldLink RX9 16 "AnswerLinesModel" "above" "[I" ∈ BG := mB (t3 (i := 184) (by decide +kernel)) (by decide +kernel)
theorem mw_4_56 : Cond.code yX9_isKind cX9_isKind 2 (some .boolean) ∈ BG := mB (t4 (i := 56) rfl) (by decide +kernel)
theorem mw_4_53 : Cond.methodLink RX9 96 yX9_isKind ∈ BG := mB (t4 (i := 53) (by decide +kernel)) (by decide +kernel)
theorem mw_4_55 : Cond.instanceMethod yX9_isKind ∈ BG := mB (t4 (i := 55) (by decide +kernel)) (by decide +kernel)
theorem mw_0_15 : Cond.selects RX9 yX9_isKind yX9_isKind ∈ BG := mB (t0 (i := 15) (by decide +kernel)) (by decide +kernel)
theorem mw_3_185 : Cond.fieldLink RX9 19 "AnswerLinesModel" "isBare" "[Z" ∈ BG := mB (t3 (i := 185) (by decide +kernel)) (by decide +kernel)
theorem mw_4_84 : Cond.code yX9_belowOf cX9_belowOf 4 (some .int) ∈ BG := mB (t4 (i := 84) rfl) (by decide +kernel)
theorem mw_4_81 : Cond.methodLink RX9 106 yX9_belowOf ∈ BG := mB (t4 (i := 81) (by decide +kernel)) (by decide +kernel)
theorem mw_4_83 : Cond.instanceMethod yX9_belowOf ∈ BG := mB (t4 (i := 83) (by decide +kernel)) (by decide +kernel)
theorem mw_0_19 : Cond.selects RX9 yX9_belowOf yX9_belowOf ∈ BG := mB (t0 (i := 19) (by decide +kernel)) (by decide +kernel)
theorem mw_3_188 : Cond.fieldLink RX9 26 "AnswerLinesModel" "lineLong" "[I" ∈ BG := mB (t3 (i := 188) (by decide +kernel)) (by decide +kernel)
theorem mw_3_189 : Cond.fieldLink RX9 29 "AnswerLinesModel" "quarrels" "[I" ∈ BG := mB (t3 (i := 189) (by decide +kernel)) (by decide +kernel)
theorem mw_3_187 : Cond.fieldLink RX9 23 "AnswerLinesModel" "lines" "[I" ∈ BG := mB (t3 (i := 187) (by decide +kernel)) (by decide +kernel)
theorem dX9_in_0 : decode cX9_in 0 = .ok (.lload_n 0, 1) := by decide +kernel
theorem dX9_in_1 : decode cX9_in 1 = .ok (.lload_n 2, 1) := by decide +kernel
theorem dX9_in_2 : decode cX9_in 2 = .ok (.lcmp, 1) := by decide +kernel
theorem dX9_in_3 : decode cX9_in 3 = .ok (.ifCond .lt 14, 3) := by decide +kernel
theorem dX9_in_17 : decode cX9_in 17 = .ok (.iconst 0, 1) := by decide +kernel
theorem dX9_in_18 : decode cX9_in 18 = .ok (.ireturn, 1) := by decide +kernel
theorem dX9_in_6 : decode cX9_in 6 = .ok (.lload_n 0, 1) := by decide +kernel
theorem dX9_in_7 : decode cX9_in 7 = .ok (.lload 4, 2) := by decide +kernel
theorem dX9_in_9 : decode cX9_in 9 = .ok (.lcmp, 1) := by decide +kernel
theorem dX9_in_10 : decode cX9_in 10 = .ok (.ifCond .gt 7, 3) := by decide +kernel
theorem dX9_in_13 : decode cX9_in 13 = .ok (.iconst 1, 1) := by decide +kernel
theorem dX9_in_14 : decode cX9_in 14 = .ok (.goto 4, 3) := by decide +kernel
theorem dX9_ones_0 : decode cX9_ones 0 = .ok (.iconst 0, 1) := by decide +kernel
theorem dX9_ones_1 : decode cX9_ones 1 = .ok (.istore_n 1, 1) := by decide +kernel
theorem dX9_ones_2 : decode cX9_ones 2 = .ok (.iconst 0, 1) := by decide +kernel
theorem dX9_ones_3 : decode cX9_ones 3 = .ok (.istore_n 2, 1) := by decide +kernel
theorem dX9_ones_4 : decode cX9_ones 4 = .ok (.iload_n 2, 1) := by decide +kernel
theorem dX9_ones_5 : decode cX9_ones 5 = .ok (.bipush 10, 2) := by decide +kernel
theorem dX9_ones_7 : decode cX9_ones 7 = .ok (.if_icmp .ge 17, 3) := by decide +kernel
theorem dX9_ones_24 : decode cX9_ones 24 = .ok (.iload_n 1, 1) := by decide +kernel
theorem dX9_ones_25 : decode cX9_ones 25 = .ok (.ireturn, 1) := by decide +kernel
theorem dX9_ones_10 : decode cX9_ones 10 = .ok (.iload_n 1, 1) := by decide +kernel
theorem dX9_ones_11 : decode cX9_ones 11 = .ok (.iload_n 0, 1) := by decide +kernel
theorem dX9_ones_12 : decode cX9_ones 12 = .ok (.iload_n 2, 1) := by decide +kernel
theorem dX9_ones_13 : decode cX9_ones 13 = .ok (.ishr, 1) := by decide +kernel
theorem dX9_ones_14 : decode cX9_ones 14 = .ok (.iconst 1, 1) := by decide +kernel
theorem dX9_ones_15 : decode cX9_ones 15 = .ok (.iand, 1) := by decide +kernel
theorem dX9_ones_16 : decode cX9_ones 16 = .ok (.iadd, 1) := by decide +kernel
theorem dX9_ones_17 : decode cX9_ones 17 = .ok (.istore_n 1, 1) := by decide +kernel
theorem dX9_ones_18 : decode cX9_ones 18 = .ok (.iinc 2 1, 3) := by decide +kernel
theorem dX9_ones_21 : decode cX9_ones 21 = .ok (.goto (-17), 3) := by decide +kernel
theorem dX9_isKind_0 : decode cX9_isKind 0 = .ok (.iload_n 1, 1) := by decide +kernel
theorem dX9_isKind_1 : decode cX9_isKind 1 = .ok (.i2l, 1) := by decide +kernel
theorem dX9_isKind_2 : decode cX9_isKind 2 = .ok (.lconst 0, 1) := by decide +kernel
theorem dX9_isKind_3 : decode cX9_isKind 3 = .ok (.aload_n 0, 1) := by decide +kernel
theorem dX9_isKind_4 : decode cX9_isKind 4 = .ok (.getfield 86, 3) := by decide +kernel
theorem dX9_isKind_7 : decode cX9_isKind 7 = .ok (.iconst 1, 1) := by decide +kernel
theorem dX9_isKind_8 : decode cX9_isKind 8 = .ok (.isub, 1) := by decide +kernel
theorem dX9_isKind_9 : decode cX9_isKind 9 = .ok (.i2l, 1) := by decide +kernel
theorem dX9_isKind_10 : decode cX9_isKind 10 = .ok (.invokestatic 90, 3) := by decide +kernel
theorem dX9_isKind_13 : decode cX9_isKind 13 = .ok (.ireturn, 1) := by decide +kernel
theorem dX9_isName_0 : decode cX9_isName 0 = .ok (.iload_n 0, 1) := by decide +kernel
theorem dX9_isName_1 : decode cX9_isName 1 = .ok (.i2l, 1) := by decide +kernel
theorem dX9_isName_2 : decode cX9_isName 2 = .ok (.lconst 0, 1) := by decide +kernel
theorem dX9_isName_3 : decode cX9_isName 3 = .ok (.ldc2_w 94, 3) := by decide +kernel
theorem dX9_isName_6 : decode cX9_isName 6 = .ok (.invokestatic 90, 3) := by decide +kernel
theorem dX9_isName_9 : decode cX9_isName 9 = .ok (.ireturn, 1) := by decide +kernel
theorem dX9_isPlace_0 : decode cX9_isPlace 0 = .ok (.iload_n 0, 1) := by decide +kernel
theorem dX9_isPlace_1 : decode cX9_isPlace 1 = .ok (.i2l, 1) := by decide +kernel
theorem dX9_isPlace_2 : decode cX9_isPlace 2 = .ok (.lconst 0, 1) := by decide +kernel
theorem dX9_isPlace_3 : decode cX9_isPlace 3 = .ok (.ldc2_w 100, 3) := by decide +kernel
theorem dX9_isPlace_6 : decode cX9_isPlace 6 = .ok (.invokestatic 90, 3) := by decide +kernel
theorem dX9_isPlace_9 : decode cX9_isPlace 9 = .ok (.ireturn, 1) := by decide +kernel
theorem dX9_belowOf_0 : decode cX9_belowOf 0 = .ok (.iconst 0, 1) := by decide +kernel
theorem dX9_belowOf_1 : decode cX9_belowOf 1 = .ok (.istore_n 2, 1) := by decide +kernel
theorem dX9_belowOf_2 : decode cX9_belowOf 2 = .ok (.iconst 0, 1) := by decide +kernel
theorem dX9_belowOf_3 : decode cX9_belowOf 3 = .ok (.istore_n 3, 1) := by decide +kernel
theorem dX9_belowOf_4 : decode cX9_belowOf 4 = .ok (.iload_n 3, 1) := by decide +kernel
theorem dX9_belowOf_5 : decode cX9_belowOf 5 = .ok (.aload_n 0, 1) := by decide +kernel
theorem dX9_belowOf_6 : decode cX9_belowOf 6 = .ok (.getfield 86, 3) := by decide +kernel
theorem dX9_belowOf_9 : decode cX9_belowOf 9 = .ok (.if_icmp .ge 33, 3) := by decide +kernel
theorem dX9_belowOf_42 : decode cX9_belowOf 42 = .ok (.iload_n 2, 1) := by decide +kernel
theorem dX9_belowOf_43 : decode cX9_belowOf 43 = .ok (.ireturn, 1) := by decide +kernel
theorem dX9_belowOf_12 : decode cX9_belowOf 12 = .ok (.iload_n 2, 1) := by decide +kernel
theorem dX9_belowOf_13 : decode cX9_belowOf 13 = .ok (.aload_n 0, 1) := by decide +kernel
theorem dX9_belowOf_14 : decode cX9_belowOf 14 = .ok (.getfield 16, 3) := by decide +kernel
theorem dX9_belowOf_17 : decode cX9_belowOf 17 = .ok (.iload_n 3, 1) := by decide +kernel
theorem dX9_belowOf_18 : decode cX9_belowOf 18 = .ok (.iaload, 1) := by decide +kernel
theorem dX9_belowOf_19 : decode cX9_belowOf 19 = .ok (.iload_n 1, 1) := by decide +kernel
theorem dX9_belowOf_20 : decode cX9_belowOf 20 = .ok (.ishr, 1) := by decide +kernel
theorem dX9_belowOf_21 : decode cX9_belowOf 21 = .ok (.iconst 1, 1) := by decide +kernel
theorem dX9_belowOf_22 : decode cX9_belowOf 22 = .ok (.iand, 1) := by decide +kernel
theorem dX9_belowOf_23 : decode cX9_belowOf 23 = .ok (.iconst 1, 1) := by decide +kernel
theorem dX9_belowOf_24 : decode cX9_belowOf 24 = .ok (.if_icmp .ne 9, 3) := by decide +kernel
theorem dX9_belowOf_33 : decode cX9_belowOf 33 = .ok (.iconst 0, 1) := by decide +kernel
theorem dX9_belowOf_34 : decode cX9_belowOf 34 = .ok (.ior, 1) := by decide +kernel
theorem dX9_belowOf_35 : decode cX9_belowOf 35 = .ok (.istore_n 2, 1) := by decide +kernel
theorem dX9_belowOf_36 : decode cX9_belowOf 36 = .ok (.iinc 3 1, 3) := by decide +kernel
theorem dX9_belowOf_39 : decode cX9_belowOf 39 = .ok (.goto (-35), 3) := by decide +kernel
theorem dX9_belowOf_27 : decode cX9_belowOf 27 = .ok (.iconst 1, 1) := by decide +kernel
theorem dX9_belowOf_28 : decode cX9_belowOf 28 = .ok (.iload_n 3, 1) := by decide +kernel
theorem dX9_belowOf_29 : decode cX9_belowOf 29 = .ok (.ishl, 1) := by decide +kernel
theorem dX9_belowOf_30 : decode cX9_belowOf 30 = .ok (.goto 4, 3) := by decide +kernel
theorem dX9_bodyOf_0 : decode cX9_bodyOf 0 = .ok (.bipush 8, 2) := by decide +kernel
theorem dX9_bodyOf_2 : decode cX9_bodyOf 2 = .ok (.iload_n 0, 1) := by decide +kernel
theorem dX9_bodyOf_3 : decode cX9_bodyOf 3 = .ok (.imul, 1) := by decide +kernel
theorem dX9_bodyOf_4 : decode cX9_bodyOf 4 = .ok (.iload_n 1, 1) := by decide +kernel
theorem dX9_bodyOf_5 : decode cX9_bodyOf 5 = .ok (.iadd, 1) := by decide +kernel
theorem dX9_bodyOf_6 : decode cX9_bodyOf 6 = .ok (.ireturn, 1) := by decide +kernel
theorem dX9_bare_0 : decode cX9_bare 0 = .ok (.aload_n 0, 1) := by decide +kernel
theorem dX9_bare_1 : decode cX9_bare 1 = .ok (.iload_n 1, 1) := by decide +kernel
theorem dX9_bare_2 : decode cX9_bare 2 = .ok (.invokevirtual 96, 3) := by decide +kernel
theorem dX9_bare_5 : decode cX9_bare 5 = .ok (.ifCond .ne 5, 3) := by decide +kernel
theorem dX9_bare_10 : decode cX9_bare 10 = .ok (.aload_n 0, 1) := by decide +kernel
theorem dX9_bare_11 : decode cX9_bare 11 = .ok (.getfield 19, 3) := by decide +kernel
theorem dX9_bare_14 : decode cX9_bare 14 = .ok (.iload_n 1, 1) := by decide +kernel
theorem dX9_bare_15 : decode cX9_bare 15 = .ok (.baload, 1) := by decide +kernel
theorem dX9_bare_16 : decode cX9_bare 16 = .ok (.ifCond .eq 7, 3) := by decide +kernel
theorem dX9_bare_23 : decode cX9_bare 23 = .ok (.iconst 0, 1) := by decide +kernel
theorem dX9_bare_24 : decode cX9_bare 24 = .ok (.istore_n 3, 1) := by decide +kernel
theorem dX9_bare_25 : decode cX9_bare 25 = .ok (.aload_n 0, 1) := by decide +kernel
theorem dX9_bare_26 : decode cX9_bare 26 = .ok (.getfield 19, 3) := by decide +kernel
theorem dX9_bare_29 : decode cX9_bare 29 = .ok (.iload_n 1, 1) := by decide +kernel
theorem dX9_bare_30 : decode cX9_bare 30 = .ok (.iload_n 2, 1) := by decide +kernel
theorem dX9_bare_31 : decode cX9_bare 31 = .ok (.bastore, 1) := by decide +kernel
theorem dX9_bare_32 : decode cX9_bare 32 = .ok (.iload_n 3, 1) := by decide +kernel
theorem dX9_bare_33 : decode cX9_bare 33 = .ok (.ireturn, 1) := by decide +kernel
theorem dX9_bare_19 : decode cX9_bare 19 = .ok (.iconst 1, 1) := by decide +kernel
theorem dX9_bare_20 : decode cX9_bare 20 = .ok (.goto 4, 3) := by decide +kernel
theorem dX9_bare_8 : decode cX9_bare 8 = .ok (.iconst (-1), 1) := by decide +kernel
theorem dX9_bare_9 : decode cX9_bare 9 = .ok (.ireturn, 1) := by decide +kernel
theorem dX9_of_0 : decode cX9_of 0 = .ok (.aload_n 0, 1) := by decide +kernel
theorem dX9_of_1 : decode cX9_of 1 = .ok (.iload_n 1, 1) := by decide +kernel
theorem dX9_of_2 : decode cX9_of 2 = .ok (.invokevirtual 96, 3) := by decide +kernel
theorem dX9_of_5 : decode cX9_of 5 = .ok (.ifCond .ne 5, 3) := by decide +kernel
theorem dX9_of_10 : decode cX9_of 10 = .ok (.iload_n 2, 1) := by decide +kernel
theorem dX9_of_11 : decode cX9_of 11 = .ok (.ifCond .ne 12, 3) := by decide +kernel
theorem dX9_of_23 : decode cX9_of 23 = .ok (.iload_n 2, 1) := by decide +kernel
theorem dX9_of_24 : decode cX9_of 24 = .ok (.iconst 1, 1) := by decide +kernel
theorem dX9_of_25 : decode cX9_of 25 = .ok (.if_icmp .ne 11, 3) := by decide +kernel
theorem dX9_of_36 : decode cX9_of 36 = .ok (.bipush (-2), 2) := by decide +kernel
theorem dX9_of_38 : decode cX9_of 38 = .ok (.ireturn, 1) := by decide +kernel
theorem dX9_of_28 : decode cX9_of 28 = .ok (.aload_n 0, 1) := by decide +kernel
theorem dX9_of_29 : decode cX9_of 29 = .ok (.iload_n 1, 1) := by decide +kernel
theorem dX9_of_30 : decode cX9_of 30 = .ok (.invokevirtual 106, 3) := by decide +kernel
theorem dX9_of_33 : decode cX9_of 33 = .ok (.goto 5, 3) := by decide +kernel
theorem dX9_of_14 : decode cX9_of 14 = .ok (.aload_n 0, 1) := by decide +kernel
theorem dX9_of_15 : decode cX9_of 15 = .ok (.getfield 16, 3) := by decide +kernel
theorem dX9_of_18 : decode cX9_of 18 = .ok (.iload_n 1, 1) := by decide +kernel
theorem dX9_of_19 : decode cX9_of 19 = .ok (.iaload, 1) := by decide +kernel
theorem dX9_of_20 : decode cX9_of 20 = .ok (.goto 18, 3) := by decide +kernel
theorem dX9_of_8 : decode cX9_of 8 = .ok (.iconst (-1), 1) := by decide +kernel
theorem dX9_of_9 : decode cX9_of 9 = .ok (.ireturn, 1) := by decide +kernel
theorem dX9_quarrel_0 : decode cX9_quarrel 0 = .ok (.aload_n 0, 1) := by decide +kernel
theorem dX9_quarrel_1 : decode cX9_quarrel 1 = .ok (.iload_n 1, 1) := by decide +kernel
theorem dX9_quarrel_2 : decode cX9_quarrel 2 = .ok (.invokevirtual 96, 3) := by decide +kernel
theorem dX9_quarrel_5 : decode cX9_quarrel 5 = .ok (.ifCond .ne 5, 3) := by decide +kernel
theorem dX9_quarrel_10 : decode cX9_quarrel 10 = .ok (.aload_n 0, 1) := by decide +kernel
theorem dX9_quarrel_11 : decode cX9_quarrel 11 = .ok (.getfield 26, 3) := by decide +kernel
theorem dX9_quarrel_14 : decode cX9_quarrel 14 = .ok (.iload_n 1, 1) := by decide +kernel
theorem dX9_quarrel_15 : decode cX9_quarrel 15 = .ok (.iaload, 1) := by decide +kernel
theorem dX9_quarrel_16 : decode cX9_quarrel 16 = .ok (.ifCond .le 8, 3) := by decide +kernel
theorem dX9_quarrel_24 : decode cX9_quarrel 24 = .ok (.aload_n 0, 1) := by decide +kernel
theorem dX9_quarrel_25 : decode cX9_quarrel 25 = .ok (.getfield 29, 3) := by decide +kernel
theorem dX9_quarrel_28 : decode cX9_quarrel 28 = .ok (.iload_n 1, 1) := by decide +kernel
theorem dX9_quarrel_29 : decode cX9_quarrel 29 = .ok (.iaload, 1) := by decide +kernel
theorem dX9_quarrel_30 : decode cX9_quarrel 30 = .ok (.ireturn, 1) := by decide +kernel
theorem dX9_quarrel_19 : decode cX9_quarrel 19 = .ok (.bipush (-6), 2) := by decide +kernel
theorem dX9_quarrel_21 : decode cX9_quarrel 21 = .ok (.goto 9, 3) := by decide +kernel
theorem dX9_quarrel_8 : decode cX9_quarrel 8 = .ok (.iconst (-1), 1) := by decide +kernel
theorem dX9_quarrel_9 : decode cX9_quarrel 9 = .ok (.ireturn, 1) := by decide +kernel
theorem dX9_line_0 : decode cX9_line 0 = .ok (.aload_n 0, 1) := by decide +kernel
theorem dX9_line_1 : decode cX9_line 1 = .ok (.iload_n 1, 1) := by decide +kernel
theorem dX9_line_2 : decode cX9_line 2 = .ok (.invokevirtual 96, 3) := by decide +kernel
theorem dX9_line_5 : decode cX9_line 5 = .ok (.ifCond .ne 5, 3) := by decide +kernel
theorem dX9_line_10 : decode cX9_line 10 = .ok (.aload_n 0, 1) := by decide +kernel
theorem dX9_line_11 : decode cX9_line 11 = .ok (.getfield 26, 3) := by decide +kernel
theorem dX9_line_14 : decode cX9_line 14 = .ok (.iload_n 1, 1) := by decide +kernel
theorem dX9_line_15 : decode cX9_line 15 = .ok (.iaload, 1) := by decide +kernel
theorem dX9_line_16 : decode cX9_line 16 = .ok (.ifCond .ne 6, 3) := by decide +kernel
theorem dX9_line_22 : decode cX9_line 22 = .ok (.iload_n 2, 1) := by decide +kernel
theorem dX9_line_23 : decode cX9_line 23 = .ok (.iconst (-1), 1) := by decide +kernel
theorem dX9_line_24 : decode cX9_line 24 = .ok (.if_icmp .ne 12, 3) := by decide +kernel
theorem dX9_line_36 : decode cX9_line 36 = .ok (.iload_n 2, 1) := by decide +kernel
theorem dX9_line_37 : decode cX9_line 37 = .ok (.i2l, 1) := by decide +kernel
theorem dX9_line_38 : decode cX9_line 38 = .ok (.lconst 0, 1) := by decide +kernel
theorem dX9_line_39 : decode cX9_line 39 = .ok (.aload_n 0, 1) := by decide +kernel
theorem dX9_line_40 : decode cX9_line 40 = .ok (.getfield 26, 3) := by decide +kernel
theorem dX9_line_43 : decode cX9_line 43 = .ok (.iload_n 1, 1) := by decide +kernel
theorem dX9_line_44 : decode cX9_line 44 = .ok (.iaload, 1) := by decide +kernel
theorem dX9_line_45 : decode cX9_line 45 = .ok (.iconst 1, 1) := by decide +kernel
theorem dX9_line_46 : decode cX9_line 46 = .ok (.isub, 1) := by decide +kernel
theorem dX9_line_47 : decode cX9_line 47 = .ok (.i2l, 1) := by decide +kernel
theorem dX9_line_48 : decode cX9_line 48 = .ok (.invokestatic 90, 3) := by decide +kernel
theorem dX9_line_51 : decode cX9_line 51 = .ok (.ifCond .eq 17, 3) := by decide +kernel
theorem dX9_line_54 : decode cX9_line 54 = .ok (.aload_n 0, 1) := by decide +kernel
theorem dX9_line_55 : decode cX9_line 55 = .ok (.getfield 23, 3) := by decide +kernel
theorem dX9_line_58 : decode cX9_line 58 = .ok (.bipush 10, 2) := by decide +kernel
theorem dX9_line_60 : decode cX9_line 60 = .ok (.iload_n 1, 1) := by decide +kernel
theorem dX9_line_61 : decode cX9_line 61 = .ok (.imul, 1) := by decide +kernel
theorem dX9_line_62 : decode cX9_line 62 = .ok (.iload_n 2, 1) := by decide +kernel
theorem dX9_line_63 : decode cX9_line 63 = .ok (.iadd, 1) := by decide +kernel
theorem dX9_line_64 : decode cX9_line 64 = .ok (.iaload, 1) := by decide +kernel
theorem dX9_line_65 : decode cX9_line 65 = .ok (.goto 5, 3) := by decide +kernel
theorem dX9_line_70 : decode cX9_line 70 = .ok (.ireturn, 1) := by decide +kernel
theorem dX9_line_68 : decode cX9_line 68 = .ok (.bipush (-6), 2) := by decide +kernel
theorem dX9_line_27 : decode cX9_line 27 = .ok (.aload_n 0, 1) := by decide +kernel
theorem dX9_line_28 : decode cX9_line 28 = .ok (.getfield 26, 3) := by decide +kernel
theorem dX9_line_31 : decode cX9_line 31 = .ok (.iload_n 1, 1) := by decide +kernel
theorem dX9_line_32 : decode cX9_line 32 = .ok (.iaload, 1) := by decide +kernel
theorem dX9_line_33 : decode cX9_line 33 = .ok (.goto 37, 3) := by decide +kernel
theorem dX9_line_19 : decode cX9_line 19 = .ok (.bipush (-3), 2) := by decide +kernel
theorem dX9_line_21 : decode cX9_line 21 = .ok (.ireturn, 1) := by decide +kernel
theorem dX9_line_8 : decode cX9_line 8 = .ok (.iconst (-1), 1) := by decide +kernel
theorem dX9_line_9 : decode cX9_line 9 = .ok (.ireturn, 1) := by decide +kernel
set_option maxHeartbeats 4000000 in
set_option maxRecDepth 100000 in
theorem m_in (l : Launch) (dC : Nat → ClassId) (dI : Nat → Nat → Nat) (sz : Nat) (a : Int32) (b : Int32) (c9 : Int32) (B : Int) (E : Int) (hB : Int32.toInt b = B) (hE : Int32.toInt c9 = E) : Met l yX9_in (wq yX9_in cX9_in 6 (some .boolean)) ({ frames := 0, cells := 0, slots := 0, locals := 0 }) (va_Pc [.long (Int32.toInt64 a), .long (Int32.toInt64 b), .long (Int32.toInt64 c9)] (pcW dC dI [] [] sz)) (va_Qi (fun (r : Int32) (_ : Unit) => r = (if B ≤ Int32.toInt a ∧ Int32.toInt a ≤ E then 1 else 0)) (fun _ _ => True) (fun q : Nat => sz ≤ q)) 0 0 (fun q : Nat => sz ≤ q) := by
  refine Met.ofW (cc := cX9_in) (maxL := 6) (ret := (some .boolean)) (by decide) rfl ?_
  intro p e s m args below meth c s₁ B hml hv
  obtain ⟨rfl, hsz, hN, hP, hK, hD0⟩ := hv
  have hx := B.exec
  have hb := B.bytes
  have hr := B.returns
  have hts0 := atoms_spec (ws := (wq yX9_in cX9_in 6 (some .boolean))) B.pre
  have hts : ∀ w ∈ BG, w.before _ s = true := fun w h => hts0 w (List.mem_cons_of_mem _ h)
  have hown : s.vm.findClass RX9 = some m.cls := findClass_of_methodNamed B.named
  have hlocks := B.notSynchronized
  subst hsz
  have hA : ∀ q : Nat, s.heap.size ≤ q → (fun q : Nat => s.heap.size ≤ q) q := fun _ h => h
  have hD := hD0
  have hS : va_S (fun q : Nat => s.heap.size ≤ q) s.heap s.heap [] := va_S.rf
  have hP : va_P (dC, dI) vwCl [] s.heap := hP
  have hl := lv_entry ([.long (Int32.toInt64 a), .long (Int32.toInt64 b), .long (Int32.toInt64 c9)]) (n := 6) (Nat.le_of_ble_eq_true rfl)
  rw [lg_entry_eq]
  generalize (lg_sl ([.long (Int32.toInt64 a), .long (Int32.toInt64 b), .long (Int32.toInt64 c9)]) ++ List.replicate (6 - (lg_sl ([.long (Int32.toInt64 a), .long (Int32.toInt64 b), .long (Int32.toInt64 c9)])).length) Slot.unset).toArray = ls at hl ⊢
  have hl : lv_has ls 6 [(0, .long (Int32.toInt64 a)), (2, .long (Int32.toInt64 b)), (4, .long (Int32.toInt64 c9))] := hl
  refine lv_lload_n hx hb dX9_in_0 rfl (lv_at hl 0 rfl) ?_
  refine lv_lload_n hx hb dX9_in_1 rfl (lv_at hl 1 rfl) ?_
  refine W.lcmp hx hb dX9_in_2 ?_
  refine lv_if_lt (tgt := 17) hx hb dX9_in_3 (by decide) (fun c_1 => ?_) (fun c_1 => ?_)
  · have b_2 := lq_lt (X := (Int32.toInt a)) (C := (Int32.toInt b)) rfl rfl c_1
    refine lv_iconst (v := 0) hx hb dX9_in_17 (by decide) ?_
    exact W.zret (v := 0) hx hb hr (by decide) (fun t ht hW => ⟨⟨0, (), rfl, (by first | exact (if_pos (by omega)).symm | exact (if_neg (by omega)).symm), trivial⟩, hS.F ht⟩) hS.2.2 dX9_in_18
  · have b_2 := lq_ltn (X := (Int32.toInt a)) (C := (Int32.toInt b)) rfl rfl c_1
    refine lv_lload_n hx hb dX9_in_6 rfl (lv_at hl 0 rfl) ?_
    refine lv_lload hx hb dX9_in_7 (lv_at hl 2 rfl) ?_
    refine W.lcmp hx hb dX9_in_9 ?_
    refine lv_if_gt (tgt := 17) hx hb dX9_in_10 (by decide) (fun c_3 => ?_) (fun c_3 => ?_)
    · have b_4 := lq_gt (X := (Int32.toInt a)) (C := (Int32.toInt c9)) rfl rfl c_3
      refine lv_iconst (v := 0) hx hb dX9_in_17 (by decide) ?_
      exact W.zret (v := 0) hx hb hr (by decide) (fun t ht hW => ⟨⟨0, (), rfl, (by first | exact (if_pos (by omega)).symm | exact (if_neg (by omega)).symm), trivial⟩, hS.F ht⟩) hS.2.2 dX9_in_18
    · have b_4 := lq_gtn (X := (Int32.toInt a)) (C := (Int32.toInt c9)) rfl rfl c_3
      refine lv_iconst (v := 1) hx hb dX9_in_13 (by decide) ?_
      refine lv_goto (tgt := 18) hx hb dX9_in_14 (by decide) ?_
      exact W.zret (v := 1) hx hb hr (by decide) (fun t ht hW => ⟨⟨1, (), rfl, (by first | exact (if_pos (by omega)).symm | exact (if_neg (by omega)).symm), trivial⟩, hS.F ht⟩) hS.2.2 dX9_in_18
set_option maxHeartbeats 4000000 in
set_option maxRecDepth 100000 in
theorem m_ones (l : Launch) (dC : Nat → ClassId) (dI : Nat → Nat → Nat) (sz : Nat) (n : Int32)  : Met l yX9_ones (wq yX9_ones cX9_ones 3 (some .int)) ({ frames := 0, cells := 0, slots := 0, locals := 0 }) (va_Pc [.int n] (pcW dC dI [] [] sz)) (va_Qi (fun (r : Int32) (_ : Unit) => r = nI (cnt (fun i => bt n i) 10)) (fun _ _ => True) (fun q : Nat => sz ≤ q)) 0 0 (fun q : Nat => sz ≤ q) := by
  refine Met.ofW (cc := cX9_ones) (maxL := 3) (ret := (some .int)) (by decide) rfl ?_
  intro p e s m args below meth c s₁ B hml hv
  obtain ⟨rfl, hsz, hN, hP, hK, hD0⟩ := hv
  have hx := B.exec
  have hb := B.bytes
  have hr := B.returns
  have hts0 := atoms_spec (ws := (wq yX9_ones cX9_ones 3 (some .int))) B.pre
  have hts : ∀ w ∈ BG, w.before _ s = true := fun w h => hts0 w (List.mem_cons_of_mem _ h)
  have hown : s.vm.findClass RX9 = some m.cls := findClass_of_methodNamed B.named
  have hlocks := B.notSynchronized
  subst hsz
  have hA : ∀ q : Nat, s.heap.size ≤ q → (fun q : Nat => s.heap.size ≤ q) q := fun _ h => h
  have hD := hD0
  have hS : va_S (fun q : Nat => s.heap.size ≤ q) s.heap s.heap [] := va_S.rf
  have hP : va_P (dC, dI) vwCl [] s.heap := hP
  have hl := lv_entry ([.int n]) (n := 3) (Nat.le_of_ble_eq_true rfl)
  rw [lg_entry_eq]
  generalize (lg_sl ([.int n]) ++ List.replicate (3 - (lg_sl ([.int n])).length) Slot.unset).toArray = ls at hl ⊢
  have hl : lv_has ls 3 [(0, .int n)] := hl
  refine lv_iconst (v := 0) hx hb dX9_ones_0 (by decide) ?_
  refine lv_istore_n (lv' := [(1, .int 0), (0, .int n)]) hx hb dX9_ones_1 rfl hl (by decide) rfl (fun ls hl => ?_)
  refine lv_iconst (v := 0) hx hb dX9_ones_2 (by decide) ?_
  refine lv_istore_n (lv' := [(2, .int 0), (1, .int 0), (0, .int n)]) hx hb dX9_ones_3 rfl hl (by decide) rfl (fun ls hl => ?_)
  have key_1 : ∀ (fu : Nat) (k : Nat) (ac : Int32), (k ≤ 10) → (ac = nI (cnt (fun i => bt n i) k)) → 10 - k < fu → ∀ (H : Heap) (locs : List Loc), va_P (dC, dI) vwCl [] H → va_S (fun q : Nat => s.heap.size ≤ q) s.heap H locs → ∀ (ls : Array Slot), lv_has ls 3 [(2, .int (nI k)), (1, .int ac), (0, .int n)] → W p l e (headSpec (wq yX9_ones cX9_ones 3 (some .int)) ({ frames := 0, cells := 0, slots := 0, locals := 0 })).room s m (([.int n] : List Value)).toArray below meth c H locs 0 0 (MQ below (va_Qi (fun (r : Int32) (_ : Unit) => r = nI (cnt (fun i => bt n i) 10)) (fun _ _ => True) (fun q : Nat => s.heap.size ≤ q)) (([.int n] : List Value)).toArray s 0 0 (fun q : Nat => s.heap.size ≤ q)) (F0 m 4 ls []) := by
    intro fu
    induction fu with
    | zero => intro k ac hk hac hme; exact absurd hme (Nat.not_lt_zero _)
    | succ fu ih_2 =>
      intro k ac hk hac hme H locs hP hS ls hl
      refine lv_iload_n hx hb dX9_ones_4 rfl (lv_at hl 0 rfl) ?_
      refine lv_bipush (v := 10) hx hb dX9_ones_5 (by decide) ?_
      refine lv_icmp_ge (tgt := 24) hx hb dX9_ones_7 (by decide) (fun c_3 => ?_) (fun c_3 => ?_)
      · have b_4 := gx_ge (X := ((k : Nat) : Int)) (C := 10) (nI_toInt (by omega)) (by decide) c_3
        refine lv_iload_n hx hb dX9_ones_24 rfl (lv_at hl 1 rfl) ?_
        exact W.iret (v := ac) hx hb hr (fun t ht hW => ⟨⟨ac, (), rfl, (by rw [hac, show k = 10 from (by omega)]), trivial⟩, hS.F ht⟩) hS.2.2 dX9_ones_25
      · have b_4 := gn_ge (X := ((k : Nat) : Int)) (C := 10) (nI_toInt (by omega)) (by decide) c_3
        refine lv_iload_n hx hb dX9_ones_10 rfl (lv_at hl 1 rfl) ?_
        refine lv_iload_n hx hb dX9_ones_11 rfl (lv_at hl 2 rfl) ?_
        refine lv_iload_n hx hb dX9_ones_12 rfl (lv_at hl 0 rfl) ?_
        refine lv_ishr hx hb dX9_ones_13 ?_
        refine lv_iconst (v := 1) hx hb dX9_ones_14 (by decide) ?_
        refine lv_iand hx hb dX9_ones_15 ?_
        refine lv_iadd hx hb dX9_ones_16 ?_
        refine lv_istore_n (lv' := [(1, .int (ac + ((n >>> ((nI k) &&& 31)) &&& 1))), (2, .int (nI k)), (0, .int n)]) hx hb dX9_ones_17 rfl hl (by decide) rfl (fun ls hl => ?_)
        refine lv_iinc (v := (nI (k + 1))) (lv' := [(2, .int (nI (k + 1))), (1, .int (ac + ((n >>> ((nI k) &&& 31)) &&& 1))), (0, .int n)]) hx hb dX9_ones_18 hl (k := 1) rfl (nI_add k 1) (by decide) rfl (fun ls hl => ?_)
        refine lv_goto (tgt := 4) hx hb dX9_ones_21 (by decide) ?_
        exact ih_2 (k + 1) (ac + ((n >>> ((nI k) &&& 31)) &&& 1)) (by omega) (by exact ones_step (by omega) hac) (by omega) _ _ hP hS ls (lv_sub hl [0, 1, 2] rfl)
  exact key_1 ((10 - 0) + 1) 0 0 (by omega) rfl (Nat.lt_succ_self _) _ _ hP hS ls (lv_sub hl [0, 1, 2] rfl)
set_option maxHeartbeats 4000000 in
set_option maxRecDepth 100000 in
theorem m_isKind (l : Launch) (dC : Nat → ClassId) (dI : Nat → Nat → Nat) (sz : Nat) (h0 : Nat) (w0 : Value) (w1 : Value) (w2 : Value) (w3 : Value) (kn : Nat) (w5 : Value) (w6 : Value) (w7 : Value) (w8 : Value) (w9 : Value) (w10 : Value) (w11 : Value) (w12 : Value) (w13 : Value) (w14 : Value) (w15 : Value) (w16 : Value) (w17 : Value) (w18 : Value) (w19 : Value) (w20 : Value) (w21 : Value) (w22 : Value) (w23 : Value) (w24 : Value) (w25 : Value) (w26 : Value) (w27 : Value) (w28 : Value) (w29 : Value) (w30 : Value) (w31 : Value) (w32 : Value) (w33 : Value) (w34 : Value) (n : Int32) (hkn : kn ≤ 10) : Met l yX9_isKind (wq yX9_isKind cX9_isKind 2 (some .boolean)) ({ frames := 1, cells := 0, slots := 0, locals := 25 }) (va_Pc [.ref h0, .int n] (pcW dC dI [] [(h0, .inr (8, [w0, w1, w2, w3, .int (nI kn), w5, w6, w7, w8, w9, w10, w11, w12, w13, w14, w15, w16, w17, w18, w19, w20, w21, w22, w23, w24, w25, w26, w27, w28, w29, w30, w31, w32, w33, w34]))] sz)) (va_Qi (fun (r : Int32) (_ : Unit) => r = (if (0 ≤ Int32.toInt n ∧ Int32.toInt n < ((kn : Nat) : Int)) then 1 else 0)) (fun _ _ => True) (fun q : Nat => sz ≤ q)) 0 0 (fun q : Nat => sz ≤ q) := by
  refine Met.ofW (cc := cX9_isKind) (maxL := 2) (ret := (some .boolean)) (by decide) rfl ?_
  intro p e s m args below meth c s₁ B hml hv
  obtain ⟨rfl, hsz, hN, hP, hK, hD0⟩ := hv
  have hx := B.exec
  have hb := B.bytes
  have hr := B.returns
  have hts0 := atoms_spec (ws := (wq yX9_isKind cX9_isKind 2 (some .boolean))) B.pre
  have hts : ∀ w ∈ BG, w.before _ s = true := fun w h => hts0 w (List.mem_cons_of_mem _ h)
  have hown : s.vm.findClass RX9 = some m.cls := findClass_of_methodNamed B.named
  have hlocks := B.notSynchronized
  subst hsz
  have hA : ∀ q : Nat, s.heap.size ≤ q → (fun q : Nat => s.heap.size ≤ q) q := fun _ h => h
  have hD := hD0
  have hS : va_S (fun q : Nat => s.heap.size ≤ q) s.heap s.heap [] := va_S.rf
  have hP : va_P (dC, dI) vwCl [(h0, .inr (8, [w0, w1, w2, w3, .int (nI kn), w5, w6, w7, w8, w9, w10, w11, w12, w13, w14, w15, w16, w17, w18, w19, w20, w21, w22, w23, w24, w25, w26, w27, w28, w29, w30, w31, w32, w33, w34]))] s.heap := hP
  have hl := lv_entry ([.ref h0, .int n]) (n := 2) (Nat.le_of_ble_eq_true rfl)
  rw [lg_entry_eq]
  generalize (lg_sl ([.ref h0, .int n]) ++ List.replicate (2 - (lg_sl ([.ref h0, .int n])).length) Slot.unset).toArray = ls at hl ⊢
  have hl : lv_has ls 2 [(0, .ref h0), (1, .int n)] := hl
  refine lv_iload_n hx hb dX9_isKind_0 rfl (lv_at hl 1 rfl) ?_
  refine lv_i2l hx hb dX9_isKind_1 rfl ?_
  refine lv_lconst (v := Int32.toInt64 0) hx hb dX9_isKind_2 (by decide) ?_
  refine lv_aload_n hx hb dX9_isKind_3 rfl (lv_at hl 0 rfl) ?_
  refine va_get (D := (dC, dI)) (ci := 8) (v := .int (nI kn)) (C := RX9) (T := TX9) (N := 35) hx hb hts inB_9 hown hK hP 0 rfl rfl 4 (by decide) (hts _ mw_3_186) (fun _ h9 => h9) rfl dX9_isKind_4 ?_
  refine lv_iconst (v := 1) hx hb dX9_isKind_7 (by decide) ?_
  refine lv_isub hx hb dX9_isKind_8 ?_
  refine lv_topi (fun z_1 ez_1 => ?_)
  have fz_1 : Int32.toInt z_1 = ((kn : Nat) : Int) - 1 := by rw [ez_1]; exact gx_sub (X := ((kn : Nat) : Int)) (C := 1) (nI_toInt (by omega)) (by decide) (by omega) (by omega)
  refine lv_i2l hx hb dX9_isKind_9 rfl ?_
  have hPc := hP.sub (ws' := []) [] rfl
  have hDc := hD.sub (ws' := []) [] (by decide) rfl
  have hKc := hK.sub (tys' := []) [] rfl
  refine va_calli (va_runS (As := [.long (Int32.toInt64 n), .long (Int32.toInt64 0), .long (Int32.toInt64 z_1)]) (rest := []) ⟨hx, hb, hml, hown, hts⟩ (m_in l dC dI s.heap.size n 0 z_1 0 (Int32.toInt z_1) (by decide) rfl) (va_cwS 3 hts (gS mw_4_57 mw_4_58 mw_1_9 mw_4_59) rfl rfl rfl (by decide +kernel) ⟨Nat.le_of_ble_eq_true rfl, Nat.le_of_ble_eq_true rfl⟩) ⟨pcW_blind, pcW_at hPc hKc hDc hN⟩ rfl rfl hl.1 rfl (lv_room (Nat.le_of_ble_eq_true rfl)) dX9_isKind_10 ⟨Nat.le_of_ble_eq_true rfl, Nat.le_of_ble_eq_true rfl⟩) hS (fun q h1 h2 => absurd h2 (Nat.not_le.mpr h1)) (fun q h => hA q (Nat.le_trans hS.1 h)) (fun r_2 u t H1 locs ht hvm hw_2 hB hz1 hk1 hS => ?_)
  have hP := keepP hP hk1
  clear hz1 hk1 hB ht hvm hPc hDc hKc
  generalize H1 = H at hP hS ⊢
  rcases fx_bool hw_2 with ⟨rfl, b_3⟩ | ⟨rfl, b_3⟩
  · skip
    exact W.zret (v := 1) hx hb hr (by decide) (fun t ht hW => ⟨⟨1, (), rfl, (by first | exact (if_pos (by omega)).symm | exact (if_neg (by omega)).symm), trivial⟩, hS.F ht⟩) hS.2.2 dX9_isKind_13
  · skip
    exact W.zret (v := 0) hx hb hr (by decide) (fun t ht hW => ⟨⟨0, (), rfl, (by first | exact (if_pos (by omega)).symm | exact (if_neg (by omega)).symm), trivial⟩, hS.F ht⟩) hS.2.2 dX9_isKind_13
set_option maxHeartbeats 4000000 in
set_option maxRecDepth 100000 in
theorem m_isName (l : Launch) (dC : Nat → ClassId) (dI : Nat → Nat → Nat) (sz : Nat) (n : Int32)  : Met l yX9_isName (wq yX9_isName cX9_isName 1 (some .boolean)) ({ frames := 1, cells := 0, slots := 0, locals := 25 }) (va_Pc [.int n] (pcW dC dI [] [] sz)) (va_Qi (fun (r : Int32) (_ : Unit) => r = (if 0 ≤ Int32.toInt n ∧ Int32.toInt n ≤ 7 then 1 else 0)) (fun _ _ => True) (fun q : Nat => sz ≤ q)) 0 0 (fun q : Nat => sz ≤ q) := by
  refine Met.ofW (cc := cX9_isName) (maxL := 1) (ret := (some .boolean)) (by decide) rfl ?_
  intro p e s m args below meth c s₁ B hml hv
  obtain ⟨rfl, hsz, hN, hP, hK, hD0⟩ := hv
  have hx := B.exec
  have hb := B.bytes
  have hr := B.returns
  have hts0 := atoms_spec (ws := (wq yX9_isName cX9_isName 1 (some .boolean))) B.pre
  have hts : ∀ w ∈ BG, w.before _ s = true := fun w h => hts0 w (List.mem_cons_of_mem _ h)
  have hown : s.vm.findClass RX9 = some m.cls := findClass_of_methodNamed B.named
  have hlocks := B.notSynchronized
  subst hsz
  have hA : ∀ q : Nat, s.heap.size ≤ q → (fun q : Nat => s.heap.size ≤ q) q := fun _ h => h
  have hD := hD0
  have hS : va_S (fun q : Nat => s.heap.size ≤ q) s.heap s.heap [] := va_S.rf
  have hP : va_P (dC, dI) vwCl [] s.heap := hP
  have hl := lv_entry ([.int n]) (n := 1) (Nat.le_of_ble_eq_true rfl)
  rw [lg_entry_eq]
  generalize (lg_sl ([.int n]) ++ List.replicate (1 - (lg_sl ([.int n])).length) Slot.unset).toArray = ls at hl ⊢
  have hl : lv_has ls 1 [(0, .int n)] := hl
  refine lv_iload_n hx hb dX9_isName_0 rfl (lv_at hl 0 rfl) ?_
  refine lv_i2l hx hb dX9_isName_1 rfl ?_
  refine lv_lconst (v := Int32.toInt64 0) hx hb dX9_isName_2 (by decide) ?_
  refine lv_ldc2 (v := Int32.toInt64 7) hx hb hown (show (Cond.constantLong RX9 94 (Int32.toInt64 7)).before _ s = true from (hts _ mw_4_118)) dX9_isName_3 ?_
  have hPc := hP.sub (ws' := []) [] rfl
  have hDc := hD.sub (ws' := []) [] (by decide) rfl
  have hKc := hK.sub (tys' := []) [] rfl
  refine va_calli (va_runS (As := [.long (Int32.toInt64 n), .long (Int32.toInt64 0), .long (Int32.toInt64 7)]) (rest := []) ⟨hx, hb, hml, hown, hts⟩ (m_in l dC dI s.heap.size n 0 7 0 7 (by decide) (by decide)) (va_cwS 3 hts (gS mw_4_57 mw_4_58 mw_1_9 mw_4_59) rfl rfl rfl (by decide +kernel) ⟨Nat.le_of_ble_eq_true rfl, Nat.le_of_ble_eq_true rfl⟩) ⟨pcW_blind, pcW_at hPc hKc hDc hN⟩ rfl rfl hl.1 rfl (lv_room (Nat.le_of_ble_eq_true rfl)) dX9_isName_6 ⟨Nat.le_of_ble_eq_true rfl, Nat.le_of_ble_eq_true rfl⟩) hS (fun q h1 h2 => absurd h2 (Nat.not_le.mpr h1)) (fun q h => hA q (Nat.le_trans hS.1 h)) (fun r_1 u t H1 locs ht hvm hw_1 hB hz1 hk1 hS => ?_)
  have hP := keepP hP hk1
  clear hz1 hk1 hB ht hvm hPc hDc hKc
  generalize H1 = H at hP hS ⊢
  rcases fx_bool hw_1 with ⟨rfl, b_2⟩ | ⟨rfl, b_2⟩
  · skip
    exact W.zret (v := 1) hx hb hr (by decide) (fun t ht hW => ⟨⟨1, (), rfl, (by first | exact (if_pos (by omega)).symm | exact (if_neg (by omega)).symm), trivial⟩, hS.F ht⟩) hS.2.2 dX9_isName_9
  · skip
    exact W.zret (v := 0) hx hb hr (by decide) (fun t ht hW => ⟨⟨0, (), rfl, (by first | exact (if_pos (by omega)).symm | exact (if_neg (by omega)).symm), trivial⟩, hS.F ht⟩) hS.2.2 dX9_isName_9
set_option maxHeartbeats 4000000 in
set_option maxRecDepth 100000 in
theorem m_isPlace (l : Launch) (dC : Nat → ClassId) (dI : Nat → Nat → Nat) (sz : Nat) (n : Int32)  : Met l yX9_isPlace (wq yX9_isPlace cX9_isPlace 1 (some .boolean)) ({ frames := 1, cells := 0, slots := 0, locals := 25 }) (va_Pc [.int n] (pcW dC dI [] [] sz)) (va_Qi (fun (r : Int32) (_ : Unit) => r = (if 0 ≤ Int32.toInt n ∧ Int32.toInt n ≤ 3 then 1 else 0)) (fun _ _ => True) (fun q : Nat => sz ≤ q)) 0 0 (fun q : Nat => sz ≤ q) := by
  refine Met.ofW (cc := cX9_isPlace) (maxL := 1) (ret := (some .boolean)) (by decide) rfl ?_
  intro p e s m args below meth c s₁ B hml hv
  obtain ⟨rfl, hsz, hN, hP, hK, hD0⟩ := hv
  have hx := B.exec
  have hb := B.bytes
  have hr := B.returns
  have hts0 := atoms_spec (ws := (wq yX9_isPlace cX9_isPlace 1 (some .boolean))) B.pre
  have hts : ∀ w ∈ BG, w.before _ s = true := fun w h => hts0 w (List.mem_cons_of_mem _ h)
  have hown : s.vm.findClass RX9 = some m.cls := findClass_of_methodNamed B.named
  have hlocks := B.notSynchronized
  subst hsz
  have hA : ∀ q : Nat, s.heap.size ≤ q → (fun q : Nat => s.heap.size ≤ q) q := fun _ h => h
  have hD := hD0
  have hS : va_S (fun q : Nat => s.heap.size ≤ q) s.heap s.heap [] := va_S.rf
  have hP : va_P (dC, dI) vwCl [] s.heap := hP
  have hl := lv_entry ([.int n]) (n := 1) (Nat.le_of_ble_eq_true rfl)
  rw [lg_entry_eq]
  generalize (lg_sl ([.int n]) ++ List.replicate (1 - (lg_sl ([.int n])).length) Slot.unset).toArray = ls at hl ⊢
  have hl : lv_has ls 1 [(0, .int n)] := hl
  refine lv_iload_n hx hb dX9_isPlace_0 rfl (lv_at hl 0 rfl) ?_
  refine lv_i2l hx hb dX9_isPlace_1 rfl ?_
  refine lv_lconst (v := Int32.toInt64 0) hx hb dX9_isPlace_2 (by decide) ?_
  refine lv_ldc2 (v := Int32.toInt64 3) hx hb hown (show (Cond.constantLong RX9 100 (Int32.toInt64 3)).before _ s = true from (hts _ mw_4_60)) dX9_isPlace_3 ?_
  have hPc := hP.sub (ws' := []) [] rfl
  have hDc := hD.sub (ws' := []) [] (by decide) rfl
  have hKc := hK.sub (tys' := []) [] rfl
  refine va_calli (va_runS (As := [.long (Int32.toInt64 n), .long (Int32.toInt64 0), .long (Int32.toInt64 3)]) (rest := []) ⟨hx, hb, hml, hown, hts⟩ (m_in l dC dI s.heap.size n 0 3 0 3 (by decide) (by decide)) (va_cwS 3 hts (gS mw_4_57 mw_4_58 mw_1_9 mw_4_59) rfl rfl rfl (by decide +kernel) ⟨Nat.le_of_ble_eq_true rfl, Nat.le_of_ble_eq_true rfl⟩) ⟨pcW_blind, pcW_at hPc hKc hDc hN⟩ rfl rfl hl.1 rfl (lv_room (Nat.le_of_ble_eq_true rfl)) dX9_isPlace_6 ⟨Nat.le_of_ble_eq_true rfl, Nat.le_of_ble_eq_true rfl⟩) hS (fun q h1 h2 => absurd h2 (Nat.not_le.mpr h1)) (fun q h => hA q (Nat.le_trans hS.1 h)) (fun r_1 u t H1 locs ht hvm hw_1 hB hz1 hk1 hS => ?_)
  have hP := keepP hP hk1
  clear hz1 hk1 hB ht hvm hPc hDc hKc
  generalize H1 = H at hP hS ⊢
  rcases fx_bool hw_1 with ⟨rfl, b_2⟩ | ⟨rfl, b_2⟩
  · skip
    exact W.zret (v := 1) hx hb hr (by decide) (fun t ht hW => ⟨⟨1, (), rfl, (by first | exact (if_pos (by omega)).symm | exact (if_neg (by omega)).symm), trivial⟩, hS.F ht⟩) hS.2.2 dX9_isPlace_9
  · skip
    exact W.zret (v := 0) hx hb hr (by decide) (fun t ht hW => ⟨⟨0, (), rfl, (by first | exact (if_pos (by omega)).symm | exact (if_neg (by omega)).symm), trivial⟩, hS.F ht⟩) hS.2.2 dX9_isPlace_9
set_option maxHeartbeats 4000000 in
set_option maxRecDepth 100000 in
theorem m_belowOf (l : Launch) (dC : Nat → ClassId) (dI : Nat → Nat → Nat) (sz : Nat) (h0 : Nat) (w0 : Value) (w1 : Value) (l6 : Nat) (w3 : Value) (kn : Nat) (w5 : Value) (w6 : Value) (w7 : Value) (w8 : Value) (w9 : Value) (w10 : Value) (w11 : Value) (w12 : Value) (w13 : Value) (w14 : Value) (w15 : Value) (w16 : Value) (w17 : Value) (w18 : Value) (w19 : Value) (w20 : Value) (w21 : Value) (w22 : Value) (w23 : Value) (w24 : Value) (w25 : Value) (w26 : Value) (w27 : Value) (w28 : Value) (w29 : Value) (w30 : Value) (w31 : Value) (w32 : Value) (w33 : Value) (w34 : Value) (kl6 : ClassId) (fma : Nat → Int32) (kq : Nat) (hkn : kn ≤ 10) (hk10 : kq < 10) : Met l yX9_belowOf (wq yX9_belowOf cX9_belowOf 4 (some .int)) ({ frames := 0, cells := 0, slots := 0, locals := 0 }) (va_Pc [.ref h0, .int (nI kq)] (pcW dC dI [(kl6, .int)] [(h0, .inr (8, [w0, w1, .ref l6, w3, .int (nI kn), w5, w6, w7, w8, w9, w10, w11, w12, w13, w14, w15, w16, w17, w18, w19, w20, w21, w22, w23, w24, w25, w26, w27, w28, w29, w30, w31, w32, w33, w34])), (l6, .inl (kl6, 10, .inl fma))] sz)) (va_Qi (fun (r : Int32) (_ : Unit) => r = (blF fma kn kq)) (fun _ _ => True) (fun q : Nat => sz ≤ q)) 0 0 (fun q : Nat => sz ≤ q) := by
  refine Met.ofW (cc := cX9_belowOf) (maxL := 4) (ret := (some .int)) (by decide) rfl ?_
  intro p e s m args below meth c s₁ B hml hv
  obtain ⟨rfl, hsz, hN, hP, hK, hD0⟩ := hv
  have hx := B.exec
  have hb := B.bytes
  have hr := B.returns
  have hts0 := atoms_spec (ws := (wq yX9_belowOf cX9_belowOf 4 (some .int))) B.pre
  have hts : ∀ w ∈ BG, w.before _ s = true := fun w h => hts0 w (List.mem_cons_of_mem _ h)
  have hown : s.vm.findClass RX9 = some m.cls := findClass_of_methodNamed B.named
  have hlocks := B.notSynchronized
  subst hsz
  have hA : ∀ q : Nat, s.heap.size ≤ q → (fun q : Nat => s.heap.size ≤ q) q := fun _ h => h
  have hD := hD0
  have hS : va_S (fun q : Nat => s.heap.size ≤ q) s.heap s.heap [] := va_S.rf
  have hP : va_P (dC, dI) vwCl [(h0, .inr (8, [w0, w1, .ref l6, w3, .int (nI kn), w5, w6, w7, w8, w9, w10, w11, w12, w13, w14, w15, w16, w17, w18, w19, w20, w21, w22, w23, w24, w25, w26, w27, w28, w29, w30, w31, w32, w33, w34])), (l6, .inl (kl6, 10, .inl fma))] s.heap := hP
  have hl := lv_entry ([.ref h0, .int (nI kq)]) (n := 4) (Nat.le_of_ble_eq_true rfl)
  rw [lg_entry_eq]
  generalize (lg_sl ([.ref h0, .int (nI kq)]) ++ List.replicate (4 - (lg_sl ([.ref h0, .int (nI kq)])).length) Slot.unset).toArray = ls at hl ⊢
  have hl : lv_has ls 4 [(0, .ref h0), (1, .int (nI kq))] := hl
  refine lv_iconst (v := 0) hx hb dX9_belowOf_0 (by decide) ?_
  refine lv_istore_n (lv' := [(2, .int 0), (0, .ref h0), (1, .int (nI kq))]) hx hb dX9_belowOf_1 rfl hl (by decide) rfl (fun ls hl => ?_)
  refine lv_iconst (v := 0) hx hb dX9_belowOf_2 (by decide) ?_
  refine lv_istore_n (lv' := [(3, .int 0), (2, .int 0), (0, .ref h0), (1, .int (nI kq))]) hx hb dX9_belowOf_3 rfl hl (by decide) rfl (fun ls hl => ?_)
  have key_1 : ∀ (fu : Nat) (k : Nat) (ac : Int32), (k ≤ kn) → (ac = bitsF (fun o => bt (fma o) kq) k) → kn - k < fu → ∀ (H : Heap) (locs : List Loc), va_P (dC, dI) vwCl [(h0, .inr (8, [w0, w1, .ref l6, w3, .int (nI kn), w5, w6, w7, w8, w9, w10, w11, w12, w13, w14, w15, w16, w17, w18, w19, w20, w21, w22, w23, w24, w25, w26, w27, w28, w29, w30, w31, w32, w33, w34])), (l6, .inl (kl6, 10, .inl fma))] H → va_S (fun q : Nat => s.heap.size ≤ q) s.heap H locs → ∀ (ls : Array Slot), lv_has ls 4 [(3, .int (nI k)), (2, .int ac), (0, .ref h0), (1, .int (nI kq))] → W p l e (headSpec (wq yX9_belowOf cX9_belowOf 4 (some .int)) ({ frames := 0, cells := 0, slots := 0, locals := 0 })).room s m (([.ref h0, .int (nI kq)] : List Value)).toArray below meth c H locs 0 0 (MQ below (va_Qi (fun (r : Int32) (_ : Unit) => r = (blF fma kn kq)) (fun _ _ => True) (fun q : Nat => s.heap.size ≤ q)) (([.ref h0, .int (nI kq)] : List Value)).toArray s 0 0 (fun q : Nat => s.heap.size ≤ q)) (F0 m 4 ls []) := by
    intro fu
    induction fu with
    | zero => intro k ac hk hac hme; exact absurd hme (Nat.not_lt_zero _)
    | succ fu ih_2 =>
      intro k ac hk hac hme H locs hP hS ls hl
      refine lv_iload_n hx hb dX9_belowOf_4 rfl (lv_at hl 0 rfl) ?_
      refine lv_aload_n hx hb dX9_belowOf_5 rfl (lv_at hl 2 rfl) ?_
      refine va_get (D := (dC, dI)) (ci := 8) (v := .int (nI kn)) (C := RX9) (T := TX9) (N := 35) hx hb hts inB_9 hown hK hP 0 rfl rfl 4 (by decide) (hts _ mw_3_186) (fun _ h9 => h9) rfl dX9_belowOf_6 ?_
      refine lv_icmp_ge (tgt := 42) hx hb dX9_belowOf_9 (by decide) (fun c_3 => ?_) (fun c_3 => ?_)
      · have b_4 := gx_ge (X := ((k : Nat) : Int)) (C := ((kn : Nat) : Int)) (nI_toInt (by omega)) (nI_toInt (by omega)) c_3
        refine lv_iload_n hx hb dX9_belowOf_42 rfl (lv_at hl 1 rfl) ?_
        exact W.iret (v := ac) hx hb hr (fun t ht hW => ⟨⟨ac, (), rfl, (by rw [hac, show k = kn from (by omega)]; rfl), trivial⟩, hS.F ht⟩) hS.2.2 dX9_belowOf_43
      · have b_4 := gn_ge (X := ((k : Nat) : Int)) (C := ((kn : Nat) : Int)) (nI_toInt (by omega)) (nI_toInt (by omega)) c_3
        refine lv_iload_n hx hb dX9_belowOf_12 rfl (lv_at hl 1 rfl) ?_
        refine lv_aload_n hx hb dX9_belowOf_13 rfl (lv_at hl 2 rfl) ?_
        refine va_get (D := (dC, dI)) (ci := 8) (v := .ref l6) (C := RX9) (T := TX9) (N := 35) hx hb hts inB_9 hown hK hP 0 rfl rfl 2 (by decide) (hts _ mw_3_184) (fun _ h9 => h9) rfl dX9_belowOf_14 ?_
        refine lv_iload_n hx hb dX9_belowOf_17 rfl (lv_at hl 0 rfl) ?_
        refine va_iald hx hb hK hP 1 0 rfl rfl (show vp_in (nI k) 10 from vp_in_nI (by omega) (by omega)) dX9_belowOf_18 ?_
        refine hx_top (y := (fma k)) (congrArg _ (nI_clamp (by omega))) ?_
        refine lv_iload_n hx hb dX9_belowOf_19 rfl (lv_at hl 3 rfl) ?_
        refine lv_ishr hx hb dX9_belowOf_20 ?_
        refine lv_iconst (v := 1) hx hb dX9_belowOf_21 (by decide) ?_
        refine lv_iand hx hb dX9_belowOf_22 ?_
        refine lv_iconst (v := 1) hx hb dX9_belowOf_23 (by decide) ?_
        refine lv_icmp_ne (tgt := 33) hx hb dX9_belowOf_24 (by decide) (fun c_5 => ?_) (fun c_5 => ?_)
        · have b_6 := gx_ne (X := (Int32.toInt (((fma k) >>> ((nI kq) &&& 31)) &&& 1))) (C := 1) rfl (by decide) c_5
          refine lv_iconst (v := 0) hx hb dX9_belowOf_33 (by decide) ?_
          refine lv_ior hx hb dX9_belowOf_34 ?_
          refine lv_istore_n (lv' := [(2, .int (ac ||| 0)), (3, .int (nI k)), (0, .ref h0), (1, .int (nI kq))]) hx hb dX9_belowOf_35 rfl hl (by decide) rfl (fun ls hl => ?_)
          refine lv_iinc (v := (nI (k + 1))) (lv' := [(3, .int (nI (k + 1))), (2, .int (ac ||| 0)), (0, .ref h0), (1, .int (nI kq))]) hx hb dX9_belowOf_36 hl (k := 1) rfl (nI_add k 1) (by decide) rfl (fun ls hl => ?_)
          refine lv_goto (tgt := 4) hx hb dX9_belowOf_39 (by decide) ?_
          exact ih_2 (k + 1) (ac ||| 0) (by omega) (by rw [hac]; exact bits_f0 (t_n1 (by omega) c_5)) (by omega) _ _ hP hS ls (lv_sub hl [0, 1, 2, 3] rfl)
        · have b_6 := gn_ne (X := (Int32.toInt (((fma k) >>> ((nI kq) &&& 31)) &&& 1))) (C := 1) rfl (by decide) c_5
          refine lv_iconst (v := 1) hx hb dX9_belowOf_27 (by decide) ?_
          refine lv_iload_n hx hb dX9_belowOf_28 rfl (lv_at hl 0 rfl) ?_
          refine lv_ishl hx hb dX9_belowOf_29 ?_
          refine lv_goto (tgt := 34) hx hb dX9_belowOf_30 (by decide) ?_
          refine lv_ior hx hb dX9_belowOf_34 ?_
          refine lv_istore_n (lv' := [(2, .int (ac ||| (1 <<< ((nI k) &&& 31)))), (3, .int (nI k)), (0, .ref h0), (1, .int (nI kq))]) hx hb dX9_belowOf_35 rfl hl (by decide) rfl (fun ls hl => ?_)
          refine lv_iinc (v := (nI (k + 1))) (lv' := [(3, .int (nI (k + 1))), (2, .int (ac ||| (1 <<< ((nI k) &&& 31)))), (0, .ref h0), (1, .int (nI kq))]) hx hb dX9_belowOf_36 hl (k := 1) rfl (nI_add k 1) (by decide) rfl (fun ls hl => ?_)
          refine lv_goto (tgt := 4) hx hb dX9_belowOf_39 (by decide) ?_
          exact ih_2 (k + 1) (ac ||| (1 <<< ((nI k) &&& 31))) (by omega) (by rw [hac]; exact bits_t (t_1 (by omega) c_5)) (by omega) _ _ hP hS ls (lv_sub hl [0, 1, 2, 3] rfl)
  exact key_1 ((kn - 0) + 1) 0 0 (by omega) rfl (Nat.lt_succ_self _) _ _ hP hS ls (lv_sub hl [0, 1, 2, 3] rfl)
set_option maxHeartbeats 4000000 in
set_option maxRecDepth 100000 in
theorem m_bodyOf (l : Launch) (dC : Nat → ClassId) (dI : Nat → Nat → Nat) (sz : Nat) (kq : Nat) (nq : Nat)  : Met l yX9_bodyOf (wq yX9_bodyOf cX9_bodyOf 2 (some .int)) ({ frames := 0, cells := 0, slots := 0, locals := 0 }) (va_Pc [.int (nI kq), .int (nI nq)] (pcW dC dI [] [] sz)) (va_Qi (fun (r : Int32) (_ : Unit) => r = nI (8 * kq + nq)) (fun _ _ => True) (fun q : Nat => sz ≤ q)) 0 0 (fun q : Nat => sz ≤ q) := by
  refine Met.ofW (cc := cX9_bodyOf) (maxL := 2) (ret := (some .int)) (by decide) rfl ?_
  intro p e s m args below meth c s₁ B hml hv
  obtain ⟨rfl, hsz, hN, hP, hK, hD0⟩ := hv
  have hx := B.exec
  have hb := B.bytes
  have hr := B.returns
  have hts0 := atoms_spec (ws := (wq yX9_bodyOf cX9_bodyOf 2 (some .int))) B.pre
  have hts : ∀ w ∈ BG, w.before _ s = true := fun w h => hts0 w (List.mem_cons_of_mem _ h)
  have hown : s.vm.findClass RX9 = some m.cls := findClass_of_methodNamed B.named
  have hlocks := B.notSynchronized
  subst hsz
  have hA : ∀ q : Nat, s.heap.size ≤ q → (fun q : Nat => s.heap.size ≤ q) q := fun _ h => h
  have hD := hD0
  have hS : va_S (fun q : Nat => s.heap.size ≤ q) s.heap s.heap [] := va_S.rf
  have hP : va_P (dC, dI) vwCl [] s.heap := hP
  have hl := lv_entry ([.int (nI kq), .int (nI nq)]) (n := 2) (Nat.le_of_ble_eq_true rfl)
  rw [lg_entry_eq]
  generalize (lg_sl ([.int (nI kq), .int (nI nq)]) ++ List.replicate (2 - (lg_sl ([.int (nI kq), .int (nI nq)])).length) Slot.unset).toArray = ls at hl ⊢
  have hl : lv_has ls 2 [(0, .int (nI kq)), (1, .int (nI nq))] := hl
  refine lv_bipush (v := 8) hx hb dX9_bodyOf_0 (by decide) ?_
  refine lv_iload_n hx hb dX9_bodyOf_2 rfl (lv_at hl 0 rfl) ?_
  refine lv_imul hx hb dX9_bodyOf_3 ?_
  refine hx_top (y := (nI (8 * kq))) (pk_mul 8 kq) ?_
  refine lv_iload_n hx hb dX9_bodyOf_4 rfl (lv_at hl 1 rfl) ?_
  refine lv_iadd hx hb dX9_bodyOf_5 ?_
  refine hx_top (y := (nI ((8 * kq) + nq))) (nI_add (8 * kq) nq) ?_
  exact W.iret (v := (nI ((8 * kq) + nq))) hx hb hr (fun t ht hW => ⟨⟨(nI ((8 * kq) + nq)), (), rfl, rfl, trivial⟩, hS.F ht⟩) hS.2.2 dX9_bodyOf_6
set_option maxHeartbeats 4000000 in
set_option maxRecDepth 100000 in
theorem m_bare (l : Launch) (dC : Nat → ClassId) (dI : Nat → Nat → Nat) (sz : Nat) (h0 : Nat) (w0 : Value) (w1 : Value) (w2 : Value) (l7 : Nat) (kn : Nat) (w5 : Value) (w6 : Value) (w7 : Value) (w8 : Value) (w9 : Value) (w10 : Value) (w11 : Value) (w12 : Value) (w13 : Value) (w14 : Value) (w15 : Value) (w16 : Value) (w17 : Value) (w18 : Value) (w19 : Value) (w20 : Value) (w21 : Value) (w22 : Value) (w23 : Value) (w24 : Value) (w25 : Value) (w26 : Value) (w27 : Value) (w28 : Value) (w29 : Value) (w30 : Value) (w31 : Value) (w32 : Value) (w33 : Value) (w34 : Value) (kl7 : ClassId) (fib : Nat → Int32) (n1 : Int32) (n2 : Int32) (hkn : kn ≤ 10) : Met l yX9_bare (wq yX9_bare cX9_bare 4 (some .int)) ({ frames := 2, cells := 0, slots := 0, locals := 46 }) (va_Pc [.ref h0, .int n1, .int n2] (pcW dC dI [(kl7, .boolean)] [(h0, .inr (8, [w0, w1, w2, .ref l7, .int (nI kn), w5, w6, w7, w8, w9, w10, w11, w12, w13, w14, w15, w16, w17, w18, w19, w20, w21, w22, w23, w24, w25, w26, w27, w28, w29, w30, w31, w32, w33, w34])), (l7, .inl (kl7, 10, .inl fib))] sz)) (va_Qi (fun (r : Int32) (_ : Unit) => r = (FM_bare kn fib n1)) (fun _ t => ∃ (fib2 : Nat → Int32), (fib2 = MB_next kn fib n1 n2) ∧ va_P (dC, dI) vwCl [(h0, .inr (8, [w0, w1, w2, .ref l7, .int (nI kn), w5, w6, w7, w8, w9, w10, w11, w12, w13, w14, w15, w16, w17, w18, w19, w20, w21, w22, w23, w24, w25, w26, w27, w28, w29, w30, w31, w32, w33, w34])), (l7, .inl (kl7, 10, .inl fib2))] t.heap ∧ va_K (dC, dI) vwCl [(kl7, .boolean)] t ∧ va_D (va_A [(h0, .inr (8, [w0, w1, w2, .ref l7, .int (nI kn), w5, w6, w7, w8, w9, w10, w11, w12, w13, w14, w15, w16, w17, w18, w19, w20, w21, w22, w23, w24, w25, w26, w27, w28, w29, w30, w31, w32, w33, w34])), (l7, .inl (kl7, 10, .inl fib))] sz) [(h0, .inr (8, [w0, w1, w2, .ref l7, .int (nI kn), w5, w6, w7, w8, w9, w10, w11, w12, w13, w14, w15, w16, w17, w18, w19, w20, w21, w22, w23, w24, w25, w26, w27, w28, w29, w30, w31, w32, w33, w34])), (l7, .inl (kl7, 10, .inl fib2))]) (va_A [(h0, .inr (8, [w0, w1, w2, .ref l7, .int (nI kn), w5, w6, w7, w8, w9, w10, w11, w12, w13, w14, w15, w16, w17, w18, w19, w20, w21, w22, w23, w24, w25, w26, w27, w28, w29, w30, w31, w32, w33, w34])), (l7, .inl (kl7, 10, .inl fib))] sz)) 0 0 (va_A [(h0, .inr (8, [w0, w1, w2, .ref l7, .int (nI kn), w5, w6, w7, w8, w9, w10, w11, w12, w13, w14, w15, w16, w17, w18, w19, w20, w21, w22, w23, w24, w25, w26, w27, w28, w29, w30, w31, w32, w33, w34])), (l7, .inl (kl7, 10, .inl fib))] sz) := by
  refine Met.ofW (cc := cX9_bare) (maxL := 4) (ret := (some .int)) (by decide) rfl ?_
  intro p e s m args below meth c s₁ B hml hv
  obtain ⟨rfl, hsz, hN, hP, hK, hD0⟩ := hv
  have hx := B.exec
  have hb := B.bytes
  have hr := B.returns
  have hts0 := atoms_spec (ws := (wq yX9_bare cX9_bare 4 (some .int))) B.pre
  have hts : ∀ w ∈ BG, w.before _ s = true := fun w h => hts0 w (List.mem_cons_of_mem _ h)
  have hown : s.vm.findClass RX9 = some m.cls := findClass_of_methodNamed B.named
  have hlocks := B.notSynchronized
  subst hsz
  have hD := hD0.self (sz := s.heap.size)
  generalize hAe : va_A [(h0, .inr (8, [w0, w1, w2, .ref l7, .int (nI kn), w5, w6, w7, w8, w9, w10, w11, w12, w13, w14, w15, w16, w17, w18, w19, w20, w21, w22, w23, w24, w25, w26, w27, w28, w29, w30, w31, w32, w33, w34])), (l7, .inl (kl7, 10, .inl fib))] s.heap.size = A at hD ⊢
  have hA : ∀ q : Nat, s.heap.size ≤ q → A q := fun q h => by rw [← hAe]; exact Or.inr h
  have hS : va_S A s.heap s.heap [] := va_S.rf
  clear hAe hD0
  have hP : va_P (dC, dI) vwCl [(h0, .inr (8, [w0, w1, w2, .ref l7, .int (nI kn), w5, w6, w7, w8, w9, w10, w11, w12, w13, w14, w15, w16, w17, w18, w19, w20, w21, w22, w23, w24, w25, w26, w27, w28, w29, w30, w31, w32, w33, w34])), (l7, .inl (kl7, 10, .inl fib))] s.heap := hP
  have hl := lv_entry ([.ref h0, .int n1, .int n2]) (n := 4) (Nat.le_of_ble_eq_true rfl)
  rw [lg_entry_eq]
  generalize (lg_sl ([.ref h0, .int n1, .int n2]) ++ List.replicate (4 - (lg_sl ([.ref h0, .int n1, .int n2])).length) Slot.unset).toArray = ls at hl ⊢
  have hl : lv_has ls 4 [(0, .ref h0), (1, .int n1), (2, .int n2)] := hl
  refine lv_aload_n hx hb dX9_bare_0 rfl (lv_at hl 0 rfl) ?_
  refine lv_iload_n hx hb dX9_bare_1 rfl (lv_at hl 1 rfl) ?_
  have hPc := hP.sub (ws' := [(h0, .inr (8, [w0, w1, w2, .ref l7, .int (nI kn), w5, w6, w7, w8, w9, w10, w11, w12, w13, w14, w15, w16, w17, w18, w19, w20, w21, w22, w23, w24, w25, w26, w27, w28, w29, w30, w31, w32, w33, w34]))]) [0] rfl
  have hDc := hD.sub (ws' := [(h0, .inr (8, [w0, w1, w2, .ref l7, .int (nI kn), w5, w6, w7, w8, w9, w10, w11, w12, w13, w14, w15, w16, w17, w18, w19, w20, w21, w22, w23, w24, w25, w26, w27, w28, w29, w30, w31, w32, w33, w34]))]) [0] (by decide) rfl
  have hKc := hK.sub (tys' := []) [] rfl
  refine va_calli (va_runV (As := [.int n1]) (rest := []) ⟨hx, hb, hml, hown, hts⟩ (m_isKind l dC dI s.heap.size h0 (w0) (w1) (w2) (.ref l7) kn (w5) (w6) (w7) (w8) (w9) (w10) (w11) (w12) (w13) (w14) (w15) (w16) (w17) (w18) (w19) (w20) (w21) (w22) (w23) (w24) (w25) (w26) (w27) (w28) (w29) (w30) (w31) (w32) (w33) (w34) n1 hkn) (cwV 1 hts (gV mw_4_53 mw_4_55 mw_0_15 mw_1_9 mw_4_56) rfl rfl rfl (by decide +kernel) ⟨Nat.le_of_ble_eq_true rfl, Nat.le_of_ble_eq_true rfl⟩) ⟨pcW_blind, va_recv hKc hPc (ci := 8) (q0 := 0) rfl rfl, pcW_at hPc hKc hDc hN⟩ rfl rfl hl.1 rfl (lv_room (Nat.le_of_ble_eq_true rfl)) dX9_bare_2 ⟨Nat.le_of_ble_eq_true rfl, Nat.le_of_ble_eq_true rfl⟩) hS (fun q h1 h2 => absurd h2 (Nat.not_le.mpr h1)) (fun q h => hA q (Nat.le_trans hS.1 h)) (fun r_1 u t H1 locs ht hvm hw_1 hB hz1 hk1 hS => ?_)
  have hP := keepP hP hk1
  clear hz1 hk1 hB ht hvm hPc hDc hKc
  generalize H1 = H at hP hS ⊢
  rcases fx_bool hw_1 with ⟨rfl, b_2⟩ | ⟨rfl, b_2⟩
  · skip
    refine lv_if_ne (tgt := 10) hx hb dX9_bare_5 (by decide) (fun _ => ?_) (fun h => absurd h (by decide))
    obtain ⟨j_3, tj_3, ej_3⟩ := fx_nat (x := n1) (by omega)
    subst ej_3
    have yj_3 : Int32.toInt (nI j_3) = (j_3 : Int) := nI_toInt tj_3
    refine lv_aload_n hx hb dX9_bare_10 rfl (lv_at hl 0 rfl) ?_
    refine va_get (D := (dC, dI)) (ci := 8) (v := .ref l7) (C := RX9) (T := TX9) (N := 35) hx hb hts inB_9 hown hK hP 0 rfl rfl 3 (by decide) (hts _ mw_3_185) (fun _ h9 => h9) rfl dX9_bare_11 ?_
    refine lv_iload_n hx hb dX9_bare_14 rfl (lv_at hl 1 rfl) ?_
    refine va_zald hx hb hK hP 1 0 rfl rfl (show vp_in (nI j_3) 10 from vp_in_nI (by omega) (by omega)) dX9_bare_15 ?_
    refine hx_top (y := (fib j_3)) (congrArg _ (nI_clamp (by omega))) ?_
    refine lv_if_eq (tgt := 23) hx hb dX9_bare_16 (by decide) (fun c_4 => ?_) (fun c_4 => ?_)
    · have b_5 := gx_eq (X := (Int32.toInt (fib j_3))) (C := 0) rfl (by decide) c_4
      refine lv_iconst (v := 0) hx hb dX9_bare_23 (by decide) ?_
      refine lv_istore_n (lv' := [(3, .int 0), (0, .ref h0), (1, .int (nI j_3)), (2, .int n2)]) hx hb dX9_bare_24 rfl hl (by decide) rfl (fun ls hl => ?_)
      refine lv_aload_n hx hb dX9_bare_25 rfl (lv_at hl 1 rfl) ?_
      refine va_get (D := (dC, dI)) (ci := 8) (v := .ref l7) (C := RX9) (T := TX9) (N := 35) hx hb hts inB_9 hown hK hP 0 rfl rfl 3 (by decide) (hts _ mw_3_185) (fun _ h9 => h9) rfl dX9_bare_26 ?_
      refine lv_iload_n hx hb dX9_bare_29 rfl (lv_at hl 2 rfl) ?_
      refine lv_iload_n hx hb dX9_bare_30 rfl (lv_at hl 3 rfl) ?_
      refine va_zast hx hb hK hP hD hS 1 0 rfl rfl (show vp_in (nI j_3) 10 from vp_in_nI (by omega) (by omega)) dX9_bare_31 (fun H locs hP hD hS => ?_)
      obtain ⟨f_6, ef_6⟩ : ∃ g : Nat → Int32, g = upd fib (Int32.toNatClampNeg (nI j_3)) (vp_nar .boolean n2) := ⟨_, rfl⟩
      rw [← ef_6] at hP hD
      have ef_6 : f_6 = upd fib j_3 (vp_nar .boolean n2) := by rw [ef_6, nI_clamp (by omega)]
      have hP : va_P (dC, dI) vwCl [(h0, .inr (8, [w0, w1, w2, .ref l7, .int (nI kn), w5, w6, w7, w8, w9, w10, w11, w12, w13, w14, w15, w16, w17, w18, w19, w20, w21, w22, w23, w24, w25, w26, w27, w28, w29, w30, w31, w32, w33, w34])), (l7, .inl (kl7, 10, .inl f_6))] H := hP
      have hD : va_D A [(h0, .inr (8, [w0, w1, w2, .ref l7, .int (nI kn), w5, w6, w7, w8, w9, w10, w11, w12, w13, w14, w15, w16, w17, w18, w19, w20, w21, w22, w23, w24, w25, w26, w27, w28, w29, w30, w31, w32, w33, w34])), (l7, .inl (kl7, 10, .inl f_6))] := hD
      refine lv_iload_n hx hb dX9_bare_32 rfl (lv_at hl 0 rfl) ?_
      have hP9 := hP.sub (ws' := [(h0, .inr (8, [w0, w1, w2, .ref l7, .int (nI kn), w5, w6, w7, w8, w9, w10, w11, w12, w13, w14, w15, w16, w17, w18, w19, w20, w21, w22, w23, w24, w25, w26, w27, w28, w29, w30, w31, w32, w33, w34])), (l7, .inl (kl7, 10, .inl f_6))]) [0, 1] rfl
      have hD9 := hD.sub (ws' := [(h0, .inr (8, [w0, w1, w2, .ref l7, .int (nI kn), w5, w6, w7, w8, w9, w10, w11, w12, w13, w14, w15, w16, w17, w18, w19, w20, w21, w22, w23, w24, w25, w26, w27, w28, w29, w30, w31, w32, w33, w34])), (l7, .inl (kl7, 10, .inl f_6))]) [0, 1] (by decide) rfl
      have hK9 := hK.sub (tys' := [(kl7, .boolean)]) [0] rfl
      exact W.iret (v := 0) hx hb hr (fun t ht hW => ⟨⟨0, (), rfl, (by unfold FM_bare; rw [if_pos (by omega), nI_clamp (by omega), if_pos c_4]), f_6, (by unfold MB_next; rw [if_pos (by omega), nI_clamp (by omega)]; exact ef_6), by rw [ht]; exact hP9, va_K.moved hW.alike hK9, hD9⟩, hS.F ht⟩) hS.2.2 dX9_bare_33
    · have b_5 := gn_eq (X := (Int32.toInt (fib j_3))) (C := 0) rfl (by decide) c_4
      refine lv_iconst (v := 1) hx hb dX9_bare_19 (by decide) ?_
      refine lv_goto (tgt := 24) hx hb dX9_bare_20 (by decide) ?_
      refine lv_istore_n (lv' := [(3, .int 1), (0, .ref h0), (1, .int (nI j_3)), (2, .int n2)]) hx hb dX9_bare_24 rfl hl (by decide) rfl (fun ls hl => ?_)
      refine lv_aload_n hx hb dX9_bare_25 rfl (lv_at hl 1 rfl) ?_
      refine va_get (D := (dC, dI)) (ci := 8) (v := .ref l7) (C := RX9) (T := TX9) (N := 35) hx hb hts inB_9 hown hK hP 0 rfl rfl 3 (by decide) (hts _ mw_3_185) (fun _ h9 => h9) rfl dX9_bare_26 ?_
      refine lv_iload_n hx hb dX9_bare_29 rfl (lv_at hl 2 rfl) ?_
      refine lv_iload_n hx hb dX9_bare_30 rfl (lv_at hl 3 rfl) ?_
      refine va_zast hx hb hK hP hD hS 1 0 rfl rfl (show vp_in (nI j_3) 10 from vp_in_nI (by omega) (by omega)) dX9_bare_31 (fun H locs hP hD hS => ?_)
      obtain ⟨f_7, ef_7⟩ : ∃ g : Nat → Int32, g = upd fib (Int32.toNatClampNeg (nI j_3)) (vp_nar .boolean n2) := ⟨_, rfl⟩
      rw [← ef_7] at hP hD
      have ef_7 : f_7 = upd fib j_3 (vp_nar .boolean n2) := by rw [ef_7, nI_clamp (by omega)]
      have hP : va_P (dC, dI) vwCl [(h0, .inr (8, [w0, w1, w2, .ref l7, .int (nI kn), w5, w6, w7, w8, w9, w10, w11, w12, w13, w14, w15, w16, w17, w18, w19, w20, w21, w22, w23, w24, w25, w26, w27, w28, w29, w30, w31, w32, w33, w34])), (l7, .inl (kl7, 10, .inl f_7))] H := hP
      have hD : va_D A [(h0, .inr (8, [w0, w1, w2, .ref l7, .int (nI kn), w5, w6, w7, w8, w9, w10, w11, w12, w13, w14, w15, w16, w17, w18, w19, w20, w21, w22, w23, w24, w25, w26, w27, w28, w29, w30, w31, w32, w33, w34])), (l7, .inl (kl7, 10, .inl f_7))] := hD
      refine lv_iload_n hx hb dX9_bare_32 rfl (lv_at hl 0 rfl) ?_
      have hP9 := hP.sub (ws' := [(h0, .inr (8, [w0, w1, w2, .ref l7, .int (nI kn), w5, w6, w7, w8, w9, w10, w11, w12, w13, w14, w15, w16, w17, w18, w19, w20, w21, w22, w23, w24, w25, w26, w27, w28, w29, w30, w31, w32, w33, w34])), (l7, .inl (kl7, 10, .inl f_7))]) [0, 1] rfl
      have hD9 := hD.sub (ws' := [(h0, .inr (8, [w0, w1, w2, .ref l7, .int (nI kn), w5, w6, w7, w8, w9, w10, w11, w12, w13, w14, w15, w16, w17, w18, w19, w20, w21, w22, w23, w24, w25, w26, w27, w28, w29, w30, w31, w32, w33, w34])), (l7, .inl (kl7, 10, .inl f_7))]) [0, 1] (by decide) rfl
      have hK9 := hK.sub (tys' := [(kl7, .boolean)]) [0] rfl
      exact W.iret (v := 1) hx hb hr (fun t ht hW => ⟨⟨1, (), rfl, (by unfold FM_bare; rw [if_pos (by omega), nI_clamp (by omega), if_neg c_4]), f_7, (by unfold MB_next; rw [if_pos (by omega), nI_clamp (by omega)]; exact ef_7), by rw [ht]; exact hP9, va_K.moved hW.alike hK9, hD9⟩, hS.F ht⟩) hS.2.2 dX9_bare_33
  · skip
    refine lv_if_ne (tgt := 10) hx hb dX9_bare_5 (by decide) (fun h => absurd h (by decide)) (fun _ => ?_)
    refine lv_iconst (v := (-1)) hx hb dX9_bare_8 (by decide) ?_
    have hP9 := hP.sub (ws' := [(h0, .inr (8, [w0, w1, w2, .ref l7, .int (nI kn), w5, w6, w7, w8, w9, w10, w11, w12, w13, w14, w15, w16, w17, w18, w19, w20, w21, w22, w23, w24, w25, w26, w27, w28, w29, w30, w31, w32, w33, w34])), (l7, .inl (kl7, 10, .inl fib))]) [0, 1] rfl
    have hD9 := hD.sub (ws' := [(h0, .inr (8, [w0, w1, w2, .ref l7, .int (nI kn), w5, w6, w7, w8, w9, w10, w11, w12, w13, w14, w15, w16, w17, w18, w19, w20, w21, w22, w23, w24, w25, w26, w27, w28, w29, w30, w31, w32, w33, w34])), (l7, .inl (kl7, 10, .inl fib))]) [0, 1] (by decide) rfl
    have hK9 := hK.sub (tys' := [(kl7, .boolean)]) [0] rfl
    exact W.iret (v := (-1)) hx hb hr (fun t ht hW => ⟨⟨(-1), (), rfl, (by (unfold FM_bare; repeat' split) <;> first | rfl | (exfalso; omega)), fib, (show fib = MB_next kn fib n1 n2 from by unfold MB_next; rw [if_neg (by omega)]), by rw [ht]; exact hP9, va_K.moved hW.alike hK9, hD9⟩, hS.F ht⟩) hS.2.2 dX9_bare_9
set_option maxHeartbeats 4000000 in
set_option maxRecDepth 100000 in
theorem m_of (l : Launch) (dC : Nat → ClassId) (dI : Nat → Nat → Nat) (sz : Nat) (h0 : Nat) (w0 : Value) (w1 : Value) (l6 : Nat) (w3 : Value) (kn : Nat) (w5 : Value) (w6 : Value) (w7 : Value) (w8 : Value) (w9 : Value) (w10 : Value) (w11 : Value) (w12 : Value) (w13 : Value) (w14 : Value) (w15 : Value) (w16 : Value) (w17 : Value) (w18 : Value) (w19 : Value) (w20 : Value) (w21 : Value) (w22 : Value) (w23 : Value) (w24 : Value) (w25 : Value) (w26 : Value) (w27 : Value) (w28 : Value) (w29 : Value) (w30 : Value) (w31 : Value) (w32 : Value) (w33 : Value) (w34 : Value) (kl6 : ClassId) (fma : Nat → Int32) (n1 : Int32) (n2 : Int32) (hkn : kn ≤ 10) : Met l yX9_of (wq yX9_of cX9_of 3 (some .int)) ({ frames := 2, cells := 0, slots := 0, locals := 46 }) (va_Pc [.ref h0, .int n1, .int n2] (pcW dC dI [(kl6, .int)] [(h0, .inr (8, [w0, w1, .ref l6, w3, .int (nI kn), w5, w6, w7, w8, w9, w10, w11, w12, w13, w14, w15, w16, w17, w18, w19, w20, w21, w22, w23, w24, w25, w26, w27, w28, w29, w30, w31, w32, w33, w34])), (l6, .inl (kl6, 10, .inl fma))] sz)) (va_Qi (fun (r : Int32) (_ : Unit) => r = (F_of kn (fma n1.toNatClampNeg) (blF fma kn n1.toNatClampNeg) n1 n2)) (fun _ _ => True) (fun q : Nat => sz ≤ q)) 0 0 (fun q : Nat => sz ≤ q) := by
  refine Met.ofW (cc := cX9_of) (maxL := 3) (ret := (some .int)) (by decide) rfl ?_
  intro p e s m args below meth c s₁ B hml hv
  obtain ⟨rfl, hsz, hN, hP, hK, hD0⟩ := hv
  have hx := B.exec
  have hb := B.bytes
  have hr := B.returns
  have hts0 := atoms_spec (ws := (wq yX9_of cX9_of 3 (some .int))) B.pre
  have hts : ∀ w ∈ BG, w.before _ s = true := fun w h => hts0 w (List.mem_cons_of_mem _ h)
  have hown : s.vm.findClass RX9 = some m.cls := findClass_of_methodNamed B.named
  have hlocks := B.notSynchronized
  subst hsz
  have hA : ∀ q : Nat, s.heap.size ≤ q → (fun q : Nat => s.heap.size ≤ q) q := fun _ h => h
  have hD := hD0
  have hS : va_S (fun q : Nat => s.heap.size ≤ q) s.heap s.heap [] := va_S.rf
  have hP : va_P (dC, dI) vwCl [(h0, .inr (8, [w0, w1, .ref l6, w3, .int (nI kn), w5, w6, w7, w8, w9, w10, w11, w12, w13, w14, w15, w16, w17, w18, w19, w20, w21, w22, w23, w24, w25, w26, w27, w28, w29, w30, w31, w32, w33, w34])), (l6, .inl (kl6, 10, .inl fma))] s.heap := hP
  have hl := lv_entry ([.ref h0, .int n1, .int n2]) (n := 3) (Nat.le_of_ble_eq_true rfl)
  rw [lg_entry_eq]
  generalize (lg_sl ([.ref h0, .int n1, .int n2]) ++ List.replicate (3 - (lg_sl ([.ref h0, .int n1, .int n2])).length) Slot.unset).toArray = ls at hl ⊢
  have hl : lv_has ls 3 [(0, .ref h0), (1, .int n1), (2, .int n2)] := hl
  refine lv_aload_n hx hb dX9_of_0 rfl (lv_at hl 0 rfl) ?_
  refine lv_iload_n hx hb dX9_of_1 rfl (lv_at hl 1 rfl) ?_
  have hPc := hP.sub (ws' := [(h0, .inr (8, [w0, w1, .ref l6, w3, .int (nI kn), w5, w6, w7, w8, w9, w10, w11, w12, w13, w14, w15, w16, w17, w18, w19, w20, w21, w22, w23, w24, w25, w26, w27, w28, w29, w30, w31, w32, w33, w34]))]) [0] rfl
  have hDc := hD.sub (ws' := [(h0, .inr (8, [w0, w1, .ref l6, w3, .int (nI kn), w5, w6, w7, w8, w9, w10, w11, w12, w13, w14, w15, w16, w17, w18, w19, w20, w21, w22, w23, w24, w25, w26, w27, w28, w29, w30, w31, w32, w33, w34]))]) [0] (by decide) rfl
  have hKc := hK.sub (tys' := []) [] rfl
  refine va_calli (va_runV (As := [.int n1]) (rest := []) ⟨hx, hb, hml, hown, hts⟩ (m_isKind l dC dI s.heap.size h0 (w0) (w1) (.ref l6) (w3) kn (w5) (w6) (w7) (w8) (w9) (w10) (w11) (w12) (w13) (w14) (w15) (w16) (w17) (w18) (w19) (w20) (w21) (w22) (w23) (w24) (w25) (w26) (w27) (w28) (w29) (w30) (w31) (w32) (w33) (w34) n1 hkn) (cwV 1 hts (gV mw_4_53 mw_4_55 mw_0_15 mw_1_9 mw_4_56) rfl rfl rfl (by decide +kernel) ⟨Nat.le_of_ble_eq_true rfl, Nat.le_of_ble_eq_true rfl⟩) ⟨pcW_blind, va_recv hKc hPc (ci := 8) (q0 := 0) rfl rfl, pcW_at hPc hKc hDc hN⟩ rfl rfl hl.1 rfl (lv_room (Nat.le_of_ble_eq_true rfl)) dX9_of_2 ⟨Nat.le_of_ble_eq_true rfl, Nat.le_of_ble_eq_true rfl⟩) hS (fun q h1 h2 => absurd h2 (Nat.not_le.mpr h1)) (fun q h => hA q (Nat.le_trans hS.1 h)) (fun r_1 u t H1 locs ht hvm hw_1 hB hz1 hk1 hS => ?_)
  have hP := keepP hP hk1
  clear hz1 hk1 hB ht hvm hPc hDc hKc
  generalize H1 = H at hP hS ⊢
  rcases fx_bool hw_1 with ⟨rfl, b_2⟩ | ⟨rfl, b_2⟩
  · skip
    refine lv_if_ne (tgt := 10) hx hb dX9_of_5 (by decide) (fun _ => ?_) (fun h => absurd h (by decide))
    obtain ⟨j_3, tj_3, ej_3⟩ := fx_nat (x := n1) (by omega)
    subst ej_3
    have yj_3 : Int32.toInt (nI j_3) = (j_3 : Int) := nI_toInt tj_3
    refine lv_iload_n hx hb dX9_of_10 rfl (lv_at hl 2 rfl) ?_
    refine lv_if_ne (tgt := 23) hx hb dX9_of_11 (by decide) (fun c_4 => ?_) (fun c_4 => ?_)
    · have b_5 := gx_ne (X := (Int32.toInt n2)) (C := 0) rfl (by decide) c_4
      refine lv_iload_n hx hb dX9_of_23 rfl (lv_at hl 2 rfl) ?_
      refine lv_iconst (v := 1) hx hb dX9_of_24 (by decide) ?_
      refine lv_icmp_ne (tgt := 36) hx hb dX9_of_25 (by decide) (fun c_6 => ?_) (fun c_6 => ?_)
      · have b_7 := gx_ne (X := (Int32.toInt n2)) (C := 1) rfl (by decide) c_6
        refine lv_bipush (v := (-2)) hx hb dX9_of_36 (by decide) ?_
        exact W.iret (v := (-2)) hx hb hr (fun t ht hW => ⟨⟨(-2), (), rfl, (by unfold F_of; rw [if_pos (by omega), if_neg (by omega), if_neg (by omega)]), trivial⟩, hS.F ht⟩) hS.2.2 dX9_of_38
      · have b_7 := gn_ne (X := (Int32.toInt n2)) (C := 1) rfl (by decide) c_6
        refine lv_aload_n hx hb dX9_of_28 rfl (lv_at hl 0 rfl) ?_
        refine lv_iload_n hx hb dX9_of_29 rfl (lv_at hl 1 rfl) ?_
        have hPc := hP.sub (ws' := [(h0, .inr (8, [w0, w1, .ref l6, w3, .int (nI kn), w5, w6, w7, w8, w9, w10, w11, w12, w13, w14, w15, w16, w17, w18, w19, w20, w21, w22, w23, w24, w25, w26, w27, w28, w29, w30, w31, w32, w33, w34])), (l6, .inl (kl6, 10, .inl fma))]) [0, 1] rfl
        have hDc := hD.sub (ws' := [(h0, .inr (8, [w0, w1, .ref l6, w3, .int (nI kn), w5, w6, w7, w8, w9, w10, w11, w12, w13, w14, w15, w16, w17, w18, w19, w20, w21, w22, w23, w24, w25, w26, w27, w28, w29, w30, w31, w32, w33, w34])), (l6, .inl (kl6, 10, .inl fma))]) [0, 1] (by decide) rfl
        have hKc := hK.sub (tys' := [(kl6, .int)]) [0] rfl
        refine va_calli (va_runV (As := [.int (nI j_3)]) (rest := []) ⟨hx, hb, hml, hown, hts⟩ (m_belowOf l dC dI H.size h0 (w0) (w1) l6 (w3) kn (w5) (w6) (w7) (w8) (w9) (w10) (w11) (w12) (w13) (w14) (w15) (w16) (w17) (w18) (w19) (w20) (w21) (w22) (w23) (w24) (w25) (w26) (w27) (w28) (w29) (w30) (w31) (w32) (w33) (w34) kl6 fma j_3 hkn (by omega)) (cwV 1 hts (gV mw_4_81 mw_4_83 mw_0_19 mw_1_9 mw_4_84) rfl rfl rfl (by decide +kernel) ⟨Nat.le_of_ble_eq_true rfl, Nat.le_of_ble_eq_true rfl⟩) ⟨pcW_blind, va_recv hKc hPc (ci := 8) (q0 := 0) rfl rfl, pcW_at hPc hKc hDc hN⟩ rfl rfl hl.1 rfl (lv_room (Nat.le_of_ble_eq_true rfl)) dX9_of_30 ⟨Nat.le_of_ble_eq_true rfl, Nat.le_of_ble_eq_true rfl⟩) hS (fun q h1 h2 => absurd h2 (Nat.not_le.mpr h1)) (fun q h => hA q (Nat.le_trans hS.1 h)) (fun r_8 u t H1 locs ht hvm hw_8 hB hz1 hk1 hS => ?_)
        have hP := keepP hP hk1
        clear hz1 hk1 hB ht hvm hPc hDc hKc
        generalize H1 = H at hP hS ⊢
        obtain rfl : r_8 = (blF fma kn j_3) := hw_8
        refine lv_goto (tgt := 38) hx hb dX9_of_33 (by decide) ?_
        exact W.iret (v := (blF fma kn j_3)) hx hb hr (fun t ht hW => ⟨⟨(blF fma kn j_3), (), rfl, (by unfold F_of; rw [if_pos (by omega), if_neg (by omega), if_pos (by omega), nI_clamp (by omega)]), trivial⟩, hS.F ht⟩) hS.2.2 dX9_of_38
    · have b_5 := gn_ne (X := (Int32.toInt n2)) (C := 0) rfl (by decide) c_4
      refine lv_aload_n hx hb dX9_of_14 rfl (lv_at hl 0 rfl) ?_
      refine va_get (D := (dC, dI)) (ci := 8) (v := .ref l6) (C := RX9) (T := TX9) (N := 35) hx hb hts inB_9 hown hK hP 0 rfl rfl 2 (by decide) (hts _ mw_3_184) (fun _ h9 => h9) rfl dX9_of_15 ?_
      refine lv_iload_n hx hb dX9_of_18 rfl (lv_at hl 1 rfl) ?_
      refine va_iald hx hb hK hP 1 0 rfl rfl (show vp_in (nI j_3) 10 from vp_in_nI (by omega) (by omega)) dX9_of_19 ?_
      refine hx_top (y := (fma j_3)) (congrArg _ (nI_clamp (by omega))) ?_
      refine lv_goto (tgt := 38) hx hb dX9_of_20 (by decide) ?_
      exact W.iret (v := (fma j_3)) hx hb hr (fun t ht hW => ⟨⟨(fma j_3), (), rfl, (by unfold F_of; rw [if_pos (by omega), if_pos (by omega), nI_clamp (by omega)]), trivial⟩, hS.F ht⟩) hS.2.2 dX9_of_38
  · skip
    refine lv_if_ne (tgt := 10) hx hb dX9_of_5 (by decide) (fun h => absurd h (by decide)) (fun _ => ?_)
    refine lv_iconst (v := (-1)) hx hb dX9_of_8 (by decide) ?_
    exact W.iret (v := (-1)) hx hb hr (fun t ht hW => ⟨⟨(-1), (), rfl, (by unfold F_of; rw [if_neg (by omega)]), trivial⟩, hS.F ht⟩) hS.2.2 dX9_of_9
set_option maxHeartbeats 4000000 in
set_option maxRecDepth 100000 in
theorem m_quarrel (l : Launch) (dC : Nat → ClassId) (dI : Nat → Nat → Nat) (sz : Nat) (h0 : Nat) (w0 : Value) (w1 : Value) (w2 : Value) (w3 : Value) (kn : Nat) (w5 : Value) (l1 : Nat) (l2 : Nat) (w8 : Value) (w9 : Value) (w10 : Value) (w11 : Value) (w12 : Value) (w13 : Value) (w14 : Value) (w15 : Value) (w16 : Value) (w17 : Value) (w18 : Value) (w19 : Value) (w20 : Value) (w21 : Value) (w22 : Value) (w23 : Value) (w24 : Value) (w25 : Value) (w26 : Value) (w27 : Value) (w28 : Value) (w29 : Value) (w30 : Value) (w31 : Value) (w32 : Value) (w33 : Value) (w34 : Value) (kl1 : ClassId) (fll : Nat → Int32) (kl2 : ClassId) (fmq : Nat → Int32) (n1 : Int32) (hkn : kn ≤ 10) (hll : BdOk 10 10 fll) : Met l yX9_quarrel (wq yX9_quarrel cX9_quarrel 2 (some .int)) ({ frames := 2, cells := 0, slots := 0, locals := 46 }) (va_Pc [.ref h0, .int n1] (pcW dC dI [(kl1, .int), (kl2, .int)] [(h0, .inr (8, [w0, w1, w2, w3, .int (nI kn), w5, .ref l1, .ref l2, w8, w9, w10, w11, w12, w13, w14, w15, w16, w17, w18, w19, w20, w21, w22, w23, w24, w25, w26, w27, w28, w29, w30, w31, w32, w33, w34])), (l1, .inl (kl1, 10, .inl fll)), (l2, .inl (kl2, 10, .inl fmq))] sz)) (va_Qi (fun (r : Int32) (_ : Unit) => r = F_q kn (if 0 < (fll n1.toNatClampNeg).toNatClampNeg then -6 else fmq n1.toNatClampNeg) n1) (fun _ _ => True) (fun q : Nat => sz ≤ q)) 0 0 (fun q : Nat => sz ≤ q) := by
  refine Met.ofW (cc := cX9_quarrel) (maxL := 2) (ret := (some .int)) (by decide) rfl ?_
  intro p e s m args below meth c s₁ B hml hv
  obtain ⟨rfl, hsz, hN, hP, hK, hD0⟩ := hv
  have hx := B.exec
  have hb := B.bytes
  have hr := B.returns
  have hts0 := atoms_spec (ws := (wq yX9_quarrel cX9_quarrel 2 (some .int))) B.pre
  have hts : ∀ w ∈ BG, w.before _ s = true := fun w h => hts0 w (List.mem_cons_of_mem _ h)
  have hown : s.vm.findClass RX9 = some m.cls := findClass_of_methodNamed B.named
  have hlocks := B.notSynchronized
  subst hsz
  have hA : ∀ q : Nat, s.heap.size ≤ q → (fun q : Nat => s.heap.size ≤ q) q := fun _ h => h
  have hD := hD0
  have hS : va_S (fun q : Nat => s.heap.size ≤ q) s.heap s.heap [] := va_S.rf
  have hP : va_P (dC, dI) vwCl [(h0, .inr (8, [w0, w1, w2, w3, .int (nI kn), w5, .ref l1, .ref l2, w8, w9, w10, w11, w12, w13, w14, w15, w16, w17, w18, w19, w20, w21, w22, w23, w24, w25, w26, w27, w28, w29, w30, w31, w32, w33, w34])), (l1, .inl (kl1, 10, .inl fll)), (l2, .inl (kl2, 10, .inl fmq))] s.heap := hP
  have hl := lv_entry ([.ref h0, .int n1]) (n := 2) (Nat.le_of_ble_eq_true rfl)
  rw [lg_entry_eq]
  generalize (lg_sl ([.ref h0, .int n1]) ++ List.replicate (2 - (lg_sl ([.ref h0, .int n1])).length) Slot.unset).toArray = ls at hl ⊢
  have hl : lv_has ls 2 [(0, .ref h0), (1, .int n1)] := hl
  refine lv_aload_n hx hb dX9_quarrel_0 rfl (lv_at hl 0 rfl) ?_
  refine lv_iload_n hx hb dX9_quarrel_1 rfl (lv_at hl 1 rfl) ?_
  have hPc := hP.sub (ws' := [(h0, .inr (8, [w0, w1, w2, w3, .int (nI kn), w5, .ref l1, .ref l2, w8, w9, w10, w11, w12, w13, w14, w15, w16, w17, w18, w19, w20, w21, w22, w23, w24, w25, w26, w27, w28, w29, w30, w31, w32, w33, w34]))]) [0] rfl
  have hDc := hD.sub (ws' := [(h0, .inr (8, [w0, w1, w2, w3, .int (nI kn), w5, .ref l1, .ref l2, w8, w9, w10, w11, w12, w13, w14, w15, w16, w17, w18, w19, w20, w21, w22, w23, w24, w25, w26, w27, w28, w29, w30, w31, w32, w33, w34]))]) [0] (by decide) rfl
  have hKc := hK.sub (tys' := []) [] rfl
  refine va_calli (va_runV (As := [.int n1]) (rest := []) ⟨hx, hb, hml, hown, hts⟩ (m_isKind l dC dI s.heap.size h0 (w0) (w1) (w2) (w3) kn (w5) (.ref l1) (.ref l2) (w8) (w9) (w10) (w11) (w12) (w13) (w14) (w15) (w16) (w17) (w18) (w19) (w20) (w21) (w22) (w23) (w24) (w25) (w26) (w27) (w28) (w29) (w30) (w31) (w32) (w33) (w34) n1 hkn) (cwV 1 hts (gV mw_4_53 mw_4_55 mw_0_15 mw_1_9 mw_4_56) rfl rfl rfl (by decide +kernel) ⟨Nat.le_of_ble_eq_true rfl, Nat.le_of_ble_eq_true rfl⟩) ⟨pcW_blind, va_recv hKc hPc (ci := 8) (q0 := 0) rfl rfl, pcW_at hPc hKc hDc hN⟩ rfl rfl hl.1 rfl (lv_room (Nat.le_of_ble_eq_true rfl)) dX9_quarrel_2 ⟨Nat.le_of_ble_eq_true rfl, Nat.le_of_ble_eq_true rfl⟩) hS (fun q h1 h2 => absurd h2 (Nat.not_le.mpr h1)) (fun q h => hA q (Nat.le_trans hS.1 h)) (fun r_1 u t H1 locs ht hvm hw_1 hB hz1 hk1 hS => ?_)
  have hP := keepP hP hk1
  clear hz1 hk1 hB ht hvm hPc hDc hKc
  generalize H1 = H at hP hS ⊢
  rcases fx_bool hw_1 with ⟨rfl, b_2⟩ | ⟨rfl, b_2⟩
  · skip
    refine lv_if_ne (tgt := 10) hx hb dX9_quarrel_5 (by decide) (fun _ => ?_) (fun h => absurd h (by decide))
    obtain ⟨j_3, tj_3, ej_3⟩ := fx_nat (x := n1) (by omega)
    subst ej_3
    have yj_3 : Int32.toInt (nI j_3) = (j_3 : Int) := nI_toInt tj_3
    refine lv_aload_n hx hb dX9_quarrel_10 rfl (lv_at hl 0 rfl) ?_
    refine va_get (D := (dC, dI)) (ci := 8) (v := .ref l1) (C := RX9) (T := TX9) (N := 35) hx hb hts inB_9 hown hK hP 0 rfl rfl 6 (by decide) (hts _ mw_3_188) (fun _ h9 => h9) rfl dX9_quarrel_11 ?_
    refine lv_iload_n hx hb dX9_quarrel_14 rfl (lv_at hl 1 rfl) ?_
    refine va_iald hx hb hK hP 1 0 rfl rfl (show vp_in (nI j_3) 10 from vp_in_nI (by omega) (by omega)) dX9_quarrel_15 ?_
    refine hx_top (y := (fll j_3)) (congrArg _ (nI_clamp (by omega))) ?_
    obtain ⟨n_4, hn_4, en_4⟩ := hll j_3 (by omega)
    refine hx_top (y := (nI n_4)) en_4 ?_
    refine lv_if_le (tgt := 24) hx hb dX9_quarrel_16 (by decide) (fun c_5 => ?_) (fun c_5 => ?_)
    · have b_6 := gx_le (X := ((n_4 : Nat) : Int)) (C := 0) (nI_toInt (by omega)) (by decide) c_5
      refine lv_aload_n hx hb dX9_quarrel_24 rfl (lv_at hl 0 rfl) ?_
      refine va_get (D := (dC, dI)) (ci := 8) (v := .ref l2) (C := RX9) (T := TX9) (N := 35) hx hb hts inB_9 hown hK hP 0 rfl rfl 7 (by decide) (hts _ mw_3_189) (fun _ h9 => h9) rfl dX9_quarrel_25 ?_
      refine lv_iload_n hx hb dX9_quarrel_28 rfl (lv_at hl 1 rfl) ?_
      refine va_iald hx hb hK hP 2 1 rfl rfl (show vp_in (nI j_3) 10 from vp_in_nI (by omega) (by omega)) dX9_quarrel_29 ?_
      refine hx_top (y := (fmq j_3)) (congrArg _ (nI_clamp (by omega))) ?_
      exact W.iret (v := (fmq j_3)) hx hb hr (fun t ht hW => ⟨⟨(fmq j_3), (), rfl, (by unfold F_q; rw [if_pos (by omega), nI_clamp (by omega), en_4, nI_clamp (by omega), if_neg (by omega)]), trivial⟩, hS.F ht⟩) hS.2.2 dX9_quarrel_30
    · have b_6 := gn_le (X := ((n_4 : Nat) : Int)) (C := 0) (nI_toInt (by omega)) (by decide) c_5
      refine lv_bipush (v := (-6)) hx hb dX9_quarrel_19 (by decide) ?_
      refine lv_goto (tgt := 30) hx hb dX9_quarrel_21 (by decide) ?_
      exact W.iret (v := (-6)) hx hb hr (fun t ht hW => ⟨⟨(-6), (), rfl, (by unfold F_q; rw [if_pos (by omega), nI_clamp (by omega), en_4, nI_clamp (by omega), if_pos (by omega)]), trivial⟩, hS.F ht⟩) hS.2.2 dX9_quarrel_30
  · skip
    refine lv_if_ne (tgt := 10) hx hb dX9_quarrel_5 (by decide) (fun h => absurd h (by decide)) (fun _ => ?_)
    refine lv_iconst (v := (-1)) hx hb dX9_quarrel_8 (by decide) ?_
    exact W.iret (v := (-1)) hx hb hr (fun t ht hW => ⟨⟨(-1), (), rfl, (by unfold F_q; rw [if_neg (by omega)]), trivial⟩, hS.F ht⟩) hS.2.2 dX9_quarrel_9
set_option maxHeartbeats 4000000 in
set_option maxRecDepth 100000 in
theorem m_line (l : Launch) (dC : Nat → ClassId) (dI : Nat → Nat → Nat) (sz : Nat) (h0 : Nat) (w0 : Value) (w1 : Value) (w2 : Value) (w3 : Value) (kn : Nat) (l4 : Nat) (l1 : Nat) (w7 : Value) (w8 : Value) (w9 : Value) (w10 : Value) (w11 : Value) (w12 : Value) (w13 : Value) (w14 : Value) (w15 : Value) (w16 : Value) (w17 : Value) (w18 : Value) (w19 : Value) (w20 : Value) (w21 : Value) (w22 : Value) (w23 : Value) (w24 : Value) (w25 : Value) (w26 : Value) (w27 : Value) (w28 : Value) (w29 : Value) (w30 : Value) (w31 : Value) (w32 : Value) (w33 : Value) (w34 : Value) (kl1 : ClassId) (fll : Nat → Int32) (kl4 : ClassId) (fln : Nat → Int32) (n1 : Int32) (n2 : Int32) (hkn : kn ≤ 10) (hll : BdOk 10 10 fll) : Met l yX9_line (wq yX9_line cX9_line 3 (some .int)) ({ frames := 2, cells := 0, slots := 0, locals := 46 }) (va_Pc [.ref h0, .int n1, .int n2] (pcW dC dI [(kl1, .int), (kl4, .int)] [(h0, .inr (8, [w0, w1, w2, w3, .int (nI kn), .ref l4, .ref l1, w7, w8, w9, w10, w11, w12, w13, w14, w15, w16, w17, w18, w19, w20, w21, w22, w23, w24, w25, w26, w27, w28, w29, w30, w31, w32, w33, w34])), (l1, .inl (kl1, 10, .inl fll)), (l4, .inl (kl4, 100, .inl fln))] sz)) (va_Qi (fun (r : Int32) (_ : Unit) => r = F_line kn (fll n1.toNatClampNeg).toNatClampNeg (fun j => fln (10 * n1.toNatClampNeg + j)) n1 n2) (fun _ _ => True) (fun q : Nat => sz ≤ q)) 0 0 (fun q : Nat => sz ≤ q) := by
  refine Met.ofW (cc := cX9_line) (maxL := 3) (ret := (some .int)) (by decide) rfl ?_
  intro p e s m args below meth c s₁ B hml hv
  obtain ⟨rfl, hsz, hN, hP, hK, hD0⟩ := hv
  have hx := B.exec
  have hb := B.bytes
  have hr := B.returns
  have hts0 := atoms_spec (ws := (wq yX9_line cX9_line 3 (some .int))) B.pre
  have hts : ∀ w ∈ BG, w.before _ s = true := fun w h => hts0 w (List.mem_cons_of_mem _ h)
  have hown : s.vm.findClass RX9 = some m.cls := findClass_of_methodNamed B.named
  have hlocks := B.notSynchronized
  subst hsz
  have hA : ∀ q : Nat, s.heap.size ≤ q → (fun q : Nat => s.heap.size ≤ q) q := fun _ h => h
  have hD := hD0
  have hS : va_S (fun q : Nat => s.heap.size ≤ q) s.heap s.heap [] := va_S.rf
  have hP : va_P (dC, dI) vwCl [(h0, .inr (8, [w0, w1, w2, w3, .int (nI kn), .ref l4, .ref l1, w7, w8, w9, w10, w11, w12, w13, w14, w15, w16, w17, w18, w19, w20, w21, w22, w23, w24, w25, w26, w27, w28, w29, w30, w31, w32, w33, w34])), (l1, .inl (kl1, 10, .inl fll)), (l4, .inl (kl4, 100, .inl fln))] s.heap := hP
  have hl := lv_entry ([.ref h0, .int n1, .int n2]) (n := 3) (Nat.le_of_ble_eq_true rfl)
  rw [lg_entry_eq]
  generalize (lg_sl ([.ref h0, .int n1, .int n2]) ++ List.replicate (3 - (lg_sl ([.ref h0, .int n1, .int n2])).length) Slot.unset).toArray = ls at hl ⊢
  have hl : lv_has ls 3 [(0, .ref h0), (1, .int n1), (2, .int n2)] := hl
  refine lv_aload_n hx hb dX9_line_0 rfl (lv_at hl 0 rfl) ?_
  refine lv_iload_n hx hb dX9_line_1 rfl (lv_at hl 1 rfl) ?_
  have hPc := hP.sub (ws' := [(h0, .inr (8, [w0, w1, w2, w3, .int (nI kn), .ref l4, .ref l1, w7, w8, w9, w10, w11, w12, w13, w14, w15, w16, w17, w18, w19, w20, w21, w22, w23, w24, w25, w26, w27, w28, w29, w30, w31, w32, w33, w34]))]) [0] rfl
  have hDc := hD.sub (ws' := [(h0, .inr (8, [w0, w1, w2, w3, .int (nI kn), .ref l4, .ref l1, w7, w8, w9, w10, w11, w12, w13, w14, w15, w16, w17, w18, w19, w20, w21, w22, w23, w24, w25, w26, w27, w28, w29, w30, w31, w32, w33, w34]))]) [0] (by decide) rfl
  have hKc := hK.sub (tys' := []) [] rfl
  refine va_calli (va_runV (As := [.int n1]) (rest := []) ⟨hx, hb, hml, hown, hts⟩ (m_isKind l dC dI s.heap.size h0 (w0) (w1) (w2) (w3) kn (.ref l4) (.ref l1) (w7) (w8) (w9) (w10) (w11) (w12) (w13) (w14) (w15) (w16) (w17) (w18) (w19) (w20) (w21) (w22) (w23) (w24) (w25) (w26) (w27) (w28) (w29) (w30) (w31) (w32) (w33) (w34) n1 hkn) (cwV 1 hts (gV mw_4_53 mw_4_55 mw_0_15 mw_1_9 mw_4_56) rfl rfl rfl (by decide +kernel) ⟨Nat.le_of_ble_eq_true rfl, Nat.le_of_ble_eq_true rfl⟩) ⟨pcW_blind, va_recv hKc hPc (ci := 8) (q0 := 0) rfl rfl, pcW_at hPc hKc hDc hN⟩ rfl rfl hl.1 rfl (lv_room (Nat.le_of_ble_eq_true rfl)) dX9_line_2 ⟨Nat.le_of_ble_eq_true rfl, Nat.le_of_ble_eq_true rfl⟩) hS (fun q h1 h2 => absurd h2 (Nat.not_le.mpr h1)) (fun q h => hA q (Nat.le_trans hS.1 h)) (fun r_1 u t H1 locs ht hvm hw_1 hB hz1 hk1 hS => ?_)
  have hP := keepP hP hk1
  clear hz1 hk1 hB ht hvm hPc hDc hKc
  generalize H1 = H at hP hS ⊢
  rcases fx_bool hw_1 with ⟨rfl, b_2⟩ | ⟨rfl, b_2⟩
  · skip
    refine lv_if_ne (tgt := 10) hx hb dX9_line_5 (by decide) (fun _ => ?_) (fun h => absurd h (by decide))
    obtain ⟨j_3, tj_3, ej_3⟩ := fx_nat (x := n1) (by omega)
    subst ej_3
    have yj_3 : Int32.toInt (nI j_3) = (j_3 : Int) := nI_toInt tj_3
    refine lv_aload_n hx hb dX9_line_10 rfl (lv_at hl 0 rfl) ?_
    refine va_get (D := (dC, dI)) (ci := 8) (v := .ref l1) (C := RX9) (T := TX9) (N := 35) hx hb hts inB_9 hown hK hP 0 rfl rfl 6 (by decide) (hts _ mw_3_188) (fun _ h9 => h9) rfl dX9_line_11 ?_
    refine lv_iload_n hx hb dX9_line_14 rfl (lv_at hl 1 rfl) ?_
    refine va_iald hx hb hK hP 1 0 rfl rfl (show vp_in (nI j_3) 10 from vp_in_nI (by omega) (by omega)) dX9_line_15 ?_
    refine hx_top (y := (fll j_3)) (congrArg _ (nI_clamp (by omega))) ?_
    obtain ⟨n_4, hn_4, en_4⟩ := hll j_3 (by omega)
    refine hx_top (y := (nI n_4)) en_4 ?_
    refine lv_if_ne (tgt := 22) hx hb dX9_line_16 (by decide) (fun c_5 => ?_) (fun c_5 => ?_)
    · have b_6 := gx_ne (X := ((n_4 : Nat) : Int)) (C := 0) (nI_toInt (by omega)) (by decide) c_5
      refine lv_iload_n hx hb dX9_line_22 rfl (lv_at hl 2 rfl) ?_
      refine lv_iconst (v := (-1)) hx hb dX9_line_23 (by decide) ?_
      refine lv_icmp_ne (tgt := 36) hx hb dX9_line_24 (by decide) (fun c_7 => ?_) (fun c_7 => ?_)
      · have b_8 := gx_ne (X := (Int32.toInt n2)) (C := (-1)) rfl (by decide) c_7
        refine lv_iload_n hx hb dX9_line_36 rfl (lv_at hl 2 rfl) ?_
        refine lv_i2l hx hb dX9_line_37 rfl ?_
        refine lv_lconst (v := Int32.toInt64 0) hx hb dX9_line_38 (by decide) ?_
        refine lv_aload_n hx hb dX9_line_39 rfl (lv_at hl 0 rfl) ?_
        refine va_get (D := (dC, dI)) (ci := 8) (v := .ref l1) (C := RX9) (T := TX9) (N := 35) hx hb hts inB_9 hown hK hP 0 rfl rfl 6 (by decide) (hts _ mw_3_188) (fun _ h9 => h9) rfl dX9_line_40 ?_
        refine lv_iload_n hx hb dX9_line_43 rfl (lv_at hl 1 rfl) ?_
        refine va_iald hx hb hK hP 1 0 rfl rfl (show vp_in (nI j_3) 10 from vp_in_nI (by omega) (by omega)) dX9_line_44 ?_
        refine hx_top (y := (fll j_3)) (congrArg _ (nI_clamp (by omega))) ?_
        refine hx_top (y := (nI n_4)) en_4 ?_
        refine lv_iconst (v := 1) hx hb dX9_line_45 (by decide) ?_
        refine lv_isub hx hb dX9_line_46 ?_
        refine lv_topi (fun z_9 ez_9 => ?_)
        have fz_9 : Int32.toInt z_9 = ((n_4 : Nat) : Int) - 1 := by rw [ez_9]; exact gx_sub (X := ((n_4 : Nat) : Int)) (C := 1) (nI_toInt (by omega)) (by decide) (by omega) (by omega)
        refine lv_i2l hx hb dX9_line_47 rfl ?_
        have hPc := hP.sub (ws' := []) [] rfl
        have hDc := hD.sub (ws' := []) [] (by decide) rfl
        have hKc := hK.sub (tys' := []) [] rfl
        refine va_calli (va_runS (As := [.long (Int32.toInt64 n2), .long (Int32.toInt64 0), .long (Int32.toInt64 z_9)]) (rest := []) ⟨hx, hb, hml, hown, hts⟩ (m_in l dC dI H.size n2 0 z_9 0 (Int32.toInt z_9) (by decide) rfl) (va_cwS 3 hts (gS mw_4_57 mw_4_58 mw_1_9 mw_4_59) rfl rfl rfl (by decide +kernel) ⟨Nat.le_of_ble_eq_true rfl, Nat.le_of_ble_eq_true rfl⟩) ⟨pcW_blind, pcW_at hPc hKc hDc hN⟩ rfl rfl hl.1 rfl (lv_room (Nat.le_of_ble_eq_true rfl)) dX9_line_48 ⟨Nat.le_of_ble_eq_true rfl, Nat.le_of_ble_eq_true rfl⟩) hS (fun q h1 h2 => absurd h2 (Nat.not_le.mpr h1)) (fun q h => hA q (Nat.le_trans hS.1 h)) (fun r_10 u t H1 locs ht hvm hw_10 hB hz1 hk1 hS => ?_)
        have hP := keepP hP hk1
        clear hz1 hk1 hB ht hvm hPc hDc hKc
        generalize H1 = H at hP hS ⊢
        rcases fx_bool hw_10 with ⟨rfl, b_11⟩ | ⟨rfl, b_11⟩
        · skip
          refine lv_if_eq (tgt := 68) hx hb dX9_line_51 (by decide) (fun h => absurd h (by decide)) (fun _ => ?_)
          obtain ⟨j_12, tj_12, ej_12⟩ := fx_nat (x := n2) (by omega)
          subst ej_12
          have yj_12 : Int32.toInt (nI j_12) = (j_12 : Int) := nI_toInt tj_12
          refine lv_aload_n hx hb dX9_line_54 rfl (lv_at hl 0 rfl) ?_
          refine va_get (D := (dC, dI)) (ci := 8) (v := .ref l4) (C := RX9) (T := TX9) (N := 35) hx hb hts inB_9 hown hK hP 0 rfl rfl 5 (by decide) (hts _ mw_3_187) (fun _ h9 => h9) rfl dX9_line_55 ?_
          refine lv_bipush (v := 10) hx hb dX9_line_58 (by decide) ?_
          refine lv_iload_n hx hb dX9_line_60 rfl (lv_at hl 1 rfl) ?_
          refine lv_imul hx hb dX9_line_61 ?_
          refine hx_top (y := (nI (10 * j_3))) (pk_mul 10 j_3) ?_
          refine lv_iload_n hx hb dX9_line_62 rfl (lv_at hl 2 rfl) ?_
          refine lv_iadd hx hb dX9_line_63 ?_
          refine hx_top (y := (nI ((10 * j_3) + j_12))) (nI_add (10 * j_3) j_12) ?_
          refine va_iald hx hb hK hP 2 1 rfl rfl (show vp_in (nI ((10 * j_3) + j_12)) 100 from vp_in_nI (by omega) (by omega)) dX9_line_64 ?_
          refine hx_top (y := (fln ((10 * j_3) + j_12))) (congrArg _ (nI_clamp (by omega))) ?_
          refine lv_goto (tgt := 70) hx hb dX9_line_65 (by decide) ?_
          exact W.iret (v := (fln ((10 * j_3) + j_12))) hx hb hr (fun t ht hW => ⟨⟨(fln ((10 * j_3) + j_12)), (), rfl, (by unfold F_line; rw [if_pos (by omega), nI_clamp (by omega), en_4, nI_clamp (by omega), if_neg (by omega), if_neg (by omega), if_pos (by omega), nI_clamp (by omega)]), trivial⟩, hS.F ht⟩) hS.2.2 dX9_line_70
        · skip
          refine lv_if_eq (tgt := 68) hx hb dX9_line_51 (by decide) (fun _ => ?_) (fun h => absurd (by decide) h)
          refine lv_bipush (v := (-6)) hx hb dX9_line_68 (by decide) ?_
          exact W.iret (v := (-6)) hx hb hr (fun t ht hW => ⟨⟨(-6), (), rfl, (by unfold F_line; rw [if_pos (by omega), nI_clamp (by omega), en_4, nI_clamp (by omega), if_neg (by omega), if_neg (by omega), if_neg (by omega)]), trivial⟩, hS.F ht⟩) hS.2.2 dX9_line_70
      · have b_8 := gn_ne (X := (Int32.toInt n2)) (C := (-1)) rfl (by decide) c_7
        refine lv_aload_n hx hb dX9_line_27 rfl (lv_at hl 0 rfl) ?_
        refine va_get (D := (dC, dI)) (ci := 8) (v := .ref l1) (C := RX9) (T := TX9) (N := 35) hx hb hts inB_9 hown hK hP 0 rfl rfl 6 (by decide) (hts _ mw_3_188) (fun _ h9 => h9) rfl dX9_line_28 ?_
        refine lv_iload_n hx hb dX9_line_31 rfl (lv_at hl 1 rfl) ?_
        refine va_iald hx hb hK hP 1 0 rfl rfl (show vp_in (nI j_3) 10 from vp_in_nI (by omega) (by omega)) dX9_line_32 ?_
        refine hx_top (y := (fll j_3)) (congrArg _ (nI_clamp (by omega))) ?_
        refine hx_top (y := (nI n_4)) en_4 ?_
        refine lv_goto (tgt := 70) hx hb dX9_line_33 (by decide) ?_
        exact W.iret (v := (nI n_4)) hx hb hr (fun t ht hW => ⟨⟨(nI n_4), (), rfl, (by unfold F_line; rw [if_pos (by omega), nI_clamp (by omega), en_4, nI_clamp (by omega), if_neg (by omega), if_pos (by omega)]), trivial⟩, hS.F ht⟩) hS.2.2 dX9_line_70
    · have b_6 := gn_ne (X := ((n_4 : Nat) : Int)) (C := 0) (nI_toInt (by omega)) (by decide) c_5
      refine lv_bipush (v := (-3)) hx hb dX9_line_19 (by decide) ?_
      exact W.iret (v := (-3)) hx hb hr (fun t ht hW => ⟨⟨(-3), (), rfl, (by unfold F_line; rw [if_pos (by omega), nI_clamp (by omega), en_4, nI_clamp (by omega), if_pos (by omega)]), trivial⟩, hS.F ht⟩) hS.2.2 dX9_line_21
  · skip
    refine lv_if_ne (tgt := 10) hx hb dX9_line_5 (by decide) (fun h => absurd h (by decide)) (fun _ => ?_)
    refine lv_iconst (v := (-1)) hx hb dX9_line_8 (by decide) ?_
    exact W.iret (v := (-1)) hx hb hr (fun t ht hW => ⟨⟨(-1), (), rfl, (by unfold F_line; rw [if_neg (by omega)]), trivial⟩, hS.F ht⟩) hS.2.2 dX9_line_9
