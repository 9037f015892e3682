theorem mw_2_97 : Cond.methodLink RX8 101 yX8_isName ∈ BG := mB (t2 (i := 97) (by decide +kernel)) (by decide +kernel)
theorem mw_1_170 : Cond.fieldLink RX8 26 "AnswerLines" "bodies" "LAnswerLines$Bodies;" ∈ BG := mB (t1 (i := 170) (by decide +kernel)) (by decide +kernel)
theorem mw_2_140 : Cond.methodLink RX8 115 yX0_ownersOf ∈ BG := mB (t2 (i := 140) (by decide +kernel)) (by decide +kernel)
theorem mw_2_208 : Cond.code yX6_doubtful cX6_doubtful 5 (some .int) ∈ BG := mB (t2 (i := 208) rfl) (by decide +kernel)
theorem mw_2_206 : Cond.methodLink RX8 141 yX6_doubtful ∈ BG := mB (t2 (i := 206) (by decide +kernel)) (by decide +kernel)
theorem mw_2_207 : Cond.static yX6_doubtful ∈ BG := mB (t2 (i := 207) (by decide +kernel)) (by decide +kernel)
theorem mw_1_11 : Cond.initialized RX6 ∈ BG := mB (t1 (i := 11) (by decide +kernel)) (by decide +kernel)
theorem mw_2_229 : Cond.code yX6_settlers cX6_settlers 5 (some .int) ∈ BG := mB (t2 (i := 229) rfl) (by decide +kernel)
theorem mw_2_227 : Cond.methodLink RX8 145 yX6_settlers ∈ BG := mB (t2 (i := 227) (by decide +kernel)) (by decide +kernel)
theorem mw_2_228 : Cond.static yX6_settlers ∈ BG := mB (t2 (i := 228) (by decide +kernel)) (by decide +kernel)
theorem mw_2_232 : Cond.code yX8_bitsOrCount cX8_bitsOrCount 2 (some .int) ∈ BG := mB (t2 (i := 232) rfl) (by decide +kernel)
theorem mw_2_230 : Cond.methodLink RX8 148 yX8_bitsOrCount ∈ BG := mB (t2 (i := 230) (by decide +kernel)) (by decide +kernel)
theorem mw_2_231 : Cond.static yX8_bitsOrCount ∈ BG := mB (t2 (i := 231) (by decide +kernel)) (by decide +kernel)
theorem mw_1_172 : Cond.fieldLink RX8 40 "AnswerLines" "table" "LAnswerLines$Table;" ∈ BG := mB (t1 (i := 172) (by decide +kernel)) (by decide +kernel)
theorem mw_3_9 : Cond.code yX7_fill cX7_fill 5 none ∈ BG := mB (t3 (i := 9) rfl) (by decide +kernel)
theorem mw_3_6 : Cond.methodLink RX8 154 yX7_fill ∈ BG := mB (t3 (i := 6) (by decide +kernel)) (by decide +kernel)
theorem mw_3_7 : Cond.instanceMethod yX7_fill ∈ BG := mB (t3 (i := 7) (by decide +kernel)) (by decide +kernel)
theorem mw_3_8 : Cond.selects RX7 yX7_fill yX7_fill ∈ BG := mB (t3 (i := 8) (by decide +kernel)) (by decide +kernel)
theorem mw_3_20 : Cond.code yX7_spread cX7_spread 2 (some .int) ∈ BG := mB (t3 (i := 20) rfl) (by decide +kernel)
theorem mw_3_17 : Cond.methodLink RX8 158 yX7_spread ∈ BG := mB (t3 (i := 17) (by decide +kernel)) (by decide +kernel)
theorem mw_3_18 : Cond.instanceMethod yX7_spread ∈ BG := mB (t3 (i := 18) (by decide +kernel)) (by decide +kernel)
theorem mw_3_19 : Cond.selects RX7 yX7_spread yX7_spread ∈ BG := mB (t3 (i := 19) (by decide +kernel)) (by decide +kernel)
theorem mw_3_38 : Cond.code yX7_columnOf cX7_columnOf 2 (some .int) ∈ BG := mB (t3 (i := 38) rfl) (by decide +kernel)
theorem mw_3_35 : Cond.methodLink RX8 161 yX7_columnOf ∈ BG := mB (t3 (i := 35) (by decide +kernel)) (by decide +kernel)
theorem mw_3_36 : Cond.instanceMethod yX7_columnOf ∈ BG := mB (t3 (i := 36) (by decide +kernel)) (by decide +kernel)
theorem mw_3_37 : Cond.selects RX7 yX7_columnOf yX7_columnOf ∈ BG := mB (t3 (i := 37) (by decide +kernel)) (by decide +kernel)
theorem mw_3_47 : Cond.code yX7_push cX7_push 3 (some .int) ∈ BG := mB (t3 (i := 47) rfl) (by decide +kernel)
theorem mw_3_44 : Cond.methodLink RX8 164 yX7_push ∈ BG := mB (t3 (i := 44) (by decide +kernel)) (by decide +kernel)
theorem mw_3_45 : Cond.instanceMethod yX7_push ∈ BG := mB (t3 (i := 45) (by decide +kernel)) (by decide +kernel)
theorem mw_3_46 : Cond.selects RX7 yX7_push yX7_push ∈ BG := mB (t3 (i := 46) (by decide +kernel)) (by decide +kernel)
theorem mw_3_71 : Cond.code yX7_standsAt cX7_standsAt 2 (some .int) ∈ BG := mB (t3 (i := 71) rfl) (by decide +kernel)
theorem mw_3_68 : Cond.methodLink RX8 170 yX7_standsAt ∈ BG := mB (t3 (i := 68) (by decide +kernel)) (by decide +kernel)
theorem mw_3_69 : Cond.instanceMethod yX7_standsAt ∈ BG := mB (t3 (i := 69) (by decide +kernel)) (by decide +kernel)
theorem mw_3_70 : Cond.selects RX7 yX7_standsAt yX7_standsAt ∈ BG := mB (t3 (i := 70) (by decide +kernel)) (by decide +kernel)
theorem mw_3_85 : Cond.methodLink RX8 176 yX8_isPlace ∈ BG := mB (t3 (i := 85) (by decide +kernel)) (by decide +kernel)
theorem mw_1_173 : Cond.fieldLink RX8 47 "AnswerLines" "places" "LAnswerLines$Places;" ∈ BG := mB (t1 (i := 173) (by decide +kernel)) (by decide +kernel)
theorem mw_3_104 : Cond.code yX3_clear cX3_clear 2 (some .int) ∈ BG := mB (t3 (i := 104) rfl) (by decide +kernel)
theorem mw_3_101 : Cond.methodLink RX8 183 yX3_clear ∈ BG := mB (t3 (i := 101) (by decide +kernel)) (by decide +kernel)
theorem mw_3_102 : Cond.instanceMethod yX3_clear ∈ BG := mB (t3 (i := 102) (by decide +kernel)) (by decide +kernel)
theorem mw_3_103 : Cond.selects RX3 yX3_clear yX3_clear ∈ BG := mB (t3 (i := 103) (by decide +kernel)) (by decide +kernel)
theorem mw_3_112 : Cond.code yX3_resize cX3_resize 4 (some .int) ∈ BG := mB (t3 (i := 112) rfl) (by decide +kernel)
theorem mw_3_109 : Cond.methodLink RX8 186 yX3_resize ∈ BG := mB (t3 (i := 109) (by decide +kernel)) (by decide +kernel)
theorem mw_3_110 : Cond.instanceMethod yX3_resize ∈ BG := mB (t3 (i := 110) (by decide +kernel)) (by decide +kernel)
theorem mw_3_111 : Cond.selects RX3 yX3_resize yX3_resize ∈ BG := mB (t3 (i := 111) (by decide +kernel)) (by decide +kernel)
theorem mw_3_126 : Cond.methodLink RX8 192 yX3_sizeOf ∈ BG := mB (t3 (i := 126) (by decide +kernel)) (by decide +kernel)
theorem mw_3_130 : Cond.code yX3_hitsBySize cX3_hitsBySize 6 (some .int) ∈ BG := mB (t3 (i := 130) rfl) (by decide +kernel)
theorem mw_3_127 : Cond.methodLink RX8 195 yX3_hitsBySize ∈ BG := mB (t3 (i := 127) (by decide +kernel)) (by decide +kernel)
theorem mw_3_128 : Cond.instanceMethod yX3_hitsBySize ∈ BG := mB (t3 (i := 128) (by decide +kernel)) (by decide +kernel)
theorem mw_3_129 : Cond.selects RX3 yX3_hitsBySize yX3_hitsBySize ∈ BG := mB (t3 (i := 129) (by decide +kernel)) (by decide +kernel)
theorem mw_3_156 : Cond.code yX3_latest cX3_latest 2 (some .int) ∈ BG := mB (t3 (i := 156) rfl) (by decide +kernel)
theorem mw_3_153 : Cond.methodLink RX8 201 yX3_latest ∈ BG := mB (t3 (i := 153) (by decide +kernel)) (by decide +kernel)
theorem mw_3_154 : Cond.instanceMethod yX3_latest ∈ BG := mB (t3 (i := 154) (by decide +kernel)) (by decide +kernel)
theorem mw_3_155 : Cond.selects RX3 yX3_latest yX3_latest ∈ BG := mB (t3 (i := 155) (by decide +kernel)) (by decide +kernel)
theorem mw_3_142 : Cond.code yX3_bestHits cX3_bestHits 6 (some .int) ∈ BG := mB (t3 (i := 142) rfl) (by decide +kernel)
theorem mw_3_139 : Cond.methodLink RX8 198 yX3_bestHits ∈ BG := mB (t3 (i := 139) (by decide +kernel)) (by decide +kernel)
theorem mw_3_140 : Cond.instanceMethod yX3_bestHits ∈ BG := mB (t3 (i := 140) (by decide +kernel)) (by decide +kernel)
theorem mw_3_141 : Cond.selects RX3 yX3_bestHits yX3_bestHits ∈ BG := mB (t3 (i := 141) (by decide +kernel)) (by decide +kernel)
theorem mw_3_125 : Cond.code yX3_callsAt cX3_callsAt 4 (some .int) ∈ BG := mB (t3 (i := 125) rfl) (by decide +kernel)
theorem mw_3_122 : Cond.methodLink RX8 189 yX3_callsAt ∈ BG := mB (t3 (i := 122) (by decide +kernel)) (by decide +kernel)
theorem mw_3_123 : Cond.instanceMethod yX3_callsAt ∈ BG := mB (t3 (i := 123) (by decide +kernel)) (by decide +kernel)
theorem mw_3_124 : Cond.selects RX3 yX3_callsAt yX3_callsAt ∈ BG := mB (t3 (i := 124) (by decide +kernel)) (by decide +kernel)
theorem mw_2_31 : Cond.code yX1_isBare cX1_isBare 2 (some .boolean) ∈ BG := mB (t2 (i := 31) rfl) (by decide +kernel)
theorem mw_2_28 : Cond.methodLink RX8 63 yX1_isBare ∈ BG := mB (t2 (i := 28) (by decide +kernel)) (by decide +kernel)
theorem mw_2_29 : Cond.instanceMethod yX1_isBare ∈ BG := mB (t2 (i := 29) (by decide +kernel)) (by decide +kernel)
theorem mw_2_30 : Cond.selects RX1 yX1_isBare yX1_isBare ∈ BG := mB (t2 (i := 30) (by decide +kernel)) (by decide +kernel)
theorem mw_3_174 : Cond.code yX0_namesOf cX0_namesOf 4 (some .int) ∈ BG := mB (t3 (i := 174) rfl) (by decide +kernel)
theorem mw_3_171 : Cond.methodLink RX8 211 yX0_namesOf ∈ BG := mB (t3 (i := 171) (by decide +kernel)) (by decide +kernel)
theorem mw_3_172 : Cond.instanceMethod yX0_namesOf ∈ BG := mB (t3 (i := 172) (by decide +kernel)) (by decide +kernel)
theorem mw_3_173 : Cond.selects RX0 yX0_namesOf yX0_namesOf ∈ BG := mB (t3 (i := 173) (by decide +kernel)) (by decide +kernel)
theorem mw_3_170 : Cond.code yX3_howMany cX3_howMany 1 (some .int) ∈ BG := mB (t3 (i := 170) rfl) (by decide +kernel)
theorem mw_3_167 : Cond.methodLink RX8 210 yX3_howMany ∈ BG := mB (t3 (i := 167) (by decide +kernel)) (by decide +kernel)
theorem mw_3_168 : Cond.instanceMethod yX3_howMany ∈ BG := mB (t3 (i := 168) (by decide +kernel)) (by decide +kernel)
theorem mw_3_169 : Cond.selects RX3 yX3_howMany yX3_howMany ∈ BG := mB (t3 (i := 169) (by decide +kernel)) (by decide +kernel)
theorem mw_2_120 : Cond.code yX2_length cX2_length 1 (some .int) ∈ BG := mB (t2 (i := 120) rfl) (by decide +kernel)
theorem mw_3_166 : Cond.methodLink RX8 207 yX2_length ∈ BG := mB (t3 (i := 166) (by decide +kernel)) (by decide +kernel)
theorem mw_2_118 : Cond.instanceMethod yX2_length ∈ BG := mB (t2 (i := 118) (by decide +kernel)) (by decide +kernel)
theorem mw_2_119 : Cond.selects RX2 yX2_length yX2_length ∈ BG := mB (t2 (i := 119) (by decide +kernel)) (by decide +kernel)
theorem mw_3_165 : Cond.methodLink RX8 204 yX1_howMany ∈ BG := mB (t3 (i := 165) (by decide +kernel)) (by decide +kernel)
theorem dX8_doubt_0 : decode cX8_doubt 0 = .ok (.iload_n 1, 1) := by decide +kernel
theorem dX8_doubt_1 : decode cX8_doubt 1 = .ok (.invokestatic 101, 3) := by decide +kernel
theorem dX8_doubt_4 : decode cX8_doubt 4 = .ok (.ifCond .ne 5, 3) := by decide +kernel
theorem dX8_doubt_9 : decode cX8_doubt 9 = .ok (.aload_n 0, 1) := by decide +kernel
theorem dX8_doubt_10 : decode cX8_doubt 10 = .ok (.getfield 10, 3) := by decide +kernel
theorem dX8_doubt_13 : decode cX8_doubt 13 = .ok (.aload_n 0, 1) := by decide +kernel
theorem dX8_doubt_14 : decode cX8_doubt 14 = .ok (.getfield 26, 3) := by decide +kernel
theorem dX8_doubt_17 : decode cX8_doubt 17 = .ok (.iload_n 1, 1) := by decide +kernel
theorem dX8_doubt_18 : decode cX8_doubt 18 = .ok (.invokevirtual 115, 3) := by decide +kernel
theorem dX8_doubt_21 : decode cX8_doubt 21 = .ok (.invokestatic 141, 3) := by decide +kernel
theorem dX8_doubt_24 : decode cX8_doubt 24 = .ok (.ireturn, 1) := by decide +kernel
theorem dX8_doubt_7 : decode cX8_doubt 7 = .ok (.iconst (-1), 1) := by decide +kernel
theorem dX8_doubt_8 : decode cX8_doubt 8 = .ok (.ireturn, 1) := by decide +kernel
theorem dX8_settle_0 : decode cX8_settle 0 = .ok (.iload_n 1, 1) := by decide +kernel
theorem dX8_settle_1 : decode cX8_settle 1 = .ok (.invokestatic 101, 3) := by decide +kernel
theorem dX8_settle_4 : decode cX8_settle 4 = .ok (.ifCond .ne 5, 3) := by decide +kernel
theorem dX8_settle_9 : decode cX8_settle 9 = .ok (.iload_n 2, 1) := by decide +kernel
theorem dX8_settle_10 : decode cX8_settle 10 = .ok (.ifCond .eq 11, 3) := by decide +kernel
theorem dX8_settle_21 : decode cX8_settle 21 = .ok (.aload_n 0, 1) := by decide +kernel
theorem dX8_settle_22 : decode cX8_settle 22 = .ok (.getfield 10, 3) := by decide +kernel
theorem dX8_settle_25 : decode cX8_settle 25 = .ok (.aload_n 0, 1) := by decide +kernel
theorem dX8_settle_26 : decode cX8_settle 26 = .ok (.getfield 26, 3) := by decide +kernel
theorem dX8_settle_29 : decode cX8_settle 29 = .ok (.iload_n 1, 1) := by decide +kernel
theorem dX8_settle_30 : decode cX8_settle 30 = .ok (.invokevirtual 115, 3) := by decide +kernel
theorem dX8_settle_33 : decode cX8_settle 33 = .ok (.invokestatic 145, 3) := by decide +kernel
theorem dX8_settle_36 : decode cX8_settle 36 = .ok (.iload_n 2, 1) := by decide +kernel
theorem dX8_settle_37 : decode cX8_settle 37 = .ok (.invokestatic 148, 3) := by decide +kernel
theorem dX8_settle_40 : decode cX8_settle 40 = .ok (.ireturn, 1) := by decide +kernel
theorem dX8_settle_13 : decode cX8_settle 13 = .ok (.iload_n 2, 1) := by decide +kernel
theorem dX8_settle_14 : decode cX8_settle 14 = .ok (.iconst 1, 1) := by decide +kernel
theorem dX8_settle_15 : decode cX8_settle 15 = .ok (.if_icmp .eq 6, 3) := by decide +kernel
theorem dX8_settle_18 : decode cX8_settle 18 = .ok (.bipush (-2), 2) := by decide +kernel
theorem dX8_settle_20 : decode cX8_settle 20 = .ok (.ireturn, 1) := by decide +kernel
theorem dX8_settle_7 : decode cX8_settle 7 = .ok (.iconst (-1), 1) := by decide +kernel
theorem dX8_settle_8 : decode cX8_settle 8 = .ok (.ireturn, 1) := by decide +kernel
theorem dX8_column_0 : decode cX8_column 0 = .ok (.iload_n 1, 1) := by decide +kernel
theorem dX8_column_1 : decode cX8_column 1 = .ok (.iconst (-1), 1) := by decide +kernel
theorem dX8_column_2 : decode cX8_column 2 = .ok (.if_icmp .eq 12, 3) := by decide +kernel
theorem dX8_column_14 : decode cX8_column 14 = .ok (.aload_n 0, 1) := by decide +kernel
theorem dX8_column_15 : decode cX8_column 15 = .ok (.getfield 40, 3) := by decide +kernel
theorem dX8_column_18 : decode cX8_column 18 = .ok (.aload_n 0, 1) := by decide +kernel
theorem dX8_column_19 : decode cX8_column 19 = .ok (.getfield 10, 3) := by decide +kernel
theorem dX8_column_22 : decode cX8_column 22 = .ok (.aload_n 0, 1) := by decide +kernel
theorem dX8_column_23 : decode cX8_column 23 = .ok (.getfield 26, 3) := by decide +kernel
theorem dX8_column_26 : decode cX8_column 26 = .ok (.invokevirtual 154, 3) := by decide +kernel
theorem dX8_column_29 : decode cX8_column 29 = .ok (.aload_n 0, 1) := by decide +kernel
theorem dX8_column_30 : decode cX8_column 30 = .ok (.getfield 40, 3) := by decide +kernel
theorem dX8_column_33 : decode cX8_column 33 = .ok (.invokevirtual 158, 3) := by decide +kernel
theorem dX8_column_36 : decode cX8_column 36 = .ok (.istore_n 2, 1) := by decide +kernel
theorem dX8_column_37 : decode cX8_column 37 = .ok (.iload_n 1, 1) := by decide +kernel
theorem dX8_column_38 : decode cX8_column 38 = .ok (.iconst (-1), 1) := by decide +kernel
theorem dX8_column_39 : decode cX8_column 39 = .ok (.if_icmp .ne 7, 3) := by decide +kernel
theorem dX8_column_42 : decode cX8_column 42 = .ok (.iload_n 2, 1) := by decide +kernel
theorem dX8_column_43 : decode cX8_column 43 = .ok (.goto 11, 3) := by decide +kernel
theorem dX8_column_54 : decode cX8_column 54 = .ok (.ireturn, 1) := by decide +kernel
theorem dX8_column_5 : decode cX8_column 5 = .ok (.iload_n 1, 1) := by decide +kernel
theorem dX8_column_6 : decode cX8_column 6 = .ok (.invokestatic 101, 3) := by decide +kernel
theorem dX8_column_9 : decode cX8_column 9 = .ok (.ifCond .ne 5, 3) := by decide +kernel
theorem dX8_column_46 : decode cX8_column 46 = .ok (.aload_n 0, 1) := by decide +kernel
theorem dX8_column_47 : decode cX8_column 47 = .ok (.getfield 40, 3) := by decide +kernel
theorem dX8_column_50 : decode cX8_column 50 = .ok (.iload_n 1, 1) := by decide +kernel
theorem dX8_column_51 : decode cX8_column 51 = .ok (.invokevirtual 161, 3) := by decide +kernel
theorem dX8_column_12 : decode cX8_column 12 = .ok (.iconst (-1), 1) := by decide +kernel
theorem dX8_column_13 : decode cX8_column 13 = .ok (.ireturn, 1) := by decide +kernel
theorem dX8_packed_0 : decode cX8_packed 0 = .ok (.iload_n 1, 1) := by decide +kernel
theorem dX8_packed_1 : decode cX8_packed 1 = .ok (.iconst (-1), 1) := by decide +kernel
theorem dX8_packed_2 : decode cX8_packed 2 = .ok (.if_icmp .eq 16, 3) := by decide +kernel
theorem dX8_packed_18 : decode cX8_packed 18 = .ok (.aload_n 0, 1) := by decide +kernel
theorem dX8_packed_19 : decode cX8_packed 19 = .ok (.getfield 40, 3) := by decide +kernel
theorem dX8_packed_22 : decode cX8_packed 22 = .ok (.aload_n 0, 1) := by decide +kernel
theorem dX8_packed_23 : decode cX8_packed 23 = .ok (.getfield 10, 3) := by decide +kernel
theorem dX8_packed_26 : decode cX8_packed 26 = .ok (.aload_n 0, 1) := by decide +kernel
theorem dX8_packed_27 : decode cX8_packed 27 = .ok (.getfield 26, 3) := by decide +kernel
theorem dX8_packed_30 : decode cX8_packed 30 = .ok (.invokevirtual 154, 3) := by decide +kernel
theorem dX8_packed_33 : decode cX8_packed 33 = .ok (.aload_n 0, 1) := by decide +kernel
theorem dX8_packed_34 : decode cX8_packed 34 = .ok (.getfield 40, 3) := by decide +kernel
theorem dX8_packed_37 : decode cX8_packed 37 = .ok (.invokevirtual 164, 3) := by decide +kernel
theorem dX8_packed_40 : decode cX8_packed 40 = .ok (.istore_n 2, 1) := by decide +kernel
theorem dX8_packed_41 : decode cX8_packed 41 = .ok (.iload_n 1, 1) := by decide +kernel
theorem dX8_packed_42 : decode cX8_packed 42 = .ok (.iconst (-1), 1) := by decide +kernel
theorem dX8_packed_43 : decode cX8_packed 43 = .ok (.if_icmp .ne 7, 3) := by decide +kernel
theorem dX8_packed_46 : decode cX8_packed 46 = .ok (.iload_n 2, 1) := by decide +kernel
theorem dX8_packed_47 : decode cX8_packed 47 = .ok (.goto 11, 3) := by decide +kernel
theorem dX8_packed_58 : decode cX8_packed 58 = .ok (.ireturn, 1) := by decide +kernel
theorem dX8_packed_5 : decode cX8_packed 5 = .ok (.aload_n 0, 1) := by decide +kernel
theorem dX8_packed_6 : decode cX8_packed 6 = .ok (.getfield 10, 3) := by decide +kernel
theorem dX8_packed_9 : decode cX8_packed 9 = .ok (.iload_n 1, 1) := by decide +kernel
theorem dX8_packed_10 : decode cX8_packed 10 = .ok (.invokevirtual 51, 3) := by decide +kernel
theorem dX8_packed_13 : decode cX8_packed 13 = .ok (.ifCond .ne 5, 3) := by decide +kernel
theorem dX8_packed_16 : decode cX8_packed 16 = .ok (.iconst (-1), 1) := by decide +kernel
theorem dX8_packed_17 : decode cX8_packed 17 = .ok (.ireturn, 1) := by decide +kernel
theorem dX8_slot_0 : decode cX8_slot 0 = .ok (.iload_n 1, 1) := by decide +kernel
theorem dX8_slot_1 : decode cX8_slot 1 = .ok (.ifCond .lt 9, 3) := by decide +kernel
theorem dX8_slot_10 : decode cX8_slot 10 = .ok (.bipush (-2), 2) := by decide +kernel
theorem dX8_slot_12 : decode cX8_slot 12 = .ok (.ireturn, 1) := by decide +kernel
theorem dX8_slot_4 : decode cX8_slot 4 = .ok (.iload_n 1, 1) := by decide +kernel
theorem dX8_slot_5 : decode cX8_slot 5 = .ok (.bipush 100, 2) := by decide +kernel
theorem dX8_slot_7 : decode cX8_slot 7 = .ok (.if_icmp .lt 6, 3) := by decide +kernel
theorem dX8_slot_13 : decode cX8_slot 13 = .ok (.aload_n 0, 1) := by decide +kernel
theorem dX8_slot_14 : decode cX8_slot 14 = .ok (.getfield 40, 3) := by decide +kernel
theorem dX8_slot_17 : decode cX8_slot 17 = .ok (.aload_n 0, 1) := by decide +kernel
theorem dX8_slot_18 : decode cX8_slot 18 = .ok (.getfield 10, 3) := by decide +kernel
theorem dX8_slot_21 : decode cX8_slot 21 = .ok (.aload_n 0, 1) := by decide +kernel
theorem dX8_slot_22 : decode cX8_slot 22 = .ok (.getfield 26, 3) := by decide +kernel
theorem dX8_slot_25 : decode cX8_slot 25 = .ok (.invokevirtual 154, 3) := by decide +kernel
theorem dX8_slot_28 : decode cX8_slot 28 = .ok (.aload_n 0, 1) := by decide +kernel
theorem dX8_slot_29 : decode cX8_slot 29 = .ok (.getfield 40, 3) := by decide +kernel
theorem dX8_slot_32 : decode cX8_slot 32 = .ok (.invokevirtual 164, 3) := by decide +kernel
theorem dX8_slot_35 : decode cX8_slot 35 = .ok (.pop, 1) := by decide +kernel
theorem dX8_slot_36 : decode cX8_slot 36 = .ok (.aload_n 0, 1) := by decide +kernel
theorem dX8_slot_37 : decode cX8_slot 37 = .ok (.getfield 40, 3) := by decide +kernel
theorem dX8_slot_40 : decode cX8_slot 40 = .ok (.iload_n 1, 1) := by decide +kernel
theorem dX8_slot_41 : decode cX8_slot 41 = .ok (.invokevirtual 170, 3) := by decide +kernel
theorem dX8_slot_44 : decode cX8_slot 44 = .ok (.ireturn, 1) := by decide +kernel
theorem dX8_call_0 : decode cX8_call 0 = .ok (.iload_n 1, 1) := by decide +kernel
theorem dX8_call_1 : decode cX8_call 1 = .ok (.invokestatic 176, 3) := by decide +kernel
theorem dX8_call_4 : decode cX8_call 4 = .ok (.ifCond .eq 14, 3) := by decide +kernel
theorem dX8_call_7 : decode cX8_call 7 = .ok (.aload_n 0, 1) := by decide +kernel
theorem dX8_call_8 : decode cX8_call 8 = .ok (.getfield 10, 3) := by decide +kernel
theorem dX8_call_11 : decode cX8_call 11 = .ok (.iload_n 2, 1) := by decide +kernel
theorem dX8_call_12 : decode cX8_call 12 = .ok (.invokevirtual 51, 3) := by decide +kernel
theorem dX8_call_15 : decode cX8_call 15 = .ok (.ifCond .ne 5, 3) := by decide +kernel
theorem dX8_call_18 : decode cX8_call 18 = .ok (.iconst (-1), 1) := by decide +kernel
theorem dX8_call_19 : decode cX8_call 19 = .ok (.ireturn, 1) := by decide +kernel
theorem dX8_forget_0 : decode cX8_forget 0 = .ok (.aload_n 0, 1) := by decide +kernel
theorem dX8_forget_1 : decode cX8_forget 1 = .ok (.getfield 47, 3) := by decide +kernel
theorem dX8_forget_4 : decode cX8_forget 4 = .ok (.invokevirtual 183, 3) := by decide +kernel
theorem dX8_forget_7 : decode cX8_forget 7 = .ok (.ireturn, 1) := by decide +kernel
theorem dX8_size_0 : decode cX8_size 0 = .ok (.iload_n 1, 1) := by decide +kernel
theorem dX8_size_1 : decode cX8_size 1 = .ok (.invokestatic 176, 3) := by decide +kernel
theorem dX8_size_4 : decode cX8_size 4 = .ok (.ifCond .ne 5, 3) := by decide +kernel
theorem dX8_size_9 : decode cX8_size 9 = .ok (.iload_n 2, 1) := by decide +kernel
theorem dX8_size_10 : decode cX8_size 10 = .ok (.iconst 1, 1) := by decide +kernel
theorem dX8_size_11 : decode cX8_size 11 = .ok (.if_icmp .lt 8, 3) := by decide +kernel
theorem dX8_size_19 : decode cX8_size 19 = .ok (.bipush (-2), 2) := by decide +kernel
theorem dX8_size_21 : decode cX8_size 21 = .ok (.ireturn, 1) := by decide +kernel
theorem dX8_size_14 : decode cX8_size 14 = .ok (.iload_n 2, 1) := by decide +kernel
theorem dX8_size_15 : decode cX8_size 15 = .ok (.iconst 4, 1) := by decide +kernel
theorem dX8_size_16 : decode cX8_size 16 = .ok (.if_icmp .le 6, 3) := by decide +kernel
theorem dX8_size_22 : decode cX8_size 22 = .ok (.aload_n 0, 1) := by decide +kernel
theorem dX8_size_23 : decode cX8_size 23 = .ok (.getfield 47, 3) := by decide +kernel
theorem dX8_size_26 : decode cX8_size 26 = .ok (.iload_n 1, 1) := by decide +kernel
theorem dX8_size_27 : decode cX8_size 27 = .ok (.iload_n 2, 1) := by decide +kernel
theorem dX8_size_28 : decode cX8_size 28 = .ok (.invokevirtual 186, 3) := by decide +kernel
theorem dX8_size_31 : decode cX8_size 31 = .ok (.ireturn, 1) := by decide +kernel
theorem dX8_size_7 : decode cX8_size 7 = .ok (.iconst (-1), 1) := by decide +kernel
theorem dX8_size_8 : decode cX8_size 8 = .ok (.ireturn, 1) := by decide +kernel
theorem dX8_hits_0 : decode cX8_hits 0 = .ok (.iload_n 1, 1) := by decide +kernel
theorem dX8_hits_1 : decode cX8_hits 1 = .ok (.invokestatic 176, 3) := by decide +kernel
theorem dX8_hits_4 : decode cX8_hits 4 = .ok (.ifCond .ne 5, 3) := by decide +kernel
theorem dX8_hits_9 : decode cX8_hits 9 = .ok (.iload_n 2, 1) := by decide +kernel
theorem dX8_hits_10 : decode cX8_hits 10 = .ok (.ifCond .ne 12, 3) := by decide +kernel
theorem dX8_hits_22 : decode cX8_hits 22 = .ok (.iload_n 2, 1) := by decide +kernel
theorem dX8_hits_23 : decode cX8_hits 23 = .ok (.iconst 1, 1) := by decide +kernel
theorem dX8_hits_24 : decode cX8_hits 24 = .ok (.if_icmp .ne 20, 3) := by decide +kernel
theorem dX8_hits_44 : decode cX8_hits 44 = .ok (.iload_n 2, 1) := by decide +kernel
theorem dX8_hits_45 : decode cX8_hits 45 = .ok (.iconst 2, 1) := by decide +kernel
theorem dX8_hits_46 : decode cX8_hits 46 = .ok (.if_icmp .ne 12, 3) := by decide +kernel
theorem dX8_hits_58 : decode cX8_hits 58 = .ok (.iload_n 2, 1) := by decide +kernel
theorem dX8_hits_59 : decode cX8_hits 59 = .ok (.bipush 10, 2) := by decide +kernel
theorem dX8_hits_61 : decode cX8_hits 61 = .ok (.if_icmp .lt 9, 3) := by decide +kernel
theorem dX8_hits_70 : decode cX8_hits 70 = .ok (.bipush (-2), 2) := by decide +kernel
theorem dX8_hits_72 : decode cX8_hits 72 = .ok (.ireturn, 1) := by decide +kernel
theorem dX8_hits_64 : decode cX8_hits 64 = .ok (.iload_n 2, 1) := by decide +kernel
theorem dX8_hits_65 : decode cX8_hits 65 = .ok (.bipush 14, 2) := by decide +kernel
theorem dX8_hits_67 : decode cX8_hits 67 = .ok (.if_icmp .lt 6, 3) := by decide +kernel
theorem dX8_hits_73 : decode cX8_hits 73 = .ok (.aload_n 0, 1) := by decide +kernel
theorem dX8_hits_74 : decode cX8_hits 74 = .ok (.getfield 47, 3) := by decide +kernel
theorem dX8_hits_77 : decode cX8_hits 77 = .ok (.iload_n 1, 1) := by decide +kernel
theorem dX8_hits_78 : decode cX8_hits 78 = .ok (.aload_n 0, 1) := by decide +kernel
theorem dX8_hits_79 : decode cX8_hits 79 = .ok (.getfield 47, 3) := by decide +kernel
theorem dX8_hits_82 : decode cX8_hits 82 = .ok (.iload_n 1, 1) := by decide +kernel
theorem dX8_hits_83 : decode cX8_hits 83 = .ok (.invokevirtual 192, 3) := by decide +kernel
theorem dX8_hits_86 : decode cX8_hits 86 = .ok (.invokevirtual 195, 3) := by decide +kernel
theorem dX8_hits_89 : decode cX8_hits 89 = .ok (.pop, 1) := by decide +kernel
theorem dX8_hits_90 : decode cX8_hits 90 = .ok (.aload_n 0, 1) := by decide +kernel
theorem dX8_hits_91 : decode cX8_hits 91 = .ok (.getfield 47, 3) := by decide +kernel
theorem dX8_hits_94 : decode cX8_hits 94 = .ok (.iload_n 2, 1) := by decide +kernel
theorem dX8_hits_95 : decode cX8_hits 95 = .ok (.bipush 10, 2) := by decide +kernel
theorem dX8_hits_97 : decode cX8_hits 97 = .ok (.isub, 1) := by decide +kernel
theorem dX8_hits_98 : decode cX8_hits 98 = .ok (.invokevirtual 201, 3) := by decide +kernel
theorem dX8_hits_101 : decode cX8_hits 101 = .ok (.ireturn, 1) := by decide +kernel
theorem dX8_hits_49 : decode cX8_hits 49 = .ok (.aload_n 0, 1) := by decide +kernel
theorem dX8_hits_50 : decode cX8_hits 50 = .ok (.getfield 47, 3) := by decide +kernel
theorem dX8_hits_53 : decode cX8_hits 53 = .ok (.iload_n 1, 1) := by decide +kernel
theorem dX8_hits_54 : decode cX8_hits 54 = .ok (.invokevirtual 198, 3) := by decide +kernel
theorem dX8_hits_57 : decode cX8_hits 57 = .ok (.ireturn, 1) := by decide +kernel
theorem dX8_hits_27 : decode cX8_hits 27 = .ok (.aload_n 0, 1) := by decide +kernel
theorem dX8_hits_28 : decode cX8_hits 28 = .ok (.getfield 47, 3) := by decide +kernel
theorem dX8_hits_31 : decode cX8_hits 31 = .ok (.iload_n 1, 1) := by decide +kernel
theorem dX8_hits_32 : decode cX8_hits 32 = .ok (.aload_n 0, 1) := by decide +kernel
theorem dX8_hits_33 : decode cX8_hits 33 = .ok (.getfield 47, 3) := by decide +kernel
theorem dX8_hits_36 : decode cX8_hits 36 = .ok (.iload_n 1, 1) := by decide +kernel
theorem dX8_hits_37 : decode cX8_hits 37 = .ok (.invokevirtual 192, 3) := by decide +kernel
theorem dX8_hits_40 : decode cX8_hits 40 = .ok (.invokevirtual 195, 3) := by decide +kernel
theorem dX8_hits_43 : decode cX8_hits 43 = .ok (.ireturn, 1) := by decide +kernel
theorem dX8_hits_13 : decode cX8_hits 13 = .ok (.aload_n 0, 1) := by decide +kernel
theorem dX8_hits_14 : decode cX8_hits 14 = .ok (.getfield 47, 3) := by decide +kernel
theorem dX8_hits_17 : decode cX8_hits 17 = .ok (.iload_n 1, 1) := by decide +kernel
theorem dX8_hits_18 : decode cX8_hits 18 = .ok (.invokevirtual 189, 3) := by decide +kernel
theorem dX8_hits_21 : decode cX8_hits 21 = .ok (.ireturn, 1) := by decide +kernel
theorem dX8_hits_7 : decode cX8_hits 7 = .ok (.iconst (-1), 1) := by decide +kernel
theorem dX8_hits_8 : decode cX8_hits 8 = .ok (.ireturn, 1) := by decide +kernel
theorem dX8_need_0 : decode cX8_need 0 = .ok (.iload_n 1, 1) := by decide +kernel
theorem dX8_need_1 : decode cX8_need 1 = .ok (.invokestatic 176, 3) := by decide +kernel
theorem dX8_need_4 : decode cX8_need 4 = .ok (.ifCond .ne 5, 3) := by decide +kernel
theorem dX8_need_9 : decode cX8_need 9 = .ok (.iload_n 2, 1) := by decide +kernel
theorem dX8_need_10 : decode cX8_need 10 = .ok (.ifCond .lt 9, 3) := by decide +kernel
theorem dX8_need_19 : decode cX8_need 19 = .ok (.bipush (-2), 2) := by decide +kernel
theorem dX8_need_21 : decode cX8_need 21 = .ok (.ireturn, 1) := by decide +kernel
theorem dX8_need_13 : decode cX8_need 13 = .ok (.iload_n 2, 1) := by decide +kernel
theorem dX8_need_14 : decode cX8_need 14 = .ok (.bipush 40, 2) := by decide +kernel
theorem dX8_need_16 : decode cX8_need 16 = .ok (.if_icmp .le 6, 3) := by decide +kernel
theorem dX8_need_22 : decode cX8_need 22 = .ok (.iconst 1, 1) := by decide +kernel
theorem dX8_need_23 : decode cX8_need 23 = .ok (.istore_n 3, 1) := by decide +kernel
theorem dX8_need_24 : decode cX8_need 24 = .ok (.iload_n 3, 1) := by decide +kernel
theorem dX8_need_25 : decode cX8_need 25 = .ok (.iconst 4, 1) := by decide +kernel
theorem dX8_need_26 : decode cX8_need 26 = .ok (.if_icmp .gt 24, 3) := by decide +kernel
theorem dX8_need_29 : decode cX8_need 29 = .ok (.aload_n 0, 1) := by decide +kernel
theorem dX8_need_30 : decode cX8_need 30 = .ok (.getfield 47, 3) := by decide +kernel
theorem dX8_need_33 : decode cX8_need 33 = .ok (.iload_n 1, 1) := by decide +kernel
theorem dX8_need_34 : decode cX8_need 34 = .ok (.iload_n 3, 1) := by decide +kernel
theorem dX8_need_35 : decode cX8_need 35 = .ok (.invokevirtual 195, 3) := by decide +kernel
theorem dX8_need_38 : decode cX8_need 38 = .ok (.iload_n 2, 1) := by decide +kernel
theorem dX8_need_39 : decode cX8_need 39 = .ok (.if_icmp .lt 5, 3) := by decide +kernel
theorem dX8_need_44 : decode cX8_need 44 = .ok (.iinc 3 1, 3) := by decide +kernel
theorem dX8_need_47 : decode cX8_need 47 = .ok (.goto (-23), 3) := by decide +kernel
theorem dX8_need_50 : decode cX8_need 50 = .ok (.bipush (-6), 2) := by decide +kernel
theorem dX8_need_52 : decode cX8_need 52 = .ok (.ireturn, 1) := by decide +kernel
theorem dX8_need_42 : decode cX8_need 42 = .ok (.iload_n 3, 1) := by decide +kernel
theorem dX8_need_43 : decode cX8_need 43 = .ok (.ireturn, 1) := by decide +kernel
theorem dX8_need_7 : decode cX8_need 7 = .ok (.iconst (-1), 1) := by decide +kernel
theorem dX8_need_8 : decode cX8_need 8 = .ok (.ireturn, 1) := by decide +kernel
theorem dX8_told_0 : decode cX8_told 0 = .ok (.iload_n 1, 1) := by decide +kernel
theorem dX8_told_1 : decode cX8_told 1 = .ok (.ifCond .ne 11, 3) := by decide +kernel
theorem dX8_told_12 : decode cX8_told 12 = .ok (.iload_n 1, 1) := by decide +kernel
theorem dX8_told_13 : decode cX8_told 13 = .ok (.iconst 1, 1) := by decide +kernel
theorem dX8_told_14 : decode cX8_told 14 = .ok (.if_icmp .ne 11, 3) := by decide +kernel
theorem dX8_told_25 : decode cX8_told 25 = .ok (.iload_n 1, 1) := by decide +kernel
theorem dX8_told_26 : decode cX8_told 26 = .ok (.iconst 2, 1) := by decide +kernel
theorem dX8_told_27 : decode cX8_told 27 = .ok (.if_icmp .ne 11, 3) := by decide +kernel
theorem dX8_told_38 : decode cX8_told 38 = .ok (.iload_n 1, 1) := by decide +kernel
theorem dX8_told_39 : decode cX8_told 39 = .ok (.bipush 10, 2) := by decide +kernel
theorem dX8_told_41 : decode cX8_told 41 = .ok (.if_icmp .lt 21, 3) := by decide +kernel
theorem dX8_told_62 : decode cX8_told 62 = .ok (.iload_n 1, 1) := by decide +kernel
theorem dX8_told_63 : decode cX8_told 63 = .ok (.bipush 20, 2) := by decide +kernel
theorem dX8_told_65 : decode cX8_told 65 = .ok (.if_icmp .lt 29, 3) := by decide +kernel
theorem dX8_told_94 : decode cX8_told 94 = .ok (.bipush (-2), 2) := by decide +kernel
theorem dX8_told_96 : decode cX8_told 96 = .ok (.ireturn, 1) := by decide +kernel
theorem dX8_told_44 : decode cX8_told 44 = .ok (.iload_n 1, 1) := by decide +kernel
theorem dX8_told_45 : decode cX8_told 45 = .ok (.bipush 20, 2) := by decide +kernel
theorem dX8_told_47 : decode cX8_told 47 = .ok (.if_icmp .ge 15, 3) := by decide +kernel
theorem dX8_told_68 : decode cX8_told 68 = .ok (.iload_n 1, 1) := by decide +kernel
theorem dX8_told_69 : decode cX8_told 69 = .ok (.bipush 30, 2) := by decide +kernel
theorem dX8_told_71 : decode cX8_told 71 = .ok (.if_icmp .ge 23, 3) := by decide +kernel
theorem dX8_told_74 : decode cX8_told 74 = .ok (.aload_n 0, 1) := by decide +kernel
theorem dX8_told_75 : decode cX8_told 75 = .ok (.getfield 10, 3) := by decide +kernel
theorem dX8_told_78 : decode cX8_told 78 = .ok (.iload_n 1, 1) := by decide +kernel
theorem dX8_told_79 : decode cX8_told 79 = .ok (.bipush 20, 2) := by decide +kernel
theorem dX8_told_81 : decode cX8_told 81 = .ok (.isub, 1) := by decide +kernel
theorem dX8_told_82 : decode cX8_told 82 = .ok (.invokevirtual 63, 3) := by decide +kernel
theorem dX8_told_85 : decode cX8_told 85 = .ok (.ifCond .eq 7, 3) := by decide +kernel
theorem dX8_told_92 : decode cX8_told 92 = .ok (.iconst 0, 1) := by decide +kernel
theorem dX8_told_93 : decode cX8_told 93 = .ok (.ireturn, 1) := by decide +kernel
theorem dX8_told_50 : decode cX8_told 50 = .ok (.aload_n 0, 1) := by decide +kernel
theorem dX8_told_51 : decode cX8_told 51 = .ok (.getfield 26, 3) := by decide +kernel
theorem dX8_told_54 : decode cX8_told 54 = .ok (.iload_n 1, 1) := by decide +kernel
theorem dX8_told_55 : decode cX8_told 55 = .ok (.bipush 10, 2) := by decide +kernel
theorem dX8_told_57 : decode cX8_told 57 = .ok (.isub, 1) := by decide +kernel
theorem dX8_told_58 : decode cX8_told 58 = .ok (.invokevirtual 211, 3) := by decide +kernel
theorem dX8_told_61 : decode cX8_told 61 = .ok (.ireturn, 1) := by decide +kernel
theorem dX8_told_30 : decode cX8_told 30 = .ok (.aload_n 0, 1) := by decide +kernel
theorem dX8_told_31 : decode cX8_told 31 = .ok (.getfield 47, 3) := by decide +kernel
theorem dX8_told_34 : decode cX8_told 34 = .ok (.invokevirtual 210, 3) := by decide +kernel
theorem dX8_told_37 : decode cX8_told 37 = .ok (.ireturn, 1) := by decide +kernel
theorem dX8_told_17 : decode cX8_told 17 = .ok (.aload_n 0, 1) := by decide +kernel
theorem dX8_told_18 : decode cX8_told 18 = .ok (.getfield 19, 3) := by decide +kernel
theorem dX8_told_21 : decode cX8_told 21 = .ok (.invokevirtual 207, 3) := by decide +kernel
theorem dX8_told_24 : decode cX8_told 24 = .ok (.ireturn, 1) := by decide +kernel
theorem dX8_told_4 : decode cX8_told 4 = .ok (.aload_n 0, 1) := by decide +kernel
theorem dX8_told_5 : decode cX8_told 5 = .ok (.getfield 10, 3) := by decide +kernel
theorem dX8_told_8 : decode cX8_told 8 = .ok (.invokevirtual 204, 3) := by decide +kernel
theorem dX8_told_11 : decode cX8_told 11 = .ok (.ireturn, 1) := by decide +kernel
set_option maxHeartbeats 4000000 in
set_option maxRecDepth 100000 in
theorem x_doubt (l : Launch) (dC : Nat → ClassId) (dI : Nat → Nat → Nat) (sz : Nat) (h0 : Nat) (p1 : Nat) (u1 : Value) (p3 : Nat) (u3 : Value) (u4 : Value) (u5 : Value) (w0 : Value) (w1 : Value) (w2 : Value) (w3 : Value) (w4 : Value) (w5 : Value) (w7 : Value) (e0 : Nat) (z1 : Value) (z2 : Value) (ke0 : ClassId) (n1 : Int32)  : Met l yX8_doubt (wq yX8_doubt cX8_doubt 2 (some .int)) ({ frames := 2, cells := 0, slots := 0, locals := 44 }) (va_Pc [.ref h0, .int n1] (pcW dC dI [(ke0, .int)] [(h0, .inr (7, [.ref p1, u1, .ref p3, u3, u4, u5])), (p1, .inr (1, [w0, w1, w2, w3, w4, w5, .int 0, w7])), (p3, .inr (0, [.ref e0, z1, z2])), (e0, .inl (ke0, 8, .inl (fun _ => 0)))] sz)) (va_Qi (fun (r : Int32) (_ : Unit) => r = F_name n1) (fun _ _ => True) (fun q : Nat => sz ≤ q)) 0 0 (fun q : Nat => sz ≤ q) := by
  refine Met.ofW (cc := cX8_doubt) (maxL := 2) (ret := (some .int)) (by decide) rfl ?_
  intro p e s m args below meth c s₁ B hml hv
  obtain ⟨rfl, hsz, hN, hP, hK, hD0⟩ := hv
  have hx := B.exec
  have hb := B.bytes
  have hr := B.returns
  have hts0 := atoms_spec (ws := (wq yX8_doubt cX8_doubt 2 (some .int))) B.pre
  have hts : ∀ w ∈ BG, w.before _ s = true := fun w h => hts0 w (List.mem_cons_of_mem _ h)
  have hown : s.vm.findClass RX8 = some m.cls := findClass_of_methodNamed B.named
  have hlocks := B.notSynchronized
  subst hsz
  have hA : ∀ q : Nat, s.heap.size ≤ q → (fun q : Nat => s.heap.size ≤ q) q := fun _ h => h
  have hD := hD0
  have hS : va_S (fun q : Nat => s.heap.size ≤ q) s.heap s.heap [] := va_S.rf
  have hP : va_P (dC, dI) vwCl [(h0, .inr (7, [.ref p1, u1, .ref p3, u3, u4, u5])), (p1, .inr (1, [w0, w1, w2, w3, w4, w5, .int 0, w7])), (p3, .inr (0, [.ref e0, z1, z2])), (e0, .inl (ke0, 8, .inl (fun _ => 0)))] s.heap := hP
  have hl := lv_entry ([.ref h0, .int n1]) (n := 2) (Nat.le_of_ble_eq_true rfl)
  rw [lg_entry_eq]
  generalize (lg_sl ([.ref h0, .int n1]) ++ List.replicate (2 - (lg_sl ([.ref h0, .int n1])).length) Slot.unset).toArray = ls at hl ⊢
  have hl : lv_has ls 2 [(0, .ref h0), (1, .int n1)] := hl
  skip
  refine lv_iload_n hx hb dX8_doubt_0 rfl (lv_at hl 1 rfl) ?_
  have hPc := hP.sub (ws' := []) [] rfl
  have hDc := hD.sub (ws' := []) [] (by decide) rfl
  have hKc := hK.sub (tys' := []) [] rfl
  refine va_calli (va_runS (As := [.int n1]) (rest := []) ⟨hx, hb, hml, hown, hts⟩ (c_isName l dC dI s.heap.size n1) (va_cwS 1 hts (gS mw_2_97 mw_2_98 mw_1_1 mw_2_99) rfl rfl rfl (by decide +kernel) ⟨Nat.le_of_ble_eq_true rfl, Nat.le_of_ble_eq_true rfl⟩) ⟨pcW_blind, pcW_at hPc hKc hDc hN⟩ rfl rfl hl.1 rfl (lv_room (Nat.le_of_ble_eq_true rfl)) dX8_doubt_1 ⟨Nat.le_of_ble_eq_true rfl, Nat.le_of_ble_eq_true rfl⟩) hS (fun q h1 h2 => absurd h2 (Nat.not_le.mpr h1)) (fun q h => hA q (Nat.le_trans hS.1 h)) (fun r_1 u t H1 locs ht hvm hw_1 hB hz1 hk1 hS => ?_)
  have hP := keepP hP hk1
  clear hz1 hk1 hB ht hvm hPc hDc hKc
  generalize H1 = H at hP hS ⊢
  rcases fx_bool hw_1 with ⟨rfl, b_2⟩ | ⟨rfl, b_2⟩
  · skip
    refine lv_if_ne (tgt := 9) hx hb dX8_doubt_4 (by decide) (fun _ => ?_) (fun h => absurd h (by decide))
    refine lv_aload_n hx hb dX8_doubt_9 rfl (lv_at hl 0 rfl) ?_
    refine va_get (D := (dC, dI)) (ci := 7) (v := .ref p1) (C := RX8) (T := TX8) (N := 6) hx hb hts inB_8 hown hK hP 0 rfl rfl 0 (by decide) (hts _ mw_1_168) (fun _ h9 => h9) rfl dX8_doubt_10 ?_
    refine lv_aload_n hx hb dX8_doubt_13 rfl (lv_at hl 0 rfl) ?_
    refine va_get (D := (dC, dI)) (ci := 7) (v := .ref p3) (C := RX8) (T := TX8) (N := 6) hx hb hts inB_8 hown hK hP 0 rfl rfl 2 (by decide) (hts _ mw_1_170) (fun _ h9 => h9) rfl dX8_doubt_14 ?_
    refine lv_iload_n hx hb dX8_doubt_17 rfl (lv_at hl 1 rfl) ?_
    have hPc := hP.sub (ws' := [(p3, .inr (0, [.ref e0, z1, z2])), (e0, .inl (ke0, 8, .inl (fun _ => 0)))]) [2, 3] rfl
    have hDc := hD.sub (ws' := [(p3, .inr (0, [.ref e0, z1, z2])), (e0, .inl (ke0, 8, .inl (fun _ => 0)))]) [2, 3] (by decide) rfl
    have hKc := hK.sub (tys' := [(ke0, .int)]) [0] rfl
    refine va_calli (va_runV (As := [.int n1]) (rest := [.ref p1]) ⟨hx, hb, hml, hown, hts⟩ (c_own l dC dI H.size p3 e0 (z1) (z2) ke0 n1) (cwV 1 hts (gV mw_2_140 mw_2_105 mw_2_106 mw_1_5 mw_2_107) rfl rfl rfl (by decide +kernel) ⟨Nat.le_of_ble_eq_true rfl, Nat.le_of_ble_eq_true rfl⟩) ⟨pcW_blind, va_recv hKc hPc (ci := 0) (q0 := 0) rfl rfl, pcW_at hPc hKc hDc hN⟩ rfl rfl hl.1 rfl (lv_room (Nat.le_of_ble_eq_true rfl)) dX8_doubt_18 ⟨Nat.le_of_ble_eq_true rfl, Nat.le_of_ble_eq_true rfl⟩) hS (fun q h1 h2 => absurd h2 (Nat.not_le.mpr h1)) (fun q h => hA q (Nat.le_trans hS.1 h)) (fun r_3 u t H1 locs ht hvm hw_3 hB hz1 hk1 hS => ?_)
    have hP := keepP hP hk1
    clear hz1 hk1 hB ht hvm hPc hDc hKc
    generalize H1 = H at hP hS ⊢
    obtain rfl : r_3 = 0 := hw_3
    have hPc := hP.sub (ws' := [(p1, .inr (1, [w0, w1, w2, w3, w4, w5, .int 0, w7]))]) [1] rfl
    have hDc := hD.sub (ws' := [(p1, .inr (1, [w0, w1, w2, w3, w4, w5, .int 0, w7]))]) [1] (by decide) rfl
    have hKc := hK.sub (tys' := []) [] rfl
    refine va_calli (va_runS (As := [.ref p1, .int 0]) (rest := []) ⟨hx, hb, hml, hown, hts⟩ (c_doubtful l dC dI H.size p1 (w0) (w1) (w2) (w3) (w4) (w5) (w7) 0) (va_cwS 2 hts (gS mw_2_206 mw_2_207 mw_1_11 mw_2_208) rfl rfl rfl (by decide +kernel) ⟨Nat.le_of_ble_eq_true rfl, Nat.le_of_ble_eq_true rfl⟩) ⟨pcW_blind, pcW_at hPc hKc hDc hN⟩ rfl rfl hl.1 rfl (lv_room (Nat.le_of_ble_eq_true rfl)) dX8_doubt_21 ⟨Nat.le_of_ble_eq_true rfl, Nat.le_of_ble_eq_true rfl⟩) hS (fun q h1 h2 => absurd h2 (Nat.not_le.mpr h1)) (fun q h => hA q (Nat.le_trans hS.1 h)) (fun r_4 u t H1 locs ht hvm hw_4 hB hz1 hk1 hS => ?_)
    have hP := keepP hP hk1
    clear hz1 hk1 hB ht hvm hPc hDc hKc
    generalize H1 = H at hP hS ⊢
    obtain rfl : r_4 = 0 := hw_4
    exact W.iret (v := 0) hx hb hr (fun t ht hW => ⟨⟨0, (), rfl, (by (unfold F_name; repeat' split) <;> first | rfl | (exfalso; omega)), trivial⟩, hS.F ht⟩) hS.2.2 dX8_doubt_24
  · skip
    refine lv_if_ne (tgt := 9) hx hb dX8_doubt_4 (by decide) (fun h => absurd h (by decide)) (fun _ => ?_)
    refine lv_iconst (v := (-1)) hx hb dX8_doubt_7 (by decide) ?_
    exact W.iret (v := (-1)) hx hb hr (fun t ht hW => ⟨⟨(-1), (), rfl, (by (unfold F_name; repeat' split) <;> first | rfl | (exfalso; omega)), trivial⟩, hS.F ht⟩) hS.2.2 dX8_doubt_8
set_option maxHeartbeats 4000000 in
set_option maxRecDepth 100000 in
theorem x_settle (l : Launch) (dC : Nat → ClassId) (dI : Nat → Nat → Nat) (sz : Nat) (h0 : Nat) (p1 : Nat) (u1 : Value) (p3 : Nat) (u3 : Value) (u4 : Value) (u5 : Value) (w0 : Value) (w1 : Value) (w2 : Value) (w3 : Value) (w4 : Value) (w5 : Value) (w7 : Value) (e0 : Nat) (z1 : Value) (z2 : Value) (ke0 : ClassId) (n1 : Int32) (n2 : Int32)  : Met l yX8_settle (wq yX8_settle cX8_settle 3 (some .int)) ({ frames := 2, cells := 0, slots := 0, locals := 44 }) (va_Pc [.ref h0, .int n1, .int n2] (pcW dC dI [(ke0, .int)] [(h0, .inr (7, [.ref p1, u1, .ref p3, u3, u4, u5])), (p1, .inr (1, [w0, w1, w2, w3, w4, w5, .int 0, w7])), (p3, .inr (0, [.ref e0, z1, z2])), (e0, .inl (ke0, 8, .inl (fun _ => 0)))] sz)) (va_Qi (fun (r : Int32) (_ : Unit) => r = F_settle n1 n2) (fun _ _ => True) (fun q : Nat => sz ≤ q)) 0 0 (fun q : Nat => sz ≤ q) := by
  refine Met.ofW (cc := cX8_settle) (maxL := 3) (ret := (some .int)) (by decide) rfl ?_
  intro p e s m args below meth c s₁ B hml hv
  obtain ⟨rfl, hsz, hN, hP, hK, hD0⟩ := hv
  have hx := B.exec
  have hb := B.bytes
  have hr := B.returns
  have hts0 := atoms_spec (ws := (wq yX8_settle cX8_settle 3 (some .int))) B.pre
  have hts : ∀ w ∈ BG, w.before _ s = true := fun w h => hts0 w (List.mem_cons_of_mem _ h)
  have hown : s.vm.findClass RX8 = some m.cls := findClass_of_methodNamed B.named
  have hlocks := B.notSynchronized
  subst hsz
  have hA : ∀ q : Nat, s.heap.size ≤ q → (fun q : Nat => s.heap.size ≤ q) q := fun _ h => h
  have hD := hD0
  have hS : va_S (fun q : Nat => s.heap.size ≤ q) s.heap s.heap [] := va_S.rf
  have hP : va_P (dC, dI) vwCl [(h0, .inr (7, [.ref p1, u1, .ref p3, u3, u4, u5])), (p1, .inr (1, [w0, w1, w2, w3, w4, w5, .int 0, w7])), (p3, .inr (0, [.ref e0, z1, z2])), (e0, .inl (ke0, 8, .inl (fun _ => 0)))] s.heap := hP
  have hl := lv_entry ([.ref h0, .int n1, .int n2]) (n := 3) (Nat.le_of_ble_eq_true rfl)
  rw [lg_entry_eq]
  generalize (lg_sl ([.ref h0, .int n1, .int n2]) ++ List.replicate (3 - (lg_sl ([.ref h0, .int n1, .int n2])).length) Slot.unset).toArray = ls at hl ⊢
  have hl : lv_has ls 3 [(0, .ref h0), (1, .int n1), (2, .int n2)] := hl
  skip
  refine lv_iload_n hx hb dX8_settle_0 rfl (lv_at hl 1 rfl) ?_
  have hPc := hP.sub (ws' := []) [] rfl
  have hDc := hD.sub (ws' := []) [] (by decide) rfl
  have hKc := hK.sub (tys' := []) [] rfl
  refine va_calli (va_runS (As := [.int n1]) (rest := []) ⟨hx, hb, hml, hown, hts⟩ (c_isName l dC dI s.heap.size n1) (va_cwS 1 hts (gS mw_2_97 mw_2_98 mw_1_1 mw_2_99) rfl rfl rfl (by decide +kernel) ⟨Nat.le_of_ble_eq_true rfl, Nat.le_of_ble_eq_true rfl⟩) ⟨pcW_blind, pcW_at hPc hKc hDc hN⟩ rfl rfl hl.1 rfl (lv_room (Nat.le_of_ble_eq_true rfl)) dX8_settle_1 ⟨Nat.le_of_ble_eq_true rfl, Nat.le_of_ble_eq_true rfl⟩) hS (fun q h1 h2 => absurd h2 (Nat.not_le.mpr h1)) (fun q h => hA q (Nat.le_trans hS.1 h)) (fun r_1 u t H1 locs ht hvm hw_1 hB hz1 hk1 hS => ?_)
  have hP := keepP hP hk1
  clear hz1 hk1 hB ht hvm hPc hDc hKc
  generalize H1 = H at hP hS ⊢
  rcases fx_bool hw_1 with ⟨rfl, b_2⟩ | ⟨rfl, b_2⟩
  · skip
    refine lv_if_ne (tgt := 9) hx hb dX8_settle_4 (by decide) (fun _ => ?_) (fun h => absurd h (by decide))
    refine lv_iload_n hx hb dX8_settle_9 rfl (lv_at hl 2 rfl) ?_
    refine lv_if_eq (tgt := 21) hx hb dX8_settle_10 (by decide) (fun c_3 => ?_) (fun c_3 => ?_)
    · have b_4 := fx_eq (x := n2) (C := 0) (by decide) c_3
      refine lv_aload_n hx hb dX8_settle_21 rfl (lv_at hl 0 rfl) ?_
      refine va_get (D := (dC, dI)) (ci := 7) (v := .ref p1) (C := RX8) (T := TX8) (N := 6) hx hb hts inB_8 hown hK hP 0 rfl rfl 0 (by decide) (hts _ mw_1_168) (fun _ h9 => h9) rfl dX8_settle_22 ?_
      refine lv_aload_n hx hb dX8_settle_25 rfl (lv_at hl 0 rfl) ?_
      refine va_get (D := (dC, dI)) (ci := 7) (v := .ref p3) (C := RX8) (T := TX8) (N := 6) hx hb hts inB_8 hown hK hP 0 rfl rfl 2 (by decide) (hts _ mw_1_170) (fun _ h9 => h9) rfl dX8_settle_26 ?_
      refine lv_iload_n hx hb dX8_settle_29 rfl (lv_at hl 1 rfl) ?_
      have hPc := hP.sub (ws' := [(p3, .inr (0, [.ref e0, z1, z2])), (e0, .inl (ke0, 8, .inl (fun _ => 0)))]) [2, 3] rfl
      have hDc := hD.sub (ws' := [(p3, .inr (0, [.ref e0, z1, z2])), (e0, .inl (ke0, 8, .inl (fun _ => 0)))]) [2, 3] (by decide) rfl
      have hKc := hK.sub (tys' := [(ke0, .int)]) [0] rfl
      refine va_calli (va_runV (As := [.int n1]) (rest := [.ref p1]) ⟨hx, hb, hml, hown, hts⟩ (c_own l dC dI H.size p3 e0 (z1) (z2) ke0 n1) (cwV 1 hts (gV mw_2_140 mw_2_105 mw_2_106 mw_1_5 mw_2_107) rfl rfl rfl (by decide +kernel) ⟨Nat.le_of_ble_eq_true rfl, Nat.le_of_ble_eq_true rfl⟩) ⟨pcW_blind, va_recv hKc hPc (ci := 0) (q0 := 0) rfl rfl, pcW_at hPc hKc hDc hN⟩ rfl rfl hl.1 rfl (lv_room (Nat.le_of_ble_eq_true rfl)) dX8_settle_30 ⟨Nat.le_of_ble_eq_true rfl, Nat.le_of_ble_eq_true rfl⟩) hS (fun q h1 h2 => absurd h2 (Nat.not_le.mpr h1)) (fun q h => hA q (Nat.le_trans hS.1 h)) (fun r_5 u t H1 locs ht hvm hw_5 hB hz1 hk1 hS => ?_)
      have hP := keepP hP hk1
      clear hz1 hk1 hB ht hvm hPc hDc hKc
      generalize H1 = H at hP hS ⊢
      obtain rfl : r_5 = 0 := hw_5
      have hPc := hP.sub (ws' := [(p1, .inr (1, [w0, w1, w2, w3, w4, w5, .int 0, w7]))]) [1] rfl
      have hDc := hD.sub (ws' := [(p1, .inr (1, [w0, w1, w2, w3, w4, w5, .int 0, w7]))]) [1] (by decide) rfl
      have hKc := hK.sub (tys' := []) [] rfl
      refine va_calli (va_runS (As := [.ref p1, .int 0]) (rest := []) ⟨hx, hb, hml, hown, hts⟩ (c_settlers l dC dI H.size p1 (w0) (w1) (w2) (w3) (w4) (w5) (w7) 0) (va_cwS 2 hts (gS mw_2_227 mw_2_228 mw_1_11 mw_2_229) rfl rfl rfl (by decide +kernel) ⟨Nat.le_of_ble_eq_true rfl, Nat.le_of_ble_eq_true rfl⟩) ⟨pcW_blind, pcW_at hPc hKc hDc hN⟩ rfl rfl hl.1 rfl (lv_room (Nat.le_of_ble_eq_true rfl)) dX8_settle_33 ⟨Nat.le_of_ble_eq_true rfl, Nat.le_of_ble_eq_true rfl⟩) hS (fun q h1 h2 => absurd h2 (Nat.not_le.mpr h1)) (fun q h => hA q (Nat.le_trans hS.1 h)) (fun r_6 u t H1 locs ht hvm hw_6 hB hz1 hk1 hS => ?_)
      have hP := keepP hP hk1
      clear hz1 hk1 hB ht hvm hPc hDc hKc
      generalize H1 = H at hP hS ⊢
      obtain rfl : r_6 = 0 := hw_6
      refine lv_iload_n hx hb dX8_settle_36 rfl (lv_at hl 2 rfl) ?_
      refine hx_top (y := 0) (fx_sing (C := 0) (by decide) (by omega)) ?_
      have hPc := hP.sub (ws' := []) [] rfl
      have hDc := hD.sub (ws' := []) [] (by decide) rfl
      have hKc := hK.sub (tys' := []) [] rfl
      refine va_calli (va_runS (As := [.int 0, .int 0]) (rest := []) ⟨hx, hb, hml, hown, hts⟩ (c_boc l dC dI H.size 0) (va_cwS 2 hts (gS mw_2_230 mw_2_231 mw_1_1 mw_2_232) rfl rfl rfl (by decide +kernel) ⟨Nat.le_of_ble_eq_true rfl, Nat.le_of_ble_eq_true rfl⟩) ⟨pcW_blind, pcW_at hPc hKc hDc hN⟩ rfl rfl hl.1 rfl (lv_room (Nat.le_of_ble_eq_true rfl)) dX8_settle_37 ⟨Nat.le_of_ble_eq_true rfl, Nat.le_of_ble_eq_true rfl⟩) hS (fun q h1 h2 => absurd h2 (Nat.not_le.mpr h1)) (fun q h => hA q (Nat.le_trans hS.1 h)) (fun r_7 u t H1 locs ht hvm hw_7 hB hz1 hk1 hS => ?_)
      have hP := keepP hP hk1
      clear hz1 hk1 hB ht hvm hPc hDc hKc
      generalize H1 = H at hP hS ⊢
      obtain rfl : r_7 = 0 := hw_7
      exact W.iret (v := 0) hx hb hr (fun t ht hW => ⟨⟨0, (), rfl, (by (unfold F_settle; repeat' split) <;> first | rfl | (exfalso; omega)), trivial⟩, hS.F ht⟩) hS.2.2 dX8_settle_40
    · have b_4 := fn_eq (x := n2) (C := 0) (by decide) c_3
      refine lv_iload_n hx hb dX8_settle_13 rfl (lv_at hl 2 rfl) ?_
      refine lv_iconst (v := 1) hx hb dX8_settle_14 (by decide) ?_
      refine lv_icmp_eq (tgt := 21) hx hb dX8_settle_15 (by decide) (fun c_8 => ?_) (fun c_8 => ?_)
      · have b_9 := fx_eq (x := n2) (C := 1) (by decide) c_8
        refine lv_aload_n hx hb dX8_settle_21 rfl (lv_at hl 0 rfl) ?_
        refine va_get (D := (dC, dI)) (ci := 7) (v := .ref p1) (C := RX8) (T := TX8) (N := 6) hx hb hts inB_8 hown hK hP 0 rfl rfl 0 (by decide) (hts _ mw_1_168) (fun _ h9 => h9) rfl dX8_settle_22 ?_
        refine lv_aload_n hx hb dX8_settle_25 rfl (lv_at hl 0 rfl) ?_
        refine va_get (D := (dC, dI)) (ci := 7) (v := .ref p3) (C := RX8) (T := TX8) (N := 6) hx hb hts inB_8 hown hK hP 0 rfl rfl 2 (by decide) (hts _ mw_1_170) (fun _ h9 => h9) rfl dX8_settle_26 ?_
        refine lv_iload_n hx hb dX8_settle_29 rfl (lv_at hl 1 rfl) ?_
        have hPc := hP.sub (ws' := [(p3, .inr (0, [.ref e0, z1, z2])), (e0, .inl (ke0, 8, .inl (fun _ => 0)))]) [2, 3] rfl
        have hDc := hD.sub (ws' := [(p3, .inr (0, [.ref e0, z1, z2])), (e0, .inl (ke0, 8, .inl (fun _ => 0)))]) [2, 3] (by decide) rfl
        have hKc := hK.sub (tys' := [(ke0, .int)]) [0] rfl
        refine va_calli (va_runV (As := [.int n1]) (rest := [.ref p1]) ⟨hx, hb, hml, hown, hts⟩ (c_own l dC dI H.size p3 e0 (z1) (z2) ke0 n1) (cwV 1 hts (gV mw_2_140 mw_2_105 mw_2_106 mw_1_5 mw_2_107) rfl rfl rfl (by decide +kernel) ⟨Nat.le_of_ble_eq_true rfl, Nat.le_of_ble_eq_true rfl⟩) ⟨pcW_blind, va_recv hKc hPc (ci := 0) (q0 := 0) rfl rfl, pcW_at hPc hKc hDc hN⟩ rfl rfl hl.1 rfl (lv_room (Nat.le_of_ble_eq_true rfl)) dX8_settle_30 ⟨Nat.le_of_ble_eq_true rfl, Nat.le_of_ble_eq_true rfl⟩) hS (fun q h1 h2 => absurd h2 (Nat.not_le.mpr h1)) (fun q h => hA q (Nat.le_trans hS.1 h)) (fun r_10 u t H1 locs ht hvm hw_10 hB hz1 hk1 hS => ?_)
        have hP := keepP hP hk1
        clear hz1 hk1 hB ht hvm hPc hDc hKc
        generalize H1 = H at hP hS ⊢
        obtain rfl : r_10 = 0 := hw_10
        have hPc := hP.sub (ws' := [(p1, .inr (1, [w0, w1, w2, w3, w4, w5, .int 0, w7]))]) [1] rfl
        have hDc := hD.sub (ws' := [(p1, .inr (1, [w0, w1, w2, w3, w4, w5, .int 0, w7]))]) [1] (by decide) rfl
        have hKc := hK.sub (tys' := []) [] rfl
        refine va_calli (va_runS (As := [.ref p1, .int 0]) (rest := []) ⟨hx, hb, hml, hown, hts⟩ (c_settlers l dC dI H.size p1 (w0) (w1) (w2) (w3) (w4) (w5) (w7) 0) (va_cwS 2 hts (gS mw_2_227 mw_2_228 mw_1_11 mw_2_229) rfl rfl rfl (by decide +kernel) ⟨Nat.le_of_ble_eq_true rfl, Nat.le_of_ble_eq_true rfl⟩) ⟨pcW_blind, pcW_at hPc hKc hDc hN⟩ rfl rfl hl.1 rfl (lv_room (Nat.le_of_ble_eq_true rfl)) dX8_settle_33 ⟨Nat.le_of_ble_eq_true rfl, Nat.le_of_ble_eq_true rfl⟩) hS (fun q h1 h2 => absurd h2 (Nat.not_le.mpr h1)) (fun q h => hA q (Nat.le_trans hS.1 h)) (fun r_11 u t H1 locs ht hvm hw_11 hB hz1 hk1 hS => ?_)
        have hP := keepP hP hk1
        clear hz1 hk1 hB ht hvm hPc hDc hKc
        generalize H1 = H at hP hS ⊢
        obtain rfl : r_11 = 0 := hw_11
        refine lv_iload_n hx hb dX8_settle_36 rfl (lv_at hl 2 rfl) ?_
        refine hx_top (y := 1) (fx_sing (C := 1) (by decide) (by omega)) ?_
        have hPc := hP.sub (ws' := []) [] rfl
        have hDc := hD.sub (ws' := []) [] (by decide) rfl
        have hKc := hK.sub (tys' := []) [] rfl
        refine va_calli (va_runS (As := [.int 0, .int 1]) (rest := []) ⟨hx, hb, hml, hown, hts⟩ (c_boc l dC dI H.size 1) (va_cwS 2 hts (gS mw_2_230 mw_2_231 mw_1_1 mw_2_232) rfl rfl rfl (by decide +kernel) ⟨Nat.le_of_ble_eq_true rfl, Nat.le_of_ble_eq_true rfl⟩) ⟨pcW_blind, pcW_at hPc hKc hDc hN⟩ rfl rfl hl.1 rfl (lv_room (Nat.le_of_ble_eq_true rfl)) dX8_settle_37 ⟨Nat.le_of_ble_eq_true rfl, Nat.le_of_ble_eq_true rfl⟩) hS (fun q h1 h2 => absurd h2 (Nat.not_le.mpr h1)) (fun q h => hA q (Nat.le_trans hS.1 h)) (fun r_12 u t H1 locs ht hvm hw_12 hB hz1 hk1 hS => ?_)
        have hP := keepP hP hk1
        clear hz1 hk1 hB ht hvm hPc hDc hKc
        generalize H1 = H at hP hS ⊢
        obtain rfl : r_12 = 0 := hw_12
        exact W.iret (v := 0) hx hb hr (fun t ht hW => ⟨⟨0, (), rfl, (by (unfold F_settle; repeat' split) <;> first | rfl | (exfalso; omega)), trivial⟩, hS.F ht⟩) hS.2.2 dX8_settle_40
      · have b_9 := fn_eq (x := n2) (C := 1) (by decide) c_8
        refine lv_bipush (v := (-2)) hx hb dX8_settle_18 (by decide) ?_
        exact W.iret (v := (-2)) hx hb hr (fun t ht hW => ⟨⟨(-2), (), rfl, (by (unfold F_settle; repeat' split) <;> first | rfl | (exfalso; omega)), trivial⟩, hS.F ht⟩) hS.2.2 dX8_settle_20
  · skip
    refine lv_if_ne (tgt := 9) hx hb dX8_settle_4 (by decide) (fun h => absurd h (by decide)) (fun _ => ?_)
    refine lv_iconst (v := (-1)) hx hb dX8_settle_7 (by decide) ?_
    exact W.iret (v := (-1)) hx hb hr (fun t ht hW => ⟨⟨(-1), (), rfl, (by (unfold F_settle; repeat' split) <;> first | rfl | (exfalso; omega)), trivial⟩, hS.F ht⟩) hS.2.2 dX8_settle_8
set_option maxHeartbeats 4000000 in
set_option maxRecDepth 100000 in
theorem x_column (l : Launch) (dC : Nat → ClassId) (dI : Nat → Nat → Nat) (sz : Nat) (h0 : Nat) (p1 : Nat) (u1 : Value) (p3 : Nat) (u3 : Value) (p4 : Nat) (u5 : Value) (w0 : Value) (w1 : Value) (w2 : Value) (w3 : Value) (w4 : Value) (w5 : Value) (w7 : Value) (t0 : Nat) (t1 : Nat) (t2 : Nat) (z3 : Value) (z4 : Value) (kt0 : ClassId) (kt1 : ClassId) (kt2 : ClassId) (n1 : Int32)  : Met l yX8_column (wq yX8_column cX8_column 3 (some .int)) ({ frames := 10, cells := 0, slots := 0, locals := 237 }) (va_Pc [.ref h0, .int n1] (pcW dC dI [(kt0, .int), (kt1, .int), (kt2, .int)] [(h0, .inr (7, [.ref p1, u1, .ref p3, u3, .ref p4, u5])), (p1, .inr (1, [w0, w1, w2, w3, w4, w5, .int 0, w7])), (p4, .inr (6, [.ref t0, .ref t1, .ref t2, z3, z4])), (t0, .inl (kt0, 10, .inl (fun _ => 0))), (t1, .inl (kt1, 8, .inl (fun _ => 0))), (t2, .inl (kt2, 8, .inl (fun _ => 0)))] sz)) (va_Qi (fun (r : Int32) (_ : Unit) => r = F_column n1) (fun _ _ => True) (va_A [(h0, .inr (7, [.ref p1, u1, .ref p3, u3, .ref p4, u5])), (p1, .inr (1, [w0, w1, w2, w3, w4, w5, .int 0, w7])), (p4, .inr (6, [.ref t0, .ref t1, .ref t2, z3, z4])), (t0, .inl (kt0, 10, .inl (fun _ => 0))), (t1, .inl (kt1, 8, .inl (fun _ => 0))), (t2, .inl (kt2, 8, .inl (fun _ => 0)))] sz)) 0 0 (va_A [(h0, .inr (7, [.ref p1, u1, .ref p3, u3, .ref p4, u5])), (p1, .inr (1, [w0, w1, w2, w3, w4, w5, .int 0, w7])), (p4, .inr (6, [.ref t0, .ref t1, .ref t2, z3, z4])), (t0, .inl (kt0, 10, .inl (fun _ => 0))), (t1, .inl (kt1, 8, .inl (fun _ => 0))), (t2, .inl (kt2, 8, .inl (fun _ => 0)))] sz) := by
  refine Met.ofW (cc := cX8_column) (maxL := 3) (ret := (some .int)) (by decide) rfl ?_
  intro p e s m args below meth c s₁ B hml hv
  obtain ⟨rfl, hsz, hN, hP, hK, hD0⟩ := hv
  have hx := B.exec
  have hb := B.bytes
  have hr := B.returns
  have hts0 := atoms_spec (ws := (wq yX8_column cX8_column 3 (some .int))) B.pre
  have hts : ∀ w ∈ BG, w.before _ s = true := fun w h => hts0 w (List.mem_cons_of_mem _ h)
  have hown : s.vm.findClass RX8 = some m.cls := findClass_of_methodNamed B.named
  have hlocks := B.notSynchronized
  subst hsz
  have hD := hD0.self (sz := s.heap.size)
  generalize hAe : va_A [(h0, .inr (7, [.ref p1, u1, .ref p3, u3, .ref p4, u5])), (p1, .inr (1, [w0, w1, w2, w3, w4, w5, .int 0, w7])), (p4, .inr (6, [.ref t0, .ref t1, .ref t2, z3, z4])), (t0, .inl (kt0, 10, .inl (fun _ => 0))), (t1, .inl (kt1, 8, .inl (fun _ => 0))), (t2, .inl (kt2, 8, .inl (fun _ => 0)))] s.heap.size = A at hD ⊢
  have hA : ∀ q : Nat, s.heap.size ≤ q → A q := fun q h => by rw [← hAe]; exact Or.inr h
  have hS : va_S A s.heap s.heap [] := va_S.rf
  have hP : va_P (dC, dI) vwCl [(h0, .inr (7, [.ref p1, u1, .ref p3, u3, .ref p4, u5])), (p1, .inr (1, [w0, w1, w2, w3, w4, w5, .int 0, w7])), (p4, .inr (6, [.ref t0, .ref t1, .ref t2, z3, z4])), (t0, .inl (kt0, 10, .inl (fun _ => 0))), (t1, .inl (kt1, 8, .inl (fun _ => 0))), (t2, .inl (kt2, 8, .inl (fun _ => 0)))] s.heap := hP
  have hl := lv_entry ([.ref h0, .int n1]) (n := 3) (Nat.le_of_ble_eq_true rfl)
  rw [lg_entry_eq]
  generalize (lg_sl ([.ref h0, .int n1]) ++ List.replicate (3 - (lg_sl ([.ref h0, .int n1])).length) Slot.unset).toArray = ls at hl ⊢
  have hl : lv_has ls 3 [(0, .ref h0), (1, .int n1)] := hl
  skip
  refine lv_iload_n hx hb dX8_column_0 rfl (lv_at hl 1 rfl) ?_
  refine lv_iconst (v := (-1)) hx hb dX8_column_1 (by decide) ?_
  refine lv_icmp_eq (tgt := 14) hx hb dX8_column_2 (by decide) (fun c_1 => ?_) (fun c_1 => ?_)
  · have b_2 := fx_eq (x := n1) (C := -1) (by decide) c_1
    refine lv_aload_n hx hb dX8_column_14 rfl (lv_at hl 0 rfl) ?_
    refine va_get (D := (dC, dI)) (ci := 7) (v := .ref p4) (C := RX8) (T := TX8) (N := 6) hx hb hts inB_8 hown hK hP 0 rfl rfl 4 (by decide) (hts _ mw_1_172) (fun _ h9 => h9) rfl dX8_column_15 ?_
    refine lv_aload_n hx hb dX8_column_18 rfl (lv_at hl 0 rfl) ?_
    refine va_get (D := (dC, dI)) (ci := 7) (v := .ref p1) (C := RX8) (T := TX8) (N := 6) hx hb hts inB_8 hown hK hP 0 rfl rfl 0 (by decide) (hts _ mw_1_168) (fun _ h9 => h9) rfl dX8_column_19 ?_
    refine lv_aload_n hx hb dX8_column_22 rfl (lv_at hl 0 rfl) ?_
    refine va_get (D := (dC, dI)) (ci := 7) (v := .ref p3) (C := RX8) (T := TX8) (N := 6) hx hb hts inB_8 hown hK hP 0 rfl rfl 2 (by decide) (hts _ mw_1_170) (fun _ h9 => h9) rfl dX8_column_23 ?_
    have hPc := hP.sub (ws' := [(p4, .inr (6, [.ref t0, .ref t1, .ref t2, z3, z4])), (t0, .inl (kt0, 10, .inl (fun _ => 0))), (p1, .inr (1, [w0, w1, w2, w3, w4, w5, .int 0, w7]))]) [2, 3, 1] rfl
    have hDc := hD.sub (ws' := [(p4, .inr (6, [.ref t0, .ref t1, .ref t2, z3, z4])), (t0, .inl (kt0, 10, .inl (fun _ => 0))), (p1, .inr (1, [w0, w1, w2, w3, w4, w5, .int 0, w7]))]) [2, 3, 1] (by decide) rfl
    have hKc := hK.sub (tys' := [(kt0, .int)]) [0] rfl
    have hFc := va_free (wc := [(p4, .inr (6, [.ref t0, .ref t1, .ref t2, z3, z4])), (t0, .inl (kt0, 10, .inl (fun _ => 0))), (p1, .inr (1, [w0, w1, w2, w3, w4, w5, .int 0, w7]))]) hD hS hA [2, 3, 1] rfl
    refine va_callv (va_runV (As := [.ref p1, .ref p3]) (rest := []) ⟨hx, hb, hml, hown, hts⟩ (c_fill l dC dI s.heap.size p4 t0 (.ref t1) (.ref t2) (z3) (z4) kt0 p1 (w0) (w1) (w2) (w3) (w4) (w5) (w7) p3) (cwV 2 hts (gV mw_3_6 mw_3_7 mw_3_8 mw_1_7 mw_3_9) rfl rfl rfl (by decide +kernel) ⟨Nat.le_of_ble_eq_true rfl, Nat.le_of_ble_eq_true rfl⟩) ⟨pcW_blind, va_recv hKc hPc (ci := 6) (q0 := 0) rfl rfl, pcW_at hPc hKc hDc hN⟩ rfl rfl hl.1 rfl (lv_room (Nat.le_of_ble_eq_true rfl)) dX8_column_26 ⟨Nat.le_of_ble_eq_true rfl, Nat.le_of_ble_eq_true rfl⟩) hS (fun q _ h => hFc q h) hFc (fun u t H1 locs ht hvm hw_3 hB hz1 hk1 hS => ?_)
    obtain ⟨hP1, hK1, hD1⟩ := hB
    rw [ht] at hP1
    have hK1 := va_K.moved hvm.symm hK1
    obtain ⟨hP, hD⟩ := va_join (wr := [(h0, .inr (7, [.ref p1, u1, .ref p3, u3, .ref p4, u5])), (t1, .inl (kt1, 8, .inl (fun _ => 0))), (t2, .inl (kt2, 8, .inl (fun _ => 0)))]) (w1 := [(p4, .inr (6, [.ref t0, .ref t1, .ref t2, z3, z4])), (t0, .inl (kt0, 10, .inl (fun _ => 0))), (p1, .inr (1, [w0, w1, w2, w3, w4, w5, .int 0, w7]))]) hP hD [2, 3, 1] [0, 4, 5] rfl rfl (by decide) (by decide) hk1 hFc hP1 hD1
    have hK := (hK.sub (tys' := [(kt1, .int), (kt2, .int)]) [1, 2] rfl).app hK1
    clear hz1 hk1 hPc hDc hKc hFc
    generalize H1 = H at hP hS ⊢
    have hK : va_K (dC, dI) vwCl [(kt1, .int), (kt2, .int), (kt0, .int)] s := hK
    have hP : va_P (dC, dI) vwCl [(h0, .inr (7, [.ref p1, u1, .ref p3, u3, .ref p4, u5])), (t1, .inl (kt1, 8, .inl (fun _ => 0))), (t2, .inl (kt2, 8, .inl (fun _ => 0))), (p4, .inr (6, [.ref t0, .ref t1, .ref t2, z3, z4])), (t0, .inl (kt0, 10, .inl (fun _ => 0))), (p1, .inr (1, [w0, w1, w2, w3, w4, w5, .int 0, w7]))] H := hP
    have hD : va_D A [(h0, .inr (7, [.ref p1, u1, .ref p3, u3, .ref p4, u5])), (t1, .inl (kt1, 8, .inl (fun _ => 0))), (t2, .inl (kt2, 8, .inl (fun _ => 0))), (p4, .inr (6, [.ref t0, .ref t1, .ref t2, z3, z4])), (t0, .inl (kt0, 10, .inl (fun _ => 0))), (p1, .inr (1, [w0, w1, w2, w3, w4, w5, .int 0, w7]))] := hD
    refine lv_aload_n hx hb dX8_column_29 rfl (lv_at hl 0 rfl) ?_
    refine va_get (D := (dC, dI)) (ci := 7) (v := .ref p4) (C := RX8) (T := TX8) (N := 6) hx hb hts inB_8 hown hK hP 0 rfl rfl 4 (by decide) (hts _ mw_1_172) (fun _ h9 => h9) rfl dX8_column_30 ?_
    have hPc := hP.sub (ws' := [(p4, .inr (6, [.ref t0, .ref t1, .ref t2, z3, z4])), (t0, .inl (kt0, 10, .inl (fun _ => 0))), (t1, .inl (kt1, 8, .inl (fun _ => 0))), (t2, .inl (kt2, 8, .inl (fun _ => 0)))]) [3, 4, 1, 2] rfl
    have hDc := hD.sub (ws' := [(p4, .inr (6, [.ref t0, .ref t1, .ref t2, z3, z4])), (t0, .inl (kt0, 10, .inl (fun _ => 0))), (t1, .inl (kt1, 8, .inl (fun _ => 0))), (t2, .inl (kt2, 8, .inl (fun _ => 0)))]) [3, 4, 1, 2] (by decide) rfl
    have hKc := hK.sub (tys' := [(kt0, .int), (kt1, .int), (kt2, .int)]) [2, 0, 1] rfl
    have hFc := va_free (wc := [(p4, .inr (6, [.ref t0, .ref t1, .ref t2, z3, z4])), (t0, .inl (kt0, 10, .inl (fun _ => 0))), (t1, .inl (kt1, 8, .inl (fun _ => 0))), (t2, .inl (kt2, 8, .inl (fun _ => 0)))]) hD hS hA [3, 4, 1, 2] rfl
    refine va_calli (va_runV (As := []) (rest := []) ⟨hx, hb, hml, hown, hts⟩ (c_spread l dC dI H.size p4 t0 t1 t2 (z3) (z4) kt0 kt1 kt2) (cwV 0 hts (gV mw_3_17 mw_3_18 mw_3_19 mw_1_7 mw_3_20) rfl rfl rfl (by decide +kernel) ⟨Nat.le_of_ble_eq_true rfl, Nat.le_of_ble_eq_true rfl⟩) ⟨pcW_blind, va_recv hKc hPc (ci := 6) (q0 := 0) rfl rfl, pcW_at hPc hKc hDc hN⟩ rfl rfl hl.1 rfl (lv_room (Nat.le_of_ble_eq_true rfl)) dX8_column_33 ⟨Nat.le_of_ble_eq_true rfl, Nat.le_of_ble_eq_true rfl⟩) hS (fun q _ h => hFc q h) hFc (fun r_4 u t H1 locs ht hvm hw_4 hB hz1 hk1 hS => ?_)
    obtain ⟨hP1, hK1, hD1⟩ := hB
    rw [ht] at hP1
    have hK1 := va_K.moved hvm.symm hK1
    obtain ⟨hP, hD⟩ := va_join (wr := [(h0, .inr (7, [.ref p1, u1, .ref p3, u3, .ref p4, u5])), (p1, .inr (1, [w0, w1, w2, w3, w4, w5, .int 0, w7]))]) (w1 := [(t0, .inl (kt0, 10, .inl (fun _ => 0))), (p4, .inr (6, [.ref t0, .ref t1, .ref t2, z3, z4])), (t1, .inl (kt1, 8, .inl (fun _ => 0))), (t2, .inl (kt2, 8, .inl (slF (-6) 0 8)))]) hP hD [3, 4, 1, 2] [0, 5] rfl rfl (by decide) (by decide) hk1 hFc hP1 hD1
    have hK := (hK.sub (tys' := []) [] rfl).app hK1
    clear hz1 hk1 hPc hDc hKc hFc
    generalize H1 = H at hP hS ⊢
    have hK : va_K (dC, dI) vwCl [(kt0, .int), (kt1, .int), (kt2, .int)] s := hK
    have hP : va_P (dC, dI) vwCl [(h0, .inr (7, [.ref p1, u1, .ref p3, u3, .ref p4, u5])), (p1, .inr (1, [w0, w1, w2, w3, w4, w5, .int 0, w7])), (t0, .inl (kt0, 10, .inl (fun _ => 0))), (p4, .inr (6, [.ref t0, .ref t1, .ref t2, z3, z4])), (t1, .inl (kt1, 8, .inl (fun _ => 0))), (t2, .inl (kt2, 8, .inl (slF (-6) 0 8)))] H := hP
    have hD : va_D A [(h0, .inr (7, [.ref p1, u1, .ref p3, u3, .ref p4, u5])), (p1, .inr (1, [w0, w1, w2, w3, w4, w5, .int 0, w7])), (t0, .inl (kt0, 10, .inl (fun _ => 0))), (p4, .inr (6, [.ref t0, .ref t1, .ref t2, z3, z4])), (t1, .inl (kt1, 8, .inl (fun _ => 0))), (t2, .inl (kt2, 8, .inl (slF (-6) 0 8)))] := hD
    obtain rfl : r_4 = 0 := hw_4
    refine lv_istore_n (lv' := [(2, .int 0), (0, .ref h0), (1, .int n1)]) hx hb dX8_column_36 rfl hl (by decide) rfl (fun ls hl => ?_)
    refine lv_iload_n hx hb dX8_column_37 rfl (lv_at hl 2 rfl) ?_
    refine hx_top (y := (-1)) (fx_sing (C := -1) (by decide) (by omega)) ?_
    refine lv_iconst (v := (-1)) hx hb dX8_column_38 (by decide) ?_
    refine lv_icmp_ne (tgt := 46) hx hb dX8_column_39 (by decide) (fun h => absurd h (by decide)) (fun _ => ?_)
    refine lv_iload_n hx hb dX8_column_42 rfl (lv_at hl 0 rfl) ?_
    refine lv_goto (tgt := 54) hx hb dX8_column_43 (by decide) ?_
    exact W.iret (v := 0) hx hb hr (fun t ht hW => ⟨⟨0, (), rfl, (by (unfold F_column; repeat' split) <;> first | rfl | (exfalso; omega)), trivial⟩, hS.F ht⟩) hS.2.2 dX8_column_54
  · have b_2 := fn_eq (x := n1) (C := -1) (by decide) c_1
    refine lv_iload_n hx hb dX8_column_5 rfl (lv_at hl 1 rfl) ?_
    have hPc := hP.sub (ws' := []) [] rfl
    have hDc := hD.sub (ws' := []) [] (by decide) rfl
    have hKc := hK.sub (tys' := []) [] rfl
    refine va_calli (va_runS (As := [.int n1]) (rest := []) ⟨hx, hb, hml, hown, hts⟩ (c_isName l dC dI s.heap.size n1) (va_cwS 1 hts (gS mw_2_97 mw_2_98 mw_1_1 mw_2_99) rfl rfl rfl (by decide +kernel) ⟨Nat.le_of_ble_eq_true rfl, Nat.le_of_ble_eq_true rfl⟩) ⟨pcW_blind, pcW_at hPc hKc hDc hN⟩ rfl rfl hl.1 rfl (lv_room (Nat.le_of_ble_eq_true rfl)) dX8_column_6 ⟨Nat.le_of_ble_eq_true rfl, Nat.le_of_ble_eq_true rfl⟩) hS (fun q h1 h2 => absurd h2 (Nat.not_le.mpr h1)) (fun q h => hA q (Nat.le_trans hS.1 h)) (fun r_5 u t H1 locs ht hvm hw_5 hB hz1 hk1 hS => ?_)
    have hP := keepP hP hk1
    clear hz1 hk1 hB ht hvm hPc hDc hKc
    generalize H1 = H at hP hS ⊢
    rcases fx_bool hw_5 with ⟨rfl, b_6⟩ | ⟨rfl, b_6⟩
    · skip
      refine lv_if_ne (tgt := 14) hx hb dX8_column_9 (by decide) (fun _ => ?_) (fun h => absurd h (by decide))
      refine lv_aload_n hx hb dX8_column_14 rfl (lv_at hl 0 rfl) ?_
      refine va_get (D := (dC, dI)) (ci := 7) (v := .ref p4) (C := RX8) (T := TX8) (N := 6) hx hb hts inB_8 hown hK hP 0 rfl rfl 4 (by decide) (hts _ mw_1_172) (fun _ h9 => h9) rfl dX8_column_15 ?_
      refine lv_aload_n hx hb dX8_column_18 rfl (lv_at hl 0 rfl) ?_
      refine va_get (D := (dC, dI)) (ci := 7) (v := .ref p1) (C := RX8) (T := TX8) (N := 6) hx hb hts inB_8 hown hK hP 0 rfl rfl 0 (by decide) (hts _ mw_1_168) (fun _ h9 => h9) rfl dX8_column_19 ?_
      refine lv_aload_n hx hb dX8_column_22 rfl (lv_at hl 0 rfl) ?_
      refine va_get (D := (dC, dI)) (ci := 7) (v := .ref p3) (C := RX8) (T := TX8) (N := 6) hx hb hts inB_8 hown hK hP 0 rfl rfl 2 (by decide) (hts _ mw_1_170) (fun _ h9 => h9) rfl dX8_column_23 ?_
      have hPc := hP.sub (ws' := [(p4, .inr (6, [.ref t0, .ref t1, .ref t2, z3, z4])), (t0, .inl (kt0, 10, .inl (fun _ => 0))), (p1, .inr (1, [w0, w1, w2, w3, w4, w5, .int 0, w7]))]) [2, 3, 1] rfl
      have hDc := hD.sub (ws' := [(p4, .inr (6, [.ref t0, .ref t1, .ref t2, z3, z4])), (t0, .inl (kt0, 10, .inl (fun _ => 0))), (p1, .inr (1, [w0, w1, w2, w3, w4, w5, .int 0, w7]))]) [2, 3, 1] (by decide) rfl
      have hKc := hK.sub (tys' := [(kt0, .int)]) [0] rfl
      have hFc := va_free (wc := [(p4, .inr (6, [.ref t0, .ref t1, .ref t2, z3, z4])), (t0, .inl (kt0, 10, .inl (fun _ => 0))), (p1, .inr (1, [w0, w1, w2, w3, w4, w5, .int 0, w7]))]) hD hS hA [2, 3, 1] rfl
      refine va_callv (va_runV (As := [.ref p1, .ref p3]) (rest := []) ⟨hx, hb, hml, hown, hts⟩ (c_fill l dC dI H.size p4 t0 (.ref t1) (.ref t2) (z3) (z4) kt0 p1 (w0) (w1) (w2) (w3) (w4) (w5) (w7) p3) (cwV 2 hts (gV mw_3_6 mw_3_7 mw_3_8 mw_1_7 mw_3_9) rfl rfl rfl (by decide +kernel) ⟨Nat.le_of_ble_eq_true rfl, Nat.le_of_ble_eq_true rfl⟩) ⟨pcW_blind, va_recv hKc hPc (ci := 6) (q0 := 0) rfl rfl, pcW_at hPc hKc hDc hN⟩ rfl rfl hl.1 rfl (lv_room (Nat.le_of_ble_eq_true rfl)) dX8_column_26 ⟨Nat.le_of_ble_eq_true rfl, Nat.le_of_ble_eq_true rfl⟩) hS (fun q _ h => hFc q h) hFc (fun u t H1 locs ht hvm hw_7 hB hz1 hk1 hS => ?_)
      obtain ⟨hP1, hK1, hD1⟩ := hB
      rw [ht] at hP1
      have hK1 := va_K.moved hvm.symm hK1
      obtain ⟨hP, hD⟩ := va_join (wr := [(h0, .inr (7, [.ref p1, u1, .ref p3, u3, .ref p4, u5])), (t1, .inl (kt1, 8, .inl (fun _ => 0))), (t2, .inl (kt2, 8, .inl (fun _ => 0)))]) (w1 := [(p4, .inr (6, [.ref t0, .ref t1, .ref t2, z3, z4])), (t0, .inl (kt0, 10, .inl (fun _ => 0))), (p1, .inr (1, [w0, w1, w2, w3, w4, w5, .int 0, w7]))]) hP hD [2, 3, 1] [0, 4, 5] rfl rfl (by decide) (by decide) hk1 hFc hP1 hD1
      have hK := (hK.sub (tys' := [(kt1, .int), (kt2, .int)]) [1, 2] rfl).app hK1
      clear hz1 hk1 hPc hDc hKc hFc
      generalize H1 = H at hP hS ⊢
      have hK : va_K (dC, dI) vwCl [(kt1, .int), (kt2, .int), (kt0, .int)] s := hK
      have hP : va_P (dC, dI) vwCl [(h0, .inr (7, [.ref p1, u1, .ref p3, u3, .ref p4, u5])), (t1, .inl (kt1, 8, .inl (fun _ => 0))), (t2, .inl (kt2, 8, .inl (fun _ => 0))), (p4, .inr (6, [.ref t0, .ref t1, .ref t2, z3, z4])), (t0, .inl (kt0, 10, .inl (fun _ => 0))), (p1, .inr (1, [w0, w1, w2, w3, w4, w5, .int 0, w7]))] H := hP
      have hD : va_D A [(h0, .inr (7, [.ref p1, u1, .ref p3, u3, .ref p4, u5])), (t1, .inl (kt1, 8, .inl (fun _ => 0))), (t2, .inl (kt2, 8, .inl (fun _ => 0))), (p4, .inr (6, [.ref t0, .ref t1, .ref t2, z3, z4])), (t0, .inl (kt0, 10, .inl (fun _ => 0))), (p1, .inr (1, [w0, w1, w2, w3, w4, w5, .int 0, w7]))] := hD
      refine lv_aload_n hx hb dX8_column_29 rfl (lv_at hl 0 rfl) ?_
      refine va_get (D := (dC, dI)) (ci := 7) (v := .ref p4) (C := RX8) (T := TX8) (N := 6) hx hb hts inB_8 hown hK hP 0 rfl rfl 4 (by decide) (hts _ mw_1_172) (fun _ h9 => h9) rfl dX8_column_30 ?_
      have hPc := hP.sub (ws' := [(p4, .inr (6, [.ref t0, .ref t1, .ref t2, z3, z4])), (t0, .inl (kt0, 10, .inl (fun _ => 0))), (t1, .inl (kt1, 8, .inl (fun _ => 0))), (t2, .inl (kt2, 8, .inl (fun _ => 0)))]) [3, 4, 1, 2] rfl
      have hDc := hD.sub (ws' := [(p4, .inr (6, [.ref t0, .ref t1, .ref t2, z3, z4])), (t0, .inl (kt0, 10, .inl (fun _ => 0))), (t1, .inl (kt1, 8, .inl (fun _ => 0))), (t2, .inl (kt2, 8, .inl (fun _ => 0)))]) [3, 4, 1, 2] (by decide) rfl
      have hKc := hK.sub (tys' := [(kt0, .int), (kt1, .int), (kt2, .int)]) [2, 0, 1] rfl
      have hFc := va_free (wc := [(p4, .inr (6, [.ref t0, .ref t1, .ref t2, z3, z4])), (t0, .inl (kt0, 10, .inl (fun _ => 0))), (t1, .inl (kt1, 8, .inl (fun _ => 0))), (t2, .inl (kt2, 8, .inl (fun _ => 0)))]) hD hS hA [3, 4, 1, 2] rfl
      refine va_calli (va_runV (As := []) (rest := []) ⟨hx, hb, hml, hown, hts⟩ (c_spread l dC dI H.size p4 t0 t1 t2 (z3) (z4) kt0 kt1 kt2) (cwV 0 hts (gV mw_3_17 mw_3_18 mw_3_19 mw_1_7 mw_3_20) rfl rfl rfl (by decide +kernel) ⟨Nat.le_of_ble_eq_true rfl, Nat.le_of_ble_eq_true rfl⟩) ⟨pcW_blind, va_recv hKc hPc (ci := 6) (q0 := 0) rfl rfl, pcW_at hPc hKc hDc hN⟩ rfl rfl hl.1 rfl (lv_room (Nat.le_of_ble_eq_true rfl)) dX8_column_33 ⟨Nat.le_of_ble_eq_true rfl, Nat.le_of_ble_eq_true rfl⟩) hS (fun q _ h => hFc q h) hFc (fun r_8 u t H1 locs ht hvm hw_8 hB hz1 hk1 hS => ?_)
      obtain ⟨hP1, hK1, hD1⟩ := hB
      rw [ht] at hP1
      have hK1 := va_K.moved hvm.symm hK1
      obtain ⟨hP, hD⟩ := va_join (wr := [(h0, .inr (7, [.ref p1, u1, .ref p3, u3, .ref p4, u5])), (p1, .inr (1, [w0, w1, w2, w3, w4, w5, .int 0, w7]))]) (w1 := [(t0, .inl (kt0, 10, .inl (fun _ => 0))), (p4, .inr (6, [.ref t0, .ref t1, .ref t2, z3, z4])), (t1, .inl (kt1, 8, .inl (fun _ => 0))), (t2, .inl (kt2, 8, .inl (slF (-6) 0 8)))]) hP hD [3, 4, 1, 2] [0, 5] rfl rfl (by decide) (by decide) hk1 hFc hP1 hD1
      have hK := (hK.sub (tys' := []) [] rfl).app hK1
      clear hz1 hk1 hPc hDc hKc hFc
      generalize H1 = H at hP hS ⊢
      have hK : va_K (dC, dI) vwCl [(kt0, .int), (kt1, .int), (kt2, .int)] s := hK
      have hP : va_P (dC, dI) vwCl [(h0, .inr (7, [.ref p1, u1, .ref p3, u3, .ref p4, u5])), (p1, .inr (1, [w0, w1, w2, w3, w4, w5, .int 0, w7])), (t0, .inl (kt0, 10, .inl (fun _ => 0))), (p4, .inr (6, [.ref t0, .ref t1, .ref t2, z3, z4])), (t1, .inl (kt1, 8, .inl (fun _ => 0))), (t2, .inl (kt2, 8, .inl (slF (-6) 0 8)))] H := hP
      have hD : va_D A [(h0, .inr (7, [.ref p1, u1, .ref p3, u3, .ref p4, u5])), (p1, .inr (1, [w0, w1, w2, w3, w4, w5, .int 0, w7])), (t0, .inl (kt0, 10, .inl (fun _ => 0))), (p4, .inr (6, [.ref t0, .ref t1, .ref t2, z3, z4])), (t1, .inl (kt1, 8, .inl (fun _ => 0))), (t2, .inl (kt2, 8, .inl (slF (-6) 0 8)))] := hD
      obtain rfl : r_8 = 0 := hw_8
      refine lv_istore_n (lv' := [(2, .int 0), (0, .ref h0), (1, .int n1)]) hx hb dX8_column_36 rfl hl (by decide) rfl (fun ls hl => ?_)
      refine lv_iload_n hx hb dX8_column_37 rfl (lv_at hl 2 rfl) ?_
      refine lv_iconst (v := (-1)) hx hb dX8_column_38 (by decide) ?_
      refine lv_icmp_ne (tgt := 46) hx hb dX8_column_39 (by decide) (fun _ => ?_) (fun h => absurd (fn_ne (x := n1) (C := -1) (by decide) h) (by omega))
      refine lv_aload_n hx hb dX8_column_46 rfl (lv_at hl 1 rfl) ?_
      refine va_get (D := (dC, dI)) (ci := 7) (v := .ref p4) (C := RX8) (T := TX8) (N := 6) hx hb hts inB_8 hown hK hP 0 rfl rfl 4 (by decide) (hts _ mw_1_172) (fun _ h9 => h9) rfl dX8_column_47 ?_
      refine lv_iload_n hx hb dX8_column_50 rfl (lv_at hl 2 rfl) ?_
      have hPc := hP.sub (ws' := [(p4, .inr (6, [.ref t0, .ref t1, .ref t2, z3, z4])), (t2, .inl (kt2, 8, .inl (slF (-6) 0 8)))]) [3, 5] rfl
      have hDc := hD.sub (ws' := [(p4, .inr (6, [.ref t0, .ref t1, .ref t2, z3, z4])), (t2, .inl (kt2, 8, .inl (slF (-6) 0 8)))]) [3, 5] (by decide) rfl
      have hKc := hK.sub (tys' := [(kt2, .int)]) [2] rfl
      refine va_calli (va_runV (As := [.int n1]) (rest := []) ⟨hx, hb, hml, hown, hts⟩ (c_colOf l dC dI H.size p4 (.ref t0) (.ref t1) t2 (z3) (z4) kt2 n1) (cwV 1 hts (gV mw_3_35 mw_3_36 mw_3_37 mw_1_7 mw_3_38) rfl rfl rfl (by decide +kernel) ⟨Nat.le_of_ble_eq_true rfl, Nat.le_of_ble_eq_true rfl⟩) ⟨pcW_blind, va_recv hKc hPc (ci := 6) (q0 := 0) rfl rfl, pcW_at hPc hKc hDc hN⟩ rfl rfl hl.1 rfl (lv_room (Nat.le_of_ble_eq_true rfl)) dX8_column_51 ⟨Nat.le_of_ble_eq_true rfl, Nat.le_of_ble_eq_true rfl⟩) hS (fun q h1 h2 => absurd h2 (Nat.not_le.mpr h1)) (fun q h => hA q (Nat.le_trans hS.1 h)) (fun r_9 u t H1 locs ht hvm hw_9 hB hz1 hk1 hS => ?_)
      have hP := keepP hP hk1
      clear hz1 hk1 hB ht hvm hPc hDc hKc
      generalize H1 = H at hP hS ⊢
      obtain rfl : r_9 = (-6) := hw_9
      exact W.iret (v := (-6)) hx hb hr (fun t ht hW => ⟨⟨(-6), (), rfl, (by (unfold F_column; repeat' split) <;> first | rfl | (exfalso; omega)), trivial⟩, hS.F ht⟩) hS.2.2 dX8_column_54
    · skip
      refine lv_if_ne (tgt := 14) hx hb dX8_column_9 (by decide) (fun h => absurd h (by decide)) (fun _ => ?_)
      refine lv_iconst (v := (-1)) hx hb dX8_column_12 (by decide) ?_
      exact W.iret (v := (-1)) hx hb hr (fun t ht hW => ⟨⟨(-1), (), rfl, (by (unfold F_column; repeat' split) <;> first | rfl | (exfalso; omega)), trivial⟩, hS.F ht⟩) hS.2.2 dX8_column_13
set_option maxHeartbeats 4000000 in
set_option maxRecDepth 100000 in
theorem x_packed (l : Launch) (dC : Nat → ClassId) (dI : Nat → Nat → Nat) (sz : Nat) (h0 : Nat) (p1 : Nat) (u1 : Value) (p3 : Nat) (u3 : Value) (p4 : Nat) (u5 : Value) (w0 : Value) (w1 : Value) (w2 : Value) (w3 : Value) (w4 : Value) (w5 : Value) (w7 : Value) (t0 : Nat) (z1 : Value) (z2 : Value) (t3 : Nat) (t4 : Nat) (kt0 : ClassId) (kt3 : ClassId) (kt4 : ClassId) (n1 : Int32)  : Met l yX8_packed (wq yX8_packed cX8_packed 3 (some .int)) ({ frames := 5, cells := 0, slots := 0, locals := 108 }) (va_Pc [.ref h0, .int n1] (pcW dC dI [(kt0, .int), (kt3, .int), (kt4, .int)] [(h0, .inr (7, [.ref p1, u1, .ref p3, u3, .ref p4, u5])), (p1, .inr (1, [w0, w1, w2, w3, w4, w5, .int 0, w7])), (p4, .inr (6, [.ref t0, z1, z2, .ref t3, .ref t4])), (t0, .inl (kt0, 10, .inl (fun _ => 0))), (t3, .inl (kt3, 10, .inl (fun _ => 0))), (t4, .inl (kt4, 100, .inl (fun _ => 0)))] sz)) (va_Qi (fun (r : Int32) (_ : Unit) => r = F_packed n1) (fun _ _ => True) (va_A [(h0, .inr (7, [.ref p1, u1, .ref p3, u3, .ref p4, u5])), (p1, .inr (1, [w0, w1, w2, w3, w4, w5, .int 0, w7])), (p4, .inr (6, [.ref t0, z1, z2, .ref t3, .ref t4])), (t0, .inl (kt0, 10, .inl (fun _ => 0))), (t3, .inl (kt3, 10, .inl (fun _ => 0))), (t4, .inl (kt4, 100, .inl (fun _ => 0)))] sz)) 0 0 (va_A [(h0, .inr (7, [.ref p1, u1, .ref p3, u3, .ref p4, u5])), (p1, .inr (1, [w0, w1, w2, w3, w4, w5, .int 0, w7])), (p4, .inr (6, [.ref t0, z1, z2, .ref t3, .ref t4])), (t0, .inl (kt0, 10, .inl (fun _ => 0))), (t3, .inl (kt3, 10, .inl (fun _ => 0))), (t4, .inl (kt4, 100, .inl (fun _ => 0)))] sz) := by
  refine Met.ofW (cc := cX8_packed) (maxL := 3) (ret := (some .int)) (by decide) rfl ?_
  intro p e s m args below meth c s₁ B hml hv
  obtain ⟨rfl, hsz, hN, hP, hK, hD0⟩ := hv
  have hx := B.exec
  have hb := B.bytes
  have hr := B.returns
  have hts0 := atoms_spec (ws := (wq yX8_packed cX8_packed 3 (some .int))) B.pre
  have hts : ∀ w ∈ BG, w.before _ s = true := fun w h => hts0 w (List.mem_cons_of_mem _ h)
  have hown : s.vm.findClass RX8 = some m.cls := findClass_of_methodNamed B.named
  have hlocks := B.notSynchronized
  subst hsz
  have hD := hD0.self (sz := s.heap.size)
  generalize hAe : va_A [(h0, .inr (7, [.ref p1, u1, .ref p3, u3, .ref p4, u5])), (p1, .inr (1, [w0, w1, w2, w3, w4, w5, .int 0, w7])), (p4, .inr (6, [.ref t0, z1, z2, .ref t3, .ref t4])), (t0, .inl (kt0, 10, .inl (fun _ => 0))), (t3, .inl (kt3, 10, .inl (fun _ => 0))), (t4, .inl (kt4, 100, .inl (fun _ => 0)))] s.heap.size = A at hD ⊢
  have hA : ∀ q : Nat, s.heap.size ≤ q → A q := fun q h => by rw [← hAe]; exact Or.inr h
  have hS : va_S A s.heap s.heap [] := va_S.rf
  have hP : va_P (dC, dI) vwCl [(h0, .inr (7, [.ref p1, u1, .ref p3, u3, .ref p4, u5])), (p1, .inr (1, [w0, w1, w2, w3, w4, w5, .int 0, w7])), (p4, .inr (6, [.ref t0, z1, z2, .ref t3, .ref t4])), (t0, .inl (kt0, 10, .inl (fun _ => 0))), (t3, .inl (kt3, 10, .inl (fun _ => 0))), (t4, .inl (kt4, 100, .inl (fun _ => 0)))] s.heap := hP
  have hl := lv_entry ([.ref h0, .int n1]) (n := 3) (Nat.le_of_ble_eq_true rfl)
  rw [lg_entry_eq]
  generalize (lg_sl ([.ref h0, .int n1]) ++ List.replicate (3 - (lg_sl ([.ref h0, .int n1])).length) Slot.unset).toArray = ls at hl ⊢
  have hl : lv_has ls 3 [(0, .ref h0), (1, .int n1)] := hl
  skip
  refine lv_iload_n hx hb dX8_packed_0 rfl (lv_at hl 1 rfl) ?_
  refine lv_iconst (v := (-1)) hx hb dX8_packed_1 (by decide) ?_
  refine lv_icmp_eq (tgt := 18) hx hb dX8_packed_2 (by decide) (fun c_1 => ?_) (fun c_1 => ?_)
  · have b_2 := fx_eq (x := n1) (C := -1) (by decide) c_1
    refine lv_aload_n hx hb dX8_packed_18 rfl (lv_at hl 0 rfl) ?_
    refine va_get (D := (dC, dI)) (ci := 7) (v := .ref p4) (C := RX8) (T := TX8) (N := 6) hx hb hts inB_8 hown hK hP 0 rfl rfl 4 (by decide) (hts _ mw_1_172) (fun _ h9 => h9) rfl dX8_packed_19 ?_
    refine lv_aload_n hx hb dX8_packed_22 rfl (lv_at hl 0 rfl) ?_
    refine va_get (D := (dC, dI)) (ci := 7) (v := .ref p1) (C := RX8) (T := TX8) (N := 6) hx hb hts inB_8 hown hK hP 0 rfl rfl 0 (by decide) (hts _ mw_1_168) (fun _ h9 => h9) rfl dX8_packed_23 ?_
    refine lv_aload_n hx hb dX8_packed_26 rfl (lv_at hl 0 rfl) ?_
    refine va_get (D := (dC, dI)) (ci := 7) (v := .ref p3) (C := RX8) (T := TX8) (N := 6) hx hb hts inB_8 hown hK hP 0 rfl rfl 2 (by decide) (hts _ mw_1_170) (fun _ h9 => h9) rfl dX8_packed_27 ?_
    have hPc := hP.sub (ws' := [(p4, .inr (6, [.ref t0, z1, z2, .ref t3, .ref t4])), (t0, .inl (kt0, 10, .inl (fun _ => 0))), (p1, .inr (1, [w0, w1, w2, w3, w4, w5, .int 0, w7]))]) [2, 3, 1] rfl
    have hDc := hD.sub (ws' := [(p4, .inr (6, [.ref t0, z1, z2, .ref t3, .ref t4])), (t0, .inl (kt0, 10, .inl (fun _ => 0))), (p1, .inr (1, [w0, w1, w2, w3, w4, w5, .int 0, w7]))]) [2, 3, 1] (by decide) rfl
    have hKc := hK.sub (tys' := [(kt0, .int)]) [0] rfl
    have hFc := va_free (wc := [(p4, .inr (6, [.ref t0, z1, z2, .ref t3, .ref t4])), (t0, .inl (kt0, 10, .inl (fun _ => 0))), (p1, .inr (1, [w0, w1, w2, w3, w4, w5, .int 0, w7]))]) hD hS hA [2, 3, 1] rfl
    refine va_callv (va_runV (As := [.ref p1, .ref p3]) (rest := []) ⟨hx, hb, hml, hown, hts⟩ (c_fill l dC dI s.heap.size p4 t0 (z1) (z2) (.ref t3) (.ref t4) kt0 p1 (w0) (w1) (w2) (w3) (w4) (w5) (w7) p3) (cwV 2 hts (gV mw_3_6 mw_3_7 mw_3_8 mw_1_7 mw_3_9) rfl rfl rfl (by decide +kernel) ⟨Nat.le_of_ble_eq_true rfl, Nat.le_of_ble_eq_true rfl⟩) ⟨pcW_blind, va_recv hKc hPc (ci := 6) (q0 := 0) rfl rfl, pcW_at hPc hKc hDc hN⟩ rfl rfl hl.1 rfl (lv_room (Nat.le_of_ble_eq_true rfl)) dX8_packed_30 ⟨Nat.le_of_ble_eq_true rfl, Nat.le_of_ble_eq_true rfl⟩) hS (fun q _ h => hFc q h) hFc (fun u t H1 locs ht hvm hw_3 hB hz1 hk1 hS => ?_)
    obtain ⟨hP1, hK1, hD1⟩ := hB
    rw [ht] at hP1
    have hK1 := va_K.moved hvm.symm hK1
    obtain ⟨hP, hD⟩ := va_join (wr := [(h0, .inr (7, [.ref p1, u1, .ref p3, u3, .ref p4, u5])), (t3, .inl (kt3, 10, .inl (fun _ => 0))), (t4, .inl (kt4, 100, .inl (fun _ => 0)))]) (w1 := [(p4, .inr (6, [.ref t0, z1, z2, .ref t3, .ref t4])), (t0, .inl (kt0, 10, .inl (fun _ => 0))), (p1, .inr (1, [w0, w1, w2, w3, w4, w5, .int 0, w7]))]) hP hD [2, 3, 1] [0, 4, 5] rfl rfl (by decide) (by decide) hk1 hFc hP1 hD1
    have hK := (hK.sub (tys' := [(kt3, .int), (kt4, .int)]) [1, 2] rfl).app hK1
    clear hz1 hk1 hPc hDc hKc hFc
    generalize H1 = H at hP hS ⊢
    have hK : va_K (dC, dI) vwCl [(kt3, .int), (kt4, .int), (kt0, .int)] s := hK
    have hP : va_P (dC, dI) vwCl [(h0, .inr (7, [.ref p1, u1, .ref p3, u3, .ref p4, u5])), (t3, .inl (kt3, 10, .inl (fun _ => 0))), (t4, .inl (kt4, 100, .inl (fun _ => 0))), (p4, .inr (6, [.ref t0, z1, z2, .ref t3, .ref t4])), (t0, .inl (kt0, 10, .inl (fun _ => 0))), (p1, .inr (1, [w0, w1, w2, w3, w4, w5, .int 0, w7]))] H := hP
    have hD : va_D A [(h0, .inr (7, [.ref p1, u1, .ref p3, u3, .ref p4, u5])), (t3, .inl (kt3, 10, .inl (fun _ => 0))), (t4, .inl (kt4, 100, .inl (fun _ => 0))), (p4, .inr (6, [.ref t0, z1, z2, .ref t3, .ref t4])), (t0, .inl (kt0, 10, .inl (fun _ => 0))), (p1, .inr (1, [w0, w1, w2, w3, w4, w5, .int 0, w7]))] := hD
    refine lv_aload_n hx hb dX8_packed_33 rfl (lv_at hl 0 rfl) ?_
    refine va_get (D := (dC, dI)) (ci := 7) (v := .ref p4) (C := RX8) (T := TX8) (N := 6) hx hb hts inB_8 hown hK hP 0 rfl rfl 4 (by decide) (hts _ mw_1_172) (fun _ h9 => h9) rfl dX8_packed_34 ?_
    have hPc := hP.sub (ws' := [(p4, .inr (6, [.ref t0, z1, z2, .ref t3, .ref t4])), (t0, .inl (kt0, 10, .inl (fun _ => 0))), (t3, .inl (kt3, 10, .inl (fun _ => 0))), (t4, .inl (kt4, 100, .inl (fun _ => 0)))]) [3, 4, 1, 2] rfl
    have hDc := hD.sub (ws' := [(p4, .inr (6, [.ref t0, z1, z2, .ref t3, .ref t4])), (t0, .inl (kt0, 10, .inl (fun _ => 0))), (t3, .inl (kt3, 10, .inl (fun _ => 0))), (t4, .inl (kt4, 100, .inl (fun _ => 0)))]) [3, 4, 1, 2] (by decide) rfl
    have hKc := hK.sub (tys' := [(kt0, .int), (kt3, .int), (kt4, .int)]) [2, 0, 1] rfl
    have hFc := va_free (wc := [(p4, .inr (6, [.ref t0, z1, z2, .ref t3, .ref t4])), (t0, .inl (kt0, 10, .inl (fun _ => 0))), (t3, .inl (kt3, 10, .inl (fun _ => 0))), (t4, .inl (kt4, 100, .inl (fun _ => 0)))]) hD hS hA [3, 4, 1, 2] rfl
    refine va_calli (va_runV (As := []) (rest := []) ⟨hx, hb, hml, hown, hts⟩ (c_push l dC dI H.size p4 t0 (z1) (z2) t3 t4 kt0 kt3 kt4) (cwV 0 hts (gV mw_3_44 mw_3_45 mw_3_46 mw_1_7 mw_3_47) rfl rfl rfl (by decide +kernel) ⟨Nat.le_of_ble_eq_true rfl, Nat.le_of_ble_eq_true rfl⟩) ⟨pcW_blind, va_recv hKc hPc (ci := 6) (q0 := 0) rfl rfl, pcW_at hPc hKc hDc hN⟩ rfl rfl hl.1 rfl (lv_room (Nat.le_of_ble_eq_true rfl)) dX8_packed_37 ⟨Nat.le_of_ble_eq_true rfl, Nat.le_of_ble_eq_true rfl⟩) hS (fun q _ h => hFc q h) hFc (fun r_4 u t H1 locs ht hvm hw_4 hB hz1 hk1 hS => ?_)
    obtain ⟨hP1, hK1, hD1⟩ := hB
    rw [ht] at hP1
    have hK1 := va_K.moved hvm.symm hK1
    obtain ⟨hP, hD⟩ := va_join (wr := [(h0, .inr (7, [.ref p1, u1, .ref p3, u3, .ref p4, u5])), (p1, .inr (1, [w0, w1, w2, w3, w4, w5, .int 0, w7]))]) (w1 := [(p4, .inr (6, [.ref t0, z1, z2, .ref t3, .ref t4])), (t0, .inl (kt0, 10, .inl (fun _ => 0))), (t3, .inl (kt3, 10, .inl (slF (-6) 0 10))), (t4, .inl (kt4, 100, .inl (slF (-6) 0 100)))]) hP hD [3, 4, 1, 2] [0, 5] rfl rfl (by decide) (by decide) hk1 hFc hP1 hD1
    have hK := (hK.sub (tys' := []) [] rfl).app hK1
    clear hz1 hk1 hPc hDc hKc hFc
    generalize H1 = H at hP hS ⊢
    have hK : va_K (dC, dI) vwCl [(kt0, .int), (kt3, .int), (kt4, .int)] s := hK
    have hP : va_P (dC, dI) vwCl [(h0, .inr (7, [.ref p1, u1, .ref p3, u3, .ref p4, u5])), (p1, .inr (1, [w0, w1, w2, w3, w4, w5, .int 0, w7])), (p4, .inr (6, [.ref t0, z1, z2, .ref t3, .ref t4])), (t0, .inl (kt0, 10, .inl (fun _ => 0))), (t3, .inl (kt3, 10, .inl (slF (-6) 0 10))), (t4, .inl (kt4, 100, .inl (slF (-6) 0 100)))] H := hP
    have hD : va_D A [(h0, .inr (7, [.ref p1, u1, .ref p3, u3, .ref p4, u5])), (p1, .inr (1, [w0, w1, w2, w3, w4, w5, .int 0, w7])), (p4, .inr (6, [.ref t0, z1, z2, .ref t3, .ref t4])), (t0, .inl (kt0, 10, .inl (fun _ => 0))), (t3, .inl (kt3, 10, .inl (slF (-6) 0 10))), (t4, .inl (kt4, 100, .inl (slF (-6) 0 100)))] := hD
    obtain rfl : r_4 = 0 := hw_4
    refine lv_istore_n (lv' := [(2, .int 0), (0, .ref h0), (1, .int n1)]) hx hb dX8_packed_40 rfl hl (by decide) rfl (fun ls hl => ?_)
    refine lv_iload_n hx hb dX8_packed_41 rfl (lv_at hl 2 rfl) ?_
    refine hx_top (y := (-1)) (fx_sing (C := -1) (by decide) (by omega)) ?_
    refine lv_iconst (v := (-1)) hx hb dX8_packed_42 (by decide) ?_
    refine lv_icmp_ne (tgt := 50) hx hb dX8_packed_43 (by decide) (fun h => absurd h (by decide)) (fun _ => ?_)
    refine lv_iload_n hx hb dX8_packed_46 rfl (lv_at hl 0 rfl) ?_
    refine lv_goto (tgt := 58) hx hb dX8_packed_47 (by decide) ?_
    exact W.iret (v := 0) hx hb hr (fun t ht hW => ⟨⟨0, (), rfl, (by (unfold F_packed; repeat' split) <;> first | rfl | (exfalso; omega)), trivial⟩, hS.F ht⟩) hS.2.2 dX8_packed_58
  · have b_2 := fn_eq (x := n1) (C := -1) (by decide) c_1
    refine lv_aload_n hx hb dX8_packed_5 rfl (lv_at hl 0 rfl) ?_
    refine va_get (D := (dC, dI)) (ci := 7) (v := .ref p1) (C := RX8) (T := TX8) (N := 6) hx hb hts inB_8 hown hK hP 0 rfl rfl 0 (by decide) (hts _ mw_1_168) (fun _ h9 => h9) rfl dX8_packed_6 ?_
    refine lv_iload_n hx hb dX8_packed_9 rfl (lv_at hl 1 rfl) ?_
    have hPc := hP.sub (ws' := [(p1, .inr (1, [w0, w1, w2, w3, w4, w5, .int 0, w7]))]) [1] rfl
    have hDc := hD.sub (ws' := [(p1, .inr (1, [w0, w1, w2, w3, w4, w5, .int 0, w7]))]) [1] (by decide) rfl
    have hKc := hK.sub (tys' := []) [] rfl
    refine va_calli (va_runV (As := [.int n1]) (rest := []) ⟨hx, hb, hml, hown, hts⟩ (c_knows0 l dC dI s.heap.size p1 (w0) (w1) (w2) (w3) (w4) (w5) (w7) n1) (cwV 1 hts (gV mw_1_191 mw_1_192 mw_1_193 mw_1_2 mw_1_194) rfl rfl rfl (by decide +kernel) ⟨Nat.le_of_ble_eq_true rfl, Nat.le_of_ble_eq_true rfl⟩) ⟨pcW_blind, va_recv hKc hPc (ci := 1) (q0 := 0) rfl rfl, pcW_at hPc hKc hDc hN⟩ rfl rfl hl.1 rfl (lv_room (Nat.le_of_ble_eq_true rfl)) dX8_packed_10 ⟨Nat.le_of_ble_eq_true rfl, Nat.le_of_ble_eq_true rfl⟩) hS (fun q h1 h2 => absurd h2 (Nat.not_le.mpr h1)) (fun q h => hA q (Nat.le_trans hS.1 h)) (fun r_5 u t H1 locs ht hvm hw_5 hB hz1 hk1 hS => ?_)
    have hP := keepP hP hk1
    clear hz1 hk1 hB ht hvm hPc hDc hKc
    generalize H1 = H at hP hS ⊢
    obtain rfl : r_5 = 0 := hw_5
    refine lv_if_ne (tgt := 18) hx hb dX8_packed_13 (by decide) (fun h => absurd h (by decide)) (fun _ => ?_)
    refine lv_iconst (v := (-1)) hx hb dX8_packed_16 (by decide) ?_
    exact W.iret (v := (-1)) hx hb hr (fun t ht hW => ⟨⟨(-1), (), rfl, (by (unfold F_packed; repeat' split) <;> first | rfl | (exfalso; omega)), trivial⟩, hS.F ht⟩) hS.2.2 dX8_packed_17
set_option maxHeartbeats 4000000 in
set_option maxRecDepth 100000 in
theorem x_slot (l : Launch) (dC : Nat → ClassId) (dI : Nat → Nat → Nat) (sz : Nat) (h0 : Nat) (p1 : Nat) (u1 : Value) (p3 : Nat) (u3 : Value) (p4 : Nat) (u5 : Value) (w0 : Value) (w1 : Value) (w2 : Value) (w3 : Value) (w4 : Value) (w5 : Value) (w7 : Value) (t0 : Nat) (z1 : Value) (z2 : Value) (t3 : Nat) (t4 : Nat) (kt0 : ClassId) (kt3 : ClassId) (kt4 : ClassId) (n1 : Int32)  : Met l yX8_slot (wq yX8_slot cX8_slot 2 (some .int)) ({ frames := 5, cells := 0, slots := 0, locals := 108 }) (va_Pc [.ref h0, .int n1] (pcW dC dI [(kt0, .int), (kt3, .int), (kt4, .int)] [(h0, .inr (7, [.ref p1, u1, .ref p3, u3, .ref p4, u5])), (p1, .inr (1, [w0, w1, w2, w3, w4, w5, .int 0, w7])), (p4, .inr (6, [.ref t0, z1, z2, .ref t3, .ref t4])), (t0, .inl (kt0, 10, .inl (fun _ => 0))), (t3, .inl (kt3, 10, .inl (fun _ => 0))), (t4, .inl (kt4, 100, .inl (fun _ => 0)))] sz)) (va_Qi (fun (r : Int32) (_ : Unit) => r = F_slot n1) (fun _ _ => True) (va_A [(h0, .inr (7, [.ref p1, u1, .ref p3, u3, .ref p4, u5])), (p1, .inr (1, [w0, w1, w2, w3, w4, w5, .int 0, w7])), (p4, .inr (6, [.ref t0, z1, z2, .ref t3, .ref t4])), (t0, .inl (kt0, 10, .inl (fun _ => 0))), (t3, .inl (kt3, 10, .inl (fun _ => 0))), (t4, .inl (kt4, 100, .inl (fun _ => 0)))] sz)) 0 0 (va_A [(h0, .inr (7, [.ref p1, u1, .ref p3, u3, .ref p4, u5])), (p1, .inr (1, [w0, w1, w2, w3, w4, w5, .int 0, w7])), (p4, .inr (6, [.ref t0, z1, z2, .ref t3, .ref t4])), (t0, .inl (kt0, 10, .inl (fun _ => 0))), (t3, .inl (kt3, 10, .inl (fun _ => 0))), (t4, .inl (kt4, 100, .inl (fun _ => 0)))] sz) := by
  refine Met.ofW (cc := cX8_slot) (maxL := 2) (ret := (some .int)) (by decide) rfl ?_
  intro p e s m args below meth c s₁ B hml hv
  obtain ⟨rfl, hsz, hN, hP, hK, hD0⟩ := hv
  have hx := B.exec
  have hb := B.bytes
  have hr := B.returns
  have hts0 := atoms_spec (ws := (wq yX8_slot cX8_slot 2 (some .int))) B.pre
  have hts : ∀ w ∈ BG, w.before _ s = true := fun w h => hts0 w (List.mem_cons_of_mem _ h)
  have hown : s.vm.findClass RX8 = some m.cls := findClass_of_methodNamed B.named
  have hlocks := B.notSynchronized
  subst hsz
  have hD := hD0.self (sz := s.heap.size)
  generalize hAe : va_A [(h0, .inr (7, [.ref p1, u1, .ref p3, u3, .ref p4, u5])), (p1, .inr (1, [w0, w1, w2, w3, w4, w5, .int 0, w7])), (p4, .inr (6, [.ref t0, z1, z2, .ref t3, .ref t4])), (t0, .inl (kt0, 10, .inl (fun _ => 0))), (t3, .inl (kt3, 10, .inl (fun _ => 0))), (t4, .inl (kt4, 100, .inl (fun _ => 0)))] s.heap.size = A at hD ⊢
  have hA : ∀ q : Nat, s.heap.size ≤ q → A q := fun q h => by rw [← hAe]; exact Or.inr h
  have hS : va_S A s.heap s.heap [] := va_S.rf
  have hP : va_P (dC, dI) vwCl [(h0, .inr (7, [.ref p1, u1, .ref p3, u3, .ref p4, u5])), (p1, .inr (1, [w0, w1, w2, w3, w4, w5, .int 0, w7])), (p4, .inr (6, [.ref t0, z1, z2, .ref t3, .ref t4])), (t0, .inl (kt0, 10, .inl (fun _ => 0))), (t3, .inl (kt3, 10, .inl (fun _ => 0))), (t4, .inl (kt4, 100, .inl (fun _ => 0)))] s.heap := hP
  have hl := lv_entry ([.ref h0, .int n1]) (n := 2) (Nat.le_of_ble_eq_true rfl)
  rw [lg_entry_eq]
  generalize (lg_sl ([.ref h0, .int n1]) ++ List.replicate (2 - (lg_sl ([.ref h0, .int n1])).length) Slot.unset).toArray = ls at hl ⊢
  have hl : lv_has ls 2 [(0, .ref h0), (1, .int n1)] := hl
  skip
  refine lv_iload_n hx hb dX8_slot_0 rfl (lv_at hl 1 rfl) ?_
  refine lv_if_lt (tgt := 10) hx hb dX8_slot_1 (by decide) (fun c_1 => ?_) (fun c_1 => ?_)
  · have b_2 := fx_lt (x := n1) (C := 0) (by decide) c_1
    refine lv_bipush (v := (-2)) hx hb dX8_slot_10 (by decide) ?_
    exact W.iret (v := (-2)) hx hb hr (fun t ht hW => ⟨⟨(-2), (), rfl, (by (unfold F_slot; repeat' split) <;> first | rfl | (exfalso; omega)), trivial⟩, hS.F ht⟩) hS.2.2 dX8_slot_12
  · have b_2 := fn_lt (x := n1) (C := 0) (by decide) c_1
    refine lv_iload_n hx hb dX8_slot_4 rfl (lv_at hl 1 rfl) ?_
    refine lv_bipush (v := 100) hx hb dX8_slot_5 (by decide) ?_
    refine lv_icmp_lt (tgt := 13) hx hb dX8_slot_7 (by decide) (fun c_3 => ?_) (fun c_3 => ?_)
    · have b_4 := fx_lt (x := n1) (C := 100) (by decide) c_3
      refine lv_aload_n hx hb dX8_slot_13 rfl (lv_at hl 0 rfl) ?_
      refine va_get (D := (dC, dI)) (ci := 7) (v := .ref p4) (C := RX8) (T := TX8) (N := 6) hx hb hts inB_8 hown hK hP 0 rfl rfl 4 (by decide) (hts _ mw_1_172) (fun _ h9 => h9) rfl dX8_slot_14 ?_
      refine lv_aload_n hx hb dX8_slot_17 rfl (lv_at hl 0 rfl) ?_
      refine va_get (D := (dC, dI)) (ci := 7) (v := .ref p1) (C := RX8) (T := TX8) (N := 6) hx hb hts inB_8 hown hK hP 0 rfl rfl 0 (by decide) (hts _ mw_1_168) (fun _ h9 => h9) rfl dX8_slot_18 ?_
      refine lv_aload_n hx hb dX8_slot_21 rfl (lv_at hl 0 rfl) ?_
      refine va_get (D := (dC, dI)) (ci := 7) (v := .ref p3) (C := RX8) (T := TX8) (N := 6) hx hb hts inB_8 hown hK hP 0 rfl rfl 2 (by decide) (hts _ mw_1_170) (fun _ h9 => h9) rfl dX8_slot_22 ?_
      have hPc := hP.sub (ws' := [(p4, .inr (6, [.ref t0, z1, z2, .ref t3, .ref t4])), (t0, .inl (kt0, 10, .inl (fun _ => 0))), (p1, .inr (1, [w0, w1, w2, w3, w4, w5, .int 0, w7]))]) [2, 3, 1] rfl
      have hDc := hD.sub (ws' := [(p4, .inr (6, [.ref t0, z1, z2, .ref t3, .ref t4])), (t0, .inl (kt0, 10, .inl (fun _ => 0))), (p1, .inr (1, [w0, w1, w2, w3, w4, w5, .int 0, w7]))]) [2, 3, 1] (by decide) rfl
      have hKc := hK.sub (tys' := [(kt0, .int)]) [0] rfl
      have hFc := va_free (wc := [(p4, .inr (6, [.ref t0, z1, z2, .ref t3, .ref t4])), (t0, .inl (kt0, 10, .inl (fun _ => 0))), (p1, .inr (1, [w0, w1, w2, w3, w4, w5, .int 0, w7]))]) hD hS hA [2, 3, 1] rfl
      refine va_callv (va_runV (As := [.ref p1, .ref p3]) (rest := []) ⟨hx, hb, hml, hown, hts⟩ (c_fill l dC dI s.heap.size p4 t0 (z1) (z2) (.ref t3) (.ref t4) kt0 p1 (w0) (w1) (w2) (w3) (w4) (w5) (w7) p3) (cwV 2 hts (gV mw_3_6 mw_3_7 mw_3_8 mw_1_7 mw_3_9) rfl rfl rfl (by decide +kernel) ⟨Nat.le_of_ble_eq_true rfl, Nat.le_of_ble_eq_true rfl⟩) ⟨pcW_blind, va_recv hKc hPc (ci := 6) (q0 := 0) rfl rfl, pcW_at hPc hKc hDc hN⟩ rfl rfl hl.1 rfl (lv_room (Nat.le_of_ble_eq_true rfl)) dX8_slot_25 ⟨Nat.le_of_ble_eq_true rfl, Nat.le_of_ble_eq_true rfl⟩) hS (fun q _ h => hFc q h) hFc (fun u t H1 locs ht hvm hw_5 hB hz1 hk1 hS => ?_)
      obtain ⟨hP1, hK1, hD1⟩ := hB
      rw [ht] at hP1
      have hK1 := va_K.moved hvm.symm hK1
      obtain ⟨hP, hD⟩ := va_join (wr := [(h0, .inr (7, [.ref p1, u1, .ref p3, u3, .ref p4, u5])), (t3, .inl (kt3, 10, .inl (fun _ => 0))), (t4, .inl (kt4, 100, .inl (fun _ => 0)))]) (w1 := [(p4, .inr (6, [.ref t0, z1, z2, .ref t3, .ref t4])), (t0, .inl (kt0, 10, .inl (fun _ => 0))), (p1, .inr (1, [w0, w1, w2, w3, w4, w5, .int 0, w7]))]) hP hD [2, 3, 1] [0, 4, 5] rfl rfl (by decide) (by decide) hk1 hFc hP1 hD1
      have hK := (hK.sub (tys' := [(kt3, .int), (kt4, .int)]) [1, 2] rfl).app hK1
      clear hz1 hk1 hPc hDc hKc hFc
      generalize H1 = H at hP hS ⊢
      have hK : va_K (dC, dI) vwCl [(kt3, .int), (kt4, .int), (kt0, .int)] s := hK
      have hP : va_P (dC, dI) vwCl [(h0, .inr (7, [.ref p1, u1, .ref p3, u3, .ref p4, u5])), (t3, .inl (kt3, 10, .inl (fun _ => 0))), (t4, .inl (kt4, 100, .inl (fun _ => 0))), (p4, .inr (6, [.ref t0, z1, z2, .ref t3, .ref t4])), (t0, .inl (kt0, 10, .inl (fun _ => 0))), (p1, .inr (1, [w0, w1, w2, w3, w4, w5, .int 0, w7]))] H := hP
      have hD : va_D A [(h0, .inr (7, [.ref p1, u1, .ref p3, u3, .ref p4, u5])), (t3, .inl (kt3, 10, .inl (fun _ => 0))), (t4, .inl (kt4, 100, .inl (fun _ => 0))), (p4, .inr (6, [.ref t0, z1, z2, .ref t3, .ref t4])), (t0, .inl (kt0, 10, .inl (fun _ => 0))), (p1, .inr (1, [w0, w1, w2, w3, w4, w5, .int 0, w7]))] := hD
      refine lv_aload_n hx hb dX8_slot_28 rfl (lv_at hl 0 rfl) ?_
      refine va_get (D := (dC, dI)) (ci := 7) (v := .ref p4) (C := RX8) (T := TX8) (N := 6) hx hb hts inB_8 hown hK hP 0 rfl rfl 4 (by decide) (hts _ mw_1_172) (fun _ h9 => h9) rfl dX8_slot_29 ?_
      have hPc := hP.sub (ws' := [(p4, .inr (6, [.ref t0, z1, z2, .ref t3, .ref t4])), (t0, .inl (kt0, 10, .inl (fun _ => 0))), (t3, .inl (kt3, 10, .inl (fun _ => 0))), (t4, .inl (kt4, 100, .inl (fun _ => 0)))]) [3, 4, 1, 2] rfl
      have hDc := hD.sub (ws' := [(p4, .inr (6, [.ref t0, z1, z2, .ref t3, .ref t4])), (t0, .inl (kt0, 10, .inl (fun _ => 0))), (t3, .inl (kt3, 10, .inl (fun _ => 0))), (t4, .inl (kt4, 100, .inl (fun _ => 0)))]) [3, 4, 1, 2] (by decide) rfl
      have hKc := hK.sub (tys' := [(kt0, .int), (kt3, .int), (kt4, .int)]) [2, 0, 1] rfl
      have hFc := va_free (wc := [(p4, .inr (6, [.ref t0, z1, z2, .ref t3, .ref t4])), (t0, .inl (kt0, 10, .inl (fun _ => 0))), (t3, .inl (kt3, 10, .inl (fun _ => 0))), (t4, .inl (kt4, 100, .inl (fun _ => 0)))]) hD hS hA [3, 4, 1, 2] rfl
      refine va_calli (va_runV (As := []) (rest := []) ⟨hx, hb, hml, hown, hts⟩ (c_push l dC dI H.size p4 t0 (z1) (z2) t3 t4 kt0 kt3 kt4) (cwV 0 hts (gV mw_3_44 mw_3_45 mw_3_46 mw_1_7 mw_3_47) rfl rfl rfl (by decide +kernel) ⟨Nat.le_of_ble_eq_true rfl, Nat.le_of_ble_eq_true rfl⟩) ⟨pcW_blind, va_recv hKc hPc (ci := 6) (q0 := 0) rfl rfl, pcW_at hPc hKc hDc hN⟩ rfl rfl hl.1 rfl (lv_room (Nat.le_of_ble_eq_true rfl)) dX8_slot_32 ⟨Nat.le_of_ble_eq_true rfl, Nat.le_of_ble_eq_true rfl⟩) hS (fun q _ h => hFc q h) hFc (fun r_6 u t H1 locs ht hvm hw_6 hB hz1 hk1 hS => ?_)
      obtain ⟨hP1, hK1, hD1⟩ := hB
      rw [ht] at hP1
      have hK1 := va_K.moved hvm.symm hK1
      obtain ⟨hP, hD⟩ := va_join (wr := [(h0, .inr (7, [.ref p1, u1, .ref p3, u3, .ref p4, u5])), (p1, .inr (1, [w0, w1, w2, w3, w4, w5, .int 0, w7]))]) (w1 := [(p4, .inr (6, [.ref t0, z1, z2, .ref t3, .ref t4])), (t0, .inl (kt0, 10, .inl (fun _ => 0))), (t3, .inl (kt3, 10, .inl (slF (-6) 0 10))), (t4, .inl (kt4, 100, .inl (slF (-6) 0 100)))]) hP hD [3, 4, 1, 2] [0, 5] rfl rfl (by decide) (by decide) hk1 hFc hP1 hD1
      have hK := (hK.sub (tys' := []) [] rfl).app hK1
      clear hz1 hk1 hPc hDc hKc hFc
      generalize H1 = H at hP hS ⊢
      have hK : va_K (dC, dI) vwCl [(kt0, .int), (kt3, .int), (kt4, .int)] s := hK
      have hP : va_P (dC, dI) vwCl [(h0, .inr (7, [.ref p1, u1, .ref p3, u3, .ref p4, u5])), (p1, .inr (1, [w0, w1, w2, w3, w4, w5, .int 0, w7])), (p4, .inr (6, [.ref t0, z1, z2, .ref t3, .ref t4])), (t0, .inl (kt0, 10, .inl (fun _ => 0))), (t3, .inl (kt3, 10, .inl (slF (-6) 0 10))), (t4, .inl (kt4, 100, .inl (slF (-6) 0 100)))] H := hP
      have hD : va_D A [(h0, .inr (7, [.ref p1, u1, .ref p3, u3, .ref p4, u5])), (p1, .inr (1, [w0, w1, w2, w3, w4, w5, .int 0, w7])), (p4, .inr (6, [.ref t0, z1, z2, .ref t3, .ref t4])), (t0, .inl (kt0, 10, .inl (fun _ => 0))), (t3, .inl (kt3, 10, .inl (slF (-6) 0 10))), (t4, .inl (kt4, 100, .inl (slF (-6) 0 100)))] := hD
      obtain rfl : r_6 = 0 := hw_6
      refine lv_pop hx hb dX8_slot_35 rfl ?_
      refine lv_aload_n hx hb dX8_slot_36 rfl (lv_at hl 0 rfl) ?_
      refine va_get (D := (dC, dI)) (ci := 7) (v := .ref p4) (C := RX8) (T := TX8) (N := 6) hx hb hts inB_8 hown hK hP 0 rfl rfl 4 (by decide) (hts _ mw_1_172) (fun _ h9 => h9) rfl dX8_slot_37 ?_
      refine lv_iload_n hx hb dX8_slot_40 rfl (lv_at hl 1 rfl) ?_
      have hPc := hP.sub (ws' := [(p4, .inr (6, [.ref t0, z1, z2, .ref t3, .ref t4])), (t4, .inl (kt4, 100, .inl (slF (-6) 0 100)))]) [2, 5] rfl
      have hDc := hD.sub (ws' := [(p4, .inr (6, [.ref t0, z1, z2, .ref t3, .ref t4])), (t4, .inl (kt4, 100, .inl (slF (-6) 0 100)))]) [2, 5] (by decide) rfl
      have hKc := hK.sub (tys' := [(kt4, .int)]) [2] rfl
      refine va_calli (va_runV (As := [.int n1]) (rest := []) ⟨hx, hb, hml, hown, hts⟩ (c_stands l dC dI H.size p4 (.ref t0) (z1) (z2) (.ref t3) t4 kt4 n1) (cwV 1 hts (gV mw_3_68 mw_3_69 mw_3_70 mw_1_7 mw_3_71) rfl rfl rfl (by decide +kernel) ⟨Nat.le_of_ble_eq_true rfl, Nat.le_of_ble_eq_true rfl⟩) ⟨pcW_blind, va_recv hKc hPc (ci := 6) (q0 := 0) rfl rfl, pcW_at hPc hKc hDc hN⟩ rfl rfl hl.1 rfl (lv_room (Nat.le_of_ble_eq_true rfl)) dX8_slot_41 ⟨Nat.le_of_ble_eq_true rfl, Nat.le_of_ble_eq_true rfl⟩) hS (fun q h1 h2 => absurd h2 (Nat.not_le.mpr h1)) (fun q h => hA q (Nat.le_trans hS.1 h)) (fun r_7 u t H1 locs ht hvm hw_7 hB hz1 hk1 hS => ?_)
      have hP := keepP hP hk1
      clear hz1 hk1 hB ht hvm hPc hDc hKc
      generalize H1 = H at hP hS ⊢
      obtain rfl : r_7 = (-6) := hw_7
      exact W.iret (v := (-6)) hx hb hr (fun t ht hW => ⟨⟨(-6), (), rfl, (by (unfold F_slot; repeat' split) <;> first | rfl | (exfalso; omega)), trivial⟩, hS.F ht⟩) hS.2.2 dX8_slot_44
    · have b_4 := fn_lt (x := n1) (C := 100) (by decide) c_3
      refine lv_bipush (v := (-2)) hx hb dX8_slot_10 (by decide) ?_
      exact W.iret (v := (-2)) hx hb hr (fun t ht hW => ⟨⟨(-2), (), rfl, (by (unfold F_slot; repeat' split) <;> first | rfl | (exfalso; omega)), trivial⟩, hS.F ht⟩) hS.2.2 dX8_slot_12
set_option maxHeartbeats 4000000 in
set_option maxRecDepth 100000 in
theorem x_call (l : Launch) (dC : Nat → ClassId) (dI : Nat → Nat → Nat) (sz : Nat) (h0 : Nat) (p1 : Nat) (u1 : Value) (u2 : Value) (u3 : Value) (u4 : Value) (u5 : Value) (w0 : Value) (w1 : Value) (w2 : Value) (w3 : Value) (w4 : Value) (w5 : Value) (w7 : Value) (n1 : Int32) (n2 : Int32)  : Met l yX8_call (wq yX8_call cX8_call 3 (some .int)) ({ frames := 1, cells := 0, slots := 0, locals := 21 }) (va_Pc [.ref h0, .int n1, .int n2] (pcW dC dI [] [(h0, .inr (7, [.ref p1, u1, u2, u3, u4, u5])), (p1, .inr (1, [w0, w1, w2, w3, w4, w5, .int 0, w7]))] sz)) (va_Qi (fun (r : Int32) (_ : Unit) => r = (-1)) (fun _ _ => True) (fun q : Nat => sz ≤ q)) 0 0 (fun q : Nat => sz ≤ q) := by
  refine Met.ofW (cc := cX8_call) (maxL := 3) (ret := (some .int)) (by decide) rfl ?_
  intro p e s m args below meth c s₁ B hml hv
  obtain ⟨rfl, hsz, hN, hP, hK, hD0⟩ := hv
  have hx := B.exec
  have hb := B.bytes
  have hr := B.returns
  have hts0 := atoms_spec (ws := (wq yX8_call cX8_call 3 (some .int))) B.pre
  have hts : ∀ w ∈ BG, w.before _ s = true := fun w h => hts0 w (List.mem_cons_of_mem _ h)
  have hown : s.vm.findClass RX8 = some m.cls := findClass_of_methodNamed B.named
  have hlocks := B.notSynchronized
  subst hsz
  have hA : ∀ q : Nat, s.heap.size ≤ q → (fun q : Nat => s.heap.size ≤ q) q := fun _ h => h
  have hD := hD0
  have hS : va_S (fun q : Nat => s.heap.size ≤ q) s.heap s.heap [] := va_S.rf
  have hP : va_P (dC, dI) vwCl [(h0, .inr (7, [.ref p1, u1, u2, u3, u4, u5])), (p1, .inr (1, [w0, w1, w2, w3, w4, w5, .int 0, w7]))] s.heap := hP
  have hl := lv_entry ([.ref h0, .int n1, .int n2]) (n := 3) (Nat.le_of_ble_eq_true rfl)
  rw [lg_entry_eq]
  generalize (lg_sl ([.ref h0, .int n1, .int n2]) ++ List.replicate (3 - (lg_sl ([.ref h0, .int n1, .int n2])).length) Slot.unset).toArray = ls at hl ⊢
  have hl : lv_has ls 3 [(0, .ref h0), (1, .int n1), (2, .int n2)] := hl
  skip
  refine lv_iload_n hx hb dX8_call_0 rfl (lv_at hl 1 rfl) ?_
  have hPc := hP.sub (ws' := []) [] rfl
  have hDc := hD.sub (ws' := []) [] (by decide) rfl
  have hKc := hK.sub (tys' := []) [] rfl
  refine va_calli (va_runS (As := [.int n1]) (rest := []) ⟨hx, hb, hml, hown, hts⟩ (c_isPlace l dC dI s.heap.size n1) (va_cwS 1 hts (gS mw_3_85 mw_3_86 mw_1_1 mw_3_87) rfl rfl rfl (by decide +kernel) ⟨Nat.le_of_ble_eq_true rfl, Nat.le_of_ble_eq_true rfl⟩) ⟨pcW_blind, pcW_at hPc hKc hDc hN⟩ rfl rfl hl.1 rfl (lv_room (Nat.le_of_ble_eq_true rfl)) dX8_call_1 ⟨Nat.le_of_ble_eq_true rfl, Nat.le_of_ble_eq_true rfl⟩) hS (fun q h1 h2 => absurd h2 (Nat.not_le.mpr h1)) (fun q h => hA q (Nat.le_trans hS.1 h)) (fun r_1 u t H1 locs ht hvm hw_1 hB hz1 hk1 hS => ?_)
  have hP := keepP hP hk1
  clear hz1 hk1 hB ht hvm hPc hDc hKc
  generalize H1 = H at hP hS ⊢
  rcases fx_bool hw_1 with ⟨rfl, b_2⟩ | ⟨rfl, b_2⟩
  · skip
    refine lv_if_eq (tgt := 18) hx hb dX8_call_4 (by decide) (fun h => absurd h (by decide)) (fun _ => ?_)
    refine lv_aload_n hx hb dX8_call_7 rfl (lv_at hl 0 rfl) ?_
    refine va_get (D := (dC, dI)) (ci := 7) (v := .ref p1) (C := RX8) (T := TX8) (N := 6) hx hb hts inB_8 hown hK hP 0 rfl rfl 0 (by decide) (hts _ mw_1_168) (fun _ h9 => h9) rfl dX8_call_8 ?_
    refine lv_iload_n hx hb dX8_call_11 rfl (lv_at hl 2 rfl) ?_
    have hPc := hP.sub (ws' := [(p1, .inr (1, [w0, w1, w2, w3, w4, w5, .int 0, w7]))]) [1] rfl
    have hDc := hD.sub (ws' := [(p1, .inr (1, [w0, w1, w2, w3, w4, w5, .int 0, w7]))]) [1] (by decide) rfl
    have hKc := hK.sub (tys' := []) [] rfl
    refine va_calli (va_runV (As := [.int n2]) (rest := []) ⟨hx, hb, hml, hown, hts⟩ (c_knows0 l dC dI H.size p1 (w0) (w1) (w2) (w3) (w4) (w5) (w7) n2) (cwV 1 hts (gV mw_1_191 mw_1_192 mw_1_193 mw_1_2 mw_1_194) rfl rfl rfl (by decide +kernel) ⟨Nat.le_of_ble_eq_true rfl, Nat.le_of_ble_eq_true rfl⟩) ⟨pcW_blind, va_recv hKc hPc (ci := 1) (q0 := 0) rfl rfl, pcW_at hPc hKc hDc hN⟩ rfl rfl hl.1 rfl (lv_room (Nat.le_of_ble_eq_true rfl)) dX8_call_12 ⟨Nat.le_of_ble_eq_true rfl, Nat.le_of_ble_eq_true rfl⟩) hS (fun q h1 h2 => absurd h2 (Nat.not_le.mpr h1)) (fun q h => hA q (Nat.le_trans hS.1 h)) (fun r_3 u t H1 locs ht hvm hw_3 hB hz1 hk1 hS => ?_)
    have hP := keepP hP hk1
    clear hz1 hk1 hB ht hvm hPc hDc hKc
    generalize H1 = H at hP hS ⊢
    obtain rfl : r_3 = 0 := hw_3
    refine lv_if_ne (tgt := 20) hx hb dX8_call_15 (by decide) (fun h => absurd h (by decide)) (fun _ => ?_)
    refine lv_iconst (v := (-1)) hx hb dX8_call_18 (by decide) ?_
    exact W.iret (v := (-1)) hx hb hr (fun t ht hW => ⟨⟨(-1), (), rfl, rfl, trivial⟩, hS.F ht⟩) hS.2.2 dX8_call_19
  · skip
    refine lv_if_eq (tgt := 18) hx hb dX8_call_4 (by decide) (fun _ => ?_) (fun h => absurd (by decide) h)
    refine lv_iconst (v := (-1)) hx hb dX8_call_18 (by decide) ?_
    exact W.iret (v := (-1)) hx hb hr (fun t ht hW => ⟨⟨(-1), (), rfl, rfl, trivial⟩, hS.F ht⟩) hS.2.2 dX8_call_19
set_option maxHeartbeats 4000000 in
set_option maxRecDepth 100000 in
theorem x_forget (l : Launch) (dC : Nat → ClassId) (dI : Nat → Nat → Nat) (sz : Nat) (h0 : Nat) (u0 : Value) (u1 : Value) (u2 : Value) (u3 : Value) (u4 : Value) (p5 : Nat) (z0 : Value) (z1 : Value) (z2 : Value) (z3 : Value)  : Met l yX8_forget (wq yX8_forget cX8_forget 1 (some .int)) ({ frames := 1, cells := 0, slots := 0, locals := 21 }) (va_Pc [.ref h0] (pcW dC dI [] [(h0, .inr (7, [u0, u1, u2, u3, u4, .ref p5])), (p5, .inr (3, [z0, z1, z2, z3, .int 0, .int 0]))] sz)) (va_Qi (fun (r : Int32) (_ : Unit) => r = 0) (fun _ _ => True) (va_A [(h0, .inr (7, [u0, u1, u2, u3, u4, .ref p5])), (p5, .inr (3, [z0, z1, z2, z3, .int 0, .int 0]))] sz)) 0 0 (va_A [(h0, .inr (7, [u0, u1, u2, u3, u4, .ref p5])), (p5, .inr (3, [z0, z1, z2, z3, .int 0, .int 0]))] sz) := by
  refine Met.ofW (cc := cX8_forget) (maxL := 1) (ret := (some .int)) (by decide) rfl ?_
  intro p e s m args below meth c s₁ B hml hv
  obtain ⟨rfl, hsz, hN, hP, hK, hD0⟩ := hv
  have hx := B.exec
  have hb := B.bytes
  have hr := B.returns
  have hts0 := atoms_spec (ws := (wq yX8_forget cX8_forget 1 (some .int))) B.pre
  have hts : ∀ w ∈ BG, w.before _ s = true := fun w h => hts0 w (List.mem_cons_of_mem _ h)
  have hown : s.vm.findClass RX8 = some m.cls := findClass_of_methodNamed B.named
  have hlocks := B.notSynchronized
  subst hsz
  have hD := hD0.self (sz := s.heap.size)
  generalize hAe : va_A [(h0, .inr (7, [u0, u1, u2, u3, u4, .ref p5])), (p5, .inr (3, [z0, z1, z2, z3, .int 0, .int 0]))] s.heap.size = A at hD ⊢
  have hA : ∀ q : Nat, s.heap.size ≤ q → A q := fun q h => by rw [← hAe]; exact Or.inr h
  have hS : va_S A s.heap s.heap [] := va_S.rf
  have hP : va_P (dC, dI) vwCl [(h0, .inr (7, [u0, u1, u2, u3, u4, .ref p5])), (p5, .inr (3, [z0, z1, z2, z3, .int 0, .int 0]))] s.heap := hP
  have hl := lv_entry ([.ref h0]) (n := 1) (Nat.le_of_ble_eq_true rfl)
  rw [lg_entry_eq]
  generalize (lg_sl ([.ref h0]) ++ List.replicate (1 - (lg_sl ([.ref h0])).length) Slot.unset).toArray = ls at hl ⊢
  have hl : lv_has ls 1 [(0, .ref h0)] := hl
  skip
  refine lv_aload_n hx hb dX8_forget_0 rfl (lv_at hl 0 rfl) ?_
  refine va_get (D := (dC, dI)) (ci := 7) (v := .ref p5) (C := RX8) (T := TX8) (N := 6) hx hb hts inB_8 hown hK hP 0 rfl rfl 5 (by decide) (hts _ mw_1_173) (fun _ h9 => h9) rfl dX8_forget_1 ?_
  have hPc := hP.sub (ws' := [(p5, .inr (3, [z0, z1, z2, z3, .int 0, .int 0]))]) [1] rfl
  have hDc := hD.sub (ws' := [(p5, .inr (3, [z0, z1, z2, z3, .int 0, .int 0]))]) [1] (by decide) rfl
  have hKc := hK.sub (tys' := []) [] rfl
  have hFc := va_free (wc := [(p5, .inr (3, [z0, z1, z2, z3, .int 0, .int 0]))]) hD hS hA [1] rfl
  refine va_calli (va_runV (As := []) (rest := []) ⟨hx, hb, hml, hown, hts⟩ (c_plClear l dC dI s.heap.size p5 (z0) (z1) (z2) (z3)) (cwV 0 hts (gV mw_3_101 mw_3_102 mw_3_103 mw_1_8 mw_3_104) rfl rfl rfl (by decide +kernel) ⟨Nat.le_of_ble_eq_true rfl, Nat.le_of_ble_eq_true rfl⟩) ⟨pcW_blind, va_recv hKc hPc (ci := 3) (q0 := 0) rfl rfl, pcW_at hPc hKc hDc hN⟩ rfl rfl hl.1 rfl (lv_room (Nat.le_of_ble_eq_true rfl)) dX8_forget_4 ⟨Nat.le_of_ble_eq_true rfl, Nat.le_of_ble_eq_true rfl⟩) hS (fun q _ h => hFc q h) hFc (fun r_1 u t H1 locs ht hvm hw_1 hB hz1 hk1 hS => ?_)
  obtain ⟨hP, hD⟩ := va_join (wr := [(h0, .inr (7, [u0, u1, u2, u3, u4, .ref p5]))]) (w1 := []) hP hD [1] [0] rfl rfl (by decide) (by decide) hk1 hFc nilP nilD
  rw [List.append_nil] at hP hD
  clear hz1 hk1 hPc hDc hKc hFc
  generalize H1 = H at hP hS ⊢
  have hK : va_K (dC, dI) vwCl [] s := hK
  have hP : va_P (dC, dI) vwCl [(h0, .inr (7, [u0, u1, u2, u3, u4, .ref p5]))] H := hP
  have hD : va_D A [(h0, .inr (7, [u0, u1, u2, u3, u4, .ref p5]))] := hD
  obtain rfl : r_1 = 0 := hw_1
  exact W.iret (v := 0) hx hb hr (fun t ht hW => ⟨⟨0, (), rfl, rfl, trivial⟩, hS.F ht⟩) hS.2.2 dX8_forget_7
set_option maxHeartbeats 4000000 in
set_option maxRecDepth 100000 in
theorem x_size (l : Launch) (dC : Nat → ClassId) (dI : Nat → Nat → Nat) (sz : Nat) (h0 : Nat) (u0 : Value) (u1 : Value) (u2 : Value) (u3 : Value) (u4 : Value) (p5 : Nat) (s0 : Nat) (z1 : Value) (z2 : Value) (z3 : Value) (ks0 : ClassId) (n1 : Int32) (n2 : Int32)  : Met l yX8_size (wq yX8_size cX8_size 3 (some .int)) ({ frames := 3, cells := 0, slots := 0, locals := 64 }) (va_Pc [.ref h0, .int n1, .int n2] (pcW dC dI [(ks0, .int)] [(h0, .inr (7, [u0, u1, u2, u3, u4, .ref p5])), (p5, .inr (3, [.ref s0, z1, z2, z3, .int 0, .int 0])), (s0, .inl (ks0, 4, .inl (slF 1 0 4)))] sz)) (va_Qi (fun (r : Int32) (_ : Unit) => r = F_size n1 n2) (fun _ _ => True) (va_A [(h0, .inr (7, [u0, u1, u2, u3, u4, .ref p5])), (p5, .inr (3, [.ref s0, z1, z2, z3, .int 0, .int 0])), (s0, .inl (ks0, 4, .inl (slF 1 0 4)))] sz)) 0 0 (va_A [(h0, .inr (7, [u0, u1, u2, u3, u4, .ref p5])), (p5, .inr (3, [.ref s0, z1, z2, z3, .int 0, .int 0])), (s0, .inl (ks0, 4, .inl (slF 1 0 4)))] sz) := by
  refine Met.ofW (cc := cX8_size) (maxL := 3) (ret := (some .int)) (by decide) rfl ?_
  intro p e s m args below meth c s₁ B hml hv
  obtain ⟨rfl, hsz, hN, hP, hK, hD0⟩ := hv
  have hx := B.exec
  have hb := B.bytes
  have hr := B.returns
  have hts0 := atoms_spec (ws := (wq yX8_size cX8_size 3 (some .int))) B.pre
  have hts : ∀ w ∈ BG, w.before _ s = true := fun w h => hts0 w (List.mem_cons_of_mem _ h)
  have hown : s.vm.findClass RX8 = some m.cls := findClass_of_methodNamed B.named
  have hlocks := B.notSynchronized
  subst hsz
  have hD := hD0.self (sz := s.heap.size)
  generalize hAe : va_A [(h0, .inr (7, [u0, u1, u2, u3, u4, .ref p5])), (p5, .inr (3, [.ref s0, z1, z2, z3, .int 0, .int 0])), (s0, .inl (ks0, 4, .inl (slF 1 0 4)))] s.heap.size = A at hD ⊢
  have hA : ∀ q : Nat, s.heap.size ≤ q → A q := fun q h => by rw [← hAe]; exact Or.inr h
  have hS : va_S A s.heap s.heap [] := va_S.rf
  have hP : va_P (dC, dI) vwCl [(h0, .inr (7, [u0, u1, u2, u3, u4, .ref p5])), (p5, .inr (3, [.ref s0, z1, z2, z3, .int 0, .int 0])), (s0, .inl (ks0, 4, .inl (slF 1 0 4)))] s.heap := hP
  have hl := lv_entry ([.ref h0, .int n1, .int n2]) (n := 3) (Nat.le_of_ble_eq_true rfl)
  rw [lg_entry_eq]
  generalize (lg_sl ([.ref h0, .int n1, .int n2]) ++ List.replicate (3 - (lg_sl ([.ref h0, .int n1, .int n2])).length) Slot.unset).toArray = ls at hl ⊢
  have hl : lv_has ls 3 [(0, .ref h0), (1, .int n1), (2, .int n2)] := hl
  skip
  refine lv_iload_n hx hb dX8_size_0 rfl (lv_at hl 1 rfl) ?_
  have hPc := hP.sub (ws' := []) [] rfl
  have hDc := hD.sub (ws' := []) [] (by decide) rfl
  have hKc := hK.sub (tys' := []) [] rfl
  refine va_calli (va_runS (As := [.int n1]) (rest := []) ⟨hx, hb, hml, hown, hts⟩ (c_isPlace l dC dI s.heap.size n1) (va_cwS 1 hts (gS mw_3_85 mw_3_86 mw_1_1 mw_3_87) rfl rfl rfl (by decide +kernel) ⟨Nat.le_of_ble_eq_true rfl, Nat.le_of_ble_eq_true rfl⟩) ⟨pcW_blind, pcW_at hPc hKc hDc hN⟩ rfl rfl hl.1 rfl (lv_room (Nat.le_of_ble_eq_true rfl)) dX8_size_1 ⟨Nat.le_of_ble_eq_true rfl, Nat.le_of_ble_eq_true rfl⟩) hS (fun q h1 h2 => absurd h2 (Nat.not_le.mpr h1)) (fun q h => hA q (Nat.le_trans hS.1 h)) (fun r_1 u t H1 locs ht hvm hw_1 hB hz1 hk1 hS => ?_)
  have hP := keepP hP hk1
  clear hz1 hk1 hB ht hvm hPc hDc hKc
  generalize H1 = H at hP hS ⊢
  rcases fx_bool hw_1 with ⟨rfl, b_2⟩ | ⟨rfl, b_2⟩
  · skip
    refine lv_if_ne (tgt := 9) hx hb dX8_size_4 (by decide) (fun _ => ?_) (fun h => absurd h (by decide))
    refine lv_iload_n hx hb dX8_size_9 rfl (lv_at hl 2 rfl) ?_
    refine lv_iconst (v := 1) hx hb dX8_size_10 (by decide) ?_
    refine lv_icmp_lt (tgt := 19) hx hb dX8_size_11 (by decide) (fun c_3 => ?_) (fun c_3 => ?_)
    · have b_4 := fx_lt (x := n2) (C := 1) (by decide) c_3
      refine lv_bipush (v := (-2)) hx hb dX8_size_19 (by decide) ?_
      exact W.iret (v := (-2)) hx hb hr (fun t ht hW => ⟨⟨(-2), (), rfl, (by (unfold F_size; repeat' split) <;> first | rfl | (exfalso; omega)), trivial⟩, hS.F ht⟩) hS.2.2 dX8_size_21
    · have b_4 := fn_lt (x := n2) (C := 1) (by decide) c_3
      refine lv_iload_n hx hb dX8_size_14 rfl (lv_at hl 2 rfl) ?_
      refine lv_iconst (v := 4) hx hb dX8_size_15 (by decide) ?_
      refine lv_icmp_le (tgt := 22) hx hb dX8_size_16 (by decide) (fun c_5 => ?_) (fun c_5 => ?_)
      · have b_6 := fx_le (x := n2) (C := 4) (by decide) c_5
        refine lv_aload_n hx hb dX8_size_22 rfl (lv_at hl 0 rfl) ?_
        refine va_get (D := (dC, dI)) (ci := 7) (v := .ref p5) (C := RX8) (T := TX8) (N := 6) hx hb hts inB_8 hown hK hP 0 rfl rfl 5 (by decide) (hts _ mw_1_173) (fun _ h9 => h9) rfl dX8_size_23 ?_
        refine lv_iload_n hx hb dX8_size_26 rfl (lv_at hl 1 rfl) ?_
        refine lv_iload_n hx hb dX8_size_27 rfl (lv_at hl 2 rfl) ?_
        have hPc := hP.sub (ws' := [(p5, .inr (3, [.ref s0, z1, z2, z3, .int 0, .int 0])), (s0, .inl (ks0, 4, .inl (slF 1 0 4)))]) [1, 2] rfl
        have hDc := hD.sub (ws' := [(p5, .inr (3, [.ref s0, z1, z2, z3, .int 0, .int 0])), (s0, .inl (ks0, 4, .inl (slF 1 0 4)))]) [1, 2] (by decide) rfl
        have hKc := hK.sub (tys' := [(ks0, .int)]) [0] rfl
        have hFc := va_free (wc := [(p5, .inr (3, [.ref s0, z1, z2, z3, .int 0, .int 0])), (s0, .inl (ks0, 4, .inl (slF 1 0 4)))]) hD hS hA [1, 2] rfl
        refine va_calli (va_runV (As := [.int n1, .int n2]) (rest := []) ⟨hx, hb, hml, hown, hts⟩ (c_resize l dC dI H.size p5 s0 (z1) (z2) (z3) ks0 n1 n2) (cwV 2 hts (gV mw_3_109 mw_3_110 mw_3_111 mw_1_8 mw_3_112) rfl rfl rfl (by decide +kernel) ⟨Nat.le_of_ble_eq_true rfl, Nat.le_of_ble_eq_true rfl⟩) ⟨pcW_blind, va_recv hKc hPc (ci := 3) (q0 := 0) rfl rfl, pcW_at hPc hKc hDc hN⟩ rfl rfl hl.1 rfl (lv_room (Nat.le_of_ble_eq_true rfl)) dX8_size_28 ⟨Nat.le_of_ble_eq_true rfl, Nat.le_of_ble_eq_true rfl⟩) hS (fun q _ h => hFc q h) hFc (fun r_7 u t H1 locs ht hvm hw_7 hB hz1 hk1 hS => ?_)
        obtain ⟨hP, hD⟩ := va_join (wr := [(h0, .inr (7, [u0, u1, u2, u3, u4, .ref p5]))]) (w1 := []) hP hD [1, 2] [0] rfl rfl (by decide) (by decide) hk1 hFc nilP nilD
        rw [List.append_nil] at hP hD
        clear hz1 hk1 hPc hDc hKc hFc
        generalize H1 = H at hP hS ⊢
        have hK : va_K (dC, dI) vwCl [(ks0, .int)] s := hK
        have hP : va_P (dC, dI) vwCl [(h0, .inr (7, [u0, u1, u2, u3, u4, .ref p5]))] H := hP
        have hD : va_D A [(h0, .inr (7, [u0, u1, u2, u3, u4, .ref p5]))] := hD
        obtain rfl : r_7 = 1 := hw_7
        exact W.iret (v := 1) hx hb hr (fun t ht hW => ⟨⟨1, (), rfl, (by (unfold F_size; repeat' split) <;> first | rfl | (exfalso; omega)), trivial⟩, hS.F ht⟩) hS.2.2 dX8_size_31
      · have b_6 := fn_le (x := n2) (C := 4) (by decide) c_5
        refine lv_bipush (v := (-2)) hx hb dX8_size_19 (by decide) ?_
        exact W.iret (v := (-2)) hx hb hr (fun t ht hW => ⟨⟨(-2), (), rfl, (by (unfold F_size; repeat' split) <;> first | rfl | (exfalso; omega)), trivial⟩, hS.F ht⟩) hS.2.2 dX8_size_21
  · skip
    refine lv_if_ne (tgt := 9) hx hb dX8_size_4 (by decide) (fun h => absurd h (by decide)) (fun _ => ?_)
    refine lv_iconst (v := (-1)) hx hb dX8_size_7 (by decide) ?_
    exact W.iret (v := (-1)) hx hb hr (fun t ht hW => ⟨⟨(-1), (), rfl, (by (unfold F_size; repeat' split) <;> first | rfl | (exfalso; omega)), trivial⟩, hS.F ht⟩) hS.2.2 dX8_size_8
set_option maxHeartbeats 4000000 in
set_option maxRecDepth 100000 in
theorem x_hits (l : Launch) (dC : Nat → ClassId) (dI : Nat → Nat → Nat) (sz : Nat) (h0 : Nat) (u0 : Value) (u1 : Value) (u2 : Value) (u3 : Value) (u4 : Value) (p5 : Nat) (s0 : Nat) (z1 : Value) (z2 : Value) (z3 : Value) (ks0 : ClassId) (n1 : Int32) (n2 : Int32)  : Met l yX8_hits (wq yX8_hits cX8_hits 3 (some .int)) ({ frames := 3, cells := 0, slots := 0, locals := 66 }) (va_Pc [.ref h0, .int n1, .int n2] (pcW dC dI [(ks0, .int)] [(h0, .inr (7, [u0, u1, u2, u3, u4, .ref p5])), (p5, .inr (3, [.ref s0, z1, z2, z3, .int 0, .int 0])), (s0, .inl (ks0, 4, .inl (slF 1 0 4)))] sz)) (va_Qi (fun (r : Int32) (_ : Unit) => r = F_hits n1 n2) (fun _ _ => True) (va_A [(h0, .inr (7, [u0, u1, u2, u3, u4, .ref p5])), (p5, .inr (3, [.ref s0, z1, z2, z3, .int 0, .int 0])), (s0, .inl (ks0, 4, .inl (slF 1 0 4)))] sz)) 0 0 (va_A [(h0, .inr (7, [u0, u1, u2, u3, u4, .ref p5])), (p5, .inr (3, [.ref s0, z1, z2, z3, .int 0, .int 0])), (s0, .inl (ks0, 4, .inl (slF 1 0 4)))] sz) := by
  refine Met.ofW (cc := cX8_hits) (maxL := 3) (ret := (some .int)) (by decide) rfl ?_
  intro p e s m args below meth c s₁ B hml hv
  obtain ⟨rfl, hsz, hN, hP, hK, hD0⟩ := hv
  have hx := B.exec
  have hb := B.bytes
  have hr := B.returns
  have hts0 := atoms_spec (ws := (wq yX8_hits cX8_hits 3 (some .int))) B.pre
  have hts : ∀ w ∈ BG, w.before _ s = true := fun w h => hts0 w (List.mem_cons_of_mem _ h)
  have hown : s.vm.findClass RX8 = some m.cls := findClass_of_methodNamed B.named
  have hlocks := B.notSynchronized
  subst hsz
  have hD := hD0.self (sz := s.heap.size)
  generalize hAe : va_A [(h0, .inr (7, [u0, u1, u2, u3, u4, .ref p5])), (p5, .inr (3, [.ref s0, z1, z2, z3, .int 0, .int 0])), (s0, .inl (ks0, 4, .inl (slF 1 0 4)))] s.heap.size = A at hD ⊢
  have hA : ∀ q : Nat, s.heap.size ≤ q → A q := fun q h => by rw [← hAe]; exact Or.inr h
  have hS : va_S A s.heap s.heap [] := va_S.rf
  have hP : va_P (dC, dI) vwCl [(h0, .inr (7, [u0, u1, u2, u3, u4, .ref p5])), (p5, .inr (3, [.ref s0, z1, z2, z3, .int 0, .int 0])), (s0, .inl (ks0, 4, .inl (slF 1 0 4)))] s.heap := hP
  have hl := lv_entry ([.ref h0, .int n1, .int n2]) (n := 3) (Nat.le_of_ble_eq_true rfl)
  rw [lg_entry_eq]
  generalize (lg_sl ([.ref h0, .int n1, .int n2]) ++ List.replicate (3 - (lg_sl ([.ref h0, .int n1, .int n2])).length) Slot.unset).toArray = ls at hl ⊢
  have hl : lv_has ls 3 [(0, .ref h0), (1, .int n1), (2, .int n2)] := hl
  skip
  refine lv_iload_n hx hb dX8_hits_0 rfl (lv_at hl 1 rfl) ?_
  have hPc := hP.sub (ws' := []) [] rfl
  have hDc := hD.sub (ws' := []) [] (by decide) rfl
  have hKc := hK.sub (tys' := []) [] rfl
  refine va_calli (va_runS (As := [.int n1]) (rest := []) ⟨hx, hb, hml, hown, hts⟩ (c_isPlace l dC dI s.heap.size n1) (va_cwS 1 hts (gS mw_3_85 mw_3_86 mw_1_1 mw_3_87) rfl rfl rfl (by decide +kernel) ⟨Nat.le_of_ble_eq_true rfl, Nat.le_of_ble_eq_true rfl⟩) ⟨pcW_blind, pcW_at hPc hKc hDc hN⟩ rfl rfl hl.1 rfl (lv_room (Nat.le_of_ble_eq_true rfl)) dX8_hits_1 ⟨Nat.le_of_ble_eq_true rfl, Nat.le_of_ble_eq_true rfl⟩) hS (fun q h1 h2 => absurd h2 (Nat.not_le.mpr h1)) (fun q h => hA q (Nat.le_trans hS.1 h)) (fun r_1 u t H1 locs ht hvm hw_1 hB hz1 hk1 hS => ?_)
  have hP := keepP hP hk1
  clear hz1 hk1 hB ht hvm hPc hDc hKc
  generalize H1 = H at hP hS ⊢
  rcases fx_bool hw_1 with ⟨rfl, b_2⟩ | ⟨rfl, b_2⟩
  · skip
    refine lv_if_ne (tgt := 9) hx hb dX8_hits_4 (by decide) (fun _ => ?_) (fun h => absurd h (by decide))
    refine lv_iload_n hx hb dX8_hits_9 rfl (lv_at hl 2 rfl) ?_
    refine lv_if_ne (tgt := 22) hx hb dX8_hits_10 (by decide) (fun c_3 => ?_) (fun c_3 => ?_)
    · have b_4 := fx_ne (x := n2) (C := 0) (by decide) c_3
      refine lv_iload_n hx hb dX8_hits_22 rfl (lv_at hl 2 rfl) ?_
      refine lv_iconst (v := 1) hx hb dX8_hits_23 (by decide) ?_
      refine lv_icmp_ne (tgt := 44) hx hb dX8_hits_24 (by decide) (fun c_5 => ?_) (fun c_5 => ?_)
      · have b_6 := fx_ne (x := n2) (C := 1) (by decide) c_5
        refine lv_iload_n hx hb dX8_hits_44 rfl (lv_at hl 2 rfl) ?_
        refine lv_iconst (v := 2) hx hb dX8_hits_45 (by decide) ?_
        refine lv_icmp_ne (tgt := 58) hx hb dX8_hits_46 (by decide) (fun c_7 => ?_) (fun c_7 => ?_)
        · have b_8 := fx_ne (x := n2) (C := 2) (by decide) c_7
          refine lv_iload_n hx hb dX8_hits_58 rfl (lv_at hl 2 rfl) ?_
          refine lv_bipush (v := 10) hx hb dX8_hits_59 (by decide) ?_
          refine lv_icmp_lt (tgt := 70) hx hb dX8_hits_61 (by decide) (fun c_9 => ?_) (fun c_9 => ?_)
          · have b_10 := fx_lt (x := n2) (C := 10) (by decide) c_9
            refine lv_bipush (v := (-2)) hx hb dX8_hits_70 (by decide) ?_
            exact W.iret (v := (-2)) hx hb hr (fun t ht hW => ⟨⟨(-2), (), rfl, (by (unfold F_hits; repeat' split) <;> first | rfl | (exfalso; omega)), trivial⟩, hS.F ht⟩) hS.2.2 dX8_hits_72
          · have b_10 := fn_lt (x := n2) (C := 10) (by decide) c_9
            refine lv_iload_n hx hb dX8_hits_64 rfl (lv_at hl 2 rfl) ?_
            refine lv_bipush (v := 14) hx hb dX8_hits_65 (by decide) ?_
            refine lv_icmp_lt (tgt := 73) hx hb dX8_hits_67 (by decide) (fun c_11 => ?_) (fun c_11 => ?_)
            · have b_12 := fx_lt (x := n2) (C := 14) (by decide) c_11
              refine lv_aload_n hx hb dX8_hits_73 rfl (lv_at hl 0 rfl) ?_
              refine va_get (D := (dC, dI)) (ci := 7) (v := .ref p5) (C := RX8) (T := TX8) (N := 6) hx hb hts inB_8 hown hK hP 0 rfl rfl 5 (by decide) (hts _ mw_1_173) (fun _ h9 => h9) rfl dX8_hits_74 ?_
              refine lv_iload_n hx hb dX8_hits_77 rfl (lv_at hl 1 rfl) ?_
              refine lv_aload_n hx hb dX8_hits_78 rfl (lv_at hl 0 rfl) ?_
              refine va_get (D := (dC, dI)) (ci := 7) (v := .ref p5) (C := RX8) (T := TX8) (N := 6) hx hb hts inB_8 hown hK hP 0 rfl rfl 5 (by decide) (hts _ mw_1_173) (fun _ h9 => h9) rfl dX8_hits_79 ?_
              refine lv_iload_n hx hb dX8_hits_82 rfl (lv_at hl 1 rfl) ?_
              have hPc := hP.sub (ws' := [(p5, .inr (3, [.ref s0, z1, z2, z3, .int 0, .int 0])), (s0, .inl (ks0, 4, .inl (slF 1 0 4)))]) [1, 2] rfl
              have hDc := hD.sub (ws' := [(p5, .inr (3, [.ref s0, z1, z2, z3, .int 0, .int 0])), (s0, .inl (ks0, 4, .inl (slF 1 0 4)))]) [1, 2] (by decide) rfl
              have hKc := hK.sub (tys' := [(ks0, .int)]) [0] rfl
              refine va_calli (va_runV (As := [.int n1]) (rest := [.int n1, .ref p5]) ⟨hx, hb, hml, hown, hts⟩ (c_sizeOf l dC dI H.size p5 s0 (z1) (z2) (z3) ks0 n1) (cwV 1 hts (gV mw_3_126 mw_3_114 mw_3_115 mw_1_8 mw_3_116) rfl rfl rfl (by decide +kernel) ⟨Nat.le_of_ble_eq_true rfl, Nat.le_of_ble_eq_true rfl⟩) ⟨pcW_blind, va_recv hKc hPc (ci := 3) (q0 := 0) rfl rfl, pcW_at hPc hKc hDc hN⟩ rfl rfl hl.1 rfl (lv_room (Nat.le_of_ble_eq_true rfl)) dX8_hits_83 ⟨Nat.le_of_ble_eq_true rfl, Nat.le_of_ble_eq_true rfl⟩) hS (fun q h1 h2 => absurd h2 (Nat.not_le.mpr h1)) (fun q h => hA q (Nat.le_trans hS.1 h)) (fun r_13 u t H1 locs ht hvm hw_13 hB hz1 hk1 hS => ?_)
              have hP := keepP hP hk1
              clear hz1 hk1 hB ht hvm hPc hDc hKc
              generalize H1 = H at hP hS ⊢
              obtain rfl : r_13 = 1 := hw_13
              have hPc := hP.sub (ws' := [(p5, .inr (3, [.ref s0, z1, z2, z3, .int 0, .int 0]))]) [1] rfl
              have hDc := hD.sub (ws' := [(p5, .inr (3, [.ref s0, z1, z2, z3, .int 0, .int 0]))]) [1] (by decide) rfl
              have hKc := hK.sub (tys' := []) [] rfl
              have hFc := va_free (wc := [(p5, .inr (3, [.ref s0, z1, z2, z3, .int 0, .int 0]))]) hD hS hA [1] rfl
              refine va_calli (va_runV (As := [.int n1, .int 1]) (rest := []) ⟨hx, hb, hml, hown, hts⟩ (c_hbs l dC dI H.size p5 (.ref s0) (z1) (z2) (z3) n1 1) (cwV 2 hts (gV mw_3_127 mw_3_128 mw_3_129 mw_1_8 mw_3_130) rfl rfl rfl (by decide +kernel) ⟨Nat.le_of_ble_eq_true rfl, Nat.le_of_ble_eq_true rfl⟩) ⟨pcW_blind, va_recv hKc hPc (ci := 3) (q0 := 0) rfl rfl, pcW_at hPc hKc hDc hN⟩ rfl rfl hl.1 rfl (lv_room (Nat.le_of_ble_eq_true rfl)) dX8_hits_86 ⟨Nat.le_of_ble_eq_true rfl, Nat.le_of_ble_eq_true rfl⟩) hS (fun q _ h => hFc q h) hFc (fun r_14 u t H1 locs ht hvm hw_14 hB hz1 hk1 hS => ?_)
              obtain ⟨hP1, hK1, hD1⟩ := hB
              rw [ht] at hP1
              have hK1 := va_K.moved hvm.symm hK1
              obtain ⟨hP, hD⟩ := va_join (wr := [(h0, .inr (7, [u0, u1, u2, u3, u4, .ref p5])), (s0, .inl (ks0, 4, .inl (slF 1 0 4)))]) (w1 := [(p5, .inr (3, [.ref s0, z1, z2, z3, .int 0, .int 0]))]) hP hD [1] [0, 2] rfl rfl (by decide) (by decide) hk1 hFc hP1 hD1
              have hK := (hK.sub (tys' := [(ks0, .int)]) [0] rfl).app hK1
              clear hz1 hk1 hPc hDc hKc hFc
              generalize H1 = H at hP hS ⊢
              have hK : va_K (dC, dI) vwCl [(ks0, .int)] s := hK
              have hP : va_P (dC, dI) vwCl [(h0, .inr (7, [u0, u1, u2, u3, u4, .ref p5])), (s0, .inl (ks0, 4, .inl (slF 1 0 4))), (p5, .inr (3, [.ref s0, z1, z2, z3, .int 0, .int 0]))] H := hP
              have hD : va_D A [(h0, .inr (7, [u0, u1, u2, u3, u4, .ref p5])), (s0, .inl (ks0, 4, .inl (slF 1 0 4))), (p5, .inr (3, [.ref s0, z1, z2, z3, .int 0, .int 0]))] := hD
              obtain rfl : r_14 = 0 := hw_14
              refine lv_pop hx hb dX8_hits_89 rfl ?_
              refine lv_aload_n hx hb dX8_hits_90 rfl (lv_at hl 0 rfl) ?_
              refine va_get (D := (dC, dI)) (ci := 7) (v := .ref p5) (C := RX8) (T := TX8) (N := 6) hx hb hts inB_8 hown hK hP 0 rfl rfl 5 (by decide) (hts _ mw_1_173) (fun _ h9 => h9) rfl dX8_hits_91 ?_
              refine lv_iload_n hx hb dX8_hits_94 rfl (lv_at hl 2 rfl) ?_
              refine lv_bipush (v := 10) hx hb dX8_hits_95 (by decide) ?_
              refine lv_isub hx hb dX8_hits_97 ?_
              refine lv_topi (fun z_15 ez_15 => ?_)
              have fz_15 : Int32.toInt z_15 = Int32.toInt n2 - 10 := by rw [ez_15]; exact fx_sub (C := 10) (by decide) (by omega) (by omega)
              have hPc := hP.sub (ws' := [(p5, .inr (3, [.ref s0, z1, z2, z3, .int 0, .int 0]))]) [2] rfl
              have hDc := hD.sub (ws' := [(p5, .inr (3, [.ref s0, z1, z2, z3, .int 0, .int 0]))]) [2] (by decide) rfl
              have hKc := hK.sub (tys' := []) [] rfl
              refine va_calli (va_runV (As := [.int z_15]) (rest := []) ⟨hx, hb, hml, hown, hts⟩ (c_latest l dC dI H.size p5 (.ref s0) (z1) (z2) (z3) z_15) (cwV 1 hts (gV mw_3_153 mw_3_154 mw_3_155 mw_1_8 mw_3_156) rfl rfl rfl (by decide +kernel) ⟨Nat.le_of_ble_eq_true rfl, Nat.le_of_ble_eq_true rfl⟩) ⟨pcW_blind, va_recv hKc hPc (ci := 3) (q0 := 0) rfl rfl, pcW_at hPc hKc hDc hN⟩ rfl rfl hl.1 rfl (lv_room (Nat.le_of_ble_eq_true rfl)) dX8_hits_98 ⟨Nat.le_of_ble_eq_true rfl, Nat.le_of_ble_eq_true rfl⟩) hS (fun q h1 h2 => absurd h2 (Nat.not_le.mpr h1)) (fun q h => hA q (Nat.le_trans hS.1 h)) (fun r_16 u t H1 locs ht hvm hw_16 hB hz1 hk1 hS => ?_)
              have hP := keepP hP hk1
              clear hz1 hk1 hB ht hvm hPc hDc hKc
              generalize H1 = H at hP hS ⊢
              obtain rfl : r_16 = (-6) := hw_16
              exact W.iret (v := (-6)) hx hb hr (fun t ht hW => ⟨⟨(-6), (), rfl, (by (unfold F_hits; repeat' split) <;> first | rfl | (exfalso; omega)), trivial⟩, hS.F ht⟩) hS.2.2 dX8_hits_101
            · have b_12 := fn_lt (x := n2) (C := 14) (by decide) c_11
              refine lv_bipush (v := (-2)) hx hb dX8_hits_70 (by decide) ?_
              exact W.iret (v := (-2)) hx hb hr (fun t ht hW => ⟨⟨(-2), (), rfl, (by (unfold F_hits; repeat' split) <;> first | rfl | (exfalso; omega)), trivial⟩, hS.F ht⟩) hS.2.2 dX8_hits_72
        · have b_8 := fn_ne (x := n2) (C := 2) (by decide) c_7
          refine lv_aload_n hx hb dX8_hits_49 rfl (lv_at hl 0 rfl) ?_
          refine va_get (D := (dC, dI)) (ci := 7) (v := .ref p5) (C := RX8) (T := TX8) (N := 6) hx hb hts inB_8 hown hK hP 0 rfl rfl 5 (by decide) (hts _ mw_1_173) (fun _ h9 => h9) rfl dX8_hits_50 ?_
          refine lv_iload_n hx hb dX8_hits_53 rfl (lv_at hl 1 rfl) ?_
          have hPc := hP.sub (ws' := [(p5, .inr (3, [.ref s0, z1, z2, z3, .int 0, .int 0])), (s0, .inl (ks0, 4, .inl (slF 1 0 4)))]) [1, 2] rfl
          have hDc := hD.sub (ws' := [(p5, .inr (3, [.ref s0, z1, z2, z3, .int 0, .int 0])), (s0, .inl (ks0, 4, .inl (slF 1 0 4)))]) [1, 2] (by decide) rfl
          have hKc := hK.sub (tys' := [(ks0, .int)]) [0] rfl
          refine va_calli (va_runV (As := [.int n1]) (rest := []) ⟨hx, hb, hml, hown, hts⟩ (c_best l dC dI H.size p5 s0 (z1) (z2) (z3) ks0 n1) (cwV 1 hts (gV mw_3_139 mw_3_140 mw_3_141 mw_1_8 mw_3_142) rfl rfl rfl (by decide +kernel) ⟨Nat.le_of_ble_eq_true rfl, Nat.le_of_ble_eq_true rfl⟩) ⟨pcW_blind, va_recv hKc hPc (ci := 3) (q0 := 0) rfl rfl, pcW_at hPc hKc hDc hN⟩ rfl rfl hl.1 rfl (lv_room (Nat.le_of_ble_eq_true rfl)) dX8_hits_54 ⟨Nat.le_of_ble_eq_true rfl, Nat.le_of_ble_eq_true rfl⟩) hS (fun q h1 h2 => absurd h2 (Nat.not_le.mpr h1)) (fun q h => hA q (Nat.le_trans hS.1 h)) (fun r_17 u t H1 locs ht hvm hw_17 hB hz1 hk1 hS => ?_)
          have hP := keepP hP hk1
          clear hz1 hk1 hB ht hvm hPc hDc hKc
          generalize H1 = H at hP hS ⊢
          obtain rfl : r_17 = 0 := hw_17
          exact W.iret (v := 0) hx hb hr (fun t ht hW => ⟨⟨0, (), rfl, (by (unfold F_hits; repeat' split) <;> first | rfl | (exfalso; omega)), trivial⟩, hS.F ht⟩) hS.2.2 dX8_hits_57
      · have b_6 := fn_ne (x := n2) (C := 1) (by decide) c_5
        refine lv_aload_n hx hb dX8_hits_27 rfl (lv_at hl 0 rfl) ?_
        refine va_get (D := (dC, dI)) (ci := 7) (v := .ref p5) (C := RX8) (T := TX8) (N := 6) hx hb hts inB_8 hown hK hP 0 rfl rfl 5 (by decide) (hts _ mw_1_173) (fun _ h9 => h9) rfl dX8_hits_28 ?_
        refine lv_iload_n hx hb dX8_hits_31 rfl (lv_at hl 1 rfl) ?_
        refine lv_aload_n hx hb dX8_hits_32 rfl (lv_at hl 0 rfl) ?_
        refine va_get (D := (dC, dI)) (ci := 7) (v := .ref p5) (C := RX8) (T := TX8) (N := 6) hx hb hts inB_8 hown hK hP 0 rfl rfl 5 (by decide) (hts _ mw_1_173) (fun _ h9 => h9) rfl dX8_hits_33 ?_
        refine lv_iload_n hx hb dX8_hits_36 rfl (lv_at hl 1 rfl) ?_
        have hPc := hP.sub (ws' := [(p5, .inr (3, [.ref s0, z1, z2, z3, .int 0, .int 0])), (s0, .inl (ks0, 4, .inl (slF 1 0 4)))]) [1, 2] rfl
        have hDc := hD.sub (ws' := [(p5, .inr (3, [.ref s0, z1, z2, z3, .int 0, .int 0])), (s0, .inl (ks0, 4, .inl (slF 1 0 4)))]) [1, 2] (by decide) rfl
        have hKc := hK.sub (tys' := [(ks0, .int)]) [0] rfl
        refine va_calli (va_runV (As := [.int n1]) (rest := [.int n1, .ref p5]) ⟨hx, hb, hml, hown, hts⟩ (c_sizeOf l dC dI H.size p5 s0 (z1) (z2) (z3) ks0 n1) (cwV 1 hts (gV mw_3_126 mw_3_114 mw_3_115 mw_1_8 mw_3_116) rfl rfl rfl (by decide +kernel) ⟨Nat.le_of_ble_eq_true rfl, Nat.le_of_ble_eq_true rfl⟩) ⟨pcW_blind, va_recv hKc hPc (ci := 3) (q0 := 0) rfl rfl, pcW_at hPc hKc hDc hN⟩ rfl rfl hl.1 rfl (lv_room (Nat.le_of_ble_eq_true rfl)) dX8_hits_37 ⟨Nat.le_of_ble_eq_true rfl, Nat.le_of_ble_eq_true rfl⟩) hS (fun q h1 h2 => absurd h2 (Nat.not_le.mpr h1)) (fun q h => hA q (Nat.le_trans hS.1 h)) (fun r_18 u t H1 locs ht hvm hw_18 hB hz1 hk1 hS => ?_)
        have hP := keepP hP hk1
        clear hz1 hk1 hB ht hvm hPc hDc hKc
        generalize H1 = H at hP hS ⊢
        obtain rfl : r_18 = 1 := hw_18
        have hPc := hP.sub (ws' := [(p5, .inr (3, [.ref s0, z1, z2, z3, .int 0, .int 0]))]) [1] rfl
        have hDc := hD.sub (ws' := [(p5, .inr (3, [.ref s0, z1, z2, z3, .int 0, .int 0]))]) [1] (by decide) rfl
        have hKc := hK.sub (tys' := []) [] rfl
        have hFc := va_free (wc := [(p5, .inr (3, [.ref s0, z1, z2, z3, .int 0, .int 0]))]) hD hS hA [1] rfl
        refine va_calli (va_runV (As := [.int n1, .int 1]) (rest := []) ⟨hx, hb, hml, hown, hts⟩ (c_hbs l dC dI H.size p5 (.ref s0) (z1) (z2) (z3) n1 1) (cwV 2 hts (gV mw_3_127 mw_3_128 mw_3_129 mw_1_8 mw_3_130) rfl rfl rfl (by decide +kernel) ⟨Nat.le_of_ble_eq_true rfl, Nat.le_of_ble_eq_true rfl⟩) ⟨pcW_blind, va_recv hKc hPc (ci := 3) (q0 := 0) rfl rfl, pcW_at hPc hKc hDc hN⟩ rfl rfl hl.1 rfl (lv_room (Nat.le_of_ble_eq_true rfl)) dX8_hits_40 ⟨Nat.le_of_ble_eq_true rfl, Nat.le_of_ble_eq_true rfl⟩) hS (fun q _ h => hFc q h) hFc (fun r_19 u t H1 locs ht hvm hw_19 hB hz1 hk1 hS => ?_)
        obtain ⟨hP1, hK1, hD1⟩ := hB
        rw [ht] at hP1
        have hK1 := va_K.moved hvm.symm hK1
        obtain ⟨hP, hD⟩ := va_join (wr := [(h0, .inr (7, [u0, u1, u2, u3, u4, .ref p5])), (s0, .inl (ks0, 4, .inl (slF 1 0 4)))]) (w1 := [(p5, .inr (3, [.ref s0, z1, z2, z3, .int 0, .int 0]))]) hP hD [1] [0, 2] rfl rfl (by decide) (by decide) hk1 hFc hP1 hD1
        have hK := (hK.sub (tys' := [(ks0, .int)]) [0] rfl).app hK1
        clear hz1 hk1 hPc hDc hKc hFc
        generalize H1 = H at hP hS ⊢
        have hK : va_K (dC, dI) vwCl [(ks0, .int)] s := hK
        have hP : va_P (dC, dI) vwCl [(h0, .inr (7, [u0, u1, u2, u3, u4, .ref p5])), (s0, .inl (ks0, 4, .inl (slF 1 0 4))), (p5, .inr (3, [.ref s0, z1, z2, z3, .int 0, .int 0]))] H := hP
        have hD : va_D A [(h0, .inr (7, [u0, u1, u2, u3, u4, .ref p5])), (s0, .inl (ks0, 4, .inl (slF 1 0 4))), (p5, .inr (3, [.ref s0, z1, z2, z3, .int 0, .int 0]))] := hD
        obtain rfl : r_19 = 0 := hw_19
        exact W.iret (v := 0) hx hb hr (fun t ht hW => ⟨⟨0, (), rfl, (by (unfold F_hits; repeat' split) <;> first | rfl | (exfalso; omega)), trivial⟩, hS.F ht⟩) hS.2.2 dX8_hits_43
    · have b_4 := fn_ne (x := n2) (C := 0) (by decide) c_3
      refine lv_aload_n hx hb dX8_hits_13 rfl (lv_at hl 0 rfl) ?_
      refine va_get (D := (dC, dI)) (ci := 7) (v := .ref p5) (C := RX8) (T := TX8) (N := 6) hx hb hts inB_8 hown hK hP 0 rfl rfl 5 (by decide) (hts _ mw_1_173) (fun _ h9 => h9) rfl dX8_hits_14 ?_
      refine lv_iload_n hx hb dX8_hits_17 rfl (lv_at hl 1 rfl) ?_
      have hPc := hP.sub (ws' := [(p5, .inr (3, [.ref s0, z1, z2, z3, .int 0, .int 0]))]) [1] rfl
      have hDc := hD.sub (ws' := [(p5, .inr (3, [.ref s0, z1, z2, z3, .int 0, .int 0]))]) [1] (by decide) rfl
      have hKc := hK.sub (tys' := []) [] rfl
      refine va_calli (va_runV (As := [.int n1]) (rest := []) ⟨hx, hb, hml, hown, hts⟩ (c_callsAt l dC dI H.size p5 (.ref s0) (z1) (z2) (z3) n1) (cwV 1 hts (gV mw_3_122 mw_3_123 mw_3_124 mw_1_8 mw_3_125) rfl rfl rfl (by decide +kernel) ⟨Nat.le_of_ble_eq_true rfl, Nat.le_of_ble_eq_true rfl⟩) ⟨pcW_blind, va_recv hKc hPc (ci := 3) (q0 := 0) rfl rfl, pcW_at hPc hKc hDc hN⟩ rfl rfl hl.1 rfl (lv_room (Nat.le_of_ble_eq_true rfl)) dX8_hits_18 ⟨Nat.le_of_ble_eq_true rfl, Nat.le_of_ble_eq_true rfl⟩) hS (fun q h1 h2 => absurd h2 (Nat.not_le.mpr h1)) (fun q h => hA q (Nat.le_trans hS.1 h)) (fun r_20 u t H1 locs ht hvm hw_20 hB hz1 hk1 hS => ?_)
      have hP := keepP hP hk1
      clear hz1 hk1 hB ht hvm hPc hDc hKc
      generalize H1 = H at hP hS ⊢
      obtain rfl : r_20 = 0 := hw_20
      exact W.iret (v := 0) hx hb hr (fun t ht hW => ⟨⟨0, (), rfl, (by (unfold F_hits; repeat' split) <;> first | rfl | (exfalso; omega)), trivial⟩, hS.F ht⟩) hS.2.2 dX8_hits_21
  · skip
    refine lv_if_ne (tgt := 9) hx hb dX8_hits_4 (by decide) (fun h => absurd h (by decide)) (fun _ => ?_)
    refine lv_iconst (v := (-1)) hx hb dX8_hits_7 (by decide) ?_
    exact W.iret (v := (-1)) hx hb hr (fun t ht hW => ⟨⟨(-1), (), rfl, (by (unfold F_hits; repeat' split) <;> first | rfl | (exfalso; omega)), trivial⟩, hS.F ht⟩) hS.2.2 dX8_hits_8
set_option maxHeartbeats 4000000 in
set_option maxRecDepth 100000 in
theorem x_need (l : Launch) (dC : Nat → ClassId) (dI : Nat → Nat → Nat) (sz : Nat) (h0 : Nat) (u0 : Value) (u1 : Value) (u2 : Value) (u3 : Value) (u4 : Value) (p5 : Nat) (z0 : Value) (z1 : Value) (z2 : Value) (z3 : Value) (n1 : Int32) (n2 : Int32)  : Met l yX8_need (wq yX8_need cX8_need 4 (some .int)) ({ frames := 1, cells := 0, slots := 0, locals := 25 }) (va_Pc [.ref h0, .int n1, .int n2] (pcW dC dI [] [(h0, .inr (7, [u0, u1, u2, u3, u4, .ref p5])), (p5, .inr (3, [z0, z1, z2, z3, .int 0, .int 0]))] sz)) (va_Qi (fun (r : Int32) (_ : Unit) => r = F_need n1 n2) (fun _ _ => True) (va_A [(h0, .inr (7, [u0, u1, u2, u3, u4, .ref p5])), (p5, .inr (3, [z0, z1, z2, z3, .int 0, .int 0]))] sz)) 0 0 (va_A [(h0, .inr (7, [u0, u1, u2, u3, u4, .ref p5])), (p5, .inr (3, [z0, z1, z2, z3, .int 0, .int 0]))] sz) := by
  refine Met.ofW (cc := cX8_need) (maxL := 4) (ret := (some .int)) (by decide) rfl ?_
  intro p e s m args below meth c s₁ B hml hv
  obtain ⟨rfl, hsz, hN, hP, hK, hD0⟩ := hv
  have hx := B.exec
  have hb := B.bytes
  have hr := B.returns
  have hts0 := atoms_spec (ws := (wq yX8_need cX8_need 4 (some .int))) B.pre
  have hts : ∀ w ∈ BG, w.before _ s = true := fun w h => hts0 w (List.mem_cons_of_mem _ h)
  have hown : s.vm.findClass RX8 = some m.cls := findClass_of_methodNamed B.named
  have hlocks := B.notSynchronized
  subst hsz
  have hD := hD0.self (sz := s.heap.size)
  generalize hAe : va_A [(h0, .inr (7, [u0, u1, u2, u3, u4, .ref p5])), (p5, .inr (3, [z0, z1, z2, z3, .int 0, .int 0]))] s.heap.size = A at hD ⊢
  have hA : ∀ q : Nat, s.heap.size ≤ q → A q := fun q h => by rw [← hAe]; exact Or.inr h
  have hS : va_S A s.heap s.heap [] := va_S.rf
  have hP : va_P (dC, dI) vwCl [(h0, .inr (7, [u0, u1, u2, u3, u4, .ref p5])), (p5, .inr (3, [z0, z1, z2, z3, .int 0, .int 0]))] s.heap := hP
  have hl := lv_entry ([.ref h0, .int n1, .int n2]) (n := 4) (Nat.le_of_ble_eq_true rfl)
  rw [lg_entry_eq]
  generalize (lg_sl ([.ref h0, .int n1, .int n2]) ++ List.replicate (4 - (lg_sl ([.ref h0, .int n1, .int n2])).length) Slot.unset).toArray = ls at hl ⊢
  have hl : lv_has ls 4 [(0, .ref h0), (1, .int n1), (2, .int n2)] := hl
  skip
  refine lv_iload_n hx hb dX8_need_0 rfl (lv_at hl 1 rfl) ?_
  have hPc := hP.sub (ws' := []) [] rfl
  have hDc := hD.sub (ws' := []) [] (by decide) rfl
  have hKc := hK.sub (tys' := []) [] rfl
  refine va_calli (va_runS (As := [.int n1]) (rest := []) ⟨hx, hb, hml, hown, hts⟩ (c_isPlace l dC dI s.heap.size n1) (va_cwS 1 hts (gS mw_3_85 mw_3_86 mw_1_1 mw_3_87) rfl rfl rfl (by decide +kernel) ⟨Nat.le_of_ble_eq_true rfl, Nat.le_of_ble_eq_true rfl⟩) ⟨pcW_blind, pcW_at hPc hKc hDc hN⟩ rfl rfl hl.1 rfl (lv_room (Nat.le_of_ble_eq_true rfl)) dX8_need_1 ⟨Nat.le_of_ble_eq_true rfl, Nat.le_of_ble_eq_true rfl⟩) hS (fun q h1 h2 => absurd h2 (Nat.not_le.mpr h1)) (fun q h => hA q (Nat.le_trans hS.1 h)) (fun r_1 u t H1 locs ht hvm hw_1 hB hz1 hk1 hS => ?_)
  have hP := keepP hP hk1
  clear hz1 hk1 hB ht hvm hPc hDc hKc
  generalize H1 = H at hP hS ⊢
  rcases fx_bool hw_1 with ⟨rfl, b_2⟩ | ⟨rfl, b_2⟩
  · skip
    refine lv_if_ne (tgt := 9) hx hb dX8_need_4 (by decide) (fun _ => ?_) (fun h => absurd h (by decide))
    refine lv_iload_n hx hb dX8_need_9 rfl (lv_at hl 2 rfl) ?_
    refine lv_if_lt (tgt := 19) hx hb dX8_need_10 (by decide) (fun c_3 => ?_) (fun c_3 => ?_)
    · have b_4 := fx_lt (x := n2) (C := 0) (by decide) c_3
      refine lv_bipush (v := (-2)) hx hb dX8_need_19 (by decide) ?_
      exact W.iret (v := (-2)) hx hb hr (fun t ht hW => ⟨⟨(-2), (), rfl, (by (unfold F_need; repeat' split) <;> first | rfl | (exfalso; omega)), trivial⟩, hS.F ht⟩) hS.2.2 dX8_need_21
    · have b_4 := fn_lt (x := n2) (C := 0) (by decide) c_3
      refine lv_iload_n hx hb dX8_need_13 rfl (lv_at hl 2 rfl) ?_
      refine lv_bipush (v := 40) hx hb dX8_need_14 (by decide) ?_
      refine lv_icmp_le (tgt := 22) hx hb dX8_need_16 (by decide) (fun c_5 => ?_) (fun c_5 => ?_)
      · have b_6 := fx_le (x := n2) (C := 40) (by decide) c_5
        refine lv_iconst (v := 1) hx hb dX8_need_22 (by decide) ?_
        refine lv_istore_n (lv' := [(3, .int 1), (0, .ref h0), (1, .int n1), (2, .int n2)]) hx hb dX8_need_23 rfl hl (by decide) rfl (fun ls hl => ?_)
        refine lv_iload_n hx hb dX8_need_24 rfl (lv_at hl 0 rfl) ?_
        refine lv_iconst (v := 4) hx hb dX8_need_25 (by decide) ?_
        refine lv_icmp_gt (tgt := 50) hx hb dX8_need_26 (by decide) (fun h => absurd h (by decide)) (fun _ => ?_)
        refine lv_aload_n hx hb dX8_need_29 rfl (lv_at hl 1 rfl) ?_
        refine va_get (D := (dC, dI)) (ci := 7) (v := .ref p5) (C := RX8) (T := TX8) (N := 6) hx hb hts inB_8 hown hK hP 0 rfl rfl 5 (by decide) (hts _ mw_1_173) (fun _ h9 => h9) rfl dX8_need_30 ?_
        refine lv_iload_n hx hb dX8_need_33 rfl (lv_at hl 2 rfl) ?_
        refine lv_iload_n hx hb dX8_need_34 rfl (lv_at hl 0 rfl) ?_
        have hPc := hP.sub (ws' := [(p5, .inr (3, [z0, z1, z2, z3, .int 0, .int 0]))]) [1] rfl
        have hDc := hD.sub (ws' := [(p5, .inr (3, [z0, z1, z2, z3, .int 0, .int 0]))]) [1] (by decide) rfl
        have hKc := hK.sub (tys' := []) [] rfl
        have hFc := va_free (wc := [(p5, .inr (3, [z0, z1, z2, z3, .int 0, .int 0]))]) hD hS hA [1] rfl
        refine va_calli (va_runV (As := [.int n1, .int 1]) (rest := []) ⟨hx, hb, hml, hown, hts⟩ (c_hbs l dC dI H.size p5 (z0) (z1) (z2) (z3) n1 1) (cwV 2 hts (gV mw_3_127 mw_3_128 mw_3_129 mw_1_8 mw_3_130) rfl rfl rfl (by decide +kernel) ⟨Nat.le_of_ble_eq_true rfl, Nat.le_of_ble_eq_true rfl⟩) ⟨pcW_blind, va_recv hKc hPc (ci := 3) (q0 := 0) rfl rfl, pcW_at hPc hKc hDc hN⟩ rfl rfl hl.1 rfl (lv_room (Nat.le_of_ble_eq_true rfl)) dX8_need_35 ⟨Nat.le_of_ble_eq_true rfl, Nat.le_of_ble_eq_true rfl⟩) hS (fun q _ h => hFc q h) hFc (fun r_7 u t H1 locs ht hvm hw_7 hB hz1 hk1 hS => ?_)
        obtain ⟨hP1, hK1, hD1⟩ := hB
        rw [ht] at hP1
        have hK1 := va_K.moved hvm.symm hK1
        obtain ⟨hP, hD⟩ := va_join (wr := [(h0, .inr (7, [u0, u1, u2, u3, u4, .ref p5]))]) (w1 := [(p5, .inr (3, [z0, z1, z2, z3, .int 0, .int 0]))]) hP hD [1] [0] rfl rfl (by decide) (by decide) hk1 hFc hP1 hD1
        have hK := (hK.sub (tys' := []) [] rfl).app hK1
        clear hz1 hk1 hPc hDc hKc hFc
        generalize H1 = H at hP hS ⊢
        have hK : va_K (dC, dI) vwCl [] s := hK
        have hP : va_P (dC, dI) vwCl [(h0, .inr (7, [u0, u1, u2, u3, u4, .ref p5])), (p5, .inr (3, [z0, z1, z2, z3, .int 0, .int 0]))] H := hP
        have hD : va_D A [(h0, .inr (7, [u0, u1, u2, u3, u4, .ref p5])), (p5, .inr (3, [z0, z1, z2, z3, .int 0, .int 0]))] := hD
        obtain rfl : r_7 = 0 := hw_7
        refine lv_iload_n hx hb dX8_need_38 rfl (lv_at hl 3 rfl) ?_
        refine lv_icmp_lt (tgt := 44) hx hb dX8_need_39 (by decide) (fun c_8 => ?_) (fun c_8 => ?_)
        · have b_9 := fx_gt (x := n2) (C := 0) (by decide) c_8
          refine lv_iinc (v := 2) (lv' := [(3, .int 2), (0, .ref h0), (1, .int n1), (2, .int n2)]) hx hb dX8_need_44 hl (k := 0) rfl (by decide) (by decide) rfl (fun ls hl => ?_)
          refine lv_goto (tgt := 24) hx hb dX8_need_47 (by decide) ?_
          refine lv_iload_n hx hb dX8_need_24 rfl (lv_at hl 0 rfl) ?_
          refine lv_iconst (v := 4) hx hb dX8_need_25 (by decide) ?_
          refine lv_icmp_gt (tgt := 50) hx hb dX8_need_26 (by decide) (fun h => absurd h (by decide)) (fun _ => ?_)
          refine lv_aload_n hx hb dX8_need_29 rfl (lv_at hl 1 rfl) ?_
          refine va_get (D := (dC, dI)) (ci := 7) (v := .ref p5) (C := RX8) (T := TX8) (N := 6) hx hb hts inB_8 hown hK hP 0 rfl rfl 5 (by decide) (hts _ mw_1_173) (fun _ h9 => h9) rfl dX8_need_30 ?_
          refine lv_iload_n hx hb dX8_need_33 rfl (lv_at hl 2 rfl) ?_
          refine lv_iload_n hx hb dX8_need_34 rfl (lv_at hl 0 rfl) ?_
          have hPc := hP.sub (ws' := [(p5, .inr (3, [z0, z1, z2, z3, .int 0, .int 0]))]) [1] rfl
          have hDc := hD.sub (ws' := [(p5, .inr (3, [z0, z1, z2, z3, .int 0, .int 0]))]) [1] (by decide) rfl
          have hKc := hK.sub (tys' := []) [] rfl
          have hFc := va_free (wc := [(p5, .inr (3, [z0, z1, z2, z3, .int 0, .int 0]))]) hD hS hA [1] rfl
          refine va_calli (va_runV (As := [.int n1, .int 2]) (rest := []) ⟨hx, hb, hml, hown, hts⟩ (c_hbs l dC dI H.size p5 (z0) (z1) (z2) (z3) n1 2) (cwV 2 hts (gV mw_3_127 mw_3_128 mw_3_129 mw_1_8 mw_3_130) rfl rfl rfl (by decide +kernel) ⟨Nat.le_of_ble_eq_true rfl, Nat.le_of_ble_eq_true rfl⟩) ⟨pcW_blind, va_recv hKc hPc (ci := 3) (q0 := 0) rfl rfl, pcW_at hPc hKc hDc hN⟩ rfl rfl hl.1 rfl (lv_room (Nat.le_of_ble_eq_true rfl)) dX8_need_35 ⟨Nat.le_of_ble_eq_true rfl, Nat.le_of_ble_eq_true rfl⟩) hS (fun q _ h => hFc q h) hFc (fun r_10 u t H1 locs ht hvm hw_10 hB hz1 hk1 hS => ?_)
          obtain ⟨hP1, hK1, hD1⟩ := hB
          rw [ht] at hP1
          have hK1 := va_K.moved hvm.symm hK1
          obtain ⟨hP, hD⟩ := va_join (wr := [(h0, .inr (7, [u0, u1, u2, u3, u4, .ref p5]))]) (w1 := [(p5, .inr (3, [z0, z1, z2, z3, .int 0, .int 0]))]) hP hD [1] [0] rfl rfl (by decide) (by decide) hk1 hFc hP1 hD1
          have hK := (hK.sub (tys' := []) [] rfl).app hK1
          clear hz1 hk1 hPc hDc hKc hFc
          generalize H1 = H at hP hS ⊢
          have hK : va_K (dC, dI) vwCl [] s := hK
          have hP : va_P (dC, dI) vwCl [(h0, .inr (7, [u0, u1, u2, u3, u4, .ref p5])), (p5, .inr (3, [z0, z1, z2, z3, .int 0, .int 0]))] H := hP
          have hD : va_D A [(h0, .inr (7, [u0, u1, u2, u3, u4, .ref p5])), (p5, .inr (3, [z0, z1, z2, z3, .int 0, .int 0]))] := hD
          obtain rfl : r_10 = 0 := hw_10
          refine lv_iload_n hx hb dX8_need_38 rfl (lv_at hl 3 rfl) ?_
          refine lv_icmp_lt (tgt := 44) hx hb dX8_need_39 (by decide) (fun _ => ?_) (fun h => absurd (fn_gt (x := n2) (C := 0) (by decide) h) (by omega))
          refine lv_iinc (v := 3) (lv' := [(3, .int 3), (0, .ref h0), (1, .int n1), (2, .int n2)]) hx hb dX8_need_44 hl (k := 0) rfl (by decide) (by decide) rfl (fun ls hl => ?_)
          refine lv_goto (tgt := 24) hx hb dX8_need_47 (by decide) ?_
          refine lv_iload_n hx hb dX8_need_24 rfl (lv_at hl 0 rfl) ?_
          refine lv_iconst (v := 4) hx hb dX8_need_25 (by decide) ?_
          refine lv_icmp_gt (tgt := 50) hx hb dX8_need_26 (by decide) (fun h => absurd h (by decide)) (fun _ => ?_)
          refine lv_aload_n hx hb dX8_need_29 rfl (lv_at hl 1 rfl) ?_
          refine va_get (D := (dC, dI)) (ci := 7) (v := .ref p5) (C := RX8) (T := TX8) (N := 6) hx hb hts inB_8 hown hK hP 0 rfl rfl 5 (by decide) (hts _ mw_1_173) (fun _ h9 => h9) rfl dX8_need_30 ?_
          refine lv_iload_n hx hb dX8_need_33 rfl (lv_at hl 2 rfl) ?_
          refine lv_iload_n hx hb dX8_need_34 rfl (lv_at hl 0 rfl) ?_
          have hPc := hP.sub (ws' := [(p5, .inr (3, [z0, z1, z2, z3, .int 0, .int 0]))]) [1] rfl
          have hDc := hD.sub (ws' := [(p5, .inr (3, [z0, z1, z2, z3, .int 0, .int 0]))]) [1] (by decide) rfl
          have hKc := hK.sub (tys' := []) [] rfl
          have hFc := va_free (wc := [(p5, .inr (3, [z0, z1, z2, z3, .int 0, .int 0]))]) hD hS hA [1] rfl
          refine va_calli (va_runV (As := [.int n1, .int 3]) (rest := []) ⟨hx, hb, hml, hown, hts⟩ (c_hbs l dC dI H.size p5 (z0) (z1) (z2) (z3) n1 3) (cwV 2 hts (gV mw_3_127 mw_3_128 mw_3_129 mw_1_8 mw_3_130) rfl rfl rfl (by decide +kernel) ⟨Nat.le_of_ble_eq_true rfl, Nat.le_of_ble_eq_true rfl⟩) ⟨pcW_blind, va_recv hKc hPc (ci := 3) (q0 := 0) rfl rfl, pcW_at hPc hKc hDc hN⟩ rfl rfl hl.1 rfl (lv_room (Nat.le_of_ble_eq_true rfl)) dX8_need_35 ⟨Nat.le_of_ble_eq_true rfl, Nat.le_of_ble_eq_true rfl⟩) hS (fun q _ h => hFc q h) hFc (fun r_11 u t H1 locs ht hvm hw_11 hB hz1 hk1 hS => ?_)
          obtain ⟨hP1, hK1, hD1⟩ := hB
          rw [ht] at hP1
          have hK1 := va_K.moved hvm.symm hK1
          obtain ⟨hP, hD⟩ := va_join (wr := [(h0, .inr (7, [u0, u1, u2, u3, u4, .ref p5]))]) (w1 := [(p5, .inr (3, [z0, z1, z2, z3, .int 0, .int 0]))]) hP hD [1] [0] rfl rfl (by decide) (by decide) hk1 hFc hP1 hD1
          have hK := (hK.sub (tys' := []) [] rfl).app hK1
          clear hz1 hk1 hPc hDc hKc hFc
          generalize H1 = H at hP hS ⊢
          have hK : va_K (dC, dI) vwCl [] s := hK
          have hP : va_P (dC, dI) vwCl [(h0, .inr (7, [u0, u1, u2, u3, u4, .ref p5])), (p5, .inr (3, [z0, z1, z2, z3, .int 0, .int 0]))] H := hP
          have hD : va_D A [(h0, .inr (7, [u0, u1, u2, u3, u4, .ref p5])), (p5, .inr (3, [z0, z1, z2, z3, .int 0, .int 0]))] := hD
          obtain rfl : r_11 = 0 := hw_11
          refine lv_iload_n hx hb dX8_need_38 rfl (lv_at hl 3 rfl) ?_
          refine lv_icmp_lt (tgt := 44) hx hb dX8_need_39 (by decide) (fun _ => ?_) (fun h => absurd (fn_gt (x := n2) (C := 0) (by decide) h) (by omega))
          refine lv_iinc (v := 4) (lv' := [(3, .int 4), (0, .ref h0), (1, .int n1), (2, .int n2)]) hx hb dX8_need_44 hl (k := 0) rfl (by decide) (by decide) rfl (fun ls hl => ?_)
          refine lv_goto (tgt := 24) hx hb dX8_need_47 (by decide) ?_
          refine lv_iload_n hx hb dX8_need_24 rfl (lv_at hl 0 rfl) ?_
          refine lv_iconst (v := 4) hx hb dX8_need_25 (by decide) ?_
          refine lv_icmp_gt (tgt := 50) hx hb dX8_need_26 (by decide) (fun h => absurd h (by decide)) (fun _ => ?_)
          refine lv_aload_n hx hb dX8_need_29 rfl (lv_at hl 1 rfl) ?_
          refine va_get (D := (dC, dI)) (ci := 7) (v := .ref p5) (C := RX8) (T := TX8) (N := 6) hx hb hts inB_8 hown hK hP 0 rfl rfl 5 (by decide) (hts _ mw_1_173) (fun _ h9 => h9) rfl dX8_need_30 ?_
          refine lv_iload_n hx hb dX8_need_33 rfl (lv_at hl 2 rfl) ?_
          refine lv_iload_n hx hb dX8_need_34 rfl (lv_at hl 0 rfl) ?_
          have hPc := hP.sub (ws' := [(p5, .inr (3, [z0, z1, z2, z3, .int 0, .int 0]))]) [1] rfl
          have hDc := hD.sub (ws' := [(p5, .inr (3, [z0, z1, z2, z3, .int 0, .int 0]))]) [1] (by decide) rfl
          have hKc := hK.sub (tys' := []) [] rfl
          have hFc := va_free (wc := [(p5, .inr (3, [z0, z1, z2, z3, .int 0, .int 0]))]) hD hS hA [1] rfl
          refine va_calli (va_runV (As := [.int n1, .int 4]) (rest := []) ⟨hx, hb, hml, hown, hts⟩ (c_hbs l dC dI H.size p5 (z0) (z1) (z2) (z3) n1 4) (cwV 2 hts (gV mw_3_127 mw_3_128 mw_3_129 mw_1_8 mw_3_130) rfl rfl rfl (by decide +kernel) ⟨Nat.le_of_ble_eq_true rfl, Nat.le_of_ble_eq_true rfl⟩) ⟨pcW_blind, va_recv hKc hPc (ci := 3) (q0 := 0) rfl rfl, pcW_at hPc hKc hDc hN⟩ rfl rfl hl.1 rfl (lv_room (Nat.le_of_ble_eq_true rfl)) dX8_need_35 ⟨Nat.le_of_ble_eq_true rfl, Nat.le_of_ble_eq_true rfl⟩) hS (fun q _ h => hFc q h) hFc (fun r_12 u t H1 locs ht hvm hw_12 hB hz1 hk1 hS => ?_)
          obtain ⟨hP1, hK1, hD1⟩ := hB
          rw [ht] at hP1
          have hK1 := va_K.moved hvm.symm hK1
          obtain ⟨hP, hD⟩ := va_join (wr := [(h0, .inr (7, [u0, u1, u2, u3, u4, .ref p5]))]) (w1 := [(p5, .inr (3, [z0, z1, z2, z3, .int 0, .int 0]))]) hP hD [1] [0] rfl rfl (by decide) (by decide) hk1 hFc hP1 hD1
          have hK := (hK.sub (tys' := []) [] rfl).app hK1
          clear hz1 hk1 hPc hDc hKc hFc
          generalize H1 = H at hP hS ⊢
          have hK : va_K (dC, dI) vwCl [] s := hK
          have hP : va_P (dC, dI) vwCl [(h0, .inr (7, [u0, u1, u2, u3, u4, .ref p5])), (p5, .inr (3, [z0, z1, z2, z3, .int 0, .int 0]))] H := hP
          have hD : va_D A [(h0, .inr (7, [u0, u1, u2, u3, u4, .ref p5])), (p5, .inr (3, [z0, z1, z2, z3, .int 0, .int 0]))] := hD
          obtain rfl : r_12 = 0 := hw_12
          refine lv_iload_n hx hb dX8_need_38 rfl (lv_at hl 3 rfl) ?_
          refine lv_icmp_lt (tgt := 44) hx hb dX8_need_39 (by decide) (fun _ => ?_) (fun h => absurd (fn_gt (x := n2) (C := 0) (by decide) h) (by omega))
          refine lv_iinc (v := 5) (lv' := [(3, .int 5), (0, .ref h0), (1, .int n1), (2, .int n2)]) hx hb dX8_need_44 hl (k := 0) rfl (by decide) (by decide) rfl (fun ls hl => ?_)
          refine lv_goto (tgt := 24) hx hb dX8_need_47 (by decide) ?_
          refine lv_iload_n hx hb dX8_need_24 rfl (lv_at hl 0 rfl) ?_
          refine lv_iconst (v := 4) hx hb dX8_need_25 (by decide) ?_
          refine lv_icmp_gt (tgt := 50) hx hb dX8_need_26 (by decide) (fun _ => ?_) (fun h => absurd (by decide) h)
          refine lv_bipush (v := (-6)) hx hb dX8_need_50 (by decide) ?_
          exact W.iret (v := (-6)) hx hb hr (fun t ht hW => ⟨⟨(-6), (), rfl, (by (unfold F_need; repeat' split) <;> first | rfl | (exfalso; omega)), trivial⟩, hS.F ht⟩) hS.2.2 dX8_need_52
        · have b_9 := fn_gt (x := n2) (C := 0) (by decide) c_8
          refine lv_iload_n hx hb dX8_need_42 rfl (lv_at hl 0 rfl) ?_
          exact W.iret (v := 1) hx hb hr (fun t ht hW => ⟨⟨1, (), rfl, (by (unfold F_need; repeat' split) <;> first | rfl | (exfalso; omega)), trivial⟩, hS.F ht⟩) hS.2.2 dX8_need_43
      · have b_6 := fn_le (x := n2) (C := 40) (by decide) c_5
        refine lv_bipush (v := (-2)) hx hb dX8_need_19 (by decide) ?_
        exact W.iret (v := (-2)) hx hb hr (fun t ht hW => ⟨⟨(-2), (), rfl, (by (unfold F_need; repeat' split) <;> first | rfl | (exfalso; omega)), trivial⟩, hS.F ht⟩) hS.2.2 dX8_need_21
  · skip
    refine lv_if_ne (tgt := 9) hx hb dX8_need_4 (by decide) (fun h => absurd h (by decide)) (fun _ => ?_)
    refine lv_iconst (v := (-1)) hx hb dX8_need_7 (by decide) ?_
    exact W.iret (v := (-1)) hx hb hr (fun t ht hW => ⟨⟨(-1), (), rfl, (by (unfold F_need; repeat' split) <;> first | rfl | (exfalso; omega)), trivial⟩, hS.F ht⟩) hS.2.2 dX8_need_8
set_option maxHeartbeats 4000000 in
set_option maxRecDepth 100000 in
theorem x_told (l : Launch) (dC : Nat → ClassId) (dI : Nat → Nat → Nat) (sz : Nat) (h0 : Nat) (p1 : Nat) (p2 : Nat) (p3 : Nat) (u3 : Value) (u4 : Value) (p5 : Nat) (w0 : Value) (w1 : Value) (w2 : Value) (w3 : Value) (w4 : Value) (w5 : Value) (w7 : Value) (y0 : Value) (e0 : Nat) (z1 : Value) (z2 : Value) (ke0 : ClassId) (x0 : Value) (x1 : Value) (x2 : Value) (x3 : Value) (n1 : Int32)  : Met l yX8_told (wq yX8_told cX8_told 2 (some .int)) ({ frames := 4, cells := 0, slots := 0, locals := 86 }) (va_Pc [.ref h0, .int n1] (pcW dC dI [(ke0, .int)] [(h0, .inr (7, [.ref p1, .ref p2, .ref p3, u3, u4, .ref p5])), (p1, .inr (1, [w0, w1, w2, w3, w4, w5, .int 0, w7])), (p2, .inr (2, [y0, .int 0])), (p3, .inr (0, [.ref e0, z1, z2])), (e0, .inl (ke0, 8, .inl (fun _ => 0))), (p5, .inr (3, [x0, x1, x2, x3, .int 0, .int 0]))] sz)) (va_Qi (fun (r : Int32) (_ : Unit) => r = F_told n1) (fun _ _ => True) (fun q : Nat => sz ≤ q)) 0 0 (fun q : Nat => sz ≤ q) := by
  refine Met.ofW (cc := cX8_told) (maxL := 2) (ret := (some .int)) (by decide) rfl ?_
  intro p e s m args below meth c s₁ B hml hv
  obtain ⟨rfl, hsz, hN, hP, hK, hD0⟩ := hv
  have hx := B.exec
  have hb := B.bytes
  have hr := B.returns
  have hts0 := atoms_spec (ws := (wq yX8_told cX8_told 2 (some .int))) B.pre
  have hts : ∀ w ∈ BG, w.before _ s = true := fun w h => hts0 w (List.mem_cons_of_mem _ h)
  have hown : s.vm.findClass RX8 = some m.cls := findClass_of_methodNamed B.named
  have hlocks := B.notSynchronized
  subst hsz
  have hA : ∀ q : Nat, s.heap.size ≤ q → (fun q : Nat => s.heap.size ≤ q) q := fun _ h => h
  have hD := hD0
  have hS : va_S (fun q : Nat => s.heap.size ≤ q) s.heap s.heap [] := va_S.rf
  have hP : va_P (dC, dI) vwCl [(h0, .inr (7, [.ref p1, .ref p2, .ref p3, u3, u4, .ref p5])), (p1, .inr (1, [w0, w1, w2, w3, w4, w5, .int 0, w7])), (p2, .inr (2, [y0, .int 0])), (p3, .inr (0, [.ref e0, z1, z2])), (e0, .inl (ke0, 8, .inl (fun _ => 0))), (p5, .inr (3, [x0, x1, x2, x3, .int 0, .int 0]))] s.heap := hP
  have hl := lv_entry ([.ref h0, .int n1]) (n := 2) (Nat.le_of_ble_eq_true rfl)
  rw [lg_entry_eq]
  generalize (lg_sl ([.ref h0, .int n1]) ++ List.replicate (2 - (lg_sl ([.ref h0, .int n1])).length) Slot.unset).toArray = ls at hl ⊢
  have hl : lv_has ls 2 [(0, .ref h0), (1, .int n1)] := hl
  skip
  refine lv_iload_n hx hb dX8_told_0 rfl (lv_at hl 1 rfl) ?_
  refine lv_if_ne (tgt := 12) hx hb dX8_told_1 (by decide) (fun c_1 => ?_) (fun c_1 => ?_)
  · have b_2 := fx_ne (x := n1) (C := 0) (by decide) c_1
    refine lv_iload_n hx hb dX8_told_12 rfl (lv_at hl 1 rfl) ?_
    refine lv_iconst (v := 1) hx hb dX8_told_13 (by decide) ?_
    refine lv_icmp_ne (tgt := 25) hx hb dX8_told_14 (by decide) (fun c_3 => ?_) (fun c_3 => ?_)
    · have b_4 := fx_ne (x := n1) (C := 1) (by decide) c_3
      refine lv_iload_n hx hb dX8_told_25 rfl (lv_at hl 1 rfl) ?_
      refine lv_iconst (v := 2) hx hb dX8_told_26 (by decide) ?_
      refine lv_icmp_ne (tgt := 38) hx hb dX8_told_27 (by decide) (fun c_5 => ?_) (fun c_5 => ?_)
      · have b_6 := fx_ne (x := n1) (C := 2) (by decide) c_5
        refine lv_iload_n hx hb dX8_told_38 rfl (lv_at hl 1 rfl) ?_
        refine lv_bipush (v := 10) hx hb dX8_told_39 (by decide) ?_
        refine lv_icmp_lt (tgt := 62) hx hb dX8_told_41 (by decide) (fun c_7 => ?_) (fun c_7 => ?_)
        · have b_8 := fx_lt (x := n1) (C := 10) (by decide) c_7
          refine lv_iload_n hx hb dX8_told_62 rfl (lv_at hl 1 rfl) ?_
          refine lv_bipush (v := 20) hx hb dX8_told_63 (by decide) ?_
          refine lv_icmp_lt (tgt := 94) hx hb dX8_told_65 (by decide) (fun _ => ?_) (fun h => absurd (fn_lt (x := n1) (C := 20) (by decide) h) (by omega))
          refine lv_bipush (v := (-2)) hx hb dX8_told_94 (by decide) ?_
          exact W.iret (v := (-2)) hx hb hr (fun t ht hW => ⟨⟨(-2), (), rfl, (by (unfold F_told; repeat' split) <;> first | rfl | (exfalso; omega)), trivial⟩, hS.F ht⟩) hS.2.2 dX8_told_96
        · have b_8 := fn_lt (x := n1) (C := 10) (by decide) c_7
          refine lv_iload_n hx hb dX8_told_44 rfl (lv_at hl 1 rfl) ?_
          refine lv_bipush (v := 20) hx hb dX8_told_45 (by decide) ?_
          refine lv_icmp_ge (tgt := 62) hx hb dX8_told_47 (by decide) (fun c_9 => ?_) (fun c_9 => ?_)
          · have b_10 := fx_ge (x := n1) (C := 20) (by decide) c_9
            refine lv_iload_n hx hb dX8_told_62 rfl (lv_at hl 1 rfl) ?_
            refine lv_bipush (v := 20) hx hb dX8_told_63 (by decide) ?_
            refine lv_icmp_lt (tgt := 94) hx hb dX8_told_65 (by decide) (fun h => absurd (fx_lt (x := n1) (C := 20) (by decide) h) (by omega)) (fun _ => ?_)
            refine lv_iload_n hx hb dX8_told_68 rfl (lv_at hl 1 rfl) ?_
            refine lv_bipush (v := 30) hx hb dX8_told_69 (by decide) ?_
            refine lv_icmp_ge (tgt := 94) hx hb dX8_told_71 (by decide) (fun c_11 => ?_) (fun c_11 => ?_)
            · have b_12 := fx_ge (x := n1) (C := 30) (by decide) c_11
              refine lv_bipush (v := (-2)) hx hb dX8_told_94 (by decide) ?_
              exact W.iret (v := (-2)) hx hb hr (fun t ht hW => ⟨⟨(-2), (), rfl, (by (unfold F_told; repeat' split) <;> first | rfl | (exfalso; omega)), trivial⟩, hS.F ht⟩) hS.2.2 dX8_told_96
            · have b_12 := fn_ge (x := n1) (C := 30) (by decide) c_11
              refine lv_aload_n hx hb dX8_told_74 rfl (lv_at hl 0 rfl) ?_
              refine va_get (D := (dC, dI)) (ci := 7) (v := .ref p1) (C := RX8) (T := TX8) (N := 6) hx hb hts inB_8 hown hK hP 0 rfl rfl 0 (by decide) (hts _ mw_1_168) (fun _ h9 => h9) rfl dX8_told_75 ?_
              refine lv_iload_n hx hb dX8_told_78 rfl (lv_at hl 1 rfl) ?_
              refine lv_bipush (v := 20) hx hb dX8_told_79 (by decide) ?_
              refine lv_isub hx hb dX8_told_81 ?_
              refine lv_topi (fun z_13 ez_13 => ?_)
              have fz_13 : Int32.toInt z_13 = Int32.toInt n1 - 20 := by rw [ez_13]; exact fx_sub (C := 20) (by decide) (by omega) (by omega)
              have hPc := hP.sub (ws' := [(p1, .inr (1, [w0, w1, w2, w3, w4, w5, .int 0, w7]))]) [1] rfl
              have hDc := hD.sub (ws' := [(p1, .inr (1, [w0, w1, w2, w3, w4, w5, .int 0, w7]))]) [1] (by decide) rfl
              have hKc := hK.sub (tys' := []) [] rfl
              refine va_calli (va_runV (As := [.int z_13]) (rest := []) ⟨hx, hb, hml, hown, hts⟩ (c_isBare0 l dC dI s.heap.size p1 (w0) (w1) (w2) (w3) (w4) (w5) (w7) z_13) (cwV 1 hts (gV mw_2_28 mw_2_29 mw_2_30 mw_1_2 mw_2_31) rfl rfl rfl (by decide +kernel) ⟨Nat.le_of_ble_eq_true rfl, Nat.le_of_ble_eq_true rfl⟩) ⟨pcW_blind, va_recv hKc hPc (ci := 1) (q0 := 0) rfl rfl, pcW_at hPc hKc hDc hN⟩ rfl rfl hl.1 rfl (lv_room (Nat.le_of_ble_eq_true rfl)) dX8_told_82 ⟨Nat.le_of_ble_eq_true rfl, Nat.le_of_ble_eq_true rfl⟩) hS (fun q h1 h2 => absurd h2 (Nat.not_le.mpr h1)) (fun q h => hA q (Nat.le_trans hS.1 h)) (fun r_14 u t H1 locs ht hvm hw_14 hB hz1 hk1 hS => ?_)
              have hP := keepP hP hk1
              clear hz1 hk1 hB ht hvm hPc hDc hKc
              generalize H1 = H at hP hS ⊢
              obtain rfl : r_14 = 0 := hw_14
              refine lv_if_eq (tgt := 92) hx hb dX8_told_85 (by decide) (fun _ => ?_) (fun h => absurd (by decide) h)
              refine lv_iconst (v := 0) hx hb dX8_told_92 (by decide) ?_
              exact W.iret (v := 0) hx hb hr (fun t ht hW => ⟨⟨0, (), rfl, (by (unfold F_told; repeat' split) <;> first | rfl | (exfalso; omega)), trivial⟩, hS.F ht⟩) hS.2.2 dX8_told_93
          · have b_10 := fn_ge (x := n1) (C := 20) (by decide) c_9
            refine lv_aload_n hx hb dX8_told_50 rfl (lv_at hl 0 rfl) ?_
            refine va_get (D := (dC, dI)) (ci := 7) (v := .ref p3) (C := RX8) (T := TX8) (N := 6) hx hb hts inB_8 hown hK hP 0 rfl rfl 2 (by decide) (hts _ mw_1_170) (fun _ h9 => h9) rfl dX8_told_51 ?_
            refine lv_iload_n hx hb dX8_told_54 rfl (lv_at hl 1 rfl) ?_
            refine lv_bipush (v := 10) hx hb dX8_told_55 (by decide) ?_
            refine lv_isub hx hb dX8_told_57 ?_
            refine lv_topi (fun z_15 ez_15 => ?_)
            have fz_15 : Int32.toInt z_15 = Int32.toInt n1 - 10 := by rw [ez_15]; exact fx_sub (C := 10) (by decide) (by omega) (by omega)
            have hPc := hP.sub (ws' := [(p3, .inr (0, [.ref e0, z1, z2])), (e0, .inl (ke0, 8, .inl (fun _ => 0)))]) [3, 4] rfl
            have hDc := hD.sub (ws' := [(p3, .inr (0, [.ref e0, z1, z2])), (e0, .inl (ke0, 8, .inl (fun _ => 0)))]) [3, 4] (by decide) rfl
            have hKc := hK.sub (tys' := [(ke0, .int)]) [0] rfl
            refine va_calli (va_runV (As := [.int z_15]) (rest := []) ⟨hx, hb, hml, hown, hts⟩ (c_names l dC dI s.heap.size p3 e0 (z1) (z2) ke0 z_15) (cwV 1 hts (gV mw_3_171 mw_3_172 mw_3_173 mw_1_5 mw_3_174) rfl rfl rfl (by decide +kernel) ⟨Nat.le_of_ble_eq_true rfl, Nat.le_of_ble_eq_true rfl⟩) ⟨pcW_blind, va_recv hKc hPc (ci := 0) (q0 := 0) rfl rfl, pcW_at hPc hKc hDc hN⟩ rfl rfl hl.1 rfl (lv_room (Nat.le_of_ble_eq_true rfl)) dX8_told_58 ⟨Nat.le_of_ble_eq_true rfl, Nat.le_of_ble_eq_true rfl⟩) hS (fun q h1 h2 => absurd h2 (Nat.not_le.mpr h1)) (fun q h => hA q (Nat.le_trans hS.1 h)) (fun r_16 u t H1 locs ht hvm hw_16 hB hz1 hk1 hS => ?_)
            have hP := keepP hP hk1
            clear hz1 hk1 hB ht hvm hPc hDc hKc
            generalize H1 = H at hP hS ⊢
            obtain rfl : r_16 = 0 := hw_16
            exact W.iret (v := 0) hx hb hr (fun t ht hW => ⟨⟨0, (), rfl, (by (unfold F_told; repeat' split) <;> first | rfl | (exfalso; omega)), trivial⟩, hS.F ht⟩) hS.2.2 dX8_told_61
      · have b_6 := fn_ne (x := n1) (C := 2) (by decide) c_5
        refine lv_aload_n hx hb dX8_told_30 rfl (lv_at hl 0 rfl) ?_
        refine va_get (D := (dC, dI)) (ci := 7) (v := .ref p5) (C := RX8) (T := TX8) (N := 6) hx hb hts inB_8 hown hK hP 0 rfl rfl 5 (by decide) (hts _ mw_1_173) (fun _ h9 => h9) rfl dX8_told_31 ?_
        have hPc := hP.sub (ws' := [(p5, .inr (3, [x0, x1, x2, x3, .int 0, .int 0]))]) [5] rfl
        have hDc := hD.sub (ws' := [(p5, .inr (3, [x0, x1, x2, x3, .int 0, .int 0]))]) [5] (by decide) rfl
        have hKc := hK.sub (tys' := []) [] rfl
        refine va_calli (va_runV (As := []) (rest := []) ⟨hx, hb, hml, hown, hts⟩ (c_plHow l dC dI s.heap.size p5 (x0) (x1) (x2) (x3)) (cwV 0 hts (gV mw_3_167 mw_3_168 mw_3_169 mw_1_8 mw_3_170) rfl rfl rfl (by decide +kernel) ⟨Nat.le_of_ble_eq_true rfl, Nat.le_of_ble_eq_true rfl⟩) ⟨pcW_blind, va_recv hKc hPc (ci := 3) (q0 := 0) rfl rfl, pcW_at hPc hKc hDc hN⟩ rfl rfl hl.1 rfl (lv_room (Nat.le_of_ble_eq_true rfl)) dX8_told_34 ⟨Nat.le_of_ble_eq_true rfl, Nat.le_of_ble_eq_true rfl⟩) hS (fun q h1 h2 => absurd h2 (Nat.not_le.mpr h1)) (fun q h => hA q (Nat.le_trans hS.1 h)) (fun r_17 u t H1 locs ht hvm hw_17 hB hz1 hk1 hS => ?_)
        have hP := keepP hP hk1
        clear hz1 hk1 hB ht hvm hPc hDc hKc
        generalize H1 = H at hP hS ⊢
        obtain rfl : r_17 = 0 := hw_17
        exact W.iret (v := 0) hx hb hr (fun t ht hW => ⟨⟨0, (), rfl, (by (unfold F_told; repeat' split) <;> first | rfl | (exfalso; omega)), trivial⟩, hS.F ht⟩) hS.2.2 dX8_told_37
    · have b_4 := fn_ne (x := n1) (C := 1) (by decide) c_3
      refine lv_aload_n hx hb dX8_told_17 rfl (lv_at hl 0 rfl) ?_
      refine va_get (D := (dC, dI)) (ci := 7) (v := .ref p2) (C := RX8) (T := TX8) (N := 6) hx hb hts inB_8 hown hK hP 0 rfl rfl 1 (by decide) (hts _ mw_1_169) (fun _ h9 => h9) rfl dX8_told_18 ?_
      have hPc := hP.sub (ws' := [(p2, .inr (2, [y0, .int 0]))]) [2] rfl
      have hDc := hD.sub (ws' := [(p2, .inr (2, [y0, .int 0]))]) [2] (by decide) rfl
      have hKc := hK.sub (tys' := []) [] rfl
      refine va_calli (va_runV (As := []) (rest := []) ⟨hx, hb, hml, hown, hts⟩ (c_pLen l dC dI s.heap.size p2 (y0)) (cwV 0 hts (gV mw_3_166 mw_2_118 mw_2_119 mw_1_4 mw_2_120) rfl rfl rfl (by decide +kernel) ⟨Nat.le_of_ble_eq_true rfl, Nat.le_of_ble_eq_true rfl⟩) ⟨pcW_blind, va_recv hKc hPc (ci := 2) (q0 := 0) rfl rfl, pcW_at hPc hKc hDc hN⟩ rfl rfl hl.1 rfl (lv_room (Nat.le_of_ble_eq_true rfl)) dX8_told_21 ⟨Nat.le_of_ble_eq_true rfl, Nat.le_of_ble_eq_true rfl⟩) hS (fun q h1 h2 => absurd h2 (Nat.not_le.mpr h1)) (fun q h => hA q (Nat.le_trans hS.1 h)) (fun r_18 u t H1 locs ht hvm hw_18 hB hz1 hk1 hS => ?_)
      have hP := keepP hP hk1
      clear hz1 hk1 hB ht hvm hPc hDc hKc
      generalize H1 = H at hP hS ⊢
      obtain rfl : r_18 = 0 := hw_18
      exact W.iret (v := 0) hx hb hr (fun t ht hW => ⟨⟨0, (), rfl, (by (unfold F_told; repeat' split) <;> first | rfl | (exfalso; omega)), trivial⟩, hS.F ht⟩) hS.2.2 dX8_told_24
  · have b_2 := fn_ne (x := n1) (C := 0) (by decide) c_1
    refine lv_aload_n hx hb dX8_told_4 rfl (lv_at hl 0 rfl) ?_
    refine va_get (D := (dC, dI)) (ci := 7) (v := .ref p1) (C := RX8) (T := TX8) (N := 6) hx hb hts inB_8 hown hK hP 0 rfl rfl 0 (by decide) (hts _ mw_1_168) (fun _ h9 => h9) rfl dX8_told_5 ?_
    have hPc := hP.sub (ws' := [(p1, .inr (1, [w0, w1, w2, w3, w4, w5, .int 0, w7]))]) [1] rfl
    have hDc := hD.sub (ws' := [(p1, .inr (1, [w0, w1, w2, w3, w4, w5, .int 0, w7]))]) [1] (by decide) rfl
    have hKc := hK.sub (tys' := []) [] rfl
    refine va_calli (va_runV (As := []) (rest := []) ⟨hx, hb, hml, hown, hts⟩ (c_howMany l dC dI s.heap.size p1 (w0) (w1) (w2) (w3) (w4) (w5) (w7)) (cwV 0 hts (gV mw_3_165 mw_2_210 mw_2_211 mw_1_2 mw_2_212) rfl rfl rfl (by decide +kernel) ⟨Nat.le_of_ble_eq_true rfl, Nat.le_of_ble_eq_true rfl⟩) ⟨pcW_blind, va_recv hKc hPc (ci := 1) (q0 := 0) rfl rfl, pcW_at hPc hKc hDc hN⟩ rfl rfl hl.1 rfl (lv_room (Nat.le_of_ble_eq_true rfl)) dX8_told_8 ⟨Nat.le_of_ble_eq_true rfl, Nat.le_of_ble_eq_true rfl⟩) hS (fun q h1 h2 => absurd h2 (Nat.not_le.mpr h1)) (fun q h => hA q (Nat.le_trans hS.1 h)) (fun r_19 u t H1 locs ht hvm hw_19 hB hz1 hk1 hS => ?_)
    have hP := keepP hP hk1
    clear hz1 hk1 hB ht hvm hPc hDc hKc
    generalize H1 = H at hP hS ⊢
    obtain rfl : r_19 = 0 := hw_19
    exact W.iret (v := 0) hx hb hr (fun t ht hW => ⟨⟨0, (), rfl, (by (unfold F_told; repeat' split) <;> first | rfl | (exfalso; omega)), trivial⟩, hS.F ht⟩) hS.2.2 dX8_told_11
