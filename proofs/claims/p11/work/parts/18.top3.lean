theorem mw_1_172 : Cond.fieldLink RX8 40 "AnswerLines" "table" "LAnswerLines$Table;" ∈ BG := mB (t1 (i := 172) (by decide +kernel)) (by decide +kernel)
theorem mw_3_9 : Cond.code yX7_fill cX7_fill 5 none ∈ BG := mB (t3 (i := 9) rfl) (by decide +kernel)
theorem mw_3_6 : Cond.methodLink RX8 154 yX7_fill ∈ BG := mB (t3 (i := 6) (by decide +kernel)) (by decide +kernel)
theorem mw_3_7 : Cond.instanceMethod yX7_fill ∈ BG := mB (t3 (i := 7) (by decide +kernel)) (by decide +kernel)
theorem mw_3_8 : Cond.selects RX7 yX7_fill yX7_fill ∈ BG := mB (t3 (i := 8) (by decide +kernel)) (by decide +kernel)
theorem mw_3_20 : Cond.code yX7_spread cX7_spread 2 (some .int) ∈ BG := mB (t3 (i := 20) rfl) (by decide +kernel)
theorem mw_3_17 : Cond.methodLink RX8 158 yX7_spread ∈ BG := mB (t3 (i := 17) (by decide +kernel)) (by decide +kernel)
theorem mw_3_18 : Cond.instanceMethod yX7_spread ∈ BG := mB (t3 (i := 18) (by decide +kernel)) (by decide +kernel)
theorem mw_3_19 : Cond.selects RX7 yX7_spread yX7_spread ∈ BG := mB (t3 (i := 19) (by decide +kernel)) (by decide +kernel)
theorem mw_3_38 : Cond.code yX7_columnOf cX7_columnOf 2 (some .int) ∈ BG := mB (t3 (i := 38) rfl) (by decide +kernel)
theorem mw_3_35 : Cond.methodLink RX8 161 yX7_columnOf ∈ BG := mB (t3 (i := 35) (by decide +kernel)) (by decide +kernel)
theorem mw_3_36 : Cond.instanceMethod yX7_columnOf ∈ BG := mB (t3 (i := 36) (by decide +kernel)) (by decide +kernel)
theorem mw_3_37 : Cond.selects RX7 yX7_columnOf yX7_columnOf ∈ BG := mB (t3 (i := 37) (by decide +kernel)) (by decide +kernel)
theorem mw_3_47 : Cond.code yX7_push cX7_push 3 (some .int) ∈ BG := mB (t3 (i := 47) rfl) (by decide +kernel)
theorem mw_3_44 : Cond.methodLink RX8 164 yX7_push ∈ BG := mB (t3 (i := 44) (by decide +kernel)) (by decide +kernel)
theorem mw_3_45 : Cond.instanceMethod yX7_push ∈ BG := mB (t3 (i := 45) (by decide +kernel)) (by decide +kernel)
theorem mw_3_46 : Cond.selects RX7 yX7_push yX7_push ∈ BG := mB (t3 (i := 46) (by decide +kernel)) (by decide +kernel)
theorem mw_3_63 : Cond.code yX7_placeOfRow cX7_placeOfRow 2 (some .int) ∈ BG := mB (t3 (i := 63) rfl) (by decide +kernel)
theorem mw_3_60 : Cond.methodLink RX8 167 yX7_placeOfRow ∈ BG := mB (t3 (i := 60) (by decide +kernel)) (by decide +kernel)
theorem mw_3_61 : Cond.instanceMethod yX7_placeOfRow ∈ BG := mB (t3 (i := 61) (by decide +kernel)) (by decide +kernel)
theorem mw_3_62 : Cond.selects RX7 yX7_placeOfRow yX7_placeOfRow ∈ BG := mB (t3 (i := 62) (by decide +kernel)) (by decide +kernel)
theorem mw_3_71 : Cond.code yX7_standsAt cX7_standsAt 2 (some .int) ∈ BG := mB (t3 (i := 71) rfl) (by decide +kernel)
theorem mw_3_68 : Cond.methodLink RX8 170 yX7_standsAt ∈ BG := mB (t3 (i := 68) (by decide +kernel)) (by decide +kernel)
theorem mw_3_69 : Cond.instanceMethod yX7_standsAt ∈ BG := mB (t3 (i := 69) (by decide +kernel)) (by decide +kernel)
theorem mw_3_70 : Cond.selects RX7 yX7_standsAt yX7_standsAt ∈ BG := mB (t3 (i := 70) (by decide +kernel)) (by decide +kernel)
theorem mw_3_85 : Cond.methodLink RX8 176 yX8_isPlace ∈ BG := mB (t3 (i := 85) (by decide +kernel)) (by decide +kernel)
theorem mw_1_173 : Cond.fieldLink RX8 47 "AnswerLines" "places" "LAnswerLines$Places;" ∈ BG := mB (t1 (i := 173) (by decide +kernel)) (by decide +kernel)
theorem mw_3_88 : Cond.methodLink RX8 179 yX3_isFull ∈ BG := mB (t3 (i := 88) (by decide +kernel)) (by decide +kernel)
theorem mw_3_95 : Cond.code yX3_record cX3_record 3 (some .int) ∈ BG := mB (t3 (i := 95) rfl) (by decide +kernel)
theorem mw_3_92 : Cond.methodLink RX8 180 yX3_record ∈ BG := mB (t3 (i := 92) (by decide +kernel)) (by decide +kernel)
theorem mw_3_93 : Cond.instanceMethod yX3_record ∈ BG := mB (t3 (i := 93) (by decide +kernel)) (by decide +kernel)
theorem mw_3_94 : Cond.selects RX3 yX3_record yX3_record ∈ BG := mB (t3 (i := 94) (by decide +kernel)) (by decide +kernel)
theorem mw_3_104 : Cond.code yX3_clear cX3_clear 2 (some .int) ∈ BG := mB (t3 (i := 104) rfl) (by decide +kernel)
theorem mw_3_101 : Cond.methodLink RX8 183 yX3_clear ∈ BG := mB (t3 (i := 101) (by decide +kernel)) (by decide +kernel)
theorem mw_3_102 : Cond.instanceMethod yX3_clear ∈ BG := mB (t3 (i := 102) (by decide +kernel)) (by decide +kernel)
theorem mw_3_103 : Cond.selects RX3 yX3_clear yX3_clear ∈ BG := mB (t3 (i := 103) (by decide +kernel)) (by decide +kernel)
theorem mw_3_112 : Cond.code yX3_resize cX3_resize 4 (some .int) ∈ BG := mB (t3 (i := 112) rfl) (by decide +kernel)
theorem mw_3_109 : Cond.methodLink RX8 186 yX3_resize ∈ BG := mB (t3 (i := 109) (by decide +kernel)) (by decide +kernel)
theorem mw_3_110 : Cond.instanceMethod yX3_resize ∈ BG := mB (t3 (i := 110) (by decide +kernel)) (by decide +kernel)
theorem mw_3_111 : Cond.selects RX3 yX3_resize yX3_resize ∈ BG := mB (t3 (i := 111) (by decide +kernel)) (by decide +kernel)
theorem mw_3_126 : Cond.methodLink RX8 192 yX3_sizeOf ∈ BG := mB (t3 (i := 126) (by decide +kernel)) (by decide +kernel)
theorem mw_3_130 : Cond.code yX3_hitsBySize cX3_hitsBySize 6 (some .int) ∈ BG := mB (t3 (i := 130) rfl) (by decide +kernel)
theorem mw_3_127 : Cond.methodLink RX8 195 yX3_hitsBySize ∈ BG := mB (t3 (i := 127) (by decide +kernel)) (by decide +kernel)
theorem mw_3_128 : Cond.instanceMethod yX3_hitsBySize ∈ BG := mB (t3 (i := 128) (by decide +kernel)) (by decide +kernel)
theorem mw_3_129 : Cond.selects RX3 yX3_hitsBySize yX3_hitsBySize ∈ BG := mB (t3 (i := 129) (by decide +kernel)) (by decide +kernel)
theorem mw_3_156 : Cond.code yX3_latest cX3_latest 2 (some .int) ∈ BG := mB (t3 (i := 156) rfl) (by decide +kernel)
theorem mw_3_153 : Cond.methodLink RX8 201 yX3_latest ∈ BG := mB (t3 (i := 153) (by decide +kernel)) (by decide +kernel)
theorem mw_3_154 : Cond.instanceMethod yX3_latest ∈ BG := mB (t3 (i := 154) (by decide +kernel)) (by decide +kernel)
theorem mw_3_155 : Cond.selects RX3 yX3_latest yX3_latest ∈ BG := mB (t3 (i := 155) (by decide +kernel)) (by decide +kernel)
theorem mw_3_142 : Cond.code yX3_bestHits cX3_bestHits 6 (some .int) ∈ BG := mB (t3 (i := 142) rfl) (by decide +kernel)
theorem mw_3_139 : Cond.methodLink RX8 198 yX3_bestHits ∈ BG := mB (t3 (i := 139) (by decide +kernel)) (by decide +kernel)
theorem mw_3_140 : Cond.instanceMethod yX3_bestHits ∈ BG := mB (t3 (i := 140) (by decide +kernel)) (by decide +kernel)
theorem mw_3_141 : Cond.selects RX3 yX3_bestHits yX3_bestHits ∈ BG := mB (t3 (i := 141) (by decide +kernel)) (by decide +kernel)
theorem mw_3_125 : Cond.code yX3_callsAt cX3_callsAt 4 (some .int) ∈ BG := mB (t3 (i := 125) rfl) (by decide +kernel)
theorem mw_3_122 : Cond.methodLink RX8 189 yX3_callsAt ∈ BG := mB (t3 (i := 122) (by decide +kernel)) (by decide +kernel)
theorem mw_3_123 : Cond.instanceMethod yX3_callsAt ∈ BG := mB (t3 (i := 123) (by decide +kernel)) (by decide +kernel)
theorem mw_3_124 : Cond.selects RX3 yX3_callsAt yX3_callsAt ∈ BG := mB (t3 (i := 124) (by decide +kernel)) (by decide +kernel)
theorem mw_3_174 : Cond.code yX0_namesOf cX0_namesOf 4 (some .int) ∈ BG := mB (t3 (i := 174) rfl) (by decide +kernel)
theorem mw_3_171 : Cond.methodLink RX8 211 yX0_namesOf ∈ BG := mB (t3 (i := 171) (by decide +kernel)) (by decide +kernel)
theorem mw_3_172 : Cond.instanceMethod yX0_namesOf ∈ BG := mB (t3 (i := 172) (by decide +kernel)) (by decide +kernel)
theorem mw_3_173 : Cond.selects RX0 yX0_namesOf yX0_namesOf ∈ BG := mB (t3 (i := 173) (by decide +kernel)) (by decide +kernel)
theorem mw_3_170 : Cond.code yX3_howMany cX3_howMany 1 (some .int) ∈ BG := mB (t3 (i := 170) rfl) (by decide +kernel)
theorem mw_3_167 : Cond.methodLink RX8 210 yX3_howMany ∈ BG := mB (t3 (i := 167) (by decide +kernel)) (by decide +kernel)
theorem mw_3_168 : Cond.instanceMethod yX3_howMany ∈ BG := mB (t3 (i := 168) (by decide +kernel)) (by decide +kernel)
theorem mw_3_169 : Cond.selects RX3 yX3_howMany yX3_howMany ∈ BG := mB (t3 (i := 169) (by decide +kernel)) (by decide +kernel)
theorem mw_3_166 : Cond.methodLink RX8 207 yX2_length ∈ BG := mB (t3 (i := 166) (by decide +kernel)) (by decide +kernel)
theorem mw_3_165 : Cond.methodLink RX8 204 yX1_howMany ∈ BG := mB (t3 (i := 165) (by decide +kernel)) (by decide +kernel)
theorem dX8_column_0 : decode cX8_column 0 = .ok (.iload_n 1, 1) := by decide +kernel
theorem dX8_column_1 : decode cX8_column 1 = .ok (.iconst (-1), 1) := by decide +kernel
theorem dX8_column_2 : decode cX8_column 2 = .ok (.if_icmp .eq 12, 3) := by decide +kernel
theorem dX8_column_14 : decode cX8_column 14 = .ok (.aload_n 0, 1) := by decide +kernel
theorem dX8_column_15 : decode cX8_column 15 = .ok (.getfield 40, 3) := by decide +kernel
theorem dX8_column_18 : decode cX8_column 18 = .ok (.aload_n 0, 1) := by decide +kernel
theorem dX8_column_19 : decode cX8_column 19 = .ok (.getfield 10, 3) := by decide +kernel
theorem dX8_column_22 : decode cX8_column 22 = .ok (.aload_n 0, 1) := by decide +kernel
theorem dX8_column_23 : decode cX8_column 23 = .ok (.getfield 26, 3) := by decide +kernel
theorem dX8_column_26 : decode cX8_column 26 = .ok (.invokevirtual 154, 3) := by decide +kernel
theorem dX8_column_29 : decode cX8_column 29 = .ok (.aload_n 0, 1) := by decide +kernel
theorem dX8_column_30 : decode cX8_column 30 = .ok (.getfield 40, 3) := by decide +kernel
theorem dX8_column_33 : decode cX8_column 33 = .ok (.invokevirtual 158, 3) := by decide +kernel
theorem dX8_column_36 : decode cX8_column 36 = .ok (.istore_n 2, 1) := by decide +kernel
theorem dX8_column_37 : decode cX8_column 37 = .ok (.iload_n 1, 1) := by decide +kernel
theorem dX8_column_38 : decode cX8_column 38 = .ok (.iconst (-1), 1) := by decide +kernel
theorem dX8_column_39 : decode cX8_column 39 = .ok (.if_icmp .ne 7, 3) := by decide +kernel
theorem dX8_column_42 : decode cX8_column 42 = .ok (.iload_n 2, 1) := by decide +kernel
theorem dX8_column_43 : decode cX8_column 43 = .ok (.goto 11, 3) := by decide +kernel
theorem dX8_column_54 : decode cX8_column 54 = .ok (.ireturn, 1) := by decide +kernel
theorem dX8_column_5 : decode cX8_column 5 = .ok (.iload_n 1, 1) := by decide +kernel
theorem dX8_column_6 : decode cX8_column 6 = .ok (.invokestatic 101, 3) := by decide +kernel
theorem dX8_column_9 : decode cX8_column 9 = .ok (.ifCond .ne 5, 3) := by decide +kernel
theorem dX8_column_46 : decode cX8_column 46 = .ok (.aload_n 0, 1) := by decide +kernel
theorem dX8_column_47 : decode cX8_column 47 = .ok (.getfield 40, 3) := by decide +kernel
theorem dX8_column_50 : decode cX8_column 50 = .ok (.iload_n 1, 1) := by decide +kernel
theorem dX8_column_51 : decode cX8_column 51 = .ok (.invokevirtual 161, 3) := by decide +kernel
theorem dX8_column_12 : decode cX8_column 12 = .ok (.iconst (-1), 1) := by decide +kernel
theorem dX8_column_13 : decode cX8_column 13 = .ok (.ireturn, 1) := by decide +kernel
theorem dX8_packed_0 : decode cX8_packed 0 = .ok (.iload_n 1, 1) := by decide +kernel
theorem dX8_packed_1 : decode cX8_packed 1 = .ok (.iconst (-1), 1) := by decide +kernel
theorem dX8_packed_2 : decode cX8_packed 2 = .ok (.if_icmp .eq 16, 3) := by decide +kernel
theorem dX8_packed_18 : decode cX8_packed 18 = .ok (.aload_n 0, 1) := by decide +kernel
theorem dX8_packed_19 : decode cX8_packed 19 = .ok (.getfield 40, 3) := by decide +kernel
theorem dX8_packed_22 : decode cX8_packed 22 = .ok (.aload_n 0, 1) := by decide +kernel
theorem dX8_packed_23 : decode cX8_packed 23 = .ok (.getfield 10, 3) := by decide +kernel
theorem dX8_packed_26 : decode cX8_packed 26 = .ok (.aload_n 0, 1) := by decide +kernel
theorem dX8_packed_27 : decode cX8_packed 27 = .ok (.getfield 26, 3) := by decide +kernel
theorem dX8_packed_30 : decode cX8_packed 30 = .ok (.invokevirtual 154, 3) := by decide +kernel
theorem dX8_packed_33 : decode cX8_packed 33 = .ok (.aload_n 0, 1) := by decide +kernel
theorem dX8_packed_34 : decode cX8_packed 34 = .ok (.getfield 40, 3) := by decide +kernel
theorem dX8_packed_37 : decode cX8_packed 37 = .ok (.invokevirtual 164, 3) := by decide +kernel
theorem dX8_packed_40 : decode cX8_packed 40 = .ok (.istore_n 2, 1) := by decide +kernel
theorem dX8_packed_41 : decode cX8_packed 41 = .ok (.iload_n 1, 1) := by decide +kernel
theorem dX8_packed_42 : decode cX8_packed 42 = .ok (.iconst (-1), 1) := by decide +kernel
theorem dX8_packed_43 : decode cX8_packed 43 = .ok (.if_icmp .ne 7, 3) := by decide +kernel
theorem dX8_packed_46 : decode cX8_packed 46 = .ok (.iload_n 2, 1) := by decide +kernel
theorem dX8_packed_47 : decode cX8_packed 47 = .ok (.goto 11, 3) := by decide +kernel
theorem dX8_packed_58 : decode cX8_packed 58 = .ok (.ireturn, 1) := by decide +kernel
theorem dX8_packed_5 : decode cX8_packed 5 = .ok (.aload_n 0, 1) := by decide +kernel
theorem dX8_packed_6 : decode cX8_packed 6 = .ok (.getfield 10, 3) := by decide +kernel
theorem dX8_packed_9 : decode cX8_packed 9 = .ok (.iload_n 1, 1) := by decide +kernel
theorem dX8_packed_10 : decode cX8_packed 10 = .ok (.invokevirtual 51, 3) := by decide +kernel
theorem dX8_packed_13 : decode cX8_packed 13 = .ok (.ifCond .ne 5, 3) := by decide +kernel
theorem dX8_packed_50 : decode cX8_packed 50 = .ok (.aload_n 0, 1) := by decide +kernel
theorem dX8_packed_51 : decode cX8_packed 51 = .ok (.getfield 40, 3) := by decide +kernel
theorem dX8_packed_54 : decode cX8_packed 54 = .ok (.iload_n 1, 1) := by decide +kernel
theorem dX8_packed_55 : decode cX8_packed 55 = .ok (.invokevirtual 167, 3) := by decide +kernel
theorem dX8_packed_16 : decode cX8_packed 16 = .ok (.iconst (-1), 1) := by decide +kernel
theorem dX8_packed_17 : decode cX8_packed 17 = .ok (.ireturn, 1) := by decide +kernel
theorem dX8_slot_0 : decode cX8_slot 0 = .ok (.iload_n 1, 1) := by decide +kernel
theorem dX8_slot_1 : decode cX8_slot 1 = .ok (.ifCond .lt 9, 3) := by decide +kernel
theorem dX8_slot_10 : decode cX8_slot 10 = .ok (.bipush (-2), 2) := by decide +kernel
theorem dX8_slot_12 : decode cX8_slot 12 = .ok (.ireturn, 1) := by decide +kernel
theorem dX8_slot_4 : decode cX8_slot 4 = .ok (.iload_n 1, 1) := by decide +kernel
theorem dX8_slot_5 : decode cX8_slot 5 = .ok (.bipush 100, 2) := by decide +kernel
theorem dX8_slot_7 : decode cX8_slot 7 = .ok (.if_icmp .lt 6, 3) := by decide +kernel
theorem dX8_slot_13 : decode cX8_slot 13 = .ok (.aload_n 0, 1) := by decide +kernel
theorem dX8_slot_14 : decode cX8_slot 14 = .ok (.getfield 40, 3) := by decide +kernel
theorem dX8_slot_17 : decode cX8_slot 17 = .ok (.aload_n 0, 1) := by decide +kernel
theorem dX8_slot_18 : decode cX8_slot 18 = .ok (.getfield 10, 3) := by decide +kernel
theorem dX8_slot_21 : decode cX8_slot 21 = .ok (.aload_n 0, 1) := by decide +kernel
theorem dX8_slot_22 : decode cX8_slot 22 = .ok (.getfield 26, 3) := by decide +kernel
theorem dX8_slot_25 : decode cX8_slot 25 = .ok (.invokevirtual 154, 3) := by decide +kernel
theorem dX8_slot_28 : decode cX8_slot 28 = .ok (.aload_n 0, 1) := by decide +kernel
theorem dX8_slot_29 : decode cX8_slot 29 = .ok (.getfield 40, 3) := by decide +kernel
theorem dX8_slot_32 : decode cX8_slot 32 = .ok (.invokevirtual 164, 3) := by decide +kernel
theorem dX8_slot_35 : decode cX8_slot 35 = .ok (.pop, 1) := by decide +kernel
theorem dX8_slot_36 : decode cX8_slot 36 = .ok (.aload_n 0, 1) := by decide +kernel
theorem dX8_slot_37 : decode cX8_slot 37 = .ok (.getfield 40, 3) := by decide +kernel
theorem dX8_slot_40 : decode cX8_slot 40 = .ok (.iload_n 1, 1) := by decide +kernel
theorem dX8_slot_41 : decode cX8_slot 41 = .ok (.invokevirtual 170, 3) := by decide +kernel
theorem dX8_slot_44 : decode cX8_slot 44 = .ok (.ireturn, 1) := by decide +kernel
theorem dX8_call_0 : decode cX8_call 0 = .ok (.iload_n 1, 1) := by decide +kernel
theorem dX8_call_1 : decode cX8_call 1 = .ok (.invokestatic 176, 3) := by decide +kernel
theorem dX8_call_4 : decode cX8_call 4 = .ok (.ifCond .eq 14, 3) := by decide +kernel
theorem dX8_call_7 : decode cX8_call 7 = .ok (.aload_n 0, 1) := by decide +kernel
theorem dX8_call_8 : decode cX8_call 8 = .ok (.getfield 10, 3) := by decide +kernel
theorem dX8_call_11 : decode cX8_call 11 = .ok (.iload_n 2, 1) := by decide +kernel
theorem dX8_call_12 : decode cX8_call 12 = .ok (.invokevirtual 51, 3) := by decide +kernel
theorem dX8_call_15 : decode cX8_call 15 = .ok (.ifCond .ne 5, 3) := by decide +kernel
theorem dX8_call_20 : decode cX8_call 20 = .ok (.aload_n 0, 1) := by decide +kernel
theorem dX8_call_21 : decode cX8_call 21 = .ok (.getfield 47, 3) := by decide +kernel
theorem dX8_call_24 : decode cX8_call 24 = .ok (.invokevirtual 179, 3) := by decide +kernel
theorem dX8_call_27 : decode cX8_call 27 = .ok (.ifCond .eq 6, 3) := by decide +kernel
theorem dX8_call_30 : decode cX8_call 30 = .ok (.bipush (-4), 2) := by decide +kernel
theorem dX8_call_32 : decode cX8_call 32 = .ok (.ireturn, 1) := by decide +kernel
theorem dX8_call_33 : decode cX8_call 33 = .ok (.aload_n 0, 1) := by decide +kernel
theorem dX8_call_34 : decode cX8_call 34 = .ok (.getfield 47, 3) := by decide +kernel
theorem dX8_call_37 : decode cX8_call 37 = .ok (.iload_n 1, 1) := by decide +kernel
theorem dX8_call_38 : decode cX8_call 38 = .ok (.iload_n 2, 1) := by decide +kernel
theorem dX8_call_39 : decode cX8_call 39 = .ok (.invokevirtual 180, 3) := by decide +kernel
theorem dX8_call_42 : decode cX8_call 42 = .ok (.ireturn, 1) := by decide +kernel
theorem dX8_call_18 : decode cX8_call 18 = .ok (.iconst (-1), 1) := by decide +kernel
theorem dX8_call_19 : decode cX8_call 19 = .ok (.ireturn, 1) := by decide +kernel
theorem dX8_forget_0 : decode cX8_forget 0 = .ok (.aload_n 0, 1) := by decide +kernel
theorem dX8_forget_1 : decode cX8_forget 1 = .ok (.getfield 47, 3) := by decide +kernel
theorem dX8_forget_4 : decode cX8_forget 4 = .ok (.invokevirtual 183, 3) := by decide +kernel
theorem dX8_forget_7 : decode cX8_forget 7 = .ok (.ireturn, 1) := by decide +kernel
theorem dX8_size_0 : decode cX8_size 0 = .ok (.iload_n 1, 1) := by decide +kernel
theorem dX8_size_1 : decode cX8_size 1 = .ok (.invokestatic 176, 3) := by decide +kernel
theorem dX8_size_4 : decode cX8_size 4 = .ok (.ifCond .ne 5, 3) := by decide +kernel
theorem dX8_size_9 : decode cX8_size 9 = .ok (.iload_n 2, 1) := by decide +kernel
theorem dX8_size_10 : decode cX8_size 10 = .ok (.iconst 1, 1) := by decide +kernel
theorem dX8_size_11 : decode cX8_size 11 = .ok (.if_icmp .lt 8, 3) := by decide +kernel
theorem dX8_size_19 : decode cX8_size 19 = .ok (.bipush (-2), 2) := by decide +kernel
theorem dX8_size_21 : decode cX8_size 21 = .ok (.ireturn, 1) := by decide +kernel
theorem dX8_size_14 : decode cX8_size 14 = .ok (.iload_n 2, 1) := by decide +kernel
theorem dX8_size_15 : decode cX8_size 15 = .ok (.iconst 4, 1) := by decide +kernel
theorem dX8_size_16 : decode cX8_size 16 = .ok (.if_icmp .le 6, 3) := by decide +kernel
theorem dX8_size_22 : decode cX8_size 22 = .ok (.aload_n 0, 1) := by decide +kernel
theorem dX8_size_23 : decode cX8_size 23 = .ok (.getfield 47, 3) := by decide +kernel
theorem dX8_size_26 : decode cX8_size 26 = .ok (.iload_n 1, 1) := by decide +kernel
theorem dX8_size_27 : decode cX8_size 27 = .ok (.iload_n 2, 1) := by decide +kernel
theorem dX8_size_28 : decode cX8_size 28 = .ok (.invokevirtual 186, 3) := by decide +kernel
theorem dX8_size_31 : decode cX8_size 31 = .ok (.ireturn, 1) := by decide +kernel
theorem dX8_size_7 : decode cX8_size 7 = .ok (.iconst (-1), 1) := by decide +kernel
theorem dX8_size_8 : decode cX8_size 8 = .ok (.ireturn, 1) := by decide +kernel
theorem dX8_hits_0 : decode cX8_hits 0 = .ok (.iload_n 1, 1) := by decide +kernel
theorem dX8_hits_1 : decode cX8_hits 1 = .ok (.invokestatic 176, 3) := by decide +kernel
theorem dX8_hits_4 : decode cX8_hits 4 = .ok (.ifCond .ne 5, 3) := by decide +kernel
theorem dX8_hits_9 : decode cX8_hits 9 = .ok (.iload_n 2, 1) := by decide +kernel
theorem dX8_hits_10 : decode cX8_hits 10 = .ok (.ifCond .ne 12, 3) := by decide +kernel
theorem dX8_hits_22 : decode cX8_hits 22 = .ok (.iload_n 2, 1) := by decide +kernel
theorem dX8_hits_23 : decode cX8_hits 23 = .ok (.iconst 1, 1) := by decide +kernel
theorem dX8_hits_24 : decode cX8_hits 24 = .ok (.if_icmp .ne 20, 3) := by decide +kernel
theorem dX8_hits_44 : decode cX8_hits 44 = .ok (.iload_n 2, 1) := by decide +kernel
theorem dX8_hits_45 : decode cX8_hits 45 = .ok (.iconst 2, 1) := by decide +kernel
theorem dX8_hits_46 : decode cX8_hits 46 = .ok (.if_icmp .ne 12, 3) := by decide +kernel
theorem dX8_hits_58 : decode cX8_hits 58 = .ok (.iload_n 2, 1) := by decide +kernel
theorem dX8_hits_59 : decode cX8_hits 59 = .ok (.bipush 10, 2) := by decide +kernel
theorem dX8_hits_61 : decode cX8_hits 61 = .ok (.if_icmp .lt 9, 3) := by decide +kernel
theorem dX8_hits_70 : decode cX8_hits 70 = .ok (.bipush (-2), 2) := by decide +kernel
theorem dX8_hits_72 : decode cX8_hits 72 = .ok (.ireturn, 1) := by decide +kernel
theorem dX8_hits_64 : decode cX8_hits 64 = .ok (.iload_n 2, 1) := by decide +kernel
theorem dX8_hits_65 : decode cX8_hits 65 = .ok (.bipush 14, 2) := by decide +kernel
theorem dX8_hits_67 : decode cX8_hits 67 = .ok (.if_icmp .lt 6, 3) := by decide +kernel
theorem dX8_hits_73 : decode cX8_hits 73 = .ok (.aload_n 0, 1) := by decide +kernel
theorem dX8_hits_74 : decode cX8_hits 74 = .ok (.getfield 47, 3) := by decide +kernel
theorem dX8_hits_77 : decode cX8_hits 77 = .ok (.iload_n 1, 1) := by decide +kernel
theorem dX8_hits_78 : decode cX8_hits 78 = .ok (.aload_n 0, 1) := by decide +kernel
theorem dX8_hits_79 : decode cX8_hits 79 = .ok (.getfield 47, 3) := by decide +kernel
theorem dX8_hits_82 : decode cX8_hits 82 = .ok (.iload_n 1, 1) := by decide +kernel
theorem dX8_hits_83 : decode cX8_hits 83 = .ok (.invokevirtual 192, 3) := by decide +kernel
theorem dX8_hits_86 : decode cX8_hits 86 = .ok (.invokevirtual 195, 3) := by decide +kernel
theorem dX8_hits_89 : decode cX8_hits 89 = .ok (.pop, 1) := by decide +kernel
theorem dX8_hits_90 : decode cX8_hits 90 = .ok (.aload_n 0, 1) := by decide +kernel
theorem dX8_hits_91 : decode cX8_hits 91 = .ok (.getfield 47, 3) := by decide +kernel
theorem dX8_hits_94 : decode cX8_hits 94 = .ok (.iload_n 2, 1) := by decide +kernel
theorem dX8_hits_95 : decode cX8_hits 95 = .ok (.bipush 10, 2) := by decide +kernel
theorem dX8_hits_97 : decode cX8_hits 97 = .ok (.isub, 1) := by decide +kernel
theorem dX8_hits_98 : decode cX8_hits 98 = .ok (.invokevirtual 201, 3) := by decide +kernel
theorem dX8_hits_101 : decode cX8_hits 101 = .ok (.ireturn, 1) := by decide +kernel
theorem dX8_hits_49 : decode cX8_hits 49 = .ok (.aload_n 0, 1) := by decide +kernel
theorem dX8_hits_50 : decode cX8_hits 50 = .ok (.getfield 47, 3) := by decide +kernel
theorem dX8_hits_53 : decode cX8_hits 53 = .ok (.iload_n 1, 1) := by decide +kernel
theorem dX8_hits_54 : decode cX8_hits 54 = .ok (.invokevirtual 198, 3) := by decide +kernel
theorem dX8_hits_57 : decode cX8_hits 57 = .ok (.ireturn, 1) := by decide +kernel
theorem dX8_hits_27 : decode cX8_hits 27 = .ok (.aload_n 0, 1) := by decide +kernel
theorem dX8_hits_28 : decode cX8_hits 28 = .ok (.getfield 47, 3) := by decide +kernel
theorem dX8_hits_31 : decode cX8_hits 31 = .ok (.iload_n 1, 1) := by decide +kernel
theorem dX8_hits_32 : decode cX8_hits 32 = .ok (.aload_n 0, 1) := by decide +kernel
theorem dX8_hits_33 : decode cX8_hits 33 = .ok (.getfield 47, 3) := by decide +kernel
theorem dX8_hits_36 : decode cX8_hits 36 = .ok (.iload_n 1, 1) := by decide +kernel
theorem dX8_hits_37 : decode cX8_hits 37 = .ok (.invokevirtual 192, 3) := by decide +kernel
theorem dX8_hits_40 : decode cX8_hits 40 = .ok (.invokevirtual 195, 3) := by decide +kernel
theorem dX8_hits_43 : decode cX8_hits 43 = .ok (.ireturn, 1) := by decide +kernel
theorem dX8_hits_13 : decode cX8_hits 13 = .ok (.aload_n 0, 1) := by decide +kernel
theorem dX8_hits_14 : decode cX8_hits 14 = .ok (.getfield 47, 3) := by decide +kernel
theorem dX8_hits_17 : decode cX8_hits 17 = .ok (.iload_n 1, 1) := by decide +kernel
theorem dX8_hits_18 : decode cX8_hits 18 = .ok (.invokevirtual 189, 3) := by decide +kernel
theorem dX8_hits_21 : decode cX8_hits 21 = .ok (.ireturn, 1) := by decide +kernel
theorem dX8_hits_7 : decode cX8_hits 7 = .ok (.iconst (-1), 1) := by decide +kernel
theorem dX8_hits_8 : decode cX8_hits 8 = .ok (.ireturn, 1) := by decide +kernel
theorem dX8_need_0 : decode cX8_need 0 = .ok (.iload_n 1, 1) := by decide +kernel
theorem dX8_need_1 : decode cX8_need 1 = .ok (.invokestatic 176, 3) := by decide +kernel
theorem dX8_need_4 : decode cX8_need 4 = .ok (.ifCond .ne 5, 3) := by decide +kernel
theorem dX8_need_9 : decode cX8_need 9 = .ok (.iload_n 2, 1) := by decide +kernel
theorem dX8_need_10 : decode cX8_need 10 = .ok (.ifCond .lt 9, 3) := by decide +kernel
theorem dX8_need_19 : decode cX8_need 19 = .ok (.bipush (-2), 2) := by decide +kernel
theorem dX8_need_21 : decode cX8_need 21 = .ok (.ireturn, 1) := by decide +kernel
theorem dX8_need_13 : decode cX8_need 13 = .ok (.iload_n 2, 1) := by decide +kernel
theorem dX8_need_14 : decode cX8_need 14 = .ok (.bipush 40, 2) := by decide +kernel
theorem dX8_need_16 : decode cX8_need 16 = .ok (.if_icmp .le 6, 3) := by decide +kernel
theorem dX8_need_22 : decode cX8_need 22 = .ok (.iconst 1, 1) := by decide +kernel
theorem dX8_need_23 : decode cX8_need 23 = .ok (.istore_n 3, 1) := by decide +kernel
theorem dX8_need_24 : decode cX8_need 24 = .ok (.iload_n 3, 1) := by decide +kernel
theorem dX8_need_25 : decode cX8_need 25 = .ok (.iconst 4, 1) := by decide +kernel
theorem dX8_need_26 : decode cX8_need 26 = .ok (.if_icmp .gt 24, 3) := by decide +kernel
theorem dX8_need_29 : decode cX8_need 29 = .ok (.aload_n 0, 1) := by decide +kernel
theorem dX8_need_30 : decode cX8_need 30 = .ok (.getfield 47, 3) := by decide +kernel
theorem dX8_need_33 : decode cX8_need 33 = .ok (.iload_n 1, 1) := by decide +kernel
theorem dX8_need_34 : decode cX8_need 34 = .ok (.iload_n 3, 1) := by decide +kernel
theorem dX8_need_35 : decode cX8_need 35 = .ok (.invokevirtual 195, 3) := by decide +kernel
theorem dX8_need_38 : decode cX8_need 38 = .ok (.iload_n 2, 1) := by decide +kernel
theorem dX8_need_39 : decode cX8_need 39 = .ok (.if_icmp .lt 5, 3) := by decide +kernel
theorem dX8_need_44 : decode cX8_need 44 = .ok (.iinc 3 1, 3) := by decide +kernel
theorem dX8_need_47 : decode cX8_need 47 = .ok (.goto (-23), 3) := by decide +kernel
theorem dX8_need_50 : decode cX8_need 50 = .ok (.bipush (-6), 2) := by decide +kernel
theorem dX8_need_52 : decode cX8_need 52 = .ok (.ireturn, 1) := by decide +kernel
theorem dX8_need_42 : decode cX8_need 42 = .ok (.iload_n 3, 1) := by decide +kernel
theorem dX8_need_43 : decode cX8_need 43 = .ok (.ireturn, 1) := by decide +kernel
theorem dX8_need_7 : decode cX8_need 7 = .ok (.iconst (-1), 1) := by decide +kernel
theorem dX8_need_8 : decode cX8_need 8 = .ok (.ireturn, 1) := by decide +kernel
theorem dX8_told_0 : decode cX8_told 0 = .ok (.iload_n 1, 1) := by decide +kernel
theorem dX8_told_1 : decode cX8_told 1 = .ok (.ifCond .ne 11, 3) := by decide +kernel
theorem dX8_told_12 : decode cX8_told 12 = .ok (.iload_n 1, 1) := by decide +kernel
theorem dX8_told_13 : decode cX8_told 13 = .ok (.iconst 1, 1) := by decide +kernel
theorem dX8_told_14 : decode cX8_told 14 = .ok (.if_icmp .ne 11, 3) := by decide +kernel
theorem dX8_told_25 : decode cX8_told 25 = .ok (.iload_n 1, 1) := by decide +kernel
theorem dX8_told_26 : decode cX8_told 26 = .ok (.iconst 2, 1) := by decide +kernel
theorem dX8_told_27 : decode cX8_told 27 = .ok (.if_icmp .ne 11, 3) := by decide +kernel
theorem dX8_told_38 : decode cX8_told 38 = .ok (.iload_n 1, 1) := by decide +kernel
theorem dX8_told_39 : decode cX8_told 39 = .ok (.bipush 10, 2) := by decide +kernel
theorem dX8_told_41 : decode cX8_told 41 = .ok (.if_icmp .lt 21, 3) := by decide +kernel
theorem dX8_told_62 : decode cX8_told 62 = .ok (.iload_n 1, 1) := by decide +kernel
theorem dX8_told_63 : decode cX8_told 63 = .ok (.bipush 20, 2) := by decide +kernel
theorem dX8_told_65 : decode cX8_told 65 = .ok (.if_icmp .lt 29, 3) := by decide +kernel
theorem dX8_told_94 : decode cX8_told 94 = .ok (.bipush (-2), 2) := by decide +kernel
theorem dX8_told_96 : decode cX8_told 96 = .ok (.ireturn, 1) := by decide +kernel
theorem dX8_told_44 : decode cX8_told 44 = .ok (.iload_n 1, 1) := by decide +kernel
theorem dX8_told_45 : decode cX8_told 45 = .ok (.bipush 20, 2) := by decide +kernel
theorem dX8_told_47 : decode cX8_told 47 = .ok (.if_icmp .ge 15, 3) := by decide +kernel
theorem dX8_told_68 : decode cX8_told 68 = .ok (.iload_n 1, 1) := by decide +kernel
theorem dX8_told_69 : decode cX8_told 69 = .ok (.bipush 30, 2) := by decide +kernel
theorem dX8_told_71 : decode cX8_told 71 = .ok (.if_icmp .ge 23, 3) := by decide +kernel
theorem dX8_told_74 : decode cX8_told 74 = .ok (.aload_n 0, 1) := by decide +kernel
theorem dX8_told_75 : decode cX8_told 75 = .ok (.getfield 10, 3) := by decide +kernel
theorem dX8_told_78 : decode cX8_told 78 = .ok (.iload_n 1, 1) := by decide +kernel
theorem dX8_told_79 : decode cX8_told 79 = .ok (.bipush 20, 2) := by decide +kernel
theorem dX8_told_81 : decode cX8_told 81 = .ok (.isub, 1) := by decide +kernel
theorem dX8_told_82 : decode cX8_told 82 = .ok (.invokevirtual 63, 3) := by decide +kernel
theorem dX8_told_85 : decode cX8_told 85 = .ok (.ifCond .eq 7, 3) := by decide +kernel
theorem dX8_told_88 : decode cX8_told 88 = .ok (.iconst 1, 1) := by decide +kernel
theorem dX8_told_89 : decode cX8_told 89 = .ok (.goto 4, 3) := by decide +kernel
theorem dX8_told_93 : decode cX8_told 93 = .ok (.ireturn, 1) := by decide +kernel
theorem dX8_told_92 : decode cX8_told 92 = .ok (.iconst 0, 1) := by decide +kernel
theorem dX8_told_50 : decode cX8_told 50 = .ok (.aload_n 0, 1) := by decide +kernel
theorem dX8_told_51 : decode cX8_told 51 = .ok (.getfield 26, 3) := by decide +kernel
theorem dX8_told_54 : decode cX8_told 54 = .ok (.iload_n 1, 1) := by decide +kernel
theorem dX8_told_55 : decode cX8_told 55 = .ok (.bipush 10, 2) := by decide +kernel
theorem dX8_told_57 : decode cX8_told 57 = .ok (.isub, 1) := by decide +kernel
theorem dX8_told_58 : decode cX8_told 58 = .ok (.invokevirtual 211, 3) := by decide +kernel
theorem dX8_told_61 : decode cX8_told 61 = .ok (.ireturn, 1) := by decide +kernel
theorem dX8_told_30 : decode cX8_told 30 = .ok (.aload_n 0, 1) := by decide +kernel
theorem dX8_told_31 : decode cX8_told 31 = .ok (.getfield 47, 3) := by decide +kernel
theorem dX8_told_34 : decode cX8_told 34 = .ok (.invokevirtual 210, 3) := by decide +kernel
theorem dX8_told_37 : decode cX8_told 37 = .ok (.ireturn, 1) := by decide +kernel
theorem dX8_told_17 : decode cX8_told 17 = .ok (.aload_n 0, 1) := by decide +kernel
theorem dX8_told_18 : decode cX8_told 18 = .ok (.getfield 19, 3) := by decide +kernel
theorem dX8_told_21 : decode cX8_told 21 = .ok (.invokevirtual 207, 3) := by decide +kernel
theorem dX8_told_24 : decode cX8_told 24 = .ok (.ireturn, 1) := by decide +kernel
theorem dX8_told_4 : decode cX8_told 4 = .ok (.aload_n 0, 1) := by decide +kernel
theorem dX8_told_5 : decode cX8_told 5 = .ok (.getfield 10, 3) := by decide +kernel
theorem dX8_told_8 : decode cX8_told 8 = .ok (.invokevirtual 204, 3) := by decide +kernel
theorem dX8_told_11 : decode cX8_told 11 = .ok (.ireturn, 1) := by decide +kernel
set_option maxHeartbeats 4000000 in
set_option maxRecDepth 100000 in
theorem x_column (l : Launch) (dC : Nat → ClassId) (dI : Nat → Nat → Nat) (sz : Nat) (h0 : Nat) (p1 : Nat) (u1 : Value) (p3 : Nat) (u3 : Value) (p4 : Nat) (u5 : Value) (w0 : Value) (b1 : Nat) (w2 : Value) (b3 : Nat) (w4 : Value) (w5 : Value) (cn : Nat) (bb : Int32) (kb1 : ClassId) (fle : Nat → Int32) (kb3 : ClassId) (fli : Nat → Int32) (e0 : Nat) (z1 : Value) (z2 : Value) (ke0 : ClassId) (fo : Nat → Int32) (t0 : Nat) (t1 : Nat) (t2 : Nat) (t8 : Value) (t9 : Value) (kt0 : ClassId) (fr : Nat → Int32) (kt1 : ClassId) (ft : Nat → Int32) (kt2 : ClassId) (fcl : Nat → Int32) (n1 : Int32) (hc : cn ≤ 10) (hle : BdOk 10 10 fle) (hlk : LnOk fle fli cn) : Met l yX8_column (wq yX8_column cX8_column 3 (some .int)) ({ frames := 11, cells := 0, slots := 0, locals := 257 }) (va_Pc [.ref h0, .int n1] (pcW dC dI [(kb1, .int), (kb3, .int), (ke0, .int), (kt0, .int), (kt1, .int), (kt2, .int)] [(h0, .inr (7, [.ref p1, u1, .ref p3, u3, .ref p4, u5])), (p1, .inr (1, [w0, .ref b1, w2, .ref b3, w4, w5, .int (nI cn), .int bb])), (b1, .inl (kb1, 10, .inl fle)), (b3, .inl (kb3, 100, .inl fli)), (p3, .inr (0, [.ref e0, z1, z2])), (e0, .inl (ke0, 8, .inl fo)), (p4, .inr (6, [.ref t0, .ref t1, .ref t2, t8, t9])), (t0, .inl (kt0, 10, .inl fr)), (t1, .inl (kt1, 8, .inl ft)), (t2, .inl (kt2, 8, .inl fcl))] sz)) (va_Qi (fun (r : Int32) (_ : Unit) => r = F_col (nI (clN (UR (rowC fle fli fo cn bb) 10) (KR (rowC fle fli fo cn bb) 10))) (clC (UR (rowC fle fli fo cn bb) 10) (KR (rowC fle fli fo cn bb) 10)) n1) (fun _ t => ∃ (fr2 : Nat → Int32) (ft2 : Nat → Int32) (fcl2 : Nat → Int32), va_P (dC, dI) vwCl [(h0, .inr (7, [.ref p1, u1, .ref p3, u3, .ref p4, u5])), (p1, .inr (1, [w0, .ref b1, w2, .ref b3, w4, w5, .int (nI cn), .int bb])), (b1, .inl (kb1, 10, .inl fle)), (b3, .inl (kb3, 100, .inl fli)), (p3, .inr (0, [.ref e0, z1, z2])), (e0, .inl (ke0, 8, .inl fo)), (p4, .inr (6, [.ref t0, .ref t1, .ref t2, t8, t9])), (t0, .inl (kt0, 10, .inl fr2)), (t1, .inl (kt1, 8, .inl ft2)), (t2, .inl (kt2, 8, .inl fcl2))] t.heap ∧ va_K (dC, dI) vwCl [(kb1, .int), (kb3, .int), (ke0, .int), (kt0, .int), (kt1, .int), (kt2, .int)] t ∧ va_D (va_A [(h0, .inr (7, [.ref p1, u1, .ref p3, u3, .ref p4, u5])), (p1, .inr (1, [w0, .ref b1, w2, .ref b3, w4, w5, .int (nI cn), .int bb])), (b1, .inl (kb1, 10, .inl fle)), (b3, .inl (kb3, 100, .inl fli)), (p3, .inr (0, [.ref e0, z1, z2])), (e0, .inl (ke0, 8, .inl fo)), (p4, .inr (6, [.ref t0, .ref t1, .ref t2, t8, t9])), (t0, .inl (kt0, 10, .inl fr)), (t1, .inl (kt1, 8, .inl ft)), (t2, .inl (kt2, 8, .inl fcl))] sz) [(h0, .inr (7, [.ref p1, u1, .ref p3, u3, .ref p4, u5])), (p1, .inr (1, [w0, .ref b1, w2, .ref b3, w4, w5, .int (nI cn), .int bb])), (b1, .inl (kb1, 10, .inl fle)), (b3, .inl (kb3, 100, .inl fli)), (p3, .inr (0, [.ref e0, z1, z2])), (e0, .inl (ke0, 8, .inl fo)), (p4, .inr (6, [.ref t0, .ref t1, .ref t2, t8, t9])), (t0, .inl (kt0, 10, .inl fr2)), (t1, .inl (kt1, 8, .inl ft2)), (t2, .inl (kt2, 8, .inl fcl2))]) (va_A [(h0, .inr (7, [.ref p1, u1, .ref p3, u3, .ref p4, u5])), (p1, .inr (1, [w0, .ref b1, w2, .ref b3, w4, w5, .int (nI cn), .int bb])), (b1, .inl (kb1, 10, .inl fle)), (b3, .inl (kb3, 100, .inl fli)), (p3, .inr (0, [.ref e0, z1, z2])), (e0, .inl (ke0, 8, .inl fo)), (p4, .inr (6, [.ref t0, .ref t1, .ref t2, t8, t9])), (t0, .inl (kt0, 10, .inl fr)), (t1, .inl (kt1, 8, .inl ft)), (t2, .inl (kt2, 8, .inl fcl))] sz)) 0 0 (va_A [(h0, .inr (7, [.ref p1, u1, .ref p3, u3, .ref p4, u5])), (p1, .inr (1, [w0, .ref b1, w2, .ref b3, w4, w5, .int (nI cn), .int bb])), (b1, .inl (kb1, 10, .inl fle)), (b3, .inl (kb3, 100, .inl fli)), (p3, .inr (0, [.ref e0, z1, z2])), (e0, .inl (ke0, 8, .inl fo)), (p4, .inr (6, [.ref t0, .ref t1, .ref t2, t8, t9])), (t0, .inl (kt0, 10, .inl fr)), (t1, .inl (kt1, 8, .inl ft)), (t2, .inl (kt2, 8, .inl fcl))] sz) := by
  refine Met.ofW (cc := cX8_column) (maxL := 3) (ret := (some .int)) (by decide) rfl ?_
  intro p e s m args below meth c s₁ B hml hv
  obtain ⟨rfl, hsz, hN, hP, hK, hD0⟩ := hv
  have hx := B.exec
  have hb := B.bytes
  have hr := B.returns
  have hts0 := atoms_spec (ws := (wq yX8_column cX8_column 3 (some .int))) B.pre
  have hts : ∀ w ∈ BG, w.before _ s = true := fun w h => hts0 w (List.mem_cons_of_mem _ h)
  have hown : s.vm.findClass RX8 = some m.cls := findClass_of_methodNamed B.named
  have hlocks := B.notSynchronized
  subst hsz
  have hD := hD0.self (sz := s.heap.size)
  generalize hAe : va_A [(h0, .inr (7, [.ref p1, u1, .ref p3, u3, .ref p4, u5])), (p1, .inr (1, [w0, .ref b1, w2, .ref b3, w4, w5, .int (nI cn), .int bb])), (b1, .inl (kb1, 10, .inl fle)), (b3, .inl (kb3, 100, .inl fli)), (p3, .inr (0, [.ref e0, z1, z2])), (e0, .inl (ke0, 8, .inl fo)), (p4, .inr (6, [.ref t0, .ref t1, .ref t2, t8, t9])), (t0, .inl (kt0, 10, .inl fr)), (t1, .inl (kt1, 8, .inl ft)), (t2, .inl (kt2, 8, .inl fcl))] s.heap.size = A at hD ⊢
  have hA : ∀ q : Nat, s.heap.size ≤ q → A q := fun q h => by rw [← hAe]; exact Or.inr h
  have hS : va_S A s.heap s.heap [] := va_S.rf
  clear hAe hD0
  have hP : va_P (dC, dI) vwCl [(h0, .inr (7, [.ref p1, u1, .ref p3, u3, .ref p4, u5])), (p1, .inr (1, [w0, .ref b1, w2, .ref b3, w4, w5, .int (nI cn), .int bb])), (b1, .inl (kb1, 10, .inl fle)), (b3, .inl (kb3, 100, .inl fli)), (p3, .inr (0, [.ref e0, z1, z2])), (e0, .inl (ke0, 8, .inl fo)), (p4, .inr (6, [.ref t0, .ref t1, .ref t2, t8, t9])), (t0, .inl (kt0, 10, .inl fr)), (t1, .inl (kt1, 8, .inl ft)), (t2, .inl (kt2, 8, .inl fcl))] s.heap := hP
  have hl := lv_entry ([.ref h0, .int n1]) (n := 3) (Nat.le_of_ble_eq_true rfl)
  rw [lg_entry_eq]
  generalize (lg_sl ([.ref h0, .int n1]) ++ List.replicate (3 - (lg_sl ([.ref h0, .int n1])).length) Slot.unset).toArray = ls at hl ⊢
  have hl : lv_has ls 3 [(0, .ref h0), (1, .int n1)] := hl
  refine lv_iload_n hx hb dX8_column_0 rfl (lv_at hl 1 rfl) ?_
  refine lv_iconst (v := (-1)) hx hb dX8_column_1 (by decide) ?_
  refine lv_icmp_eq (tgt := 14) hx hb dX8_column_2 (by decide) (fun c_1 => ?_) (fun c_1 => ?_)
  · have b_2 := gx_eq (X := (Int32.toInt n1)) (C := (-1)) rfl (by decide) c_1
    refine lv_aload_n hx hb dX8_column_14 rfl (lv_at hl 0 rfl) ?_
    refine va_get (D := (dC, dI)) (ci := 7) (v := .ref p4) (C := RX8) (T := TX8) (N := 6) hx hb hts inB_8 hown hK hP 0 rfl rfl 4 (by decide) (hts _ mw_1_172) (fun _ h9 => h9) rfl dX8_column_15 ?_
    refine lv_aload_n hx hb dX8_column_18 rfl (lv_at hl 0 rfl) ?_
    refine va_get (D := (dC, dI)) (ci := 7) (v := .ref p1) (C := RX8) (T := TX8) (N := 6) hx hb hts inB_8 hown hK hP 0 rfl rfl 0 (by decide) (hts _ mw_1_168) (fun _ h9 => h9) rfl dX8_column_19 ?_
    refine lv_aload_n hx hb dX8_column_22 rfl (lv_at hl 0 rfl) ?_
    refine va_get (D := (dC, dI)) (ci := 7) (v := .ref p3) (C := RX8) (T := TX8) (N := 6) hx hb hts inB_8 hown hK hP 0 rfl rfl 2 (by decide) (hts _ mw_1_170) (fun _ h9 => h9) rfl dX8_column_23 ?_
    have hPc := hP.sub (ws' := [(p4, .inr (6, [.ref t0, .ref t1, .ref t2, t8, t9])), (t0, .inl (kt0, 10, .inl fr)), (p1, .inr (1, [w0, .ref b1, w2, .ref b3, w4, w5, .int (nI cn), .int bb])), (b1, .inl (kb1, 10, .inl fle)), (b3, .inl (kb3, 100, .inl fli)), (p3, .inr (0, [.ref e0, z1, z2])), (e0, .inl (ke0, 8, .inl fo))]) [6, 7, 1, 2, 3, 4, 5] rfl
    have hDc := hD.sub (ws' := [(p4, .inr (6, [.ref t0, .ref t1, .ref t2, t8, t9])), (t0, .inl (kt0, 10, .inl fr)), (p1, .inr (1, [w0, .ref b1, w2, .ref b3, w4, w5, .int (nI cn), .int bb])), (b1, .inl (kb1, 10, .inl fle)), (b3, .inl (kb3, 100, .inl fli)), (p3, .inr (0, [.ref e0, z1, z2])), (e0, .inl (ke0, 8, .inl fo))]) [6, 7, 1, 2, 3, 4, 5] (by decide) rfl
    have hKc := hK.sub (tys' := [(kt0, .int), (kb1, .int), (kb3, .int), (ke0, .int)]) [3, 0, 1, 2] rfl
    have hFc := va_free (wc := [(p4, .inr (6, [.ref t0, .ref t1, .ref t2, t8, t9])), (t0, .inl (kt0, 10, .inl fr)), (p1, .inr (1, [w0, .ref b1, w2, .ref b3, w4, w5, .int (nI cn), .int bb])), (b1, .inl (kb1, 10, .inl fle)), (b3, .inl (kb3, 100, .inl fli)), (p3, .inr (0, [.ref e0, z1, z2])), (e0, .inl (ke0, 8, .inl fo))]) hD hS hA [6, 7, 1, 2, 3, 4, 5] rfl
    refine va_callv (va_runV (As := [.ref p1, .ref p3]) (rest := []) ⟨hx, hb, hml, hown, hts⟩ (c_fill l dC dI s.heap.size p4 t0 (.ref t1) (.ref t2) (t8) (t9) kt0 fr p1 (w0) b1 (w2) b3 (w4) (w5) cn bb kb1 fle kb3 fli p3 e0 (z1) (z2) ke0 fo hc hle hlk) (cwV 2 hts (gV mw_3_6 mw_3_7 mw_3_8 mw_1_7 mw_3_9) rfl rfl rfl (by decide +kernel) ⟨Nat.le_of_ble_eq_true rfl, Nat.le_of_ble_eq_true rfl⟩) ⟨pcW_blind, va_recv hKc hPc (ci := 6) (q0 := 0) rfl rfl, pcW_at hPc hKc hDc hN⟩ rfl rfl hl.1 rfl (lv_room (Nat.le_of_ble_eq_true rfl)) dX8_column_26 ⟨Nat.le_of_ble_eq_true rfl, Nat.le_of_ble_eq_true rfl⟩) hS (fun q _ h => hFc q h) hFc (fun u t H1 locs ht hvm hw_3 hB hz1 hk1 hS => ?_)
    obtain ⟨f_4, p_5, hP1, hK1, hD1⟩ := hB
    rw [ht] at hP1
    have hK1 := va_K.moved hvm.symm hK1
    obtain ⟨hP, hD⟩ := va_join (wr := [(h0, .inr (7, [.ref p1, u1, .ref p3, u3, .ref p4, u5])), (t1, .inl (kt1, 8, .inl ft)), (t2, .inl (kt2, 8, .inl fcl))]) (w1 := [(p4, .inr (6, [.ref t0, .ref t1, .ref t2, t8, t9])), (t0, .inl (kt0, 10, .inl f_4)), (p1, .inr (1, [w0, .ref b1, w2, .ref b3, w4, w5, .int (nI cn), .int bb])), (b1, .inl (kb1, 10, .inl fle)), (b3, .inl (kb3, 100, .inl fli)), (p3, .inr (0, [.ref e0, z1, z2])), (e0, .inl (ke0, 8, .inl fo))]) hP hD [6, 7, 1, 2, 3, 4, 5] [0, 8, 9] rfl rfl (by decide) (by decide) hk1 hFc hP1 hD1
    have hK := (hK.sub (tys' := [(kt1, .int), (kt2, .int)]) [4, 5] rfl).app hK1
    clear hz1 hk1 hPc hDc hKc hFc
    generalize H1 = H at hP hS ⊢
    have hK : va_K (dC, dI) vwCl [(kt1, .int), (kt2, .int), (kt0, .int), (kb1, .int), (kb3, .int), (ke0, .int)] s := hK
    have hP : va_P (dC, dI) vwCl [(h0, .inr (7, [.ref p1, u1, .ref p3, u3, .ref p4, u5])), (t1, .inl (kt1, 8, .inl ft)), (t2, .inl (kt2, 8, .inl fcl)), (p4, .inr (6, [.ref t0, .ref t1, .ref t2, t8, t9])), (t0, .inl (kt0, 10, .inl f_4)), (p1, .inr (1, [w0, .ref b1, w2, .ref b3, w4, w5, .int (nI cn), .int bb])), (b1, .inl (kb1, 10, .inl fle)), (b3, .inl (kb3, 100, .inl fli)), (p3, .inr (0, [.ref e0, z1, z2])), (e0, .inl (ke0, 8, .inl fo))] H := hP
    have hD : va_D A [(h0, .inr (7, [.ref p1, u1, .ref p3, u3, .ref p4, u5])), (t1, .inl (kt1, 8, .inl ft)), (t2, .inl (kt2, 8, .inl fcl)), (p4, .inr (6, [.ref t0, .ref t1, .ref t2, t8, t9])), (t0, .inl (kt0, 10, .inl f_4)), (p1, .inr (1, [w0, .ref b1, w2, .ref b3, w4, w5, .int (nI cn), .int bb])), (b1, .inl (kb1, 10, .inl fle)), (b3, .inl (kb3, 100, .inl fli)), (p3, .inr (0, [.ref e0, z1, z2])), (e0, .inl (ke0, 8, .inl fo))] := hD
    refine lv_aload_n hx hb dX8_column_29 rfl (lv_at hl 0 rfl) ?_
    refine va_get (D := (dC, dI)) (ci := 7) (v := .ref p4) (C := RX8) (T := TX8) (N := 6) hx hb hts inB_8 hown hK hP 0 rfl rfl 4 (by decide) (hts _ mw_1_172) (fun _ h9 => h9) rfl dX8_column_30 ?_
    have hPc := hP.sub (ws' := [(p4, .inr (6, [.ref t0, .ref t1, .ref t2, t8, t9])), (t0, .inl (kt0, 10, .inl f_4)), (t1, .inl (kt1, 8, .inl ft)), (t2, .inl (kt2, 8, .inl fcl))]) [3, 4, 1, 2] rfl
    have hDc := hD.sub (ws' := [(p4, .inr (6, [.ref t0, .ref t1, .ref t2, t8, t9])), (t0, .inl (kt0, 10, .inl f_4)), (t1, .inl (kt1, 8, .inl ft)), (t2, .inl (kt2, 8, .inl fcl))]) [3, 4, 1, 2] (by decide) rfl
    have hKc := hK.sub (tys' := [(kt0, .int), (kt1, .int), (kt2, .int)]) [2, 0, 1] rfl
    have hFc := va_free (wc := [(p4, .inr (6, [.ref t0, .ref t1, .ref t2, t8, t9])), (t0, .inl (kt0, 10, .inl f_4)), (t1, .inl (kt1, 8, .inl ft)), (t2, .inl (kt2, 8, .inl fcl))]) hD hS hA [3, 4, 1, 2] rfl
    refine va_calli (va_runV (As := []) (rest := []) ⟨hx, hb, hml, hown, hts⟩ (c_spread l dC dI H.size p4 t0 t1 t2 (t8) (t9) kt0 f_4 kt1 ft kt2 fcl ) (cwV 0 hts (gV mw_3_17 mw_3_18 mw_3_19 mw_1_7 mw_3_20) rfl rfl rfl (by decide +kernel) ⟨Nat.le_of_ble_eq_true rfl, Nat.le_of_ble_eq_true rfl⟩) ⟨pcW_blind, va_recv hKc hPc (ci := 6) (q0 := 0) rfl rfl, pcW_at hPc hKc hDc hN⟩ rfl rfl hl.1 rfl (lv_room (Nat.le_of_ble_eq_true rfl)) dX8_column_33 ⟨Nat.le_of_ble_eq_true rfl, Nat.le_of_ble_eq_true rfl⟩) hS (fun q _ h => hFc q h) hFc (fun r_6 u t H1 locs ht hvm hw_6 hB hz1 hk1 hS => ?_)
    obtain ⟨f_7, f_8, p_9, hP1, hK1, hD1⟩ := hB
    rw [ht] at hP1
    have hK1 := va_K.moved hvm.symm hK1
    obtain ⟨hP, hD⟩ := va_join (wr := [(h0, .inr (7, [.ref p1, u1, .ref p3, u3, .ref p4, u5])), (p1, .inr (1, [w0, .ref b1, w2, .ref b3, w4, w5, .int (nI cn), .int bb])), (b1, .inl (kb1, 10, .inl fle)), (b3, .inl (kb3, 100, .inl fli)), (p3, .inr (0, [.ref e0, z1, z2])), (e0, .inl (ke0, 8, .inl fo))]) (w1 := [(p4, .inr (6, [.ref t0, .ref t1, .ref t2, t8, t9])), (t0, .inl (kt0, 10, .inl f_4)), (t1, .inl (kt1, 8, .inl f_7)), (t2, .inl (kt2, 8, .inl f_8))]) hP hD [3, 4, 1, 2] [0, 5, 6, 7, 8, 9] rfl rfl (by decide) (by decide) hk1 hFc hP1 hD1
    have hK := (hK.sub (tys' := [(kb1, .int), (kb3, .int), (ke0, .int)]) [3, 4, 5] rfl).app hK1
    clear hz1 hk1 hPc hDc hKc hFc
    generalize H1 = H at hP hS ⊢
    have hK : va_K (dC, dI) vwCl [(kb1, .int), (kb3, .int), (ke0, .int), (kt0, .int), (kt1, .int), (kt2, .int)] s := hK
    have hP : va_P (dC, dI) vwCl [(h0, .inr (7, [.ref p1, u1, .ref p3, u3, .ref p4, u5])), (p1, .inr (1, [w0, .ref b1, w2, .ref b3, w4, w5, .int (nI cn), .int bb])), (b1, .inl (kb1, 10, .inl fle)), (b3, .inl (kb3, 100, .inl fli)), (p3, .inr (0, [.ref e0, z1, z2])), (e0, .inl (ke0, 8, .inl fo)), (p4, .inr (6, [.ref t0, .ref t1, .ref t2, t8, t9])), (t0, .inl (kt0, 10, .inl f_4)), (t1, .inl (kt1, 8, .inl f_7)), (t2, .inl (kt2, 8, .inl f_8))] H := hP
    have hD : va_D A [(h0, .inr (7, [.ref p1, u1, .ref p3, u3, .ref p4, u5])), (p1, .inr (1, [w0, .ref b1, w2, .ref b3, w4, w5, .int (nI cn), .int bb])), (b1, .inl (kb1, 10, .inl fle)), (b3, .inl (kb3, 100, .inl fli)), (p3, .inr (0, [.ref e0, z1, z2])), (e0, .inl (ke0, 8, .inl fo)), (p4, .inr (6, [.ref t0, .ref t1, .ref t2, t8, t9])), (t0, .inl (kt0, 10, .inl f_4)), (t1, .inl (kt1, 8, .inl f_7)), (t2, .inl (kt2, 8, .inl f_8))] := hD
    obtain rfl : r_6 = nI (clN (UR f_4 10) (KR f_4 10)) := hw_6
    refine lv_istore_n (lv' := [(2, .int (nI (clN (UR f_4 10) (KR f_4 10)))), (0, .ref h0), (1, .int n1)]) hx hb dX8_column_36 rfl hl (by decide) rfl (fun ls hl => ?_)
    refine lv_iload_n hx hb dX8_column_37 rfl (lv_at hl 2 rfl) ?_
    refine hx_top (y := (-1)) (fx_sing (C := -1) (by decide) (by omega)) ?_
    refine lv_iconst (v := (-1)) hx hb dX8_column_38 (by decide) ?_
    refine lv_icmp_ne (tgt := 46) hx hb dX8_column_39 (by decide) (fun h => absurd h (by decide)) (fun _ => ?_)
    refine lv_iload_n hx hb dX8_column_42 rfl (lv_at hl 0 rfl) ?_
    refine lv_goto (tgt := 54) hx hb dX8_column_43 (by decide) ?_
    have hP9 := hP.sub (ws' := [(h0, .inr (7, [.ref p1, u1, .ref p3, u3, .ref p4, u5])), (p1, .inr (1, [w0, .ref b1, w2, .ref b3, w4, w5, .int (nI cn), .int bb])), (b1, .inl (kb1, 10, .inl fle)), (b3, .inl (kb3, 100, .inl fli)), (p3, .inr (0, [.ref e0, z1, z2])), (e0, .inl (ke0, 8, .inl fo)), (p4, .inr (6, [.ref t0, .ref t1, .ref t2, t8, t9])), (t0, .inl (kt0, 10, .inl f_4)), (t1, .inl (kt1, 8, .inl f_7)), (t2, .inl (kt2, 8, .inl f_8))]) [0, 1, 2, 3, 4, 5, 6, 7, 8, 9] rfl
    have hD9 := hD.sub (ws' := [(h0, .inr (7, [.ref p1, u1, .ref p3, u3, .ref p4, u5])), (p1, .inr (1, [w0, .ref b1, w2, .ref b3, w4, w5, .int (nI cn), .int bb])), (b1, .inl (kb1, 10, .inl fle)), (b3, .inl (kb3, 100, .inl fli)), (p3, .inr (0, [.ref e0, z1, z2])), (e0, .inl (ke0, 8, .inl fo)), (p4, .inr (6, [.ref t0, .ref t1, .ref t2, t8, t9])), (t0, .inl (kt0, 10, .inl f_4)), (t1, .inl (kt1, 8, .inl f_7)), (t2, .inl (kt2, 8, .inl f_8))]) [0, 1, 2, 3, 4, 5, 6, 7, 8, 9] (by decide) rfl
    have hK9 := hK.sub (tys' := [(kb1, .int), (kb3, .int), (ke0, .int), (kt0, .int), (kt1, .int), (kt2, .int)]) [0, 1, 2, 3, 4, 5] rfl
    exact W.iret (v := (nI (clN (UR f_4 10) (KR f_4 10)))) hx hb hr (fun t ht hW => ⟨⟨(nI (clN (UR f_4 10) (KR f_4 10))), (), rfl, (by unfold F_col; rw [if_pos (by omega)]; exact congrArg nI (cl_row p_5).1), f_4, f_7, f_8, by rw [ht]; exact hP9, va_K.moved hW.alike hK9, hD9⟩, hS.F ht⟩) hS.2.2 dX8_column_54
  · have b_2 := gn_eq (X := (Int32.toInt n1)) (C := (-1)) rfl (by decide) c_1
    refine lv_iload_n hx hb dX8_column_5 rfl (lv_at hl 1 rfl) ?_
    have hPc := hP.sub (ws' := []) [] rfl
    have hDc := hD.sub (ws' := []) [] (by decide) rfl
    have hKc := hK.sub (tys' := []) [] rfl
    refine va_calli (va_runS (As := [.int n1]) (rest := []) ⟨hx, hb, hml, hown, hts⟩ (c_isName l dC dI s.heap.size n1 ) (va_cwS 1 hts (gS mw_2_97 mw_2_98 mw_1_1 mw_2_99) rfl rfl rfl (by decide +kernel) ⟨Nat.le_of_ble_eq_true rfl, Nat.le_of_ble_eq_true rfl⟩) ⟨pcW_blind, pcW_at hPc hKc hDc hN⟩ rfl rfl hl.1 rfl (lv_room (Nat.le_of_ble_eq_true rfl)) dX8_column_6 ⟨Nat.le_of_ble_eq_true rfl, Nat.le_of_ble_eq_true rfl⟩) hS (fun q h1 h2 => absurd h2 (Nat.not_le.mpr h1)) (fun q h => hA q (Nat.le_trans hS.1 h)) (fun r_10 u t H1 locs ht hvm hw_10 hB hz1 hk1 hS => ?_)
    have hP := keepP hP hk1
    clear hz1 hk1 hB ht hvm hPc hDc hKc
    generalize H1 = H at hP hS ⊢
    rcases fx_bool hw_10 with ⟨rfl, b_11⟩ | ⟨rfl, b_11⟩
    · skip
      refine lv_if_ne (tgt := 14) hx hb dX8_column_9 (by decide) (fun _ => ?_) (fun h => absurd h (by decide))
      refine lv_aload_n hx hb dX8_column_14 rfl (lv_at hl 0 rfl) ?_
      refine va_get (D := (dC, dI)) (ci := 7) (v := .ref p4) (C := RX8) (T := TX8) (N := 6) hx hb hts inB_8 hown hK hP 0 rfl rfl 4 (by decide) (hts _ mw_1_172) (fun _ h9 => h9) rfl dX8_column_15 ?_
      refine lv_aload_n hx hb dX8_column_18 rfl (lv_at hl 0 rfl) ?_
      refine va_get (D := (dC, dI)) (ci := 7) (v := .ref p1) (C := RX8) (T := TX8) (N := 6) hx hb hts inB_8 hown hK hP 0 rfl rfl 0 (by decide) (hts _ mw_1_168) (fun _ h9 => h9) rfl dX8_column_19 ?_
      refine lv_aload_n hx hb dX8_column_22 rfl (lv_at hl 0 rfl) ?_
      refine va_get (D := (dC, dI)) (ci := 7) (v := .ref p3) (C := RX8) (T := TX8) (N := 6) hx hb hts inB_8 hown hK hP 0 rfl rfl 2 (by decide) (hts _ mw_1_170) (fun _ h9 => h9) rfl dX8_column_23 ?_
      have hPc := hP.sub (ws' := [(p4, .inr (6, [.ref t0, .ref t1, .ref t2, t8, t9])), (t0, .inl (kt0, 10, .inl fr)), (p1, .inr (1, [w0, .ref b1, w2, .ref b3, w4, w5, .int (nI cn), .int bb])), (b1, .inl (kb1, 10, .inl fle)), (b3, .inl (kb3, 100, .inl fli)), (p3, .inr (0, [.ref e0, z1, z2])), (e0, .inl (ke0, 8, .inl fo))]) [6, 7, 1, 2, 3, 4, 5] rfl
      have hDc := hD.sub (ws' := [(p4, .inr (6, [.ref t0, .ref t1, .ref t2, t8, t9])), (t0, .inl (kt0, 10, .inl fr)), (p1, .inr (1, [w0, .ref b1, w2, .ref b3, w4, w5, .int (nI cn), .int bb])), (b1, .inl (kb1, 10, .inl fle)), (b3, .inl (kb3, 100, .inl fli)), (p3, .inr (0, [.ref e0, z1, z2])), (e0, .inl (ke0, 8, .inl fo))]) [6, 7, 1, 2, 3, 4, 5] (by decide) rfl
      have hKc := hK.sub (tys' := [(kt0, .int), (kb1, .int), (kb3, .int), (ke0, .int)]) [3, 0, 1, 2] rfl
      have hFc := va_free (wc := [(p4, .inr (6, [.ref t0, .ref t1, .ref t2, t8, t9])), (t0, .inl (kt0, 10, .inl fr)), (p1, .inr (1, [w0, .ref b1, w2, .ref b3, w4, w5, .int (nI cn), .int bb])), (b1, .inl (kb1, 10, .inl fle)), (b3, .inl (kb3, 100, .inl fli)), (p3, .inr (0, [.ref e0, z1, z2])), (e0, .inl (ke0, 8, .inl fo))]) hD hS hA [6, 7, 1, 2, 3, 4, 5] rfl
      refine va_callv (va_runV (As := [.ref p1, .ref p3]) (rest := []) ⟨hx, hb, hml, hown, hts⟩ (c_fill l dC dI H.size p4 t0 (.ref t1) (.ref t2) (t8) (t9) kt0 fr p1 (w0) b1 (w2) b3 (w4) (w5) cn bb kb1 fle kb3 fli p3 e0 (z1) (z2) ke0 fo hc hle hlk) (cwV 2 hts (gV mw_3_6 mw_3_7 mw_3_8 mw_1_7 mw_3_9) rfl rfl rfl (by decide +kernel) ⟨Nat.le_of_ble_eq_true rfl, Nat.le_of_ble_eq_true rfl⟩) ⟨pcW_blind, va_recv hKc hPc (ci := 6) (q0 := 0) rfl rfl, pcW_at hPc hKc hDc hN⟩ rfl rfl hl.1 rfl (lv_room (Nat.le_of_ble_eq_true rfl)) dX8_column_26 ⟨Nat.le_of_ble_eq_true rfl, Nat.le_of_ble_eq_true rfl⟩) hS (fun q _ h => hFc q h) hFc (fun u t H1 locs ht hvm hw_12 hB hz1 hk1 hS => ?_)
      obtain ⟨f_13, p_14, hP1, hK1, hD1⟩ := hB
      rw [ht] at hP1
      have hK1 := va_K.moved hvm.symm hK1
      obtain ⟨hP, hD⟩ := va_join (wr := [(h0, .inr (7, [.ref p1, u1, .ref p3, u3, .ref p4, u5])), (t1, .inl (kt1, 8, .inl ft)), (t2, .inl (kt2, 8, .inl fcl))]) (w1 := [(p4, .inr (6, [.ref t0, .ref t1, .ref t2, t8, t9])), (t0, .inl (kt0, 10, .inl f_13)), (p1, .inr (1, [w0, .ref b1, w2, .ref b3, w4, w5, .int (nI cn), .int bb])), (b1, .inl (kb1, 10, .inl fle)), (b3, .inl (kb3, 100, .inl fli)), (p3, .inr (0, [.ref e0, z1, z2])), (e0, .inl (ke0, 8, .inl fo))]) hP hD [6, 7, 1, 2, 3, 4, 5] [0, 8, 9] rfl rfl (by decide) (by decide) hk1 hFc hP1 hD1
      have hK := (hK.sub (tys' := [(kt1, .int), (kt2, .int)]) [4, 5] rfl).app hK1
      clear hz1 hk1 hPc hDc hKc hFc
      generalize H1 = H at hP hS ⊢
      have hK : va_K (dC, dI) vwCl [(kt1, .int), (kt2, .int), (kt0, .int), (kb1, .int), (kb3, .int), (ke0, .int)] s := hK
      have hP : va_P (dC, dI) vwCl [(h0, .inr (7, [.ref p1, u1, .ref p3, u3, .ref p4, u5])), (t1, .inl (kt1, 8, .inl ft)), (t2, .inl (kt2, 8, .inl fcl)), (p4, .inr (6, [.ref t0, .ref t1, .ref t2, t8, t9])), (t0, .inl (kt0, 10, .inl f_13)), (p1, .inr (1, [w0, .ref b1, w2, .ref b3, w4, w5, .int (nI cn), .int bb])), (b1, .inl (kb1, 10, .inl fle)), (b3, .inl (kb3, 100, .inl fli)), (p3, .inr (0, [.ref e0, z1, z2])), (e0, .inl (ke0, 8, .inl fo))] H := hP
      have hD : va_D A [(h0, .inr (7, [.ref p1, u1, .ref p3, u3, .ref p4, u5])), (t1, .inl (kt1, 8, .inl ft)), (t2, .inl (kt2, 8, .inl fcl)), (p4, .inr (6, [.ref t0, .ref t1, .ref t2, t8, t9])), (t0, .inl (kt0, 10, .inl f_13)), (p1, .inr (1, [w0, .ref b1, w2, .ref b3, w4, w5, .int (nI cn), .int bb])), (b1, .inl (kb1, 10, .inl fle)), (b3, .inl (kb3, 100, .inl fli)), (p3, .inr (0, [.ref e0, z1, z2])), (e0, .inl (ke0, 8, .inl fo))] := hD
      refine lv_aload_n hx hb dX8_column_29 rfl (lv_at hl 0 rfl) ?_
      refine va_get (D := (dC, dI)) (ci := 7) (v := .ref p4) (C := RX8) (T := TX8) (N := 6) hx hb hts inB_8 hown hK hP 0 rfl rfl 4 (by decide) (hts _ mw_1_172) (fun _ h9 => h9) rfl dX8_column_30 ?_
      have hPc := hP.sub (ws' := [(p4, .inr (6, [.ref t0, .ref t1, .ref t2, t8, t9])), (t0, .inl (kt0, 10, .inl f_13)), (t1, .inl (kt1, 8, .inl ft)), (t2, .inl (kt2, 8, .inl fcl))]) [3, 4, 1, 2] rfl
      have hDc := hD.sub (ws' := [(p4, .inr (6, [.ref t0, .ref t1, .ref t2, t8, t9])), (t0, .inl (kt0, 10, .inl f_13)), (t1, .inl (kt1, 8, .inl ft)), (t2, .inl (kt2, 8, .inl fcl))]) [3, 4, 1, 2] (by decide) rfl
      have hKc := hK.sub (tys' := [(kt0, .int), (kt1, .int), (kt2, .int)]) [2, 0, 1] rfl
      have hFc := va_free (wc := [(p4, .inr (6, [.ref t0, .ref t1, .ref t2, t8, t9])), (t0, .inl (kt0, 10, .inl f_13)), (t1, .inl (kt1, 8, .inl ft)), (t2, .inl (kt2, 8, .inl fcl))]) hD hS hA [3, 4, 1, 2] rfl
      refine va_calli (va_runV (As := []) (rest := []) ⟨hx, hb, hml, hown, hts⟩ (c_spread l dC dI H.size p4 t0 t1 t2 (t8) (t9) kt0 f_13 kt1 ft kt2 fcl ) (cwV 0 hts (gV mw_3_17 mw_3_18 mw_3_19 mw_1_7 mw_3_20) rfl rfl rfl (by decide +kernel) ⟨Nat.le_of_ble_eq_true rfl, Nat.le_of_ble_eq_true rfl⟩) ⟨pcW_blind, va_recv hKc hPc (ci := 6) (q0 := 0) rfl rfl, pcW_at hPc hKc hDc hN⟩ rfl rfl hl.1 rfl (lv_room (Nat.le_of_ble_eq_true rfl)) dX8_column_33 ⟨Nat.le_of_ble_eq_true rfl, Nat.le_of_ble_eq_true rfl⟩) hS (fun q _ h => hFc q h) hFc (fun r_15 u t H1 locs ht hvm hw_15 hB hz1 hk1 hS => ?_)
      obtain ⟨f_16, f_17, p_18, hP1, hK1, hD1⟩ := hB
      rw [ht] at hP1
      have hK1 := va_K.moved hvm.symm hK1
      obtain ⟨hP, hD⟩ := va_join (wr := [(h0, .inr (7, [.ref p1, u1, .ref p3, u3, .ref p4, u5])), (p1, .inr (1, [w0, .ref b1, w2, .ref b3, w4, w5, .int (nI cn), .int bb])), (b1, .inl (kb1, 10, .inl fle)), (b3, .inl (kb3, 100, .inl fli)), (p3, .inr (0, [.ref e0, z1, z2])), (e0, .inl (ke0, 8, .inl fo))]) (w1 := [(p4, .inr (6, [.ref t0, .ref t1, .ref t2, t8, t9])), (t0, .inl (kt0, 10, .inl f_13)), (t1, .inl (kt1, 8, .inl f_16)), (t2, .inl (kt2, 8, .inl f_17))]) hP hD [3, 4, 1, 2] [0, 5, 6, 7, 8, 9] rfl rfl (by decide) (by decide) hk1 hFc hP1 hD1
      have hK := (hK.sub (tys' := [(kb1, .int), (kb3, .int), (ke0, .int)]) [3, 4, 5] rfl).app hK1
      clear hz1 hk1 hPc hDc hKc hFc
      generalize H1 = H at hP hS ⊢
      have hK : va_K (dC, dI) vwCl [(kb1, .int), (kb3, .int), (ke0, .int), (kt0, .int), (kt1, .int), (kt2, .int)] s := hK
      have hP : va_P (dC, dI) vwCl [(h0, .inr (7, [.ref p1, u1, .ref p3, u3, .ref p4, u5])), (p1, .inr (1, [w0, .ref b1, w2, .ref b3, w4, w5, .int (nI cn), .int bb])), (b1, .inl (kb1, 10, .inl fle)), (b3, .inl (kb3, 100, .inl fli)), (p3, .inr (0, [.ref e0, z1, z2])), (e0, .inl (ke0, 8, .inl fo)), (p4, .inr (6, [.ref t0, .ref t1, .ref t2, t8, t9])), (t0, .inl (kt0, 10, .inl f_13)), (t1, .inl (kt1, 8, .inl f_16)), (t2, .inl (kt2, 8, .inl f_17))] H := hP
      have hD : va_D A [(h0, .inr (7, [.ref p1, u1, .ref p3, u3, .ref p4, u5])), (p1, .inr (1, [w0, .ref b1, w2, .ref b3, w4, w5, .int (nI cn), .int bb])), (b1, .inl (kb1, 10, .inl fle)), (b3, .inl (kb3, 100, .inl fli)), (p3, .inr (0, [.ref e0, z1, z2])), (e0, .inl (ke0, 8, .inl fo)), (p4, .inr (6, [.ref t0, .ref t1, .ref t2, t8, t9])), (t0, .inl (kt0, 10, .inl f_13)), (t1, .inl (kt1, 8, .inl f_16)), (t2, .inl (kt2, 8, .inl f_17))] := hD
      obtain rfl : r_15 = nI (clN (UR f_13 10) (KR f_13 10)) := hw_15
      refine lv_istore_n (lv' := [(2, .int (nI (clN (UR f_13 10) (KR f_13 10)))), (0, .ref h0), (1, .int n1)]) hx hb dX8_column_36 rfl hl (by decide) rfl (fun ls hl => ?_)
      refine lv_iload_n hx hb dX8_column_37 rfl (lv_at hl 2 rfl) ?_
      refine lv_iconst (v := (-1)) hx hb dX8_column_38 (by decide) ?_
      refine lv_icmp_ne (tgt := 46) hx hb dX8_column_39 (by decide) (fun c_19 => ?_) (fun h => absurd (gn_ne (X := (Int32.toInt n1)) (C := (-1)) rfl (by decide) h) (by omega))
      have b_20 := gx_ne (X := (Int32.toInt n1)) (C := (-1)) rfl (by decide) c_19
      obtain ⟨j_21, tj_21, ej_21⟩ := fx_nat (x := n1) (by omega)
      subst ej_21
      have yj_21 : Int32.toInt (nI j_21) = (j_21 : Int) := nI_toInt tj_21
      refine lv_aload_n hx hb dX8_column_46 rfl (lv_at hl 1 rfl) ?_
      refine va_get (D := (dC, dI)) (ci := 7) (v := .ref p4) (C := RX8) (T := TX8) (N := 6) hx hb hts inB_8 hown hK hP 0 rfl rfl 4 (by decide) (hts _ mw_1_172) (fun _ h9 => h9) rfl dX8_column_47 ?_
      refine lv_iload_n hx hb dX8_column_50 rfl (lv_at hl 2 rfl) ?_
      have hPc := hP.sub (ws' := [(p4, .inr (6, [.ref t0, .ref t1, .ref t2, t8, t9])), (t2, .inl (kt2, 8, .inl f_17))]) [6, 9] rfl
      have hDc := hD.sub (ws' := [(p4, .inr (6, [.ref t0, .ref t1, .ref t2, t8, t9])), (t2, .inl (kt2, 8, .inl f_17))]) [6, 9] (by decide) rfl
      have hKc := hK.sub (tys' := [(kt2, .int)]) [5] rfl
      refine va_calli (va_runV (As := [.int (nI j_21)]) (rest := []) ⟨hx, hb, hml, hown, hts⟩ (c_colOf l dC dI H.size p4 (.ref t0) (.ref t1) t2 (t8) (t9) kt2 f_17 j_21 (by omega)) (cwV 1 hts (gV mw_3_35 mw_3_36 mw_3_37 mw_1_7 mw_3_38) rfl rfl rfl (by decide +kernel) ⟨Nat.le_of_ble_eq_true rfl, Nat.le_of_ble_eq_true rfl⟩) ⟨pcW_blind, va_recv hKc hPc (ci := 6) (q0 := 0) rfl rfl, pcW_at hPc hKc hDc hN⟩ rfl rfl hl.1 rfl (lv_room (Nat.le_of_ble_eq_true rfl)) dX8_column_51 ⟨Nat.le_of_ble_eq_true rfl, Nat.le_of_ble_eq_true rfl⟩) hS (fun q h1 h2 => absurd h2 (Nat.not_le.mpr h1)) (fun q h => hA q (Nat.le_trans hS.1 h)) (fun r_22 u t H1 locs ht hvm hw_22 hB hz1 hk1 hS => ?_)
      have hP := keepP hP hk1
      clear hz1 hk1 hB ht hvm hPc hDc hKc
      generalize H1 = H at hP hS ⊢
      obtain rfl : r_22 = (f_17 j_21) := hw_22
      have hP9 := hP.sub (ws' := [(h0, .inr (7, [.ref p1, u1, .ref p3, u3, .ref p4, u5])), (p1, .inr (1, [w0, .ref b1, w2, .ref b3, w4, w5, .int (nI cn), .int bb])), (b1, .inl (kb1, 10, .inl fle)), (b3, .inl (kb3, 100, .inl fli)), (p3, .inr (0, [.ref e0, z1, z2])), (e0, .inl (ke0, 8, .inl fo)), (p4, .inr (6, [.ref t0, .ref t1, .ref t2, t8, t9])), (t0, .inl (kt0, 10, .inl f_13)), (t1, .inl (kt1, 8, .inl f_16)), (t2, .inl (kt2, 8, .inl f_17))]) [0, 1, 2, 3, 4, 5, 6, 7, 8, 9] rfl
      have hD9 := hD.sub (ws' := [(h0, .inr (7, [.ref p1, u1, .ref p3, u3, .ref p4, u5])), (p1, .inr (1, [w0, .ref b1, w2, .ref b3, w4, w5, .int (nI cn), .int bb])), (b1, .inl (kb1, 10, .inl fle)), (b3, .inl (kb3, 100, .inl fli)), (p3, .inr (0, [.ref e0, z1, z2])), (e0, .inl (ke0, 8, .inl fo)), (p4, .inr (6, [.ref t0, .ref t1, .ref t2, t8, t9])), (t0, .inl (kt0, 10, .inl f_13)), (t1, .inl (kt1, 8, .inl f_16)), (t2, .inl (kt2, 8, .inl f_17))]) [0, 1, 2, 3, 4, 5, 6, 7, 8, 9] (by decide) rfl
      have hK9 := hK.sub (tys' := [(kb1, .int), (kb3, .int), (ke0, .int), (kt0, .int), (kt1, .int), (kt2, .int)]) [0, 1, 2, 3, 4, 5] rfl
      exact W.iret (v := (f_17 j_21)) hx hb hr (fun t ht hW => ⟨⟨(f_17 j_21), (), rfl, (by unfold F_col; rw [if_neg (by omega), if_pos (by omega), nI_clamp (by omega), ← (cl_row p_14).2]; exact p_18 _ (by omega)), f_13, f_16, f_17, by rw [ht]; exact hP9, va_K.moved hW.alike hK9, hD9⟩, hS.F ht⟩) hS.2.2 dX8_column_54
    · skip
      refine lv_if_ne (tgt := 14) hx hb dX8_column_9 (by decide) (fun h => absurd h (by decide)) (fun _ => ?_)
      refine lv_iconst (v := (-1)) hx hb dX8_column_12 (by decide) ?_
      have hP9 := hP.sub (ws' := [(h0, .inr (7, [.ref p1, u1, .ref p3, u3, .ref p4, u5])), (p1, .inr (1, [w0, .ref b1, w2, .ref b3, w4, w5, .int (nI cn), .int bb])), (b1, .inl (kb1, 10, .inl fle)), (b3, .inl (kb3, 100, .inl fli)), (p3, .inr (0, [.ref e0, z1, z2])), (e0, .inl (ke0, 8, .inl fo)), (p4, .inr (6, [.ref t0, .ref t1, .ref t2, t8, t9])), (t0, .inl (kt0, 10, .inl fr)), (t1, .inl (kt1, 8, .inl ft)), (t2, .inl (kt2, 8, .inl fcl))]) [0, 1, 2, 3, 4, 5, 6, 7, 8, 9] rfl
      have hD9 := hD.sub (ws' := [(h0, .inr (7, [.ref p1, u1, .ref p3, u3, .ref p4, u5])), (p1, .inr (1, [w0, .ref b1, w2, .ref b3, w4, w5, .int (nI cn), .int bb])), (b1, .inl (kb1, 10, .inl fle)), (b3, .inl (kb3, 100, .inl fli)), (p3, .inr (0, [.ref e0, z1, z2])), (e0, .inl (ke0, 8, .inl fo)), (p4, .inr (6, [.ref t0, .ref t1, .ref t2, t8, t9])), (t0, .inl (kt0, 10, .inl fr)), (t1, .inl (kt1, 8, .inl ft)), (t2, .inl (kt2, 8, .inl fcl))]) [0, 1, 2, 3, 4, 5, 6, 7, 8, 9] (by decide) rfl
      have hK9 := hK.sub (tys' := [(kb1, .int), (kb3, .int), (ke0, .int), (kt0, .int), (kt1, .int), (kt2, .int)]) [0, 1, 2, 3, 4, 5] rfl
      exact W.iret (v := (-1)) hx hb hr (fun t ht hW => ⟨⟨(-1), (), rfl, (by unfold F_col; rw [if_neg (by omega), if_neg (by omega)]), fr, ft, fcl, by rw [ht]; exact hP9, va_K.moved hW.alike hK9, hD9⟩, hS.F ht⟩) hS.2.2 dX8_column_13
set_option maxHeartbeats 4000000 in
set_option maxRecDepth 100000 in
theorem x_packed (l : Launch) (dC : Nat → ClassId) (dI : Nat → Nat → Nat) (sz : Nat) (h0 : Nat) (p1 : Nat) (u1 : Value) (p3 : Nat) (u3 : Value) (p4 : Nat) (u5 : Value) (w0 : Value) (b1 : Nat) (w2 : Value) (b3 : Nat) (w4 : Value) (w5 : Value) (cn : Nat) (bb : Int32) (kb1 : ClassId) (fle : Nat → Int32) (kb3 : ClassId) (fli : Nat → Int32) (e0 : Nat) (z1 : Value) (z2 : Value) (ke0 : ClassId) (fo : Nat → Int32) (t0 : Nat) (t8 : Value) (t9 : Value) (t3 : Nat) (t4 : Nat) (kt0 : ClassId) (fr : Nat → Int32) (kt3 : ClassId) (fp : Nat → Int32) (kt4 : ClassId) (fs : Nat → Int32) (n1 : Int32) (hc : cn ≤ 10) (hle : BdOk 10 10 fle) (hlk : LnOk fle fli cn) : Met l yX8_packed (wq yX8_packed cX8_packed 3 (some .int)) ({ frames := 5, cells := 0, slots := 0, locals := 114 }) (va_Pc [.ref h0, .int n1] (pcW dC dI [(kb1, .int), (kb3, .int), (ke0, .int), (kt0, .int), (kt3, .int), (kt4, .int)] [(h0, .inr (7, [.ref p1, u1, .ref p3, u3, .ref p4, u5])), (p1, .inr (1, [w0, .ref b1, w2, .ref b3, w4, w5, .int (nI cn), .int bb])), (b1, .inl (kb1, 10, .inl fle)), (b3, .inl (kb3, 100, .inl fli)), (p3, .inr (0, [.ref e0, z1, z2])), (e0, .inl (ke0, 8, .inl fo)), (p4, .inr (6, [.ref t0, t8, t9, .ref t3, .ref t4])), (t0, .inl (kt0, 10, .inl fr)), (t3, .inl (kt3, 10, .inl fp)), (t4, .inl (kt4, 100, .inl fs))] sz)) (va_Qi (fun (r : Int32) (_ : Unit) => r = F_packed cn (pkl (rowC fle fli fo cn bb) 10) (pkp (rowC fle fli fo cn bb) 10) n1) (fun _ t => ∃ (fr2 : Nat → Int32) (fp2 : Nat → Int32) (fs2 : Nat → Int32), va_P (dC, dI) vwCl [(h0, .inr (7, [.ref p1, u1, .ref p3, u3, .ref p4, u5])), (p1, .inr (1, [w0, .ref b1, w2, .ref b3, w4, w5, .int (nI cn), .int bb])), (b1, .inl (kb1, 10, .inl fle)), (b3, .inl (kb3, 100, .inl fli)), (p3, .inr (0, [.ref e0, z1, z2])), (e0, .inl (ke0, 8, .inl fo)), (p4, .inr (6, [.ref t0, t8, t9, .ref t3, .ref t4])), (t0, .inl (kt0, 10, .inl fr2)), (t3, .inl (kt3, 10, .inl fp2)), (t4, .inl (kt4, 100, .inl fs2))] t.heap ∧ va_K (dC, dI) vwCl [(kb1, .int), (kb3, .int), (ke0, .int), (kt0, .int), (kt3, .int), (kt4, .int)] t ∧ va_D (va_A [(h0, .inr (7, [.ref p1, u1, .ref p3, u3, .ref p4, u5])), (p1, .inr (1, [w0, .ref b1, w2, .ref b3, w4, w5, .int (nI cn), .int bb])), (b1, .inl (kb1, 10, .inl fle)), (b3, .inl (kb3, 100, .inl fli)), (p3, .inr (0, [.ref e0, z1, z2])), (e0, .inl (ke0, 8, .inl fo)), (p4, .inr (6, [.ref t0, t8, t9, .ref t3, .ref t4])), (t0, .inl (kt0, 10, .inl fr)), (t3, .inl (kt3, 10, .inl fp)), (t4, .inl (kt4, 100, .inl fs))] sz) [(h0, .inr (7, [.ref p1, u1, .ref p3, u3, .ref p4, u5])), (p1, .inr (1, [w0, .ref b1, w2, .ref b3, w4, w5, .int (nI cn), .int bb])), (b1, .inl (kb1, 10, .inl fle)), (b3, .inl (kb3, 100, .inl fli)), (p3, .inr (0, [.ref e0, z1, z2])), (e0, .inl (ke0, 8, .inl fo)), (p4, .inr (6, [.ref t0, t8, t9, .ref t3, .ref t4])), (t0, .inl (kt0, 10, .inl fr2)), (t3, .inl (kt3, 10, .inl fp2)), (t4, .inl (kt4, 100, .inl fs2))]) (va_A [(h0, .inr (7, [.ref p1, u1, .ref p3, u3, .ref p4, u5])), (p1, .inr (1, [w0, .ref b1, w2, .ref b3, w4, w5, .int (nI cn), .int bb])), (b1, .inl (kb1, 10, .inl fle)), (b3, .inl (kb3, 100, .inl fli)), (p3, .inr (0, [.ref e0, z1, z2])), (e0, .inl (ke0, 8, .inl fo)), (p4, .inr (6, [.ref t0, t8, t9, .ref t3, .ref t4])), (t0, .inl (kt0, 10, .inl fr)), (t3, .inl (kt3, 10, .inl fp)), (t4, .inl (kt4, 100, .inl fs))] sz)) 0 0 (va_A [(h0, .inr (7, [.ref p1, u1, .ref p3, u3, .ref p4, u5])), (p1, .inr (1, [w0, .ref b1, w2, .ref b3, w4, w5, .int (nI cn), .int bb])), (b1, .inl (kb1, 10, .inl fle)), (b3, .inl (kb3, 100, .inl fli)), (p3, .inr (0, [.ref e0, z1, z2])), (e0, .inl (ke0, 8, .inl fo)), (p4, .inr (6, [.ref t0, t8, t9, .ref t3, .ref t4])), (t0, .inl (kt0, 10, .inl fr)), (t3, .inl (kt3, 10, .inl fp)), (t4, .inl (kt4, 100, .inl fs))] sz) := by
  refine Met.ofW (cc := cX8_packed) (maxL := 3) (ret := (some .int)) (by decide) rfl ?_
  intro p e s m args below meth c s₁ B hml hv
  obtain ⟨rfl, hsz, hN, hP, hK, hD0⟩ := hv
  have hx := B.exec
  have hb := B.bytes
  have hr := B.returns
  have hts0 := atoms_spec (ws := (wq yX8_packed cX8_packed 3 (some .int))) B.pre
  have hts : ∀ w ∈ BG, w.before _ s = true := fun w h => hts0 w (List.mem_cons_of_mem _ h)
  have hown : s.vm.findClass RX8 = some m.cls := findClass_of_methodNamed B.named
  have hlocks := B.notSynchronized
  subst hsz
  have hD := hD0.self (sz := s.heap.size)
  generalize hAe : va_A [(h0, .inr (7, [.ref p1, u1, .ref p3, u3, .ref p4, u5])), (p1, .inr (1, [w0, .ref b1, w2, .ref b3, w4, w5, .int (nI cn), .int bb])), (b1, .inl (kb1, 10, .inl fle)), (b3, .inl (kb3, 100, .inl fli)), (p3, .inr (0, [.ref e0, z1, z2])), (e0, .inl (ke0, 8, .inl fo)), (p4, .inr (6, [.ref t0, t8, t9, .ref t3, .ref t4])), (t0, .inl (kt0, 10, .inl fr)), (t3, .inl (kt3, 10, .inl fp)), (t4, .inl (kt4, 100, .inl fs))] s.heap.size = A at hD ⊢
  have hA : ∀ q : Nat, s.heap.size ≤ q → A q := fun q h => by rw [← hAe]; exact Or.inr h
  have hS : va_S A s.heap s.heap [] := va_S.rf
  clear hAe hD0
  have hP : va_P (dC, dI) vwCl [(h0, .inr (7, [.ref p1, u1, .ref p3, u3, .ref p4, u5])), (p1, .inr (1, [w0, .ref b1, w2, .ref b3, w4, w5, .int (nI cn), .int bb])), (b1, .inl (kb1, 10, .inl fle)), (b3, .inl (kb3, 100, .inl fli)), (p3, .inr (0, [.ref e0, z1, z2])), (e0, .inl (ke0, 8, .inl fo)), (p4, .inr (6, [.ref t0, t8, t9, .ref t3, .ref t4])), (t0, .inl (kt0, 10, .inl fr)), (t3, .inl (kt3, 10, .inl fp)), (t4, .inl (kt4, 100, .inl fs))] s.heap := hP
  have hl := lv_entry ([.ref h0, .int n1]) (n := 3) (Nat.le_of_ble_eq_true rfl)
  rw [lg_entry_eq]
  generalize (lg_sl ([.ref h0, .int n1]) ++ List.replicate (3 - (lg_sl ([.ref h0, .int n1])).length) Slot.unset).toArray = ls at hl ⊢
  have hl : lv_has ls 3 [(0, .ref h0), (1, .int n1)] := hl
  refine lv_iload_n hx hb dX8_packed_0 rfl (lv_at hl 1 rfl) ?_
  refine lv_iconst (v := (-1)) hx hb dX8_packed_1 (by decide) ?_
  refine lv_icmp_eq (tgt := 18) hx hb dX8_packed_2 (by decide) (fun c_1 => ?_) (fun c_1 => ?_)
  · have b_2 := gx_eq (X := (Int32.toInt n1)) (C := (-1)) rfl (by decide) c_1
    refine lv_aload_n hx hb dX8_packed_18 rfl (lv_at hl 0 rfl) ?_
    refine va_get (D := (dC, dI)) (ci := 7) (v := .ref p4) (C := RX8) (T := TX8) (N := 6) hx hb hts inB_8 hown hK hP 0 rfl rfl 4 (by decide) (hts _ mw_1_172) (fun _ h9 => h9) rfl dX8_packed_19 ?_
    refine lv_aload_n hx hb dX8_packed_22 rfl (lv_at hl 0 rfl) ?_
    refine va_get (D := (dC, dI)) (ci := 7) (v := .ref p1) (C := RX8) (T := TX8) (N := 6) hx hb hts inB_8 hown hK hP 0 rfl rfl 0 (by decide) (hts _ mw_1_168) (fun _ h9 => h9) rfl dX8_packed_23 ?_
    refine lv_aload_n hx hb dX8_packed_26 rfl (lv_at hl 0 rfl) ?_
    refine va_get (D := (dC, dI)) (ci := 7) (v := .ref p3) (C := RX8) (T := TX8) (N := 6) hx hb hts inB_8 hown hK hP 0 rfl rfl 2 (by decide) (hts _ mw_1_170) (fun _ h9 => h9) rfl dX8_packed_27 ?_
    have hPc := hP.sub (ws' := [(p4, .inr (6, [.ref t0, t8, t9, .ref t3, .ref t4])), (t0, .inl (kt0, 10, .inl fr)), (p1, .inr (1, [w0, .ref b1, w2, .ref b3, w4, w5, .int (nI cn), .int bb])), (b1, .inl (kb1, 10, .inl fle)), (b3, .inl (kb3, 100, .inl fli)), (p3, .inr (0, [.ref e0, z1, z2])), (e0, .inl (ke0, 8, .inl fo))]) [6, 7, 1, 2, 3, 4, 5] rfl
    have hDc := hD.sub (ws' := [(p4, .inr (6, [.ref t0, t8, t9, .ref t3, .ref t4])), (t0, .inl (kt0, 10, .inl fr)), (p1, .inr (1, [w0, .ref b1, w2, .ref b3, w4, w5, .int (nI cn), .int bb])), (b1, .inl (kb1, 10, .inl fle)), (b3, .inl (kb3, 100, .inl fli)), (p3, .inr (0, [.ref e0, z1, z2])), (e0, .inl (ke0, 8, .inl fo))]) [6, 7, 1, 2, 3, 4, 5] (by decide) rfl
    have hKc := hK.sub (tys' := [(kt0, .int), (kb1, .int), (kb3, .int), (ke0, .int)]) [3, 0, 1, 2] rfl
    have hFc := va_free (wc := [(p4, .inr (6, [.ref t0, t8, t9, .ref t3, .ref t4])), (t0, .inl (kt0, 10, .inl fr)), (p1, .inr (1, [w0, .ref b1, w2, .ref b3, w4, w5, .int (nI cn), .int bb])), (b1, .inl (kb1, 10, .inl fle)), (b3, .inl (kb3, 100, .inl fli)), (p3, .inr (0, [.ref e0, z1, z2])), (e0, .inl (ke0, 8, .inl fo))]) hD hS hA [6, 7, 1, 2, 3, 4, 5] rfl
    refine va_callv (va_runV (As := [.ref p1, .ref p3]) (rest := []) ⟨hx, hb, hml, hown, hts⟩ (c_fill l dC dI s.heap.size p4 t0 (t8) (t9) (.ref t3) (.ref t4) kt0 fr p1 (w0) b1 (w2) b3 (w4) (w5) cn bb kb1 fle kb3 fli p3 e0 (z1) (z2) ke0 fo hc hle hlk) (cwV 2 hts (gV mw_3_6 mw_3_7 mw_3_8 mw_1_7 mw_3_9) rfl rfl rfl (by decide +kernel) ⟨Nat.le_of_ble_eq_true rfl, Nat.le_of_ble_eq_true rfl⟩) ⟨pcW_blind, va_recv hKc hPc (ci := 6) (q0 := 0) rfl rfl, pcW_at hPc hKc hDc hN⟩ rfl rfl hl.1 rfl (lv_room (Nat.le_of_ble_eq_true rfl)) dX8_packed_30 ⟨Nat.le_of_ble_eq_true rfl, Nat.le_of_ble_eq_true rfl⟩) hS (fun q _ h => hFc q h) hFc (fun u t H1 locs ht hvm hw_3 hB hz1 hk1 hS => ?_)
    obtain ⟨f_4, p_5, hP1, hK1, hD1⟩ := hB
    rw [ht] at hP1
    have hK1 := va_K.moved hvm.symm hK1
    obtain ⟨hP, hD⟩ := va_join (wr := [(h0, .inr (7, [.ref p1, u1, .ref p3, u3, .ref p4, u5])), (t3, .inl (kt3, 10, .inl fp)), (t4, .inl (kt4, 100, .inl fs))]) (w1 := [(p4, .inr (6, [.ref t0, t8, t9, .ref t3, .ref t4])), (t0, .inl (kt0, 10, .inl f_4)), (p1, .inr (1, [w0, .ref b1, w2, .ref b3, w4, w5, .int (nI cn), .int bb])), (b1, .inl (kb1, 10, .inl fle)), (b3, .inl (kb3, 100, .inl fli)), (p3, .inr (0, [.ref e0, z1, z2])), (e0, .inl (ke0, 8, .inl fo))]) hP hD [6, 7, 1, 2, 3, 4, 5] [0, 8, 9] rfl rfl (by decide) (by decide) hk1 hFc hP1 hD1
    have hK := (hK.sub (tys' := [(kt3, .int), (kt4, .int)]) [4, 5] rfl).app hK1
    clear hz1 hk1 hPc hDc hKc hFc
    generalize H1 = H at hP hS ⊢
    have hK : va_K (dC, dI) vwCl [(kt3, .int), (kt4, .int), (kt0, .int), (kb1, .int), (kb3, .int), (ke0, .int)] s := hK
    have hP : va_P (dC, dI) vwCl [(h0, .inr (7, [.ref p1, u1, .ref p3, u3, .ref p4, u5])), (t3, .inl (kt3, 10, .inl fp)), (t4, .inl (kt4, 100, .inl fs)), (p4, .inr (6, [.ref t0, t8, t9, .ref t3, .ref t4])), (t0, .inl (kt0, 10, .inl f_4)), (p1, .inr (1, [w0, .ref b1, w2, .ref b3, w4, w5, .int (nI cn), .int bb])), (b1, .inl (kb1, 10, .inl fle)), (b3, .inl (kb3, 100, .inl fli)), (p3, .inr (0, [.ref e0, z1, z2])), (e0, .inl (ke0, 8, .inl fo))] H := hP
    have hD : va_D A [(h0, .inr (7, [.ref p1, u1, .ref p3, u3, .ref p4, u5])), (t3, .inl (kt3, 10, .inl fp)), (t4, .inl (kt4, 100, .inl fs)), (p4, .inr (6, [.ref t0, t8, t9, .ref t3, .ref t4])), (t0, .inl (kt0, 10, .inl f_4)), (p1, .inr (1, [w0, .ref b1, w2, .ref b3, w4, w5, .int (nI cn), .int bb])), (b1, .inl (kb1, 10, .inl fle)), (b3, .inl (kb3, 100, .inl fli)), (p3, .inr (0, [.ref e0, z1, z2])), (e0, .inl (ke0, 8, .inl fo))] := hD
    refine lv_aload_n hx hb dX8_packed_33 rfl (lv_at hl 0 rfl) ?_
    refine va_get (D := (dC, dI)) (ci := 7) (v := .ref p4) (C := RX8) (T := TX8) (N := 6) hx hb hts inB_8 hown hK hP 0 rfl rfl 4 (by decide) (hts _ mw_1_172) (fun _ h9 => h9) rfl dX8_packed_34 ?_
    have hPc := hP.sub (ws' := [(p4, .inr (6, [.ref t0, t8, t9, .ref t3, .ref t4])), (t0, .inl (kt0, 10, .inl f_4)), (t3, .inl (kt3, 10, .inl fp)), (t4, .inl (kt4, 100, .inl fs))]) [3, 4, 1, 2] rfl
    have hDc := hD.sub (ws' := [(p4, .inr (6, [.ref t0, t8, t9, .ref t3, .ref t4])), (t0, .inl (kt0, 10, .inl f_4)), (t3, .inl (kt3, 10, .inl fp)), (t4, .inl (kt4, 100, .inl fs))]) [3, 4, 1, 2] (by decide) rfl
    have hKc := hK.sub (tys' := [(kt0, .int), (kt3, .int), (kt4, .int)]) [2, 0, 1] rfl
    have hFc := va_free (wc := [(p4, .inr (6, [.ref t0, t8, t9, .ref t3, .ref t4])), (t0, .inl (kt0, 10, .inl f_4)), (t3, .inl (kt3, 10, .inl fp)), (t4, .inl (kt4, 100, .inl fs))]) hD hS hA [3, 4, 1, 2] rfl
    refine va_calli (va_runV (As := []) (rest := []) ⟨hx, hb, hml, hown, hts⟩ (c_push l dC dI H.size p4 t0 (t8) (t9) t3 t4 kt0 f_4 kt3 fp kt4 fs ) (cwV 0 hts (gV mw_3_44 mw_3_45 mw_3_46 mw_1_7 mw_3_47) rfl rfl rfl (by decide +kernel) ⟨Nat.le_of_ble_eq_true rfl, Nat.le_of_ble_eq_true rfl⟩) ⟨pcW_blind, va_recv hKc hPc (ci := 6) (q0 := 0) rfl rfl, pcW_at hPc hKc hDc hN⟩ rfl rfl hl.1 rfl (lv_room (Nat.le_of_ble_eq_true rfl)) dX8_packed_37 ⟨Nat.le_of_ble_eq_true rfl, Nat.le_of_ble_eq_true rfl⟩) hS (fun q _ h => hFc q h) hFc (fun r_6 u t H1 locs ht hvm hw_6 hB hz1 hk1 hS => ?_)
    obtain ⟨f_7, f_8, p_9, p_10, hP1, hK1, hD1⟩ := hB
    rw [ht] at hP1
    have hK1 := va_K.moved hvm.symm hK1
    obtain ⟨hP, hD⟩ := va_join (wr := [(h0, .inr (7, [.ref p1, u1, .ref p3, u3, .ref p4, u5])), (p1, .inr (1, [w0, .ref b1, w2, .ref b3, w4, w5, .int (nI cn), .int bb])), (b1, .inl (kb1, 10, .inl fle)), (b3, .inl (kb3, 100, .inl fli)), (p3, .inr (0, [.ref e0, z1, z2])), (e0, .inl (ke0, 8, .inl fo))]) (w1 := [(p4, .inr (6, [.ref t0, t8, t9, .ref t3, .ref t4])), (t0, .inl (kt0, 10, .inl f_4)), (t3, .inl (kt3, 10, .inl f_7)), (t4, .inl (kt4, 100, .inl f_8))]) hP hD [3, 4, 1, 2] [0, 5, 6, 7, 8, 9] rfl rfl (by decide) (by decide) hk1 hFc hP1 hD1
    have hK := (hK.sub (tys' := [(kb1, .int), (kb3, .int), (ke0, .int)]) [3, 4, 5] rfl).app hK1
    clear hz1 hk1 hPc hDc hKc hFc
    generalize H1 = H at hP hS ⊢
    have hK : va_K (dC, dI) vwCl [(kb1, .int), (kb3, .int), (ke0, .int), (kt0, .int), (kt3, .int), (kt4, .int)] s := hK
    have hP : va_P (dC, dI) vwCl [(h0, .inr (7, [.ref p1, u1, .ref p3, u3, .ref p4, u5])), (p1, .inr (1, [w0, .ref b1, w2, .ref b3, w4, w5, .int (nI cn), .int bb])), (b1, .inl (kb1, 10, .inl fle)), (b3, .inl (kb3, 100, .inl fli)), (p3, .inr (0, [.ref e0, z1, z2])), (e0, .inl (ke0, 8, .inl fo)), (p4, .inr (6, [.ref t0, t8, t9, .ref t3, .ref t4])), (t0, .inl (kt0, 10, .inl f_4)), (t3, .inl (kt3, 10, .inl f_7)), (t4, .inl (kt4, 100, .inl f_8))] H := hP
    have hD : va_D A [(h0, .inr (7, [.ref p1, u1, .ref p3, u3, .ref p4, u5])), (p1, .inr (1, [w0, .ref b1, w2, .ref b3, w4, w5, .int (nI cn), .int bb])), (b1, .inl (kb1, 10, .inl fle)), (b3, .inl (kb3, 100, .inl fli)), (p3, .inr (0, [.ref e0, z1, z2])), (e0, .inl (ke0, 8, .inl fo)), (p4, .inr (6, [.ref t0, t8, t9, .ref t3, .ref t4])), (t0, .inl (kt0, 10, .inl f_4)), (t3, .inl (kt3, 10, .inl f_7)), (t4, .inl (kt4, 100, .inl f_8))] := hD
    obtain rfl : r_6 = nI ((pkF (fiK fs 100) fp f_4 10).2.2) := hw_6
    have b_11 := (pq_le : (pkF (fiK fs 100) fp f_4 10).2.2 ≤ 100)
    refine lv_istore_n (lv' := [(2, .int (nI ((pkF (fiK fs 100) fp f_4 10).2.2))), (0, .ref h0), (1, .int n1)]) hx hb dX8_packed_40 rfl hl (by decide) rfl (fun ls hl => ?_)
    refine lv_iload_n hx hb dX8_packed_41 rfl (lv_at hl 2 rfl) ?_
    refine hx_top (y := (-1)) (fx_sing (C := -1) (by decide) (by omega)) ?_
    refine lv_iconst (v := (-1)) hx hb dX8_packed_42 (by decide) ?_
    refine lv_icmp_ne (tgt := 50) hx hb dX8_packed_43 (by decide) (fun h => absurd h (by decide)) (fun _ => ?_)
    refine lv_iload_n hx hb dX8_packed_46 rfl (lv_at hl 0 rfl) ?_
    refine lv_goto (tgt := 58) hx hb dX8_packed_47 (by decide) ?_
    have hP9 := hP.sub (ws' := [(h0, .inr (7, [.ref p1, u1, .ref p3, u3, .ref p4, u5])), (p1, .inr (1, [w0, .ref b1, w2, .ref b3, w4, w5, .int (nI cn), .int bb])), (b1, .inl (kb1, 10, .inl fle)), (b3, .inl (kb3, 100, .inl fli)), (p3, .inr (0, [.ref e0, z1, z2])), (e0, .inl (ke0, 8, .inl fo)), (p4, .inr (6, [.ref t0, t8, t9, .ref t3, .ref t4])), (t0, .inl (kt0, 10, .inl f_4)), (t3, .inl (kt3, 10, .inl f_7)), (t4, .inl (kt4, 100, .inl f_8))]) [0, 1, 2, 3, 4, 5, 6, 7, 8, 9] rfl
    have hD9 := hD.sub (ws' := [(h0, .inr (7, [.ref p1, u1, .ref p3, u3, .ref p4, u5])), (p1, .inr (1, [w0, .ref b1, w2, .ref b3, w4, w5, .int (nI cn), .int bb])), (b1, .inl (kb1, 10, .inl fle)), (b3, .inl (kb3, 100, .inl fli)), (p3, .inr (0, [.ref e0, z1, z2])), (e0, .inl (ke0, 8, .inl fo)), (p4, .inr (6, [.ref t0, t8, t9, .ref t3, .ref t4])), (t0, .inl (kt0, 10, .inl f_4)), (t3, .inl (kt3, 10, .inl f_7)), (t4, .inl (kt4, 100, .inl f_8))]) [0, 1, 2, 3, 4, 5, 6, 7, 8, 9] (by decide) rfl
    have hK9 := hK.sub (tys' := [(kb1, .int), (kb3, .int), (ke0, .int), (kt0, .int), (kt3, .int), (kt4, .int)]) [0, 1, 2, 3, 4, 5] rfl
    exact W.iret (v := (nI ((pkF (fiK fs 100) fp f_4 10).2.2))) hx hb hr (fun t ht hW => ⟨⟨(nI ((pkF (fiK fs 100) fp f_4 10).2.2)), (), rfl, (by unfold F_packed; rw [if_pos (by omega)]; exact congrArg nI (pk_std p_5).1), f_4, f_7, f_8, by rw [ht]; exact hP9, va_K.moved hW.alike hK9, hD9⟩, hS.F ht⟩) hS.2.2 dX8_packed_58
  · have b_2 := gn_eq (X := (Int32.toInt n1)) (C := (-1)) rfl (by decide) c_1
    refine lv_aload_n hx hb dX8_packed_5 rfl (lv_at hl 0 rfl) ?_
    refine va_get (D := (dC, dI)) (ci := 7) (v := .ref p1) (C := RX8) (T := TX8) (N := 6) hx hb hts inB_8 hown hK hP 0 rfl rfl 0 (by decide) (hts _ mw_1_168) (fun _ h9 => h9) rfl dX8_packed_6 ?_
    refine lv_iload_n hx hb dX8_packed_9 rfl (lv_at hl 1 rfl) ?_
    have hPc := hP.sub (ws' := [(p1, .inr (1, [w0, .ref b1, w2, .ref b3, w4, w5, .int (nI cn), .int bb]))]) [1] rfl
    have hDc := hD.sub (ws' := [(p1, .inr (1, [w0, .ref b1, w2, .ref b3, w4, w5, .int (nI cn), .int bb]))]) [1] (by decide) rfl
    have hKc := hK.sub (tys' := []) [] rfl
    refine va_calli (va_runV (As := [.int n1]) (rest := []) ⟨hx, hb, hml, hown, hts⟩ (c_knows l dC dI s.heap.size p1 (w0) (.ref b1) (w2) (.ref b3) (w4) (w5) cn (.int bb) n1 hc) (cwV 1 hts (gV mw_1_191 mw_1_192 mw_1_193 mw_1_2 mw_1_194) rfl rfl rfl (by decide +kernel) ⟨Nat.le_of_ble_eq_true rfl, Nat.le_of_ble_eq_true rfl⟩) ⟨pcW_blind, va_recv hKc hPc (ci := 1) (q0 := 0) rfl rfl, pcW_at hPc hKc hDc hN⟩ rfl rfl hl.1 rfl (lv_room (Nat.le_of_ble_eq_true rfl)) dX8_packed_10 ⟨Nat.le_of_ble_eq_true rfl, Nat.le_of_ble_eq_true rfl⟩) hS (fun q h1 h2 => absurd h2 (Nat.not_le.mpr h1)) (fun q h => hA q (Nat.le_trans hS.1 h)) (fun r_12 u t H1 locs ht hvm hw_12 hB hz1 hk1 hS => ?_)
    have hP := keepP hP hk1
    clear hz1 hk1 hB ht hvm hPc hDc hKc
    generalize H1 = H at hP hS ⊢
    rcases fx_bool hw_12 with ⟨rfl, b_13⟩ | ⟨rfl, b_13⟩
    · skip
      refine lv_if_ne (tgt := 18) hx hb dX8_packed_13 (by decide) (fun _ => ?_) (fun h => absurd h (by decide))
      refine lv_aload_n hx hb dX8_packed_18 rfl (lv_at hl 0 rfl) ?_
      refine va_get (D := (dC, dI)) (ci := 7) (v := .ref p4) (C := RX8) (T := TX8) (N := 6) hx hb hts inB_8 hown hK hP 0 rfl rfl 4 (by decide) (hts _ mw_1_172) (fun _ h9 => h9) rfl dX8_packed_19 ?_
      refine lv_aload_n hx hb dX8_packed_22 rfl (lv_at hl 0 rfl) ?_
      refine va_get (D := (dC, dI)) (ci := 7) (v := .ref p1) (C := RX8) (T := TX8) (N := 6) hx hb hts inB_8 hown hK hP 0 rfl rfl 0 (by decide) (hts _ mw_1_168) (fun _ h9 => h9) rfl dX8_packed_23 ?_
      refine lv_aload_n hx hb dX8_packed_26 rfl (lv_at hl 0 rfl) ?_
      refine va_get (D := (dC, dI)) (ci := 7) (v := .ref p3) (C := RX8) (T := TX8) (N := 6) hx hb hts inB_8 hown hK hP 0 rfl rfl 2 (by decide) (hts _ mw_1_170) (fun _ h9 => h9) rfl dX8_packed_27 ?_
      have hPc := hP.sub (ws' := [(p4, .inr (6, [.ref t0, t8, t9, .ref t3, .ref t4])), (t0, .inl (kt0, 10, .inl fr)), (p1, .inr (1, [w0, .ref b1, w2, .ref b3, w4, w5, .int (nI cn), .int bb])), (b1, .inl (kb1, 10, .inl fle)), (b3, .inl (kb3, 100, .inl fli)), (p3, .inr (0, [.ref e0, z1, z2])), (e0, .inl (ke0, 8, .inl fo))]) [6, 7, 1, 2, 3, 4, 5] rfl
      have hDc := hD.sub (ws' := [(p4, .inr (6, [.ref t0, t8, t9, .ref t3, .ref t4])), (t0, .inl (kt0, 10, .inl fr)), (p1, .inr (1, [w0, .ref b1, w2, .ref b3, w4, w5, .int (nI cn), .int bb])), (b1, .inl (kb1, 10, .inl fle)), (b3, .inl (kb3, 100, .inl fli)), (p3, .inr (0, [.ref e0, z1, z2])), (e0, .inl (ke0, 8, .inl fo))]) [6, 7, 1, 2, 3, 4, 5] (by decide) rfl
      have hKc := hK.sub (tys' := [(kt0, .int), (kb1, .int), (kb3, .int), (ke0, .int)]) [3, 0, 1, 2] rfl
      have hFc := va_free (wc := [(p4, .inr (6, [.ref t0, t8, t9, .ref t3, .ref t4])), (t0, .inl (kt0, 10, .inl fr)), (p1, .inr (1, [w0, .ref b1, w2, .ref b3, w4, w5, .int (nI cn), .int bb])), (b1, .inl (kb1, 10, .inl fle)), (b3, .inl (kb3, 100, .inl fli)), (p3, .inr (0, [.ref e0, z1, z2])), (e0, .inl (ke0, 8, .inl fo))]) hD hS hA [6, 7, 1, 2, 3, 4, 5] rfl
      refine va_callv (va_runV (As := [.ref p1, .ref p3]) (rest := []) ⟨hx, hb, hml, hown, hts⟩ (c_fill l dC dI H.size p4 t0 (t8) (t9) (.ref t3) (.ref t4) kt0 fr p1 (w0) b1 (w2) b3 (w4) (w5) cn bb kb1 fle kb3 fli p3 e0 (z1) (z2) ke0 fo hc hle hlk) (cwV 2 hts (gV mw_3_6 mw_3_7 mw_3_8 mw_1_7 mw_3_9) rfl rfl rfl (by decide +kernel) ⟨Nat.le_of_ble_eq_true rfl, Nat.le_of_ble_eq_true rfl⟩) ⟨pcW_blind, va_recv hKc hPc (ci := 6) (q0 := 0) rfl rfl, pcW_at hPc hKc hDc hN⟩ rfl rfl hl.1 rfl (lv_room (Nat.le_of_ble_eq_true rfl)) dX8_packed_30 ⟨Nat.le_of_ble_eq_true rfl, Nat.le_of_ble_eq_true rfl⟩) hS (fun q _ h => hFc q h) hFc (fun u t H1 locs ht hvm hw_14 hB hz1 hk1 hS => ?_)
      obtain ⟨f_15, p_16, hP1, hK1, hD1⟩ := hB
      rw [ht] at hP1
      have hK1 := va_K.moved hvm.symm hK1
      obtain ⟨hP, hD⟩ := va_join (wr := [(h0, .inr (7, [.ref p1, u1, .ref p3, u3, .ref p4, u5])), (t3, .inl (kt3, 10, .inl fp)), (t4, .inl (kt4, 100, .inl fs))]) (w1 := [(p4, .inr (6, [.ref t0, t8, t9, .ref t3, .ref t4])), (t0, .inl (kt0, 10, .inl f_15)), (p1, .inr (1, [w0, .ref b1, w2, .ref b3, w4, w5, .int (nI cn), .int bb])), (b1, .inl (kb1, 10, .inl fle)), (b3, .inl (kb3, 100, .inl fli)), (p3, .inr (0, [.ref e0, z1, z2])), (e0, .inl (ke0, 8, .inl fo))]) hP hD [6, 7, 1, 2, 3, 4, 5] [0, 8, 9] rfl rfl (by decide) (by decide) hk1 hFc hP1 hD1
      have hK := (hK.sub (tys' := [(kt3, .int), (kt4, .int)]) [4, 5] rfl).app hK1
      clear hz1 hk1 hPc hDc hKc hFc
      generalize H1 = H at hP hS ⊢
      have hK : va_K (dC, dI) vwCl [(kt3, .int), (kt4, .int), (kt0, .int), (kb1, .int), (kb3, .int), (ke0, .int)] s := hK
      have hP : va_P (dC, dI) vwCl [(h0, .inr (7, [.ref p1, u1, .ref p3, u3, .ref p4, u5])), (t3, .inl (kt3, 10, .inl fp)), (t4, .inl (kt4, 100, .inl fs)), (p4, .inr (6, [.ref t0, t8, t9, .ref t3, .ref t4])), (t0, .inl (kt0, 10, .inl f_15)), (p1, .inr (1, [w0, .ref b1, w2, .ref b3, w4, w5, .int (nI cn), .int bb])), (b1, .inl (kb1, 10, .inl fle)), (b3, .inl (kb3, 100, .inl fli)), (p3, .inr (0, [.ref e0, z1, z2])), (e0, .inl (ke0, 8, .inl fo))] H := hP
      have hD : va_D A [(h0, .inr (7, [.ref p1, u1, .ref p3, u3, .ref p4, u5])), (t3, .inl (kt3, 10, .inl fp)), (t4, .inl (kt4, 100, .inl fs)), (p4, .inr (6, [.ref t0, t8, t9, .ref t3, .ref t4])), (t0, .inl (kt0, 10, .inl f_15)), (p1, .inr (1, [w0, .ref b1, w2, .ref b3, w4, w5, .int (nI cn), .int bb])), (b1, .inl (kb1, 10, .inl fle)), (b3, .inl (kb3, 100, .inl fli)), (p3, .inr (0, [.ref e0, z1, z2])), (e0, .inl (ke0, 8, .inl fo))] := hD
      refine lv_aload_n hx hb dX8_packed_33 rfl (lv_at hl 0 rfl) ?_
      refine va_get (D := (dC, dI)) (ci := 7) (v := .ref p4) (C := RX8) (T := TX8) (N := 6) hx hb hts inB_8 hown hK hP 0 rfl rfl 4 (by decide) (hts _ mw_1_172) (fun _ h9 => h9) rfl dX8_packed_34 ?_
      have hPc := hP.sub (ws' := [(p4, .inr (6, [.ref t0, t8, t9, .ref t3, .ref t4])), (t0, .inl (kt0, 10, .inl f_15)), (t3, .inl (kt3, 10, .inl fp)), (t4, .inl (kt4, 100, .inl fs))]) [3, 4, 1, 2] rfl
      have hDc := hD.sub (ws' := [(p4, .inr (6, [.ref t0, t8, t9, .ref t3, .ref t4])), (t0, .inl (kt0, 10, .inl f_15)), (t3, .inl (kt3, 10, .inl fp)), (t4, .inl (kt4, 100, .inl fs))]) [3, 4, 1, 2] (by decide) rfl
      have hKc := hK.sub (tys' := [(kt0, .int), (kt3, .int), (kt4, .int)]) [2, 0, 1] rfl
      have hFc := va_free (wc := [(p4, .inr (6, [.ref t0, t8, t9, .ref t3, .ref t4])), (t0, .inl (kt0, 10, .inl f_15)), (t3, .inl (kt3, 10, .inl fp)), (t4, .inl (kt4, 100, .inl fs))]) hD hS hA [3, 4, 1, 2] rfl
      refine va_calli (va_runV (As := []) (rest := []) ⟨hx, hb, hml, hown, hts⟩ (c_push l dC dI H.size p4 t0 (t8) (t9) t3 t4 kt0 f_15 kt3 fp kt4 fs ) (cwV 0 hts (gV mw_3_44 mw_3_45 mw_3_46 mw_1_7 mw_3_47) rfl rfl rfl (by decide +kernel) ⟨Nat.le_of_ble_eq_true rfl, Nat.le_of_ble_eq_true rfl⟩) ⟨pcW_blind, va_recv hKc hPc (ci := 6) (q0 := 0) rfl rfl, pcW_at hPc hKc hDc hN⟩ rfl rfl hl.1 rfl (lv_room (Nat.le_of_ble_eq_true rfl)) dX8_packed_37 ⟨Nat.le_of_ble_eq_true rfl, Nat.le_of_ble_eq_true rfl⟩) hS (fun q _ h => hFc q h) hFc (fun r_17 u t H1 locs ht hvm hw_17 hB hz1 hk1 hS => ?_)
      obtain ⟨f_18, f_19, p_20, p_21, hP1, hK1, hD1⟩ := hB
      rw [ht] at hP1
      have hK1 := va_K.moved hvm.symm hK1
      obtain ⟨hP, hD⟩ := va_join (wr := [(h0, .inr (7, [.ref p1, u1, .ref p3, u3, .ref p4, u5])), (p1, .inr (1, [w0, .ref b1, w2, .ref b3, w4, w5, .int (nI cn), .int bb])), (b1, .inl (kb1, 10, .inl fle)), (b3, .inl (kb3, 100, .inl fli)), (p3, .inr (0, [.ref e0, z1, z2])), (e0, .inl (ke0, 8, .inl fo))]) (w1 := [(p4, .inr (6, [.ref t0, t8, t9, .ref t3, .ref t4])), (t0, .inl (kt0, 10, .inl f_15)), (t3, .inl (kt3, 10, .inl f_18)), (t4, .inl (kt4, 100, .inl f_19))]) hP hD [3, 4, 1, 2] [0, 5, 6, 7, 8, 9] rfl rfl (by decide) (by decide) hk1 hFc hP1 hD1
      have hK := (hK.sub (tys' := [(kb1, .int), (kb3, .int), (ke0, .int)]) [3, 4, 5] rfl).app hK1
      clear hz1 hk1 hPc hDc hKc hFc
      generalize H1 = H at hP hS ⊢
      have hK : va_K (dC, dI) vwCl [(kb1, .int), (kb3, .int), (ke0, .int), (kt0, .int), (kt3, .int), (kt4, .int)] s := hK
      have hP : va_P (dC, dI) vwCl [(h0, .inr (7, [.ref p1, u1, .ref p3, u3, .ref p4, u5])), (p1, .inr (1, [w0, .ref b1, w2, .ref b3, w4, w5, .int (nI cn), .int bb])), (b1, .inl (kb1, 10, .inl fle)), (b3, .inl (kb3, 100, .inl fli)), (p3, .inr (0, [.ref e0, z1, z2])), (e0, .inl (ke0, 8, .inl fo)), (p4, .inr (6, [.ref t0, t8, t9, .ref t3, .ref t4])), (t0, .inl (kt0, 10, .inl f_15)), (t3, .inl (kt3, 10, .inl f_18)), (t4, .inl (kt4, 100, .inl f_19))] H := hP
      have hD : va_D A [(h0, .inr (7, [.ref p1, u1, .ref p3, u3, .ref p4, u5])), (p1, .inr (1, [w0, .ref b1, w2, .ref b3, w4, w5, .int (nI cn), .int bb])), (b1, .inl (kb1, 10, .inl fle)), (b3, .inl (kb3, 100, .inl fli)), (p3, .inr (0, [.ref e0, z1, z2])), (e0, .inl (ke0, 8, .inl fo)), (p4, .inr (6, [.ref t0, t8, t9, .ref t3, .ref t4])), (t0, .inl (kt0, 10, .inl f_15)), (t3, .inl (kt3, 10, .inl f_18)), (t4, .inl (kt4, 100, .inl f_19))] := hD
      obtain rfl : r_17 = nI ((pkF (fiK fs 100) fp f_15 10).2.2) := hw_17
      have b_22 := (pq_le : (pkF (fiK fs 100) fp f_15 10).2.2 ≤ 100)
      refine lv_istore_n (lv' := [(2, .int (nI ((pkF (fiK fs 100) fp f_15 10).2.2))), (0, .ref h0), (1, .int n1)]) hx hb dX8_packed_40 rfl hl (by decide) rfl (fun ls hl => ?_)
      refine lv_iload_n hx hb dX8_packed_41 rfl (lv_at hl 2 rfl) ?_
      refine lv_iconst (v := (-1)) hx hb dX8_packed_42 (by decide) ?_
      refine lv_icmp_ne (tgt := 50) hx hb dX8_packed_43 (by decide) (fun c_23 => ?_) (fun h => absurd (gn_ne (X := (Int32.toInt n1)) (C := (-1)) rfl (by decide) h) (by omega))
      have b_24 := gx_ne (X := (Int32.toInt n1)) (C := (-1)) rfl (by decide) c_23
      obtain ⟨j_25, tj_25, ej_25⟩ := fx_nat (x := n1) (by omega)
      subst ej_25
      have yj_25 : Int32.toInt (nI j_25) = (j_25 : Int) := nI_toInt tj_25
      refine lv_aload_n hx hb dX8_packed_50 rfl (lv_at hl 1 rfl) ?_
      refine va_get (D := (dC, dI)) (ci := 7) (v := .ref p4) (C := RX8) (T := TX8) (N := 6) hx hb hts inB_8 hown hK hP 0 rfl rfl 4 (by decide) (hts _ mw_1_172) (fun _ h9 => h9) rfl dX8_packed_51 ?_
      refine lv_iload_n hx hb dX8_packed_54 rfl (lv_at hl 2 rfl) ?_
      have hPc := hP.sub (ws' := [(p4, .inr (6, [.ref t0, t8, t9, .ref t3, .ref t4])), (t3, .inl (kt3, 10, .inl f_18))]) [6, 8] rfl
      have hDc := hD.sub (ws' := [(p4, .inr (6, [.ref t0, t8, t9, .ref t3, .ref t4])), (t3, .inl (kt3, 10, .inl f_18))]) [6, 8] (by decide) rfl
      have hKc := hK.sub (tys' := [(kt3, .int)]) [4] rfl
      refine va_calli (va_runV (As := [.int (nI j_25)]) (rest := []) ⟨hx, hb, hml, hown, hts⟩ (c_placeOf l dC dI H.size p4 (.ref t0) (t8) (t9) t3 (.ref t4) kt3 f_18 j_25 (by omega)) (cwV 1 hts (gV mw_3_60 mw_3_61 mw_3_62 mw_1_7 mw_3_63) rfl rfl rfl (by decide +kernel) ⟨Nat.le_of_ble_eq_true rfl, Nat.le_of_ble_eq_true rfl⟩) ⟨pcW_blind, va_recv hKc hPc (ci := 6) (q0 := 0) rfl rfl, pcW_at hPc hKc hDc hN⟩ rfl rfl hl.1 rfl (lv_room (Nat.le_of_ble_eq_true rfl)) dX8_packed_55 ⟨Nat.le_of_ble_eq_true rfl, Nat.le_of_ble_eq_true rfl⟩) hS (fun q h1 h2 => absurd h2 (Nat.not_le.mpr h1)) (fun q h => hA q (Nat.le_trans hS.1 h)) (fun r_26 u t H1 locs ht hvm hw_26 hB hz1 hk1 hS => ?_)
      have hP := keepP hP hk1
      clear hz1 hk1 hB ht hvm hPc hDc hKc
      generalize H1 = H at hP hS ⊢
      obtain rfl : r_26 = (f_18 j_25) := hw_26
      have hP9 := hP.sub (ws' := [(h0, .inr (7, [.ref p1, u1, .ref p3, u3, .ref p4, u5])), (p1, .inr (1, [w0, .ref b1, w2, .ref b3, w4, w5, .int (nI cn), .int bb])), (b1, .inl (kb1, 10, .inl fle)), (b3, .inl (kb3, 100, .inl fli)), (p3, .inr (0, [.ref e0, z1, z2])), (e0, .inl (ke0, 8, .inl fo)), (p4, .inr (6, [.ref t0, t8, t9, .ref t3, .ref t4])), (t0, .inl (kt0, 10, .inl f_15)), (t3, .inl (kt3, 10, .inl f_18)), (t4, .inl (kt4, 100, .inl f_19))]) [0, 1, 2, 3, 4, 5, 6, 7, 8, 9] rfl
      have hD9 := hD.sub (ws' := [(h0, .inr (7, [.ref p1, u1, .ref p3, u3, .ref p4, u5])), (p1, .inr (1, [w0, .ref b1, w2, .ref b3, w4, w5, .int (nI cn), .int bb])), (b1, .inl (kb1, 10, .inl fle)), (b3, .inl (kb3, 100, .inl fli)), (p3, .inr (0, [.ref e0, z1, z2])), (e0, .inl (ke0, 8, .inl fo)), (p4, .inr (6, [.ref t0, t8, t9, .ref t3, .ref t4])), (t0, .inl (kt0, 10, .inl f_15)), (t3, .inl (kt3, 10, .inl f_18)), (t4, .inl (kt4, 100, .inl f_19))]) [0, 1, 2, 3, 4, 5, 6, 7, 8, 9] (by decide) rfl
      have hK9 := hK.sub (tys' := [(kb1, .int), (kb3, .int), (ke0, .int), (kt0, .int), (kt3, .int), (kt4, .int)]) [0, 1, 2, 3, 4, 5] rfl
      exact W.iret (v := (f_18 j_25)) hx hb hr (fun t ht hW => ⟨⟨(f_18 j_25), (), rfl, (by unfold F_packed; rw [if_neg (by omega), if_pos (by omega), nI_clamp (by omega), p_20]; exact (pk_std p_16).2.1 _ (by omega)), f_15, f_18, f_19, by rw [ht]; exact hP9, va_K.moved hW.alike hK9, hD9⟩, hS.F ht⟩) hS.2.2 dX8_packed_58
    · skip
      refine lv_if_ne (tgt := 18) hx hb dX8_packed_13 (by decide) (fun h => absurd h (by decide)) (fun _ => ?_)
      refine lv_iconst (v := (-1)) hx hb dX8_packed_16 (by decide) ?_
      have hP9 := hP.sub (ws' := [(h0, .inr (7, [.ref p1, u1, .ref p3, u3, .ref p4, u5])), (p1, .inr (1, [w0, .ref b1, w2, .ref b3, w4, w5, .int (nI cn), .int bb])), (b1, .inl (kb1, 10, .inl fle)), (b3, .inl (kb3, 100, .inl fli)), (p3, .inr (0, [.ref e0, z1, z2])), (e0, .inl (ke0, 8, .inl fo)), (p4, .inr (6, [.ref t0, t8, t9, .ref t3, .ref t4])), (t0, .inl (kt0, 10, .inl fr)), (t3, .inl (kt3, 10, .inl fp)), (t4, .inl (kt4, 100, .inl fs))]) [0, 1, 2, 3, 4, 5, 6, 7, 8, 9] rfl
      have hD9 := hD.sub (ws' := [(h0, .inr (7, [.ref p1, u1, .ref p3, u3, .ref p4, u5])), (p1, .inr (1, [w0, .ref b1, w2, .ref b3, w4, w5, .int (nI cn), .int bb])), (b1, .inl (kb1, 10, .inl fle)), (b3, .inl (kb3, 100, .inl fli)), (p3, .inr (0, [.ref e0, z1, z2])), (e0, .inl (ke0, 8, .inl fo)), (p4, .inr (6, [.ref t0, t8, t9, .ref t3, .ref t4])), (t0, .inl (kt0, 10, .inl fr)), (t3, .inl (kt3, 10, .inl fp)), (t4, .inl (kt4, 100, .inl fs))]) [0, 1, 2, 3, 4, 5, 6, 7, 8, 9] (by decide) rfl
      have hK9 := hK.sub (tys' := [(kb1, .int), (kb3, .int), (ke0, .int), (kt0, .int), (kt3, .int), (kt4, .int)]) [0, 1, 2, 3, 4, 5] rfl
      exact W.iret (v := (-1)) hx hb hr (fun t ht hW => ⟨⟨(-1), (), rfl, (by unfold F_packed; rw [if_neg (by omega), if_neg (by omega)]), fr, fp, fs, by rw [ht]; exact hP9, va_K.moved hW.alike hK9, hD9⟩, hS.F ht⟩) hS.2.2 dX8_packed_17
set_option maxHeartbeats 4000000 in
set_option maxRecDepth 100000 in
theorem x_slot (l : Launch) (dC : Nat → ClassId) (dI : Nat → Nat → Nat) (sz : Nat) (h0 : Nat) (p1 : Nat) (u1 : Value) (p3 : Nat) (u3 : Value) (p4 : Nat) (u5 : Value) (w0 : Value) (b1 : Nat) (w2 : Value) (b3 : Nat) (w4 : Value) (w5 : Value) (cn : Nat) (bb : Int32) (kb1 : ClassId) (fle : Nat → Int32) (kb3 : ClassId) (fli : Nat → Int32) (e0 : Nat) (z1 : Value) (z2 : Value) (ke0 : ClassId) (fo : Nat → Int32) (t0 : Nat) (t8 : Value) (t9 : Value) (t3 : Nat) (t4 : Nat) (kt0 : ClassId) (fr : Nat → Int32) (kt3 : ClassId) (fp : Nat → Int32) (kt4 : ClassId) (fs : Nat → Int32) (n1 : Int32) (hc : cn ≤ 10) (hle : BdOk 10 10 fle) (hlk : LnOk fle fli cn) : Met l yX8_slot (wq yX8_slot cX8_slot 2 (some .int)) ({ frames := 5, cells := 0, slots := 0, locals := 114 }) (va_Pc [.ref h0, .int n1] (pcW dC dI [(kb1, .int), (kb3, .int), (ke0, .int), (kt0, .int), (kt3, .int), (kt4, .int)] [(h0, .inr (7, [.ref p1, u1, .ref p3, u3, .ref p4, u5])), (p1, .inr (1, [w0, .ref b1, w2, .ref b3, w4, w5, .int (nI cn), .int bb])), (b1, .inl (kb1, 10, .inl fle)), (b3, .inl (kb3, 100, .inl fli)), (p3, .inr (0, [.ref e0, z1, z2])), (e0, .inl (ke0, 8, .inl fo)), (p4, .inr (6, [.ref t0, t8, t9, .ref t3, .ref t4])), (t0, .inl (kt0, 10, .inl fr)), (t3, .inl (kt3, 10, .inl fp)), (t4, .inl (kt4, 100, .inl fs))] sz)) (va_Qi (fun (r : Int32) (_ : Unit) => r = F_slot (pks (rowC fle fli fo cn bb) 10) n1) (fun _ t => ∃ (fr2 : Nat → Int32) (fp2 : Nat → Int32) (fs2 : Nat → Int32), va_P (dC, dI) vwCl [(h0, .inr (7, [.ref p1, u1, .ref p3, u3, .ref p4, u5])), (p1, .inr (1, [w0, .ref b1, w2, .ref b3, w4, w5, .int (nI cn), .int bb])), (b1, .inl (kb1, 10, .inl fle)), (b3, .inl (kb3, 100, .inl fli)), (p3, .inr (0, [.ref e0, z1, z2])), (e0, .inl (ke0, 8, .inl fo)), (p4, .inr (6, [.ref t0, t8, t9, .ref t3, .ref t4])), (t0, .inl (kt0, 10, .inl fr2)), (t3, .inl (kt3, 10, .inl fp2)), (t4, .inl (kt4, 100, .inl fs2))] t.heap ∧ va_K (dC, dI) vwCl [(kb1, .int), (kb3, .int), (ke0, .int), (kt0, .int), (kt3, .int), (kt4, .int)] t ∧ va_D (va_A [(h0, .inr (7, [.ref p1, u1, .ref p3, u3, .ref p4, u5])), (p1, .inr (1, [w0, .ref b1, w2, .ref b3, w4, w5, .int (nI cn), .int bb])), (b1, .inl (kb1, 10, .inl fle)), (b3, .inl (kb3, 100, .inl fli)), (p3, .inr (0, [.ref e0, z1, z2])), (e0, .inl (ke0, 8, .inl fo)), (p4, .inr (6, [.ref t0, t8, t9, .ref t3, .ref t4])), (t0, .inl (kt0, 10, .inl fr)), (t3, .inl (kt3, 10, .inl fp)), (t4, .inl (kt4, 100, .inl fs))] sz) [(h0, .inr (7, [.ref p1, u1, .ref p3, u3, .ref p4, u5])), (p1, .inr (1, [w0, .ref b1, w2, .ref b3, w4, w5, .int (nI cn), .int bb])), (b1, .inl (kb1, 10, .inl fle)), (b3, .inl (kb3, 100, .inl fli)), (p3, .inr (0, [.ref e0, z1, z2])), (e0, .inl (ke0, 8, .inl fo)), (p4, .inr (6, [.ref t0, t8, t9, .ref t3, .ref t4])), (t0, .inl (kt0, 10, .inl fr2)), (t3, .inl (kt3, 10, .inl fp2)), (t4, .inl (kt4, 100, .inl fs2))]) (va_A [(h0, .inr (7, [.ref p1, u1, .ref p3, u3, .ref p4, u5])), (p1, .inr (1, [w0, .ref b1, w2, .ref b3, w4, w5, .int (nI cn), .int bb])), (b1, .inl (kb1, 10, .inl fle)), (b3, .inl (kb3, 100, .inl fli)), (p3, .inr (0, [.ref e0, z1, z2])), (e0, .inl (ke0, 8, .inl fo)), (p4, .inr (6, [.ref t0, t8, t9, .ref t3, .ref t4])), (t0, .inl (kt0, 10, .inl fr)), (t3, .inl (kt3, 10, .inl fp)), (t4, .inl (kt4, 100, .inl fs))] sz)) 0 0 (va_A [(h0, .inr (7, [.ref p1, u1, .ref p3, u3, .ref p4, u5])), (p1, .inr (1, [w0, .ref b1, w2, .ref b3, w4, w5, .int (nI cn), .int bb])), (b1, .inl (kb1, 10, .inl fle)), (b3, .inl (kb3, 100, .inl fli)), (p3, .inr (0, [.ref e0, z1, z2])), (e0, .inl (ke0, 8, .inl fo)), (p4, .inr (6, [.ref t0, t8, t9, .ref t3, .ref t4])), (t0, .inl (kt0, 10, .inl fr)), (t3, .inl (kt3, 10, .inl fp)), (t4, .inl (kt4, 100, .inl fs))] sz) := by
  refine Met.ofW (cc := cX8_slot) (maxL := 2) (ret := (some .int)) (by decide) rfl ?_
  intro p e s m args below meth c s₁ B hml hv
  obtain ⟨rfl, hsz, hN, hP, hK, hD0⟩ := hv
  have hx := B.exec
  have hb := B.bytes
  have hr := B.returns
  have hts0 := atoms_spec (ws := (wq yX8_slot cX8_slot 2 (some .int))) B.pre
  have hts : ∀ w ∈ BG, w.before _ s = true := fun w h => hts0 w (List.mem_cons_of_mem _ h)
  have hown : s.vm.findClass RX8 = some m.cls := findClass_of_methodNamed B.named
  have hlocks := B.notSynchronized
  subst hsz
  have hD := hD0.self (sz := s.heap.size)
  generalize hAe : va_A [(h0, .inr (7, [.ref p1, u1, .ref p3, u3, .ref p4, u5])), (p1, .inr (1, [w0, .ref b1, w2, .ref b3, w4, w5, .int (nI cn), .int bb])), (b1, .inl (kb1, 10, .inl fle)), (b3, .inl (kb3, 100, .inl fli)), (p3, .inr (0, [.ref e0, z1, z2])), (e0, .inl (ke0, 8, .inl fo)), (p4, .inr (6, [.ref t0, t8, t9, .ref t3, .ref t4])), (t0, .inl (kt0, 10, .inl fr)), (t3, .inl (kt3, 10, .inl fp)), (t4, .inl (kt4, 100, .inl fs))] s.heap.size = A at hD ⊢
  have hA : ∀ q : Nat, s.heap.size ≤ q → A q := fun q h => by rw [← hAe]; exact Or.inr h
  have hS : va_S A s.heap s.heap [] := va_S.rf
  clear hAe hD0
  have hP : va_P (dC, dI) vwCl [(h0, .inr (7, [.ref p1, u1, .ref p3, u3, .ref p4, u5])), (p1, .inr (1, [w0, .ref b1, w2, .ref b3, w4, w5, .int (nI cn), .int bb])), (b1, .inl (kb1, 10, .inl fle)), (b3, .inl (kb3, 100, .inl fli)), (p3, .inr (0, [.ref e0, z1, z2])), (e0, .inl (ke0, 8, .inl fo)), (p4, .inr (6, [.ref t0, t8, t9, .ref t3, .ref t4])), (t0, .inl (kt0, 10, .inl fr)), (t3, .inl (kt3, 10, .inl fp)), (t4, .inl (kt4, 100, .inl fs))] s.heap := hP
  have hl := lv_entry ([.ref h0, .int n1]) (n := 2) (Nat.le_of_ble_eq_true rfl)
  rw [lg_entry_eq]
  generalize (lg_sl ([.ref h0, .int n1]) ++ List.replicate (2 - (lg_sl ([.ref h0, .int n1])).length) Slot.unset).toArray = ls at hl ⊢
  have hl : lv_has ls 2 [(0, .ref h0), (1, .int n1)] := hl
  refine lv_iload_n hx hb dX8_slot_0 rfl (lv_at hl 1 rfl) ?_
  refine lv_if_lt (tgt := 10) hx hb dX8_slot_1 (by decide) (fun c_1 => ?_) (fun c_1 => ?_)
  · have b_2 := gx_lt (X := (Int32.toInt n1)) (C := 0) rfl (by decide) c_1
    refine lv_bipush (v := (-2)) hx hb dX8_slot_10 (by decide) ?_
    have hP9 := hP.sub (ws' := [(h0, .inr (7, [.ref p1, u1, .ref p3, u3, .ref p4, u5])), (p1, .inr (1, [w0, .ref b1, w2, .ref b3, w4, w5, .int (nI cn), .int bb])), (b1, .inl (kb1, 10, .inl fle)), (b3, .inl (kb3, 100, .inl fli)), (p3, .inr (0, [.ref e0, z1, z2])), (e0, .inl (ke0, 8, .inl fo)), (p4, .inr (6, [.ref t0, t8, t9, .ref t3, .ref t4])), (t0, .inl (kt0, 10, .inl fr)), (t3, .inl (kt3, 10, .inl fp)), (t4, .inl (kt4, 100, .inl fs))]) [0, 1, 2, 3, 4, 5, 6, 7, 8, 9] rfl
    have hD9 := hD.sub (ws' := [(h0, .inr (7, [.ref p1, u1, .ref p3, u3, .ref p4, u5])), (p1, .inr (1, [w0, .ref b1, w2, .ref b3, w4, w5, .int (nI cn), .int bb])), (b1, .inl (kb1, 10, .inl fle)), (b3, .inl (kb3, 100, .inl fli)), (p3, .inr (0, [.ref e0, z1, z2])), (e0, .inl (ke0, 8, .inl fo)), (p4, .inr (6, [.ref t0, t8, t9, .ref t3, .ref t4])), (t0, .inl (kt0, 10, .inl fr)), (t3, .inl (kt3, 10, .inl fp)), (t4, .inl (kt4, 100, .inl fs))]) [0, 1, 2, 3, 4, 5, 6, 7, 8, 9] (by decide) rfl
    have hK9 := hK.sub (tys' := [(kb1, .int), (kb3, .int), (ke0, .int), (kt0, .int), (kt3, .int), (kt4, .int)]) [0, 1, 2, 3, 4, 5] rfl
    exact W.iret (v := (-2)) hx hb hr (fun t ht hW => ⟨⟨(-2), (), rfl, (by unfold F_slot; rw [if_neg (by omega)]), fr, fp, fs, by rw [ht]; exact hP9, va_K.moved hW.alike hK9, hD9⟩, hS.F ht⟩) hS.2.2 dX8_slot_12
  · have b_2 := gn_lt (X := (Int32.toInt n1)) (C := 0) rfl (by decide) c_1
    refine lv_iload_n hx hb dX8_slot_4 rfl (lv_at hl 1 rfl) ?_
    refine lv_bipush (v := 100) hx hb dX8_slot_5 (by decide) ?_
    refine lv_icmp_lt (tgt := 13) hx hb dX8_slot_7 (by decide) (fun c_3 => ?_) (fun c_3 => ?_)
    · have b_4 := gx_lt (X := (Int32.toInt n1)) (C := 100) rfl (by decide) c_3
      obtain ⟨j_5, tj_5, ej_5⟩ := fx_nat (x := n1) (by omega)
      subst ej_5
      have yj_5 : Int32.toInt (nI j_5) = (j_5 : Int) := nI_toInt tj_5
      refine lv_aload_n hx hb dX8_slot_13 rfl (lv_at hl 0 rfl) ?_
      refine va_get (D := (dC, dI)) (ci := 7) (v := .ref p4) (C := RX8) (T := TX8) (N := 6) hx hb hts inB_8 hown hK hP 0 rfl rfl 4 (by decide) (hts _ mw_1_172) (fun _ h9 => h9) rfl dX8_slot_14 ?_
      refine lv_aload_n hx hb dX8_slot_17 rfl (lv_at hl 0 rfl) ?_
      refine va_get (D := (dC, dI)) (ci := 7) (v := .ref p1) (C := RX8) (T := TX8) (N := 6) hx hb hts inB_8 hown hK hP 0 rfl rfl 0 (by decide) (hts _ mw_1_168) (fun _ h9 => h9) rfl dX8_slot_18 ?_
      refine lv_aload_n hx hb dX8_slot_21 rfl (lv_at hl 0 rfl) ?_
      refine va_get (D := (dC, dI)) (ci := 7) (v := .ref p3) (C := RX8) (T := TX8) (N := 6) hx hb hts inB_8 hown hK hP 0 rfl rfl 2 (by decide) (hts _ mw_1_170) (fun _ h9 => h9) rfl dX8_slot_22 ?_
      have hPc := hP.sub (ws' := [(p4, .inr (6, [.ref t0, t8, t9, .ref t3, .ref t4])), (t0, .inl (kt0, 10, .inl fr)), (p1, .inr (1, [w0, .ref b1, w2, .ref b3, w4, w5, .int (nI cn), .int bb])), (b1, .inl (kb1, 10, .inl fle)), (b3, .inl (kb3, 100, .inl fli)), (p3, .inr (0, [.ref e0, z1, z2])), (e0, .inl (ke0, 8, .inl fo))]) [6, 7, 1, 2, 3, 4, 5] rfl
      have hDc := hD.sub (ws' := [(p4, .inr (6, [.ref t0, t8, t9, .ref t3, .ref t4])), (t0, .inl (kt0, 10, .inl fr)), (p1, .inr (1, [w0, .ref b1, w2, .ref b3, w4, w5, .int (nI cn), .int bb])), (b1, .inl (kb1, 10, .inl fle)), (b3, .inl (kb3, 100, .inl fli)), (p3, .inr (0, [.ref e0, z1, z2])), (e0, .inl (ke0, 8, .inl fo))]) [6, 7, 1, 2, 3, 4, 5] (by decide) rfl
      have hKc := hK.sub (tys' := [(kt0, .int), (kb1, .int), (kb3, .int), (ke0, .int)]) [3, 0, 1, 2] rfl
      have hFc := va_free (wc := [(p4, .inr (6, [.ref t0, t8, t9, .ref t3, .ref t4])), (t0, .inl (kt0, 10, .inl fr)), (p1, .inr (1, [w0, .ref b1, w2, .ref b3, w4, w5, .int (nI cn), .int bb])), (b1, .inl (kb1, 10, .inl fle)), (b3, .inl (kb3, 100, .inl fli)), (p3, .inr (0, [.ref e0, z1, z2])), (e0, .inl (ke0, 8, .inl fo))]) hD hS hA [6, 7, 1, 2, 3, 4, 5] rfl
      refine va_callv (va_runV (As := [.ref p1, .ref p3]) (rest := []) ⟨hx, hb, hml, hown, hts⟩ (c_fill l dC dI s.heap.size p4 t0 (t8) (t9) (.ref t3) (.ref t4) kt0 fr p1 (w0) b1 (w2) b3 (w4) (w5) cn bb kb1 fle kb3 fli p3 e0 (z1) (z2) ke0 fo hc hle hlk) (cwV 2 hts (gV mw_3_6 mw_3_7 mw_3_8 mw_1_7 mw_3_9) rfl rfl rfl (by decide +kernel) ⟨Nat.le_of_ble_eq_true rfl, Nat.le_of_ble_eq_true rfl⟩) ⟨pcW_blind, va_recv hKc hPc (ci := 6) (q0 := 0) rfl rfl, pcW_at hPc hKc hDc hN⟩ rfl rfl hl.1 rfl (lv_room (Nat.le_of_ble_eq_true rfl)) dX8_slot_25 ⟨Nat.le_of_ble_eq_true rfl, Nat.le_of_ble_eq_true rfl⟩) hS (fun q _ h => hFc q h) hFc (fun u t H1 locs ht hvm hw_6 hB hz1 hk1 hS => ?_)
      obtain ⟨f_7, p_8, hP1, hK1, hD1⟩ := hB
      rw [ht] at hP1
      have hK1 := va_K.moved hvm.symm hK1
      obtain ⟨hP, hD⟩ := va_join (wr := [(h0, .inr (7, [.ref p1, u1, .ref p3, u3, .ref p4, u5])), (t3, .inl (kt3, 10, .inl fp)), (t4, .inl (kt4, 100, .inl fs))]) (w1 := [(p4, .inr (6, [.ref t0, t8, t9, .ref t3, .ref t4])), (t0, .inl (kt0, 10, .inl f_7)), (p1, .inr (1, [w0, .ref b1, w2, .ref b3, w4, w5, .int (nI cn), .int bb])), (b1, .inl (kb1, 10, .inl fle)), (b3, .inl (kb3, 100, .inl fli)), (p3, .inr (0, [.ref e0, z1, z2])), (e0, .inl (ke0, 8, .inl fo))]) hP hD [6, 7, 1, 2, 3, 4, 5] [0, 8, 9] rfl rfl (by decide) (by decide) hk1 hFc hP1 hD1
      have hK := (hK.sub (tys' := [(kt3, .int), (kt4, .int)]) [4, 5] rfl).app hK1
      clear hz1 hk1 hPc hDc hKc hFc
      generalize H1 = H at hP hS ⊢
      have hK : va_K (dC, dI) vwCl [(kt3, .int), (kt4, .int), (kt0, .int), (kb1, .int), (kb3, .int), (ke0, .int)] s := hK
      have hP : va_P (dC, dI) vwCl [(h0, .inr (7, [.ref p1, u1, .ref p3, u3, .ref p4, u5])), (t3, .inl (kt3, 10, .inl fp)), (t4, .inl (kt4, 100, .inl fs)), (p4, .inr (6, [.ref t0, t8, t9, .ref t3, .ref t4])), (t0, .inl (kt0, 10, .inl f_7)), (p1, .inr (1, [w0, .ref b1, w2, .ref b3, w4, w5, .int (nI cn), .int bb])), (b1, .inl (kb1, 10, .inl fle)), (b3, .inl (kb3, 100, .inl fli)), (p3, .inr (0, [.ref e0, z1, z2])), (e0, .inl (ke0, 8, .inl fo))] H := hP
      have hD : va_D A [(h0, .inr (7, [.ref p1, u1, .ref p3, u3, .ref p4, u5])), (t3, .inl (kt3, 10, .inl fp)), (t4, .inl (kt4, 100, .inl fs)), (p4, .inr (6, [.ref t0, t8, t9, .ref t3, .ref t4])), (t0, .inl (kt0, 10, .inl f_7)), (p1, .inr (1, [w0, .ref b1, w2, .ref b3, w4, w5, .int (nI cn), .int bb])), (b1, .inl (kb1, 10, .inl fle)), (b3, .inl (kb3, 100, .inl fli)), (p3, .inr (0, [.ref e0, z1, z2])), (e0, .inl (ke0, 8, .inl fo))] := hD
      refine lv_aload_n hx hb dX8_slot_28 rfl (lv_at hl 0 rfl) ?_
      refine va_get (D := (dC, dI)) (ci := 7) (v := .ref p4) (C := RX8) (T := TX8) (N := 6) hx hb hts inB_8 hown hK hP 0 rfl rfl 4 (by decide) (hts _ mw_1_172) (fun _ h9 => h9) rfl dX8_slot_29 ?_
      have hPc := hP.sub (ws' := [(p4, .inr (6, [.ref t0, t8, t9, .ref t3, .ref t4])), (t0, .inl (kt0, 10, .inl f_7)), (t3, .inl (kt3, 10, .inl fp)), (t4, .inl (kt4, 100, .inl fs))]) [3, 4, 1, 2] rfl
      have hDc := hD.sub (ws' := [(p4, .inr (6, [.ref t0, t8, t9, .ref t3, .ref t4])), (t0, .inl (kt0, 10, .inl f_7)), (t3, .inl (kt3, 10, .inl fp)), (t4, .inl (kt4, 100, .inl fs))]) [3, 4, 1, 2] (by decide) rfl
      have hKc := hK.sub (tys' := [(kt0, .int), (kt3, .int), (kt4, .int)]) [2, 0, 1] rfl
      have hFc := va_free (wc := [(p4, .inr (6, [.ref t0, t8, t9, .ref t3, .ref t4])), (t0, .inl (kt0, 10, .inl f_7)), (t3, .inl (kt3, 10, .inl fp)), (t4, .inl (kt4, 100, .inl fs))]) hD hS hA [3, 4, 1, 2] rfl
      refine va_calli (va_runV (As := []) (rest := []) ⟨hx, hb, hml, hown, hts⟩ (c_push l dC dI H.size p4 t0 (t8) (t9) t3 t4 kt0 f_7 kt3 fp kt4 fs ) (cwV 0 hts (gV mw_3_44 mw_3_45 mw_3_46 mw_1_7 mw_3_47) rfl rfl rfl (by decide +kernel) ⟨Nat.le_of_ble_eq_true rfl, Nat.le_of_ble_eq_true rfl⟩) ⟨pcW_blind, va_recv hKc hPc (ci := 6) (q0 := 0) rfl rfl, pcW_at hPc hKc hDc hN⟩ rfl rfl hl.1 rfl (lv_room (Nat.le_of_ble_eq_true rfl)) dX8_slot_32 ⟨Nat.le_of_ble_eq_true rfl, Nat.le_of_ble_eq_true rfl⟩) hS (fun q _ h => hFc q h) hFc (fun r_9 u t H1 locs ht hvm hw_9 hB hz1 hk1 hS => ?_)
      obtain ⟨f_10, f_11, p_12, p_13, hP1, hK1, hD1⟩ := hB
      rw [ht] at hP1
      have hK1 := va_K.moved hvm.symm hK1
      obtain ⟨hP, hD⟩ := va_join (wr := [(h0, .inr (7, [.ref p1, u1, .ref p3, u3, .ref p4, u5])), (p1, .inr (1, [w0, .ref b1, w2, .ref b3, w4, w5, .int (nI cn), .int bb])), (b1, .inl (kb1, 10, .inl fle)), (b3, .inl (kb3, 100, .inl fli)), (p3, .inr (0, [.ref e0, z1, z2])), (e0, .inl (ke0, 8, .inl fo))]) (w1 := [(p4, .inr (6, [.ref t0, t8, t9, .ref t3, .ref t4])), (t0, .inl (kt0, 10, .inl f_7)), (t3, .inl (kt3, 10, .inl f_10)), (t4, .inl (kt4, 100, .inl f_11))]) hP hD [3, 4, 1, 2] [0, 5, 6, 7, 8, 9] rfl rfl (by decide) (by decide) hk1 hFc hP1 hD1
      have hK := (hK.sub (tys' := [(kb1, .int), (kb3, .int), (ke0, .int)]) [3, 4, 5] rfl).app hK1
      clear hz1 hk1 hPc hDc hKc hFc
      generalize H1 = H at hP hS ⊢
      have hK : va_K (dC, dI) vwCl [(kb1, .int), (kb3, .int), (ke0, .int), (kt0, .int), (kt3, .int), (kt4, .int)] s := hK
      have hP : va_P (dC, dI) vwCl [(h0, .inr (7, [.ref p1, u1, .ref p3, u3, .ref p4, u5])), (p1, .inr (1, [w0, .ref b1, w2, .ref b3, w4, w5, .int (nI cn), .int bb])), (b1, .inl (kb1, 10, .inl fle)), (b3, .inl (kb3, 100, .inl fli)), (p3, .inr (0, [.ref e0, z1, z2])), (e0, .inl (ke0, 8, .inl fo)), (p4, .inr (6, [.ref t0, t8, t9, .ref t3, .ref t4])), (t0, .inl (kt0, 10, .inl f_7)), (t3, .inl (kt3, 10, .inl f_10)), (t4, .inl (kt4, 100, .inl f_11))] H := hP
      have hD : va_D A [(h0, .inr (7, [.ref p1, u1, .ref p3, u3, .ref p4, u5])), (p1, .inr (1, [w0, .ref b1, w2, .ref b3, w4, w5, .int (nI cn), .int bb])), (b1, .inl (kb1, 10, .inl fle)), (b3, .inl (kb3, 100, .inl fli)), (p3, .inr (0, [.ref e0, z1, z2])), (e0, .inl (ke0, 8, .inl fo)), (p4, .inr (6, [.ref t0, t8, t9, .ref t3, .ref t4])), (t0, .inl (kt0, 10, .inl f_7)), (t3, .inl (kt3, 10, .inl f_10)), (t4, .inl (kt4, 100, .inl f_11))] := hD
      obtain rfl : r_9 = nI ((pkF (fiK fs 100) fp f_7 10).2.2) := hw_9
      have b_14 := (pq_le : (pkF (fiK fs 100) fp f_7 10).2.2 ≤ 100)
      refine lv_pop hx hb dX8_slot_35 rfl ?_
      refine lv_aload_n hx hb dX8_slot_36 rfl (lv_at hl 0 rfl) ?_
      refine va_get (D := (dC, dI)) (ci := 7) (v := .ref p4) (C := RX8) (T := TX8) (N := 6) hx hb hts inB_8 hown hK hP 0 rfl rfl 4 (by decide) (hts _ mw_1_172) (fun _ h9 => h9) rfl dX8_slot_37 ?_
      refine lv_iload_n hx hb dX8_slot_40 rfl (lv_at hl 1 rfl) ?_
      have hPc := hP.sub (ws' := [(p4, .inr (6, [.ref t0, t8, t9, .ref t3, .ref t4])), (t4, .inl (kt4, 100, .inl f_11))]) [6, 9] rfl
      have hDc := hD.sub (ws' := [(p4, .inr (6, [.ref t0, t8, t9, .ref t3, .ref t4])), (t4, .inl (kt4, 100, .inl f_11))]) [6, 9] (by decide) rfl
      have hKc := hK.sub (tys' := [(kt4, .int)]) [5] rfl
      refine va_calli (va_runV (As := [.int (nI j_5)]) (rest := []) ⟨hx, hb, hml, hown, hts⟩ (c_stands l dC dI H.size p4 (.ref t0) (t8) (t9) (.ref t3) t4 kt4 f_11 j_5 (by omega)) (cwV 1 hts (gV mw_3_68 mw_3_69 mw_3_70 mw_1_7 mw_3_71) rfl rfl rfl (by decide +kernel) ⟨Nat.le_of_ble_eq_true rfl, Nat.le_of_ble_eq_true rfl⟩) ⟨pcW_blind, va_recv hKc hPc (ci := 6) (q0 := 0) rfl rfl, pcW_at hPc hKc hDc hN⟩ rfl rfl hl.1 rfl (lv_room (Nat.le_of_ble_eq_true rfl)) dX8_slot_41 ⟨Nat.le_of_ble_eq_true rfl, Nat.le_of_ble_eq_true rfl⟩) hS (fun q h1 h2 => absurd h2 (Nat.not_le.mpr h1)) (fun q h => hA q (Nat.le_trans hS.1 h)) (fun r_15 u t H1 locs ht hvm hw_15 hB hz1 hk1 hS => ?_)
      have hP := keepP hP hk1
      clear hz1 hk1 hB ht hvm hPc hDc hKc
      generalize H1 = H at hP hS ⊢
      obtain rfl : r_15 = (f_11 j_5) := hw_15
      have hP9 := hP.sub (ws' := [(h0, .inr (7, [.ref p1, u1, .ref p3, u3, .ref p4, u5])), (p1, .inr (1, [w0, .ref b1, w2, .ref b3, w4, w5, .int (nI cn), .int bb])), (b1, .inl (kb1, 10, .inl fle)), (b3, .inl (kb3, 100, .inl fli)), (p3, .inr (0, [.ref e0, z1, z2])), (e0, .inl (ke0, 8, .inl fo)), (p4, .inr (6, [.ref t0, t8, t9, .ref t3, .ref t4])), (t0, .inl (kt0, 10, .inl f_7)), (t3, .inl (kt3, 10, .inl f_10)), (t4, .inl (kt4, 100, .inl f_11))]) [0, 1, 2, 3, 4, 5, 6, 7, 8, 9] rfl
      have hD9 := hD.sub (ws' := [(h0, .inr (7, [.ref p1, u1, .ref p3, u3, .ref p4, u5])), (p1, .inr (1, [w0, .ref b1, w2, .ref b3, w4, w5, .int (nI cn), .int bb])), (b1, .inl (kb1, 10, .inl fle)), (b3, .inl (kb3, 100, .inl fli)), (p3, .inr (0, [.ref e0, z1, z2])), (e0, .inl (ke0, 8, .inl fo)), (p4, .inr (6, [.ref t0, t8, t9, .ref t3, .ref t4])), (t0, .inl (kt0, 10, .inl f_7)), (t3, .inl (kt3, 10, .inl f_10)), (t4, .inl (kt4, 100, .inl f_11))]) [0, 1, 2, 3, 4, 5, 6, 7, 8, 9] (by decide) rfl
      have hK9 := hK.sub (tys' := [(kb1, .int), (kb3, .int), (ke0, .int), (kt0, .int), (kt3, .int), (kt4, .int)]) [0, 1, 2, 3, 4, 5] rfl
      exact W.iret (v := (f_11 j_5)) hx hb hr (fun t ht hW => ⟨⟨(f_11 j_5), (), rfl, (by unfold F_slot; rw [if_pos (by omega), nI_clamp (by omega), p_13]; exact (pk_std p_8).2.2 _ (by omega)), f_7, f_10, f_11, by rw [ht]; exact hP9, va_K.moved hW.alike hK9, hD9⟩, hS.F ht⟩) hS.2.2 dX8_slot_44
    · have b_4 := gn_lt (X := (Int32.toInt n1)) (C := 100) rfl (by decide) c_3
      refine lv_bipush (v := (-2)) hx hb dX8_slot_10 (by decide) ?_
      have hP9 := hP.sub (ws' := [(h0, .inr (7, [.ref p1, u1, .ref p3, u3, .ref p4, u5])), (p1, .inr (1, [w0, .ref b1, w2, .ref b3, w4, w5, .int (nI cn), .int bb])), (b1, .inl (kb1, 10, .inl fle)), (b3, .inl (kb3, 100, .inl fli)), (p3, .inr (0, [.ref e0, z1, z2])), (e0, .inl (ke0, 8, .inl fo)), (p4, .inr (6, [.ref t0, t8, t9, .ref t3, .ref t4])), (t0, .inl (kt0, 10, .inl fr)), (t3, .inl (kt3, 10, .inl fp)), (t4, .inl (kt4, 100, .inl fs))]) [0, 1, 2, 3, 4, 5, 6, 7, 8, 9] rfl
      have hD9 := hD.sub (ws' := [(h0, .inr (7, [.ref p1, u1, .ref p3, u3, .ref p4, u5])), (p1, .inr (1, [w0, .ref b1, w2, .ref b3, w4, w5, .int (nI cn), .int bb])), (b1, .inl (kb1, 10, .inl fle)), (b3, .inl (kb3, 100, .inl fli)), (p3, .inr (0, [.ref e0, z1, z2])), (e0, .inl (ke0, 8, .inl fo)), (p4, .inr (6, [.ref t0, t8, t9, .ref t3, .ref t4])), (t0, .inl (kt0, 10, .inl fr)), (t3, .inl (kt3, 10, .inl fp)), (t4, .inl (kt4, 100, .inl fs))]) [0, 1, 2, 3, 4, 5, 6, 7, 8, 9] (by decide) rfl
      have hK9 := hK.sub (tys' := [(kb1, .int), (kb3, .int), (ke0, .int), (kt0, .int), (kt3, .int), (kt4, .int)]) [0, 1, 2, 3, 4, 5] rfl
      exact W.iret (v := (-2)) hx hb hr (fun t ht hW => ⟨⟨(-2), (), rfl, (by unfold F_slot; rw [if_neg (by omega)]), fr, fp, fs, by rw [ht]; exact hP9, va_K.moved hW.alike hK9, hD9⟩, hS.F ht⟩) hS.2.2 dX8_slot_12
set_option maxHeartbeats 4000000 in
set_option maxRecDepth 100000 in
theorem x_call (l : Launch) (dC : Nat → ClassId) (dI : Nat → Nat → Nat) (sz : Nat) (h0 : Nat) (p1 : Nat) (u1 : Value) (u2 : Value) (u3 : Value) (u4 : Value) (p5 : Nat) (w0 : Value) (w1 : Value) (w2 : Value) (w3 : Value) (w4 : Value) (w5 : Value) (cn : Nat) (bb : Int32) (x0 : Value) (s1 : Nat) (s2 : Nat) (x3 : Value) (qn : Nat) (rm : Nat) (ks1 : ClassId) (fcp : Nat → Int32) (ks2 : ClassId) (fck : Nat → Int32) (n1 : Int32) (n2 : Int32) (hc : cn ≤ 10) (hqn : qn ≤ 40) : Met l yX8_call (wq yX8_call cX8_call 3 (some .int)) ({ frames := 2, cells := 0, slots := 0, locals := 42 }) (va_Pc [.ref h0, .int n1, .int n2] (pcW dC dI [(ks1, .int), (ks2, .int)] [(h0, .inr (7, [.ref p1, u1, u2, u3, u4, .ref p5])), (p1, .inr (1, [w0, w1, w2, w3, w4, w5, .int (nI cn), .int bb])), (p5, .inr (3, [x0, .ref s1, .ref s2, x3, .int (nI qn), .int (nI rm)])), (s1, .inl (ks1, 40, .inl fcp)), (s2, .inl (ks2, 40, .inl fck))] sz)) (va_Qi (fun (r : Int32) (_ : Unit) => r = F_call cn qn n1 n2) (fun _ t => ∃ (qn2 : Nat) (fcp2 : Nat → Int32) (fck2 : Nat → Int32), (qn2 = Q_next cn qn n1 n2) ∧ (qn2 ≤ 40) ∧ (fcp2 = QA_next cn qn fcp n1 n2 n1) ∧ (fck2 = QA_next cn qn fck n1 n2 n2) ∧ va_P (dC, dI) vwCl [(h0, .inr (7, [.ref p1, u1, u2, u3, u4, .ref p5])), (p1, .inr (1, [w0, w1, w2, w3, w4, w5, .int (nI cn), .int bb])), (p5, .inr (3, [x0, .ref s1, .ref s2, x3, .int (nI qn2), .int (nI rm)])), (s1, .inl (ks1, 40, .inl fcp2)), (s2, .inl (ks2, 40, .inl fck2))] t.heap ∧ va_K (dC, dI) vwCl [(ks1, .int), (ks2, .int)] t ∧ va_D (va_A [(h0, .inr (7, [.ref p1, u1, u2, u3, u4, .ref p5])), (p1, .inr (1, [w0, w1, w2, w3, w4, w5, .int (nI cn), .int bb])), (p5, .inr (3, [x0, .ref s1, .ref s2, x3, .int (nI qn), .int (nI rm)])), (s1, .inl (ks1, 40, .inl fcp)), (s2, .inl (ks2, 40, .inl fck))] sz) [(h0, .inr (7, [.ref p1, u1, u2, u3, u4, .ref p5])), (p1, .inr (1, [w0, w1, w2, w3, w4, w5, .int (nI cn), .int bb])), (p5, .inr (3, [x0, .ref s1, .ref s2, x3, .int (nI qn2), .int (nI rm)])), (s1, .inl (ks1, 40, .inl fcp2)), (s2, .inl (ks2, 40, .inl fck2))]) (va_A [(h0, .inr (7, [.ref p1, u1, u2, u3, u4, .ref p5])), (p1, .inr (1, [w0, w1, w2, w3, w4, w5, .int (nI cn), .int bb])), (p5, .inr (3, [x0, .ref s1, .ref s2, x3, .int (nI qn), .int (nI rm)])), (s1, .inl (ks1, 40, .inl fcp)), (s2, .inl (ks2, 40, .inl fck))] sz)) 0 0 (va_A [(h0, .inr (7, [.ref p1, u1, u2, u3, u4, .ref p5])), (p1, .inr (1, [w0, w1, w2, w3, w4, w5, .int (nI cn), .int bb])), (p5, .inr (3, [x0, .ref s1, .ref s2, x3, .int (nI qn), .int (nI rm)])), (s1, .inl (ks1, 40, .inl fcp)), (s2, .inl (ks2, 40, .inl fck))] sz) := by
  refine Met.ofW (cc := cX8_call) (maxL := 3) (ret := (some .int)) (by decide) rfl ?_
  intro p e s m args below meth c s₁ B hml hv
  obtain ⟨rfl, hsz, hN, hP, hK, hD0⟩ := hv
  have hx := B.exec
  have hb := B.bytes
  have hr := B.returns
  have hts0 := atoms_spec (ws := (wq yX8_call cX8_call 3 (some .int))) B.pre
  have hts : ∀ w ∈ BG, w.before _ s = true := fun w h => hts0 w (List.mem_cons_of_mem _ h)
  have hown : s.vm.findClass RX8 = some m.cls := findClass_of_methodNamed B.named
  have hlocks := B.notSynchronized
  subst hsz
  have hD := hD0.self (sz := s.heap.size)
  generalize hAe : va_A [(h0, .inr (7, [.ref p1, u1, u2, u3, u4, .ref p5])), (p1, .inr (1, [w0, w1, w2, w3, w4, w5, .int (nI cn), .int bb])), (p5, .inr (3, [x0, .ref s1, .ref s2, x3, .int (nI qn), .int (nI rm)])), (s1, .inl (ks1, 40, .inl fcp)), (s2, .inl (ks2, 40, .inl fck))] s.heap.size = A at hD ⊢
  have hA : ∀ q : Nat, s.heap.size ≤ q → A q := fun q h => by rw [← hAe]; exact Or.inr h
  have hS : va_S A s.heap s.heap [] := va_S.rf
  clear hAe hD0
  have hP : va_P (dC, dI) vwCl [(h0, .inr (7, [.ref p1, u1, u2, u3, u4, .ref p5])), (p1, .inr (1, [w0, w1, w2, w3, w4, w5, .int (nI cn), .int bb])), (p5, .inr (3, [x0, .ref s1, .ref s2, x3, .int (nI qn), .int (nI rm)])), (s1, .inl (ks1, 40, .inl fcp)), (s2, .inl (ks2, 40, .inl fck))] s.heap := hP
  have hl := lv_entry ([.ref h0, .int n1, .int n2]) (n := 3) (Nat.le_of_ble_eq_true rfl)
  rw [lg_entry_eq]
  generalize (lg_sl ([.ref h0, .int n1, .int n2]) ++ List.replicate (3 - (lg_sl ([.ref h0, .int n1, .int n2])).length) Slot.unset).toArray = ls at hl ⊢
  have hl : lv_has ls 3 [(0, .ref h0), (1, .int n1), (2, .int n2)] := hl
  refine lv_iload_n hx hb dX8_call_0 rfl (lv_at hl 1 rfl) ?_
  have hPc := hP.sub (ws' := []) [] rfl
  have hDc := hD.sub (ws' := []) [] (by decide) rfl
  have hKc := hK.sub (tys' := []) [] rfl
  refine va_calli (va_runS (As := [.int n1]) (rest := []) ⟨hx, hb, hml, hown, hts⟩ (c_isPlace l dC dI s.heap.size n1 ) (va_cwS 1 hts (gS mw_3_85 mw_3_86 mw_1_1 mw_3_87) rfl rfl rfl (by decide +kernel) ⟨Nat.le_of_ble_eq_true rfl, Nat.le_of_ble_eq_true rfl⟩) ⟨pcW_blind, pcW_at hPc hKc hDc hN⟩ rfl rfl hl.1 rfl (lv_room (Nat.le_of_ble_eq_true rfl)) dX8_call_1 ⟨Nat.le_of_ble_eq_true rfl, Nat.le_of_ble_eq_true rfl⟩) hS (fun q h1 h2 => absurd h2 (Nat.not_le.mpr h1)) (fun q h => hA q (Nat.le_trans hS.1 h)) (fun r_1 u t H1 locs ht hvm hw_1 hB hz1 hk1 hS => ?_)
  have hP := keepP hP hk1
  clear hz1 hk1 hB ht hvm hPc hDc hKc
  generalize H1 = H at hP hS ⊢
  rcases fx_bool hw_1 with ⟨rfl, b_2⟩ | ⟨rfl, b_2⟩
  · skip
    refine lv_if_eq (tgt := 18) hx hb dX8_call_4 (by decide) (fun h => absurd h (by decide)) (fun _ => ?_)
    refine lv_aload_n hx hb dX8_call_7 rfl (lv_at hl 0 rfl) ?_
    refine va_get (D := (dC, dI)) (ci := 7) (v := .ref p1) (C := RX8) (T := TX8) (N := 6) hx hb hts inB_8 hown hK hP 0 rfl rfl 0 (by decide) (hts _ mw_1_168) (fun _ h9 => h9) rfl dX8_call_8 ?_
    refine lv_iload_n hx hb dX8_call_11 rfl (lv_at hl 2 rfl) ?_
    have hPc := hP.sub (ws' := [(p1, .inr (1, [w0, w1, w2, w3, w4, w5, .int (nI cn), .int bb]))]) [1] rfl
    have hDc := hD.sub (ws' := [(p1, .inr (1, [w0, w1, w2, w3, w4, w5, .int (nI cn), .int bb]))]) [1] (by decide) rfl
    have hKc := hK.sub (tys' := []) [] rfl
    refine va_calli (va_runV (As := [.int n2]) (rest := []) ⟨hx, hb, hml, hown, hts⟩ (c_knows l dC dI H.size p1 (w0) (w1) (w2) (w3) (w4) (w5) cn (.int bb) n2 hc) (cwV 1 hts (gV mw_1_191 mw_1_192 mw_1_193 mw_1_2 mw_1_194) rfl rfl rfl (by decide +kernel) ⟨Nat.le_of_ble_eq_true rfl, Nat.le_of_ble_eq_true rfl⟩) ⟨pcW_blind, va_recv hKc hPc (ci := 1) (q0 := 0) rfl rfl, pcW_at hPc hKc hDc hN⟩ rfl rfl hl.1 rfl (lv_room (Nat.le_of_ble_eq_true rfl)) dX8_call_12 ⟨Nat.le_of_ble_eq_true rfl, Nat.le_of_ble_eq_true rfl⟩) hS (fun q h1 h2 => absurd h2 (Nat.not_le.mpr h1)) (fun q h => hA q (Nat.le_trans hS.1 h)) (fun r_3 u t H1 locs ht hvm hw_3 hB hz1 hk1 hS => ?_)
    have hP := keepP hP hk1
    clear hz1 hk1 hB ht hvm hPc hDc hKc
    generalize H1 = H at hP hS ⊢
    rcases fx_bool hw_3 with ⟨rfl, b_4⟩ | ⟨rfl, b_4⟩
    · skip
      refine lv_if_ne (tgt := 20) hx hb dX8_call_15 (by decide) (fun _ => ?_) (fun h => absurd h (by decide))
      refine lv_aload_n hx hb dX8_call_20 rfl (lv_at hl 0 rfl) ?_
      refine va_get (D := (dC, dI)) (ci := 7) (v := .ref p5) (C := RX8) (T := TX8) (N := 6) hx hb hts inB_8 hown hK hP 0 rfl rfl 5 (by decide) (hts _ mw_1_173) (fun _ h9 => h9) rfl dX8_call_21 ?_
      have hPc := hP.sub (ws' := [(p5, .inr (3, [x0, .ref s1, .ref s2, x3, .int (nI qn), .int (nI rm)]))]) [2] rfl
      have hDc := hD.sub (ws' := [(p5, .inr (3, [x0, .ref s1, .ref s2, x3, .int (nI qn), .int (nI rm)]))]) [2] (by decide) rfl
      have hKc := hK.sub (tys' := []) [] rfl
      refine va_calli (va_runV (As := []) (rest := []) ⟨hx, hb, hml, hown, hts⟩ (c_plFull l dC dI H.size p5 (x0) (.ref s1) (.ref s2) (x3) qn rm hqn) (cwV 0 hts (gV mw_3_88 mw_3_89 mw_3_90 mw_1_8 mw_3_91) rfl rfl rfl (by decide +kernel) ⟨Nat.le_of_ble_eq_true rfl, Nat.le_of_ble_eq_true rfl⟩) ⟨pcW_blind, va_recv hKc hPc (ci := 3) (q0 := 0) rfl rfl, pcW_at hPc hKc hDc hN⟩ rfl rfl hl.1 rfl (lv_room (Nat.le_of_ble_eq_true rfl)) dX8_call_24 ⟨Nat.le_of_ble_eq_true rfl, Nat.le_of_ble_eq_true rfl⟩) hS (fun q h1 h2 => absurd h2 (Nat.not_le.mpr h1)) (fun q h => hA q (Nat.le_trans hS.1 h)) (fun r_5 u t H1 locs ht hvm hw_5 hB hz1 hk1 hS => ?_)
      have hP := keepP hP hk1
      clear hz1 hk1 hB ht hvm hPc hDc hKc
      generalize H1 = H at hP hS ⊢
      rcases fx_bool hw_5 with ⟨rfl, b_6⟩ | ⟨rfl, b_6⟩
      · skip
        refine lv_if_eq (tgt := 33) hx hb dX8_call_27 (by decide) (fun h => absurd h (by decide)) (fun _ => ?_)
        refine lv_bipush (v := (-4)) hx hb dX8_call_30 (by decide) ?_
        have hP9 := hP.sub (ws' := [(h0, .inr (7, [.ref p1, u1, u2, u3, u4, .ref p5])), (p1, .inr (1, [w0, w1, w2, w3, w4, w5, .int (nI cn), .int bb])), (p5, .inr (3, [x0, .ref s1, .ref s2, x3, .int (nI qn), .int (nI rm)])), (s1, .inl (ks1, 40, .inl fcp)), (s2, .inl (ks2, 40, .inl fck))]) [0, 1, 2, 3, 4] rfl
        have hD9 := hD.sub (ws' := [(h0, .inr (7, [.ref p1, u1, u2, u3, u4, .ref p5])), (p1, .inr (1, [w0, w1, w2, w3, w4, w5, .int (nI cn), .int bb])), (p5, .inr (3, [x0, .ref s1, .ref s2, x3, .int (nI qn), .int (nI rm)])), (s1, .inl (ks1, 40, .inl fcp)), (s2, .inl (ks2, 40, .inl fck))]) [0, 1, 2, 3, 4] (by decide) rfl
        have hK9 := hK.sub (tys' := [(ks1, .int), (ks2, .int)]) [0, 1] rfl
        exact W.iret (v := (-4)) hx hb hr (fun t ht hW => ⟨⟨(-4), (), rfl, (by (unfold F_call; repeat' split) <;> first | rfl | (exfalso; omega)), qn, fcp, fck, (Q_no (v := (-4)) (show ((-4) : Int32) = F_call cn qn n1 n2 from (by (unfold F_call; repeat' split) <;> first | rfl | (exfalso; omega))) (by decide)), hqn, (by (unfold QA_next; repeat' split) <;> first | rfl | assumption | (exfalso; omega)), (by (unfold QA_next; repeat' split) <;> first | rfl | assumption | (exfalso; omega)), by rw [ht]; exact hP9, va_K.moved hW.alike hK9, hD9⟩, hS.F ht⟩) hS.2.2 dX8_call_32
      · skip
        refine lv_if_eq (tgt := 33) hx hb dX8_call_27 (by decide) (fun _ => ?_) (fun h => absurd (by decide) h)
        refine lv_aload_n hx hb dX8_call_33 rfl (lv_at hl 0 rfl) ?_
        refine va_get (D := (dC, dI)) (ci := 7) (v := .ref p5) (C := RX8) (T := TX8) (N := 6) hx hb hts inB_8 hown hK hP 0 rfl rfl 5 (by decide) (hts _ mw_1_173) (fun _ h9 => h9) rfl dX8_call_34 ?_
        refine lv_iload_n hx hb dX8_call_37 rfl (lv_at hl 1 rfl) ?_
        refine lv_iload_n hx hb dX8_call_38 rfl (lv_at hl 2 rfl) ?_
        have hPc := hP.sub (ws' := [(p5, .inr (3, [x0, .ref s1, .ref s2, x3, .int (nI qn), .int (nI rm)])), (s1, .inl (ks1, 40, .inl fcp)), (s2, .inl (ks2, 40, .inl fck))]) [2, 3, 4] rfl
        have hDc := hD.sub (ws' := [(p5, .inr (3, [x0, .ref s1, .ref s2, x3, .int (nI qn), .int (nI rm)])), (s1, .inl (ks1, 40, .inl fcp)), (s2, .inl (ks2, 40, .inl fck))]) [2, 3, 4] (by decide) rfl
        have hKc := hK.sub (tys' := [(ks1, .int), (ks2, .int)]) [0, 1] rfl
        have hFc := va_free (wc := [(p5, .inr (3, [x0, .ref s1, .ref s2, x3, .int (nI qn), .int (nI rm)])), (s1, .inl (ks1, 40, .inl fcp)), (s2, .inl (ks2, 40, .inl fck))]) hD hS hA [2, 3, 4] rfl
        refine va_calli (va_runV (As := [.int n1, .int n2]) (rest := []) ⟨hx, hb, hml, hown, hts⟩ (c_record l dC dI H.size p5 (x0) s1 s2 (x3) qn rm ks1 fcp ks2 fck n1 n2 (by omega)) (cwV 2 hts (gV mw_3_92 mw_3_93 mw_3_94 mw_1_8 mw_3_95) rfl rfl rfl (by decide +kernel) ⟨Nat.le_of_ble_eq_true rfl, Nat.le_of_ble_eq_true rfl⟩) ⟨pcW_blind, va_recv hKc hPc (ci := 3) (q0 := 0) rfl rfl, pcW_at hPc hKc hDc hN⟩ rfl rfl hl.1 rfl (lv_room (Nat.le_of_ble_eq_true rfl)) dX8_call_39 ⟨Nat.le_of_ble_eq_true rfl, Nat.le_of_ble_eq_true rfl⟩) hS (fun q _ h => hFc q h) hFc (fun r_7 u t H1 locs ht hvm hw_7 hB hz1 hk1 hS => ?_)
        obtain ⟨f_8, f_9, p_10, p_11, hP1, hK1, hD1⟩ := hB
        rw [ht] at hP1
        have hK1 := va_K.moved hvm.symm hK1
        obtain ⟨hP, hD⟩ := va_join (wr := [(h0, .inr (7, [.ref p1, u1, u2, u3, u4, .ref p5])), (p1, .inr (1, [w0, w1, w2, w3, w4, w5, .int (nI cn), .int bb]))]) (w1 := [(p5, .inr (3, [x0, .ref s1, .ref s2, x3, .int (nI (qn + 1)), .int (nI rm)])), (s1, .inl (ks1, 40, .inl f_8)), (s2, .inl (ks2, 40, .inl f_9))]) hP hD [2, 3, 4] [0, 1] rfl rfl (by decide) (by decide) hk1 hFc hP1 hD1
        have hK := (hK.sub (tys' := []) [] rfl).app hK1
        clear hz1 hk1 hPc hDc hKc hFc
        generalize H1 = H at hP hS ⊢
        have hK : va_K (dC, dI) vwCl [(ks1, .int), (ks2, .int)] s := hK
        have hP : va_P (dC, dI) vwCl [(h0, .inr (7, [.ref p1, u1, u2, u3, u4, .ref p5])), (p1, .inr (1, [w0, w1, w2, w3, w4, w5, .int (nI cn), .int bb])), (p5, .inr (3, [x0, .ref s1, .ref s2, x3, .int (nI (qn + 1)), .int (nI rm)])), (s1, .inl (ks1, 40, .inl f_8)), (s2, .inl (ks2, 40, .inl f_9))] H := hP
        have hD : va_D A [(h0, .inr (7, [.ref p1, u1, u2, u3, u4, .ref p5])), (p1, .inr (1, [w0, w1, w2, w3, w4, w5, .int (nI cn), .int bb])), (p5, .inr (3, [x0, .ref s1, .ref s2, x3, .int (nI (qn + 1)), .int (nI rm)])), (s1, .inl (ks1, 40, .inl f_8)), (s2, .inl (ks2, 40, .inl f_9))] := hD
        obtain rfl : r_7 = nI (qn + 1) := hw_7
        have hP9 := hP.sub (ws' := [(h0, .inr (7, [.ref p1, u1, u2, u3, u4, .ref p5])), (p1, .inr (1, [w0, w1, w2, w3, w4, w5, .int (nI cn), .int bb])), (p5, .inr (3, [x0, .ref s1, .ref s2, x3, .int (nI (qn + 1)), .int (nI rm)])), (s1, .inl (ks1, 40, .inl f_8)), (s2, .inl (ks2, 40, .inl f_9))]) [0, 1, 2, 3, 4] rfl
        have hD9 := hD.sub (ws' := [(h0, .inr (7, [.ref p1, u1, u2, u3, u4, .ref p5])), (p1, .inr (1, [w0, w1, w2, w3, w4, w5, .int (nI cn), .int bb])), (p5, .inr (3, [x0, .ref s1, .ref s2, x3, .int (nI (qn + 1)), .int (nI rm)])), (s1, .inl (ks1, 40, .inl f_8)), (s2, .inl (ks2, 40, .inl f_9))]) [0, 1, 2, 3, 4] (by decide) rfl
        have hK9 := hK.sub (tys' := [(ks1, .int), (ks2, .int)]) [0, 1] rfl
        exact W.iret (v := (nI (qn + 1))) hx hb hr (fun t ht hW => ⟨⟨(nI (qn + 1)), (), rfl, (by (unfold F_call; repeat' split) <;> first | rfl | (exfalso; omega)), (qn + 1), f_8, f_9, (Q_yes (show (nI (qn + 1)) = F_call cn qn n1 n2 from (by (unfold F_call; repeat' split) <;> first | rfl | (exfalso; omega))) (by omega)), (by omega), (by (unfold QA_next; repeat' split) <;> first | rfl | assumption | (exfalso; omega)), (by (unfold QA_next; repeat' split) <;> first | rfl | assumption | (exfalso; omega)), by rw [ht]; exact hP9, va_K.moved hW.alike hK9, hD9⟩, hS.F ht⟩) hS.2.2 dX8_call_42
    · skip
      refine lv_if_ne (tgt := 20) hx hb dX8_call_15 (by decide) (fun h => absurd h (by decide)) (fun _ => ?_)
      refine lv_iconst (v := (-1)) hx hb dX8_call_18 (by decide) ?_
      have hP9 := hP.sub (ws' := [(h0, .inr (7, [.ref p1, u1, u2, u3, u4, .ref p5])), (p1, .inr (1, [w0, w1, w2, w3, w4, w5, .int (nI cn), .int bb])), (p5, .inr (3, [x0, .ref s1, .ref s2, x3, .int (nI qn), .int (nI rm)])), (s1, .inl (ks1, 40, .inl fcp)), (s2, .inl (ks2, 40, .inl fck))]) [0, 1, 2, 3, 4] rfl
      have hD9 := hD.sub (ws' := [(h0, .inr (7, [.ref p1, u1, u2, u3, u4, .ref p5])), (p1, .inr (1, [w0, w1, w2, w3, w4, w5, .int (nI cn), .int bb])), (p5, .inr (3, [x0, .ref s1, .ref s2, x3, .int (nI qn), .int (nI rm)])), (s1, .inl (ks1, 40, .inl fcp)), (s2, .inl (ks2, 40, .inl fck))]) [0, 1, 2, 3, 4] (by decide) rfl
      have hK9 := hK.sub (tys' := [(ks1, .int), (ks2, .int)]) [0, 1] rfl
      exact W.iret (v := (-1)) hx hb hr (fun t ht hW => ⟨⟨(-1), (), rfl, (by (unfold F_call; repeat' split) <;> first | rfl | (exfalso; omega)), qn, fcp, fck, (Q_no (v := (-1)) (show ((-1) : Int32) = F_call cn qn n1 n2 from (by (unfold F_call; repeat' split) <;> first | rfl | (exfalso; omega))) (by decide)), hqn, (by (unfold QA_next; repeat' split) <;> first | rfl | assumption | (exfalso; omega)), (by (unfold QA_next; repeat' split) <;> first | rfl | assumption | (exfalso; omega)), by rw [ht]; exact hP9, va_K.moved hW.alike hK9, hD9⟩, hS.F ht⟩) hS.2.2 dX8_call_19
  · skip
    refine lv_if_eq (tgt := 18) hx hb dX8_call_4 (by decide) (fun _ => ?_) (fun h => absurd (by decide) h)
    refine lv_iconst (v := (-1)) hx hb dX8_call_18 (by decide) ?_
    have hP9 := hP.sub (ws' := [(h0, .inr (7, [.ref p1, u1, u2, u3, u4, .ref p5])), (p1, .inr (1, [w0, w1, w2, w3, w4, w5, .int (nI cn), .int bb])), (p5, .inr (3, [x0, .ref s1, .ref s2, x3, .int (nI qn), .int (nI rm)])), (s1, .inl (ks1, 40, .inl fcp)), (s2, .inl (ks2, 40, .inl fck))]) [0, 1, 2, 3, 4] rfl
    have hD9 := hD.sub (ws' := [(h0, .inr (7, [.ref p1, u1, u2, u3, u4, .ref p5])), (p1, .inr (1, [w0, w1, w2, w3, w4, w5, .int (nI cn), .int bb])), (p5, .inr (3, [x0, .ref s1, .ref s2, x3, .int (nI qn), .int (nI rm)])), (s1, .inl (ks1, 40, .inl fcp)), (s2, .inl (ks2, 40, .inl fck))]) [0, 1, 2, 3, 4] (by decide) rfl
    have hK9 := hK.sub (tys' := [(ks1, .int), (ks2, .int)]) [0, 1] rfl
    exact W.iret (v := (-1)) hx hb hr (fun t ht hW => ⟨⟨(-1), (), rfl, (by (unfold F_call; repeat' split) <;> first | rfl | (exfalso; omega)), qn, fcp, fck, (Q_no (v := (-1)) (show ((-1) : Int32) = F_call cn qn n1 n2 from (by (unfold F_call; repeat' split) <;> first | rfl | (exfalso; omega))) (by decide)), hqn, (by (unfold QA_next; repeat' split) <;> first | rfl | assumption | (exfalso; omega)), (by (unfold QA_next; repeat' split) <;> first | rfl | assumption | (exfalso; omega)), by rw [ht]; exact hP9, va_K.moved hW.alike hK9, hD9⟩, hS.F ht⟩) hS.2.2 dX8_call_19
set_option maxHeartbeats 4000000 in
set_option maxRecDepth 100000 in
theorem x_forget (l : Launch) (dC : Nat → ClassId) (dI : Nat → Nat → Nat) (sz : Nat) (h0 : Nat) (u0 : Value) (u1 : Value) (u2 : Value) (u3 : Value) (u4 : Value) (p5 : Nat) (x0 : Value) (x1 : Value) (x2 : Value) (x3 : Value) (qn : Nat) (rm : Nat)  : Met l yX8_forget (wq yX8_forget cX8_forget 1 (some .int)) ({ frames := 1, cells := 0, slots := 0, locals := 21 }) (va_Pc [.ref h0] (pcW dC dI [] [(h0, .inr (7, [u0, u1, u2, u3, u4, .ref p5])), (p5, .inr (3, [x0, x1, x2, x3, .int (nI qn), .int (nI rm)]))] sz)) (va_Qi (fun (r : Int32) (_ : Unit) => r = nI qn) (fun _ t => va_P (dC, dI) vwCl [(h0, .inr (7, [u0, u1, u2, u3, u4, .ref p5])), (p5, .inr (3, [x0, x1, x2, x3, .int 0, .int (nI rm)]))] t.heap ∧ va_K (dC, dI) vwCl [] t ∧ va_D (va_A [(h0, .inr (7, [u0, u1, u2, u3, u4, .ref p5])), (p5, .inr (3, [x0, x1, x2, x3, .int (nI qn), .int (nI rm)]))] sz) [(h0, .inr (7, [u0, u1, u2, u3, u4, .ref p5])), (p5, .inr (3, [x0, x1, x2, x3, .int 0, .int (nI rm)]))]) (va_A [(h0, .inr (7, [u0, u1, u2, u3, u4, .ref p5])), (p5, .inr (3, [x0, x1, x2, x3, .int (nI qn), .int (nI rm)]))] sz)) 0 0 (va_A [(h0, .inr (7, [u0, u1, u2, u3, u4, .ref p5])), (p5, .inr (3, [x0, x1, x2, x3, .int (nI qn), .int (nI rm)]))] sz) := by
  refine Met.ofW (cc := cX8_forget) (maxL := 1) (ret := (some .int)) (by decide) rfl ?_
  intro p e s m args below meth c s₁ B hml hv
  obtain ⟨rfl, hsz, hN, hP, hK, hD0⟩ := hv
  have hx := B.exec
  have hb := B.bytes
  have hr := B.returns
  have hts0 := atoms_spec (ws := (wq yX8_forget cX8_forget 1 (some .int))) B.pre
  have hts : ∀ w ∈ BG, w.before _ s = true := fun w h => hts0 w (List.mem_cons_of_mem _ h)
  have hown : s.vm.findClass RX8 = some m.cls := findClass_of_methodNamed B.named
  have hlocks := B.notSynchronized
  subst hsz
  have hD := hD0.self (sz := s.heap.size)
  generalize hAe : va_A [(h0, .inr (7, [u0, u1, u2, u3, u4, .ref p5])), (p5, .inr (3, [x0, x1, x2, x3, .int (nI qn), .int (nI rm)]))] s.heap.size = A at hD ⊢
  have hA : ∀ q : Nat, s.heap.size ≤ q → A q := fun q h => by rw [← hAe]; exact Or.inr h
  have hS : va_S A s.heap s.heap [] := va_S.rf
  clear hAe hD0
  have hP : va_P (dC, dI) vwCl [(h0, .inr (7, [u0, u1, u2, u3, u4, .ref p5])), (p5, .inr (3, [x0, x1, x2, x3, .int (nI qn), .int (nI rm)]))] s.heap := hP
  have hl := lv_entry ([.ref h0]) (n := 1) (Nat.le_of_ble_eq_true rfl)
  rw [lg_entry_eq]
  generalize (lg_sl ([.ref h0]) ++ List.replicate (1 - (lg_sl ([.ref h0])).length) Slot.unset).toArray = ls at hl ⊢
  have hl : lv_has ls 1 [(0, .ref h0)] := hl
  refine lv_aload_n hx hb dX8_forget_0 rfl (lv_at hl 0 rfl) ?_
  refine va_get (D := (dC, dI)) (ci := 7) (v := .ref p5) (C := RX8) (T := TX8) (N := 6) hx hb hts inB_8 hown hK hP 0 rfl rfl 5 (by decide) (hts _ mw_1_173) (fun _ h9 => h9) rfl dX8_forget_1 ?_
  have hPc := hP.sub (ws' := [(p5, .inr (3, [x0, x1, x2, x3, .int (nI qn), .int (nI rm)]))]) [1] rfl
  have hDc := hD.sub (ws' := [(p5, .inr (3, [x0, x1, x2, x3, .int (nI qn), .int (nI rm)]))]) [1] (by decide) rfl
  have hKc := hK.sub (tys' := []) [] rfl
  have hFc := va_free (wc := [(p5, .inr (3, [x0, x1, x2, x3, .int (nI qn), .int (nI rm)]))]) hD hS hA [1] rfl
  refine va_calli (va_runV (As := []) (rest := []) ⟨hx, hb, hml, hown, hts⟩ (c_plClear l dC dI s.heap.size p5 (x0) (x1) (x2) (x3) qn rm ) (cwV 0 hts (gV mw_3_101 mw_3_102 mw_3_103 mw_1_8 mw_3_104) rfl rfl rfl (by decide +kernel) ⟨Nat.le_of_ble_eq_true rfl, Nat.le_of_ble_eq_true rfl⟩) ⟨pcW_blind, va_recv hKc hPc (ci := 3) (q0 := 0) rfl rfl, pcW_at hPc hKc hDc hN⟩ rfl rfl hl.1 rfl (lv_room (Nat.le_of_ble_eq_true rfl)) dX8_forget_4 ⟨Nat.le_of_ble_eq_true rfl, Nat.le_of_ble_eq_true rfl⟩) hS (fun q _ h => hFc q h) hFc (fun r_1 u t H1 locs ht hvm hw_1 hB hz1 hk1 hS => ?_)
  obtain ⟨hP1, hK1, hD1⟩ := hB
  rw [ht] at hP1
  have hK1 := va_K.moved hvm.symm hK1
  obtain ⟨hP, hD⟩ := va_join (wr := [(h0, .inr (7, [u0, u1, u2, u3, u4, .ref p5]))]) (w1 := [(p5, .inr (3, [x0, x1, x2, x3, .int 0, .int (nI rm)]))]) hP hD [1] [0] rfl rfl (by decide) (by decide) hk1 hFc hP1 hD1
  have hK := (hK.sub (tys' := []) [] rfl).app hK1
  clear hz1 hk1 hPc hDc hKc hFc
  generalize H1 = H at hP hS ⊢
  have hK : va_K (dC, dI) vwCl [] s := hK
  have hP : va_P (dC, dI) vwCl [(h0, .inr (7, [u0, u1, u2, u3, u4, .ref p5])), (p5, .inr (3, [x0, x1, x2, x3, .int 0, .int (nI rm)]))] H := hP
  have hD : va_D A [(h0, .inr (7, [u0, u1, u2, u3, u4, .ref p5])), (p5, .inr (3, [x0, x1, x2, x3, .int 0, .int (nI rm)]))] := hD
  obtain rfl : r_1 = nI qn := hw_1
  have hP9 := hP.sub (ws' := [(h0, .inr (7, [u0, u1, u2, u3, u4, .ref p5])), (p5, .inr (3, [x0, x1, x2, x3, .int 0, .int (nI rm)]))]) [0, 1] rfl
  have hD9 := hD.sub (ws' := [(h0, .inr (7, [u0, u1, u2, u3, u4, .ref p5])), (p5, .inr (3, [x0, x1, x2, x3, .int 0, .int (nI rm)]))]) [0, 1] (by decide) rfl
  have hK9 := hK.sub (tys' := []) [] rfl
  exact W.iret (v := (nI qn)) hx hb hr (fun t ht hW => ⟨⟨(nI qn), (), rfl, rfl, by rw [ht]; exact hP9, va_K.moved hW.alike hK9, hD9⟩, hS.F ht⟩) hS.2.2 dX8_forget_7
set_option maxHeartbeats 4000000 in
set_option maxRecDepth 100000 in
theorem x_size (l : Launch) (dC : Nat → ClassId) (dI : Nat → Nat → Nat) (sz : Nat) (h0 : Nat) (u0 : Value) (u1 : Value) (u2 : Value) (u3 : Value) (u4 : Value) (p5 : Nat) (s0 : Nat) (x1 : Value) (x2 : Value) (x3 : Value) (qn : Nat) (rm : Nat) (ks0 : ClassId) (fsz : Nat → Int32) (n1 : Int32) (n2 : Int32)  : Met l yX8_size (wq yX8_size cX8_size 3 (some .int)) ({ frames := 3, cells := 0, slots := 0, locals := 64 }) (va_Pc [.ref h0, .int n1, .int n2] (pcW dC dI [(ks0, .int)] [(h0, .inr (7, [u0, u1, u2, u3, u4, .ref p5])), (p5, .inr (3, [.ref s0, x1, x2, x3, .int (nI qn), .int (nI rm)])), (s0, .inl (ks0, 4, .inl fsz))] sz)) (va_Qi (fun (r : Int32) (_ : Unit) => r = F_size fsz n1 n2) (fun _ t => ∃ (fsz2 : Nat → Int32), (fsz2 = S_next fsz n1 n2) ∧ va_P (dC, dI) vwCl [(h0, .inr (7, [u0, u1, u2, u3, u4, .ref p5])), (p5, .inr (3, [.ref s0, x1, x2, x3, .int (nI qn), .int (nI rm)])), (s0, .inl (ks0, 4, .inl fsz2))] t.heap ∧ va_K (dC, dI) vwCl [(ks0, .int)] t ∧ va_D (va_A [(h0, .inr (7, [u0, u1, u2, u3, u4, .ref p5])), (p5, .inr (3, [.ref s0, x1, x2, x3, .int (nI qn), .int (nI rm)])), (s0, .inl (ks0, 4, .inl fsz))] sz) [(h0, .inr (7, [u0, u1, u2, u3, u4, .ref p5])), (p5, .inr (3, [.ref s0, x1, x2, x3, .int (nI qn), .int (nI rm)])), (s0, .inl (ks0, 4, .inl fsz2))]) (va_A [(h0, .inr (7, [u0, u1, u2, u3, u4, .ref p5])), (p5, .inr (3, [.ref s0, x1, x2, x3, .int (nI qn), .int (nI rm)])), (s0, .inl (ks0, 4, .inl fsz))] sz)) 0 0 (va_A [(h0, .inr (7, [u0, u1, u2, u3, u4, .ref p5])), (p5, .inr (3, [.ref s0, x1, x2, x3, .int (nI qn), .int (nI rm)])), (s0, .inl (ks0, 4, .inl fsz))] sz) := by
  refine Met.ofW (cc := cX8_size) (maxL := 3) (ret := (some .int)) (by decide) rfl ?_
  intro p e s m args below meth c s₁ B hml hv
  obtain ⟨rfl, hsz, hN, hP, hK, hD0⟩ := hv
  have hx := B.exec
  have hb := B.bytes
  have hr := B.returns
  have hts0 := atoms_spec (ws := (wq yX8_size cX8_size 3 (some .int))) B.pre
  have hts : ∀ w ∈ BG, w.before _ s = true := fun w h => hts0 w (List.mem_cons_of_mem _ h)
  have hown : s.vm.findClass RX8 = some m.cls := findClass_of_methodNamed B.named
  have hlocks := B.notSynchronized
  subst hsz
  have hD := hD0.self (sz := s.heap.size)
  generalize hAe : va_A [(h0, .inr (7, [u0, u1, u2, u3, u4, .ref p5])), (p5, .inr (3, [.ref s0, x1, x2, x3, .int (nI qn), .int (nI rm)])), (s0, .inl (ks0, 4, .inl fsz))] s.heap.size = A at hD ⊢
  have hA : ∀ q : Nat, s.heap.size ≤ q → A q := fun q h => by rw [← hAe]; exact Or.inr h
  have hS : va_S A s.heap s.heap [] := va_S.rf
  clear hAe hD0
  have hP : va_P (dC, dI) vwCl [(h0, .inr (7, [u0, u1, u2, u3, u4, .ref p5])), (p5, .inr (3, [.ref s0, x1, x2, x3, .int (nI qn), .int (nI rm)])), (s0, .inl (ks0, 4, .inl fsz))] s.heap := hP
  have hl := lv_entry ([.ref h0, .int n1, .int n2]) (n := 3) (Nat.le_of_ble_eq_true rfl)
  rw [lg_entry_eq]
  generalize (lg_sl ([.ref h0, .int n1, .int n2]) ++ List.replicate (3 - (lg_sl ([.ref h0, .int n1, .int n2])).length) Slot.unset).toArray = ls at hl ⊢
  have hl : lv_has ls 3 [(0, .ref h0), (1, .int n1), (2, .int n2)] := hl
  refine lv_iload_n hx hb dX8_size_0 rfl (lv_at hl 1 rfl) ?_
  have hPc := hP.sub (ws' := []) [] rfl
  have hDc := hD.sub (ws' := []) [] (by decide) rfl
  have hKc := hK.sub (tys' := []) [] rfl
  refine va_calli (va_runS (As := [.int n1]) (rest := []) ⟨hx, hb, hml, hown, hts⟩ (c_isPlace l dC dI s.heap.size n1 ) (va_cwS 1 hts (gS mw_3_85 mw_3_86 mw_1_1 mw_3_87) rfl rfl rfl (by decide +kernel) ⟨Nat.le_of_ble_eq_true rfl, Nat.le_of_ble_eq_true rfl⟩) ⟨pcW_blind, pcW_at hPc hKc hDc hN⟩ rfl rfl hl.1 rfl (lv_room (Nat.le_of_ble_eq_true rfl)) dX8_size_1 ⟨Nat.le_of_ble_eq_true rfl, Nat.le_of_ble_eq_true rfl⟩) hS (fun q h1 h2 => absurd h2 (Nat.not_le.mpr h1)) (fun q h => hA q (Nat.le_trans hS.1 h)) (fun r_1 u t H1 locs ht hvm hw_1 hB hz1 hk1 hS => ?_)
  have hP := keepP hP hk1
  clear hz1 hk1 hB ht hvm hPc hDc hKc
  generalize H1 = H at hP hS ⊢
  rcases fx_bool hw_1 with ⟨rfl, b_2⟩ | ⟨rfl, b_2⟩
  · skip
    refine lv_if_ne (tgt := 9) hx hb dX8_size_4 (by decide) (fun _ => ?_) (fun h => absurd h (by decide))
    refine lv_iload_n hx hb dX8_size_9 rfl (lv_at hl 2 rfl) ?_
    refine lv_iconst (v := 1) hx hb dX8_size_10 (by decide) ?_
    refine lv_icmp_lt (tgt := 19) hx hb dX8_size_11 (by decide) (fun c_3 => ?_) (fun c_3 => ?_)
    · have b_4 := gx_lt (X := (Int32.toInt n2)) (C := 1) rfl (by decide) c_3
      refine lv_bipush (v := (-2)) hx hb dX8_size_19 (by decide) ?_
      have hP9 := hP.sub (ws' := [(h0, .inr (7, [u0, u1, u2, u3, u4, .ref p5])), (p5, .inr (3, [.ref s0, x1, x2, x3, .int (nI qn), .int (nI rm)])), (s0, .inl (ks0, 4, .inl fsz))]) [0, 1, 2] rfl
      have hD9 := hD.sub (ws' := [(h0, .inr (7, [u0, u1, u2, u3, u4, .ref p5])), (p5, .inr (3, [.ref s0, x1, x2, x3, .int (nI qn), .int (nI rm)])), (s0, .inl (ks0, 4, .inl fsz))]) [0, 1, 2] (by decide) rfl
      have hK9 := hK.sub (tys' := [(ks0, .int)]) [0] rfl
      exact W.iret (v := (-2)) hx hb hr (fun t ht hW => ⟨⟨(-2), (), rfl, (by (unfold F_size; repeat' split) <;> first | rfl | (exfalso; omega)), fsz, (show fsz = S_next fsz n1 n2 from (by (unfold S_next; repeat' split) <;> first | rfl | (exfalso; omega))), by rw [ht]; exact hP9, va_K.moved hW.alike hK9, hD9⟩, hS.F ht⟩) hS.2.2 dX8_size_21
    · have b_4 := gn_lt (X := (Int32.toInt n2)) (C := 1) rfl (by decide) c_3
      refine lv_iload_n hx hb dX8_size_14 rfl (lv_at hl 2 rfl) ?_
      refine lv_iconst (v := 4) hx hb dX8_size_15 (by decide) ?_
      refine lv_icmp_le (tgt := 22) hx hb dX8_size_16 (by decide) (fun c_5 => ?_) (fun c_5 => ?_)
      · have b_6 := gx_le (X := (Int32.toInt n2)) (C := 4) rfl (by decide) c_5
        obtain ⟨j_7, tj_7, ej_7⟩ := fx_nat (x := n1) (by omega)
        subst ej_7
        have yj_7 : Int32.toInt (nI j_7) = (j_7 : Int) := nI_toInt tj_7
        refine lv_aload_n hx hb dX8_size_22 rfl (lv_at hl 0 rfl) ?_
        refine va_get (D := (dC, dI)) (ci := 7) (v := .ref p5) (C := RX8) (T := TX8) (N := 6) hx hb hts inB_8 hown hK hP 0 rfl rfl 5 (by decide) (hts _ mw_1_173) (fun _ h9 => h9) rfl dX8_size_23 ?_
        refine lv_iload_n hx hb dX8_size_26 rfl (lv_at hl 1 rfl) ?_
        refine lv_iload_n hx hb dX8_size_27 rfl (lv_at hl 2 rfl) ?_
        have hPc := hP.sub (ws' := [(p5, .inr (3, [.ref s0, x1, x2, x3, .int (nI qn), .int (nI rm)])), (s0, .inl (ks0, 4, .inl fsz))]) [1, 2] rfl
        have hDc := hD.sub (ws' := [(p5, .inr (3, [.ref s0, x1, x2, x3, .int (nI qn), .int (nI rm)])), (s0, .inl (ks0, 4, .inl fsz))]) [1, 2] (by decide) rfl
        have hKc := hK.sub (tys' := [(ks0, .int)]) [0] rfl
        have hFc := va_free (wc := [(p5, .inr (3, [.ref s0, x1, x2, x3, .int (nI qn), .int (nI rm)])), (s0, .inl (ks0, 4, .inl fsz))]) hD hS hA [1, 2] rfl
        refine va_calli (va_runV (As := [.int (nI j_7), .int n2]) (rest := []) ⟨hx, hb, hml, hown, hts⟩ (c_resize l dC dI H.size p5 s0 (x1) (x2) (x3) qn rm ks0 fsz j_7 n2 (by omega)) (cwV 2 hts (gV mw_3_109 mw_3_110 mw_3_111 mw_1_8 mw_3_112) rfl rfl rfl (by decide +kernel) ⟨Nat.le_of_ble_eq_true rfl, Nat.le_of_ble_eq_true rfl⟩) ⟨pcW_blind, va_recv hKc hPc (ci := 3) (q0 := 0) rfl rfl, pcW_at hPc hKc hDc hN⟩ rfl rfl hl.1 rfl (lv_room (Nat.le_of_ble_eq_true rfl)) dX8_size_28 ⟨Nat.le_of_ble_eq_true rfl, Nat.le_of_ble_eq_true rfl⟩) hS (fun q _ h => hFc q h) hFc (fun r_8 u t H1 locs ht hvm hw_8 hB hz1 hk1 hS => ?_)
        obtain ⟨f_9, p_10, hP1, hK1, hD1⟩ := hB
        rw [ht] at hP1
        have hK1 := va_K.moved hvm.symm hK1
        obtain ⟨hP, hD⟩ := va_join (wr := [(h0, .inr (7, [u0, u1, u2, u3, u4, .ref p5]))]) (w1 := [(p5, .inr (3, [.ref s0, x1, x2, x3, .int (nI qn), .int (nI rm)])), (s0, .inl (ks0, 4, .inl f_9))]) hP hD [1, 2] [0] rfl rfl (by decide) (by decide) hk1 hFc hP1 hD1
        have hK := (hK.sub (tys' := []) [] rfl).app hK1
        clear hz1 hk1 hPc hDc hKc hFc
        generalize H1 = H at hP hS ⊢
        have hK : va_K (dC, dI) vwCl [(ks0, .int)] s := hK
        have hP : va_P (dC, dI) vwCl [(h0, .inr (7, [u0, u1, u2, u3, u4, .ref p5])), (p5, .inr (3, [.ref s0, x1, x2, x3, .int (nI qn), .int (nI rm)])), (s0, .inl (ks0, 4, .inl f_9))] H := hP
        have hD : va_D A [(h0, .inr (7, [u0, u1, u2, u3, u4, .ref p5])), (p5, .inr (3, [.ref s0, x1, x2, x3, .int (nI qn), .int (nI rm)])), (s0, .inl (ks0, 4, .inl f_9))] := hD
        obtain rfl : r_8 = (fsz j_7) := hw_8
        have hP9 := hP.sub (ws' := [(h0, .inr (7, [u0, u1, u2, u3, u4, .ref p5])), (p5, .inr (3, [.ref s0, x1, x2, x3, .int (nI qn), .int (nI rm)])), (s0, .inl (ks0, 4, .inl f_9))]) [0, 1, 2] rfl
        have hD9 := hD.sub (ws' := [(h0, .inr (7, [u0, u1, u2, u3, u4, .ref p5])), (p5, .inr (3, [.ref s0, x1, x2, x3, .int (nI qn), .int (nI rm)])), (s0, .inl (ks0, 4, .inl f_9))]) [0, 1, 2] (by decide) rfl
        have hK9 := hK.sub (tys' := [(ks0, .int)]) [0] rfl
        exact W.iret (v := (fsz j_7)) hx hb hr (fun t ht hW => ⟨⟨(fsz j_7), (), rfl, (by (unfold F_size; repeat' split) <;> first | (exfalso; omega) | rw [nI_clamp (by omega)]), f_9, (p_10.trans (show _ = S_next fsz (nI j_7) n2 from by (unfold S_next; repeat' split) <;> first | (exfalso; omega) | rw [nI_clamp (by omega)])), by rw [ht]; exact hP9, va_K.moved hW.alike hK9, hD9⟩, hS.F ht⟩) hS.2.2 dX8_size_31
      · have b_6 := gn_le (X := (Int32.toInt n2)) (C := 4) rfl (by decide) c_5
        refine lv_bipush (v := (-2)) hx hb dX8_size_19 (by decide) ?_
        have hP9 := hP.sub (ws' := [(h0, .inr (7, [u0, u1, u2, u3, u4, .ref p5])), (p5, .inr (3, [.ref s0, x1, x2, x3, .int (nI qn), .int (nI rm)])), (s0, .inl (ks0, 4, .inl fsz))]) [0, 1, 2] rfl
        have hD9 := hD.sub (ws' := [(h0, .inr (7, [u0, u1, u2, u3, u4, .ref p5])), (p5, .inr (3, [.ref s0, x1, x2, x3, .int (nI qn), .int (nI rm)])), (s0, .inl (ks0, 4, .inl fsz))]) [0, 1, 2] (by decide) rfl
        have hK9 := hK.sub (tys' := [(ks0, .int)]) [0] rfl
        exact W.iret (v := (-2)) hx hb hr (fun t ht hW => ⟨⟨(-2), (), rfl, (by (unfold F_size; repeat' split) <;> first | rfl | (exfalso; omega)), fsz, (show fsz = S_next fsz n1 n2 from (by (unfold S_next; repeat' split) <;> first | rfl | (exfalso; omega))), by rw [ht]; exact hP9, va_K.moved hW.alike hK9, hD9⟩, hS.F ht⟩) hS.2.2 dX8_size_21
  · skip
    refine lv_if_ne (tgt := 9) hx hb dX8_size_4 (by decide) (fun h => absurd h (by decide)) (fun _ => ?_)
    refine lv_iconst (v := (-1)) hx hb dX8_size_7 (by decide) ?_
    have hP9 := hP.sub (ws' := [(h0, .inr (7, [u0, u1, u2, u3, u4, .ref p5])), (p5, .inr (3, [.ref s0, x1, x2, x3, .int (nI qn), .int (nI rm)])), (s0, .inl (ks0, 4, .inl fsz))]) [0, 1, 2] rfl
    have hD9 := hD.sub (ws' := [(h0, .inr (7, [u0, u1, u2, u3, u4, .ref p5])), (p5, .inr (3, [.ref s0, x1, x2, x3, .int (nI qn), .int (nI rm)])), (s0, .inl (ks0, 4, .inl fsz))]) [0, 1, 2] (by decide) rfl
    have hK9 := hK.sub (tys' := [(ks0, .int)]) [0] rfl
    exact W.iret (v := (-1)) hx hb hr (fun t ht hW => ⟨⟨(-1), (), rfl, (by (unfold F_size; repeat' split) <;> first | rfl | (exfalso; omega)), fsz, (show fsz = S_next fsz n1 n2 from (by (unfold S_next; repeat' split) <;> first | rfl | (exfalso; omega))), by rw [ht]; exact hP9, va_K.moved hW.alike hK9, hD9⟩, hS.F ht⟩) hS.2.2 dX8_size_8
set_option maxHeartbeats 4000000 in
set_option maxRecDepth 100000 in
theorem x_hits (l : Launch) (dC : Nat → ClassId) (dI : Nat → Nat → Nat) (sz : Nat) (h0 : Nat) (u0 : Value) (u1 : Value) (u2 : Value) (u3 : Value) (u4 : Value) (p5 : Nat) (s0 : Nat) (s1 : Nat) (s2 : Nat) (s3 : Nat) (qn : Nat) (rm : Nat) (ks1 : ClassId) (fcp : Nat → Int32) (ks2 : ClassId) (fck : Nat → Int32) (ks0 : ClassId) (fsz : Nat → Int32) (ks3 : ClassId) (frc : Nat → Int32) (n1 : Int32) (n2 : Int32) (hqn : qn ≤ 40) (hrm : rm ≤ 4) (hsz : SzOk fsz) (hck : ∀ i, i < qn → ∃ q : Nat, q < 10 ∧ fck i = nI q) : Met l yX8_hits (wq yX8_hits cX8_hits 3 (some .int)) ({ frames := 3, cells := 0, slots := 0, locals := 71 }) (va_Pc [.ref h0, .int n1, .int n2] (pcW dC dI [(ks1, .int), (ks2, .int), (ks0, .int), (ks3, .int)] [(h0, .inr (7, [u0, u1, u2, u3, u4, .ref p5])), (p5, .inr (3, [.ref s0, .ref s1, .ref s2, .ref s3, .int (nI qn), .int (nI rm)])), (s1, .inl (ks1, 40, .inl fcp)), (s2, .inl (ks2, 40, .inl fck)), (s0, .inl (ks0, 4, .inl fsz)), (s3, .inl (ks3, 4, .inl frc))] sz)) (va_Qi (fun (r : Int32) (_ : Unit) => r = F_hits (nI (cAt fcp n1 qn)) (nI (lruH fcp fck n1 (fsz n1.toNatClampNeg).toNatClampNeg qn)) (nI (bsC fcp fck n1 (fsz n1.toNatClampNeg).toNatClampNeg qn qn).2) (ltF (lruN fcp fck n1 (fsz n1.toNatClampNeg).toNatClampNeg qn) (lruR fcp fck n1 (fsz n1.toNatClampNeg).toNatClampNeg qn)) n1 n2) (fun _ t => ∃ (rm2 : Nat) (frc2 : Nat → Int32), (rm2 ≤ 4) ∧ va_P (dC, dI) vwCl [(h0, .inr (7, [u0, u1, u2, u3, u4, .ref p5])), (p5, .inr (3, [.ref s0, .ref s1, .ref s2, .ref s3, .int (nI qn), .int (nI rm2)])), (s1, .inl (ks1, 40, .inl fcp)), (s2, .inl (ks2, 40, .inl fck)), (s0, .inl (ks0, 4, .inl fsz)), (s3, .inl (ks3, 4, .inl frc2))] t.heap ∧ va_K (dC, dI) vwCl [(ks1, .int), (ks2, .int), (ks0, .int), (ks3, .int)] t ∧ va_D (va_A [(h0, .inr (7, [u0, u1, u2, u3, u4, .ref p5])), (p5, .inr (3, [.ref s0, .ref s1, .ref s2, .ref s3, .int (nI qn), .int (nI rm)])), (s1, .inl (ks1, 40, .inl fcp)), (s2, .inl (ks2, 40, .inl fck)), (s0, .inl (ks0, 4, .inl fsz)), (s3, .inl (ks3, 4, .inl frc))] sz) [(h0, .inr (7, [u0, u1, u2, u3, u4, .ref p5])), (p5, .inr (3, [.ref s0, .ref s1, .ref s2, .ref s3, .int (nI qn), .int (nI rm2)])), (s1, .inl (ks1, 40, .inl fcp)), (s2, .inl (ks2, 40, .inl fck)), (s0, .inl (ks0, 4, .inl fsz)), (s3, .inl (ks3, 4, .inl frc2))]) (va_A [(h0, .inr (7, [u0, u1, u2, u3, u4, .ref p5])), (p5, .inr (3, [.ref s0, .ref s1, .ref s2, .ref s3, .int (nI qn), .int (nI rm)])), (s1, .inl (ks1, 40, .inl fcp)), (s2, .inl (ks2, 40, .inl fck)), (s0, .inl (ks0, 4, .inl fsz)), (s3, .inl (ks3, 4, .inl frc))] sz)) 0 0 (va_A [(h0, .inr (7, [u0, u1, u2, u3, u4, .ref p5])), (p5, .inr (3, [.ref s0, .ref s1, .ref s2, .ref s3, .int (nI qn), .int (nI rm)])), (s1, .inl (ks1, 40, .inl fcp)), (s2, .inl (ks2, 40, .inl fck)), (s0, .inl (ks0, 4, .inl fsz)), (s3, .inl (ks3, 4, .inl frc))] sz) := by
  refine Met.ofW (cc := cX8_hits) (maxL := 3) (ret := (some .int)) (by decide) rfl ?_
  intro p e s m args below meth c s₁ B hml hv
  obtain ⟨rfl, hsz, hN, hP, hK, hD0⟩ := hv
  have hx := B.exec
  have hb := B.bytes
  have hr := B.returns
  have hts0 := atoms_spec (ws := (wq yX8_hits cX8_hits 3 (some .int))) B.pre
  have hts : ∀ w ∈ BG, w.before _ s = true := fun w h => hts0 w (List.mem_cons_of_mem _ h)
  have hown : s.vm.findClass RX8 = some m.cls := findClass_of_methodNamed B.named
  have hlocks := B.notSynchronized
  subst hsz
  have hD := hD0.self (sz := s.heap.size)
  generalize hAe : va_A [(h0, .inr (7, [u0, u1, u2, u3, u4, .ref p5])), (p5, .inr (3, [.ref s0, .ref s1, .ref s2, .ref s3, .int (nI qn), .int (nI rm)])), (s1, .inl (ks1, 40, .inl fcp)), (s2, .inl (ks2, 40, .inl fck)), (s0, .inl (ks0, 4, .inl fsz)), (s3, .inl (ks3, 4, .inl frc))] s.heap.size = A at hD ⊢
  have hA : ∀ q : Nat, s.heap.size ≤ q → A q := fun q h => by rw [← hAe]; exact Or.inr h
  have hS : va_S A s.heap s.heap [] := va_S.rf
  clear hAe hD0
  have hP : va_P (dC, dI) vwCl [(h0, .inr (7, [u0, u1, u2, u3, u4, .ref p5])), (p5, .inr (3, [.ref s0, .ref s1, .ref s2, .ref s3, .int (nI qn), .int (nI rm)])), (s1, .inl (ks1, 40, .inl fcp)), (s2, .inl (ks2, 40, .inl fck)), (s0, .inl (ks0, 4, .inl fsz)), (s3, .inl (ks3, 4, .inl frc))] s.heap := hP
  have hl := lv_entry ([.ref h0, .int n1, .int n2]) (n := 3) (Nat.le_of_ble_eq_true rfl)
  rw [lg_entry_eq]
  generalize (lg_sl ([.ref h0, .int n1, .int n2]) ++ List.replicate (3 - (lg_sl ([.ref h0, .int n1, .int n2])).length) Slot.unset).toArray = ls at hl ⊢
  have hl : lv_has ls 3 [(0, .ref h0), (1, .int n1), (2, .int n2)] := hl
  refine lv_iload_n hx hb dX8_hits_0 rfl (lv_at hl 1 rfl) ?_
  have hPc := hP.sub (ws' := []) [] rfl
  have hDc := hD.sub (ws' := []) [] (by decide) rfl
  have hKc := hK.sub (tys' := []) [] rfl
  refine va_calli (va_runS (As := [.int n1]) (rest := []) ⟨hx, hb, hml, hown, hts⟩ (c_isPlace l dC dI s.heap.size n1 ) (va_cwS 1 hts (gS mw_3_85 mw_3_86 mw_1_1 mw_3_87) rfl rfl rfl (by decide +kernel) ⟨Nat.le_of_ble_eq_true rfl, Nat.le_of_ble_eq_true rfl⟩) ⟨pcW_blind, pcW_at hPc hKc hDc hN⟩ rfl rfl hl.1 rfl (lv_room (Nat.le_of_ble_eq_true rfl)) dX8_hits_1 ⟨Nat.le_of_ble_eq_true rfl, Nat.le_of_ble_eq_true rfl⟩) hS (fun q h1 h2 => absurd h2 (Nat.not_le.mpr h1)) (fun q h => hA q (Nat.le_trans hS.1 h)) (fun r_1 u t H1 locs ht hvm hw_1 hB hz1 hk1 hS => ?_)
  have hP := keepP hP hk1
  clear hz1 hk1 hB ht hvm hPc hDc hKc
  generalize H1 = H at hP hS ⊢
  rcases fx_bool hw_1 with ⟨rfl, b_2⟩ | ⟨rfl, b_2⟩
  · skip
    refine lv_if_ne (tgt := 9) hx hb dX8_hits_4 (by decide) (fun _ => ?_) (fun h => absurd h (by decide))
    obtain ⟨j_3, tj_3, ej_3⟩ := fx_nat (x := n1) (by omega)
    subst ej_3
    have yj_3 : Int32.toInt (nI j_3) = (j_3 : Int) := nI_toInt tj_3
    refine lv_iload_n hx hb dX8_hits_9 rfl (lv_at hl 2 rfl) ?_
    refine lv_if_ne (tgt := 22) hx hb dX8_hits_10 (by decide) (fun c_4 => ?_) (fun c_4 => ?_)
    · have b_5 := gx_ne (X := (Int32.toInt n2)) (C := 0) rfl (by decide) c_4
      refine lv_iload_n hx hb dX8_hits_22 rfl (lv_at hl 2 rfl) ?_
      refine lv_iconst (v := 1) hx hb dX8_hits_23 (by decide) ?_
      refine lv_icmp_ne (tgt := 44) hx hb dX8_hits_24 (by decide) (fun c_6 => ?_) (fun c_6 => ?_)
      · have b_7 := gx_ne (X := (Int32.toInt n2)) (C := 1) rfl (by decide) c_6
        refine lv_iload_n hx hb dX8_hits_44 rfl (lv_at hl 2 rfl) ?_
        refine lv_iconst (v := 2) hx hb dX8_hits_45 (by decide) ?_
        refine lv_icmp_ne (tgt := 58) hx hb dX8_hits_46 (by decide) (fun c_8 => ?_) (fun c_8 => ?_)
        · have b_9 := gx_ne (X := (Int32.toInt n2)) (C := 2) rfl (by decide) c_8
          refine lv_iload_n hx hb dX8_hits_58 rfl (lv_at hl 2 rfl) ?_
          refine lv_bipush (v := 10) hx hb dX8_hits_59 (by decide) ?_
          refine lv_icmp_lt (tgt := 70) hx hb dX8_hits_61 (by decide) (fun c_10 => ?_) (fun c_10 => ?_)
          · have b_11 := gx_lt (X := (Int32.toInt n2)) (C := 10) rfl (by decide) c_10
            refine lv_bipush (v := (-2)) hx hb dX8_hits_70 (by decide) ?_
            have hP9 := hP.sub (ws' := [(h0, .inr (7, [u0, u1, u2, u3, u4, .ref p5])), (p5, .inr (3, [.ref s0, .ref s1, .ref s2, .ref s3, .int (nI qn), .int (nI rm)])), (s1, .inl (ks1, 40, .inl fcp)), (s2, .inl (ks2, 40, .inl fck)), (s0, .inl (ks0, 4, .inl fsz)), (s3, .inl (ks3, 4, .inl frc))]) [0, 1, 2, 3, 4, 5] rfl
            have hD9 := hD.sub (ws' := [(h0, .inr (7, [u0, u1, u2, u3, u4, .ref p5])), (p5, .inr (3, [.ref s0, .ref s1, .ref s2, .ref s3, .int (nI qn), .int (nI rm)])), (s1, .inl (ks1, 40, .inl fcp)), (s2, .inl (ks2, 40, .inl fck)), (s0, .inl (ks0, 4, .inl fsz)), (s3, .inl (ks3, 4, .inl frc))]) [0, 1, 2, 3, 4, 5] (by decide) rfl
            have hK9 := hK.sub (tys' := [(ks1, .int), (ks2, .int), (ks0, .int), (ks3, .int)]) [0, 1, 2, 3] rfl
            exact W.iret (v := (-2)) hx hb hr (fun t ht hW => ⟨⟨(-2), (), rfl, (hf_m2 (by omega) (by omega)), rm, frc, hrm, by rw [ht]; exact hP9, va_K.moved hW.alike hK9, hD9⟩, hS.F ht⟩) hS.2.2 dX8_hits_72
          · have b_11 := gn_lt (X := (Int32.toInt n2)) (C := 10) rfl (by decide) c_10
            refine lv_iload_n hx hb dX8_hits_64 rfl (lv_at hl 2 rfl) ?_
            refine lv_bipush (v := 14) hx hb dX8_hits_65 (by decide) ?_
            refine lv_icmp_lt (tgt := 73) hx hb dX8_hits_67 (by decide) (fun c_12 => ?_) (fun c_12 => ?_)
            · have b_13 := gx_lt (X := (Int32.toInt n2)) (C := 14) rfl (by decide) c_12
              refine lv_aload_n hx hb dX8_hits_73 rfl (lv_at hl 0 rfl) ?_
              refine va_get (D := (dC, dI)) (ci := 7) (v := .ref p5) (C := RX8) (T := TX8) (N := 6) hx hb hts inB_8 hown hK hP 0 rfl rfl 5 (by decide) (hts _ mw_1_173) (fun _ h9 => h9) rfl dX8_hits_74 ?_
              refine lv_iload_n hx hb dX8_hits_77 rfl (lv_at hl 1 rfl) ?_
              refine lv_aload_n hx hb dX8_hits_78 rfl (lv_at hl 0 rfl) ?_
              refine va_get (D := (dC, dI)) (ci := 7) (v := .ref p5) (C := RX8) (T := TX8) (N := 6) hx hb hts inB_8 hown hK hP 0 rfl rfl 5 (by decide) (hts _ mw_1_173) (fun _ h9 => h9) rfl dX8_hits_79 ?_
              refine lv_iload_n hx hb dX8_hits_82 rfl (lv_at hl 1 rfl) ?_
              have hPc := hP.sub (ws' := [(p5, .inr (3, [.ref s0, .ref s1, .ref s2, .ref s3, .int (nI qn), .int (nI rm)])), (s0, .inl (ks0, 4, .inl fsz))]) [1, 4] rfl
              have hDc := hD.sub (ws' := [(p5, .inr (3, [.ref s0, .ref s1, .ref s2, .ref s3, .int (nI qn), .int (nI rm)])), (s0, .inl (ks0, 4, .inl fsz))]) [1, 4] (by decide) rfl
              have hKc := hK.sub (tys' := [(ks0, .int)]) [2] rfl
              refine va_calli (va_runV (As := [.int (nI j_3)]) (rest := [.int (nI j_3), .ref p5]) ⟨hx, hb, hml, hown, hts⟩ (c_sizeOf l dC dI H.size p5 s0 (.ref s1) (.ref s2) (.ref s3) qn rm ks0 fsz j_3 (by omega)) (cwV 1 hts (gV mw_3_126 mw_3_114 mw_3_115 mw_1_8 mw_3_116) rfl rfl rfl (by decide +kernel) ⟨Nat.le_of_ble_eq_true rfl, Nat.le_of_ble_eq_true rfl⟩) ⟨pcW_blind, va_recv hKc hPc (ci := 3) (q0 := 0) rfl rfl, pcW_at hPc hKc hDc hN⟩ rfl rfl hl.1 rfl (lv_room (Nat.le_of_ble_eq_true rfl)) dX8_hits_83 ⟨Nat.le_of_ble_eq_true rfl, Nat.le_of_ble_eq_true rfl⟩) hS (fun q h1 h2 => absurd h2 (Nat.not_le.mpr h1)) (fun q h => hA q (Nat.le_trans hS.1 h)) (fun r_14 u t H1 locs ht hvm hw_14 hB hz1 hk1 hS => ?_)
              have hP := keepP hP hk1
              clear hz1 hk1 hB ht hvm hPc hDc hKc
              generalize H1 = H at hP hS ⊢
              obtain rfl : r_14 = (fsz j_3) := hw_14
              obtain ⟨n_15, hn_15, en_15⟩ := hsz j_3 (by omega)
              refine hx_top (y := (nI n_15)) en_15 ?_
              have hPc := hP.sub (ws' := [(p5, .inr (3, [.ref s0, .ref s1, .ref s2, .ref s3, .int (nI qn), .int (nI rm)])), (s1, .inl (ks1, 40, .inl fcp)), (s2, .inl (ks2, 40, .inl fck)), (s3, .inl (ks3, 4, .inl frc))]) [1, 2, 3, 5] rfl
              have hDc := hD.sub (ws' := [(p5, .inr (3, [.ref s0, .ref s1, .ref s2, .ref s3, .int (nI qn), .int (nI rm)])), (s1, .inl (ks1, 40, .inl fcp)), (s2, .inl (ks2, 40, .inl fck)), (s3, .inl (ks3, 4, .inl frc))]) [1, 2, 3, 5] (by decide) rfl
              have hKc := hK.sub (tys' := [(ks1, .int), (ks2, .int), (ks3, .int)]) [0, 1, 3] rfl
              have hFc := va_free (wc := [(p5, .inr (3, [.ref s0, .ref s1, .ref s2, .ref s3, .int (nI qn), .int (nI rm)])), (s1, .inl (ks1, 40, .inl fcp)), (s2, .inl (ks2, 40, .inl fck)), (s3, .inl (ks3, 4, .inl frc))]) hD hS hA [1, 2, 3, 5] rfl
              refine va_calli (va_runV (As := [.int (nI j_3), .int (nI n_15)]) (rest := []) ⟨hx, hb, hml, hown, hts⟩ (c_hbs l dC dI H.size p5 (.ref s0) s1 s2 s3 qn rm ks1 fcp ks2 fck ks3 frc (nI j_3) n_15 hqn (by omega) (by omega)) (cwV 2 hts (gV mw_3_127 mw_3_128 mw_3_129 mw_1_8 mw_3_130) rfl rfl rfl (by decide +kernel) ⟨Nat.le_of_ble_eq_true rfl, Nat.le_of_ble_eq_true rfl⟩) ⟨pcW_blind, va_recv hKc hPc (ci := 3) (q0 := 0) rfl rfl, pcW_at hPc hKc hDc hN⟩ rfl rfl hl.1 rfl (lv_room (Nat.le_of_ble_eq_true rfl)) dX8_hits_86 ⟨Nat.le_of_ble_eq_true rfl, Nat.le_of_ble_eq_true rfl⟩) hS (fun q _ h => hFc q h) hFc (fun r_16 u t H1 locs ht hvm hw_16 hB hz1 hk1 hS => ?_)
              obtain ⟨q_17, f_18, p_19, p_20, hP1, hK1, hD1⟩ := hB
              rw [ht] at hP1
              have hK1 := va_K.moved hvm.symm hK1
              obtain ⟨hP, hD⟩ := va_join (wr := [(h0, .inr (7, [u0, u1, u2, u3, u4, .ref p5])), (s0, .inl (ks0, 4, .inl fsz))]) (w1 := [(p5, .inr (3, [.ref s0, .ref s1, .ref s2, .ref s3, .int (nI qn), .int (nI q_17)])), (s1, .inl (ks1, 40, .inl fcp)), (s2, .inl (ks2, 40, .inl fck)), (s3, .inl (ks3, 4, .inl f_18))]) hP hD [1, 2, 3, 5] [0, 4] rfl rfl (by decide) (by decide) hk1 hFc hP1 hD1
              have hK := (hK.sub (tys' := [(ks0, .int)]) [2] rfl).app hK1
              clear hz1 hk1 hPc hDc hKc hFc
              generalize H1 = H at hP hS ⊢
              have hK : va_K (dC, dI) vwCl [(ks0, .int), (ks1, .int), (ks2, .int), (ks3, .int)] s := hK
              have hP : va_P (dC, dI) vwCl [(h0, .inr (7, [u0, u1, u2, u3, u4, .ref p5])), (s0, .inl (ks0, 4, .inl fsz)), (p5, .inr (3, [.ref s0, .ref s1, .ref s2, .ref s3, .int (nI qn), .int (nI q_17)])), (s1, .inl (ks1, 40, .inl fcp)), (s2, .inl (ks2, 40, .inl fck)), (s3, .inl (ks3, 4, .inl f_18))] H := hP
              have hD : va_D A [(h0, .inr (7, [u0, u1, u2, u3, u4, .ref p5])), (s0, .inl (ks0, 4, .inl fsz)), (p5, .inr (3, [.ref s0, .ref s1, .ref s2, .ref s3, .int (nI qn), .int (nI q_17)])), (s1, .inl (ks1, 40, .inl fcp)), (s2, .inl (ks2, 40, .inl fck)), (s3, .inl (ks3, 4, .inl f_18))] := hD
              obtain rfl : r_16 = nI (lruH fcp fck (nI j_3) n_15 qn) := hw_16
              have b_21 := (lruH_le (by omega) : lruH fcp fck (nI j_3) n_15 qn ≤ qn)
              refine lv_pop hx hb dX8_hits_89 rfl ?_
              refine lv_aload_n hx hb dX8_hits_90 rfl (lv_at hl 0 rfl) ?_
              refine va_get (D := (dC, dI)) (ci := 7) (v := .ref p5) (C := RX8) (T := TX8) (N := 6) hx hb hts inB_8 hown hK hP 0 rfl rfl 5 (by decide) (hts _ mw_1_173) (fun _ h9 => h9) rfl dX8_hits_91 ?_
              refine lv_iload_n hx hb dX8_hits_94 rfl (lv_at hl 2 rfl) ?_
              refine lv_bipush (v := 10) hx hb dX8_hits_95 (by decide) ?_
              refine lv_isub hx hb dX8_hits_97 ?_
              refine lv_topi (fun z_22 ez_22 => ?_)
              have gz_22 := fx_rng n2
              have fz_22 : Int32.toInt z_22 = (Int32.toInt n2) - 10 := by rw [ez_22]; exact gx_sub (X := (Int32.toInt n2)) (C := 10) rfl (by decide) (by omega) (by omega)
              obtain ⟨j_23, tj_23, ej_23⟩ := fx_nat (x := z_22) (by omega)
              subst ej_23
              have yj_23 : Int32.toInt (nI j_23) = (j_23 : Int) := nI_toInt tj_23
              have hPc := hP.sub (ws' := [(p5, .inr (3, [.ref s0, .ref s1, .ref s2, .ref s3, .int (nI qn), .int (nI q_17)])), (s3, .inl (ks3, 4, .inl f_18))]) [2, 5] rfl
              have hDc := hD.sub (ws' := [(p5, .inr (3, [.ref s0, .ref s1, .ref s2, .ref s3, .int (nI qn), .int (nI q_17)])), (s3, .inl (ks3, 4, .inl f_18))]) [2, 5] (by decide) rfl
              have hKc := hK.sub (tys' := [(ks3, .int)]) [3] rfl
              refine va_calli (va_runV (As := [.int (nI j_23)]) (rest := []) ⟨hx, hb, hml, hown, hts⟩ (c_latest l dC dI H.size p5 (.ref s0) (.ref s1) (.ref s2) s3 qn q_17 ks3 f_18 j_23 p_19 (by omega)) (cwV 1 hts (gV mw_3_153 mw_3_154 mw_3_155 mw_1_8 mw_3_156) rfl rfl rfl (by decide +kernel) ⟨Nat.le_of_ble_eq_true rfl, Nat.le_of_ble_eq_true rfl⟩) ⟨pcW_blind, va_recv hKc hPc (ci := 3) (q0 := 0) rfl rfl, pcW_at hPc hKc hDc hN⟩ rfl rfl hl.1 rfl (lv_room (Nat.le_of_ble_eq_true rfl)) dX8_hits_98 ⟨Nat.le_of_ble_eq_true rfl, Nat.le_of_ble_eq_true rfl⟩) hS (fun q h1 h2 => absurd h2 (Nat.not_le.mpr h1)) (fun q h => hA q (Nat.le_trans hS.1 h)) (fun r_24 u t H1 locs ht hvm hw_24 hB hz1 hk1 hS => ?_)
              have hP := keepP hP hk1
              clear hz1 hk1 hB ht hvm hPc hDc hKc
              generalize H1 = H at hP hS ⊢
              obtain rfl : r_24 = (ltF q_17 f_18 j_23) := hw_24
              have hP9 := hP.sub (ws' := [(h0, .inr (7, [u0, u1, u2, u3, u4, .ref p5])), (p5, .inr (3, [.ref s0, .ref s1, .ref s2, .ref s3, .int (nI qn), .int (nI q_17)])), (s1, .inl (ks1, 40, .inl fcp)), (s2, .inl (ks2, 40, .inl fck)), (s0, .inl (ks0, 4, .inl fsz)), (s3, .inl (ks3, 4, .inl f_18))]) [0, 2, 3, 4, 1, 5] rfl
              have hD9 := hD.sub (ws' := [(h0, .inr (7, [u0, u1, u2, u3, u4, .ref p5])), (p5, .inr (3, [.ref s0, .ref s1, .ref s2, .ref s3, .int (nI qn), .int (nI q_17)])), (s1, .inl (ks1, 40, .inl fcp)), (s2, .inl (ks2, 40, .inl fck)), (s0, .inl (ks0, 4, .inl fsz)), (s3, .inl (ks3, 4, .inl f_18))]) [0, 2, 3, 4, 1, 5] (by decide) rfl
              have hK9 := hK.sub (tys' := [(ks1, .int), (ks2, .int), (ks0, .int), (ks3, .int)]) [1, 2, 0, 3] rfl
              exact W.iret (v := (ltF q_17 f_18 j_23)) hx hb hr (fun t ht hW => ⟨⟨(ltF q_17 f_18 j_23), (), rfl, (hf_r (by omega) (by omega) (by rw [nI_clamp (by omega), en_15, nI_clamp (by omega), show (Int32.toInt n2 - 10).toNat = j_23 from (by omega)]; exact lt_A p_20)), q_17, f_18, p_19, by rw [ht]; exact hP9, va_K.moved hW.alike hK9, hD9⟩, hS.F ht⟩) hS.2.2 dX8_hits_101
            · have b_13 := gn_lt (X := (Int32.toInt n2)) (C := 14) rfl (by decide) c_12
              refine lv_bipush (v := (-2)) hx hb dX8_hits_70 (by decide) ?_
              have hP9 := hP.sub (ws' := [(h0, .inr (7, [u0, u1, u2, u3, u4, .ref p5])), (p5, .inr (3, [.ref s0, .ref s1, .ref s2, .ref s3, .int (nI qn), .int (nI rm)])), (s1, .inl (ks1, 40, .inl fcp)), (s2, .inl (ks2, 40, .inl fck)), (s0, .inl (ks0, 4, .inl fsz)), (s3, .inl (ks3, 4, .inl frc))]) [0, 1, 2, 3, 4, 5] rfl
              have hD9 := hD.sub (ws' := [(h0, .inr (7, [u0, u1, u2, u3, u4, .ref p5])), (p5, .inr (3, [.ref s0, .ref s1, .ref s2, .ref s3, .int (nI qn), .int (nI rm)])), (s1, .inl (ks1, 40, .inl fcp)), (s2, .inl (ks2, 40, .inl fck)), (s0, .inl (ks0, 4, .inl fsz)), (s3, .inl (ks3, 4, .inl frc))]) [0, 1, 2, 3, 4, 5] (by decide) rfl
              have hK9 := hK.sub (tys' := [(ks1, .int), (ks2, .int), (ks0, .int), (ks3, .int)]) [0, 1, 2, 3] rfl
              exact W.iret (v := (-2)) hx hb hr (fun t ht hW => ⟨⟨(-2), (), rfl, (hf_m2 (by omega) (by omega)), rm, frc, hrm, by rw [ht]; exact hP9, va_K.moved hW.alike hK9, hD9⟩, hS.F ht⟩) hS.2.2 dX8_hits_72
        · have b_9 := gn_ne (X := (Int32.toInt n2)) (C := 2) rfl (by decide) c_8
          refine lv_aload_n hx hb dX8_hits_49 rfl (lv_at hl 0 rfl) ?_
          refine va_get (D := (dC, dI)) (ci := 7) (v := .ref p5) (C := RX8) (T := TX8) (N := 6) hx hb hts inB_8 hown hK hP 0 rfl rfl 5 (by decide) (hts _ mw_1_173) (fun _ h9 => h9) rfl dX8_hits_50 ?_
          refine lv_iload_n hx hb dX8_hits_53 rfl (lv_at hl 1 rfl) ?_
          have hPc := hP.sub (ws' := [(p5, .inr (3, [.ref s0, .ref s1, .ref s2, .ref s3, .int (nI qn), .int (nI rm)])), (s1, .inl (ks1, 40, .inl fcp)), (s2, .inl (ks2, 40, .inl fck)), (s0, .inl (ks0, 4, .inl fsz))]) [1, 2, 3, 4] rfl
          have hDc := hD.sub (ws' := [(p5, .inr (3, [.ref s0, .ref s1, .ref s2, .ref s3, .int (nI qn), .int (nI rm)])), (s1, .inl (ks1, 40, .inl fcp)), (s2, .inl (ks2, 40, .inl fck)), (s0, .inl (ks0, 4, .inl fsz))]) [1, 2, 3, 4] (by decide) rfl
          have hKc := hK.sub (tys' := [(ks1, .int), (ks2, .int), (ks0, .int)]) [0, 1, 2] rfl
          refine va_calli (va_runV (As := [.int (nI j_3)]) (rest := []) ⟨hx, hb, hml, hown, hts⟩ (c_best l dC dI H.size p5 s0 s1 s2 (.ref s3) qn rm ks1 fcp ks2 fck ks0 fsz j_3 hqn (by omega) hsz hck) (cwV 1 hts (gV mw_3_139 mw_3_140 mw_3_141 mw_1_8 mw_3_142) rfl rfl rfl (by decide +kernel) ⟨Nat.le_of_ble_eq_true rfl, Nat.le_of_ble_eq_true rfl⟩) ⟨pcW_blind, va_recv hKc hPc (ci := 3) (q0 := 0) rfl rfl, pcW_at hPc hKc hDc hN⟩ rfl rfl hl.1 rfl (lv_room (Nat.le_of_ble_eq_true rfl)) dX8_hits_54 ⟨Nat.le_of_ble_eq_true rfl, Nat.le_of_ble_eq_true rfl⟩) hS (fun q h1 h2 => absurd h2 (Nat.not_le.mpr h1)) (fun q h => hA q (Nat.le_trans hS.1 h)) (fun r_25 u t H1 locs ht hvm hw_25 hB hz1 hk1 hS => ?_)
          have hP := keepP hP hk1
          clear hz1 hk1 hB ht hvm hPc hDc hKc
          generalize H1 = H at hP hS ⊢
          obtain rfl : r_25 = nI ((bsC fcp fck (nI j_3) (fsz j_3).toNatClampNeg qn qn).2) := hw_25
          have b_26 := (bs_le : (bsC fcp fck (nI j_3) (fsz j_3).toNatClampNeg qn qn).2 ≤ qn)
          have hP9 := hP.sub (ws' := [(h0, .inr (7, [u0, u1, u2, u3, u4, .ref p5])), (p5, .inr (3, [.ref s0, .ref s1, .ref s2, .ref s3, .int (nI qn), .int (nI rm)])), (s1, .inl (ks1, 40, .inl fcp)), (s2, .inl (ks2, 40, .inl fck)), (s0, .inl (ks0, 4, .inl fsz)), (s3, .inl (ks3, 4, .inl frc))]) [0, 1, 2, 3, 4, 5] rfl
          have hD9 := hD.sub (ws' := [(h0, .inr (7, [u0, u1, u2, u3, u4, .ref p5])), (p5, .inr (3, [.ref s0, .ref s1, .ref s2, .ref s3, .int (nI qn), .int (nI rm)])), (s1, .inl (ks1, 40, .inl fcp)), (s2, .inl (ks2, 40, .inl fck)), (s0, .inl (ks0, 4, .inl fsz)), (s3, .inl (ks3, 4, .inl frc))]) [0, 1, 2, 3, 4, 5] (by decide) rfl
          have hK9 := hK.sub (tys' := [(ks1, .int), (ks2, .int), (ks0, .int), (ks3, .int)]) [0, 1, 2, 3] rfl
          exact W.iret (v := (nI ((bsC fcp fck (nI j_3) (fsz j_3).toNatClampNeg qn qn).2))) hx hb hr (fun t ht hW => ⟨⟨(nI ((bsC fcp fck (nI j_3) (fsz j_3).toNatClampNeg qn qn).2)), (), rfl, (hf_2 (by omega) (by omega) (by rw [nI_clamp (by omega)])), rm, frc, hrm, by rw [ht]; exact hP9, va_K.moved hW.alike hK9, hD9⟩, hS.F ht⟩) hS.2.2 dX8_hits_57
      · have b_7 := gn_ne (X := (Int32.toInt n2)) (C := 1) rfl (by decide) c_6
        refine lv_aload_n hx hb dX8_hits_27 rfl (lv_at hl 0 rfl) ?_
        refine va_get (D := (dC, dI)) (ci := 7) (v := .ref p5) (C := RX8) (T := TX8) (N := 6) hx hb hts inB_8 hown hK hP 0 rfl rfl 5 (by decide) (hts _ mw_1_173) (fun _ h9 => h9) rfl dX8_hits_28 ?_
        refine lv_iload_n hx hb dX8_hits_31 rfl (lv_at hl 1 rfl) ?_
        refine lv_aload_n hx hb dX8_hits_32 rfl (lv_at hl 0 rfl) ?_
        refine va_get (D := (dC, dI)) (ci := 7) (v := .ref p5) (C := RX8) (T := TX8) (N := 6) hx hb hts inB_8 hown hK hP 0 rfl rfl 5 (by decide) (hts _ mw_1_173) (fun _ h9 => h9) rfl dX8_hits_33 ?_
        refine lv_iload_n hx hb dX8_hits_36 rfl (lv_at hl 1 rfl) ?_
        have hPc := hP.sub (ws' := [(p5, .inr (3, [.ref s0, .ref s1, .ref s2, .ref s3, .int (nI qn), .int (nI rm)])), (s0, .inl (ks0, 4, .inl fsz))]) [1, 4] rfl
        have hDc := hD.sub (ws' := [(p5, .inr (3, [.ref s0, .ref s1, .ref s2, .ref s3, .int (nI qn), .int (nI rm)])), (s0, .inl (ks0, 4, .inl fsz))]) [1, 4] (by decide) rfl
        have hKc := hK.sub (tys' := [(ks0, .int)]) [2] rfl
        refine va_calli (va_runV (As := [.int (nI j_3)]) (rest := [.int (nI j_3), .ref p5]) ⟨hx, hb, hml, hown, hts⟩ (c_sizeOf l dC dI H.size p5 s0 (.ref s1) (.ref s2) (.ref s3) qn rm ks0 fsz j_3 (by omega)) (cwV 1 hts (gV mw_3_126 mw_3_114 mw_3_115 mw_1_8 mw_3_116) rfl rfl rfl (by decide +kernel) ⟨Nat.le_of_ble_eq_true rfl, Nat.le_of_ble_eq_true rfl⟩) ⟨pcW_blind, va_recv hKc hPc (ci := 3) (q0 := 0) rfl rfl, pcW_at hPc hKc hDc hN⟩ rfl rfl hl.1 rfl (lv_room (Nat.le_of_ble_eq_true rfl)) dX8_hits_37 ⟨Nat.le_of_ble_eq_true rfl, Nat.le_of_ble_eq_true rfl⟩) hS (fun q h1 h2 => absurd h2 (Nat.not_le.mpr h1)) (fun q h => hA q (Nat.le_trans hS.1 h)) (fun r_27 u t H1 locs ht hvm hw_27 hB hz1 hk1 hS => ?_)
        have hP := keepP hP hk1
        clear hz1 hk1 hB ht hvm hPc hDc hKc
        generalize H1 = H at hP hS ⊢
        obtain rfl : r_27 = (fsz j_3) := hw_27
        obtain ⟨n_28, hn_28, en_28⟩ := hsz j_3 (by omega)
        refine hx_top (y := (nI n_28)) en_28 ?_
        have hPc := hP.sub (ws' := [(p5, .inr (3, [.ref s0, .ref s1, .ref s2, .ref s3, .int (nI qn), .int (nI rm)])), (s1, .inl (ks1, 40, .inl fcp)), (s2, .inl (ks2, 40, .inl fck)), (s3, .inl (ks3, 4, .inl frc))]) [1, 2, 3, 5] rfl
        have hDc := hD.sub (ws' := [(p5, .inr (3, [.ref s0, .ref s1, .ref s2, .ref s3, .int (nI qn), .int (nI rm)])), (s1, .inl (ks1, 40, .inl fcp)), (s2, .inl (ks2, 40, .inl fck)), (s3, .inl (ks3, 4, .inl frc))]) [1, 2, 3, 5] (by decide) rfl
        have hKc := hK.sub (tys' := [(ks1, .int), (ks2, .int), (ks3, .int)]) [0, 1, 3] rfl
        have hFc := va_free (wc := [(p5, .inr (3, [.ref s0, .ref s1, .ref s2, .ref s3, .int (nI qn), .int (nI rm)])), (s1, .inl (ks1, 40, .inl fcp)), (s2, .inl (ks2, 40, .inl fck)), (s3, .inl (ks3, 4, .inl frc))]) hD hS hA [1, 2, 3, 5] rfl
        refine va_calli (va_runV (As := [.int (nI j_3), .int (nI n_28)]) (rest := []) ⟨hx, hb, hml, hown, hts⟩ (c_hbs l dC dI H.size p5 (.ref s0) s1 s2 s3 qn rm ks1 fcp ks2 fck ks3 frc (nI j_3) n_28 hqn (by omega) (by omega)) (cwV 2 hts (gV mw_3_127 mw_3_128 mw_3_129 mw_1_8 mw_3_130) rfl rfl rfl (by decide +kernel) ⟨Nat.le_of_ble_eq_true rfl, Nat.le_of_ble_eq_true rfl⟩) ⟨pcW_blind, va_recv hKc hPc (ci := 3) (q0 := 0) rfl rfl, pcW_at hPc hKc hDc hN⟩ rfl rfl hl.1 rfl (lv_room (Nat.le_of_ble_eq_true rfl)) dX8_hits_40 ⟨Nat.le_of_ble_eq_true rfl, Nat.le_of_ble_eq_true rfl⟩) hS (fun q _ h => hFc q h) hFc (fun r_29 u t H1 locs ht hvm hw_29 hB hz1 hk1 hS => ?_)
        obtain ⟨q_30, f_31, p_32, p_33, hP1, hK1, hD1⟩ := hB
        rw [ht] at hP1
        have hK1 := va_K.moved hvm.symm hK1
        obtain ⟨hP, hD⟩ := va_join (wr := [(h0, .inr (7, [u0, u1, u2, u3, u4, .ref p5])), (s0, .inl (ks0, 4, .inl fsz))]) (w1 := [(p5, .inr (3, [.ref s0, .ref s1, .ref s2, .ref s3, .int (nI qn), .int (nI q_30)])), (s1, .inl (ks1, 40, .inl fcp)), (s2, .inl (ks2, 40, .inl fck)), (s3, .inl (ks3, 4, .inl f_31))]) hP hD [1, 2, 3, 5] [0, 4] rfl rfl (by decide) (by decide) hk1 hFc hP1 hD1
        have hK := (hK.sub (tys' := [(ks0, .int)]) [2] rfl).app hK1
        clear hz1 hk1 hPc hDc hKc hFc
        generalize H1 = H at hP hS ⊢
        have hK : va_K (dC, dI) vwCl [(ks0, .int), (ks1, .int), (ks2, .int), (ks3, .int)] s := hK
        have hP : va_P (dC, dI) vwCl [(h0, .inr (7, [u0, u1, u2, u3, u4, .ref p5])), (s0, .inl (ks0, 4, .inl fsz)), (p5, .inr (3, [.ref s0, .ref s1, .ref s2, .ref s3, .int (nI qn), .int (nI q_30)])), (s1, .inl (ks1, 40, .inl fcp)), (s2, .inl (ks2, 40, .inl fck)), (s3, .inl (ks3, 4, .inl f_31))] H := hP
        have hD : va_D A [(h0, .inr (7, [u0, u1, u2, u3, u4, .ref p5])), (s0, .inl (ks0, 4, .inl fsz)), (p5, .inr (3, [.ref s0, .ref s1, .ref s2, .ref s3, .int (nI qn), .int (nI q_30)])), (s1, .inl (ks1, 40, .inl fcp)), (s2, .inl (ks2, 40, .inl fck)), (s3, .inl (ks3, 4, .inl f_31))] := hD
        obtain rfl : r_29 = nI (lruH fcp fck (nI j_3) n_28 qn) := hw_29
        have b_34 := (lruH_le (by omega) : lruH fcp fck (nI j_3) n_28 qn ≤ qn)
        have hP9 := hP.sub (ws' := [(h0, .inr (7, [u0, u1, u2, u3, u4, .ref p5])), (p5, .inr (3, [.ref s0, .ref s1, .ref s2, .ref s3, .int (nI qn), .int (nI q_30)])), (s1, .inl (ks1, 40, .inl fcp)), (s2, .inl (ks2, 40, .inl fck)), (s0, .inl (ks0, 4, .inl fsz)), (s3, .inl (ks3, 4, .inl f_31))]) [0, 2, 3, 4, 1, 5] rfl
        have hD9 := hD.sub (ws' := [(h0, .inr (7, [u0, u1, u2, u3, u4, .ref p5])), (p5, .inr (3, [.ref s0, .ref s1, .ref s2, .ref s3, .int (nI qn), .int (nI q_30)])), (s1, .inl (ks1, 40, .inl fcp)), (s2, .inl (ks2, 40, .inl fck)), (s0, .inl (ks0, 4, .inl fsz)), (s3, .inl (ks3, 4, .inl f_31))]) [0, 2, 3, 4, 1, 5] (by decide) rfl
        have hK9 := hK.sub (tys' := [(ks1, .int), (ks2, .int), (ks0, .int), (ks3, .int)]) [1, 2, 0, 3] rfl
        exact W.iret (v := (nI (lruH fcp fck (nI j_3) n_28 qn))) hx hb hr (fun t ht hW => ⟨⟨(nI (lruH fcp fck (nI j_3) n_28 qn)), (), rfl, (hf_1 (by omega) (by omega) (by rw [nI_clamp (by omega), en_28, nI_clamp (by omega)])), q_30, f_31, p_32, by rw [ht]; exact hP9, va_K.moved hW.alike hK9, hD9⟩, hS.F ht⟩) hS.2.2 dX8_hits_43
    · have b_5 := gn_ne (X := (Int32.toInt n2)) (C := 0) rfl (by decide) c_4
      refine lv_aload_n hx hb dX8_hits_13 rfl (lv_at hl 0 rfl) ?_
      refine va_get (D := (dC, dI)) (ci := 7) (v := .ref p5) (C := RX8) (T := TX8) (N := 6) hx hb hts inB_8 hown hK hP 0 rfl rfl 5 (by decide) (hts _ mw_1_173) (fun _ h9 => h9) rfl dX8_hits_14 ?_
      refine lv_iload_n hx hb dX8_hits_17 rfl (lv_at hl 1 rfl) ?_
      have hPc := hP.sub (ws' := [(p5, .inr (3, [.ref s0, .ref s1, .ref s2, .ref s3, .int (nI qn), .int (nI rm)])), (s1, .inl (ks1, 40, .inl fcp))]) [1, 2] rfl
      have hDc := hD.sub (ws' := [(p5, .inr (3, [.ref s0, .ref s1, .ref s2, .ref s3, .int (nI qn), .int (nI rm)])), (s1, .inl (ks1, 40, .inl fcp))]) [1, 2] (by decide) rfl
      have hKc := hK.sub (tys' := [(ks1, .int)]) [0] rfl
      refine va_calli (va_runV (As := [.int (nI j_3)]) (rest := []) ⟨hx, hb, hml, hown, hts⟩ (c_callsAt l dC dI H.size p5 (.ref s0) s1 (.ref s2) (.ref s3) qn rm ks1 fcp (nI j_3) hqn) (cwV 1 hts (gV mw_3_122 mw_3_123 mw_3_124 mw_1_8 mw_3_125) rfl rfl rfl (by decide +kernel) ⟨Nat.le_of_ble_eq_true rfl, Nat.le_of_ble_eq_true rfl⟩) ⟨pcW_blind, va_recv hKc hPc (ci := 3) (q0 := 0) rfl rfl, pcW_at hPc hKc hDc hN⟩ rfl rfl hl.1 rfl (lv_room (Nat.le_of_ble_eq_true rfl)) dX8_hits_18 ⟨Nat.le_of_ble_eq_true rfl, Nat.le_of_ble_eq_true rfl⟩) hS (fun q h1 h2 => absurd h2 (Nat.not_le.mpr h1)) (fun q h => hA q (Nat.le_trans hS.1 h)) (fun r_35 u t H1 locs ht hvm hw_35 hB hz1 hk1 hS => ?_)
      have hP := keepP hP hk1
      clear hz1 hk1 hB ht hvm hPc hDc hKc
      generalize H1 = H at hP hS ⊢
      obtain rfl : r_35 = nI (cAt fcp (nI j_3) qn) := hw_35
      have b_36 := (cnt_le : cAt fcp (nI j_3) qn ≤ qn)
      have hP9 := hP.sub (ws' := [(h0, .inr (7, [u0, u1, u2, u3, u4, .ref p5])), (p5, .inr (3, [.ref s0, .ref s1, .ref s2, .ref s3, .int (nI qn), .int (nI rm)])), (s1, .inl (ks1, 40, .inl fcp)), (s2, .inl (ks2, 40, .inl fck)), (s0, .inl (ks0, 4, .inl fsz)), (s3, .inl (ks3, 4, .inl frc))]) [0, 1, 2, 3, 4, 5] rfl
      have hD9 := hD.sub (ws' := [(h0, .inr (7, [u0, u1, u2, u3, u4, .ref p5])), (p5, .inr (3, [.ref s0, .ref s1, .ref s2, .ref s3, .int (nI qn), .int (nI rm)])), (s1, .inl (ks1, 40, .inl fcp)), (s2, .inl (ks2, 40, .inl fck)), (s0, .inl (ks0, 4, .inl fsz)), (s3, .inl (ks3, 4, .inl frc))]) [0, 1, 2, 3, 4, 5] (by decide) rfl
      have hK9 := hK.sub (tys' := [(ks1, .int), (ks2, .int), (ks0, .int), (ks3, .int)]) [0, 1, 2, 3] rfl
      exact W.iret (v := (nI (cAt fcp (nI j_3) qn))) hx hb hr (fun t ht hW => ⟨⟨(nI (cAt fcp (nI j_3) qn)), (), rfl, (hf_0 (by omega) (by omega) rfl), rm, frc, hrm, by rw [ht]; exact hP9, va_K.moved hW.alike hK9, hD9⟩, hS.F ht⟩) hS.2.2 dX8_hits_21
  · skip
    refine lv_if_ne (tgt := 9) hx hb dX8_hits_4 (by decide) (fun h => absurd h (by decide)) (fun _ => ?_)
    refine lv_iconst (v := (-1)) hx hb dX8_hits_7 (by decide) ?_
    have hP9 := hP.sub (ws' := [(h0, .inr (7, [u0, u1, u2, u3, u4, .ref p5])), (p5, .inr (3, [.ref s0, .ref s1, .ref s2, .ref s3, .int (nI qn), .int (nI rm)])), (s1, .inl (ks1, 40, .inl fcp)), (s2, .inl (ks2, 40, .inl fck)), (s0, .inl (ks0, 4, .inl fsz)), (s3, .inl (ks3, 4, .inl frc))]) [0, 1, 2, 3, 4, 5] rfl
    have hD9 := hD.sub (ws' := [(h0, .inr (7, [u0, u1, u2, u3, u4, .ref p5])), (p5, .inr (3, [.ref s0, .ref s1, .ref s2, .ref s3, .int (nI qn), .int (nI rm)])), (s1, .inl (ks1, 40, .inl fcp)), (s2, .inl (ks2, 40, .inl fck)), (s0, .inl (ks0, 4, .inl fsz)), (s3, .inl (ks3, 4, .inl frc))]) [0, 1, 2, 3, 4, 5] (by decide) rfl
    have hK9 := hK.sub (tys' := [(ks1, .int), (ks2, .int), (ks0, .int), (ks3, .int)]) [0, 1, 2, 3] rfl
    exact W.iret (v := (-1)) hx hb hr (fun t ht hW => ⟨⟨(-1), (), rfl, (hf_m1 (by omega)), rm, frc, hrm, by rw [ht]; exact hP9, va_K.moved hW.alike hK9, hD9⟩, hS.F ht⟩) hS.2.2 dX8_hits_8
set_option maxHeartbeats 4000000 in
set_option maxRecDepth 100000 in
theorem x_need (l : Launch) (dC : Nat → ClassId) (dI : Nat → Nat → Nat) (sz : Nat) (h0 : Nat) (u0 : Value) (u1 : Value) (u2 : Value) (u3 : Value) (u4 : Value) (p5 : Nat) (x0 : Value) (s1 : Nat) (s2 : Nat) (s3 : Nat) (qn : Nat) (rm : Nat) (ks1 : ClassId) (fcp : Nat → Int32) (ks2 : ClassId) (fck : Nat → Int32) (ks3 : ClassId) (frc : Nat → Int32) (n1 : Int32) (n2 : Int32) (hqn : qn ≤ 40) (hrm : rm ≤ 4) : Met l yX8_need (wq yX8_need cX8_need 4 (some .int)) ({ frames := 2, cells := 0, slots := 0, locals := 48 }) (va_Pc [.ref h0, .int n1, .int n2] (pcW dC dI [(ks1, .int), (ks2, .int), (ks3, .int)] [(h0, .inr (7, [u0, u1, u2, u3, u4, .ref p5])), (p5, .inr (3, [x0, .ref s1, .ref s2, .ref s3, .int (nI qn), .int (nI rm)])), (s1, .inl (ks1, 40, .inl fcp)), (s2, .inl (ks2, 40, .inl fck)), (s3, .inl (ks3, 4, .inl frc))] sz)) (va_Qi (fun (r : Int32) (_ : Unit) => r = (F_need (lruH fcp fck n1 1 qn) (lruH fcp fck n1 2 qn) (lruH fcp fck n1 3 qn) (lruH fcp fck n1 4 qn) n1 n2)) (fun _ t => ∃ (rm2 : Nat) (frc2 : Nat → Int32), (rm2 ≤ 4) ∧ va_P (dC, dI) vwCl [(h0, .inr (7, [u0, u1, u2, u3, u4, .ref p5])), (p5, .inr (3, [x0, .ref s1, .ref s2, .ref s3, .int (nI qn), .int (nI rm2)])), (s1, .inl (ks1, 40, .inl fcp)), (s2, .inl (ks2, 40, .inl fck)), (s3, .inl (ks3, 4, .inl frc2))] t.heap ∧ va_K (dC, dI) vwCl [(ks1, .int), (ks2, .int), (ks3, .int)] t ∧ va_D (va_A [(h0, .inr (7, [u0, u1, u2, u3, u4, .ref p5])), (p5, .inr (3, [x0, .ref s1, .ref s2, .ref s3, .int (nI qn), .int (nI rm)])), (s1, .inl (ks1, 40, .inl fcp)), (s2, .inl (ks2, 40, .inl fck)), (s3, .inl (ks3, 4, .inl frc))] sz) [(h0, .inr (7, [u0, u1, u2, u3, u4, .ref p5])), (p5, .inr (3, [x0, .ref s1, .ref s2, .ref s3, .int (nI qn), .int (nI rm2)])), (s1, .inl (ks1, 40, .inl fcp)), (s2, .inl (ks2, 40, .inl fck)), (s3, .inl (ks3, 4, .inl frc2))]) (va_A [(h0, .inr (7, [u0, u1, u2, u3, u4, .ref p5])), (p5, .inr (3, [x0, .ref s1, .ref s2, .ref s3, .int (nI qn), .int (nI rm)])), (s1, .inl (ks1, 40, .inl fcp)), (s2, .inl (ks2, 40, .inl fck)), (s3, .inl (ks3, 4, .inl frc))] sz)) 0 0 (va_A [(h0, .inr (7, [u0, u1, u2, u3, u4, .ref p5])), (p5, .inr (3, [x0, .ref s1, .ref s2, .ref s3, .int (nI qn), .int (nI rm)])), (s1, .inl (ks1, 40, .inl fcp)), (s2, .inl (ks2, 40, .inl fck)), (s3, .inl (ks3, 4, .inl frc))] sz) := by
  refine Met.ofW (cc := cX8_need) (maxL := 4) (ret := (some .int)) (by decide) rfl ?_
  intro p e s m args below meth c s₁ B hml hv
  obtain ⟨rfl, hsz, hN, hP, hK, hD0⟩ := hv
  have hx := B.exec
  have hb := B.bytes
  have hr := B.returns
  have hts0 := atoms_spec (ws := (wq yX8_need cX8_need 4 (some .int))) B.pre
  have hts : ∀ w ∈ BG, w.before _ s = true := fun w h => hts0 w (List.mem_cons_of_mem _ h)
  have hown : s.vm.findClass RX8 = some m.cls := findClass_of_methodNamed B.named
  have hlocks := B.notSynchronized
  subst hsz
  have hD := hD0.self (sz := s.heap.size)
  generalize hAe : va_A [(h0, .inr (7, [u0, u1, u2, u3, u4, .ref p5])), (p5, .inr (3, [x0, .ref s1, .ref s2, .ref s3, .int (nI qn), .int (nI rm)])), (s1, .inl (ks1, 40, .inl fcp)), (s2, .inl (ks2, 40, .inl fck)), (s3, .inl (ks3, 4, .inl frc))] s.heap.size = A at hD ⊢
  have hA : ∀ q : Nat, s.heap.size ≤ q → A q := fun q h => by rw [← hAe]; exact Or.inr h
  have hS : va_S A s.heap s.heap [] := va_S.rf
  clear hAe hD0
  have hP : va_P (dC, dI) vwCl [(h0, .inr (7, [u0, u1, u2, u3, u4, .ref p5])), (p5, .inr (3, [x0, .ref s1, .ref s2, .ref s3, .int (nI qn), .int (nI rm)])), (s1, .inl (ks1, 40, .inl fcp)), (s2, .inl (ks2, 40, .inl fck)), (s3, .inl (ks3, 4, .inl frc))] s.heap := hP
  have hl := lv_entry ([.ref h0, .int n1, .int n2]) (n := 4) (Nat.le_of_ble_eq_true rfl)
  rw [lg_entry_eq]
  generalize (lg_sl ([.ref h0, .int n1, .int n2]) ++ List.replicate (4 - (lg_sl ([.ref h0, .int n1, .int n2])).length) Slot.unset).toArray = ls at hl ⊢
  have hl : lv_has ls 4 [(0, .ref h0), (1, .int n1), (2, .int n2)] := hl
  refine lv_iload_n hx hb dX8_need_0 rfl (lv_at hl 1 rfl) ?_
  have hPc := hP.sub (ws' := []) [] rfl
  have hDc := hD.sub (ws' := []) [] (by decide) rfl
  have hKc := hK.sub (tys' := []) [] rfl
  refine va_calli (va_runS (As := [.int n1]) (rest := []) ⟨hx, hb, hml, hown, hts⟩ (c_isPlace l dC dI s.heap.size n1 ) (va_cwS 1 hts (gS mw_3_85 mw_3_86 mw_1_1 mw_3_87) rfl rfl rfl (by decide +kernel) ⟨Nat.le_of_ble_eq_true rfl, Nat.le_of_ble_eq_true rfl⟩) ⟨pcW_blind, pcW_at hPc hKc hDc hN⟩ rfl rfl hl.1 rfl (lv_room (Nat.le_of_ble_eq_true rfl)) dX8_need_1 ⟨Nat.le_of_ble_eq_true rfl, Nat.le_of_ble_eq_true rfl⟩) hS (fun q h1 h2 => absurd h2 (Nat.not_le.mpr h1)) (fun q h => hA q (Nat.le_trans hS.1 h)) (fun r_1 u t H1 locs ht hvm hw_1 hB hz1 hk1 hS => ?_)
  have hP := keepP hP hk1
  clear hz1 hk1 hB ht hvm hPc hDc hKc
  generalize H1 = H at hP hS ⊢
  rcases fx_bool hw_1 with ⟨rfl, b_2⟩ | ⟨rfl, b_2⟩
  · skip
    refine lv_if_ne (tgt := 9) hx hb dX8_need_4 (by decide) (fun _ => ?_) (fun h => absurd h (by decide))
    refine lv_iload_n hx hb dX8_need_9 rfl (lv_at hl 2 rfl) ?_
    refine lv_if_lt (tgt := 19) hx hb dX8_need_10 (by decide) (fun c_3 => ?_) (fun c_3 => ?_)
    · have b_4 := gx_lt (X := (Int32.toInt n2)) (C := 0) rfl (by decide) c_3
      refine lv_bipush (v := (-2)) hx hb dX8_need_19 (by decide) ?_
      have hP9 := hP.sub (ws' := [(h0, .inr (7, [u0, u1, u2, u3, u4, .ref p5])), (p5, .inr (3, [x0, .ref s1, .ref s2, .ref s3, .int (nI qn), .int (nI rm)])), (s1, .inl (ks1, 40, .inl fcp)), (s2, .inl (ks2, 40, .inl fck)), (s3, .inl (ks3, 4, .inl frc))]) [0, 1, 2, 3, 4] rfl
      have hD9 := hD.sub (ws' := [(h0, .inr (7, [u0, u1, u2, u3, u4, .ref p5])), (p5, .inr (3, [x0, .ref s1, .ref s2, .ref s3, .int (nI qn), .int (nI rm)])), (s1, .inl (ks1, 40, .inl fcp)), (s2, .inl (ks2, 40, .inl fck)), (s3, .inl (ks3, 4, .inl frc))]) [0, 1, 2, 3, 4] (by decide) rfl
      have hK9 := hK.sub (tys' := [(ks1, .int), (ks2, .int), (ks3, .int)]) [0, 1, 2] rfl
      exact W.iret (v := (-2)) hx hb hr (fun t ht hW => ⟨⟨(-2), (), rfl, (by unfold F_need; rw [if_pos (by omega), if_pos (by omega)]), rm, frc, hrm, by rw [ht]; exact hP9, va_K.moved hW.alike hK9, hD9⟩, hS.F ht⟩) hS.2.2 dX8_need_21
    · have b_4 := gn_lt (X := (Int32.toInt n2)) (C := 0) rfl (by decide) c_3
      refine lv_iload_n hx hb dX8_need_13 rfl (lv_at hl 2 rfl) ?_
      refine lv_bipush (v := 40) hx hb dX8_need_14 (by decide) ?_
      refine lv_icmp_le (tgt := 22) hx hb dX8_need_16 (by decide) (fun c_5 => ?_) (fun c_5 => ?_)
      · have b_6 := gx_le (X := (Int32.toInt n2)) (C := 40) rfl (by decide) c_5
        refine lv_iconst (v := 1) hx hb dX8_need_22 (by decide) ?_
        refine lv_istore_n (lv' := [(3, .int 1), (0, .ref h0), (1, .int n1), (2, .int n2)]) hx hb dX8_need_23 rfl hl (by decide) rfl (fun ls hl => ?_)
        refine lv_iload_n hx hb dX8_need_24 rfl (lv_at hl 0 rfl) ?_
        refine lv_iconst (v := 4) hx hb dX8_need_25 (by decide) ?_
        refine lv_icmp_gt (tgt := 50) hx hb dX8_need_26 (by decide) (fun h => absurd h (by decide)) (fun _ => ?_)
        refine lv_aload_n hx hb dX8_need_29 rfl (lv_at hl 1 rfl) ?_
        refine va_get (D := (dC, dI)) (ci := 7) (v := .ref p5) (C := RX8) (T := TX8) (N := 6) hx hb hts inB_8 hown hK hP 0 rfl rfl 5 (by decide) (hts _ mw_1_173) (fun _ h9 => h9) rfl dX8_need_30 ?_
        refine lv_iload_n hx hb dX8_need_33 rfl (lv_at hl 2 rfl) ?_
        refine lv_iload_n hx hb dX8_need_34 rfl (lv_at hl 0 rfl) ?_
        have hPc := hP.sub (ws' := [(p5, .inr (3, [x0, .ref s1, .ref s2, .ref s3, .int (nI qn), .int (nI rm)])), (s1, .inl (ks1, 40, .inl fcp)), (s2, .inl (ks2, 40, .inl fck)), (s3, .inl (ks3, 4, .inl frc))]) [1, 2, 3, 4] rfl
        have hDc := hD.sub (ws' := [(p5, .inr (3, [x0, .ref s1, .ref s2, .ref s3, .int (nI qn), .int (nI rm)])), (s1, .inl (ks1, 40, .inl fcp)), (s2, .inl (ks2, 40, .inl fck)), (s3, .inl (ks3, 4, .inl frc))]) [1, 2, 3, 4] (by decide) rfl
        have hKc := hK.sub (tys' := [(ks1, .int), (ks2, .int), (ks3, .int)]) [0, 1, 2] rfl
        have hFc := va_free (wc := [(p5, .inr (3, [x0, .ref s1, .ref s2, .ref s3, .int (nI qn), .int (nI rm)])), (s1, .inl (ks1, 40, .inl fcp)), (s2, .inl (ks2, 40, .inl fck)), (s3, .inl (ks3, 4, .inl frc))]) hD hS hA [1, 2, 3, 4] rfl
        refine va_calli (va_runV (As := [.int n1, .int 1]) (rest := []) ⟨hx, hb, hml, hown, hts⟩ (c_hbs l dC dI H.size p5 (x0) s1 s2 s3 qn rm ks1 fcp ks2 fck ks3 frc n1 1 hqn (by omega) (by omega)) (cwV 2 hts (gV mw_3_127 mw_3_128 mw_3_129 mw_1_8 mw_3_130) rfl rfl rfl (by decide +kernel) ⟨Nat.le_of_ble_eq_true rfl, Nat.le_of_ble_eq_true rfl⟩) ⟨pcW_blind, va_recv hKc hPc (ci := 3) (q0 := 0) rfl rfl, pcW_at hPc hKc hDc hN⟩ rfl rfl hl.1 rfl (lv_room (Nat.le_of_ble_eq_true rfl)) dX8_need_35 ⟨Nat.le_of_ble_eq_true rfl, Nat.le_of_ble_eq_true rfl⟩) hS (fun q _ h => hFc q h) hFc (fun r_7 u t H1 locs ht hvm hw_7 hB hz1 hk1 hS => ?_)
        obtain ⟨q_8, f_9, p_10, p_11, hP1, hK1, hD1⟩ := hB
        rw [ht] at hP1
        have hK1 := va_K.moved hvm.symm hK1
        obtain ⟨hP, hD⟩ := va_join (wr := [(h0, .inr (7, [u0, u1, u2, u3, u4, .ref p5]))]) (w1 := [(p5, .inr (3, [x0, .ref s1, .ref s2, .ref s3, .int (nI qn), .int (nI q_8)])), (s1, .inl (ks1, 40, .inl fcp)), (s2, .inl (ks2, 40, .inl fck)), (s3, .inl (ks3, 4, .inl f_9))]) hP hD [1, 2, 3, 4] [0] rfl rfl (by decide) (by decide) hk1 hFc hP1 hD1
        have hK := (hK.sub (tys' := []) [] rfl).app hK1
        clear hz1 hk1 hPc hDc hKc hFc
        generalize H1 = H at hP hS ⊢
        have hK : va_K (dC, dI) vwCl [(ks1, .int), (ks2, .int), (ks3, .int)] s := hK
        have hP : va_P (dC, dI) vwCl [(h0, .inr (7, [u0, u1, u2, u3, u4, .ref p5])), (p5, .inr (3, [x0, .ref s1, .ref s2, .ref s3, .int (nI qn), .int (nI q_8)])), (s1, .inl (ks1, 40, .inl fcp)), (s2, .inl (ks2, 40, .inl fck)), (s3, .inl (ks3, 4, .inl f_9))] H := hP
        have hD : va_D A [(h0, .inr (7, [u0, u1, u2, u3, u4, .ref p5])), (p5, .inr (3, [x0, .ref s1, .ref s2, .ref s3, .int (nI qn), .int (nI q_8)])), (s1, .inl (ks1, 40, .inl fcp)), (s2, .inl (ks2, 40, .inl fck)), (s3, .inl (ks3, 4, .inl f_9))] := hD
        obtain rfl : r_7 = nI (lruH fcp fck n1 1 qn) := hw_7
        have b_12 := (lruH_le (by omega) : lruH fcp fck n1 1 qn ≤ qn)
        refine lv_iload_n hx hb dX8_need_38 rfl (lv_at hl 3 rfl) ?_
        refine lv_icmp_lt (tgt := 44) hx hb dX8_need_39 (by decide) (fun c_13 => ?_) (fun c_13 => ?_)
        · have b_14 := gx_lt (X := ((lruH fcp fck n1 1 qn : Nat) : Int)) (C := (Int32.toInt n2)) (nI_toInt (by omega)) rfl c_13
          refine lv_iinc (v := 2) (lv' := [(3, .int 2), (0, .ref h0), (1, .int n1), (2, .int n2)]) hx hb dX8_need_44 hl (k := 0) rfl (by decide) (by decide) rfl (fun ls hl => ?_)
          refine lv_goto (tgt := 24) hx hb dX8_need_47 (by decide) ?_
          refine lv_iload_n hx hb dX8_need_24 rfl (lv_at hl 0 rfl) ?_
          refine lv_iconst (v := 4) hx hb dX8_need_25 (by decide) ?_
          refine lv_icmp_gt (tgt := 50) hx hb dX8_need_26 (by decide) (fun h => absurd h (by decide)) (fun _ => ?_)
          refine lv_aload_n hx hb dX8_need_29 rfl (lv_at hl 1 rfl) ?_
          refine va_get (D := (dC, dI)) (ci := 7) (v := .ref p5) (C := RX8) (T := TX8) (N := 6) hx hb hts inB_8 hown hK hP 0 rfl rfl 5 (by decide) (hts _ mw_1_173) (fun _ h9 => h9) rfl dX8_need_30 ?_
          refine lv_iload_n hx hb dX8_need_33 rfl (lv_at hl 2 rfl) ?_
          refine lv_iload_n hx hb dX8_need_34 rfl (lv_at hl 0 rfl) ?_
          have hPc := hP.sub (ws' := [(p5, .inr (3, [x0, .ref s1, .ref s2, .ref s3, .int (nI qn), .int (nI q_8)])), (s1, .inl (ks1, 40, .inl fcp)), (s2, .inl (ks2, 40, .inl fck)), (s3, .inl (ks3, 4, .inl f_9))]) [1, 2, 3, 4] rfl
          have hDc := hD.sub (ws' := [(p5, .inr (3, [x0, .ref s1, .ref s2, .ref s3, .int (nI qn), .int (nI q_8)])), (s1, .inl (ks1, 40, .inl fcp)), (s2, .inl (ks2, 40, .inl fck)), (s3, .inl (ks3, 4, .inl f_9))]) [1, 2, 3, 4] (by decide) rfl
          have hKc := hK.sub (tys' := [(ks1, .int), (ks2, .int), (ks3, .int)]) [0, 1, 2] rfl
          have hFc := va_free (wc := [(p5, .inr (3, [x0, .ref s1, .ref s2, .ref s3, .int (nI qn), .int (nI q_8)])), (s1, .inl (ks1, 40, .inl fcp)), (s2, .inl (ks2, 40, .inl fck)), (s3, .inl (ks3, 4, .inl f_9))]) hD hS hA [1, 2, 3, 4] rfl
          refine va_calli (va_runV (As := [.int n1, .int 2]) (rest := []) ⟨hx, hb, hml, hown, hts⟩ (c_hbs l dC dI H.size p5 (x0) s1 s2 s3 qn q_8 ks1 fcp ks2 fck ks3 f_9 n1 2 hqn (by omega) (by omega)) (cwV 2 hts (gV mw_3_127 mw_3_128 mw_3_129 mw_1_8 mw_3_130) rfl rfl rfl (by decide +kernel) ⟨Nat.le_of_ble_eq_true rfl, Nat.le_of_ble_eq_true rfl⟩) ⟨pcW_blind, va_recv hKc hPc (ci := 3) (q0 := 0) rfl rfl, pcW_at hPc hKc hDc hN⟩ rfl rfl hl.1 rfl (lv_room (Nat.le_of_ble_eq_true rfl)) dX8_need_35 ⟨Nat.le_of_ble_eq_true rfl, Nat.le_of_ble_eq_true rfl⟩) hS (fun q _ h => hFc q h) hFc (fun r_15 u t H1 locs ht hvm hw_15 hB hz1 hk1 hS => ?_)
          obtain ⟨q_16, f_17, p_18, p_19, hP1, hK1, hD1⟩ := hB
          rw [ht] at hP1
          have hK1 := va_K.moved hvm.symm hK1
          obtain ⟨hP, hD⟩ := va_join (wr := [(h0, .inr (7, [u0, u1, u2, u3, u4, .ref p5]))]) (w1 := [(p5, .inr (3, [x0, .ref s1, .ref s2, .ref s3, .int (nI qn), .int (nI q_16)])), (s1, .inl (ks1, 40, .inl fcp)), (s2, .inl (ks2, 40, .inl fck)), (s3, .inl (ks3, 4, .inl f_17))]) hP hD [1, 2, 3, 4] [0] rfl rfl (by decide) (by decide) hk1 hFc hP1 hD1
          have hK := (hK.sub (tys' := []) [] rfl).app hK1
          clear hz1 hk1 hPc hDc hKc hFc
          generalize H1 = H at hP hS ⊢
          have hK : va_K (dC, dI) vwCl [(ks1, .int), (ks2, .int), (ks3, .int)] s := hK
          have hP : va_P (dC, dI) vwCl [(h0, .inr (7, [u0, u1, u2, u3, u4, .ref p5])), (p5, .inr (3, [x0, .ref s1, .ref s2, .ref s3, .int (nI qn), .int (nI q_16)])), (s1, .inl (ks1, 40, .inl fcp)), (s2, .inl (ks2, 40, .inl fck)), (s3, .inl (ks3, 4, .inl f_17))] H := hP
          have hD : va_D A [(h0, .inr (7, [u0, u1, u2, u3, u4, .ref p5])), (p5, .inr (3, [x0, .ref s1, .ref s2, .ref s3, .int (nI qn), .int (nI q_16)])), (s1, .inl (ks1, 40, .inl fcp)), (s2, .inl (ks2, 40, .inl fck)), (s3, .inl (ks3, 4, .inl f_17))] := hD
          obtain rfl : r_15 = nI (lruH fcp fck n1 2 qn) := hw_15
          have b_20 := (lruH_le (by omega) : lruH fcp fck n1 2 qn ≤ qn)
          refine lv_iload_n hx hb dX8_need_38 rfl (lv_at hl 3 rfl) ?_
          refine lv_icmp_lt (tgt := 44) hx hb dX8_need_39 (by decide) (fun c_21 => ?_) (fun c_21 => ?_)
          · have b_22 := gx_lt (X := ((lruH fcp fck n1 2 qn : Nat) : Int)) (C := (Int32.toInt n2)) (nI_toInt (by omega)) rfl c_21
            refine lv_iinc (v := 3) (lv' := [(3, .int 3), (0, .ref h0), (1, .int n1), (2, .int n2)]) hx hb dX8_need_44 hl (k := 0) rfl (by decide) (by decide) rfl (fun ls hl => ?_)
            refine lv_goto (tgt := 24) hx hb dX8_need_47 (by decide) ?_
            refine lv_iload_n hx hb dX8_need_24 rfl (lv_at hl 0 rfl) ?_
            refine lv_iconst (v := 4) hx hb dX8_need_25 (by decide) ?_
            refine lv_icmp_gt (tgt := 50) hx hb dX8_need_26 (by decide) (fun h => absurd h (by decide)) (fun _ => ?_)
            refine lv_aload_n hx hb dX8_need_29 rfl (lv_at hl 1 rfl) ?_
            refine va_get (D := (dC, dI)) (ci := 7) (v := .ref p5) (C := RX8) (T := TX8) (N := 6) hx hb hts inB_8 hown hK hP 0 rfl rfl 5 (by decide) (hts _ mw_1_173) (fun _ h9 => h9) rfl dX8_need_30 ?_
            refine lv_iload_n hx hb dX8_need_33 rfl (lv_at hl 2 rfl) ?_
            refine lv_iload_n hx hb dX8_need_34 rfl (lv_at hl 0 rfl) ?_
            have hPc := hP.sub (ws' := [(p5, .inr (3, [x0, .ref s1, .ref s2, .ref s3, .int (nI qn), .int (nI q_16)])), (s1, .inl (ks1, 40, .inl fcp)), (s2, .inl (ks2, 40, .inl fck)), (s3, .inl (ks3, 4, .inl f_17))]) [1, 2, 3, 4] rfl
            have hDc := hD.sub (ws' := [(p5, .inr (3, [x0, .ref s1, .ref s2, .ref s3, .int (nI qn), .int (nI q_16)])), (s1, .inl (ks1, 40, .inl fcp)), (s2, .inl (ks2, 40, .inl fck)), (s3, .inl (ks3, 4, .inl f_17))]) [1, 2, 3, 4] (by decide) rfl
            have hKc := hK.sub (tys' := [(ks1, .int), (ks2, .int), (ks3, .int)]) [0, 1, 2] rfl
            have hFc := va_free (wc := [(p5, .inr (3, [x0, .ref s1, .ref s2, .ref s3, .int (nI qn), .int (nI q_16)])), (s1, .inl (ks1, 40, .inl fcp)), (s2, .inl (ks2, 40, .inl fck)), (s3, .inl (ks3, 4, .inl f_17))]) hD hS hA [1, 2, 3, 4] rfl
            refine va_calli (va_runV (As := [.int n1, .int 3]) (rest := []) ⟨hx, hb, hml, hown, hts⟩ (c_hbs l dC dI H.size p5 (x0) s1 s2 s3 qn q_16 ks1 fcp ks2 fck ks3 f_17 n1 3 hqn (by omega) (by omega)) (cwV 2 hts (gV mw_3_127 mw_3_128 mw_3_129 mw_1_8 mw_3_130) rfl rfl rfl (by decide +kernel) ⟨Nat.le_of_ble_eq_true rfl, Nat.le_of_ble_eq_true rfl⟩) ⟨pcW_blind, va_recv hKc hPc (ci := 3) (q0 := 0) rfl rfl, pcW_at hPc hKc hDc hN⟩ rfl rfl hl.1 rfl (lv_room (Nat.le_of_ble_eq_true rfl)) dX8_need_35 ⟨Nat.le_of_ble_eq_true rfl, Nat.le_of_ble_eq_true rfl⟩) hS (fun q _ h => hFc q h) hFc (fun r_23 u t H1 locs ht hvm hw_23 hB hz1 hk1 hS => ?_)
            obtain ⟨q_24, f_25, p_26, p_27, hP1, hK1, hD1⟩ := hB
            rw [ht] at hP1
            have hK1 := va_K.moved hvm.symm hK1
            obtain ⟨hP, hD⟩ := va_join (wr := [(h0, .inr (7, [u0, u1, u2, u3, u4, .ref p5]))]) (w1 := [(p5, .inr (3, [x0, .ref s1, .ref s2, .ref s3, .int (nI qn), .int (nI q_24)])), (s1, .inl (ks1, 40, .inl fcp)), (s2, .inl (ks2, 40, .inl fck)), (s3, .inl (ks3, 4, .inl f_25))]) hP hD [1, 2, 3, 4] [0] rfl rfl (by decide) (by decide) hk1 hFc hP1 hD1
            have hK := (hK.sub (tys' := []) [] rfl).app hK1
            clear hz1 hk1 hPc hDc hKc hFc
            generalize H1 = H at hP hS ⊢
            have hK : va_K (dC, dI) vwCl [(ks1, .int), (ks2, .int), (ks3, .int)] s := hK
            have hP : va_P (dC, dI) vwCl [(h0, .inr (7, [u0, u1, u2, u3, u4, .ref p5])), (p5, .inr (3, [x0, .ref s1, .ref s2, .ref s3, .int (nI qn), .int (nI q_24)])), (s1, .inl (ks1, 40, .inl fcp)), (s2, .inl (ks2, 40, .inl fck)), (s3, .inl (ks3, 4, .inl f_25))] H := hP
            have hD : va_D A [(h0, .inr (7, [u0, u1, u2, u3, u4, .ref p5])), (p5, .inr (3, [x0, .ref s1, .ref s2, .ref s3, .int (nI qn), .int (nI q_24)])), (s1, .inl (ks1, 40, .inl fcp)), (s2, .inl (ks2, 40, .inl fck)), (s3, .inl (ks3, 4, .inl f_25))] := hD
            obtain rfl : r_23 = nI (lruH fcp fck n1 3 qn) := hw_23
            have b_28 := (lruH_le (by omega) : lruH fcp fck n1 3 qn ≤ qn)
            refine lv_iload_n hx hb dX8_need_38 rfl (lv_at hl 3 rfl) ?_
            refine lv_icmp_lt (tgt := 44) hx hb dX8_need_39 (by decide) (fun c_29 => ?_) (fun c_29 => ?_)
            · have b_30 := gx_lt (X := ((lruH fcp fck n1 3 qn : Nat) : Int)) (C := (Int32.toInt n2)) (nI_toInt (by omega)) rfl c_29
              refine lv_iinc (v := 4) (lv' := [(3, .int 4), (0, .ref h0), (1, .int n1), (2, .int n2)]) hx hb dX8_need_44 hl (k := 0) rfl (by decide) (by decide) rfl (fun ls hl => ?_)
              refine lv_goto (tgt := 24) hx hb dX8_need_47 (by decide) ?_
              refine lv_iload_n hx hb dX8_need_24 rfl (lv_at hl 0 rfl) ?_
              refine lv_iconst (v := 4) hx hb dX8_need_25 (by decide) ?_
              refine lv_icmp_gt (tgt := 50) hx hb dX8_need_26 (by decide) (fun h => absurd h (by decide)) (fun _ => ?_)
              refine lv_aload_n hx hb dX8_need_29 rfl (lv_at hl 1 rfl) ?_
              refine va_get (D := (dC, dI)) (ci := 7) (v := .ref p5) (C := RX8) (T := TX8) (N := 6) hx hb hts inB_8 hown hK hP 0 rfl rfl 5 (by decide) (hts _ mw_1_173) (fun _ h9 => h9) rfl dX8_need_30 ?_
              refine lv_iload_n hx hb dX8_need_33 rfl (lv_at hl 2 rfl) ?_
              refine lv_iload_n hx hb dX8_need_34 rfl (lv_at hl 0 rfl) ?_
              have hPc := hP.sub (ws' := [(p5, .inr (3, [x0, .ref s1, .ref s2, .ref s3, .int (nI qn), .int (nI q_24)])), (s1, .inl (ks1, 40, .inl fcp)), (s2, .inl (ks2, 40, .inl fck)), (s3, .inl (ks3, 4, .inl f_25))]) [1, 2, 3, 4] rfl
              have hDc := hD.sub (ws' := [(p5, .inr (3, [x0, .ref s1, .ref s2, .ref s3, .int (nI qn), .int (nI q_24)])), (s1, .inl (ks1, 40, .inl fcp)), (s2, .inl (ks2, 40, .inl fck)), (s3, .inl (ks3, 4, .inl f_25))]) [1, 2, 3, 4] (by decide) rfl
              have hKc := hK.sub (tys' := [(ks1, .int), (ks2, .int), (ks3, .int)]) [0, 1, 2] rfl
              have hFc := va_free (wc := [(p5, .inr (3, [x0, .ref s1, .ref s2, .ref s3, .int (nI qn), .int (nI q_24)])), (s1, .inl (ks1, 40, .inl fcp)), (s2, .inl (ks2, 40, .inl fck)), (s3, .inl (ks3, 4, .inl f_25))]) hD hS hA [1, 2, 3, 4] rfl
              refine va_calli (va_runV (As := [.int n1, .int 4]) (rest := []) ⟨hx, hb, hml, hown, hts⟩ (c_hbs l dC dI H.size p5 (x0) s1 s2 s3 qn q_24 ks1 fcp ks2 fck ks3 f_25 n1 4 hqn (by omega) (by omega)) (cwV 2 hts (gV mw_3_127 mw_3_128 mw_3_129 mw_1_8 mw_3_130) rfl rfl rfl (by decide +kernel) ⟨Nat.le_of_ble_eq_true rfl, Nat.le_of_ble_eq_true rfl⟩) ⟨pcW_blind, va_recv hKc hPc (ci := 3) (q0 := 0) rfl rfl, pcW_at hPc hKc hDc hN⟩ rfl rfl hl.1 rfl (lv_room (Nat.le_of_ble_eq_true rfl)) dX8_need_35 ⟨Nat.le_of_ble_eq_true rfl, Nat.le_of_ble_eq_true rfl⟩) hS (fun q _ h => hFc q h) hFc (fun r_31 u t H1 locs ht hvm hw_31 hB hz1 hk1 hS => ?_)
              obtain ⟨q_32, f_33, p_34, p_35, hP1, hK1, hD1⟩ := hB
              rw [ht] at hP1
              have hK1 := va_K.moved hvm.symm hK1
              obtain ⟨hP, hD⟩ := va_join (wr := [(h0, .inr (7, [u0, u1, u2, u3, u4, .ref p5]))]) (w1 := [(p5, .inr (3, [x0, .ref s1, .ref s2, .ref s3, .int (nI qn), .int (nI q_32)])), (s1, .inl (ks1, 40, .inl fcp)), (s2, .inl (ks2, 40, .inl fck)), (s3, .inl (ks3, 4, .inl f_33))]) hP hD [1, 2, 3, 4] [0] rfl rfl (by decide) (by decide) hk1 hFc hP1 hD1
              have hK := (hK.sub (tys' := []) [] rfl).app hK1
              clear hz1 hk1 hPc hDc hKc hFc
              generalize H1 = H at hP hS ⊢
              have hK : va_K (dC, dI) vwCl [(ks1, .int), (ks2, .int), (ks3, .int)] s := hK
              have hP : va_P (dC, dI) vwCl [(h0, .inr (7, [u0, u1, u2, u3, u4, .ref p5])), (p5, .inr (3, [x0, .ref s1, .ref s2, .ref s3, .int (nI qn), .int (nI q_32)])), (s1, .inl (ks1, 40, .inl fcp)), (s2, .inl (ks2, 40, .inl fck)), (s3, .inl (ks3, 4, .inl f_33))] H := hP
              have hD : va_D A [(h0, .inr (7, [u0, u1, u2, u3, u4, .ref p5])), (p5, .inr (3, [x0, .ref s1, .ref s2, .ref s3, .int (nI qn), .int (nI q_32)])), (s1, .inl (ks1, 40, .inl fcp)), (s2, .inl (ks2, 40, .inl fck)), (s3, .inl (ks3, 4, .inl f_33))] := hD
              obtain rfl : r_31 = nI (lruH fcp fck n1 4 qn) := hw_31
              have b_36 := (lruH_le (by omega) : lruH fcp fck n1 4 qn ≤ qn)
              refine lv_iload_n hx hb dX8_need_38 rfl (lv_at hl 3 rfl) ?_
              refine lv_icmp_lt (tgt := 44) hx hb dX8_need_39 (by decide) (fun c_37 => ?_) (fun c_37 => ?_)
              · have b_38 := gx_lt (X := ((lruH fcp fck n1 4 qn : Nat) : Int)) (C := (Int32.toInt n2)) (nI_toInt (by omega)) rfl c_37
                refine lv_iinc (v := 5) (lv' := [(3, .int 5), (0, .ref h0), (1, .int n1), (2, .int n2)]) hx hb dX8_need_44 hl (k := 0) rfl (by decide) (by decide) rfl (fun ls hl => ?_)
                refine lv_goto (tgt := 24) hx hb dX8_need_47 (by decide) ?_
                refine lv_iload_n hx hb dX8_need_24 rfl (lv_at hl 0 rfl) ?_
                refine lv_iconst (v := 4) hx hb dX8_need_25 (by decide) ?_
                refine lv_icmp_gt (tgt := 50) hx hb dX8_need_26 (by decide) (fun _ => ?_) (fun h => absurd (by decide) h)
                refine lv_bipush (v := (-6)) hx hb dX8_need_50 (by decide) ?_
                have hP9 := hP.sub (ws' := [(h0, .inr (7, [u0, u1, u2, u3, u4, .ref p5])), (p5, .inr (3, [x0, .ref s1, .ref s2, .ref s3, .int (nI qn), .int (nI q_32)])), (s1, .inl (ks1, 40, .inl fcp)), (s2, .inl (ks2, 40, .inl fck)), (s3, .inl (ks3, 4, .inl f_33))]) [0, 1, 2, 3, 4] rfl
                have hD9 := hD.sub (ws' := [(h0, .inr (7, [u0, u1, u2, u3, u4, .ref p5])), (p5, .inr (3, [x0, .ref s1, .ref s2, .ref s3, .int (nI qn), .int (nI q_32)])), (s1, .inl (ks1, 40, .inl fcp)), (s2, .inl (ks2, 40, .inl fck)), (s3, .inl (ks3, 4, .inl f_33))]) [0, 1, 2, 3, 4] (by decide) rfl
                have hK9 := hK.sub (tys' := [(ks1, .int), (ks2, .int), (ks3, .int)]) [0, 1, 2] rfl
                exact W.iret (v := (-6)) hx hb hr (fun t ht hW => ⟨⟨(-6), (), rfl, (by unfold F_need; rw [if_pos (by omega), if_neg (by omega), if_neg (by omega), if_neg (by omega), if_neg (by omega), if_neg (by omega)]), q_32, f_33, p_34, by rw [ht]; exact hP9, va_K.moved hW.alike hK9, hD9⟩, hS.F ht⟩) hS.2.2 dX8_need_52
              · have b_38 := gn_lt (X := ((lruH fcp fck n1 4 qn : Nat) : Int)) (C := (Int32.toInt n2)) (nI_toInt (by omega)) rfl c_37
                refine lv_iload_n hx hb dX8_need_42 rfl (lv_at hl 0 rfl) ?_
                have hP9 := hP.sub (ws' := [(h0, .inr (7, [u0, u1, u2, u3, u4, .ref p5])), (p5, .inr (3, [x0, .ref s1, .ref s2, .ref s3, .int (nI qn), .int (nI q_32)])), (s1, .inl (ks1, 40, .inl fcp)), (s2, .inl (ks2, 40, .inl fck)), (s3, .inl (ks3, 4, .inl f_33))]) [0, 1, 2, 3, 4] rfl
                have hD9 := hD.sub (ws' := [(h0, .inr (7, [u0, u1, u2, u3, u4, .ref p5])), (p5, .inr (3, [x0, .ref s1, .ref s2, .ref s3, .int (nI qn), .int (nI q_32)])), (s1, .inl (ks1, 40, .inl fcp)), (s2, .inl (ks2, 40, .inl fck)), (s3, .inl (ks3, 4, .inl f_33))]) [0, 1, 2, 3, 4] (by decide) rfl
                have hK9 := hK.sub (tys' := [(ks1, .int), (ks2, .int), (ks3, .int)]) [0, 1, 2] rfl
                exact W.iret (v := 4) hx hb hr (fun t ht hW => ⟨⟨4, (), rfl, (by unfold F_need; rw [if_pos (by omega), if_neg (by omega), if_neg (by omega), if_neg (by omega), if_neg (by omega), if_pos (by omega)]), q_32, f_33, p_34, by rw [ht]; exact hP9, va_K.moved hW.alike hK9, hD9⟩, hS.F ht⟩) hS.2.2 dX8_need_43
            · have b_30 := gn_lt (X := ((lruH fcp fck n1 3 qn : Nat) : Int)) (C := (Int32.toInt n2)) (nI_toInt (by omega)) rfl c_29
              refine lv_iload_n hx hb dX8_need_42 rfl (lv_at hl 0 rfl) ?_
              have hP9 := hP.sub (ws' := [(h0, .inr (7, [u0, u1, u2, u3, u4, .ref p5])), (p5, .inr (3, [x0, .ref s1, .ref s2, .ref s3, .int (nI qn), .int (nI q_24)])), (s1, .inl (ks1, 40, .inl fcp)), (s2, .inl (ks2, 40, .inl fck)), (s3, .inl (ks3, 4, .inl f_25))]) [0, 1, 2, 3, 4] rfl
              have hD9 := hD.sub (ws' := [(h0, .inr (7, [u0, u1, u2, u3, u4, .ref p5])), (p5, .inr (3, [x0, .ref s1, .ref s2, .ref s3, .int (nI qn), .int (nI q_24)])), (s1, .inl (ks1, 40, .inl fcp)), (s2, .inl (ks2, 40, .inl fck)), (s3, .inl (ks3, 4, .inl f_25))]) [0, 1, 2, 3, 4] (by decide) rfl
              have hK9 := hK.sub (tys' := [(ks1, .int), (ks2, .int), (ks3, .int)]) [0, 1, 2] rfl
              exact W.iret (v := 3) hx hb hr (fun t ht hW => ⟨⟨3, (), rfl, (by unfold F_need; rw [if_pos (by omega), if_neg (by omega), if_neg (by omega), if_neg (by omega), if_pos (by omega)]), q_24, f_25, p_26, by rw [ht]; exact hP9, va_K.moved hW.alike hK9, hD9⟩, hS.F ht⟩) hS.2.2 dX8_need_43
          · have b_22 := gn_lt (X := ((lruH fcp fck n1 2 qn : Nat) : Int)) (C := (Int32.toInt n2)) (nI_toInt (by omega)) rfl c_21
            refine lv_iload_n hx hb dX8_need_42 rfl (lv_at hl 0 rfl) ?_
            have hP9 := hP.sub (ws' := [(h0, .inr (7, [u0, u1, u2, u3, u4, .ref p5])), (p5, .inr (3, [x0, .ref s1, .ref s2, .ref s3, .int (nI qn), .int (nI q_16)])), (s1, .inl (ks1, 40, .inl fcp)), (s2, .inl (ks2, 40, .inl fck)), (s3, .inl (ks3, 4, .inl f_17))]) [0, 1, 2, 3, 4] rfl
            have hD9 := hD.sub (ws' := [(h0, .inr (7, [u0, u1, u2, u3, u4, .ref p5])), (p5, .inr (3, [x0, .ref s1, .ref s2, .ref s3, .int (nI qn), .int (nI q_16)])), (s1, .inl (ks1, 40, .inl fcp)), (s2, .inl (ks2, 40, .inl fck)), (s3, .inl (ks3, 4, .inl f_17))]) [0, 1, 2, 3, 4] (by decide) rfl
            have hK9 := hK.sub (tys' := [(ks1, .int), (ks2, .int), (ks3, .int)]) [0, 1, 2] rfl
            exact W.iret (v := 2) hx hb hr (fun t ht hW => ⟨⟨2, (), rfl, (by unfold F_need; rw [if_pos (by omega), if_neg (by omega), if_neg (by omega), if_pos (by omega)]), q_16, f_17, p_18, by rw [ht]; exact hP9, va_K.moved hW.alike hK9, hD9⟩, hS.F ht⟩) hS.2.2 dX8_need_43
        · have b_14 := gn_lt (X := ((lruH fcp fck n1 1 qn : Nat) : Int)) (C := (Int32.toInt n2)) (nI_toInt (by omega)) rfl c_13
          refine lv_iload_n hx hb dX8_need_42 rfl (lv_at hl 0 rfl) ?_
          have hP9 := hP.sub (ws' := [(h0, .inr (7, [u0, u1, u2, u3, u4, .ref p5])), (p5, .inr (3, [x0, .ref s1, .ref s2, .ref s3, .int (nI qn), .int (nI q_8)])), (s1, .inl (ks1, 40, .inl fcp)), (s2, .inl (ks2, 40, .inl fck)), (s3, .inl (ks3, 4, .inl f_9))]) [0, 1, 2, 3, 4] rfl
          have hD9 := hD.sub (ws' := [(h0, .inr (7, [u0, u1, u2, u3, u4, .ref p5])), (p5, .inr (3, [x0, .ref s1, .ref s2, .ref s3, .int (nI qn), .int (nI q_8)])), (s1, .inl (ks1, 40, .inl fcp)), (s2, .inl (ks2, 40, .inl fck)), (s3, .inl (ks3, 4, .inl f_9))]) [0, 1, 2, 3, 4] (by decide) rfl
          have hK9 := hK.sub (tys' := [(ks1, .int), (ks2, .int), (ks3, .int)]) [0, 1, 2] rfl
          exact W.iret (v := 1) hx hb hr (fun t ht hW => ⟨⟨1, (), rfl, (by unfold F_need; rw [if_pos (by omega), if_neg (by omega), if_pos (by omega)]), q_8, f_9, p_10, by rw [ht]; exact hP9, va_K.moved hW.alike hK9, hD9⟩, hS.F ht⟩) hS.2.2 dX8_need_43
      · have b_6 := gn_le (X := (Int32.toInt n2)) (C := 40) rfl (by decide) c_5
        refine lv_bipush (v := (-2)) hx hb dX8_need_19 (by decide) ?_
        have hP9 := hP.sub (ws' := [(h0, .inr (7, [u0, u1, u2, u3, u4, .ref p5])), (p5, .inr (3, [x0, .ref s1, .ref s2, .ref s3, .int (nI qn), .int (nI rm)])), (s1, .inl (ks1, 40, .inl fcp)), (s2, .inl (ks2, 40, .inl fck)), (s3, .inl (ks3, 4, .inl frc))]) [0, 1, 2, 3, 4] rfl
        have hD9 := hD.sub (ws' := [(h0, .inr (7, [u0, u1, u2, u3, u4, .ref p5])), (p5, .inr (3, [x0, .ref s1, .ref s2, .ref s3, .int (nI qn), .int (nI rm)])), (s1, .inl (ks1, 40, .inl fcp)), (s2, .inl (ks2, 40, .inl fck)), (s3, .inl (ks3, 4, .inl frc))]) [0, 1, 2, 3, 4] (by decide) rfl
        have hK9 := hK.sub (tys' := [(ks1, .int), (ks2, .int), (ks3, .int)]) [0, 1, 2] rfl
        exact W.iret (v := (-2)) hx hb hr (fun t ht hW => ⟨⟨(-2), (), rfl, (by unfold F_need; rw [if_pos (by omega), if_pos (by omega)]), rm, frc, hrm, by rw [ht]; exact hP9, va_K.moved hW.alike hK9, hD9⟩, hS.F ht⟩) hS.2.2 dX8_need_21
  · skip
    refine lv_if_ne (tgt := 9) hx hb dX8_need_4 (by decide) (fun h => absurd h (by decide)) (fun _ => ?_)
    refine lv_iconst (v := (-1)) hx hb dX8_need_7 (by decide) ?_
    have hP9 := hP.sub (ws' := [(h0, .inr (7, [u0, u1, u2, u3, u4, .ref p5])), (p5, .inr (3, [x0, .ref s1, .ref s2, .ref s3, .int (nI qn), .int (nI rm)])), (s1, .inl (ks1, 40, .inl fcp)), (s2, .inl (ks2, 40, .inl fck)), (s3, .inl (ks3, 4, .inl frc))]) [0, 1, 2, 3, 4] rfl
    have hD9 := hD.sub (ws' := [(h0, .inr (7, [u0, u1, u2, u3, u4, .ref p5])), (p5, .inr (3, [x0, .ref s1, .ref s2, .ref s3, .int (nI qn), .int (nI rm)])), (s1, .inl (ks1, 40, .inl fcp)), (s2, .inl (ks2, 40, .inl fck)), (s3, .inl (ks3, 4, .inl frc))]) [0, 1, 2, 3, 4] (by decide) rfl
    have hK9 := hK.sub (tys' := [(ks1, .int), (ks2, .int), (ks3, .int)]) [0, 1, 2] rfl
    exact W.iret (v := (-1)) hx hb hr (fun t ht hW => ⟨⟨(-1), (), rfl, (by unfold F_need; rw [if_neg (by omega)]), rm, frc, hrm, by rw [ht]; exact hP9, va_K.moved hW.alike hK9, hD9⟩, hS.F ht⟩) hS.2.2 dX8_need_8
set_option maxHeartbeats 4000000 in
set_option maxRecDepth 100000 in
theorem x_told (l : Launch) (dC : Nat → ClassId) (dI : Nat → Nat → Nat) (sz : Nat) (h0 : Nat) (p1 : Nat) (p2 : Nat) (p3 : Nat) (u3 : Value) (u4 : Value) (p5 : Nat) (w0 : Value) (w1 : Value) (w2 : Value) (w3 : Value) (w4 : Value) (w5 : Value) (cn : Nat) (bb : Int32) (d9 : Value) (pn : Nat) (e0 : Nat) (z1 : Value) (z2 : Value) (ke0 : ClassId) (fo : Nat → Int32) (x0 : Value) (x1 : Value) (x2 : Value) (x3 : Value) (qn : Nat) (rm : Nat) (n1 : Int32) (hc : cn ≤ 10) : Met l yX8_told (wq yX8_told cX8_told 2 (some .int)) ({ frames := 4, cells := 0, slots := 0, locals := 86 }) (va_Pc [.ref h0, .int n1] (pcW dC dI [(ke0, .int)] [(h0, .inr (7, [.ref p1, .ref p2, .ref p3, u3, u4, .ref p5])), (p1, .inr (1, [w0, w1, w2, w3, w4, w5, .int (nI cn), .int bb])), (p2, .inr (2, [d9, .int (nI pn)])), (p3, .inr (0, [.ref e0, z1, z2])), (e0, .inl (ke0, 8, .inl fo)), (p5, .inr (3, [x0, x1, x2, x3, .int (nI qn), .int (nI rm)]))] sz)) (va_Qi (fun (r : Int32) (_ : Unit) => r = (F_told (nI cn) (nI pn) (nI qn) (fun k => bitsF (fun i => bt (fo i) k) 8) (fun k => decide (k < cn) && bt bb k) n1)) (fun _ _ => True) (fun q : Nat => sz ≤ q)) 0 0 (fun q : Nat => sz ≤ q) := by
  refine Met.ofW (cc := cX8_told) (maxL := 2) (ret := (some .int)) (by decide) rfl ?_
  intro p e s m args below meth c s₁ B hml hv
  obtain ⟨rfl, hsz, hN, hP, hK, hD0⟩ := hv
  have hx := B.exec
  have hb := B.bytes
  have hr := B.returns
  have hts0 := atoms_spec (ws := (wq yX8_told cX8_told 2 (some .int))) B.pre
  have hts : ∀ w ∈ BG, w.before _ s = true := fun w h => hts0 w (List.mem_cons_of_mem _ h)
  have hown : s.vm.findClass RX8 = some m.cls := findClass_of_methodNamed B.named
  have hlocks := B.notSynchronized
  subst hsz
  have hA : ∀ q : Nat, s.heap.size ≤ q → (fun q : Nat => s.heap.size ≤ q) q := fun _ h => h
  have hD := hD0
  have hS : va_S (fun q : Nat => s.heap.size ≤ q) s.heap s.heap [] := va_S.rf
  have hP : va_P (dC, dI) vwCl [(h0, .inr (7, [.ref p1, .ref p2, .ref p3, u3, u4, .ref p5])), (p1, .inr (1, [w0, w1, w2, w3, w4, w5, .int (nI cn), .int bb])), (p2, .inr (2, [d9, .int (nI pn)])), (p3, .inr (0, [.ref e0, z1, z2])), (e0, .inl (ke0, 8, .inl fo)), (p5, .inr (3, [x0, x1, x2, x3, .int (nI qn), .int (nI rm)]))] s.heap := hP
  have hl := lv_entry ([.ref h0, .int n1]) (n := 2) (Nat.le_of_ble_eq_true rfl)
  rw [lg_entry_eq]
  generalize (lg_sl ([.ref h0, .int n1]) ++ List.replicate (2 - (lg_sl ([.ref h0, .int n1])).length) Slot.unset).toArray = ls at hl ⊢
  have hl : lv_has ls 2 [(0, .ref h0), (1, .int n1)] := hl
  refine lv_iload_n hx hb dX8_told_0 rfl (lv_at hl 1 rfl) ?_
  refine lv_if_ne (tgt := 12) hx hb dX8_told_1 (by decide) (fun c_1 => ?_) (fun c_1 => ?_)
  · have b_2 := gx_ne (X := (Int32.toInt n1)) (C := 0) rfl (by decide) c_1
    refine lv_iload_n hx hb dX8_told_12 rfl (lv_at hl 1 rfl) ?_
    refine lv_iconst (v := 1) hx hb dX8_told_13 (by decide) ?_
    refine lv_icmp_ne (tgt := 25) hx hb dX8_told_14 (by decide) (fun c_3 => ?_) (fun c_3 => ?_)
    · have b_4 := gx_ne (X := (Int32.toInt n1)) (C := 1) rfl (by decide) c_3
      refine lv_iload_n hx hb dX8_told_25 rfl (lv_at hl 1 rfl) ?_
      refine lv_iconst (v := 2) hx hb dX8_told_26 (by decide) ?_
      refine lv_icmp_ne (tgt := 38) hx hb dX8_told_27 (by decide) (fun c_5 => ?_) (fun c_5 => ?_)
      · have b_6 := gx_ne (X := (Int32.toInt n1)) (C := 2) rfl (by decide) c_5
        refine lv_iload_n hx hb dX8_told_38 rfl (lv_at hl 1 rfl) ?_
        refine lv_bipush (v := 10) hx hb dX8_told_39 (by decide) ?_
        refine lv_icmp_lt (tgt := 62) hx hb dX8_told_41 (by decide) (fun c_7 => ?_) (fun c_7 => ?_)
        · have b_8 := gx_lt (X := (Int32.toInt n1)) (C := 10) rfl (by decide) c_7
          refine lv_iload_n hx hb dX8_told_62 rfl (lv_at hl 1 rfl) ?_
          refine lv_bipush (v := 20) hx hb dX8_told_63 (by decide) ?_
          refine lv_icmp_lt (tgt := 94) hx hb dX8_told_65 (by decide) (fun c_9 => ?_) (fun h => absurd (gn_lt (X := (Int32.toInt n1)) (C := 20) rfl (by decide) h) (by omega))
          have b_10 := gx_lt (X := (Int32.toInt n1)) (C := 20) rfl (by decide) c_9
          refine lv_bipush (v := (-2)) hx hb dX8_told_94 (by decide) ?_
          exact W.iret (v := (-2)) hx hb hr (fun t ht hW => ⟨⟨(-2), (), rfl, (by unfold F_told; rw [if_neg (by omega), if_neg (by omega), if_neg (by omega), if_neg (by omega), if_neg (by omega)]), trivial⟩, hS.F ht⟩) hS.2.2 dX8_told_96
        · have b_8 := gn_lt (X := (Int32.toInt n1)) (C := 10) rfl (by decide) c_7
          refine lv_iload_n hx hb dX8_told_44 rfl (lv_at hl 1 rfl) ?_
          refine lv_bipush (v := 20) hx hb dX8_told_45 (by decide) ?_
          refine lv_icmp_ge (tgt := 62) hx hb dX8_told_47 (by decide) (fun c_11 => ?_) (fun c_11 => ?_)
          · have b_12 := gx_ge (X := (Int32.toInt n1)) (C := 20) rfl (by decide) c_11
            refine lv_iload_n hx hb dX8_told_62 rfl (lv_at hl 1 rfl) ?_
            refine lv_bipush (v := 20) hx hb dX8_told_63 (by decide) ?_
            refine lv_icmp_lt (tgt := 94) hx hb dX8_told_65 (by decide) (fun h => absurd (gx_lt (X := (Int32.toInt n1)) (C := 20) rfl (by decide) h) (by omega)) (fun c_13 => ?_)
            have b_14 := gn_lt (X := (Int32.toInt n1)) (C := 20) rfl (by decide) c_13
            refine lv_iload_n hx hb dX8_told_68 rfl (lv_at hl 1 rfl) ?_
            refine lv_bipush (v := 30) hx hb dX8_told_69 (by decide) ?_
            refine lv_icmp_ge (tgt := 94) hx hb dX8_told_71 (by decide) (fun c_15 => ?_) (fun c_15 => ?_)
            · have b_16 := gx_ge (X := (Int32.toInt n1)) (C := 30) rfl (by decide) c_15
              refine lv_bipush (v := (-2)) hx hb dX8_told_94 (by decide) ?_
              exact W.iret (v := (-2)) hx hb hr (fun t ht hW => ⟨⟨(-2), (), rfl, (by unfold F_told; rw [if_neg (by omega), if_neg (by omega), if_neg (by omega), if_neg (by omega), if_neg (by omega)]), trivial⟩, hS.F ht⟩) hS.2.2 dX8_told_96
            · have b_16 := gn_ge (X := (Int32.toInt n1)) (C := 30) rfl (by decide) c_15
              refine lv_aload_n hx hb dX8_told_74 rfl (lv_at hl 0 rfl) ?_
              refine va_get (D := (dC, dI)) (ci := 7) (v := .ref p1) (C := RX8) (T := TX8) (N := 6) hx hb hts inB_8 hown hK hP 0 rfl rfl 0 (by decide) (hts _ mw_1_168) (fun _ h9 => h9) rfl dX8_told_75 ?_
              refine lv_iload_n hx hb dX8_told_78 rfl (lv_at hl 1 rfl) ?_
              refine lv_bipush (v := 20) hx hb dX8_told_79 (by decide) ?_
              refine lv_isub hx hb dX8_told_81 ?_
              refine lv_topi (fun z_17 ez_17 => ?_)
              have gz_17 := fx_rng n1
              have fz_17 : Int32.toInt z_17 = (Int32.toInt n1) - 20 := by rw [ez_17]; exact gx_sub (X := (Int32.toInt n1)) (C := 20) rfl (by decide) (by omega) (by omega)
              obtain ⟨j_18, tj_18, ej_18⟩ := fx_nat (x := z_17) (by omega)
              subst ej_18
              have yj_18 : Int32.toInt (nI j_18) = (j_18 : Int) := nI_toInt tj_18
              have hPc := hP.sub (ws' := [(p1, .inr (1, [w0, w1, w2, w3, w4, w5, .int (nI cn), .int bb]))]) [1] rfl
              have hDc := hD.sub (ws' := [(p1, .inr (1, [w0, w1, w2, w3, w4, w5, .int (nI cn), .int bb]))]) [1] (by decide) rfl
              have hKc := hK.sub (tys' := []) [] rfl
              refine va_calli (va_runV (As := [.int (nI j_18)]) (rest := []) ⟨hx, hb, hml, hown, hts⟩ (c_isBare l dC dI s.heap.size p1 (w0) (w1) (w2) (w3) (w4) (w5) cn bb (nI j_18) hc) (cwV 1 hts (gV mw_2_28 mw_2_29 mw_2_30 mw_1_2 mw_2_31) rfl rfl rfl (by decide +kernel) ⟨Nat.le_of_ble_eq_true rfl, Nat.le_of_ble_eq_true rfl⟩) ⟨pcW_blind, va_recv hKc hPc (ci := 1) (q0 := 0) rfl rfl, pcW_at hPc hKc hDc hN⟩ rfl rfl hl.1 rfl (lv_room (Nat.le_of_ble_eq_true rfl)) dX8_told_82 ⟨Nat.le_of_ble_eq_true rfl, Nat.le_of_ble_eq_true rfl⟩) hS (fun q h1 h2 => absurd h2 (Nat.not_le.mpr h1)) (fun q h => hA q (Nat.le_trans hS.1 h)) (fun r_19 u t H1 locs ht hvm hw_19 hB hz1 hk1 hS => ?_)
              have hP := keepP hP hk1
              clear hz1 hk1 hB ht hvm hPc hDc hKc
              generalize H1 = H at hP hS ⊢
              rcases fx_bool hw_19 with ⟨rfl, b_20⟩ | ⟨rfl, b_20⟩
              · skip
                refine lv_if_eq (tgt := 92) hx hb dX8_told_85 (by decide) (fun h => absurd h (by decide)) (fun _ => ?_)
                refine lv_iconst (v := 1) hx hb dX8_told_88 (by decide) ?_
                refine lv_goto (tgt := 93) hx hb dX8_told_89 (by decide) ?_
                exact W.iret (v := 1) hx hb hr (fun t ht hW => ⟨⟨1, (), rfl, (by unfold F_told; rw [if_neg (by omega), if_neg (by omega), if_neg (by omega), if_neg (by omega), if_pos (by omega), show (Int32.toInt n1 - 20).toNat = j_18 from (by omega)]; exact (if_pos (show (decide (j_18 < cn) && bt bb j_18) = true from by rw [decide_eq_true (p := j_18 < cn) (by omega), t_yes (by omega) b_20.2]; rfl)).symm), trivial⟩, hS.F ht⟩) hS.2.2 dX8_told_93
              · skip
                refine lv_if_eq (tgt := 92) hx hb dX8_told_85 (by decide) (fun _ => ?_) (fun h => absurd (by decide) h)
                refine lv_iconst (v := 0) hx hb dX8_told_92 (by decide) ?_
                exact W.iret (v := 0) hx hb hr (fun t ht hW => ⟨⟨0, (), rfl, (by unfold F_told; rw [if_neg (by omega), if_neg (by omega), if_neg (by omega), if_neg (by omega), if_pos (by omega), show (Int32.toInt n1 - 20).toNat = j_18 from (by omega)]; exact (if_neg (fun q => by rw [Bool.and_eq_true, decide_eq_true_eq] at q; exact absurd q.2 (by rw [t_no (by omega) (fun z => b_20 ⟨by omega, z⟩)]; decide))).symm), trivial⟩, hS.F ht⟩) hS.2.2 dX8_told_93
          · have b_12 := gn_ge (X := (Int32.toInt n1)) (C := 20) rfl (by decide) c_11
            refine lv_aload_n hx hb dX8_told_50 rfl (lv_at hl 0 rfl) ?_
            refine va_get (D := (dC, dI)) (ci := 7) (v := .ref p3) (C := RX8) (T := TX8) (N := 6) hx hb hts inB_8 hown hK hP 0 rfl rfl 2 (by decide) (hts _ mw_1_170) (fun _ h9 => h9) rfl dX8_told_51 ?_
            refine lv_iload_n hx hb dX8_told_54 rfl (lv_at hl 1 rfl) ?_
            refine lv_bipush (v := 10) hx hb dX8_told_55 (by decide) ?_
            refine lv_isub hx hb dX8_told_57 ?_
            refine lv_topi (fun z_21 ez_21 => ?_)
            have gz_21 := fx_rng n1
            have fz_21 : Int32.toInt z_21 = (Int32.toInt n1) - 10 := by rw [ez_21]; exact gx_sub (X := (Int32.toInt n1)) (C := 10) rfl (by decide) (by omega) (by omega)
            obtain ⟨j_22, tj_22, ej_22⟩ := fx_nat (x := z_21) (by omega)
            subst ej_22
            have yj_22 : Int32.toInt (nI j_22) = (j_22 : Int) := nI_toInt tj_22
            have hPc := hP.sub (ws' := [(p3, .inr (0, [.ref e0, z1, z2])), (e0, .inl (ke0, 8, .inl fo))]) [3, 4] rfl
            have hDc := hD.sub (ws' := [(p3, .inr (0, [.ref e0, z1, z2])), (e0, .inl (ke0, 8, .inl fo))]) [3, 4] (by decide) rfl
            have hKc := hK.sub (tys' := [(ke0, .int)]) [0] rfl
            refine va_calli (va_runV (As := [.int (nI j_22)]) (rest := []) ⟨hx, hb, hml, hown, hts⟩ (c_names l dC dI s.heap.size p3 e0 (z1) (z2) ke0 fo j_22 (by omega)) (cwV 1 hts (gV mw_3_171 mw_3_172 mw_3_173 mw_1_5 mw_3_174) rfl rfl rfl (by decide +kernel) ⟨Nat.le_of_ble_eq_true rfl, Nat.le_of_ble_eq_true rfl⟩) ⟨pcW_blind, va_recv hKc hPc (ci := 0) (q0 := 0) rfl rfl, pcW_at hPc hKc hDc hN⟩ rfl rfl hl.1 rfl (lv_room (Nat.le_of_ble_eq_true rfl)) dX8_told_58 ⟨Nat.le_of_ble_eq_true rfl, Nat.le_of_ble_eq_true rfl⟩) hS (fun q h1 h2 => absurd h2 (Nat.not_le.mpr h1)) (fun q h => hA q (Nat.le_trans hS.1 h)) (fun r_23 u t H1 locs ht hvm hw_23 hB hz1 hk1 hS => ?_)
            have hP := keepP hP hk1
            clear hz1 hk1 hB ht hvm hPc hDc hKc
            generalize H1 = H at hP hS ⊢
            obtain rfl : r_23 = (bitsF (fun i => bt (fo i) j_22) 8) := hw_23
            exact W.iret (v := (bitsF (fun i => bt (fo i) j_22) 8)) hx hb hr (fun t ht hW => ⟨⟨(bitsF (fun i => bt (fo i) j_22) 8), (), rfl, (by unfold F_told; rw [if_neg (by omega), if_neg (by omega), if_neg (by omega), if_pos (by omega), show (Int32.toInt n1 - 10).toNat = j_22 from (by omega)]), trivial⟩, hS.F ht⟩) hS.2.2 dX8_told_61
      · have b_6 := gn_ne (X := (Int32.toInt n1)) (C := 2) rfl (by decide) c_5
        refine lv_aload_n hx hb dX8_told_30 rfl (lv_at hl 0 rfl) ?_
        refine va_get (D := (dC, dI)) (ci := 7) (v := .ref p5) (C := RX8) (T := TX8) (N := 6) hx hb hts inB_8 hown hK hP 0 rfl rfl 5 (by decide) (hts _ mw_1_173) (fun _ h9 => h9) rfl dX8_told_31 ?_
        have hPc := hP.sub (ws' := [(p5, .inr (3, [x0, x1, x2, x3, .int (nI qn), .int (nI rm)]))]) [5] rfl
        have hDc := hD.sub (ws' := [(p5, .inr (3, [x0, x1, x2, x3, .int (nI qn), .int (nI rm)]))]) [5] (by decide) rfl
        have hKc := hK.sub (tys' := []) [] rfl
        refine va_calli (va_runV (As := []) (rest := []) ⟨hx, hb, hml, hown, hts⟩ (c_plHow l dC dI s.heap.size p5 (x0) (x1) (x2) (x3) qn rm ) (cwV 0 hts (gV mw_3_167 mw_3_168 mw_3_169 mw_1_8 mw_3_170) rfl rfl rfl (by decide +kernel) ⟨Nat.le_of_ble_eq_true rfl, Nat.le_of_ble_eq_true rfl⟩) ⟨pcW_blind, va_recv hKc hPc (ci := 3) (q0 := 0) rfl rfl, pcW_at hPc hKc hDc hN⟩ rfl rfl hl.1 rfl (lv_room (Nat.le_of_ble_eq_true rfl)) dX8_told_34 ⟨Nat.le_of_ble_eq_true rfl, Nat.le_of_ble_eq_true rfl⟩) hS (fun q h1 h2 => absurd h2 (Nat.not_le.mpr h1)) (fun q h => hA q (Nat.le_trans hS.1 h)) (fun r_24 u t H1 locs ht hvm hw_24 hB hz1 hk1 hS => ?_)
        have hP := keepP hP hk1
        clear hz1 hk1 hB ht hvm hPc hDc hKc
        generalize H1 = H at hP hS ⊢
        obtain rfl : r_24 = nI qn := hw_24
        exact W.iret (v := (nI qn)) hx hb hr (fun t ht hW => ⟨⟨(nI qn), (), rfl, (by unfold F_told; rw [if_neg (by omega), if_neg (by omega), if_pos (by omega)]), trivial⟩, hS.F ht⟩) hS.2.2 dX8_told_37
    · have b_4 := gn_ne (X := (Int32.toInt n1)) (C := 1) rfl (by decide) c_3
      refine lv_aload_n hx hb dX8_told_17 rfl (lv_at hl 0 rfl) ?_
      refine va_get (D := (dC, dI)) (ci := 7) (v := .ref p2) (C := RX8) (T := TX8) (N := 6) hx hb hts inB_8 hown hK hP 0 rfl rfl 1 (by decide) (hts _ mw_1_169) (fun _ h9 => h9) rfl dX8_told_18 ?_
      have hPc := hP.sub (ws' := [(p2, .inr (2, [d9, .int (nI pn)]))]) [2] rfl
      have hDc := hD.sub (ws' := [(p2, .inr (2, [d9, .int (nI pn)]))]) [2] (by decide) rfl
      have hKc := hK.sub (tys' := []) [] rfl
      refine va_calli (va_runV (As := []) (rest := []) ⟨hx, hb, hml, hown, hts⟩ (c_pLen l dC dI s.heap.size p2 (d9) pn ) (cwV 0 hts (gV mw_3_166 mw_2_118 mw_2_119 mw_1_4 mw_2_120) rfl rfl rfl (by decide +kernel) ⟨Nat.le_of_ble_eq_true rfl, Nat.le_of_ble_eq_true rfl⟩) ⟨pcW_blind, va_recv hKc hPc (ci := 2) (q0 := 0) rfl rfl, pcW_at hPc hKc hDc hN⟩ rfl rfl hl.1 rfl (lv_room (Nat.le_of_ble_eq_true rfl)) dX8_told_21 ⟨Nat.le_of_ble_eq_true rfl, Nat.le_of_ble_eq_true rfl⟩) hS (fun q h1 h2 => absurd h2 (Nat.not_le.mpr h1)) (fun q h => hA q (Nat.le_trans hS.1 h)) (fun r_25 u t H1 locs ht hvm hw_25 hB hz1 hk1 hS => ?_)
      have hP := keepP hP hk1
      clear hz1 hk1 hB ht hvm hPc hDc hKc
      generalize H1 = H at hP hS ⊢
      obtain rfl : r_25 = nI pn := hw_25
      exact W.iret (v := (nI pn)) hx hb hr (fun t ht hW => ⟨⟨(nI pn), (), rfl, (by unfold F_told; rw [if_neg (by omega), if_pos (by omega)]), trivial⟩, hS.F ht⟩) hS.2.2 dX8_told_24
  · have b_2 := gn_ne (X := (Int32.toInt n1)) (C := 0) rfl (by decide) c_1
    refine lv_aload_n hx hb dX8_told_4 rfl (lv_at hl 0 rfl) ?_
    refine va_get (D := (dC, dI)) (ci := 7) (v := .ref p1) (C := RX8) (T := TX8) (N := 6) hx hb hts inB_8 hown hK hP 0 rfl rfl 0 (by decide) (hts _ mw_1_168) (fun _ h9 => h9) rfl dX8_told_5 ?_
    have hPc := hP.sub (ws' := [(p1, .inr (1, [w0, w1, w2, w3, w4, w5, .int (nI cn), .int bb]))]) [1] rfl
    have hDc := hD.sub (ws' := [(p1, .inr (1, [w0, w1, w2, w3, w4, w5, .int (nI cn), .int bb]))]) [1] (by decide) rfl
    have hKc := hK.sub (tys' := []) [] rfl
    refine va_calli (va_runV (As := []) (rest := []) ⟨hx, hb, hml, hown, hts⟩ (c_howMany l dC dI s.heap.size p1 (w0) (w1) (w2) (w3) (w4) (w5) cn (.int bb) hc) (cwV 0 hts (gV mw_3_165 mw_2_210 mw_2_211 mw_1_2 mw_2_212) rfl rfl rfl (by decide +kernel) ⟨Nat.le_of_ble_eq_true rfl, Nat.le_of_ble_eq_true rfl⟩) ⟨pcW_blind, va_recv hKc hPc (ci := 1) (q0 := 0) rfl rfl, pcW_at hPc hKc hDc hN⟩ rfl rfl hl.1 rfl (lv_room (Nat.le_of_ble_eq_true rfl)) dX8_told_8 ⟨Nat.le_of_ble_eq_true rfl, Nat.le_of_ble_eq_true rfl⟩) hS (fun q h1 h2 => absurd h2 (Nat.not_le.mpr h1)) (fun q h => hA q (Nat.le_trans hS.1 h)) (fun r_26 u t H1 locs ht hvm hw_26 hB hz1 hk1 hS => ?_)
    have hP := keepP hP hk1
    clear hz1 hk1 hB ht hvm hPc hDc hKc
    generalize H1 = H at hP hS ⊢
    obtain rfl : r_26 = nI cn := hw_26
    exact W.iret (v := (nI cn)) hx hb hr (fun t ht hW => ⟨⟨(nI cn), (), rfl, (by unfold F_told; rw [if_pos (by omega)]), trivial⟩, hS.F ht⟩) hS.2.2 dX8_told_11
