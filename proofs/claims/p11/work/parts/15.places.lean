theorem mw_1_155 : Cond.laysFinal RX3 "AnswerLines$Places" "sizes" "[I" ∈ BG := mB (t1 (i := 155) (by decide +kernel)) (by decide +kernel)
theorem mw_1_157 : Cond.laysFinal RX3 "AnswerLines$Places" "calledPlaces" "[I" ∈ BG := mB (t1 (i := 157) (by decide +kernel)) (by decide +kernel)
theorem mw_1_159 : Cond.laysFinal RX3 "AnswerLines$Places" "calledKinds" "[I" ∈ BG := mB (t1 (i := 159) (by decide +kernel)) (by decide +kernel)
theorem mw_1_161 : Cond.laysFinal RX3 "AnswerLines$Places" "recent" "[I" ∈ BG := mB (t1 (i := 161) (by decide +kernel)) (by decide +kernel)
theorem mw_1_163 : Cond.lays RX3 "AnswerLines$Places" "count" "I" ∈ BG := mB (t1 (i := 163) (by decide +kernel)) (by decide +kernel)
theorem mw_1_165 : Cond.lays RX3 "AnswerLines$Places" "remembered" "I" ∈ BG := mB (t1 (i := 165) (by decide +kernel)) (by decide +kernel)
theorem inB_3 : ∀ w ∈ u_ws RX3 TX3 6, w ∈ BG := fun w hw => by
  obtain ⟨k, hk, rfl⟩ := List.mem_map.mp hw
  have hk := List.mem_range.mp hk
  rcases (by omega : k = 0 ∨ k = 1 ∨ k = 2 ∨ k = 3 ∨ k = 4 ∨ k = 5) with rfl | rfl | rfl | rfl | rfl | rfl
  · exact mw_1_155
  · exact mw_1_157
  · exact mw_1_159
  · exact mw_1_161
  · exact mw_1_163
  · exact mw_1_165
theorem mw_1_153 : Cond.fieldLink RX3 24 "AnswerLines$Places" "count" "I" ∈ BG := mB (t1 (i := 153) (by decide +kernel)) (by decide +kernel)
theorem mw_3_91 : Cond.code yX3_isFull cX3_isFull 1 (some .boolean) ∈ BG := mB (t3 (i := 91) rfl) (by decide +kernel)
theorem mw_3_96 : Cond.methodLink RX3 28 yX3_isFull ∈ BG := mB (t3 (i := 96) (by decide +kernel)) (by decide +kernel)
theorem mw_3_89 : Cond.instanceMethod yX3_isFull ∈ BG := mB (t3 (i := 89) (by decide +kernel)) (by decide +kernel)
theorem mw_3_90 : Cond.selects RX3 yX3_isFull yX3_isFull ∈ BG := mB (t3 (i := 90) (by decide +kernel)) (by decide +kernel)
theorem mw_1_8 : Cond.initialized RX3 ∈ BG := mB (t1 (i := 8) (by decide +kernel)) (by decide +kernel)
theorem mw_1_150 : Cond.fieldLink RX3 15 "AnswerLines$Places" "calledPlaces" "[I" ∈ BG := mB (t1 (i := 150) (by decide +kernel)) (by decide +kernel)
theorem mw_1_151 : Cond.fieldLink RX3 18 "AnswerLines$Places" "calledKinds" "[I" ∈ BG := mB (t1 (i := 151) (by decide +kernel)) (by decide +kernel)
theorem mw_3_87 : Cond.code yX8_isPlace cX8_isPlace 1 (some .boolean) ∈ BG := mB (t3 (i := 87) rfl) (by decide +kernel)
theorem mw_3_86 : Cond.static yX8_isPlace ∈ BG := mB (t3 (i := 86) (by decide +kernel)) (by decide +kernel)
theorem mw_1_149 : Cond.fieldLink RX3 9 "AnswerLines$Places" "sizes" "[I" ∈ BG := mB (t1 (i := 149) (by decide +kernel)) (by decide +kernel)
theorem mw_3_116 : Cond.code yX3_sizeOf cX3_sizeOf 2 (some .int) ∈ BG := mB (t3 (i := 116) rfl) (by decide +kernel)
theorem mw_3_113 : Cond.methodLink RX3 36 yX3_sizeOf ∈ BG := mB (t3 (i := 113) (by decide +kernel)) (by decide +kernel)
theorem mw_3_114 : Cond.instanceMethod yX3_sizeOf ∈ BG := mB (t3 (i := 114) (by decide +kernel)) (by decide +kernel)
theorem mw_3_115 : Cond.selects RX3 yX3_sizeOf yX3_sizeOf ∈ BG := mB (t3 (i := 115) (by decide +kernel)) (by decide +kernel)
theorem mw_1_154 : Cond.fieldLink RX3 40 "AnswerLines$Places" "remembered" "I" ∈ BG := mB (t1 (i := 154) (by decide +kernel)) (by decide +kernel)
theorem mw_1_152 : Cond.fieldLink RX3 21 "AnswerLines$Places" "recent" "[I" ∈ BG := mB (t1 (i := 152) (by decide +kernel)) (by decide +kernel)
theorem mw_3_134 : Cond.code yX3_whereRecent cX3_whereRecent 3 (some .int) ∈ BG := mB (t3 (i := 134) rfl) (by decide +kernel)
theorem mw_3_131 : Cond.methodLink RX3 43 yX3_whereRecent ∈ BG := mB (t3 (i := 131) (by decide +kernel)) (by decide +kernel)
theorem mw_3_133 : Cond.instanceMethod yX3_whereRecent ∈ BG := mB (t3 (i := 133) (by decide +kernel)) (by decide +kernel)
theorem mw_0_12 : Cond.selects RX3 yX3_whereRecent yX3_whereRecent ∈ BG := mB (t0 (i := 12) (by decide +kernel)) (by decide +kernel)
theorem mw_3_138 : Cond.code yX3_putFirst cX3_putFirst 4 none ∈ BG := mB (t3 (i := 138) rfl) (by decide +kernel)
theorem mw_3_135 : Cond.methodLink RX3 46 yX3_putFirst ∈ BG := mB (t3 (i := 135) (by decide +kernel)) (by decide +kernel)
theorem mw_3_137 : Cond.instanceMethod yX3_putFirst ∈ BG := mB (t3 (i := 137) (by decide +kernel)) (by decide +kernel)
theorem mw_0_13 : Cond.selects RX3 yX3_putFirst yX3_putFirst ∈ BG := mB (t0 (i := 13) (by decide +kernel)) (by decide +kernel)
theorem mw_3_151 : Cond.code yJ6_numberOfTrailingZeros_0f7a4 cJ6_numberOfTrailingZeros_0f7a4 2 (some .int) ∈ BG := mB (t3 (i := 151) rfl) (by decide +kernel)
theorem mw_3_149 : Cond.methodLink RX3 63 yJ6_numberOfTrailingZeros_0f7a4 ∈ BG := mB (t3 (i := 149) (by decide +kernel)) (by decide +kernel)
theorem mw_3_150 : Cond.static yJ6_numberOfTrailingZeros_0f7a4 ∈ BG := mB (t3 (i := 150) (by decide +kernel)) (by decide +kernel)
theorem mw_3_144 : Cond.methodLink RX3 54 yJ6_bitCount_0f7a4 ∈ BG := mB (t3 (i := 144) (by decide +kernel)) (by decide +kernel)
theorem mw_3_148 : Cond.code yX3_longestUnused cX3_longestUnused 6 (some .int) ∈ BG := mB (t3 (i := 148) rfl) (by decide +kernel)
theorem mw_3_145 : Cond.methodLink RX3 59 yX3_longestUnused ∈ BG := mB (t3 (i := 145) (by decide +kernel)) (by decide +kernel)
theorem mw_3_147 : Cond.instanceMethod yX3_longestUnused ∈ BG := mB (t3 (i := 147) (by decide +kernel)) (by decide +kernel)
theorem mw_0_14 : Cond.selects RX3 yX3_longestUnused yX3_longestUnused ∈ BG := mB (t0 (i := 14) (by decide +kernel)) (by decide +kernel)
theorem dX3_isFull_0 : decode cX3_isFull 0 = .ok (.aload_n 0, 1) := by decide +kernel
theorem dX3_isFull_1 : decode cX3_isFull 1 = .ok (.getfield 24, 3) := by decide +kernel
theorem dX3_isFull_4 : decode cX3_isFull 4 = .ok (.bipush 40, 2) := by decide +kernel
theorem dX3_isFull_6 : decode cX3_isFull 6 = .ok (.if_icmp .lt 7, 3) := by decide +kernel
theorem dX3_isFull_13 : decode cX3_isFull 13 = .ok (.iconst 0, 1) := by decide +kernel
theorem dX3_isFull_14 : decode cX3_isFull 14 = .ok (.ireturn, 1) := by decide +kernel
theorem dX3_isFull_9 : decode cX3_isFull 9 = .ok (.iconst 1, 1) := by decide +kernel
theorem dX3_isFull_10 : decode cX3_isFull 10 = .ok (.goto 4, 3) := by decide +kernel
theorem dX3_howMany_0 : decode cX3_howMany 0 = .ok (.aload_n 0, 1) := by decide +kernel
theorem dX3_howMany_1 : decode cX3_howMany 1 = .ok (.getfield 24, 3) := by decide +kernel
theorem dX3_howMany_4 : decode cX3_howMany 4 = .ok (.ireturn, 1) := by decide +kernel
theorem dX3_clear_0 : decode cX3_clear 0 = .ok (.aload_n 0, 1) := by decide +kernel
theorem dX3_clear_1 : decode cX3_clear 1 = .ok (.getfield 24, 3) := by decide +kernel
theorem dX3_clear_4 : decode cX3_clear 4 = .ok (.istore_n 1, 1) := by decide +kernel
theorem dX3_clear_5 : decode cX3_clear 5 = .ok (.aload_n 0, 1) := by decide +kernel
theorem dX3_clear_6 : decode cX3_clear 6 = .ok (.iconst 0, 1) := by decide +kernel
theorem dX3_clear_7 : decode cX3_clear 7 = .ok (.putfield 24, 3) := by decide +kernel
theorem dX3_clear_10 : decode cX3_clear 10 = .ok (.iload_n 1, 1) := by decide +kernel
theorem dX3_clear_11 : decode cX3_clear 11 = .ok (.ireturn, 1) := by decide +kernel
theorem dX3_record_0 : decode cX3_record 0 = .ok (.aload_n 0, 1) := by decide +kernel
theorem dX3_record_1 : decode cX3_record 1 = .ok (.invokevirtual 28, 3) := by decide +kernel
theorem dX3_record_4 : decode cX3_record 4 = .ok (.ifCond .eq 6, 3) := by decide +kernel
theorem dX3_record_10 : decode cX3_record 10 = .ok (.aload_n 0, 1) := by decide +kernel
theorem dX3_record_11 : decode cX3_record 11 = .ok (.getfield 15, 3) := by decide +kernel
theorem dX3_record_14 : decode cX3_record 14 = .ok (.aload_n 0, 1) := by decide +kernel
theorem dX3_record_15 : decode cX3_record 15 = .ok (.getfield 24, 3) := by decide +kernel
theorem dX3_record_18 : decode cX3_record 18 = .ok (.iload_n 1, 1) := by decide +kernel
theorem dX3_record_19 : decode cX3_record 19 = .ok (.iastore, 1) := by decide +kernel
theorem dX3_record_20 : decode cX3_record 20 = .ok (.aload_n 0, 1) := by decide +kernel
theorem dX3_record_21 : decode cX3_record 21 = .ok (.getfield 18, 3) := by decide +kernel
theorem dX3_record_24 : decode cX3_record 24 = .ok (.aload_n 0, 1) := by decide +kernel
theorem dX3_record_25 : decode cX3_record 25 = .ok (.getfield 24, 3) := by decide +kernel
theorem dX3_record_28 : decode cX3_record 28 = .ok (.iload_n 2, 1) := by decide +kernel
theorem dX3_record_29 : decode cX3_record 29 = .ok (.iastore, 1) := by decide +kernel
theorem dX3_record_30 : decode cX3_record 30 = .ok (.aload_n 0, 1) := by decide +kernel
theorem dX3_record_31 : decode cX3_record 31 = .ok (.dup, 1) := by decide +kernel
theorem dX3_record_32 : decode cX3_record 32 = .ok (.getfield 24, 3) := by decide +kernel
theorem dX3_record_35 : decode cX3_record 35 = .ok (.iconst 1, 1) := by decide +kernel
theorem dX3_record_36 : decode cX3_record 36 = .ok (.iadd, 1) := by decide +kernel
theorem dX3_record_37 : decode cX3_record 37 = .ok (.putfield 24, 3) := by decide +kernel
theorem dX3_record_40 : decode cX3_record 40 = .ok (.aload_n 0, 1) := by decide +kernel
theorem dX3_record_41 : decode cX3_record 41 = .ok (.getfield 24, 3) := by decide +kernel
theorem dX3_record_44 : decode cX3_record 44 = .ok (.ireturn, 1) := by decide +kernel
theorem dX3_sizeOf_0 : decode cX3_sizeOf 0 = .ok (.iload_n 1, 1) := by decide +kernel
theorem dX3_sizeOf_1 : decode cX3_sizeOf 1 = .ok (.invokestatic 32, 3) := by decide +kernel
theorem dX3_sizeOf_4 : decode cX3_sizeOf 4 = .ok (.ifCond .eq 12, 3) := by decide +kernel
theorem dX3_sizeOf_7 : decode cX3_sizeOf 7 = .ok (.aload_n 0, 1) := by decide +kernel
theorem dX3_sizeOf_8 : decode cX3_sizeOf 8 = .ok (.getfield 9, 3) := by decide +kernel
theorem dX3_sizeOf_11 : decode cX3_sizeOf 11 = .ok (.iload_n 1, 1) := by decide +kernel
theorem dX3_sizeOf_12 : decode cX3_sizeOf 12 = .ok (.iaload, 1) := by decide +kernel
theorem dX3_sizeOf_13 : decode cX3_sizeOf 13 = .ok (.goto 4, 3) := by decide +kernel
theorem dX3_sizeOf_17 : decode cX3_sizeOf 17 = .ok (.ireturn, 1) := by decide +kernel
theorem dX3_resize_0 : decode cX3_resize 0 = .ok (.aload_n 0, 1) := by decide +kernel
theorem dX3_resize_1 : decode cX3_resize 1 = .ok (.iload_n 1, 1) := by decide +kernel
theorem dX3_resize_2 : decode cX3_resize 2 = .ok (.invokevirtual 36, 3) := by decide +kernel
theorem dX3_resize_5 : decode cX3_resize 5 = .ok (.istore_n 3, 1) := by decide +kernel
theorem dX3_resize_6 : decode cX3_resize 6 = .ok (.iload_n 1, 1) := by decide +kernel
theorem dX3_resize_7 : decode cX3_resize 7 = .ok (.invokestatic 32, 3) := by decide +kernel
theorem dX3_resize_10 : decode cX3_resize 10 = .ok (.ifCond .eq 10, 3) := by decide +kernel
theorem dX3_resize_13 : decode cX3_resize 13 = .ok (.aload_n 0, 1) := by decide +kernel
theorem dX3_resize_14 : decode cX3_resize 14 = .ok (.getfield 9, 3) := by decide +kernel
theorem dX3_resize_17 : decode cX3_resize 17 = .ok (.iload_n 1, 1) := by decide +kernel
theorem dX3_resize_18 : decode cX3_resize 18 = .ok (.iload_n 2, 1) := by decide +kernel
theorem dX3_resize_19 : decode cX3_resize 19 = .ok (.iastore, 1) := by decide +kernel
theorem dX3_resize_20 : decode cX3_resize 20 = .ok (.iload_n 3, 1) := by decide +kernel
theorem dX3_resize_21 : decode cX3_resize 21 = .ok (.ireturn, 1) := by decide +kernel
theorem dX3_callsAt_0 : decode cX3_callsAt 0 = .ok (.iconst 0, 1) := by decide +kernel
theorem dX3_callsAt_1 : decode cX3_callsAt 1 = .ok (.istore_n 2, 1) := by decide +kernel
theorem dX3_callsAt_2 : decode cX3_callsAt 2 = .ok (.iconst 0, 1) := by decide +kernel
theorem dX3_callsAt_3 : decode cX3_callsAt 3 = .ok (.istore_n 3, 1) := by decide +kernel
theorem dX3_callsAt_4 : decode cX3_callsAt 4 = .ok (.iload_n 3, 1) := by decide +kernel
theorem dX3_callsAt_5 : decode cX3_callsAt 5 = .ok (.aload_n 0, 1) := by decide +kernel
theorem dX3_callsAt_6 : decode cX3_callsAt 6 = .ok (.getfield 24, 3) := by decide +kernel
theorem dX3_callsAt_9 : decode cX3_callsAt 9 = .ok (.if_icmp .ge 22, 3) := by decide +kernel
theorem dX3_callsAt_31 : decode cX3_callsAt 31 = .ok (.iload_n 2, 1) := by decide +kernel
theorem dX3_callsAt_32 : decode cX3_callsAt 32 = .ok (.ireturn, 1) := by decide +kernel
theorem dX3_callsAt_12 : decode cX3_callsAt 12 = .ok (.aload_n 0, 1) := by decide +kernel
theorem dX3_callsAt_13 : decode cX3_callsAt 13 = .ok (.getfield 15, 3) := by decide +kernel
theorem dX3_callsAt_16 : decode cX3_callsAt 16 = .ok (.iload_n 3, 1) := by decide +kernel
theorem dX3_callsAt_17 : decode cX3_callsAt 17 = .ok (.iaload, 1) := by decide +kernel
theorem dX3_callsAt_18 : decode cX3_callsAt 18 = .ok (.iload_n 1, 1) := by decide +kernel
theorem dX3_callsAt_19 : decode cX3_callsAt 19 = .ok (.if_icmp .ne 6, 3) := by decide +kernel
theorem dX3_callsAt_25 : decode cX3_callsAt 25 = .ok (.iinc 3 1, 3) := by decide +kernel
theorem dX3_callsAt_28 : decode cX3_callsAt 28 = .ok (.goto (-24), 3) := by decide +kernel
theorem dX3_callsAt_22 : decode cX3_callsAt 22 = .ok (.iinc 2 1, 3) := by decide +kernel
theorem dX3_whereRecent_0 : decode cX3_whereRecent 0 = .ok (.iconst 0, 1) := by decide +kernel
theorem dX3_whereRecent_1 : decode cX3_whereRecent 1 = .ok (.istore_n 2, 1) := by decide +kernel
theorem dX3_whereRecent_2 : decode cX3_whereRecent 2 = .ok (.iload_n 2, 1) := by decide +kernel
theorem dX3_whereRecent_3 : decode cX3_whereRecent 3 = .ok (.aload_n 0, 1) := by decide +kernel
theorem dX3_whereRecent_4 : decode cX3_whereRecent 4 = .ok (.getfield 40, 3) := by decide +kernel
theorem dX3_whereRecent_7 : decode cX3_whereRecent 7 = .ok (.if_icmp .ge 26, 3) := by decide +kernel
theorem dX3_whereRecent_33 : decode cX3_whereRecent 33 = .ok (.bipush (-6), 2) := by decide +kernel
theorem dX3_whereRecent_35 : decode cX3_whereRecent 35 = .ok (.ireturn, 1) := by decide +kernel
theorem dX3_whereRecent_10 : decode cX3_whereRecent 10 = .ok (.iload_n 2, 1) := by decide +kernel
theorem dX3_whereRecent_11 : decode cX3_whereRecent 11 = .ok (.iconst 4, 1) := by decide +kernel
theorem dX3_whereRecent_12 : decode cX3_whereRecent 12 = .ok (.if_icmp .ge 21, 3) := by decide +kernel
theorem dX3_whereRecent_15 : decode cX3_whereRecent 15 = .ok (.aload_n 0, 1) := by decide +kernel
theorem dX3_whereRecent_16 : decode cX3_whereRecent 16 = .ok (.getfield 21, 3) := by decide +kernel
theorem dX3_whereRecent_19 : decode cX3_whereRecent 19 = .ok (.iload_n 2, 1) := by decide +kernel
theorem dX3_whereRecent_20 : decode cX3_whereRecent 20 = .ok (.iaload, 1) := by decide +kernel
theorem dX3_whereRecent_21 : decode cX3_whereRecent 21 = .ok (.iload_n 1, 1) := by decide +kernel
theorem dX3_whereRecent_22 : decode cX3_whereRecent 22 = .ok (.if_icmp .ne 5, 3) := by decide +kernel
theorem dX3_whereRecent_27 : decode cX3_whereRecent 27 = .ok (.iinc 2 1, 3) := by decide +kernel
theorem dX3_whereRecent_30 : decode cX3_whereRecent 30 = .ok (.goto (-28), 3) := by decide +kernel
theorem dX3_whereRecent_25 : decode cX3_whereRecent 25 = .ok (.iload_n 2, 1) := by decide +kernel
theorem dX3_whereRecent_26 : decode cX3_whereRecent 26 = .ok (.ireturn, 1) := by decide +kernel
theorem dX3_putFirst_0 : decode cX3_putFirst 0 = .ok (.iload_n 2, 1) := by decide +kernel
theorem dX3_putFirst_1 : decode cX3_putFirst 1 = .ok (.ifCond .lt 8, 3) := by decide +kernel
theorem dX3_putFirst_4 : decode cX3_putFirst 4 = .ok (.iload_n 2, 1) := by decide +kernel
theorem dX3_putFirst_5 : decode cX3_putFirst 5 = .ok (.iconst 4, 1) := by decide +kernel
theorem dX3_putFirst_6 : decode cX3_putFirst 6 = .ok (.if_icmp .lt 4, 3) := by decide +kernel
theorem dX3_putFirst_10 : decode cX3_putFirst 10 = .ok (.iload_n 2, 1) := by decide +kernel
theorem dX3_putFirst_11 : decode cX3_putFirst 11 = .ok (.istore_n 3, 1) := by decide +kernel
theorem dX3_putFirst_12 : decode cX3_putFirst 12 = .ok (.iload_n 3, 1) := by decide +kernel
theorem dX3_putFirst_13 : decode cX3_putFirst 13 = .ok (.ifCond .le 23, 3) := by decide +kernel
theorem dX3_putFirst_36 : decode cX3_putFirst 36 = .ok (.aload_n 0, 1) := by decide +kernel
theorem dX3_putFirst_37 : decode cX3_putFirst 37 = .ok (.getfield 21, 3) := by decide +kernel
theorem dX3_putFirst_40 : decode cX3_putFirst 40 = .ok (.iconst 0, 1) := by decide +kernel
theorem dX3_putFirst_41 : decode cX3_putFirst 41 = .ok (.iload_n 1, 1) := by decide +kernel
theorem dX3_putFirst_42 : decode cX3_putFirst 42 = .ok (.iastore, 1) := by decide +kernel
theorem dX3_putFirst_43 : decode cX3_putFirst 43 = .ok (.return_, 1) := by decide +kernel
theorem dX3_putFirst_16 : decode cX3_putFirst 16 = .ok (.aload_n 0, 1) := by decide +kernel
theorem dX3_putFirst_17 : decode cX3_putFirst 17 = .ok (.getfield 21, 3) := by decide +kernel
theorem dX3_putFirst_20 : decode cX3_putFirst 20 = .ok (.iload_n 3, 1) := by decide +kernel
theorem dX3_putFirst_21 : decode cX3_putFirst 21 = .ok (.aload_n 0, 1) := by decide +kernel
theorem dX3_putFirst_22 : decode cX3_putFirst 22 = .ok (.getfield 21, 3) := by decide +kernel
theorem dX3_putFirst_25 : decode cX3_putFirst 25 = .ok (.iload_n 3, 1) := by decide +kernel
theorem dX3_putFirst_26 : decode cX3_putFirst 26 = .ok (.iconst 1, 1) := by decide +kernel
theorem dX3_putFirst_27 : decode cX3_putFirst 27 = .ok (.isub, 1) := by decide +kernel
theorem dX3_putFirst_28 : decode cX3_putFirst 28 = .ok (.iaload, 1) := by decide +kernel
theorem dX3_putFirst_29 : decode cX3_putFirst 29 = .ok (.iastore, 1) := by decide +kernel
theorem dX3_putFirst_30 : decode cX3_putFirst 30 = .ok (.iinc 3 (-1), 3) := by decide +kernel
theorem dX3_putFirst_33 : decode cX3_putFirst 33 = .ok (.goto (-21), 3) := by decide +kernel
theorem dX3_latest_0 : decode cX3_latest 0 = .ok (.iload_n 1, 1) := by decide +kernel
theorem dX3_latest_1 : decode cX3_latest 1 = .ok (.ifCond .lt 25, 3) := by decide +kernel
theorem dX3_latest_4 : decode cX3_latest 4 = .ok (.iload_n 1, 1) := by decide +kernel
theorem dX3_latest_5 : decode cX3_latest 5 = .ok (.aload_n 0, 1) := by decide +kernel
theorem dX3_latest_6 : decode cX3_latest 6 = .ok (.getfield 40, 3) := by decide +kernel
theorem dX3_latest_9 : decode cX3_latest 9 = .ok (.if_icmp .ge 17, 3) := by decide +kernel
theorem dX3_latest_26 : decode cX3_latest 26 = .ok (.bipush (-6), 2) := by decide +kernel
theorem dX3_latest_28 : decode cX3_latest 28 = .ok (.ireturn, 1) := by decide +kernel
theorem dX3_latest_12 : decode cX3_latest 12 = .ok (.iload_n 1, 1) := by decide +kernel
theorem dX3_latest_13 : decode cX3_latest 13 = .ok (.iconst 4, 1) := by decide +kernel
theorem dX3_latest_14 : decode cX3_latest 14 = .ok (.if_icmp .ge 12, 3) := by decide +kernel
theorem dX3_latest_17 : decode cX3_latest 17 = .ok (.aload_n 0, 1) := by decide +kernel
theorem dX3_latest_18 : decode cX3_latest 18 = .ok (.getfield 21, 3) := by decide +kernel
theorem dX3_latest_21 : decode cX3_latest 21 = .ok (.iload_n 1, 1) := by decide +kernel
theorem dX3_latest_22 : decode cX3_latest 22 = .ok (.iaload, 1) := by decide +kernel
theorem dX3_latest_23 : decode cX3_latest 23 = .ok (.goto 5, 3) := by decide +kernel
theorem dX3_hitsBySize_0 : decode cX3_hitsBySize 0 = .ok (.aload_n 0, 1) := by decide +kernel
theorem dX3_hitsBySize_1 : decode cX3_hitsBySize 1 = .ok (.iconst 0, 1) := by decide +kernel
theorem dX3_hitsBySize_2 : decode cX3_hitsBySize 2 = .ok (.putfield 40, 3) := by decide +kernel
theorem dX3_hitsBySize_5 : decode cX3_hitsBySize 5 = .ok (.iconst 0, 1) := by decide +kernel
theorem dX3_hitsBySize_6 : decode cX3_hitsBySize 6 = .ok (.istore_n 3, 1) := by decide +kernel
theorem dX3_hitsBySize_7 : decode cX3_hitsBySize 7 = .ok (.iconst 0, 1) := by decide +kernel
theorem dX3_hitsBySize_8 : decode cX3_hitsBySize 8 = .ok (.istore 4, 2) := by decide +kernel
theorem dX3_hitsBySize_10 : decode cX3_hitsBySize 10 = .ok (.iload 4, 2) := by decide +kernel
theorem dX3_hitsBySize_12 : decode cX3_hitsBySize 12 = .ok (.aload_n 0, 1) := by decide +kernel
theorem dX3_hitsBySize_13 : decode cX3_hitsBySize 13 = .ok (.getfield 24, 3) := by decide +kernel
theorem dX3_hitsBySize_16 : decode cX3_hitsBySize 16 = .ok (.if_icmp .ge 102, 3) := by decide +kernel
theorem dX3_hitsBySize_118 : decode cX3_hitsBySize 118 = .ok (.iload_n 3, 1) := by decide +kernel
theorem dX3_hitsBySize_119 : decode cX3_hitsBySize 119 = .ok (.ireturn, 1) := by decide +kernel
theorem dX3_hitsBySize_19 : decode cX3_hitsBySize 19 = .ok (.aload_n 0, 1) := by decide +kernel
theorem dX3_hitsBySize_20 : decode cX3_hitsBySize 20 = .ok (.getfield 15, 3) := by decide +kernel
theorem dX3_hitsBySize_23 : decode cX3_hitsBySize 23 = .ok (.iload 4, 2) := by decide +kernel
theorem dX3_hitsBySize_25 : decode cX3_hitsBySize 25 = .ok (.iaload, 1) := by decide +kernel
theorem dX3_hitsBySize_26 : decode cX3_hitsBySize 26 = .ok (.iload_n 1, 1) := by decide +kernel
theorem dX3_hitsBySize_27 : decode cX3_hitsBySize 27 = .ok (.if_icmp .eq 6, 3) := by decide +kernel
theorem dX3_hitsBySize_33 : decode cX3_hitsBySize 33 = .ok (.aload_n 0, 1) := by decide +kernel
theorem dX3_hitsBySize_34 : decode cX3_hitsBySize 34 = .ok (.aload_n 0, 1) := by decide +kernel
theorem dX3_hitsBySize_35 : decode cX3_hitsBySize 35 = .ok (.getfield 18, 3) := by decide +kernel
theorem dX3_hitsBySize_38 : decode cX3_hitsBySize 38 = .ok (.iload 4, 2) := by decide +kernel
theorem dX3_hitsBySize_40 : decode cX3_hitsBySize 40 = .ok (.iaload, 1) := by decide +kernel
theorem dX3_hitsBySize_41 : decode cX3_hitsBySize 41 = .ok (.invokevirtual 43, 3) := by decide +kernel
theorem dX3_hitsBySize_44 : decode cX3_hitsBySize 44 = .ok (.istore 5, 2) := by decide +kernel
theorem dX3_hitsBySize_46 : decode cX3_hitsBySize 46 = .ok (.iload 5, 2) := by decide +kernel
theorem dX3_hitsBySize_48 : decode cX3_hitsBySize 48 = .ok (.bipush (-6), 2) := by decide +kernel
theorem dX3_hitsBySize_50 : decode cX3_hitsBySize 50 = .ok (.if_icmp .eq 9, 3) := by decide +kernel
theorem dX3_hitsBySize_59 : decode cX3_hitsBySize 59 = .ok (.aload_n 0, 1) := by decide +kernel
theorem dX3_hitsBySize_60 : decode cX3_hitsBySize 60 = .ok (.getfield 40, 3) := by decide +kernel
theorem dX3_hitsBySize_63 : decode cX3_hitsBySize 63 = .ok (.iload_n 2, 1) := by decide +kernel
theorem dX3_hitsBySize_64 : decode cX3_hitsBySize 64 = .ok (.if_icmp .ge 27, 3) := by decide +kernel
theorem dX3_hitsBySize_91 : decode cX3_hitsBySize 91 = .ok (.aload_n 0, 1) := by decide +kernel
theorem dX3_hitsBySize_92 : decode cX3_hitsBySize 92 = .ok (.getfield 40, 3) := by decide +kernel
theorem dX3_hitsBySize_95 : decode cX3_hitsBySize 95 = .ok (.iconst 1, 1) := by decide +kernel
theorem dX3_hitsBySize_96 : decode cX3_hitsBySize 96 = .ok (.isub, 1) := by decide +kernel
theorem dX3_hitsBySize_97 : decode cX3_hitsBySize 97 = .ok (.istore 5, 2) := by decide +kernel
theorem dX3_hitsBySize_99 : decode cX3_hitsBySize 99 = .ok (.aload_n 0, 1) := by decide +kernel
theorem dX3_hitsBySize_100 : decode cX3_hitsBySize 100 = .ok (.aload_n 0, 1) := by decide +kernel
theorem dX3_hitsBySize_101 : decode cX3_hitsBySize 101 = .ok (.getfield 18, 3) := by decide +kernel
theorem dX3_hitsBySize_104 : decode cX3_hitsBySize 104 = .ok (.iload 4, 2) := by decide +kernel
theorem dX3_hitsBySize_106 : decode cX3_hitsBySize 106 = .ok (.iaload, 1) := by decide +kernel
theorem dX3_hitsBySize_107 : decode cX3_hitsBySize 107 = .ok (.iload 5, 2) := by decide +kernel
theorem dX3_hitsBySize_109 : decode cX3_hitsBySize 109 = .ok (.invokevirtual 46, 3) := by decide +kernel
theorem dX3_hitsBySize_112 : decode cX3_hitsBySize 112 = .ok (.iinc 4 1, 3) := by decide +kernel
theorem dX3_hitsBySize_115 : decode cX3_hitsBySize 115 = .ok (.goto (-105), 3) := by decide +kernel
theorem dX3_hitsBySize_67 : decode cX3_hitsBySize 67 = .ok (.aload_n 0, 1) := by decide +kernel
theorem dX3_hitsBySize_68 : decode cX3_hitsBySize 68 = .ok (.getfield 40, 3) := by decide +kernel
theorem dX3_hitsBySize_71 : decode cX3_hitsBySize 71 = .ok (.iconst 4, 1) := by decide +kernel
theorem dX3_hitsBySize_72 : decode cX3_hitsBySize 72 = .ok (.if_icmp .ge 19, 3) := by decide +kernel
theorem dX3_hitsBySize_75 : decode cX3_hitsBySize 75 = .ok (.aload_n 0, 1) := by decide +kernel
theorem dX3_hitsBySize_76 : decode cX3_hitsBySize 76 = .ok (.dup, 1) := by decide +kernel
theorem dX3_hitsBySize_77 : decode cX3_hitsBySize 77 = .ok (.getfield 40, 3) := by decide +kernel
theorem dX3_hitsBySize_80 : decode cX3_hitsBySize 80 = .ok (.dup_x1, 1) := by decide +kernel
theorem dX3_hitsBySize_81 : decode cX3_hitsBySize 81 = .ok (.iconst 1, 1) := by decide +kernel
theorem dX3_hitsBySize_82 : decode cX3_hitsBySize 82 = .ok (.iadd, 1) := by decide +kernel
theorem dX3_hitsBySize_83 : decode cX3_hitsBySize 83 = .ok (.putfield 40, 3) := by decide +kernel
theorem dX3_hitsBySize_86 : decode cX3_hitsBySize 86 = .ok (.istore 5, 2) := by decide +kernel
theorem dX3_hitsBySize_88 : decode cX3_hitsBySize 88 = .ok (.goto 11, 3) := by decide +kernel
theorem dX3_hitsBySize_53 : decode cX3_hitsBySize 53 = .ok (.iinc 3 1, 3) := by decide +kernel
theorem dX3_hitsBySize_56 : decode cX3_hitsBySize 56 = .ok (.goto 43, 3) := by decide +kernel
theorem dX3_hitsBySize_30 : decode cX3_hitsBySize 30 = .ok (.goto 82, 3) := by decide +kernel
theorem dX3_longestUnused_0 : decode cX3_longestUnused 0 = .ok (.iload_n 2, 1) := by decide +kernel
theorem dX3_longestUnused_1 : decode cX3_longestUnused 1 = .ok (.istore 4, 2) := by decide +kernel
theorem dX3_longestUnused_3 : decode cX3_longestUnused 3 = .ok (.iload_n 3, 1) := by decide +kernel
theorem dX3_longestUnused_4 : decode cX3_longestUnused 4 = .ok (.iconst 1, 1) := by decide +kernel
theorem dX3_longestUnused_5 : decode cX3_longestUnused 5 = .ok (.iadd, 1) := by decide +kernel
theorem dX3_longestUnused_6 : decode cX3_longestUnused 6 = .ok (.istore 5, 2) := by decide +kernel
theorem dX3_longestUnused_8 : decode cX3_longestUnused 8 = .ok (.iload 5, 2) := by decide +kernel
theorem dX3_longestUnused_10 : decode cX3_longestUnused 10 = .ok (.aload_n 0, 1) := by decide +kernel
theorem dX3_longestUnused_11 : decode cX3_longestUnused 11 = .ok (.getfield 24, 3) := by decide +kernel
theorem dX3_longestUnused_14 : decode cX3_longestUnused 14 = .ok (.if_icmp .ge 45, 3) := by decide +kernel
theorem dX3_longestUnused_59 : decode cX3_longestUnused 59 = .ok (.iload 4, 2) := by decide +kernel
theorem dX3_longestUnused_61 : decode cX3_longestUnused 61 = .ok (.invokestatic 63, 3) := by decide +kernel
theorem dX3_longestUnused_64 : decode cX3_longestUnused 64 = .ok (.ireturn, 1) := by decide +kernel
theorem dX3_longestUnused_17 : decode cX3_longestUnused 17 = .ok (.iload 4, 2) := by decide +kernel
theorem dX3_longestUnused_19 : decode cX3_longestUnused 19 = .ok (.invokestatic 54, 3) := by decide +kernel
theorem dX3_longestUnused_22 : decode cX3_longestUnused 22 = .ok (.iconst 1, 1) := by decide +kernel
theorem dX3_longestUnused_23 : decode cX3_longestUnused 23 = .ok (.if_icmp .le 36, 3) := by decide +kernel
theorem dX3_longestUnused_26 : decode cX3_longestUnused 26 = .ok (.aload_n 0, 1) := by decide +kernel
theorem dX3_longestUnused_27 : decode cX3_longestUnused 27 = .ok (.getfield 15, 3) := by decide +kernel
theorem dX3_longestUnused_30 : decode cX3_longestUnused 30 = .ok (.iload 5, 2) := by decide +kernel
theorem dX3_longestUnused_32 : decode cX3_longestUnused 32 = .ok (.iaload, 1) := by decide +kernel
theorem dX3_longestUnused_33 : decode cX3_longestUnused 33 = .ok (.iload_n 1, 1) := by decide +kernel
theorem dX3_longestUnused_34 : decode cX3_longestUnused 34 = .ok (.if_icmp .ne 19, 3) := by decide +kernel
theorem dX3_longestUnused_53 : decode cX3_longestUnused 53 = .ok (.iinc 5 1, 3) := by decide +kernel
theorem dX3_longestUnused_56 : decode cX3_longestUnused 56 = .ok (.goto (-48), 3) := by decide +kernel
theorem dX3_longestUnused_37 : decode cX3_longestUnused 37 = .ok (.iload 4, 2) := by decide +kernel
theorem dX3_longestUnused_39 : decode cX3_longestUnused 39 = .ok (.iconst 1, 1) := by decide +kernel
theorem dX3_longestUnused_40 : decode cX3_longestUnused 40 = .ok (.aload_n 0, 1) := by decide +kernel
theorem dX3_longestUnused_41 : decode cX3_longestUnused 41 = .ok (.getfield 18, 3) := by decide +kernel
theorem dX3_longestUnused_44 : decode cX3_longestUnused 44 = .ok (.iload 5, 2) := by decide +kernel
theorem dX3_longestUnused_46 : decode cX3_longestUnused 46 = .ok (.iaload, 1) := by decide +kernel
theorem dX3_longestUnused_47 : decode cX3_longestUnused 47 = .ok (.ishl, 1) := by decide +kernel
theorem dX3_longestUnused_48 : decode cX3_longestUnused 48 = .ok (.iconst (-1), 1) := by decide +kernel
theorem dX3_longestUnused_49 : decode cX3_longestUnused 49 = .ok (.ixor, 1) := by decide +kernel
theorem dX3_longestUnused_50 : decode cX3_longestUnused 50 = .ok (.iand, 1) := by decide +kernel
theorem dX3_longestUnused_51 : decode cX3_longestUnused 51 = .ok (.istore 4, 2) := by decide +kernel
theorem dX3_bestHits_0 : decode cX3_bestHits 0 = .ok (.aload_n 0, 1) := by decide +kernel
theorem dX3_bestHits_1 : decode cX3_bestHits 1 = .ok (.iload_n 1, 1) := by decide +kernel
theorem dX3_bestHits_2 : decode cX3_bestHits 2 = .ok (.invokevirtual 36, 3) := by decide +kernel
theorem dX3_bestHits_5 : decode cX3_bestHits 5 = .ok (.istore_n 2, 1) := by decide +kernel
theorem dX3_bestHits_6 : decode cX3_bestHits 6 = .ok (.iconst 0, 1) := by decide +kernel
theorem dX3_bestHits_7 : decode cX3_bestHits 7 = .ok (.istore_n 3, 1) := by decide +kernel
theorem dX3_bestHits_8 : decode cX3_bestHits 8 = .ok (.iconst 0, 1) := by decide +kernel
theorem dX3_bestHits_9 : decode cX3_bestHits 9 = .ok (.istore 4, 2) := by decide +kernel
theorem dX3_bestHits_11 : decode cX3_bestHits 11 = .ok (.iconst 0, 1) := by decide +kernel
theorem dX3_bestHits_12 : decode cX3_bestHits 12 = .ok (.istore 5, 2) := by decide +kernel
theorem dX3_bestHits_14 : decode cX3_bestHits 14 = .ok (.iload 5, 2) := by decide +kernel
theorem dX3_bestHits_16 : decode cX3_bestHits 16 = .ok (.aload_n 0, 1) := by decide +kernel
theorem dX3_bestHits_17 : decode cX3_bestHits 17 = .ok (.getfield 24, 3) := by decide +kernel
theorem dX3_bestHits_20 : decode cX3_bestHits 20 = .ok (.if_icmp .ge 78, 3) := by decide +kernel
theorem dX3_bestHits_98 : decode cX3_bestHits 98 = .ok (.iload 4, 2) := by decide +kernel
theorem dX3_bestHits_100 : decode cX3_bestHits 100 = .ok (.ireturn, 1) := by decide +kernel
theorem dX3_bestHits_23 : decode cX3_bestHits 23 = .ok (.aload_n 0, 1) := by decide +kernel
theorem dX3_bestHits_24 : decode cX3_bestHits 24 = .ok (.getfield 15, 3) := by decide +kernel
theorem dX3_bestHits_27 : decode cX3_bestHits 27 = .ok (.iload 5, 2) := by decide +kernel
theorem dX3_bestHits_29 : decode cX3_bestHits 29 = .ok (.iaload, 1) := by decide +kernel
theorem dX3_bestHits_30 : decode cX3_bestHits 30 = .ok (.iload_n 1, 1) := by decide +kernel
theorem dX3_bestHits_31 : decode cX3_bestHits 31 = .ok (.if_icmp .eq 6, 3) := by decide +kernel
theorem dX3_bestHits_37 : decode cX3_bestHits 37 = .ok (.aload_n 0, 1) := by decide +kernel
theorem dX3_bestHits_38 : decode cX3_bestHits 38 = .ok (.getfield 18, 3) := by decide +kernel
theorem dX3_bestHits_41 : decode cX3_bestHits 41 = .ok (.iload 5, 2) := by decide +kernel
theorem dX3_bestHits_43 : decode cX3_bestHits 43 = .ok (.iaload, 1) := by decide +kernel
theorem dX3_bestHits_44 : decode cX3_bestHits 44 = .ok (.iload_n 3, 1) := by decide +kernel
theorem dX3_bestHits_45 : decode cX3_bestHits 45 = .ok (.invokestatic 50, 3) := by decide +kernel
theorem dX3_bestHits_48 : decode cX3_bestHits 48 = .ok (.ifCond .eq 9, 3) := by decide +kernel
theorem dX3_bestHits_51 : decode cX3_bestHits 51 = .ok (.iinc 4 1, 3) := by decide +kernel
theorem dX3_bestHits_54 : decode cX3_bestHits 54 = .ok (.goto 38, 3) := by decide +kernel
theorem dX3_bestHits_92 : decode cX3_bestHits 92 = .ok (.iinc 5 1, 3) := by decide +kernel
theorem dX3_bestHits_95 : decode cX3_bestHits 95 = .ok (.goto (-81), 3) := by decide +kernel
theorem dX3_bestHits_57 : decode cX3_bestHits 57 = .ok (.iload_n 3, 1) := by decide +kernel
theorem dX3_bestHits_58 : decode cX3_bestHits 58 = .ok (.invokestatic 54, 3) := by decide +kernel
theorem dX3_bestHits_61 : decode cX3_bestHits 61 = .ok (.iload_n 2, 1) := by decide +kernel
theorem dX3_bestHits_62 : decode cX3_bestHits 62 = .ok (.if_icmp .lt 18, 3) := by decide +kernel
theorem dX3_bestHits_80 : decode cX3_bestHits 80 = .ok (.iload_n 3, 1) := by decide +kernel
theorem dX3_bestHits_81 : decode cX3_bestHits 81 = .ok (.iconst 1, 1) := by decide +kernel
theorem dX3_bestHits_82 : decode cX3_bestHits 82 = .ok (.aload_n 0, 1) := by decide +kernel
theorem dX3_bestHits_83 : decode cX3_bestHits 83 = .ok (.getfield 18, 3) := by decide +kernel
theorem dX3_bestHits_86 : decode cX3_bestHits 86 = .ok (.iload 5, 2) := by decide +kernel
theorem dX3_bestHits_88 : decode cX3_bestHits 88 = .ok (.iaload, 1) := by decide +kernel
theorem dX3_bestHits_89 : decode cX3_bestHits 89 = .ok (.ishl, 1) := by decide +kernel
theorem dX3_bestHits_90 : decode cX3_bestHits 90 = .ok (.ior, 1) := by decide +kernel
theorem dX3_bestHits_91 : decode cX3_bestHits 91 = .ok (.istore_n 3, 1) := by decide +kernel
theorem dX3_bestHits_65 : decode cX3_bestHits 65 = .ok (.iload_n 3, 1) := by decide +kernel
theorem dX3_bestHits_66 : decode cX3_bestHits 66 = .ok (.iconst 1, 1) := by decide +kernel
theorem dX3_bestHits_67 : decode cX3_bestHits 67 = .ok (.aload_n 0, 1) := by decide +kernel
theorem dX3_bestHits_68 : decode cX3_bestHits 68 = .ok (.iload_n 1, 1) := by decide +kernel
theorem dX3_bestHits_69 : decode cX3_bestHits 69 = .ok (.iload_n 3, 1) := by decide +kernel
theorem dX3_bestHits_70 : decode cX3_bestHits 70 = .ok (.iload 5, 2) := by decide +kernel
theorem dX3_bestHits_72 : decode cX3_bestHits 72 = .ok (.invokevirtual 59, 3) := by decide +kernel
theorem dX3_bestHits_75 : decode cX3_bestHits 75 = .ok (.ishl, 1) := by decide +kernel
theorem dX3_bestHits_76 : decode cX3_bestHits 76 = .ok (.iconst (-1), 1) := by decide +kernel
theorem dX3_bestHits_77 : decode cX3_bestHits 77 = .ok (.ixor, 1) := by decide +kernel
theorem dX3_bestHits_78 : decode cX3_bestHits 78 = .ok (.iand, 1) := by decide +kernel
theorem dX3_bestHits_79 : decode cX3_bestHits 79 = .ok (.istore_n 3, 1) := by decide +kernel
theorem dX3_bestHits_34 : decode cX3_bestHits 34 = .ok (.goto 58, 3) := by decide +kernel
set_option maxHeartbeats 4000000 in
set_option maxRecDepth 100000 in
theorem c_plFull (l : Launch) (dC : Nat → ClassId) (dI : Nat → Nat → Nat) (sz : Nat) (h0 : Nat) (x0 : Value) (x1 : Value) (x2 : Value) (x3 : Value) (qn : Nat) (rm : Nat) (hqn : qn ≤ 40) : Met l yX3_isFull (wq yX3_isFull cX3_isFull 1 (some .boolean)) ({ frames := 0, cells := 0, slots := 0, locals := 0 }) (va_Pc [.ref h0] (pcW dC dI [] [(h0, .inr (3, [x0, x1, x2, x3, .int (nI qn), .int (nI rm)]))] sz)) (va_Qi (fun (r : Int32) (_ : Unit) => r = (if 40 ≤ qn then 1 else 0)) (fun _ _ => True) (fun q : Nat => sz ≤ q)) 0 0 (fun q : Nat => sz ≤ q) := by
  refine Met.ofW (cc := cX3_isFull) (maxL := 1) (ret := (some .boolean)) (by decide) rfl ?_
  intro p e s m args below meth c s₁ B hml hv
  obtain ⟨rfl, hsz, hN, hP, hK, hD0⟩ := hv
  have hx := B.exec
  have hb := B.bytes
  have hr := B.returns
  have hts0 := atoms_spec (ws := (wq yX3_isFull cX3_isFull 1 (some .boolean))) B.pre
  have hts : ∀ w ∈ BG, w.before _ s = true := fun w h => hts0 w (List.mem_cons_of_mem _ h)
  have hown : s.vm.findClass RX3 = some m.cls := findClass_of_methodNamed B.named
  have hlocks := B.notSynchronized
  subst hsz
  have hA : ∀ q : Nat, s.heap.size ≤ q → (fun q : Nat => s.heap.size ≤ q) q := fun _ h => h
  have hD := hD0
  have hS : va_S (fun q : Nat => s.heap.size ≤ q) s.heap s.heap [] := va_S.rf
  have hP : va_P (dC, dI) vwCl [(h0, .inr (3, [x0, x1, x2, x3, .int (nI qn), .int (nI rm)]))] s.heap := hP
  have hl := lv_entry ([.ref h0]) (n := 1) (Nat.le_of_ble_eq_true rfl)
  rw [lg_entry_eq]
  generalize (lg_sl ([.ref h0]) ++ List.replicate (1 - (lg_sl ([.ref h0])).length) Slot.unset).toArray = ls at hl ⊢
  have hl : lv_has ls 1 [(0, .ref h0)] := hl
  refine lv_aload_n hx hb dX3_isFull_0 rfl (lv_at hl 0 rfl) ?_
  refine va_get (D := (dC, dI)) (ci := 3) (v := .int (nI qn)) (C := RX3) (T := TX3) (N := 6) hx hb hts inB_3 hown hK hP 0 rfl rfl 4 (by decide) (hts _ mw_1_153) (fun _ h9 => h9) rfl dX3_isFull_1 ?_
  refine lv_bipush (v := 40) hx hb dX3_isFull_4 (by decide) ?_
  refine lv_icmp_lt (tgt := 13) hx hb dX3_isFull_6 (by decide) (fun c_1 => ?_) (fun c_1 => ?_)
  · have b_2 := gx_lt (X := ((qn : Nat) : Int)) (C := 40) (nI_toInt (by omega)) (by decide) c_1
    refine lv_iconst (v := 0) hx hb dX3_isFull_13 (by decide) ?_
    exact W.zret (v := 0) hx hb hr (by decide) (fun t ht hW => ⟨⟨0, (), rfl, (by first | exact (if_pos (by omega)).symm | exact (if_neg (by omega)).symm), trivial⟩, hS.F ht⟩) hS.2.2 dX3_isFull_14
  · have b_2 := gn_lt (X := ((qn : Nat) : Int)) (C := 40) (nI_toInt (by omega)) (by decide) c_1
    refine lv_iconst (v := 1) hx hb dX3_isFull_9 (by decide) ?_
    refine lv_goto (tgt := 14) hx hb dX3_isFull_10 (by decide) ?_
    exact W.zret (v := 1) hx hb hr (by decide) (fun t ht hW => ⟨⟨1, (), rfl, (by first | exact (if_pos (by omega)).symm | exact (if_neg (by omega)).symm), trivial⟩, hS.F ht⟩) hS.2.2 dX3_isFull_14
set_option maxHeartbeats 4000000 in
set_option maxRecDepth 100000 in
theorem c_plHow (l : Launch) (dC : Nat → ClassId) (dI : Nat → Nat → Nat) (sz : Nat) (h0 : Nat) (x0 : Value) (x1 : Value) (x2 : Value) (x3 : Value) (qn : Nat) (rm : Nat)  : Met l yX3_howMany (wq yX3_howMany cX3_howMany 1 (some .int)) ({ frames := 0, cells := 0, slots := 0, locals := 0 }) (va_Pc [.ref h0] (pcW dC dI [] [(h0, .inr (3, [x0, x1, x2, x3, .int (nI qn), .int (nI rm)]))] sz)) (va_Qi (fun (r : Int32) (_ : Unit) => r = nI qn) (fun _ _ => True) (fun q : Nat => sz ≤ q)) 0 0 (fun q : Nat => sz ≤ q) := by
  refine Met.ofW (cc := cX3_howMany) (maxL := 1) (ret := (some .int)) (by decide) rfl ?_
  intro p e s m args below meth c s₁ B hml hv
  obtain ⟨rfl, hsz, hN, hP, hK, hD0⟩ := hv
  have hx := B.exec
  have hb := B.bytes
  have hr := B.returns
  have hts0 := atoms_spec (ws := (wq yX3_howMany cX3_howMany 1 (some .int))) B.pre
  have hts : ∀ w ∈ BG, w.before _ s = true := fun w h => hts0 w (List.mem_cons_of_mem _ h)
  have hown : s.vm.findClass RX3 = some m.cls := findClass_of_methodNamed B.named
  have hlocks := B.notSynchronized
  subst hsz
  have hA : ∀ q : Nat, s.heap.size ≤ q → (fun q : Nat => s.heap.size ≤ q) q := fun _ h => h
  have hD := hD0
  have hS : va_S (fun q : Nat => s.heap.size ≤ q) s.heap s.heap [] := va_S.rf
  have hP : va_P (dC, dI) vwCl [(h0, .inr (3, [x0, x1, x2, x3, .int (nI qn), .int (nI rm)]))] s.heap := hP
  have hl := lv_entry ([.ref h0]) (n := 1) (Nat.le_of_ble_eq_true rfl)
  rw [lg_entry_eq]
  generalize (lg_sl ([.ref h0]) ++ List.replicate (1 - (lg_sl ([.ref h0])).length) Slot.unset).toArray = ls at hl ⊢
  have hl : lv_has ls 1 [(0, .ref h0)] := hl
  refine lv_aload_n hx hb dX3_howMany_0 rfl (lv_at hl 0 rfl) ?_
  refine va_get (D := (dC, dI)) (ci := 3) (v := .int (nI qn)) (C := RX3) (T := TX3) (N := 6) hx hb hts inB_3 hown hK hP 0 rfl rfl 4 (by decide) (hts _ mw_1_153) (fun _ h9 => h9) rfl dX3_howMany_1 ?_
  exact W.iret (v := (nI qn)) hx hb hr (fun t ht hW => ⟨⟨(nI qn), (), rfl, rfl, trivial⟩, hS.F ht⟩) hS.2.2 dX3_howMany_4
set_option maxHeartbeats 4000000 in
set_option maxRecDepth 100000 in
theorem c_plClear (l : Launch) (dC : Nat → ClassId) (dI : Nat → Nat → Nat) (sz : Nat) (h0 : Nat) (x0 : Value) (x1 : Value) (x2 : Value) (x3 : Value) (qn : Nat) (rm : Nat)  : Met l yX3_clear (wq yX3_clear cX3_clear 2 (some .int)) ({ frames := 0, cells := 0, slots := 0, locals := 0 }) (va_Pc [.ref h0] (pcW dC dI [] [(h0, .inr (3, [x0, x1, x2, x3, .int (nI qn), .int (nI rm)]))] sz)) (va_Qi (fun (r : Int32) (_ : Unit) => r = nI qn) (fun _ t => va_P (dC, dI) vwCl [(h0, .inr (3, [x0, x1, x2, x3, .int 0, .int (nI rm)]))] t.heap ∧ va_K (dC, dI) vwCl [] t ∧ va_D (va_A [(h0, .inr (3, [x0, x1, x2, x3, .int (nI qn), .int (nI rm)]))] sz) [(h0, .inr (3, [x0, x1, x2, x3, .int 0, .int (nI rm)]))]) (va_A [(h0, .inr (3, [x0, x1, x2, x3, .int (nI qn), .int (nI rm)]))] sz)) 0 0 (va_A [(h0, .inr (3, [x0, x1, x2, x3, .int (nI qn), .int (nI rm)]))] sz) := by
  refine Met.ofW (cc := cX3_clear) (maxL := 2) (ret := (some .int)) (by decide) rfl ?_
  intro p e s m args below meth c s₁ B hml hv
  obtain ⟨rfl, hsz, hN, hP, hK, hD0⟩ := hv
  have hx := B.exec
  have hb := B.bytes
  have hr := B.returns
  have hts0 := atoms_spec (ws := (wq yX3_clear cX3_clear 2 (some .int))) B.pre
  have hts : ∀ w ∈ BG, w.before _ s = true := fun w h => hts0 w (List.mem_cons_of_mem _ h)
  have hown : s.vm.findClass RX3 = some m.cls := findClass_of_methodNamed B.named
  have hlocks := B.notSynchronized
  subst hsz
  have hD := hD0.self (sz := s.heap.size)
  generalize hAe : va_A [(h0, .inr (3, [x0, x1, x2, x3, .int (nI qn), .int (nI rm)]))] s.heap.size = A at hD ⊢
  have hA : ∀ q : Nat, s.heap.size ≤ q → A q := fun q h => by rw [← hAe]; exact Or.inr h
  have hS : va_S A s.heap s.heap [] := va_S.rf
  clear hAe hD0
  have hP : va_P (dC, dI) vwCl [(h0, .inr (3, [x0, x1, x2, x3, .int (nI qn), .int (nI rm)]))] s.heap := hP
  have hl := lv_entry ([.ref h0]) (n := 2) (Nat.le_of_ble_eq_true rfl)
  rw [lg_entry_eq]
  generalize (lg_sl ([.ref h0]) ++ List.replicate (2 - (lg_sl ([.ref h0])).length) Slot.unset).toArray = ls at hl ⊢
  have hl : lv_has ls 2 [(0, .ref h0)] := hl
  refine lv_aload_n hx hb dX3_clear_0 rfl (lv_at hl 0 rfl) ?_
  refine va_get (D := (dC, dI)) (ci := 3) (v := .int (nI qn)) (C := RX3) (T := TX3) (N := 6) hx hb hts inB_3 hown hK hP 0 rfl rfl 4 (by decide) (hts _ mw_1_153) (fun _ h9 => h9) rfl dX3_clear_1 ?_
  refine lv_istore_n (lv' := [(1, .int (nI qn)), (0, .ref h0)]) hx hb dX3_clear_4 rfl hl (by decide) rfl (fun ls hl => ?_)
  refine lv_aload_n hx hb dX3_clear_5 rfl (lv_at hl 1 rfl) ?_
  refine lv_iconst (v := 0) hx hb dX3_clear_6 (by decide) ?_
  refine va_put (D := (dC, dI)) (ci := 3) (v := .int 0) (ty := .int) (C := RX3) (T := TX3) (N := 6) hx hb hts inB_3 tyX3 tyX3_ok nmX3 hown hK hP hD hS 0 rfl rfl 4 (by decide) (hts _ mw_1_153) (fun _ h9 => h9) rfl (by decide +kernel) rfl rfl (Nat.le_of_ble_eq_true rfl) dX3_clear_7 (fun H locs hP hD hS => ?_)
  have hP : va_P (dC, dI) vwCl [(h0, .inr (3, [x0, x1, x2, x3, .int 0, .int (nI rm)]))] H := hP
  have hD : va_D A [(h0, .inr (3, [x0, x1, x2, x3, .int 0, .int (nI rm)]))] := hD
  refine lv_iload_n hx hb dX3_clear_10 rfl (lv_at hl 0 rfl) ?_
  have hP9 := hP.sub (ws' := [(h0, .inr (3, [x0, x1, x2, x3, .int 0, .int (nI rm)]))]) [0] rfl
  have hD9 := hD.sub (ws' := [(h0, .inr (3, [x0, x1, x2, x3, .int 0, .int (nI rm)]))]) [0] (by decide) rfl
  have hK9 := hK.sub (tys' := []) [] rfl
  exact W.iret (v := (nI qn)) hx hb hr (fun t ht hW => ⟨⟨(nI qn), (), rfl, rfl, by rw [ht]; exact hP9, va_K.moved hW.alike hK9, hD9⟩, hS.F ht⟩) hS.2.2 dX3_clear_11
set_option maxHeartbeats 4000000 in
set_option maxRecDepth 100000 in
theorem c_record (l : Launch) (dC : Nat → ClassId) (dI : Nat → Nat → Nat) (sz : Nat) (h0 : Nat) (x0 : Value) (s1 : Nat) (s2 : Nat) (x3 : Value) (qn : Nat) (rm : Nat) (ks1 : ClassId) (fcp : Nat → Int32) (ks2 : ClassId) (fck : Nat → Int32) (n : Int32) (v : Int32) (hq9 : qn < 40) : Met l yX3_record (wq yX3_record cX3_record 3 (some .int)) ({ frames := 1, cells := 0, slots := 0, locals := 20 }) (va_Pc [.ref h0, .int n, .int v] (pcW dC dI [(ks1, .int), (ks2, .int)] [(h0, .inr (3, [x0, .ref s1, .ref s2, x3, .int (nI qn), .int (nI rm)])), (s1, .inl (ks1, 40, .inl fcp)), (s2, .inl (ks2, 40, .inl fck))] sz)) (va_Qi (fun (r : Int32) (_ : Unit) => r = nI (qn + 1)) (fun _ t => ∃ (fcp2 : Nat → Int32) (fck2 : Nat → Int32), (fcp2 = upd fcp qn n) ∧ (fck2 = upd fck qn v) ∧ va_P (dC, dI) vwCl [(h0, .inr (3, [x0, .ref s1, .ref s2, x3, .int (nI (qn + 1)), .int (nI rm)])), (s1, .inl (ks1, 40, .inl fcp2)), (s2, .inl (ks2, 40, .inl fck2))] t.heap ∧ va_K (dC, dI) vwCl [(ks1, .int), (ks2, .int)] t ∧ va_D (va_A [(h0, .inr (3, [x0, .ref s1, .ref s2, x3, .int (nI qn), .int (nI rm)])), (s1, .inl (ks1, 40, .inl fcp)), (s2, .inl (ks2, 40, .inl fck))] sz) [(h0, .inr (3, [x0, .ref s1, .ref s2, x3, .int (nI (qn + 1)), .int (nI rm)])), (s1, .inl (ks1, 40, .inl fcp2)), (s2, .inl (ks2, 40, .inl fck2))]) (va_A [(h0, .inr (3, [x0, .ref s1, .ref s2, x3, .int (nI qn), .int (nI rm)])), (s1, .inl (ks1, 40, .inl fcp)), (s2, .inl (ks2, 40, .inl fck))] sz)) 0 0 (va_A [(h0, .inr (3, [x0, .ref s1, .ref s2, x3, .int (nI qn), .int (nI rm)])), (s1, .inl (ks1, 40, .inl fcp)), (s2, .inl (ks2, 40, .inl fck))] sz) := by
  refine Met.ofW (cc := cX3_record) (maxL := 3) (ret := (some .int)) (by decide) rfl ?_
  intro p e s m args below meth c s₁ B hml hv
  obtain ⟨rfl, hsz, hN, hP, hK, hD0⟩ := hv
  have hx := B.exec
  have hb := B.bytes
  have hr := B.returns
  have hts0 := atoms_spec (ws := (wq yX3_record cX3_record 3 (some .int))) B.pre
  have hts : ∀ w ∈ BG, w.before _ s = true := fun w h => hts0 w (List.mem_cons_of_mem _ h)
  have hown : s.vm.findClass RX3 = some m.cls := findClass_of_methodNamed B.named
  have hlocks := B.notSynchronized
  subst hsz
  have hD := hD0.self (sz := s.heap.size)
  generalize hAe : va_A [(h0, .inr (3, [x0, .ref s1, .ref s2, x3, .int (nI qn), .int (nI rm)])), (s1, .inl (ks1, 40, .inl fcp)), (s2, .inl (ks2, 40, .inl fck))] s.heap.size = A at hD ⊢
  have hA : ∀ q : Nat, s.heap.size ≤ q → A q := fun q h => by rw [← hAe]; exact Or.inr h
  have hS : va_S A s.heap s.heap [] := va_S.rf
  clear hAe hD0
  have hP : va_P (dC, dI) vwCl [(h0, .inr (3, [x0, .ref s1, .ref s2, x3, .int (nI qn), .int (nI rm)])), (s1, .inl (ks1, 40, .inl fcp)), (s2, .inl (ks2, 40, .inl fck))] s.heap := hP
  have hl := lv_entry ([.ref h0, .int n, .int v]) (n := 3) (Nat.le_of_ble_eq_true rfl)
  rw [lg_entry_eq]
  generalize (lg_sl ([.ref h0, .int n, .int v]) ++ List.replicate (3 - (lg_sl ([.ref h0, .int n, .int v])).length) Slot.unset).toArray = ls at hl ⊢
  have hl : lv_has ls 3 [(0, .ref h0), (1, .int n), (2, .int v)] := hl
  refine lv_aload_n hx hb dX3_record_0 rfl (lv_at hl 0 rfl) ?_
  have hPc := hP.sub (ws' := [(h0, .inr (3, [x0, .ref s1, .ref s2, x3, .int (nI qn), .int (nI rm)]))]) [0] rfl
  have hDc := hD.sub (ws' := [(h0, .inr (3, [x0, .ref s1, .ref s2, x3, .int (nI qn), .int (nI rm)]))]) [0] (by decide) rfl
  have hKc := hK.sub (tys' := []) [] rfl
  refine va_calli (va_runV (As := []) (rest := []) ⟨hx, hb, hml, hown, hts⟩ (c_plFull l dC dI s.heap.size h0 (x0) (.ref s1) (.ref s2) (x3) qn rm (by omega)) (cwV 0 hts (gV mw_3_96 mw_3_89 mw_3_90 mw_1_8 mw_3_91) rfl rfl rfl (by decide +kernel) ⟨Nat.le_of_ble_eq_true rfl, Nat.le_of_ble_eq_true rfl⟩) ⟨pcW_blind, va_recv hKc hPc (ci := 3) (q0 := 0) rfl rfl, pcW_at hPc hKc hDc hN⟩ rfl rfl hl.1 rfl (lv_room (Nat.le_of_ble_eq_true rfl)) dX3_record_1 ⟨Nat.le_of_ble_eq_true rfl, Nat.le_of_ble_eq_true rfl⟩) hS (fun q h1 h2 => absurd h2 (Nat.not_le.mpr h1)) (fun q h => hA q (Nat.le_trans hS.1 h)) (fun r_1 u t H1 locs ht hvm hw_1 hB hz1 hk1 hS => ?_)
  have hP := keepP hP hk1
  clear hz1 hk1 hB ht hvm hPc hDc hKc
  generalize H1 = H at hP hS ⊢
  obtain rfl : r_1 = 0 := hw_1.trans (if_neg (by omega))
  refine lv_if_eq (tgt := 10) hx hb dX3_record_4 (by decide) (fun _ => ?_) (fun h => absurd (by decide) h)
  refine lv_aload_n hx hb dX3_record_10 rfl (lv_at hl 0 rfl) ?_
  refine va_get (D := (dC, dI)) (ci := 3) (v := .ref s1) (C := RX3) (T := TX3) (N := 6) hx hb hts inB_3 hown hK hP 0 rfl rfl 1 (by decide) (hts _ mw_1_150) (fun _ h9 => h9) rfl dX3_record_11 ?_
  refine lv_aload_n hx hb dX3_record_14 rfl (lv_at hl 0 rfl) ?_
  refine va_get (D := (dC, dI)) (ci := 3) (v := .int (nI qn)) (C := RX3) (T := TX3) (N := 6) hx hb hts inB_3 hown hK hP 0 rfl rfl 4 (by decide) (hts _ mw_1_153) (fun _ h9 => h9) rfl dX3_record_15 ?_
  refine lv_iload_n hx hb dX3_record_18 rfl (lv_at hl 1 rfl) ?_
  refine va_iast hx hb hK hP hD hS 1 0 rfl rfl (show vp_in (nI qn) 40 from vp_in_nI (by omega) (by omega)) dX3_record_19 (fun H locs hP hD hS => ?_)
  obtain ⟨f_3, ef_3⟩ : ∃ g : Nat → Int32, g = upd fcp (Int32.toNatClampNeg (nI qn)) n := ⟨_, rfl⟩
  rw [← ef_3] at hP hD
  have ef_3 : f_3 = upd fcp qn n := by rw [ef_3, nI_clamp (by omega)]
  have hP : va_P (dC, dI) vwCl [(h0, .inr (3, [x0, .ref s1, .ref s2, x3, .int (nI qn), .int (nI rm)])), (s1, .inl (ks1, 40, .inl f_3)), (s2, .inl (ks2, 40, .inl fck))] H := hP
  have hD : va_D A [(h0, .inr (3, [x0, .ref s1, .ref s2, x3, .int (nI qn), .int (nI rm)])), (s1, .inl (ks1, 40, .inl f_3)), (s2, .inl (ks2, 40, .inl fck))] := hD
  refine lv_aload_n hx hb dX3_record_20 rfl (lv_at hl 0 rfl) ?_
  refine va_get (D := (dC, dI)) (ci := 3) (v := .ref s2) (C := RX3) (T := TX3) (N := 6) hx hb hts inB_3 hown hK hP 0 rfl rfl 2 (by decide) (hts _ mw_1_151) (fun _ h9 => h9) rfl dX3_record_21 ?_
  refine lv_aload_n hx hb dX3_record_24 rfl (lv_at hl 0 rfl) ?_
  refine va_get (D := (dC, dI)) (ci := 3) (v := .int (nI qn)) (C := RX3) (T := TX3) (N := 6) hx hb hts inB_3 hown hK hP 0 rfl rfl 4 (by decide) (hts _ mw_1_153) (fun _ h9 => h9) rfl dX3_record_25 ?_
  refine lv_iload_n hx hb dX3_record_28 rfl (lv_at hl 2 rfl) ?_
  refine va_iast hx hb hK hP hD hS 2 1 rfl rfl (show vp_in (nI qn) 40 from vp_in_nI (by omega) (by omega)) dX3_record_29 (fun H locs hP hD hS => ?_)
  obtain ⟨f_4, ef_4⟩ : ∃ g : Nat → Int32, g = upd fck (Int32.toNatClampNeg (nI qn)) v := ⟨_, rfl⟩
  rw [← ef_4] at hP hD
  have ef_4 : f_4 = upd fck qn v := by rw [ef_4, nI_clamp (by omega)]
  have hP : va_P (dC, dI) vwCl [(h0, .inr (3, [x0, .ref s1, .ref s2, x3, .int (nI qn), .int (nI rm)])), (s1, .inl (ks1, 40, .inl f_3)), (s2, .inl (ks2, 40, .inl f_4))] H := hP
  have hD : va_D A [(h0, .inr (3, [x0, .ref s1, .ref s2, x3, .int (nI qn), .int (nI rm)])), (s1, .inl (ks1, 40, .inl f_3)), (s2, .inl (ks2, 40, .inl f_4))] := hD
  refine lv_aload_n hx hb dX3_record_30 rfl (lv_at hl 0 rfl) ?_
  refine lv_dup hx hb dX3_record_31 rfl ?_
  refine va_get (D := (dC, dI)) (ci := 3) (v := .int (nI qn)) (C := RX3) (T := TX3) (N := 6) hx hb hts inB_3 hown hK hP 0 rfl rfl 4 (by decide) (hts _ mw_1_153) (fun _ h9 => h9) rfl dX3_record_32 ?_
  refine lv_iconst (v := 1) hx hb dX3_record_35 (by decide) ?_
  refine lv_iadd hx hb dX3_record_36 ?_
  refine hx_top (y := (nI (qn + 1))) (nI_add qn 1) ?_
  refine va_put (D := (dC, dI)) (ci := 3) (v := .int (nI (qn + 1))) (ty := .int) (C := RX3) (T := TX3) (N := 6) hx hb hts inB_3 tyX3 tyX3_ok nmX3 hown hK hP hD hS 0 rfl rfl 4 (by decide) (hts _ mw_1_153) (fun _ h9 => h9) rfl (by decide +kernel) rfl rfl (Nat.le_of_ble_eq_true rfl) dX3_record_37 (fun H locs hP hD hS => ?_)
  have hP : va_P (dC, dI) vwCl [(h0, .inr (3, [x0, .ref s1, .ref s2, x3, .int (nI (qn + 1)), .int (nI rm)])), (s1, .inl (ks1, 40, .inl f_3)), (s2, .inl (ks2, 40, .inl f_4))] H := hP
  have hD : va_D A [(h0, .inr (3, [x0, .ref s1, .ref s2, x3, .int (nI (qn + 1)), .int (nI rm)])), (s1, .inl (ks1, 40, .inl f_3)), (s2, .inl (ks2, 40, .inl f_4))] := hD
  refine lv_aload_n hx hb dX3_record_40 rfl (lv_at hl 0 rfl) ?_
  refine va_get (D := (dC, dI)) (ci := 3) (v := .int (nI (qn + 1))) (C := RX3) (T := TX3) (N := 6) hx hb hts inB_3 hown hK hP 0 rfl rfl 4 (by decide) (hts _ mw_1_153) (fun _ h9 => h9) rfl dX3_record_41 ?_
  have hP9 := hP.sub (ws' := [(h0, .inr (3, [x0, .ref s1, .ref s2, x3, .int (nI (qn + 1)), .int (nI rm)])), (s1, .inl (ks1, 40, .inl f_3)), (s2, .inl (ks2, 40, .inl f_4))]) [0, 1, 2] rfl
  have hD9 := hD.sub (ws' := [(h0, .inr (3, [x0, .ref s1, .ref s2, x3, .int (nI (qn + 1)), .int (nI rm)])), (s1, .inl (ks1, 40, .inl f_3)), (s2, .inl (ks2, 40, .inl f_4))]) [0, 1, 2] (by decide) rfl
  have hK9 := hK.sub (tys' := [(ks1, .int), (ks2, .int)]) [0, 1] rfl
  exact W.iret (v := (nI (qn + 1))) hx hb hr (fun t ht hW => ⟨⟨(nI (qn + 1)), (), rfl, rfl, f_3, f_4, ef_3, ef_4, by rw [ht]; exact hP9, va_K.moved hW.alike hK9, hD9⟩, hS.F ht⟩) hS.2.2 dX3_record_44
set_option maxHeartbeats 4000000 in
set_option maxRecDepth 100000 in
theorem c_sizeOf (l : Launch) (dC : Nat → ClassId) (dI : Nat → Nat → Nat) (sz : Nat) (h0 : Nat) (s0 : Nat) (x1 : Value) (x2 : Value) (x3 : Value) (qn : Nat) (rm : Nat) (ks0 : ClassId) (fsz : Nat → Int32) (pl : Nat) (hpl : pl < 4) : Met l yX3_sizeOf (wq yX3_sizeOf cX3_sizeOf 2 (some .int)) ({ frames := 1, cells := 0, slots := 0, locals := 20 }) (va_Pc [.ref h0, .int (nI pl)] (pcW dC dI [(ks0, .int)] [(h0, .inr (3, [.ref s0, x1, x2, x3, .int (nI qn), .int (nI rm)])), (s0, .inl (ks0, 4, .inl fsz))] sz)) (va_Qi (fun (r : Int32) (_ : Unit) => r = (fsz pl)) (fun _ _ => True) (fun q : Nat => sz ≤ q)) 0 0 (fun q : Nat => sz ≤ q) := by
  refine Met.ofW (cc := cX3_sizeOf) (maxL := 2) (ret := (some .int)) (by decide) rfl ?_
  intro p e s m args below meth c s₁ B hml hv
  obtain ⟨rfl, hsz, hN, hP, hK, hD0⟩ := hv
  have hx := B.exec
  have hb := B.bytes
  have hr := B.returns
  have hts0 := atoms_spec (ws := (wq yX3_sizeOf cX3_sizeOf 2 (some .int))) B.pre
  have hts : ∀ w ∈ BG, w.before _ s = true := fun w h => hts0 w (List.mem_cons_of_mem _ h)
  have hown : s.vm.findClass RX3 = some m.cls := findClass_of_methodNamed B.named
  have hlocks := B.notSynchronized
  subst hsz
  have hA : ∀ q : Nat, s.heap.size ≤ q → (fun q : Nat => s.heap.size ≤ q) q := fun _ h => h
  have hD := hD0
  have hS : va_S (fun q : Nat => s.heap.size ≤ q) s.heap s.heap [] := va_S.rf
  have hP : va_P (dC, dI) vwCl [(h0, .inr (3, [.ref s0, x1, x2, x3, .int (nI qn), .int (nI rm)])), (s0, .inl (ks0, 4, .inl fsz))] s.heap := hP
  have hl := lv_entry ([.ref h0, .int (nI pl)]) (n := 2) (Nat.le_of_ble_eq_true rfl)
  rw [lg_entry_eq]
  generalize (lg_sl ([.ref h0, .int (nI pl)]) ++ List.replicate (2 - (lg_sl ([.ref h0, .int (nI pl)])).length) Slot.unset).toArray = ls at hl ⊢
  have hl : lv_has ls 2 [(0, .ref h0), (1, .int (nI pl))] := hl
  have ypl : Int32.toInt (nI pl) = ((pl : Nat) : Int) := nI_toInt (by omega)
  refine lv_iload_n hx hb dX3_sizeOf_0 rfl (lv_at hl 1 rfl) ?_
  have hPc := hP.sub (ws' := []) [] rfl
  have hDc := hD.sub (ws' := []) [] (by decide) rfl
  have hKc := hK.sub (tys' := []) [] rfl
  refine va_calli (va_runSN (As := [.int (nI pl)]) (rest := []) ⟨hx, hb, hml, hown, hts⟩ (c_isPlace l dC dI s.heap.size (nI pl) ) ⟨va_cnB 1 hts (gN mw_3_87) rfl rfl rfl (hN (RX3, 32, yX8_isPlace, RX8) (List.mem_of_getElem? (i := 13) rfl)) (hts _ mw_1_1) (by decide +kernel) ⟨Nat.le_of_ble_eq_true rfl, Nat.le_of_ble_eq_true rfl⟩, (hts _ mw_3_86), trivial⟩ ⟨pcW_blind, pcW_at hPc hKc hDc hN⟩ rfl rfl hl.1 rfl (lv_room (Nat.le_of_ble_eq_true rfl)) dX3_sizeOf_1 ⟨Nat.le_of_ble_eq_true rfl, Nat.le_of_ble_eq_true rfl⟩) hS (fun q h1 h2 => absurd h2 (Nat.not_le.mpr h1)) (fun q h => hA q (Nat.le_trans hS.1 h)) (fun r_1 u t H1 locs ht hvm hw_1 hB hz1 hk1 hS => ?_)
  have hP := keepP hP hk1
  clear hz1 hk1 hB ht hvm hPc hDc hKc
  generalize H1 = H at hP hS ⊢
  obtain rfl : r_1 = 1 := hw_1.trans (if_pos (by omega))
  refine lv_if_eq (tgt := 16) hx hb dX3_sizeOf_4 (by decide) (fun h => absurd h (by decide)) (fun _ => ?_)
  refine lv_aload_n hx hb dX3_sizeOf_7 rfl (lv_at hl 0 rfl) ?_
  refine va_get (D := (dC, dI)) (ci := 3) (v := .ref s0) (C := RX3) (T := TX3) (N := 6) hx hb hts inB_3 hown hK hP 0 rfl rfl 0 (by decide) (hts _ mw_1_149) (fun _ h9 => h9) rfl dX3_sizeOf_8 ?_
  refine lv_iload_n hx hb dX3_sizeOf_11 rfl (lv_at hl 1 rfl) ?_
  refine va_iald hx hb hK hP 1 0 rfl rfl (show vp_in (nI pl) 4 from vp_in_nI (by omega) (by omega)) dX3_sizeOf_12 ?_
  refine hx_top (y := (fsz pl)) (congrArg _ (nI_clamp (by omega))) ?_
  refine lv_goto (tgt := 17) hx hb dX3_sizeOf_13 (by decide) ?_
  exact W.iret (v := (fsz pl)) hx hb hr (fun t ht hW => ⟨⟨(fsz pl), (), rfl, rfl, trivial⟩, hS.F ht⟩) hS.2.2 dX3_sizeOf_17
set_option maxHeartbeats 4000000 in
set_option maxRecDepth 100000 in
theorem c_resize (l : Launch) (dC : Nat → ClassId) (dI : Nat → Nat → Nat) (sz : Nat) (h0 : Nat) (s0 : Nat) (x1 : Value) (x2 : Value) (x3 : Value) (qn : Nat) (rm : Nat) (ks0 : ClassId) (fsz : Nat → Int32) (pl : Nat) (v : Int32) (hpl : pl < 4) : Met l yX3_resize (wq yX3_resize cX3_resize 4 (some .int)) ({ frames := 2, cells := 0, slots := 0, locals := 41 }) (va_Pc [.ref h0, .int (nI pl), .int v] (pcW dC dI [(ks0, .int)] [(h0, .inr (3, [.ref s0, x1, x2, x3, .int (nI qn), .int (nI rm)])), (s0, .inl (ks0, 4, .inl fsz))] sz)) (va_Qi (fun (r : Int32) (_ : Unit) => r = (fsz pl)) (fun _ t => ∃ (fsz2 : Nat → Int32), (fsz2 = upd fsz pl v) ∧ va_P (dC, dI) vwCl [(h0, .inr (3, [.ref s0, x1, x2, x3, .int (nI qn), .int (nI rm)])), (s0, .inl (ks0, 4, .inl fsz2))] t.heap ∧ va_K (dC, dI) vwCl [(ks0, .int)] t ∧ va_D (va_A [(h0, .inr (3, [.ref s0, x1, x2, x3, .int (nI qn), .int (nI rm)])), (s0, .inl (ks0, 4, .inl fsz))] sz) [(h0, .inr (3, [.ref s0, x1, x2, x3, .int (nI qn), .int (nI rm)])), (s0, .inl (ks0, 4, .inl fsz2))]) (va_A [(h0, .inr (3, [.ref s0, x1, x2, x3, .int (nI qn), .int (nI rm)])), (s0, .inl (ks0, 4, .inl fsz))] sz)) 0 0 (va_A [(h0, .inr (3, [.ref s0, x1, x2, x3, .int (nI qn), .int (nI rm)])), (s0, .inl (ks0, 4, .inl fsz))] sz) := by
  refine Met.ofW (cc := cX3_resize) (maxL := 4) (ret := (some .int)) (by decide) rfl ?_
  intro p e s m args below meth c s₁ B hml hv
  obtain ⟨rfl, hsz, hN, hP, hK, hD0⟩ := hv
  have hx := B.exec
  have hb := B.bytes
  have hr := B.returns
  have hts0 := atoms_spec (ws := (wq yX3_resize cX3_resize 4 (some .int))) B.pre
  have hts : ∀ w ∈ BG, w.before _ s = true := fun w h => hts0 w (List.mem_cons_of_mem _ h)
  have hown : s.vm.findClass RX3 = some m.cls := findClass_of_methodNamed B.named
  have hlocks := B.notSynchronized
  subst hsz
  have hD := hD0.self (sz := s.heap.size)
  generalize hAe : va_A [(h0, .inr (3, [.ref s0, x1, x2, x3, .int (nI qn), .int (nI rm)])), (s0, .inl (ks0, 4, .inl fsz))] s.heap.size = A at hD ⊢
  have hA : ∀ q : Nat, s.heap.size ≤ q → A q := fun q h => by rw [← hAe]; exact Or.inr h
  have hS : va_S A s.heap s.heap [] := va_S.rf
  clear hAe hD0
  have hP : va_P (dC, dI) vwCl [(h0, .inr (3, [.ref s0, x1, x2, x3, .int (nI qn), .int (nI rm)])), (s0, .inl (ks0, 4, .inl fsz))] s.heap := hP
  have hl := lv_entry ([.ref h0, .int (nI pl), .int v]) (n := 4) (Nat.le_of_ble_eq_true rfl)
  rw [lg_entry_eq]
  generalize (lg_sl ([.ref h0, .int (nI pl), .int v]) ++ List.replicate (4 - (lg_sl ([.ref h0, .int (nI pl), .int v])).length) Slot.unset).toArray = ls at hl ⊢
  have hl : lv_has ls 4 [(0, .ref h0), (1, .int (nI pl)), (2, .int v)] := hl
  have ypl : Int32.toInt (nI pl) = ((pl : Nat) : Int) := nI_toInt (by omega)
  refine lv_aload_n hx hb dX3_resize_0 rfl (lv_at hl 0 rfl) ?_
  refine lv_iload_n hx hb dX3_resize_1 rfl (lv_at hl 1 rfl) ?_
  have hPc := hP.sub (ws' := [(h0, .inr (3, [.ref s0, x1, x2, x3, .int (nI qn), .int (nI rm)])), (s0, .inl (ks0, 4, .inl fsz))]) [0, 1] rfl
  have hDc := hD.sub (ws' := [(h0, .inr (3, [.ref s0, x1, x2, x3, .int (nI qn), .int (nI rm)])), (s0, .inl (ks0, 4, .inl fsz))]) [0, 1] (by decide) rfl
  have hKc := hK.sub (tys' := [(ks0, .int)]) [0] rfl
  refine va_calli (va_runV (As := [.int (nI pl)]) (rest := []) ⟨hx, hb, hml, hown, hts⟩ (c_sizeOf l dC dI s.heap.size h0 s0 (x1) (x2) (x3) qn rm ks0 fsz pl hpl) (cwV 1 hts (gV mw_3_113 mw_3_114 mw_3_115 mw_1_8 mw_3_116) rfl rfl rfl (by decide +kernel) ⟨Nat.le_of_ble_eq_true rfl, Nat.le_of_ble_eq_true rfl⟩) ⟨pcW_blind, va_recv hKc hPc (ci := 3) (q0 := 0) rfl rfl, pcW_at hPc hKc hDc hN⟩ rfl rfl hl.1 rfl (lv_room (Nat.le_of_ble_eq_true rfl)) dX3_resize_2 ⟨Nat.le_of_ble_eq_true rfl, Nat.le_of_ble_eq_true rfl⟩) hS (fun q h1 h2 => absurd h2 (Nat.not_le.mpr h1)) (fun q h => hA q (Nat.le_trans hS.1 h)) (fun r_1 u t H1 locs ht hvm hw_1 hB hz1 hk1 hS => ?_)
  have hP := keepP hP hk1
  clear hz1 hk1 hB ht hvm hPc hDc hKc
  generalize H1 = H at hP hS ⊢
  obtain rfl : r_1 = (fsz pl) := hw_1
  refine lv_istore_n (lv' := [(3, .int (fsz pl)), (0, .ref h0), (1, .int (nI pl)), (2, .int v)]) hx hb dX3_resize_5 rfl hl (by decide) rfl (fun ls hl => ?_)
  refine lv_iload_n hx hb dX3_resize_6 rfl (lv_at hl 2 rfl) ?_
  have hPc := hP.sub (ws' := []) [] rfl
  have hDc := hD.sub (ws' := []) [] (by decide) rfl
  have hKc := hK.sub (tys' := []) [] rfl
  refine va_calli (va_runSN (As := [.int (nI pl)]) (rest := []) ⟨hx, hb, hml, hown, hts⟩ (c_isPlace l dC dI H.size (nI pl) ) ⟨va_cnB 1 hts (gN mw_3_87) rfl rfl rfl (hN (RX3, 32, yX8_isPlace, RX8) (List.mem_of_getElem? (i := 13) rfl)) (hts _ mw_1_1) (by decide +kernel) ⟨Nat.le_of_ble_eq_true rfl, Nat.le_of_ble_eq_true rfl⟩, (hts _ mw_3_86), trivial⟩ ⟨pcW_blind, pcW_at hPc hKc hDc hN⟩ rfl rfl hl.1 rfl (lv_room (Nat.le_of_ble_eq_true rfl)) dX3_resize_7 ⟨Nat.le_of_ble_eq_true rfl, Nat.le_of_ble_eq_true rfl⟩) hS (fun q h1 h2 => absurd h2 (Nat.not_le.mpr h1)) (fun q h => hA q (Nat.le_trans hS.1 h)) (fun r_2 u t H1 locs ht hvm hw_2 hB hz1 hk1 hS => ?_)
  have hP := keepP hP hk1
  clear hz1 hk1 hB ht hvm hPc hDc hKc
  generalize H1 = H at hP hS ⊢
  obtain rfl : r_2 = 1 := hw_2.trans (if_pos (by omega))
  refine lv_if_eq (tgt := 20) hx hb dX3_resize_10 (by decide) (fun h => absurd h (by decide)) (fun _ => ?_)
  refine lv_aload_n hx hb dX3_resize_13 rfl (lv_at hl 1 rfl) ?_
  refine va_get (D := (dC, dI)) (ci := 3) (v := .ref s0) (C := RX3) (T := TX3) (N := 6) hx hb hts inB_3 hown hK hP 0 rfl rfl 0 (by decide) (hts _ mw_1_149) (fun _ h9 => h9) rfl dX3_resize_14 ?_
  refine lv_iload_n hx hb dX3_resize_17 rfl (lv_at hl 2 rfl) ?_
  refine lv_iload_n hx hb dX3_resize_18 rfl (lv_at hl 3 rfl) ?_
  refine va_iast hx hb hK hP hD hS 1 0 rfl rfl (show vp_in (nI pl) 4 from vp_in_nI (by omega) (by omega)) dX3_resize_19 (fun H locs hP hD hS => ?_)
  obtain ⟨f_4, ef_4⟩ : ∃ g : Nat → Int32, g = upd fsz (Int32.toNatClampNeg (nI pl)) v := ⟨_, rfl⟩
  rw [← ef_4] at hP hD
  have ef_4 : f_4 = upd fsz pl v := by rw [ef_4, nI_clamp (by omega)]
  have hP : va_P (dC, dI) vwCl [(h0, .inr (3, [.ref s0, x1, x2, x3, .int (nI qn), .int (nI rm)])), (s0, .inl (ks0, 4, .inl f_4))] H := hP
  have hD : va_D A [(h0, .inr (3, [.ref s0, x1, x2, x3, .int (nI qn), .int (nI rm)])), (s0, .inl (ks0, 4, .inl f_4))] := hD
  refine lv_iload_n hx hb dX3_resize_20 rfl (lv_at hl 0 rfl) ?_
  have hP9 := hP.sub (ws' := [(h0, .inr (3, [.ref s0, x1, x2, x3, .int (nI qn), .int (nI rm)])), (s0, .inl (ks0, 4, .inl f_4))]) [0, 1] rfl
  have hD9 := hD.sub (ws' := [(h0, .inr (3, [.ref s0, x1, x2, x3, .int (nI qn), .int (nI rm)])), (s0, .inl (ks0, 4, .inl f_4))]) [0, 1] (by decide) rfl
  have hK9 := hK.sub (tys' := [(ks0, .int)]) [0] rfl
  exact W.iret (v := (fsz pl)) hx hb hr (fun t ht hW => ⟨⟨(fsz pl), (), rfl, rfl, f_4, ef_4, by rw [ht]; exact hP9, va_K.moved hW.alike hK9, hD9⟩, hS.F ht⟩) hS.2.2 dX3_resize_21
set_option maxHeartbeats 4000000 in
set_option maxRecDepth 100000 in
theorem c_callsAt (l : Launch) (dC : Nat → ClassId) (dI : Nat → Nat → Nat) (sz : Nat) (h0 : Nat) (x0 : Value) (s1 : Nat) (x2 : Value) (x3 : Value) (qn : Nat) (rm : Nat) (ks1 : ClassId) (fcp : Nat → Int32) (n : Int32) (hqn : qn ≤ 40) : Met l yX3_callsAt (wq yX3_callsAt cX3_callsAt 4 (some .int)) ({ frames := 0, cells := 0, slots := 0, locals := 0 }) (va_Pc [.ref h0, .int n] (pcW dC dI [(ks1, .int)] [(h0, .inr (3, [x0, .ref s1, x2, x3, .int (nI qn), .int (nI rm)])), (s1, .inl (ks1, 40, .inl fcp))] sz)) (va_Qi (fun (r : Int32) (_ : Unit) => r = nI (cAt fcp n qn)) (fun _ _ => True) (fun q : Nat => sz ≤ q)) 0 0 (fun q : Nat => sz ≤ q) := by
  refine Met.ofW (cc := cX3_callsAt) (maxL := 4) (ret := (some .int)) (by decide) rfl ?_
  intro p e s m args below meth c s₁ B hml hv
  obtain ⟨rfl, hsz, hN, hP, hK, hD0⟩ := hv
  have hx := B.exec
  have hb := B.bytes
  have hr := B.returns
  have hts0 := atoms_spec (ws := (wq yX3_callsAt cX3_callsAt 4 (some .int))) B.pre
  have hts : ∀ w ∈ BG, w.before _ s = true := fun w h => hts0 w (List.mem_cons_of_mem _ h)
  have hown : s.vm.findClass RX3 = some m.cls := findClass_of_methodNamed B.named
  have hlocks := B.notSynchronized
  subst hsz
  have hA : ∀ q : Nat, s.heap.size ≤ q → (fun q : Nat => s.heap.size ≤ q) q := fun _ h => h
  have hD := hD0
  have hS : va_S (fun q : Nat => s.heap.size ≤ q) s.heap s.heap [] := va_S.rf
  have hP : va_P (dC, dI) vwCl [(h0, .inr (3, [x0, .ref s1, x2, x3, .int (nI qn), .int (nI rm)])), (s1, .inl (ks1, 40, .inl fcp))] s.heap := hP
  have hl := lv_entry ([.ref h0, .int n]) (n := 4) (Nat.le_of_ble_eq_true rfl)
  rw [lg_entry_eq]
  generalize (lg_sl ([.ref h0, .int n]) ++ List.replicate (4 - (lg_sl ([.ref h0, .int n])).length) Slot.unset).toArray = ls at hl ⊢
  have hl : lv_has ls 4 [(0, .ref h0), (1, .int n)] := hl
  refine lv_iconst (v := 0) hx hb dX3_callsAt_0 (by decide) ?_
  refine lv_istore_n (lv' := [(2, .int 0), (0, .ref h0), (1, .int n)]) hx hb dX3_callsAt_1 rfl hl (by decide) rfl (fun ls hl => ?_)
  refine lv_iconst (v := 0) hx hb dX3_callsAt_2 (by decide) ?_
  refine lv_istore_n (lv' := [(3, .int 0), (2, .int 0), (0, .ref h0), (1, .int n)]) hx hb dX3_callsAt_3 rfl hl (by decide) rfl (fun ls hl => ?_)
  have key_1 : ∀ (fu : Nat) (k : Nat) (cc : Nat), (k ≤ qn) → (cc = cnt (fun i => decide (fcp i = n)) k) → qn - k < fu → ∀ (H : Heap) (locs : List Loc), va_P (dC, dI) vwCl [(h0, .inr (3, [x0, .ref s1, x2, x3, .int (nI qn), .int (nI rm)])), (s1, .inl (ks1, 40, .inl fcp))] H → va_S (fun q : Nat => s.heap.size ≤ q) s.heap H locs → ∀ (ls : Array Slot), lv_has ls 4 [(3, .int (nI k)), (2, .int (nI cc)), (0, .ref h0), (1, .int n)] → W p l e (headSpec (wq yX3_callsAt cX3_callsAt 4 (some .int)) ({ frames := 0, cells := 0, slots := 0, locals := 0 })).room s m (([.ref h0, .int n] : List Value)).toArray below meth c H locs 0 0 (MQ below (va_Qi (fun (r : Int32) (_ : Unit) => r = nI (cAt fcp n qn)) (fun _ _ => True) (fun q : Nat => s.heap.size ≤ q)) (([.ref h0, .int n] : List Value)).toArray s 0 0 (fun q : Nat => s.heap.size ≤ q)) (F0 m 4 ls []) := by
    intro fu
    induction fu with
    | zero => intro k cc hk hcc hme; exact absurd hme (Nat.not_lt_zero _)
    | succ fu ih_2 =>
      intro k cc hk hcc hme H locs hP hS ls hl
      refine lv_iload_n hx hb dX3_callsAt_4 rfl (lv_at hl 0 rfl) ?_
      refine lv_aload_n hx hb dX3_callsAt_5 rfl (lv_at hl 2 rfl) ?_
      refine va_get (D := (dC, dI)) (ci := 3) (v := .int (nI qn)) (C := RX3) (T := TX3) (N := 6) hx hb hts inB_3 hown hK hP 0 rfl rfl 4 (by decide) (hts _ mw_1_153) (fun _ h9 => h9) rfl dX3_callsAt_6 ?_
      refine lv_icmp_ge (tgt := 31) hx hb dX3_callsAt_9 (by decide) (fun c_3 => ?_) (fun c_3 => ?_)
      · have b_4 := gx_ge (X := ((k : Nat) : Int)) (C := ((qn : Nat) : Int)) (nI_toInt (by omega)) (nI_toInt (by omega)) c_3
        refine lv_iload_n hx hb dX3_callsAt_31 rfl (lv_at hl 1 rfl) ?_
        exact W.iret (v := (nI cc)) hx hb hr (fun t ht hW => ⟨⟨(nI cc), (), rfl, (congrArg nI (by rw [hcc, show k = qn from (by omega)]; rfl)), trivial⟩, hS.F ht⟩) hS.2.2 dX3_callsAt_32
      · have b_4 := gn_ge (X := ((k : Nat) : Int)) (C := ((qn : Nat) : Int)) (nI_toInt (by omega)) (nI_toInt (by omega)) c_3
        refine lv_aload_n hx hb dX3_callsAt_12 rfl (lv_at hl 2 rfl) ?_
        refine va_get (D := (dC, dI)) (ci := 3) (v := .ref s1) (C := RX3) (T := TX3) (N := 6) hx hb hts inB_3 hown hK hP 0 rfl rfl 1 (by decide) (hts _ mw_1_150) (fun _ h9 => h9) rfl dX3_callsAt_13 ?_
        refine lv_iload_n hx hb dX3_callsAt_16 rfl (lv_at hl 0 rfl) ?_
        refine va_iald hx hb hK hP 1 0 rfl rfl (show vp_in (nI k) 40 from vp_in_nI (by omega) (by omega)) dX3_callsAt_17 ?_
        refine hx_top (y := (fcp k)) (congrArg _ (nI_clamp (by omega))) ?_
        refine lv_iload_n hx hb dX3_callsAt_18 rfl (lv_at hl 3 rfl) ?_
        refine lv_icmp_ne (tgt := 25) hx hb dX3_callsAt_19 (by decide) (fun c_5 => ?_) (fun c_5 => ?_)
        · have b_6 := gx_ne (X := (Int32.toInt (fcp k))) (C := (Int32.toInt n)) rfl rfl c_5
          refine lv_iinc (v := (nI (k + 1))) (lv' := [(3, .int (nI (k + 1))), (2, .int (nI cc)), (0, .ref h0), (1, .int n)]) hx hb dX3_callsAt_25 hl (k := 0) rfl (nI_add k 1) (by decide) rfl (fun ls hl => ?_)
          refine lv_goto (tgt := 4) hx hb dX3_callsAt_28 (by decide) ?_
          exact ih_2 (k + 1) cc (by omega) (cnt_f hcc (decide_eq_false c_5)) (by omega) _ _ hP hS ls (lv_sub hl [0, 1, 2, 3] rfl)
        · have b_6 := gn_ne (X := (Int32.toInt (fcp k))) (C := (Int32.toInt n)) rfl rfl c_5
          refine lv_iinc (v := (nI (cc + 1))) (lv' := [(2, .int (nI (cc + 1))), (3, .int (nI k)), (0, .ref h0), (1, .int n)]) hx hb dX3_callsAt_22 hl (k := 1) rfl (nI_add cc 1) (by decide) rfl (fun ls hl => ?_)
          refine lv_iinc (v := (nI (k + 1))) (lv' := [(3, .int (nI (k + 1))), (2, .int (nI (cc + 1))), (0, .ref h0), (1, .int n)]) hx hb dX3_callsAt_25 hl (k := 1) rfl (nI_add k 1) (by decide) rfl (fun ls hl => ?_)
          refine lv_goto (tgt := 4) hx hb dX3_callsAt_28 (by decide) ?_
          exact ih_2 (k + 1) (cc + 1) (by omega) (cnt_t hcc (decide_eq_true c_5)) (by omega) _ _ hP hS ls (lv_sub hl [0, 1, 2, 3] rfl)
  exact key_1 ((qn - 0) + 1) 0 0 (by omega) rfl (Nat.lt_succ_self _) _ _ hP hS ls (lv_sub hl [0, 1, 2, 3] rfl)
set_option maxHeartbeats 4000000 in
set_option maxRecDepth 100000 in
theorem c_whereR (l : Launch) (dC : Nat → ClassId) (dI : Nat → Nat → Nat) (sz : Nat) (h0 : Nat) (x0 : Value) (x1 : Value) (x2 : Value) (s3 : Nat) (qn : Nat) (rm : Nat) (ks3 : ClassId) (frc : Nat → Int32) (n : Int32) (hrm : rm ≤ 4) : Met l yX3_whereRecent (wq yX3_whereRecent cX3_whereRecent 3 (some .int)) ({ frames := 0, cells := 0, slots := 0, locals := 0 }) (va_Pc [.ref h0, .int n] (pcW dC dI [(ks3, .int)] [(h0, .inr (3, [x0, x1, x2, .ref s3, .int (nI qn), .int (nI rm)])), (s3, .inl (ks3, 4, .inl frc))] sz)) (va_Qi (fun (r : Int32) (_ : Unit) => r = fnd (recB frc n) 0 rm) (fun _ _ => True) (fun q : Nat => sz ≤ q)) 0 0 (fun q : Nat => sz ≤ q) := by
  refine Met.ofW (cc := cX3_whereRecent) (maxL := 3) (ret := (some .int)) (by decide) rfl ?_
  intro p e s m args below meth c s₁ B hml hv
  obtain ⟨rfl, hsz, hN, hP, hK, hD0⟩ := hv
  have hx := B.exec
  have hb := B.bytes
  have hr := B.returns
  have hts0 := atoms_spec (ws := (wq yX3_whereRecent cX3_whereRecent 3 (some .int))) B.pre
  have hts : ∀ w ∈ BG, w.before _ s = true := fun w h => hts0 w (List.mem_cons_of_mem _ h)
  have hown : s.vm.findClass RX3 = some m.cls := findClass_of_methodNamed B.named
  have hlocks := B.notSynchronized
  subst hsz
  have hA : ∀ q : Nat, s.heap.size ≤ q → (fun q : Nat => s.heap.size ≤ q) q := fun _ h => h
  have hD := hD0
  have hS : va_S (fun q : Nat => s.heap.size ≤ q) s.heap s.heap [] := va_S.rf
  have hP : va_P (dC, dI) vwCl [(h0, .inr (3, [x0, x1, x2, .ref s3, .int (nI qn), .int (nI rm)])), (s3, .inl (ks3, 4, .inl frc))] s.heap := hP
  have hl := lv_entry ([.ref h0, .int n]) (n := 3) (Nat.le_of_ble_eq_true rfl)
  rw [lg_entry_eq]
  generalize (lg_sl ([.ref h0, .int n]) ++ List.replicate (3 - (lg_sl ([.ref h0, .int n])).length) Slot.unset).toArray = ls at hl ⊢
  have hl : lv_has ls 3 [(0, .ref h0), (1, .int n)] := hl
  refine lv_iconst (v := 0) hx hb dX3_whereRecent_0 (by decide) ?_
  refine lv_istore_n (lv' := [(2, .int 0), (0, .ref h0), (1, .int n)]) hx hb dX3_whereRecent_1 rfl hl (by decide) rfl (fun ls hl => ?_)
  have key_1 : ∀ (fu : Nat) (k : Nat), (k ≤ 4) → (fnd (recB frc n) k (rm - k) = fnd (recB frc n) 0 rm) → 4 - k < fu → ∀ (H : Heap) (locs : List Loc), va_P (dC, dI) vwCl [(h0, .inr (3, [x0, x1, x2, .ref s3, .int (nI qn), .int (nI rm)])), (s3, .inl (ks3, 4, .inl frc))] H → va_S (fun q : Nat => s.heap.size ≤ q) s.heap H locs → ∀ (ls : Array Slot), lv_has ls 3 [(2, .int (nI k)), (0, .ref h0), (1, .int n)] → W p l e (headSpec (wq yX3_whereRecent cX3_whereRecent 3 (some .int)) ({ frames := 0, cells := 0, slots := 0, locals := 0 })).room s m (([.ref h0, .int n] : List Value)).toArray below meth c H locs 0 0 (MQ below (va_Qi (fun (r : Int32) (_ : Unit) => r = fnd (recB frc n) 0 rm) (fun _ _ => True) (fun q : Nat => s.heap.size ≤ q)) (([.ref h0, .int n] : List Value)).toArray s 0 0 (fun q : Nat => s.heap.size ≤ q)) (F0 m 2 ls []) := by
    intro fu
    induction fu with
    | zero => intro k hk hf hme; exact absurd hme (Nat.not_lt_zero _)
    | succ fu ih_2 =>
      intro k hk hf hme H locs hP hS ls hl
      refine lv_iload_n hx hb dX3_whereRecent_2 rfl (lv_at hl 0 rfl) ?_
      refine lv_aload_n hx hb dX3_whereRecent_3 rfl (lv_at hl 1 rfl) ?_
      refine va_get (D := (dC, dI)) (ci := 3) (v := .int (nI rm)) (C := RX3) (T := TX3) (N := 6) hx hb hts inB_3 hown hK hP 0 rfl rfl 5 (by decide) (hts _ mw_1_154) (fun _ h9 => h9) rfl dX3_whereRecent_4 ?_
      refine lv_icmp_ge (tgt := 33) hx hb dX3_whereRecent_7 (by decide) (fun c_3 => ?_) (fun c_3 => ?_)
      · have b_4 := gx_ge (X := ((k : Nat) : Int)) (C := ((rm : Nat) : Int)) (nI_toInt (by omega)) (nI_toInt (by omega)) c_3
        refine lv_bipush (v := (-6)) hx hb dX3_whereRecent_33 (by decide) ?_
        exact W.iret (v := (-6)) hx hb hr (fun t ht hW => ⟨⟨(-6), (), rfl, (by rw [← hf]; exact (fnd_end (by omega)).symm), trivial⟩, hS.F ht⟩) hS.2.2 dX3_whereRecent_35
      · have b_4 := gn_ge (X := ((k : Nat) : Int)) (C := ((rm : Nat) : Int)) (nI_toInt (by omega)) (nI_toInt (by omega)) c_3
        refine lv_iload_n hx hb dX3_whereRecent_10 rfl (lv_at hl 0 rfl) ?_
        refine lv_iconst (v := 4) hx hb dX3_whereRecent_11 (by decide) ?_
        refine lv_icmp_ge (tgt := 33) hx hb dX3_whereRecent_12 (by decide) (fun c_5 => ?_) (fun c_5 => ?_)
        · have b_6 := gx_ge (X := ((k : Nat) : Int)) (C := 4) (nI_toInt (by omega)) (by decide) c_5
          refine lv_bipush (v := (-6)) hx hb dX3_whereRecent_33 (by decide) ?_
          exact W.iret (v := (-6)) hx hb hr (fun t ht hW => ⟨⟨(-6), (), rfl, (by rw [← hf]; exact (fnd_end (by omega)).symm), trivial⟩, hS.F ht⟩) hS.2.2 dX3_whereRecent_35
        · have b_6 := gn_ge (X := ((k : Nat) : Int)) (C := 4) (nI_toInt (by omega)) (by decide) c_5
          refine lv_aload_n hx hb dX3_whereRecent_15 rfl (lv_at hl 1 rfl) ?_
          refine va_get (D := (dC, dI)) (ci := 3) (v := .ref s3) (C := RX3) (T := TX3) (N := 6) hx hb hts inB_3 hown hK hP 0 rfl rfl 3 (by decide) (hts _ mw_1_152) (fun _ h9 => h9) rfl dX3_whereRecent_16 ?_
          refine lv_iload_n hx hb dX3_whereRecent_19 rfl (lv_at hl 0 rfl) ?_
          refine va_iald hx hb hK hP 1 0 rfl rfl (show vp_in (nI k) 4 from vp_in_nI (by omega) (by omega)) dX3_whereRecent_20 ?_
          refine hx_top (y := (frc k)) (congrArg _ (nI_clamp (by omega))) ?_
          refine lv_iload_n hx hb dX3_whereRecent_21 rfl (lv_at hl 2 rfl) ?_
          refine lv_icmp_ne (tgt := 27) hx hb dX3_whereRecent_22 (by decide) (fun c_7 => ?_) (fun c_7 => ?_)
          · have b_8 := gx_ne (X := (Int32.toInt (frc k))) (C := (Int32.toInt n)) rfl rfl c_7
            refine lv_iinc (v := (nI (k + 1))) (lv' := [(2, .int (nI (k + 1))), (0, .ref h0), (1, .int n)]) hx hb dX3_whereRecent_27 hl (k := 0) rfl (nI_add k 1) (by decide) rfl (fun ls hl => ?_)
            refine lv_goto (tgt := 2) hx hb dX3_whereRecent_30 (by decide) ?_
            exact ih_2 (k + 1) (by omega) ((fnd_miss (decide_eq_false c_7) (by omega)).symm.trans hf) (by omega) _ _ hP hS ls (lv_sub hl [0, 1, 2] rfl)
          · have b_8 := gn_ne (X := (Int32.toInt (frc k))) (C := (Int32.toInt n)) rfl rfl c_7
            refine lv_iload_n hx hb dX3_whereRecent_25 rfl (lv_at hl 0 rfl) ?_
            exact W.iret (v := (nI k)) hx hb hr (fun t ht hW => ⟨⟨(nI k), (), rfl, (by rw [← hf]; exact (fnd_hit (decide_eq_true c_7) (by omega)).symm), trivial⟩, hS.F ht⟩) hS.2.2 dX3_whereRecent_26
  exact key_1 ((4 - 0) + 1) 0 (by omega) rfl (Nat.lt_succ_self _) _ _ hP hS ls (lv_sub hl [0, 1, 2] rfl)
set_option maxHeartbeats 4000000 in
set_option maxRecDepth 100000 in
theorem c_putF (l : Launch) (dC : Nat → ClassId) (dI : Nat → Nat → Nat) (sz : Nat) (h0 : Nat) (x0 : Value) (x1 : Value) (x2 : Value) (s3 : Nat) (qn : Nat) (rm : Nat) (ks3 : ClassId) (frc : Nat → Int32) (n : Int32) (aq : Nat) (haq : aq ≤ 3) : Met l yX3_putFirst (wq yX3_putFirst cX3_putFirst 4 none) ({ frames := 0, cells := 0, slots := 0, locals := 0 }) (va_Pc [.ref h0, .int n, .int (nI aq)] (pcW dC dI [(ks3, .int)] [(h0, .inr (3, [x0, x1, x2, .ref s3, .int (nI qn), .int (nI rm)])), (s3, .inl (ks3, 4, .inl frc))] sz)) (va_Qv (fun _ : Unit => True) (fun _ t => ∃ (frc2 : Nat → Int32), (frc2 = pfF frc n aq) ∧ va_P (dC, dI) vwCl [(h0, .inr (3, [x0, x1, x2, .ref s3, .int (nI qn), .int (nI rm)])), (s3, .inl (ks3, 4, .inl frc2))] t.heap ∧ va_K (dC, dI) vwCl [(ks3, .int)] t ∧ va_D (va_A [(h0, .inr (3, [x0, x1, x2, .ref s3, .int (nI qn), .int (nI rm)])), (s3, .inl (ks3, 4, .inl frc))] sz) [(h0, .inr (3, [x0, x1, x2, .ref s3, .int (nI qn), .int (nI rm)])), (s3, .inl (ks3, 4, .inl frc2))]) (va_A [(h0, .inr (3, [x0, x1, x2, .ref s3, .int (nI qn), .int (nI rm)])), (s3, .inl (ks3, 4, .inl frc))] sz)) 0 0 (va_A [(h0, .inr (3, [x0, x1, x2, .ref s3, .int (nI qn), .int (nI rm)])), (s3, .inl (ks3, 4, .inl frc))] sz) := by
  refine Met.ofW (cc := cX3_putFirst) (maxL := 4) (ret := none) (by decide) rfl ?_
  intro p e s m args below meth c s₁ B hml hv
  obtain ⟨rfl, hsz, hN, hP, hK, hD0⟩ := hv
  have hx := B.exec
  have hb := B.bytes
  have hr := B.returns
  have hts0 := atoms_spec (ws := (wq yX3_putFirst cX3_putFirst 4 none)) B.pre
  have hts : ∀ w ∈ BG, w.before _ s = true := fun w h => hts0 w (List.mem_cons_of_mem _ h)
  have hown : s.vm.findClass RX3 = some m.cls := findClass_of_methodNamed B.named
  have hlocks := B.notSynchronized
  subst hsz
  have hD := hD0.self (sz := s.heap.size)
  generalize hAe : va_A [(h0, .inr (3, [x0, x1, x2, .ref s3, .int (nI qn), .int (nI rm)])), (s3, .inl (ks3, 4, .inl frc))] s.heap.size = A at hD ⊢
  have hA : ∀ q : Nat, s.heap.size ≤ q → A q := fun q h => by rw [← hAe]; exact Or.inr h
  have hS : va_S A s.heap s.heap [] := va_S.rf
  clear hAe hD0
  have hP : va_P (dC, dI) vwCl [(h0, .inr (3, [x0, x1, x2, .ref s3, .int (nI qn), .int (nI rm)])), (s3, .inl (ks3, 4, .inl frc))] s.heap := hP
  have hl := lv_entry ([.ref h0, .int n, .int (nI aq)]) (n := 4) (Nat.le_of_ble_eq_true rfl)
  rw [lg_entry_eq]
  generalize (lg_sl ([.ref h0, .int n, .int (nI aq)]) ++ List.replicate (4 - (lg_sl ([.ref h0, .int n, .int (nI aq)])).length) Slot.unset).toArray = ls at hl ⊢
  have hl : lv_has ls 4 [(0, .ref h0), (1, .int n), (2, .int (nI aq))] := hl
  refine lv_iload_n hx hb dX3_putFirst_0 rfl (lv_at hl 2 rfl) ?_
  refine lv_if_lt (tgt := 9) hx hb dX3_putFirst_1 (by decide) (fun h => absurd (gx_lt (X := ((aq : Nat) : Int)) (C := 0) (nI_toInt (by omega)) (by decide) h) (by omega)) (fun c_1 => ?_)
  have b_2 := gn_lt (X := ((aq : Nat) : Int)) (C := 0) (nI_toInt (by omega)) (by decide) c_1
  refine lv_iload_n hx hb dX3_putFirst_4 rfl (lv_at hl 2 rfl) ?_
  refine lv_iconst (v := 4) hx hb dX3_putFirst_5 (by decide) ?_
  refine lv_icmp_lt (tgt := 10) hx hb dX3_putFirst_6 (by decide) (fun c_3 => ?_) (fun h => absurd (gn_lt (X := ((aq : Nat) : Int)) (C := 4) (nI_toInt (by omega)) (by decide) h) (by omega))
  have b_4 := gx_lt (X := ((aq : Nat) : Int)) (C := 4) (nI_toInt (by omega)) (by decide) c_3
  refine lv_iload_n hx hb dX3_putFirst_10 rfl (lv_at hl 2 rfl) ?_
  refine lv_istore_n (lv' := [(3, .int (nI aq)), (0, .ref h0), (1, .int n), (2, .int (nI aq))]) hx hb dX3_putFirst_11 rfl hl (by decide) rfl (fun ls hl => ?_)
  have key_5 : ∀ (fu : Nat) (i9 : Nat) (frx : Nat → Int32), (i9 ≤ aq) → (frx = sfF frc aq i9) → i9 < fu → ∀ (H : Heap) (locs : List Loc), va_P (dC, dI) vwCl [(h0, .inr (3, [x0, x1, x2, .ref s3, .int (nI qn), .int (nI rm)])), (s3, .inl (ks3, 4, .inl frx))] H → va_D A [(h0, .inr (3, [x0, x1, x2, .ref s3, .int (nI qn), .int (nI rm)])), (s3, .inl (ks3, 4, .inl frx))] → va_S A s.heap H locs → ∀ (ls : Array Slot), lv_has ls 4 [(3, .int (nI i9)), (0, .ref h0), (1, .int n), (2, .int (nI aq))] → W p l e (headSpec (wq yX3_putFirst cX3_putFirst 4 none) ({ frames := 0, cells := 0, slots := 0, locals := 0 })).room s m (([.ref h0, .int n, .int (nI aq)] : List Value)).toArray below meth c H locs 0 0 (MQ below (va_Qv (fun _ : Unit => True) (fun _ t => ∃ (frc2 : Nat → Int32), (frc2 = pfF frc n aq) ∧ va_P (dC, dI) vwCl [(h0, .inr (3, [x0, x1, x2, .ref s3, .int (nI qn), .int (nI rm)])), (s3, .inl (ks3, 4, .inl frc2))] t.heap ∧ va_K (dC, dI) vwCl [(ks3, .int)] t ∧ va_D A [(h0, .inr (3, [x0, x1, x2, .ref s3, .int (nI qn), .int (nI rm)])), (s3, .inl (ks3, 4, .inl frc2))]) A) (([.ref h0, .int n, .int (nI aq)] : List Value)).toArray s 0 0 A) (F0 m 12 ls []) := by
    intro fu
    induction fu with
    | zero => intro i9 frx hi9 hsf hme; exact absurd hme (Nat.not_lt_zero _)
    | succ fu ih_6 =>
      intro i9 frx hi9 hsf hme H locs hP hD hS ls hl
      refine lv_iload_n hx hb dX3_putFirst_12 rfl (lv_at hl 0 rfl) ?_
      refine lv_if_le (tgt := 36) hx hb dX3_putFirst_13 (by decide) (fun c_7 => ?_) (fun c_7 => ?_)
      · have b_8 := gx_le (X := ((i9 : Nat) : Int)) (C := 0) (nI_toInt (by omega)) (by decide) c_7
        refine lv_aload_n hx hb dX3_putFirst_36 rfl (lv_at hl 1 rfl) ?_
        refine va_get (D := (dC, dI)) (ci := 3) (v := .ref s3) (C := RX3) (T := TX3) (N := 6) hx hb hts inB_3 hown hK hP 0 rfl rfl 3 (by decide) (hts _ mw_1_152) (fun _ h9 => h9) rfl dX3_putFirst_37 ?_
        refine lv_iconst (v := 0) hx hb dX3_putFirst_40 (by decide) ?_
        refine lv_iload_n hx hb dX3_putFirst_41 rfl (lv_at hl 2 rfl) ?_
        refine va_iast hx hb hK hP hD hS 1 0 rfl rfl (show vp_in 0 4 by unfold vp_in; decide) dX3_putFirst_42 (fun H locs hP hD hS => ?_)
        obtain ⟨f_9, ef_9⟩ : ∃ g : Nat → Int32, g = upd frx (Int32.toNatClampNeg 0) n := ⟨_, rfl⟩
        rw [← ef_9] at hP hD
        have ef_9 : f_9 = upd frx 0 n := ef_9
        have hP : va_P (dC, dI) vwCl [(h0, .inr (3, [x0, x1, x2, .ref s3, .int (nI qn), .int (nI rm)])), (s3, .inl (ks3, 4, .inl f_9))] H := hP
        have hD : va_D A [(h0, .inr (3, [x0, x1, x2, .ref s3, .int (nI qn), .int (nI rm)])), (s3, .inl (ks3, 4, .inl f_9))] := hD
        have hP9 := hP.sub (ws' := [(h0, .inr (3, [x0, x1, x2, .ref s3, .int (nI qn), .int (nI rm)])), (s3, .inl (ks3, 4, .inl f_9))]) [0, 1] rfl
        have hD9 := hD.sub (ws' := [(h0, .inr (3, [x0, x1, x2, .ref s3, .int (nI qn), .int (nI rm)])), (s3, .inl (ks3, 4, .inl f_9))]) [0, 1] (by decide) rfl
        have hK9 := hK.sub (tys' := [(ks3, .int)]) [0] rfl
        exact W.vret hx hb hr (fun t ht hW => ⟨⟨(), rfl, trivial, f_9, (sf_end (by rw [hsf, show i9 = 0 from (by omega)]) ef_9), by rw [ht]; exact hP9, va_K.moved hW.alike hK9, hD9⟩, hS.F ht⟩) hS.2.2 dX3_putFirst_43
      · have b_8 := gn_le (X := ((i9 : Nat) : Int)) (C := 0) (nI_toInt (by omega)) (by decide) c_7
        refine lv_aload_n hx hb dX3_putFirst_16 rfl (lv_at hl 1 rfl) ?_
        refine va_get (D := (dC, dI)) (ci := 3) (v := .ref s3) (C := RX3) (T := TX3) (N := 6) hx hb hts inB_3 hown hK hP 0 rfl rfl 3 (by decide) (hts _ mw_1_152) (fun _ h9 => h9) rfl dX3_putFirst_17 ?_
        refine lv_iload_n hx hb dX3_putFirst_20 rfl (lv_at hl 0 rfl) ?_
        refine lv_aload_n hx hb dX3_putFirst_21 rfl (lv_at hl 1 rfl) ?_
        refine va_get (D := (dC, dI)) (ci := 3) (v := .ref s3) (C := RX3) (T := TX3) (N := 6) hx hb hts inB_3 hown hK hP 0 rfl rfl 3 (by decide) (hts _ mw_1_152) (fun _ h9 => h9) rfl dX3_putFirst_22 ?_
        refine lv_iload_n hx hb dX3_putFirst_25 rfl (lv_at hl 0 rfl) ?_
        refine lv_iconst (v := 1) hx hb dX3_putFirst_26 (by decide) ?_
        refine lv_isub hx hb dX3_putFirst_27 ?_
        refine hx_top (y := (nI (i9 - 1))) (pk_sub (a := i9) (b := 1) (by omega)) ?_
        refine va_iald hx hb hK hP 1 0 rfl rfl (show vp_in (nI (i9 - 1)) 4 from vp_in_nI (by omega) (by omega)) dX3_putFirst_28 ?_
        refine hx_top (y := (frx (i9 - 1))) (congrArg _ (nI_clamp (by omega))) ?_
        refine va_iast hx hb hK hP hD hS 1 0 rfl rfl (show vp_in (nI i9) 4 from vp_in_nI (by omega) (by omega)) dX3_putFirst_29 (fun H locs hP hD hS => ?_)
        obtain ⟨f_10, ef_10⟩ : ∃ g : Nat → Int32, g = upd frx (Int32.toNatClampNeg (nI i9)) (frx (i9 - 1)) := ⟨_, rfl⟩
        rw [← ef_10] at hP hD
        have ef_10 : f_10 = upd frx i9 (frx (i9 - 1)) := by rw [ef_10, nI_clamp (by omega)]
        have hP : va_P (dC, dI) vwCl [(h0, .inr (3, [x0, x1, x2, .ref s3, .int (nI qn), .int (nI rm)])), (s3, .inl (ks3, 4, .inl f_10))] H := hP
        have hD : va_D A [(h0, .inr (3, [x0, x1, x2, .ref s3, .int (nI qn), .int (nI rm)])), (s3, .inl (ks3, 4, .inl f_10))] := hD
        refine lv_iinc (v := (nI (i9 - 1))) (lv' := [(3, .int (nI (i9 - 1))), (0, .ref h0), (1, .int n), (2, .int (nI aq))]) hx hb dX3_putFirst_30 hl (k := 0) rfl (nx_m1 (by omega)) (by decide) rfl (fun ls hl => ?_)
        refine lv_goto (tgt := 12) hx hb dX3_putFirst_33 (by decide) ?_
        exact ih_6 (i9 - 1) f_10 (by omega) (sf_step hsf (by omega) (by omega) ef_10) (by omega) _ _ hP hD hS ls (lv_sub hl [0, 1, 2, 3] rfl)
  exact key_5 (aq + 1) aq frc (by omega) sf_0 (Nat.lt_succ_self _) _ _ hP hD hS ls (lv_sub hl [0, 1, 2, 3] rfl)
set_option maxHeartbeats 4000000 in
set_option maxRecDepth 100000 in
theorem c_latest (l : Launch) (dC : Nat → ClassId) (dI : Nat → Nat → Nat) (sz : Nat) (h0 : Nat) (x0 : Value) (x1 : Value) (x2 : Value) (s3 : Nat) (qn : Nat) (rm : Nat) (ks3 : ClassId) (frc : Nat → Int32) (iq : Nat) (hrm : rm ≤ 4) (hiq : iq ≤ 9) : Met l yX3_latest (wq yX3_latest cX3_latest 2 (some .int)) ({ frames := 0, cells := 0, slots := 0, locals := 0 }) (va_Pc [.ref h0, .int (nI iq)] (pcW dC dI [(ks3, .int)] [(h0, .inr (3, [x0, x1, x2, .ref s3, .int (nI qn), .int (nI rm)])), (s3, .inl (ks3, 4, .inl frc))] sz)) (va_Qi (fun (r : Int32) (_ : Unit) => r = (ltF rm frc iq)) (fun _ _ => True) (fun q : Nat => sz ≤ q)) 0 0 (fun q : Nat => sz ≤ q) := by
  refine Met.ofW (cc := cX3_latest) (maxL := 2) (ret := (some .int)) (by decide) rfl ?_
  intro p e s m args below meth c s₁ B hml hv
  obtain ⟨rfl, hsz, hN, hP, hK, hD0⟩ := hv
  have hx := B.exec
  have hb := B.bytes
  have hr := B.returns
  have hts0 := atoms_spec (ws := (wq yX3_latest cX3_latest 2 (some .int))) B.pre
  have hts : ∀ w ∈ BG, w.before _ s = true := fun w h => hts0 w (List.mem_cons_of_mem _ h)
  have hown : s.vm.findClass RX3 = some m.cls := findClass_of_methodNamed B.named
  have hlocks := B.notSynchronized
  subst hsz
  have hA : ∀ q : Nat, s.heap.size ≤ q → (fun q : Nat => s.heap.size ≤ q) q := fun _ h => h
  have hD := hD0
  have hS : va_S (fun q : Nat => s.heap.size ≤ q) s.heap s.heap [] := va_S.rf
  have hP : va_P (dC, dI) vwCl [(h0, .inr (3, [x0, x1, x2, .ref s3, .int (nI qn), .int (nI rm)])), (s3, .inl (ks3, 4, .inl frc))] s.heap := hP
  have hl := lv_entry ([.ref h0, .int (nI iq)]) (n := 2) (Nat.le_of_ble_eq_true rfl)
  rw [lg_entry_eq]
  generalize (lg_sl ([.ref h0, .int (nI iq)]) ++ List.replicate (2 - (lg_sl ([.ref h0, .int (nI iq)])).length) Slot.unset).toArray = ls at hl ⊢
  have hl : lv_has ls 2 [(0, .ref h0), (1, .int (nI iq))] := hl
  refine lv_iload_n hx hb dX3_latest_0 rfl (lv_at hl 1 rfl) ?_
  refine lv_if_lt (tgt := 26) hx hb dX3_latest_1 (by decide) (fun h => absurd (gx_lt (X := ((iq : Nat) : Int)) (C := 0) (nI_toInt (by omega)) (by decide) h) (by omega)) (fun c_1 => ?_)
  have b_2 := gn_lt (X := ((iq : Nat) : Int)) (C := 0) (nI_toInt (by omega)) (by decide) c_1
  refine lv_iload_n hx hb dX3_latest_4 rfl (lv_at hl 1 rfl) ?_
  refine lv_aload_n hx hb dX3_latest_5 rfl (lv_at hl 0 rfl) ?_
  refine va_get (D := (dC, dI)) (ci := 3) (v := .int (nI rm)) (C := RX3) (T := TX3) (N := 6) hx hb hts inB_3 hown hK hP 0 rfl rfl 5 (by decide) (hts _ mw_1_154) (fun _ h9 => h9) rfl dX3_latest_6 ?_
  refine lv_icmp_ge (tgt := 26) hx hb dX3_latest_9 (by decide) (fun c_3 => ?_) (fun c_3 => ?_)
  · have b_4 := gx_ge (X := ((iq : Nat) : Int)) (C := ((rm : Nat) : Int)) (nI_toInt (by omega)) (nI_toInt (by omega)) c_3
    refine lv_bipush (v := (-6)) hx hb dX3_latest_26 (by decide) ?_
    exact W.iret (v := (-6)) hx hb hr (fun t ht hW => ⟨⟨(-6), (), rfl, (by unfold ltF; rw [if_neg (by omega)]), trivial⟩, hS.F ht⟩) hS.2.2 dX3_latest_28
  · have b_4 := gn_ge (X := ((iq : Nat) : Int)) (C := ((rm : Nat) : Int)) (nI_toInt (by omega)) (nI_toInt (by omega)) c_3
    refine lv_iload_n hx hb dX3_latest_12 rfl (lv_at hl 1 rfl) ?_
    refine lv_iconst (v := 4) hx hb dX3_latest_13 (by decide) ?_
    refine lv_icmp_ge (tgt := 26) hx hb dX3_latest_14 (by decide) (fun c_5 => ?_) (fun c_5 => ?_)
    · have b_6 := gx_ge (X := ((iq : Nat) : Int)) (C := 4) (nI_toInt (by omega)) (by decide) c_5
      refine lv_bipush (v := (-6)) hx hb dX3_latest_26 (by decide) ?_
      exact W.iret (v := (-6)) hx hb hr (fun t ht hW => ⟨⟨(-6), (), rfl, (by unfold ltF; rw [if_neg (by omega)]), trivial⟩, hS.F ht⟩) hS.2.2 dX3_latest_28
    · have b_6 := gn_ge (X := ((iq : Nat) : Int)) (C := 4) (nI_toInt (by omega)) (by decide) c_5
      refine lv_aload_n hx hb dX3_latest_17 rfl (lv_at hl 0 rfl) ?_
      refine va_get (D := (dC, dI)) (ci := 3) (v := .ref s3) (C := RX3) (T := TX3) (N := 6) hx hb hts inB_3 hown hK hP 0 rfl rfl 3 (by decide) (hts _ mw_1_152) (fun _ h9 => h9) rfl dX3_latest_18 ?_
      refine lv_iload_n hx hb dX3_latest_21 rfl (lv_at hl 1 rfl) ?_
      refine va_iald hx hb hK hP 1 0 rfl rfl (show vp_in (nI iq) 4 from vp_in_nI (by omega) (by omega)) dX3_latest_22 ?_
      refine hx_top (y := (frc iq)) (congrArg _ (nI_clamp (by omega))) ?_
      refine lv_goto (tgt := 28) hx hb dX3_latest_23 (by decide) ?_
      exact W.iret (v := (frc iq)) hx hb hr (fun t ht hW => ⟨⟨(frc iq), (), rfl, (by unfold ltF; rw [if_pos (by omega)]), trivial⟩, hS.F ht⟩) hS.2.2 dX3_latest_28
set_option maxHeartbeats 4000000 in
set_option maxRecDepth 100000 in
theorem c_hbs (l : Launch) (dC : Nat → ClassId) (dI : Nat → Nat → Nat) (sz : Nat) (h0 : Nat) (x0 : Value) (s1 : Nat) (s2 : Nat) (s3 : Nat) (qn : Nat) (rm : Nat) (ks1 : ClassId) (fcp : Nat → Int32) (ks2 : ClassId) (fck : Nat → Int32) (ks3 : ClassId) (frc : Nat → Int32) (n : Int32) (sq : Nat) (hqn : qn ≤ 40) (hs1 : 1 ≤ sq) (hs4 : sq ≤ 4) : Met l yX3_hitsBySize (wq yX3_hitsBySize cX3_hitsBySize 6 (some .int)) ({ frames := 1, cells := 0, slots := 0, locals := 23 }) (va_Pc [.ref h0, .int n, .int (nI sq)] (pcW dC dI [(ks1, .int), (ks2, .int), (ks3, .int)] [(h0, .inr (3, [x0, .ref s1, .ref s2, .ref s3, .int (nI qn), .int (nI rm)])), (s1, .inl (ks1, 40, .inl fcp)), (s2, .inl (ks2, 40, .inl fck)), (s3, .inl (ks3, 4, .inl frc))] sz)) (va_Qi (fun (r : Int32) (_ : Unit) => r = nI (lruH fcp fck n sq qn)) (fun _ t => ∃ (rm2 : Nat) (frc2 : Nat → Int32), (rm2 ≤ 4) ∧ (lruA fcp fck n sq qn rm2 frc2) ∧ va_P (dC, dI) vwCl [(h0, .inr (3, [x0, .ref s1, .ref s2, .ref s3, .int (nI qn), .int (nI rm2)])), (s1, .inl (ks1, 40, .inl fcp)), (s2, .inl (ks2, 40, .inl fck)), (s3, .inl (ks3, 4, .inl frc2))] t.heap ∧ va_K (dC, dI) vwCl [(ks1, .int), (ks2, .int), (ks3, .int)] t ∧ va_D (va_A [(h0, .inr (3, [x0, .ref s1, .ref s2, .ref s3, .int (nI qn), .int (nI rm)])), (s1, .inl (ks1, 40, .inl fcp)), (s2, .inl (ks2, 40, .inl fck)), (s3, .inl (ks3, 4, .inl frc))] sz) [(h0, .inr (3, [x0, .ref s1, .ref s2, .ref s3, .int (nI qn), .int (nI rm2)])), (s1, .inl (ks1, 40, .inl fcp)), (s2, .inl (ks2, 40, .inl fck)), (s3, .inl (ks3, 4, .inl frc2))]) (va_A [(h0, .inr (3, [x0, .ref s1, .ref s2, .ref s3, .int (nI qn), .int (nI rm)])), (s1, .inl (ks1, 40, .inl fcp)), (s2, .inl (ks2, 40, .inl fck)), (s3, .inl (ks3, 4, .inl frc))] sz)) 0 0 (va_A [(h0, .inr (3, [x0, .ref s1, .ref s2, .ref s3, .int (nI qn), .int (nI rm)])), (s1, .inl (ks1, 40, .inl fcp)), (s2, .inl (ks2, 40, .inl fck)), (s3, .inl (ks3, 4, .inl frc))] sz) := by
  refine Met.ofW (cc := cX3_hitsBySize) (maxL := 6) (ret := (some .int)) (by decide) rfl ?_
  intro p e s m args below meth c s₁ B hml hv
  obtain ⟨rfl, hsz, hN, hP, hK, hD0⟩ := hv
  have hx := B.exec
  have hb := B.bytes
  have hr := B.returns
  have hts0 := atoms_spec (ws := (wq yX3_hitsBySize cX3_hitsBySize 6 (some .int))) B.pre
  have hts : ∀ w ∈ BG, w.before _ s = true := fun w h => hts0 w (List.mem_cons_of_mem _ h)
  have hown : s.vm.findClass RX3 = some m.cls := findClass_of_methodNamed B.named
  have hlocks := B.notSynchronized
  subst hsz
  have hD := hD0.self (sz := s.heap.size)
  generalize hAe : va_A [(h0, .inr (3, [x0, .ref s1, .ref s2, .ref s3, .int (nI qn), .int (nI rm)])), (s1, .inl (ks1, 40, .inl fcp)), (s2, .inl (ks2, 40, .inl fck)), (s3, .inl (ks3, 4, .inl frc))] s.heap.size = A at hD ⊢
  have hA : ∀ q : Nat, s.heap.size ≤ q → A q := fun q h => by rw [← hAe]; exact Or.inr h
  have hS : va_S A s.heap s.heap [] := va_S.rf
  clear hAe hD0
  have hP : va_P (dC, dI) vwCl [(h0, .inr (3, [x0, .ref s1, .ref s2, .ref s3, .int (nI qn), .int (nI rm)])), (s1, .inl (ks1, 40, .inl fcp)), (s2, .inl (ks2, 40, .inl fck)), (s3, .inl (ks3, 4, .inl frc))] s.heap := hP
  have hl := lv_entry ([.ref h0, .int n, .int (nI sq)]) (n := 6) (Nat.le_of_ble_eq_true rfl)
  rw [lg_entry_eq]
  generalize (lg_sl ([.ref h0, .int n, .int (nI sq)]) ++ List.replicate (6 - (lg_sl ([.ref h0, .int n, .int (nI sq)])).length) Slot.unset).toArray = ls at hl ⊢
  have hl : lv_has ls 6 [(0, .ref h0), (1, .int n), (2, .int (nI sq))] := hl
  refine lv_aload_n hx hb dX3_hitsBySize_0 rfl (lv_at hl 0 rfl) ?_
  refine lv_iconst (v := 0) hx hb dX3_hitsBySize_1 (by decide) ?_
  refine va_put (D := (dC, dI)) (ci := 3) (v := .int 0) (ty := .int) (C := RX3) (T := TX3) (N := 6) hx hb hts inB_3 tyX3 tyX3_ok nmX3 hown hK hP hD hS 0 rfl rfl 5 (by decide) (hts _ mw_1_154) (fun _ h9 => h9) rfl (by decide +kernel) rfl rfl (Nat.le_of_ble_eq_true rfl) dX3_hitsBySize_2 (fun H locs hP hD hS => ?_)
  have hP : va_P (dC, dI) vwCl [(h0, .inr (3, [x0, .ref s1, .ref s2, .ref s3, .int (nI qn), .int 0])), (s1, .inl (ks1, 40, .inl fcp)), (s2, .inl (ks2, 40, .inl fck)), (s3, .inl (ks3, 4, .inl frc))] H := hP
  have hD : va_D A [(h0, .inr (3, [x0, .ref s1, .ref s2, .ref s3, .int (nI qn), .int 0])), (s1, .inl (ks1, 40, .inl fcp)), (s2, .inl (ks2, 40, .inl fck)), (s3, .inl (ks3, 4, .inl frc))] := hD
  refine lv_iconst (v := 0) hx hb dX3_hitsBySize_5 (by decide) ?_
  refine lv_istore_n (lv' := [(3, .int 0), (0, .ref h0), (1, .int n), (2, .int (nI sq))]) hx hb dX3_hitsBySize_6 rfl hl (by decide) rfl (fun ls hl => ?_)
  refine lv_iconst (v := 0) hx hb dX3_hitsBySize_7 (by decide) ?_
  refine lv_istore (lv' := [(4, .int 0), (3, .int 0), (0, .ref h0), (1, .int n), (2, .int (nI sq))]) hx hb dX3_hitsBySize_8 hl (by decide) rfl (fun ls hl => ?_)
  have key_1 : ∀ (fu : Nat) (k : Nat) (hn8 : Nat) (rmx : Nat) (frx : Nat → Int32), (k ≤ qn) → (rmx ≤ sq) → ((rmx, frx, hn8) = lruC fcp fck n sq frc k) → qn - k < fu → ∀ (H : Heap) (locs : List Loc), va_P (dC, dI) vwCl [(h0, .inr (3, [x0, .ref s1, .ref s2, .ref s3, .int (nI qn), .int (nI rmx)])), (s1, .inl (ks1, 40, .inl fcp)), (s2, .inl (ks2, 40, .inl fck)), (s3, .inl (ks3, 4, .inl frx))] H → va_D A [(h0, .inr (3, [x0, .ref s1, .ref s2, .ref s3, .int (nI qn), .int (nI rmx)])), (s1, .inl (ks1, 40, .inl fcp)), (s2, .inl (ks2, 40, .inl fck)), (s3, .inl (ks3, 4, .inl frx))] → va_S A s.heap H locs → ∀ (ls : Array Slot), lv_has ls 6 [(4, .int (nI k)), (3, .int (nI hn8)), (0, .ref h0), (1, .int n), (2, .int (nI sq))] → W p l e (headSpec (wq yX3_hitsBySize cX3_hitsBySize 6 (some .int)) ({ frames := 1, cells := 0, slots := 0, locals := 23 })).room s m (([.ref h0, .int n, .int (nI sq)] : List Value)).toArray below meth c H locs 0 0 (MQ below (va_Qi (fun (r : Int32) (_ : Unit) => r = nI (lruH fcp fck n sq qn)) (fun _ t => ∃ (rm2 : Nat) (frc2 : Nat → Int32), (rm2 ≤ 4) ∧ (lruA fcp fck n sq qn rm2 frc2) ∧ va_P (dC, dI) vwCl [(h0, .inr (3, [x0, .ref s1, .ref s2, .ref s3, .int (nI qn), .int (nI rm2)])), (s1, .inl (ks1, 40, .inl fcp)), (s2, .inl (ks2, 40, .inl fck)), (s3, .inl (ks3, 4, .inl frc2))] t.heap ∧ va_K (dC, dI) vwCl [(ks1, .int), (ks2, .int), (ks3, .int)] t ∧ va_D A [(h0, .inr (3, [x0, .ref s1, .ref s2, .ref s3, .int (nI qn), .int (nI rm2)])), (s1, .inl (ks1, 40, .inl fcp)), (s2, .inl (ks2, 40, .inl fck)), (s3, .inl (ks3, 4, .inl frc2))]) A) (([.ref h0, .int n, .int (nI sq)] : List Value)).toArray s 0 0 A) (F0 m 10 ls []) := by
    intro fu
    induction fu with
    | zero => intro k hn8 rmx frx hk hrx hlr hme; exact absurd hme (Nat.not_lt_zero _)
    | succ fu ih_2 =>
      intro k hn8 rmx frx hk hrx hlr hme H locs hP hD hS ls hl
      refine lv_iload hx hb dX3_hitsBySize_10 (lv_at hl 0 rfl) ?_
      refine lv_aload_n hx hb dX3_hitsBySize_12 rfl (lv_at hl 2 rfl) ?_
      refine va_get (D := (dC, dI)) (ci := 3) (v := .int (nI qn)) (C := RX3) (T := TX3) (N := 6) hx hb hts inB_3 hown hK hP 0 rfl rfl 4 (by decide) (hts _ mw_1_153) (fun _ h9 => h9) rfl dX3_hitsBySize_13 ?_
      refine lv_icmp_ge (tgt := 118) hx hb dX3_hitsBySize_16 (by decide) (fun c_3 => ?_) (fun c_3 => ?_)
      · have b_4 := gx_ge (X := ((k : Nat) : Int)) (C := ((qn : Nat) : Int)) (nI_toInt (by omega)) (nI_toInt (by omega)) c_3
        refine lv_iload_n hx hb dX3_hitsBySize_118 rfl (lv_at hl 1 rfl) ?_
        have hP9 := hP.sub (ws' := [(h0, .inr (3, [x0, .ref s1, .ref s2, .ref s3, .int (nI qn), .int (nI rmx)])), (s1, .inl (ks1, 40, .inl fcp)), (s2, .inl (ks2, 40, .inl fck)), (s3, .inl (ks3, 4, .inl frx))]) [0, 1, 2, 3] rfl
        have hD9 := hD.sub (ws' := [(h0, .inr (3, [x0, .ref s1, .ref s2, .ref s3, .int (nI qn), .int (nI rmx)])), (s1, .inl (ks1, 40, .inl fcp)), (s2, .inl (ks2, 40, .inl fck)), (s3, .inl (ks3, 4, .inl frx))]) [0, 1, 2, 3] (by decide) rfl
        have hK9 := hK.sub (tys' := [(ks1, .int), (ks2, .int), (ks3, .int)]) [0, 1, 2] rfl
        exact W.iret (v := (nI hn8)) hx hb hr (fun t ht hW => ⟨⟨(nI hn8), (), rfl, (congrArg nI (lru_end hs1 hs4 (by rw [show qn = k from (by omega)]; exact hlr)).1), rmx, frx, (by omega), (lru_end hs1 hs4 (by rw [show qn = k from (by omega)]; exact hlr)).2, by rw [ht]; exact hP9, va_K.moved hW.alike hK9, hD9⟩, hS.F ht⟩) hS.2.2 dX3_hitsBySize_119
      · have b_4 := gn_ge (X := ((k : Nat) : Int)) (C := ((qn : Nat) : Int)) (nI_toInt (by omega)) (nI_toInt (by omega)) c_3
        refine lv_aload_n hx hb dX3_hitsBySize_19 rfl (lv_at hl 2 rfl) ?_
        refine va_get (D := (dC, dI)) (ci := 3) (v := .ref s1) (C := RX3) (T := TX3) (N := 6) hx hb hts inB_3 hown hK hP 0 rfl rfl 1 (by decide) (hts _ mw_1_150) (fun _ h9 => h9) rfl dX3_hitsBySize_20 ?_
        refine lv_iload hx hb dX3_hitsBySize_23 (lv_at hl 0 rfl) ?_
        refine va_iald hx hb hK hP 1 0 rfl rfl (show vp_in (nI k) 40 from vp_in_nI (by omega) (by omega)) dX3_hitsBySize_25 ?_
        refine hx_top (y := (fcp k)) (congrArg _ (nI_clamp (by omega))) ?_
        refine lv_iload_n hx hb dX3_hitsBySize_26 rfl (lv_at hl 3 rfl) ?_
        refine lv_icmp_eq (tgt := 33) hx hb dX3_hitsBySize_27 (by decide) (fun c_5 => ?_) (fun c_5 => ?_)
        · have b_6 := gx_eq (X := (Int32.toInt (fcp k))) (C := (Int32.toInt n)) rfl rfl c_5
          refine lv_aload_n hx hb dX3_hitsBySize_33 rfl (lv_at hl 2 rfl) ?_
          refine lv_aload_n hx hb dX3_hitsBySize_34 rfl (lv_at hl 2 rfl) ?_
          refine va_get (D := (dC, dI)) (ci := 3) (v := .ref s2) (C := RX3) (T := TX3) (N := 6) hx hb hts inB_3 hown hK hP 0 rfl rfl 2 (by decide) (hts _ mw_1_151) (fun _ h9 => h9) rfl dX3_hitsBySize_35 ?_
          refine lv_iload hx hb dX3_hitsBySize_38 (lv_at hl 0 rfl) ?_
          refine va_iald hx hb hK hP 2 1 rfl rfl (show vp_in (nI k) 40 from vp_in_nI (by omega) (by omega)) dX3_hitsBySize_40 ?_
          refine hx_top (y := (fck k)) (congrArg _ (nI_clamp (by omega))) ?_
          have hPc := hP.sub (ws' := [(h0, .inr (3, [x0, .ref s1, .ref s2, .ref s3, .int (nI qn), .int (nI rmx)])), (s3, .inl (ks3, 4, .inl frx))]) [0, 3] rfl
          have hDc := hD.sub (ws' := [(h0, .inr (3, [x0, .ref s1, .ref s2, .ref s3, .int (nI qn), .int (nI rmx)])), (s3, .inl (ks3, 4, .inl frx))]) [0, 3] (by decide) rfl
          have hKc := hK.sub (tys' := [(ks3, .int)]) [2] rfl
          refine va_calli (va_runV (As := [.int (fck k)]) (rest := []) ⟨hx, hb, hml, hown, hts⟩ (c_whereR l dC dI H.size h0 (x0) (.ref s1) (.ref s2) s3 qn rmx ks3 frx (fck k) (by omega)) (cwV 1 hts (gV mw_3_131 mw_3_133 mw_0_12 mw_1_8 mw_3_134) rfl rfl rfl (by decide +kernel) ⟨Nat.le_of_ble_eq_true rfl, Nat.le_of_ble_eq_true rfl⟩) ⟨pcW_blind, va_recv hKc hPc (ci := 3) (q0 := 0) rfl rfl, pcW_at hPc hKc hDc hN⟩ rfl rfl hl.1 rfl (lv_room (Nat.le_of_ble_eq_true rfl)) dX3_hitsBySize_41 ⟨Nat.le_of_ble_eq_true rfl, Nat.le_of_ble_eq_true rfl⟩) hS (fun q h1 h2 => absurd h2 (Nat.not_le.mpr h1)) (fun q h => hA q (Nat.le_trans hS.1 h)) (fun r_7 u t H1 locs ht hvm hw_7 hB hz1 hk1 hS => ?_)
          have hP := keepP hP hk1
          clear hz1 hk1 hB ht hvm hPc hDc hKc
          generalize H1 = H at hP hS ⊢
          refine lv_istore (lv' := [(5, .int r_7), (4, .int (nI k)), (3, .int (nI hn8)), (0, .ref h0), (1, .int n), (2, .int (nI sq))]) hx hb dX3_hitsBySize_44 hl (by decide) rfl (fun ls hl => ?_)
          rcases rc_cases hw_7 with eq9 | ⟨q9, hq9, eq9⟩
          · subst eq9
            refine lv_iload hx hb dX3_hitsBySize_46 (lv_at hl 0 rfl) ?_
            refine lv_bipush (v := (-6)) hx hb dX3_hitsBySize_48 (by decide) ?_
            refine lv_icmp_eq (tgt := 59) hx hb dX3_hitsBySize_50 (by decide) (fun _ => ?_) (fun h => absurd (by decide) h)
            refine lv_aload_n hx hb dX3_hitsBySize_59 rfl (lv_at hl 3 rfl) ?_
            refine va_get (D := (dC, dI)) (ci := 3) (v := .int (nI rmx)) (C := RX3) (T := TX3) (N := 6) hx hb hts inB_3 hown hK hP 0 rfl rfl 5 (by decide) (hts _ mw_1_154) (fun _ h9 => h9) rfl dX3_hitsBySize_60 ?_
            refine lv_iload_n hx hb dX3_hitsBySize_63 rfl (lv_at hl 5 rfl) ?_
            refine lv_icmp_ge (tgt := 91) hx hb dX3_hitsBySize_64 (by decide) (fun c_8 => ?_) (fun c_8 => ?_)
            · have b_9 := gx_ge (X := ((rmx : Nat) : Int)) (C := ((sq : Nat) : Int)) (nI_toInt (by omega)) (nI_toInt (by omega)) c_8
              refine lv_aload_n hx hb dX3_hitsBySize_91 rfl (lv_at hl 3 rfl) ?_
              refine va_get (D := (dC, dI)) (ci := 3) (v := .int (nI rmx)) (C := RX3) (T := TX3) (N := 6) hx hb hts inB_3 hown hK hP 0 rfl rfl 5 (by decide) (hts _ mw_1_154) (fun _ h9 => h9) rfl dX3_hitsBySize_92 ?_
              refine lv_iconst (v := 1) hx hb dX3_hitsBySize_95 (by decide) ?_
              refine lv_isub hx hb dX3_hitsBySize_96 ?_
              refine hx_top (y := (nI (rmx - 1))) (pk_sub (a := rmx) (b := 1) (by omega)) ?_
              refine lv_istore (lv' := [(5, .int (nI (rmx - 1))), (4, .int (nI k)), (3, .int (nI hn8)), (0, .ref h0), (1, .int n), (2, .int (nI sq))]) hx hb dX3_hitsBySize_97 hl (by decide) rfl (fun ls hl => ?_)
              refine lv_aload_n hx hb dX3_hitsBySize_99 rfl (lv_at hl 3 rfl) ?_
              refine lv_aload_n hx hb dX3_hitsBySize_100 rfl (lv_at hl 3 rfl) ?_
              refine va_get (D := (dC, dI)) (ci := 3) (v := .ref s2) (C := RX3) (T := TX3) (N := 6) hx hb hts inB_3 hown hK hP 0 rfl rfl 2 (by decide) (hts _ mw_1_151) (fun _ h9 => h9) rfl dX3_hitsBySize_101 ?_
              refine lv_iload hx hb dX3_hitsBySize_104 (lv_at hl 1 rfl) ?_
              refine va_iald hx hb hK hP 2 1 rfl rfl (show vp_in (nI k) 40 from vp_in_nI (by omega) (by omega)) dX3_hitsBySize_106 ?_
              refine hx_top (y := (fck k)) (congrArg _ (nI_clamp (by omega))) ?_
              refine lv_iload hx hb dX3_hitsBySize_107 (lv_at hl 0 rfl) ?_
              have hPc := hP.sub (ws' := [(h0, .inr (3, [x0, .ref s1, .ref s2, .ref s3, .int (nI qn), .int (nI rmx)])), (s3, .inl (ks3, 4, .inl frx))]) [0, 3] rfl
              have hDc := hD.sub (ws' := [(h0, .inr (3, [x0, .ref s1, .ref s2, .ref s3, .int (nI qn), .int (nI rmx)])), (s3, .inl (ks3, 4, .inl frx))]) [0, 3] (by decide) rfl
              have hKc := hK.sub (tys' := [(ks3, .int)]) [2] rfl
              have hFc := va_free (wc := [(h0, .inr (3, [x0, .ref s1, .ref s2, .ref s3, .int (nI qn), .int (nI rmx)])), (s3, .inl (ks3, 4, .inl frx))]) hD hS hA [0, 3] rfl
              refine va_callv (va_runV (As := [.int (fck k), .int (nI (rmx - 1))]) (rest := []) ⟨hx, hb, hml, hown, hts⟩ (c_putF l dC dI H.size h0 (x0) (.ref s1) (.ref s2) s3 qn rmx ks3 frx (fck k) (rmx - 1) (by omega)) (cwV 2 hts (gV mw_3_135 mw_3_137 mw_0_13 mw_1_8 mw_3_138) rfl rfl rfl (by decide +kernel) ⟨Nat.le_of_ble_eq_true rfl, Nat.le_of_ble_eq_true rfl⟩) ⟨pcW_blind, va_recv hKc hPc (ci := 3) (q0 := 0) rfl rfl, pcW_at hPc hKc hDc hN⟩ rfl rfl hl.1 rfl (lv_room (Nat.le_of_ble_eq_true rfl)) dX3_hitsBySize_109 ⟨Nat.le_of_ble_eq_true rfl, Nat.le_of_ble_eq_true rfl⟩) hS (fun q _ h => hFc q h) hFc (fun u t H1 locs ht hvm hw_10 hB hz1 hk1 hS => ?_)
              obtain ⟨f_11, p_12, hP1, hK1, hD1⟩ := hB
              rw [ht] at hP1
              have hK1 := va_K.moved hvm.symm hK1
              obtain ⟨hP, hD⟩ := va_join (wr := [(s1, .inl (ks1, 40, .inl fcp)), (s2, .inl (ks2, 40, .inl fck))]) (w1 := [(h0, .inr (3, [x0, .ref s1, .ref s2, .ref s3, .int (nI qn), .int (nI rmx)])), (s3, .inl (ks3, 4, .inl f_11))]) hP hD [0, 3] [1, 2] rfl rfl (by decide) (by decide) hk1 hFc hP1 hD1
              have hK := (hK.sub (tys' := [(ks1, .int), (ks2, .int)]) [0, 1] rfl).app hK1
              clear hz1 hk1 hPc hDc hKc hFc
              generalize H1 = H at hP hS ⊢
              have hK : va_K (dC, dI) vwCl [(ks1, .int), (ks2, .int), (ks3, .int)] s := hK
              have hP : va_P (dC, dI) vwCl [(s1, .inl (ks1, 40, .inl fcp)), (s2, .inl (ks2, 40, .inl fck)), (h0, .inr (3, [x0, .ref s1, .ref s2, .ref s3, .int (nI qn), .int (nI rmx)])), (s3, .inl (ks3, 4, .inl f_11))] H := hP
              have hD : va_D A [(s1, .inl (ks1, 40, .inl fcp)), (s2, .inl (ks2, 40, .inl fck)), (h0, .inr (3, [x0, .ref s1, .ref s2, .ref s3, .int (nI qn), .int (nI rmx)])), (s3, .inl (ks3, 4, .inl f_11))] := hD
              refine lv_iinc (v := (nI (k + 1))) (lv' := [(4, .int (nI (k + 1))), (5, .int (nI (rmx - 1))), (3, .int (nI hn8)), (0, .ref h0), (1, .int n), (2, .int (nI sq))]) hx hb dX3_hitsBySize_112 hl (k := 1) rfl (nI_add k 1) (by decide) rfl (fun ls hl => ?_)
              refine lv_goto (tgt := 10) hx hb dX3_hitsBySize_115 (by decide) ?_
              exact ih_2 (k + 1) hn8 rmx f_11 (by omega) hrx (lc_old hlr c_5 hw_7 (by omega) p_12) (by omega) _ _ (hP.sub (ws' := [(h0, .inr (3, [x0, .ref s1, .ref s2, .ref s3, .int (nI qn), .int (nI rmx)])), (s1, .inl (ks1, 40, .inl fcp)), (s2, .inl (ks2, 40, .inl fck)), (s3, .inl (ks3, 4, .inl f_11))]) [2, 0, 1, 3] rfl) (hD.sub (ws' := [(h0, .inr (3, [x0, .ref s1, .ref s2, .ref s3, .int (nI qn), .int (nI rmx)])), (s1, .inl (ks1, 40, .inl fcp)), (s2, .inl (ks2, 40, .inl fck)), (s3, .inl (ks3, 4, .inl f_11))]) [2, 0, 1, 3] (by decide) rfl) hS ls (lv_sub hl [0, 2, 3, 4, 5] rfl)
            · have b_9 := gn_ge (X := ((rmx : Nat) : Int)) (C := ((sq : Nat) : Int)) (nI_toInt (by omega)) (nI_toInt (by omega)) c_8
              refine lv_aload_n hx hb dX3_hitsBySize_67 rfl (lv_at hl 3 rfl) ?_
              refine va_get (D := (dC, dI)) (ci := 3) (v := .int (nI rmx)) (C := RX3) (T := TX3) (N := 6) hx hb hts inB_3 hown hK hP 0 rfl rfl 5 (by decide) (hts _ mw_1_154) (fun _ h9 => h9) rfl dX3_hitsBySize_68 ?_
              refine lv_iconst (v := 4) hx hb dX3_hitsBySize_71 (by decide) ?_
              refine lv_icmp_ge (tgt := 91) hx hb dX3_hitsBySize_72 (by decide) (fun c_13 => ?_) (fun c_13 => ?_)
              · have b_14 := gx_ge (X := ((rmx : Nat) : Int)) (C := 4) (nI_toInt (by omega)) (by decide) c_13
                refine lv_aload_n hx hb dX3_hitsBySize_91 rfl (lv_at hl 3 rfl) ?_
                refine va_get (D := (dC, dI)) (ci := 3) (v := .int (nI rmx)) (C := RX3) (T := TX3) (N := 6) hx hb hts inB_3 hown hK hP 0 rfl rfl 5 (by decide) (hts _ mw_1_154) (fun _ h9 => h9) rfl dX3_hitsBySize_92 ?_
                refine lv_iconst (v := 1) hx hb dX3_hitsBySize_95 (by decide) ?_
                refine lv_isub hx hb dX3_hitsBySize_96 ?_
                refine hx_top (y := (nI (rmx - 1))) (pk_sub (a := rmx) (b := 1) (by omega)) ?_
                refine lv_istore (lv' := [(5, .int (nI (rmx - 1))), (4, .int (nI k)), (3, .int (nI hn8)), (0, .ref h0), (1, .int n), (2, .int (nI sq))]) hx hb dX3_hitsBySize_97 hl (by decide) rfl (fun ls hl => ?_)
                refine lv_aload_n hx hb dX3_hitsBySize_99 rfl (lv_at hl 3 rfl) ?_
                refine lv_aload_n hx hb dX3_hitsBySize_100 rfl (lv_at hl 3 rfl) ?_
                refine va_get (D := (dC, dI)) (ci := 3) (v := .ref s2) (C := RX3) (T := TX3) (N := 6) hx hb hts inB_3 hown hK hP 0 rfl rfl 2 (by decide) (hts _ mw_1_151) (fun _ h9 => h9) rfl dX3_hitsBySize_101 ?_
                refine lv_iload hx hb dX3_hitsBySize_104 (lv_at hl 1 rfl) ?_
                refine va_iald hx hb hK hP 2 1 rfl rfl (show vp_in (nI k) 40 from vp_in_nI (by omega) (by omega)) dX3_hitsBySize_106 ?_
                refine hx_top (y := (fck k)) (congrArg _ (nI_clamp (by omega))) ?_
                refine lv_iload hx hb dX3_hitsBySize_107 (lv_at hl 0 rfl) ?_
                have hPc := hP.sub (ws' := [(h0, .inr (3, [x0, .ref s1, .ref s2, .ref s3, .int (nI qn), .int (nI rmx)])), (s3, .inl (ks3, 4, .inl frx))]) [0, 3] rfl
                have hDc := hD.sub (ws' := [(h0, .inr (3, [x0, .ref s1, .ref s2, .ref s3, .int (nI qn), .int (nI rmx)])), (s3, .inl (ks3, 4, .inl frx))]) [0, 3] (by decide) rfl
                have hKc := hK.sub (tys' := [(ks3, .int)]) [2] rfl
                have hFc := va_free (wc := [(h0, .inr (3, [x0, .ref s1, .ref s2, .ref s3, .int (nI qn), .int (nI rmx)])), (s3, .inl (ks3, 4, .inl frx))]) hD hS hA [0, 3] rfl
                refine va_callv (va_runV (As := [.int (fck k), .int (nI (rmx - 1))]) (rest := []) ⟨hx, hb, hml, hown, hts⟩ (c_putF l dC dI H.size h0 (x0) (.ref s1) (.ref s2) s3 qn rmx ks3 frx (fck k) (rmx - 1) (by omega)) (cwV 2 hts (gV mw_3_135 mw_3_137 mw_0_13 mw_1_8 mw_3_138) rfl rfl rfl (by decide +kernel) ⟨Nat.le_of_ble_eq_true rfl, Nat.le_of_ble_eq_true rfl⟩) ⟨pcW_blind, va_recv hKc hPc (ci := 3) (q0 := 0) rfl rfl, pcW_at hPc hKc hDc hN⟩ rfl rfl hl.1 rfl (lv_room (Nat.le_of_ble_eq_true rfl)) dX3_hitsBySize_109 ⟨Nat.le_of_ble_eq_true rfl, Nat.le_of_ble_eq_true rfl⟩) hS (fun q _ h => hFc q h) hFc (fun u t H1 locs ht hvm hw_15 hB hz1 hk1 hS => ?_)
                obtain ⟨f_16, p_17, hP1, hK1, hD1⟩ := hB
                rw [ht] at hP1
                have hK1 := va_K.moved hvm.symm hK1
                obtain ⟨hP, hD⟩ := va_join (wr := [(s1, .inl (ks1, 40, .inl fcp)), (s2, .inl (ks2, 40, .inl fck))]) (w1 := [(h0, .inr (3, [x0, .ref s1, .ref s2, .ref s3, .int (nI qn), .int (nI rmx)])), (s3, .inl (ks3, 4, .inl f_16))]) hP hD [0, 3] [1, 2] rfl rfl (by decide) (by decide) hk1 hFc hP1 hD1
                have hK := (hK.sub (tys' := [(ks1, .int), (ks2, .int)]) [0, 1] rfl).app hK1
                clear hz1 hk1 hPc hDc hKc hFc
                generalize H1 = H at hP hS ⊢
                have hK : va_K (dC, dI) vwCl [(ks1, .int), (ks2, .int), (ks3, .int)] s := hK
                have hP : va_P (dC, dI) vwCl [(s1, .inl (ks1, 40, .inl fcp)), (s2, .inl (ks2, 40, .inl fck)), (h0, .inr (3, [x0, .ref s1, .ref s2, .ref s3, .int (nI qn), .int (nI rmx)])), (s3, .inl (ks3, 4, .inl f_16))] H := hP
                have hD : va_D A [(s1, .inl (ks1, 40, .inl fcp)), (s2, .inl (ks2, 40, .inl fck)), (h0, .inr (3, [x0, .ref s1, .ref s2, .ref s3, .int (nI qn), .int (nI rmx)])), (s3, .inl (ks3, 4, .inl f_16))] := hD
                refine lv_iinc (v := (nI (k + 1))) (lv' := [(4, .int (nI (k + 1))), (5, .int (nI (rmx - 1))), (3, .int (nI hn8)), (0, .ref h0), (1, .int n), (2, .int (nI sq))]) hx hb dX3_hitsBySize_112 hl (k := 1) rfl (nI_add k 1) (by decide) rfl (fun ls hl => ?_)
                refine lv_goto (tgt := 10) hx hb dX3_hitsBySize_115 (by decide) ?_
                exact ih_2 (k + 1) hn8 rmx f_16 (by omega) hrx (lc_old hlr c_5 hw_7 (by omega) p_17) (by omega) _ _ (hP.sub (ws' := [(h0, .inr (3, [x0, .ref s1, .ref s2, .ref s3, .int (nI qn), .int (nI rmx)])), (s1, .inl (ks1, 40, .inl fcp)), (s2, .inl (ks2, 40, .inl fck)), (s3, .inl (ks3, 4, .inl f_16))]) [2, 0, 1, 3] rfl) (hD.sub (ws' := [(h0, .inr (3, [x0, .ref s1, .ref s2, .ref s3, .int (nI qn), .int (nI rmx)])), (s1, .inl (ks1, 40, .inl fcp)), (s2, .inl (ks2, 40, .inl fck)), (s3, .inl (ks3, 4, .inl f_16))]) [2, 0, 1, 3] (by decide) rfl) hS ls (lv_sub hl [0, 2, 3, 4, 5] rfl)
              · have b_14 := gn_ge (X := ((rmx : Nat) : Int)) (C := 4) (nI_toInt (by omega)) (by decide) c_13
                refine lv_aload_n hx hb dX3_hitsBySize_75 rfl (lv_at hl 3 rfl) ?_
                refine lv_dup hx hb dX3_hitsBySize_76 rfl ?_
                refine va_get (D := (dC, dI)) (ci := 3) (v := .int (nI rmx)) (C := RX3) (T := TX3) (N := 6) hx hb hts inB_3 hown hK hP 0 rfl rfl 5 (by decide) (hts _ mw_1_154) (fun _ h9 => h9) rfl dX3_hitsBySize_77 ?_
                refine lv_dup_x1 hx hb dX3_hitsBySize_80 rfl rfl ?_
                refine lv_iconst (v := 1) hx hb dX3_hitsBySize_81 (by decide) ?_
                refine lv_iadd hx hb dX3_hitsBySize_82 ?_
                refine hx_top (y := (nI (rmx + 1))) (nI_add rmx 1) ?_
                refine va_put (D := (dC, dI)) (ci := 3) (v := .int (nI (rmx + 1))) (ty := .int) (C := RX3) (T := TX3) (N := 6) hx hb hts inB_3 tyX3 tyX3_ok nmX3 hown hK hP hD hS 0 rfl rfl 5 (by decide) (hts _ mw_1_154) (fun _ h9 => h9) rfl (by decide +kernel) rfl rfl (Nat.le_of_ble_eq_true rfl) dX3_hitsBySize_83 (fun H locs hP hD hS => ?_)
                have hP : va_P (dC, dI) vwCl [(h0, .inr (3, [x0, .ref s1, .ref s2, .ref s3, .int (nI qn), .int (nI (rmx + 1))])), (s1, .inl (ks1, 40, .inl fcp)), (s2, .inl (ks2, 40, .inl fck)), (s3, .inl (ks3, 4, .inl frx))] H := hP
                have hD : va_D A [(h0, .inr (3, [x0, .ref s1, .ref s2, .ref s3, .int (nI qn), .int (nI (rmx + 1))])), (s1, .inl (ks1, 40, .inl fcp)), (s2, .inl (ks2, 40, .inl fck)), (s3, .inl (ks3, 4, .inl frx))] := hD
                refine lv_istore (lv' := [(5, .int (nI rmx)), (4, .int (nI k)), (3, .int (nI hn8)), (0, .ref h0), (1, .int n), (2, .int (nI sq))]) hx hb dX3_hitsBySize_86 hl (by decide) rfl (fun ls hl => ?_)
                refine lv_goto (tgt := 99) hx hb dX3_hitsBySize_88 (by decide) ?_
                refine lv_aload_n hx hb dX3_hitsBySize_99 rfl (lv_at hl 3 rfl) ?_
                refine lv_aload_n hx hb dX3_hitsBySize_100 rfl (lv_at hl 3 rfl) ?_
                refine va_get (D := (dC, dI)) (ci := 3) (v := .ref s2) (C := RX3) (T := TX3) (N := 6) hx hb hts inB_3 hown hK hP 0 rfl rfl 2 (by decide) (hts _ mw_1_151) (fun _ h9 => h9) rfl dX3_hitsBySize_101 ?_
                refine lv_iload hx hb dX3_hitsBySize_104 (lv_at hl 1 rfl) ?_
                refine va_iald hx hb hK hP 2 1 rfl rfl (show vp_in (nI k) 40 from vp_in_nI (by omega) (by omega)) dX3_hitsBySize_106 ?_
                refine hx_top (y := (fck k)) (congrArg _ (nI_clamp (by omega))) ?_
                refine lv_iload hx hb dX3_hitsBySize_107 (lv_at hl 0 rfl) ?_
                have hPc := hP.sub (ws' := [(h0, .inr (3, [x0, .ref s1, .ref s2, .ref s3, .int (nI qn), .int (nI (rmx + 1))])), (s3, .inl (ks3, 4, .inl frx))]) [0, 3] rfl
                have hDc := hD.sub (ws' := [(h0, .inr (3, [x0, .ref s1, .ref s2, .ref s3, .int (nI qn), .int (nI (rmx + 1))])), (s3, .inl (ks3, 4, .inl frx))]) [0, 3] (by decide) rfl
                have hKc := hK.sub (tys' := [(ks3, .int)]) [2] rfl
                have hFc := va_free (wc := [(h0, .inr (3, [x0, .ref s1, .ref s2, .ref s3, .int (nI qn), .int (nI (rmx + 1))])), (s3, .inl (ks3, 4, .inl frx))]) hD hS hA [0, 3] rfl
                refine va_callv (va_runV (As := [.int (fck k), .int (nI rmx)]) (rest := []) ⟨hx, hb, hml, hown, hts⟩ (c_putF l dC dI H.size h0 (x0) (.ref s1) (.ref s2) s3 qn (rmx + 1) ks3 frx (fck k) rmx (by omega)) (cwV 2 hts (gV mw_3_135 mw_3_137 mw_0_13 mw_1_8 mw_3_138) rfl rfl rfl (by decide +kernel) ⟨Nat.le_of_ble_eq_true rfl, Nat.le_of_ble_eq_true rfl⟩) ⟨pcW_blind, va_recv hKc hPc (ci := 3) (q0 := 0) rfl rfl, pcW_at hPc hKc hDc hN⟩ rfl rfl hl.1 rfl (lv_room (Nat.le_of_ble_eq_true rfl)) dX3_hitsBySize_109 ⟨Nat.le_of_ble_eq_true rfl, Nat.le_of_ble_eq_true rfl⟩) hS (fun q _ h => hFc q h) hFc (fun u t H1 locs ht hvm hw_18 hB hz1 hk1 hS => ?_)
                obtain ⟨f_19, p_20, hP1, hK1, hD1⟩ := hB
                rw [ht] at hP1
                have hK1 := va_K.moved hvm.symm hK1
                obtain ⟨hP, hD⟩ := va_join (wr := [(s1, .inl (ks1, 40, .inl fcp)), (s2, .inl (ks2, 40, .inl fck))]) (w1 := [(h0, .inr (3, [x0, .ref s1, .ref s2, .ref s3, .int (nI qn), .int (nI (rmx + 1))])), (s3, .inl (ks3, 4, .inl f_19))]) hP hD [0, 3] [1, 2] rfl rfl (by decide) (by decide) hk1 hFc hP1 hD1
                have hK := (hK.sub (tys' := [(ks1, .int), (ks2, .int)]) [0, 1] rfl).app hK1
                clear hz1 hk1 hPc hDc hKc hFc
                generalize H1 = H at hP hS ⊢
                have hK : va_K (dC, dI) vwCl [(ks1, .int), (ks2, .int), (ks3, .int)] s := hK
                have hP : va_P (dC, dI) vwCl [(s1, .inl (ks1, 40, .inl fcp)), (s2, .inl (ks2, 40, .inl fck)), (h0, .inr (3, [x0, .ref s1, .ref s2, .ref s3, .int (nI qn), .int (nI (rmx + 1))])), (s3, .inl (ks3, 4, .inl f_19))] H := hP
                have hD : va_D A [(s1, .inl (ks1, 40, .inl fcp)), (s2, .inl (ks2, 40, .inl fck)), (h0, .inr (3, [x0, .ref s1, .ref s2, .ref s3, .int (nI qn), .int (nI (rmx + 1))])), (s3, .inl (ks3, 4, .inl f_19))] := hD
                refine lv_iinc (v := (nI (k + 1))) (lv' := [(4, .int (nI (k + 1))), (5, .int (nI rmx)), (3, .int (nI hn8)), (0, .ref h0), (1, .int n), (2, .int (nI sq))]) hx hb dX3_hitsBySize_112 hl (k := 1) rfl (nI_add k 1) (by decide) rfl (fun ls hl => ?_)
                refine lv_goto (tgt := 10) hx hb dX3_hitsBySize_115 (by decide) ?_
                exact ih_2 (k + 1) hn8 (rmx + 1) f_19 (by omega) (by omega) (lc_new hlr c_5 hw_7 (by omega) p_20) (by omega) _ _ (hP.sub (ws' := [(h0, .inr (3, [x0, .ref s1, .ref s2, .ref s3, .int (nI qn), .int (nI (rmx + 1))])), (s1, .inl (ks1, 40, .inl fcp)), (s2, .inl (ks2, 40, .inl fck)), (s3, .inl (ks3, 4, .inl f_19))]) [2, 0, 1, 3] rfl) (hD.sub (ws' := [(h0, .inr (3, [x0, .ref s1, .ref s2, .ref s3, .int (nI qn), .int (nI (rmx + 1))])), (s1, .inl (ks1, 40, .inl fcp)), (s2, .inl (ks2, 40, .inl fck)), (s3, .inl (ks3, 4, .inl f_19))]) [2, 0, 1, 3] (by decide) rfl) hS ls (lv_sub hl [0, 2, 3, 4, 5] rfl)
          · subst eq9
            refine lv_iload hx hb dX3_hitsBySize_46 (lv_at hl 0 rfl) ?_
            refine lv_bipush (v := (-6)) hx hb dX3_hitsBySize_48 (by decide) ?_
            refine lv_icmp_eq (tgt := 59) hx hb dX3_hitsBySize_50 (by decide) (fun h => absurd (gx_eq (X := ((q9 : Nat) : Int)) (C := (-6)) (nI_toInt (by omega)) (by decide) h) (by omega)) (fun c_21 => ?_)
            have b_22 := gn_eq (X := ((q9 : Nat) : Int)) (C := (-6)) (nI_toInt (by omega)) (by decide) c_21
            refine lv_iinc (v := (nI (hn8 + 1))) (lv' := [(3, .int (nI (hn8 + 1))), (5, .int (nI q9)), (4, .int (nI k)), (0, .ref h0), (1, .int n), (2, .int (nI sq))]) hx hb dX3_hitsBySize_53 hl (k := 2) rfl (nI_add hn8 1) (by decide) rfl (fun ls hl => ?_)
            refine lv_goto (tgt := 99) hx hb dX3_hitsBySize_56 (by decide) ?_
            refine lv_aload_n hx hb dX3_hitsBySize_99 rfl (lv_at hl 3 rfl) ?_
            refine lv_aload_n hx hb dX3_hitsBySize_100 rfl (lv_at hl 3 rfl) ?_
            refine va_get (D := (dC, dI)) (ci := 3) (v := .ref s2) (C := RX3) (T := TX3) (N := 6) hx hb hts inB_3 hown hK hP 0 rfl rfl 2 (by decide) (hts _ mw_1_151) (fun _ h9 => h9) rfl dX3_hitsBySize_101 ?_
            refine lv_iload hx hb dX3_hitsBySize_104 (lv_at hl 2 rfl) ?_
            refine va_iald hx hb hK hP 2 1 rfl rfl (show vp_in (nI k) 40 from vp_in_nI (by omega) (by omega)) dX3_hitsBySize_106 ?_
            refine hx_top (y := (fck k)) (congrArg _ (nI_clamp (by omega))) ?_
            refine lv_iload hx hb dX3_hitsBySize_107 (lv_at hl 1 rfl) ?_
            have hPc := hP.sub (ws' := [(h0, .inr (3, [x0, .ref s1, .ref s2, .ref s3, .int (nI qn), .int (nI rmx)])), (s3, .inl (ks3, 4, .inl frx))]) [0, 3] rfl
            have hDc := hD.sub (ws' := [(h0, .inr (3, [x0, .ref s1, .ref s2, .ref s3, .int (nI qn), .int (nI rmx)])), (s3, .inl (ks3, 4, .inl frx))]) [0, 3] (by decide) rfl
            have hKc := hK.sub (tys' := [(ks3, .int)]) [2] rfl
            have hFc := va_free (wc := [(h0, .inr (3, [x0, .ref s1, .ref s2, .ref s3, .int (nI qn), .int (nI rmx)])), (s3, .inl (ks3, 4, .inl frx))]) hD hS hA [0, 3] rfl
            refine va_callv (va_runV (As := [.int (fck k), .int (nI q9)]) (rest := []) ⟨hx, hb, hml, hown, hts⟩ (c_putF l dC dI H.size h0 (x0) (.ref s1) (.ref s2) s3 qn rmx ks3 frx (fck k) q9 (by omega)) (cwV 2 hts (gV mw_3_135 mw_3_137 mw_0_13 mw_1_8 mw_3_138) rfl rfl rfl (by decide +kernel) ⟨Nat.le_of_ble_eq_true rfl, Nat.le_of_ble_eq_true rfl⟩) ⟨pcW_blind, va_recv hKc hPc (ci := 3) (q0 := 0) rfl rfl, pcW_at hPc hKc hDc hN⟩ rfl rfl hl.1 rfl (lv_room (Nat.le_of_ble_eq_true rfl)) dX3_hitsBySize_109 ⟨Nat.le_of_ble_eq_true rfl, Nat.le_of_ble_eq_true rfl⟩) hS (fun q _ h => hFc q h) hFc (fun u t H1 locs ht hvm hw_23 hB hz1 hk1 hS => ?_)
            obtain ⟨f_24, p_25, hP1, hK1, hD1⟩ := hB
            rw [ht] at hP1
            have hK1 := va_K.moved hvm.symm hK1
            obtain ⟨hP, hD⟩ := va_join (wr := [(s1, .inl (ks1, 40, .inl fcp)), (s2, .inl (ks2, 40, .inl fck))]) (w1 := [(h0, .inr (3, [x0, .ref s1, .ref s2, .ref s3, .int (nI qn), .int (nI rmx)])), (s3, .inl (ks3, 4, .inl f_24))]) hP hD [0, 3] [1, 2] rfl rfl (by decide) (by decide) hk1 hFc hP1 hD1
            have hK := (hK.sub (tys' := [(ks1, .int), (ks2, .int)]) [0, 1] rfl).app hK1
            clear hz1 hk1 hPc hDc hKc hFc
            generalize H1 = H at hP hS ⊢
            have hK : va_K (dC, dI) vwCl [(ks1, .int), (ks2, .int), (ks3, .int)] s := hK
            have hP : va_P (dC, dI) vwCl [(s1, .inl (ks1, 40, .inl fcp)), (s2, .inl (ks2, 40, .inl fck)), (h0, .inr (3, [x0, .ref s1, .ref s2, .ref s3, .int (nI qn), .int (nI rmx)])), (s3, .inl (ks3, 4, .inl f_24))] H := hP
            have hD : va_D A [(s1, .inl (ks1, 40, .inl fcp)), (s2, .inl (ks2, 40, .inl fck)), (h0, .inr (3, [x0, .ref s1, .ref s2, .ref s3, .int (nI qn), .int (nI rmx)])), (s3, .inl (ks3, 4, .inl f_24))] := hD
            refine lv_iinc (v := (nI (k + 1))) (lv' := [(4, .int (nI (k + 1))), (3, .int (nI (hn8 + 1))), (5, .int (nI q9)), (0, .ref h0), (1, .int n), (2, .int (nI sq))]) hx hb dX3_hitsBySize_112 hl (k := 2) rfl (nI_add k 1) (by decide) rfl (fun ls hl => ?_)
            refine lv_goto (tgt := 10) hx hb dX3_hitsBySize_115 (by decide) ?_
            exact ih_2 (k + 1) (hn8 + 1) rmx f_24 (by omega) hrx (lc_hit hlr c_5 hw_7 (by omega) p_25) (by omega) _ _ (hP.sub (ws' := [(h0, .inr (3, [x0, .ref s1, .ref s2, .ref s3, .int (nI qn), .int (nI rmx)])), (s1, .inl (ks1, 40, .inl fcp)), (s2, .inl (ks2, 40, .inl fck)), (s3, .inl (ks3, 4, .inl f_24))]) [2, 0, 1, 3] rfl) (hD.sub (ws' := [(h0, .inr (3, [x0, .ref s1, .ref s2, .ref s3, .int (nI qn), .int (nI rmx)])), (s1, .inl (ks1, 40, .inl fcp)), (s2, .inl (ks2, 40, .inl fck)), (s3, .inl (ks3, 4, .inl f_24))]) [2, 0, 1, 3] (by decide) rfl) hS ls (lv_sub hl [0, 1, 3, 4, 5] rfl)
        · have b_6 := gn_eq (X := (Int32.toInt (fcp k))) (C := (Int32.toInt n)) rfl rfl c_5
          refine lv_goto (tgt := 112) hx hb dX3_hitsBySize_30 (by decide) ?_
          refine lv_iinc (v := (nI (k + 1))) (lv' := [(4, .int (nI (k + 1))), (3, .int (nI hn8)), (0, .ref h0), (1, .int n), (2, .int (nI sq))]) hx hb dX3_hitsBySize_112 hl (k := 0) rfl (nI_add k 1) (by decide) rfl (fun ls hl => ?_)
          refine lv_goto (tgt := 10) hx hb dX3_hitsBySize_115 (by decide) ?_
          exact ih_2 (k + 1) hn8 rmx frx (by omega) hrx (lc_skip hlr c_5) (by omega) _ _ hP hD hS ls (lv_sub hl [0, 1, 2, 3, 4] rfl)
  exact key_1 ((qn - 0) + 1) 0 0 0 frc (by omega) (by omega) rfl (Nat.lt_succ_self _) _ _ hP hD hS ls (lv_sub hl [0, 1, 2, 3, 4] rfl)
set_option maxHeartbeats 4000000 in
set_option maxRecDepth 100000 in
theorem c_longest (l : Launch) (dC : Nat → ClassId) (dI : Nat → Nat → Nat) (sz : Nat) (h0 : Nat) (x0 : Value) (s1 : Nat) (s2 : Nat) (x3 : Value) (qn : Nat) (rm : Nat) (ks1 : ClassId) (fcp : Nat → Int32) (ks2 : ClassId) (fck : Nat → Int32) (n : Int32) (v : Int32) (nw : Nat) (hqn : qn ≤ 40) (hnw : nw ≤ 40) : Met l yX3_longestUnused (wq yX3_longestUnused cX3_longestUnused 6 (some .int)) ({ frames := 1, cells := 0, slots := 0, locals := 21 }) (va_Pc [.ref h0, .int n, .int v, .int (nI nw)] (pcW dC dI [(ks1, .int), (ks2, .int)] [(h0, .inr (3, [x0, .ref s1, .ref s2, x3, .int (nI qn), .int (nI rm)])), (s1, .inl (ks1, 40, .inl fcp)), (s2, .inl (ks2, 40, .inl fck))] sz)) (va_Qi (fun (r : Int32) (_ : Unit) => r = tzF (luF fcp fck n (qn - (nw + 1)) (nw + 1) v)) (fun _ _ => True) (fun q : Nat => sz ≤ q)) 0 0 (fun q : Nat => sz ≤ q) := by
  refine Met.ofW (cc := cX3_longestUnused) (maxL := 6) (ret := (some .int)) (by decide) rfl ?_
  intro p e s m args below meth c s₁ B hml hv
  obtain ⟨rfl, hsz, hN, hP, hK, hD0⟩ := hv
  have hx := B.exec
  have hb := B.bytes
  have hr := B.returns
  have hts0 := atoms_spec (ws := (wq yX3_longestUnused cX3_longestUnused 6 (some .int))) B.pre
  have hts : ∀ w ∈ BG, w.before _ s = true := fun w h => hts0 w (List.mem_cons_of_mem _ h)
  have hown : s.vm.findClass RX3 = some m.cls := findClass_of_methodNamed B.named
  have hlocks := B.notSynchronized
  subst hsz
  have hA : ∀ q : Nat, s.heap.size ≤ q → (fun q : Nat => s.heap.size ≤ q) q := fun _ h => h
  have hD := hD0
  have hS : va_S (fun q : Nat => s.heap.size ≤ q) s.heap s.heap [] := va_S.rf
  have hP : va_P (dC, dI) vwCl [(h0, .inr (3, [x0, .ref s1, .ref s2, x3, .int (nI qn), .int (nI rm)])), (s1, .inl (ks1, 40, .inl fcp)), (s2, .inl (ks2, 40, .inl fck))] s.heap := hP
  have hl := lv_entry ([.ref h0, .int n, .int v, .int (nI nw)]) (n := 6) (Nat.le_of_ble_eq_true rfl)
  rw [lg_entry_eq]
  generalize (lg_sl ([.ref h0, .int n, .int v, .int (nI nw)]) ++ List.replicate (6 - (lg_sl ([.ref h0, .int n, .int v, .int (nI nw)])).length) Slot.unset).toArray = ls at hl ⊢
  have hl : lv_has ls 6 [(0, .ref h0), (1, .int n), (2, .int v), (3, .int (nI nw))] := hl
  refine lv_iload_n hx hb dX3_longestUnused_0 rfl (lv_at hl 2 rfl) ?_
  refine lv_istore (lv' := [(4, .int v), (0, .ref h0), (1, .int n), (2, .int v), (3, .int (nI nw))]) hx hb dX3_longestUnused_1 hl (by decide) rfl (fun ls hl => ?_)
  refine lv_iload_n hx hb dX3_longestUnused_3 rfl (lv_at hl 4 rfl) ?_
  refine lv_iconst (v := 1) hx hb dX3_longestUnused_4 (by decide) ?_
  refine lv_iadd hx hb dX3_longestUnused_5 ?_
  refine hx_top (y := (nI (nw + 1))) (nI_add nw 1) ?_
  refine lv_istore (lv' := [(5, .int (nI (nw + 1))), (4, .int v), (0, .ref h0), (1, .int n), (2, .int v), (3, .int (nI nw))]) hx hb dX3_longestUnused_6 hl (by decide) rfl (fun ls hl => ?_)
  have key_1 : ∀ (fu : Nat) (k : Nat) (ac : Int32), (k ≤ 41) → (luF fcp fck n (qn - k) k ac = luF fcp fck n (qn - (nw + 1)) (nw + 1) v) → 41 - k < fu → ∀ (H : Heap) (locs : List Loc), va_P (dC, dI) vwCl [(h0, .inr (3, [x0, .ref s1, .ref s2, x3, .int (nI qn), .int (nI rm)])), (s1, .inl (ks1, 40, .inl fcp)), (s2, .inl (ks2, 40, .inl fck))] H → va_S (fun q : Nat => s.heap.size ≤ q) s.heap H locs → ∀ (ls : Array Slot), lv_has ls 6 [(5, .int (nI k)), (4, .int ac), (0, .ref h0), (1, .int n), (2, .int v), (3, .int (nI nw))] → W p l e (headSpec (wq yX3_longestUnused cX3_longestUnused 6 (some .int)) ({ frames := 1, cells := 0, slots := 0, locals := 21 })).room s m (([.ref h0, .int n, .int v, .int (nI nw)] : List Value)).toArray below meth c H locs 0 0 (MQ below (va_Qi (fun (r : Int32) (_ : Unit) => r = tzF (luF fcp fck n (qn - (nw + 1)) (nw + 1) v)) (fun _ _ => True) (fun q : Nat => s.heap.size ≤ q)) (([.ref h0, .int n, .int v, .int (nI nw)] : List Value)).toArray s 0 0 (fun q : Nat => s.heap.size ≤ q)) (F0 m 8 ls []) := by
    intro fu
    induction fu with
    | zero => intro k ac hk hlu hme; exact absurd hme (Nat.not_lt_zero _)
    | succ fu ih_2 =>
      intro k ac hk hlu hme H locs hP hS ls hl
      refine lv_iload hx hb dX3_longestUnused_8 (lv_at hl 0 rfl) ?_
      refine lv_aload_n hx hb dX3_longestUnused_10 rfl (lv_at hl 2 rfl) ?_
      refine va_get (D := (dC, dI)) (ci := 3) (v := .int (nI qn)) (C := RX3) (T := TX3) (N := 6) hx hb hts inB_3 hown hK hP 0 rfl rfl 4 (by decide) (hts _ mw_1_153) (fun _ h9 => h9) rfl dX3_longestUnused_11 ?_
      refine lv_icmp_ge (tgt := 59) hx hb dX3_longestUnused_14 (by decide) (fun c_3 => ?_) (fun c_3 => ?_)
      · have b_4 := gx_ge (X := ((k : Nat) : Int)) (C := ((qn : Nat) : Int)) (nI_toInt (by omega)) (nI_toInt (by omega)) c_3
        refine lv_iload hx hb dX3_longestUnused_59 (lv_at hl 1 rfl) ?_
        have hPc := hP.sub (ws' := []) [] rfl
        have hDc := hD.sub (ws' := []) [] (by decide) rfl
        have hKc := hK.sub (tys' := []) [] rfl
        refine va_calli (va_runS (As := [.int ac]) (rest := []) ⟨hx, hb, hml, hown, hts⟩ (c_ntz l dC dI H.size ac ) (va_cwS 1 hts (gS mw_3_149 mw_3_150 mw_1_12 mw_3_151) rfl rfl rfl (by decide +kernel) ⟨Nat.le_of_ble_eq_true rfl, Nat.le_of_ble_eq_true rfl⟩) ⟨pcW_blind, pcW_at hPc hKc hDc hN⟩ rfl rfl hl.1 rfl (lv_room (Nat.le_of_ble_eq_true rfl)) dX3_longestUnused_61 ⟨Nat.le_of_ble_eq_true rfl, Nat.le_of_ble_eq_true rfl⟩) hS (fun q h1 h2 => absurd h2 (Nat.not_le.mpr h1)) (fun q h => hA q (Nat.le_trans hS.1 h)) (fun r_5 u t H1 locs ht hvm hw_5 hB hz1 hk1 hS => ?_)
        have hP := keepP hP hk1
        clear hz1 hk1 hB ht hvm hPc hDc hKc
        generalize H1 = H at hP hS ⊢
        exact W.iret (v := r_5) hx hb hr (fun t ht hW => ⟨⟨r_5, (), rfl, (hw_5.trans (congrArg tzF ((lu_end (Or.inl (by omega))).symm.trans hlu))), trivial⟩, hS.F ht⟩) hS.2.2 dX3_longestUnused_64
      · have b_4 := gn_ge (X := ((k : Nat) : Int)) (C := ((qn : Nat) : Int)) (nI_toInt (by omega)) (nI_toInt (by omega)) c_3
        refine lv_iload hx hb dX3_longestUnused_17 (lv_at hl 1 rfl) ?_
        have hPc := hP.sub (ws' := []) [] rfl
        have hDc := hD.sub (ws' := []) [] (by decide) rfl
        have hKc := hK.sub (tys' := []) [] rfl
        refine va_calli (va_runS (As := [.int ac]) (rest := []) ⟨hx, hb, hml, hown, hts⟩ (c_bit l dC dI H.size ac ) (va_cwS 1 hts (gS mw_3_144 mw_2_218 mw_1_12 mw_2_219) rfl rfl rfl (by decide +kernel) ⟨Nat.le_of_ble_eq_true rfl, Nat.le_of_ble_eq_true rfl⟩) ⟨pcW_blind, pcW_at hPc hKc hDc hN⟩ rfl rfl hl.1 rfl (lv_room (Nat.le_of_ble_eq_true rfl)) dX3_longestUnused_19 ⟨Nat.le_of_ble_eq_true rfl, Nat.le_of_ble_eq_true rfl⟩) hS (fun q h1 h2 => absurd h2 (Nat.not_le.mpr h1)) (fun q h => hA q (Nat.le_trans hS.1 h)) (fun r_6 u t H1 locs ht hvm hw_6 hB hz1 hk1 hS => ?_)
        have hP := keepP hP hk1
        clear hz1 hk1 hB ht hvm hPc hDc hKc
        generalize H1 = H at hP hS ⊢
        obtain rfl : r_6 = (bcF ac) := hw_6
        refine lv_iconst (v := 1) hx hb dX3_longestUnused_22 (by decide) ?_
        refine lv_icmp_le (tgt := 59) hx hb dX3_longestUnused_23 (by decide) (fun c_7 => ?_) (fun c_7 => ?_)
        · have b_8 := gx_le (X := (Int32.toInt (bcF ac))) (C := 1) rfl (by decide) c_7
          refine lv_iload hx hb dX3_longestUnused_59 (lv_at hl 1 rfl) ?_
          have hPc := hP.sub (ws' := []) [] rfl
          have hDc := hD.sub (ws' := []) [] (by decide) rfl
          have hKc := hK.sub (tys' := []) [] rfl
          refine va_calli (va_runS (As := [.int ac]) (rest := []) ⟨hx, hb, hml, hown, hts⟩ (c_ntz l dC dI H.size ac ) (va_cwS 1 hts (gS mw_3_149 mw_3_150 mw_1_12 mw_3_151) rfl rfl rfl (by decide +kernel) ⟨Nat.le_of_ble_eq_true rfl, Nat.le_of_ble_eq_true rfl⟩) ⟨pcW_blind, pcW_at hPc hKc hDc hN⟩ rfl rfl hl.1 rfl (lv_room (Nat.le_of_ble_eq_true rfl)) dX3_longestUnused_61 ⟨Nat.le_of_ble_eq_true rfl, Nat.le_of_ble_eq_true rfl⟩) hS (fun q h1 h2 => absurd h2 (Nat.not_le.mpr h1)) (fun q h => hA q (Nat.le_trans hS.1 h)) (fun r_9 u t H1 locs ht hvm hw_9 hB hz1 hk1 hS => ?_)
          have hP := keepP hP hk1
          clear hz1 hk1 hB ht hvm hPc hDc hKc
          generalize H1 = H at hP hS ⊢
          exact W.iret (v := r_9) hx hb hr (fun t ht hW => ⟨⟨r_9, (), rfl, (hw_9.trans (congrArg tzF ((lu_end (Or.inr (by omega))).symm.trans hlu))), trivial⟩, hS.F ht⟩) hS.2.2 dX3_longestUnused_64
        · have b_8 := gn_le (X := (Int32.toInt (bcF ac))) (C := 1) rfl (by decide) c_7
          refine lv_aload_n hx hb dX3_longestUnused_26 rfl (lv_at hl 2 rfl) ?_
          refine va_get (D := (dC, dI)) (ci := 3) (v := .ref s1) (C := RX3) (T := TX3) (N := 6) hx hb hts inB_3 hown hK hP 0 rfl rfl 1 (by decide) (hts _ mw_1_150) (fun _ h9 => h9) rfl dX3_longestUnused_27 ?_
          refine lv_iload hx hb dX3_longestUnused_30 (lv_at hl 0 rfl) ?_
          refine va_iald hx hb hK hP 1 0 rfl rfl (show vp_in (nI k) 40 from vp_in_nI (by omega) (by omega)) dX3_longestUnused_32 ?_
          refine hx_top (y := (fcp k)) (congrArg _ (nI_clamp (by omega))) ?_
          refine lv_iload_n hx hb dX3_longestUnused_33 rfl (lv_at hl 3 rfl) ?_
          refine lv_icmp_ne (tgt := 53) hx hb dX3_longestUnused_34 (by decide) (fun c_10 => ?_) (fun c_10 => ?_)
          · have b_11 := gx_ne (X := (Int32.toInt (fcp k))) (C := (Int32.toInt n)) rfl rfl c_10
            refine lv_iinc (v := (nI (k + 1))) (lv' := [(5, .int (nI (k + 1))), (4, .int ac), (0, .ref h0), (1, .int n), (2, .int v), (3, .int (nI nw))]) hx hb dX3_longestUnused_53 hl (k := 0) rfl (nI_add k 1) (by decide) rfl (fun ls hl => ?_)
            refine lv_goto (tgt := 8) hx hb dX3_longestUnused_56 (by decide) ?_
            exact ih_2 (k + 1) ac (by omega) ((lu_no (by omega) (by omega) c_10).symm.trans hlu) (by omega) _ _ hP hS ls (lv_sub hl [0, 1, 2, 3, 4, 5] rfl)
          · have b_11 := gn_ne (X := (Int32.toInt (fcp k))) (C := (Int32.toInt n)) rfl rfl c_10
            refine lv_iload hx hb dX3_longestUnused_37 (lv_at hl 1 rfl) ?_
            refine lv_iconst (v := 1) hx hb dX3_longestUnused_39 (by decide) ?_
            refine lv_aload_n hx hb dX3_longestUnused_40 rfl (lv_at hl 2 rfl) ?_
            refine va_get (D := (dC, dI)) (ci := 3) (v := .ref s2) (C := RX3) (T := TX3) (N := 6) hx hb hts inB_3 hown hK hP 0 rfl rfl 2 (by decide) (hts _ mw_1_151) (fun _ h9 => h9) rfl dX3_longestUnused_41 ?_
            refine lv_iload hx hb dX3_longestUnused_44 (lv_at hl 0 rfl) ?_
            refine va_iald hx hb hK hP 2 1 rfl rfl (show vp_in (nI k) 40 from vp_in_nI (by omega) (by omega)) dX3_longestUnused_46 ?_
            refine hx_top (y := (fck k)) (congrArg _ (nI_clamp (by omega))) ?_
            refine lv_ishl hx hb dX3_longestUnused_47 ?_
            refine lv_iconst (v := (-1)) hx hb dX3_longestUnused_48 (by decide) ?_
            refine lv_ixor hx hb dX3_longestUnused_49 ?_
            refine lv_iand hx hb dX3_longestUnused_50 ?_
            refine lv_topi (fun z_12 ez_12 => ?_)
            refine lv_istore (lv' := [(4, .int z_12), (5, .int (nI k)), (0, .ref h0), (1, .int n), (2, .int v), (3, .int (nI nw))]) hx hb dX3_longestUnused_51 hl (by decide) rfl (fun ls hl => ?_)
            refine lv_iinc (v := (nI (k + 1))) (lv' := [(5, .int (nI (k + 1))), (4, .int z_12), (0, .ref h0), (1, .int n), (2, .int v), (3, .int (nI nw))]) hx hb dX3_longestUnused_53 hl (k := 1) rfl (nI_add k 1) (by decide) rfl (fun ls hl => ?_)
            refine lv_goto (tgt := 8) hx hb dX3_longestUnused_56 (by decide) ?_
            exact ih_2 (k + 1) z_12 (by omega) (by rw [ez_12]; exact (lu_yes (by omega) (by omega) c_10).symm.trans hlu) (by omega) _ _ hP hS ls (lv_sub hl [0, 1, 2, 3, 4, 5] rfl)
  exact key_1 ((41 - (nw + 1)) + 1) (nw + 1) v (by omega) rfl (Nat.lt_succ_self _) _ _ hP hS ls (lv_sub hl [0, 1, 2, 3, 4, 5] rfl)
set_option maxHeartbeats 4000000 in
set_option maxRecDepth 100000 in
theorem c_best (l : Launch) (dC : Nat → ClassId) (dI : Nat → Nat → Nat) (sz : Nat) (h0 : Nat) (s0 : Nat) (s1 : Nat) (s2 : Nat) (x3 : Value) (qn : Nat) (rm : Nat) (ks1 : ClassId) (fcp : Nat → Int32) (ks2 : ClassId) (fck : Nat → Int32) (ks0 : ClassId) (fsz : Nat → Int32) (pl : Nat) (hqn : qn ≤ 40) (hpl : pl < 4) (hsz : SzOk fsz) (hck : ∀ i, i < qn → ∃ q : Nat, q < 10 ∧ fck i = nI q) : Met l yX3_bestHits (wq yX3_bestHits cX3_bestHits 6 (some .int)) ({ frames := 2, cells := 0, slots := 0, locals := 46 }) (va_Pc [.ref h0, .int (nI pl)] (pcW dC dI [(ks1, .int), (ks2, .int), (ks0, .int)] [(h0, .inr (3, [.ref s0, .ref s1, .ref s2, x3, .int (nI qn), .int (nI rm)])), (s1, .inl (ks1, 40, .inl fcp)), (s2, .inl (ks2, 40, .inl fck)), (s0, .inl (ks0, 4, .inl fsz))] sz)) (va_Qi (fun (r : Int32) (_ : Unit) => r = nI ((bsC fcp fck (nI pl) (fsz pl).toNatClampNeg qn qn).2)) (fun _ _ => True) (fun q : Nat => sz ≤ q)) 0 0 (fun q : Nat => sz ≤ q) := by
  refine Met.ofW (cc := cX3_bestHits) (maxL := 6) (ret := (some .int)) (by decide) rfl ?_
  intro p e s m args below meth c s₁ B hml hv
  obtain ⟨rfl, hsz, hN, hP, hK, hD0⟩ := hv
  have hx := B.exec
  have hb := B.bytes
  have hr := B.returns
  have hts0 := atoms_spec (ws := (wq yX3_bestHits cX3_bestHits 6 (some .int))) B.pre
  have hts : ∀ w ∈ BG, w.before _ s = true := fun w h => hts0 w (List.mem_cons_of_mem _ h)
  have hown : s.vm.findClass RX3 = some m.cls := findClass_of_methodNamed B.named
  have hlocks := B.notSynchronized
  subst hsz
  have hA : ∀ q : Nat, s.heap.size ≤ q → (fun q : Nat => s.heap.size ≤ q) q := fun _ h => h
  have hD := hD0
  have hS : va_S (fun q : Nat => s.heap.size ≤ q) s.heap s.heap [] := va_S.rf
  have hP : va_P (dC, dI) vwCl [(h0, .inr (3, [.ref s0, .ref s1, .ref s2, x3, .int (nI qn), .int (nI rm)])), (s1, .inl (ks1, 40, .inl fcp)), (s2, .inl (ks2, 40, .inl fck)), (s0, .inl (ks0, 4, .inl fsz))] s.heap := hP
  have hl := lv_entry ([.ref h0, .int (nI pl)]) (n := 6) (Nat.le_of_ble_eq_true rfl)
  rw [lg_entry_eq]
  generalize (lg_sl ([.ref h0, .int (nI pl)]) ++ List.replicate (6 - (lg_sl ([.ref h0, .int (nI pl)])).length) Slot.unset).toArray = ls at hl ⊢
  have hl : lv_has ls 6 [(0, .ref h0), (1, .int (nI pl))] := hl
  refine lv_aload_n hx hb dX3_bestHits_0 rfl (lv_at hl 0 rfl) ?_
  refine lv_iload_n hx hb dX3_bestHits_1 rfl (lv_at hl 1 rfl) ?_
  have hPc := hP.sub (ws' := [(h0, .inr (3, [.ref s0, .ref s1, .ref s2, x3, .int (nI qn), .int (nI rm)])), (s0, .inl (ks0, 4, .inl fsz))]) [0, 3] rfl
  have hDc := hD.sub (ws' := [(h0, .inr (3, [.ref s0, .ref s1, .ref s2, x3, .int (nI qn), .int (nI rm)])), (s0, .inl (ks0, 4, .inl fsz))]) [0, 3] (by decide) rfl
  have hKc := hK.sub (tys' := [(ks0, .int)]) [2] rfl
  refine va_calli (va_runV (As := [.int (nI pl)]) (rest := []) ⟨hx, hb, hml, hown, hts⟩ (c_sizeOf l dC dI s.heap.size h0 s0 (.ref s1) (.ref s2) (x3) qn rm ks0 fsz pl hpl) (cwV 1 hts (gV mw_3_113 mw_3_114 mw_3_115 mw_1_8 mw_3_116) rfl rfl rfl (by decide +kernel) ⟨Nat.le_of_ble_eq_true rfl, Nat.le_of_ble_eq_true rfl⟩) ⟨pcW_blind, va_recv hKc hPc (ci := 3) (q0 := 0) rfl rfl, pcW_at hPc hKc hDc hN⟩ rfl rfl hl.1 rfl (lv_room (Nat.le_of_ble_eq_true rfl)) dX3_bestHits_2 ⟨Nat.le_of_ble_eq_true rfl, Nat.le_of_ble_eq_true rfl⟩) hS (fun q h1 h2 => absurd h2 (Nat.not_le.mpr h1)) (fun q h => hA q (Nat.le_trans hS.1 h)) (fun r_1 u t H1 locs ht hvm hw_1 hB hz1 hk1 hS => ?_)
  have hP := keepP hP hk1
  clear hz1 hk1 hB ht hvm hPc hDc hKc
  generalize H1 = H at hP hS ⊢
  obtain rfl : r_1 = (fsz pl) := hw_1
  obtain ⟨n_2, hn_2, en_2⟩ := hsz pl (by omega)
  refine hx_top (y := (nI n_2)) en_2 ?_
  have cn_2 : (fsz pl).toNatClampNeg = n_2 := (by rw [en_2, nI_clamp (by omega)])
  refine lv_istore_n (lv' := [(2, .int (nI n_2)), (0, .ref h0), (1, .int (nI pl))]) hx hb dX3_bestHits_5 rfl hl (by decide) rfl (fun ls hl => ?_)
  refine lv_iconst (v := 0) hx hb dX3_bestHits_6 (by decide) ?_
  refine lv_istore_n (lv' := [(3, .int 0), (2, .int (nI n_2)), (0, .ref h0), (1, .int (nI pl))]) hx hb dX3_bestHits_7 rfl hl (by decide) rfl (fun ls hl => ?_)
  refine lv_iconst (v := 0) hx hb dX3_bestHits_8 (by decide) ?_
  refine lv_istore (lv' := [(4, .int 0), (3, .int 0), (2, .int (nI n_2)), (0, .ref h0), (1, .int (nI pl))]) hx hb dX3_bestHits_9 hl (by decide) rfl (fun ls hl => ?_)
  refine lv_iconst (v := 0) hx hb dX3_bestHits_11 (by decide) ?_
  refine lv_istore (lv' := [(5, .int 0), (4, .int 0), (3, .int 0), (2, .int (nI n_2)), (0, .ref h0), (1, .int (nI pl))]) hx hb dX3_bestHits_12 hl (by decide) rfl (fun ls hl => ?_)
  have key_3 : ∀ (fu : Nat) (k : Nat) (kp : Int32) (hn8 : Nat), (k ≤ qn) → ((kp, hn8) = bsC fcp fck (nI pl) (fsz pl).toNatClampNeg qn k) → (hn8 ≤ k) → qn - k < fu → ∀ (H : Heap) (locs : List Loc), va_P (dC, dI) vwCl [(h0, .inr (3, [.ref s0, .ref s1, .ref s2, x3, .int (nI qn), .int (nI rm)])), (s1, .inl (ks1, 40, .inl fcp)), (s2, .inl (ks2, 40, .inl fck)), (s0, .inl (ks0, 4, .inl fsz))] H → va_S (fun q : Nat => s.heap.size ≤ q) s.heap H locs → ∀ (ls : Array Slot), lv_has ls 6 [(5, .int (nI k)), (4, .int (nI hn8)), (3, .int kp), (2, .int (nI n_2)), (0, .ref h0), (1, .int (nI pl))] → W p l e (headSpec (wq yX3_bestHits cX3_bestHits 6 (some .int)) ({ frames := 2, cells := 0, slots := 0, locals := 46 })).room s m (([.ref h0, .int (nI pl)] : List Value)).toArray below meth c H locs 0 0 (MQ below (va_Qi (fun (r : Int32) (_ : Unit) => r = nI ((bsC fcp fck (nI pl) (fsz pl).toNatClampNeg qn qn).2)) (fun _ _ => True) (fun q : Nat => s.heap.size ≤ q)) (([.ref h0, .int (nI pl)] : List Value)).toArray s 0 0 (fun q : Nat => s.heap.size ≤ q)) (F0 m 14 ls []) := by
    intro fu
    induction fu with
    | zero => intro k kp hn8 hk hbs9 hh8 hme; exact absurd hme (Nat.not_lt_zero _)
    | succ fu ih_4 =>
      intro k kp hn8 hk hbs9 hh8 hme H locs hP hS ls hl
      refine lv_iload hx hb dX3_bestHits_14 (lv_at hl 0 rfl) ?_
      refine lv_aload_n hx hb dX3_bestHits_16 rfl (lv_at hl 4 rfl) ?_
      refine va_get (D := (dC, dI)) (ci := 3) (v := .int (nI qn)) (C := RX3) (T := TX3) (N := 6) hx hb hts inB_3 hown hK hP 0 rfl rfl 4 (by decide) (hts _ mw_1_153) (fun _ h9 => h9) rfl dX3_bestHits_17 ?_
      refine lv_icmp_ge (tgt := 98) hx hb dX3_bestHits_20 (by decide) (fun c_5 => ?_) (fun c_5 => ?_)
      · have b_6 := gx_ge (X := ((k : Nat) : Int)) (C := ((qn : Nat) : Int)) (nI_toInt (by omega)) (nI_toInt (by omega)) c_5
        refine lv_iload hx hb dX3_bestHits_98 (lv_at hl 1 rfl) ?_
        exact W.iret (v := (nI hn8)) hx hb hr (fun t ht hW => ⟨⟨(nI hn8), (), rfl, (congrArg nI (by have q := congrArg (fun x => x.2) hbs9; rw [show k = qn from (by omega)] at q; exact q)), trivial⟩, hS.F ht⟩) hS.2.2 dX3_bestHits_100
      · have b_6 := gn_ge (X := ((k : Nat) : Int)) (C := ((qn : Nat) : Int)) (nI_toInt (by omega)) (nI_toInt (by omega)) c_5
        refine lv_aload_n hx hb dX3_bestHits_23 rfl (lv_at hl 4 rfl) ?_
        refine va_get (D := (dC, dI)) (ci := 3) (v := .ref s1) (C := RX3) (T := TX3) (N := 6) hx hb hts inB_3 hown hK hP 0 rfl rfl 1 (by decide) (hts _ mw_1_150) (fun _ h9 => h9) rfl dX3_bestHits_24 ?_
        refine lv_iload hx hb dX3_bestHits_27 (lv_at hl 0 rfl) ?_
        refine va_iald hx hb hK hP 1 0 rfl rfl (show vp_in (nI k) 40 from vp_in_nI (by omega) (by omega)) dX3_bestHits_29 ?_
        refine hx_top (y := (fcp k)) (congrArg _ (nI_clamp (by omega))) ?_
        refine lv_iload_n hx hb dX3_bestHits_30 rfl (lv_at hl 5 rfl) ?_
        refine lv_icmp_eq (tgt := 37) hx hb dX3_bestHits_31 (by decide) (fun c_7 => ?_) (fun c_7 => ?_)
        · have b_8 := gx_eq (X := (Int32.toInt (fcp k))) (C := ((pl : Nat) : Int)) rfl (nI_toInt (by omega)) c_7
          refine lv_aload_n hx hb dX3_bestHits_37 rfl (lv_at hl 4 rfl) ?_
          refine va_get (D := (dC, dI)) (ci := 3) (v := .ref s2) (C := RX3) (T := TX3) (N := 6) hx hb hts inB_3 hown hK hP 0 rfl rfl 2 (by decide) (hts _ mw_1_151) (fun _ h9 => h9) rfl dX3_bestHits_38 ?_
          refine lv_iload hx hb dX3_bestHits_41 (lv_at hl 0 rfl) ?_
          refine va_iald hx hb hK hP 2 1 rfl rfl (show vp_in (nI k) 40 from vp_in_nI (by omega) (by omega)) dX3_bestHits_43 ?_
          refine hx_top (y := (fck k)) (congrArg _ (nI_clamp (by omega))) ?_
          obtain ⟨n_9, hn_9, en_9⟩ := hck k (by omega)
          refine hx_top (y := (nI n_9)) en_9 ?_
          refine lv_iload_n hx hb dX3_bestHits_44 rfl (lv_at hl 2 rfl) ?_
          have hPc := hP.sub (ws' := []) [] rfl
          have hDc := hD.sub (ws' := []) [] (by decide) rfl
          have hKc := hK.sub (tys' := []) [] rfl
          refine va_calli (va_runSN (As := [.int (nI n_9), .int kp]) (rest := []) ⟨hx, hb, hml, hown, hts⟩ (c_isIn l dC dI H.size (nI n_9) kp ) ⟨va_cnB 2 hts (gN mw_2_15) rfl rfl rfl (hN (RX3, 50, yX8_isIn, RX8) (List.mem_of_getElem? (i := 14) rfl)) (hts _ mw_1_1) (by decide +kernel) ⟨Nat.le_of_ble_eq_true rfl, Nat.le_of_ble_eq_true rfl⟩, (hts _ mw_2_14), trivial⟩ ⟨pcW_blind, pcW_at hPc hKc hDc hN⟩ rfl rfl hl.1 rfl (lv_room (Nat.le_of_ble_eq_true rfl)) dX3_bestHits_45 ⟨Nat.le_of_ble_eq_true rfl, Nat.le_of_ble_eq_true rfl⟩) hS (fun q h1 h2 => absurd h2 (Nat.not_le.mpr h1)) (fun q h => hA q (Nat.le_trans hS.1 h)) (fun r_10 u t H1 locs ht hvm hw_10 hB hz1 hk1 hS => ?_)
          have hP := keepP hP hk1
          clear hz1 hk1 hB ht hvm hPc hDc hKc
          generalize H1 = H at hP hS ⊢
          rcases fx_bool hw_10 with ⟨rfl, b_11⟩ | ⟨rfl, b_11⟩
          · skip
            refine lv_if_eq (tgt := 57) hx hb dX3_bestHits_48 (by decide) (fun h => absurd h (by decide)) (fun _ => ?_)
            refine lv_iinc (v := (nI (hn8 + 1))) (lv' := [(4, .int (nI (hn8 + 1))), (5, .int (nI k)), (3, .int kp), (2, .int (nI n_2)), (0, .ref h0), (1, .int (nI pl))]) hx hb dX3_bestHits_51 hl (k := 1) rfl (nI_add hn8 1) (by decide) rfl (fun ls hl => ?_)
            refine lv_goto (tgt := 92) hx hb dX3_bestHits_54 (by decide) ?_
            refine lv_iinc (v := (nI (k + 1))) (lv' := [(5, .int (nI (k + 1))), (4, .int (nI (hn8 + 1))), (3, .int kp), (2, .int (nI n_2)), (0, .ref h0), (1, .int (nI pl))]) hx hb dX3_bestHits_92 hl (k := 1) rfl (nI_add k 1) (by decide) rfl (fun ls hl => ?_)
            refine lv_goto (tgt := 14) hx hb dX3_bestHits_95 (by decide) ?_
            exact ih_4 (k + 1) kp (hn8 + 1) (by omega) (bc_hit hbs9 c_7 (by rw [en_9, nI_clamp (by omega)]; exact t_yes (by omega) b_11)) (by omega) (by omega) _ _ hP hS ls (lv_sub hl [0, 1, 2, 3, 4, 5] rfl)
          · skip
            refine lv_if_eq (tgt := 57) hx hb dX3_bestHits_48 (by decide) (fun _ => ?_) (fun h => absurd (by decide) h)
            refine lv_iload_n hx hb dX3_bestHits_57 rfl (lv_at hl 2 rfl) ?_
            have hPc := hP.sub (ws' := []) [] rfl
            have hDc := hD.sub (ws' := []) [] (by decide) rfl
            have hKc := hK.sub (tys' := []) [] rfl
            refine va_calli (va_runS (As := [.int kp]) (rest := []) ⟨hx, hb, hml, hown, hts⟩ (c_bit l dC dI H.size kp ) (va_cwS 1 hts (gS mw_3_144 mw_2_218 mw_1_12 mw_2_219) rfl rfl rfl (by decide +kernel) ⟨Nat.le_of_ble_eq_true rfl, Nat.le_of_ble_eq_true rfl⟩) ⟨pcW_blind, pcW_at hPc hKc hDc hN⟩ rfl rfl hl.1 rfl (lv_room (Nat.le_of_ble_eq_true rfl)) dX3_bestHits_58 ⟨Nat.le_of_ble_eq_true rfl, Nat.le_of_ble_eq_true rfl⟩) hS (fun q h1 h2 => absurd h2 (Nat.not_le.mpr h1)) (fun q h => hA q (Nat.le_trans hS.1 h)) (fun r_12 u t H1 locs ht hvm hw_12 hB hz1 hk1 hS => ?_)
            have hP := keepP hP hk1
            clear hz1 hk1 hB ht hvm hPc hDc hKc
            generalize H1 = H at hP hS ⊢
            obtain rfl : r_12 = (bcF kp) := hw_12
            refine lv_iload_n hx hb dX3_bestHits_61 rfl (lv_at hl 3 rfl) ?_
            refine lv_icmp_lt (tgt := 80) hx hb dX3_bestHits_62 (by decide) (fun c_13 => ?_) (fun c_13 => ?_)
            · have b_14 := gx_lt (X := (Int32.toInt (bcF kp))) (C := ((n_2 : Nat) : Int)) rfl (nI_toInt (by omega)) c_13
              refine lv_iload_n hx hb dX3_bestHits_80 rfl (lv_at hl 2 rfl) ?_
              refine lv_iconst (v := 1) hx hb dX3_bestHits_81 (by decide) ?_
              refine lv_aload_n hx hb dX3_bestHits_82 rfl (lv_at hl 4 rfl) ?_
              refine va_get (D := (dC, dI)) (ci := 3) (v := .ref s2) (C := RX3) (T := TX3) (N := 6) hx hb hts inB_3 hown hK hP 0 rfl rfl 2 (by decide) (hts _ mw_1_151) (fun _ h9 => h9) rfl dX3_bestHits_83 ?_
              refine lv_iload hx hb dX3_bestHits_86 (lv_at hl 0 rfl) ?_
              refine va_iald hx hb hK hP 2 1 rfl rfl (show vp_in (nI k) 40 from vp_in_nI (by omega) (by omega)) dX3_bestHits_88 ?_
              refine hx_top (y := (fck k)) (congrArg _ (nI_clamp (by omega))) ?_
              refine hx_top (y := (nI n_9)) en_9 ?_
              refine lv_ishl hx hb dX3_bestHits_89 ?_
              refine lv_ior hx hb dX3_bestHits_90 ?_
              refine lv_istore_n (lv' := [(3, .int (kp ||| (1 <<< ((nI n_9) &&& 31)))), (5, .int (nI k)), (4, .int (nI hn8)), (2, .int (nI n_2)), (0, .ref h0), (1, .int (nI pl))]) hx hb dX3_bestHits_91 rfl hl (by decide) rfl (fun ls hl => ?_)
              refine lv_iinc (v := (nI (k + 1))) (lv' := [(5, .int (nI (k + 1))), (3, .int (kp ||| (1 <<< ((nI n_9) &&& 31)))), (4, .int (nI hn8)), (2, .int (nI n_2)), (0, .ref h0), (1, .int (nI pl))]) hx hb dX3_bestHits_92 hl (k := 1) rfl (nI_add k 1) (by decide) rfl (fun ls hl => ?_)
              refine lv_goto (tgt := 14) hx hb dX3_bestHits_95 (by decide) ?_
              exact ih_4 (k + 1) (kp ||| (1 <<< ((nI n_9) &&& 31))) hn8 (by omega) (by rw [← en_9]; exact bc_room hbs9 c_7 (by rw [en_9, nI_clamp (by omega)]; exact t_no (by omega) b_11) (by rw [cn_2]; omega)) (by omega) (by omega) _ _ hP hS ls (lv_sub hl [0, 2, 1, 3, 4, 5] rfl)
            · have b_14 := gn_lt (X := (Int32.toInt (bcF kp))) (C := ((n_2 : Nat) : Int)) rfl (nI_toInt (by omega)) c_13
              refine lv_iload_n hx hb dX3_bestHits_65 rfl (lv_at hl 2 rfl) ?_
              refine lv_iconst (v := 1) hx hb dX3_bestHits_66 (by decide) ?_
              refine lv_aload_n hx hb dX3_bestHits_67 rfl (lv_at hl 4 rfl) ?_
              refine lv_iload_n hx hb dX3_bestHits_68 rfl (lv_at hl 5 rfl) ?_
              refine lv_iload_n hx hb dX3_bestHits_69 rfl (lv_at hl 2 rfl) ?_
              refine lv_iload hx hb dX3_bestHits_70 (lv_at hl 0 rfl) ?_
              have hPc := hP.sub (ws' := [(h0, .inr (3, [.ref s0, .ref s1, .ref s2, x3, .int (nI qn), .int (nI rm)])), (s1, .inl (ks1, 40, .inl fcp)), (s2, .inl (ks2, 40, .inl fck))]) [0, 1, 2] rfl
              have hDc := hD.sub (ws' := [(h0, .inr (3, [.ref s0, .ref s1, .ref s2, x3, .int (nI qn), .int (nI rm)])), (s1, .inl (ks1, 40, .inl fcp)), (s2, .inl (ks2, 40, .inl fck))]) [0, 1, 2] (by decide) rfl
              have hKc := hK.sub (tys' := [(ks1, .int), (ks2, .int)]) [0, 1] rfl
              refine va_calli (va_runV (As := [.int (nI pl), .int kp, .int (nI k)]) (rest := [.int 1, .int kp]) ⟨hx, hb, hml, hown, hts⟩ (c_longest l dC dI H.size h0 (.ref s0) s1 s2 (x3) qn rm ks1 fcp ks2 fck (nI pl) kp k hqn (by omega)) (cwV 3 hts (gV mw_3_145 mw_3_147 mw_0_14 mw_1_8 mw_3_148) rfl rfl rfl (by decide +kernel) ⟨Nat.le_of_ble_eq_true rfl, Nat.le_of_ble_eq_true rfl⟩) ⟨pcW_blind, va_recv hKc hPc (ci := 3) (q0 := 0) rfl rfl, pcW_at hPc hKc hDc hN⟩ rfl rfl hl.1 rfl (lv_room (Nat.le_of_ble_eq_true rfl)) dX3_bestHits_72 ⟨Nat.le_of_ble_eq_true rfl, Nat.le_of_ble_eq_true rfl⟩) hS (fun q h1 h2 => absurd h2 (Nat.not_le.mpr h1)) (fun q h => hA q (Nat.le_trans hS.1 h)) (fun r_15 u t H1 locs ht hvm hw_15 hB hz1 hk1 hS => ?_)
              have hP := keepP hP hk1
              clear hz1 hk1 hB ht hvm hPc hDc hKc
              generalize H1 = H at hP hS ⊢
              refine lv_ishl hx hb dX3_bestHits_75 ?_
              refine lv_iconst (v := (-1)) hx hb dX3_bestHits_76 (by decide) ?_
              refine lv_ixor hx hb dX3_bestHits_77 ?_
              refine lv_iand hx hb dX3_bestHits_78 ?_
              refine lv_topi (fun z_16 ez_16 => ?_)
              refine lv_istore_n (lv' := [(3, .int z_16), (5, .int (nI k)), (4, .int (nI hn8)), (2, .int (nI n_2)), (0, .ref h0), (1, .int (nI pl))]) hx hb dX3_bestHits_79 rfl hl (by decide) rfl (fun ls hl => ?_)
              refine lv_iload_n hx hb dX3_bestHits_80 rfl (lv_at hl 0 rfl) ?_
              refine lv_iconst (v := 1) hx hb dX3_bestHits_81 (by decide) ?_
              refine lv_aload_n hx hb dX3_bestHits_82 rfl (lv_at hl 4 rfl) ?_
              refine va_get (D := (dC, dI)) (ci := 3) (v := .ref s2) (C := RX3) (T := TX3) (N := 6) hx hb hts inB_3 hown hK hP 0 rfl rfl 2 (by decide) (hts _ mw_1_151) (fun _ h9 => h9) rfl dX3_bestHits_83 ?_
              refine lv_iload hx hb dX3_bestHits_86 (lv_at hl 1 rfl) ?_
              refine va_iald hx hb hK hP 2 1 rfl rfl (show vp_in (nI k) 40 from vp_in_nI (by omega) (by omega)) dX3_bestHits_88 ?_
              refine hx_top (y := (fck k)) (congrArg _ (nI_clamp (by omega))) ?_
              refine hx_top (y := (nI n_9)) en_9 ?_
              refine lv_ishl hx hb dX3_bestHits_89 ?_
              refine lv_ior hx hb dX3_bestHits_90 ?_
              refine lv_istore_n (lv' := [(3, .int (z_16 ||| (1 <<< ((nI n_9) &&& 31)))), (5, .int (nI k)), (4, .int (nI hn8)), (2, .int (nI n_2)), (0, .ref h0), (1, .int (nI pl))]) hx hb dX3_bestHits_91 rfl hl (by decide) rfl (fun ls hl => ?_)
              refine lv_iinc (v := (nI (k + 1))) (lv' := [(5, .int (nI (k + 1))), (3, .int (z_16 ||| (1 <<< ((nI n_9) &&& 31)))), (4, .int (nI hn8)), (2, .int (nI n_2)), (0, .ref h0), (1, .int (nI pl))]) hx hb dX3_bestHits_92 hl (k := 1) rfl (nI_add k 1) (by decide) rfl (fun ls hl => ?_)
              refine lv_goto (tgt := 14) hx hb dX3_bestHits_95 (by decide) ?_
              exact ih_4 (k + 1) (z_16 ||| (1 <<< ((nI n_9) &&& 31))) hn8 (by omega) (by rw [ez_16]; rw [← en_9]; exact bc_full hbs9 c_7 (by rw [en_9, nI_clamp (by omega)]; exact t_no (by omega) b_11) (by rw [cn_2]; omega) hw_15) (by omega) (by omega) _ _ hP hS ls (lv_sub hl [0, 2, 1, 3, 4, 5] rfl)
        · have b_8 := gn_eq (X := (Int32.toInt (fcp k))) (C := ((pl : Nat) : Int)) rfl (nI_toInt (by omega)) c_7
          refine lv_goto (tgt := 92) hx hb dX3_bestHits_34 (by decide) ?_
          refine lv_iinc (v := (nI (k + 1))) (lv' := [(5, .int (nI (k + 1))), (4, .int (nI hn8)), (3, .int kp), (2, .int (nI n_2)), (0, .ref h0), (1, .int (nI pl))]) hx hb dX3_bestHits_92 hl (k := 0) rfl (nI_add k 1) (by decide) rfl (fun ls hl => ?_)
          refine lv_goto (tgt := 14) hx hb dX3_bestHits_95 (by decide) ?_
          exact ih_4 (k + 1) kp hn8 (by omega) (bc_skip hbs9 c_7) (by omega) (by omega) _ _ hP hS ls (lv_sub hl [0, 1, 2, 3, 4, 5] rfl)
  exact key_3 ((qn - 0) + 1) 0 0 0 (by omega) rfl (by omega) (Nat.lt_succ_self _) _ _ hP hS ls (lv_sub hl [0, 1, 2, 3, 4, 5] rfl)
