theorem mw_2_99 : Cond.code yX8_isName cX8_isName 1 (some .boolean) ∈ BG := mB (t2 (i := 99) rfl) (by decide +kernel)
theorem mw_2_98 : Cond.static yX8_isName ∈ BG := mB (t2 (i := 98) (by decide +kernel)) (by decide +kernel)
theorem mw_1_95 : Cond.laysFinal RX0 "AnswerLines$Bodies" "owners" "[I" ∈ BG := mB (t1 (i := 95) (by decide +kernel)) (by decide +kernel)
theorem mw_1_97 : Cond.laysFinal RX0 "AnswerLines$Bodies" "lengths" "[I" ∈ BG := mB (t1 (i := 97) (by decide +kernel)) (by decide +kernel)
theorem mw_1_99 : Cond.laysFinal RX0 "AnswerLines$Bodies" "signs" "[C" ∈ BG := mB (t1 (i := 99) (by decide +kernel)) (by decide +kernel)
theorem inB_0 : ∀ w ∈ u_ws RX0 TX0 3, w ∈ BG := fun w hw => by
  obtain ⟨k, hk, rfl⟩ := List.mem_map.mp hw
  have hk := List.mem_range.mp hk
  rcases (by omega : k = 0 ∨ k = 1 ∨ k = 2) with rfl | rfl | rfl
  · exact mw_1_95
  · exact mw_1_97
  · exact mw_1_99
theorem mw_1_92 : Cond.fieldLink RX0 9 "AnswerLines$Bodies" "owners" "[I" ∈ BG := mB (t1 (i := 92) (by decide +kernel)) (by decide +kernel)
theorem mw_2_107 : Cond.code yX0_ownersOf cX0_ownersOf 2 (some .int) ∈ BG := mB (t2 (i := 107) rfl) (by decide +kernel)
theorem mw_2_104 : Cond.methodLink RX0 26 yX0_ownersOf ∈ BG := mB (t2 (i := 104) (by decide +kernel)) (by decide +kernel)
theorem mw_2_105 : Cond.instanceMethod yX0_ownersOf ∈ BG := mB (t2 (i := 105) (by decide +kernel)) (by decide +kernel)
theorem mw_2_106 : Cond.selects RX0 yX0_ownersOf yX0_ownersOf ∈ BG := mB (t2 (i := 106) (by decide +kernel)) (by decide +kernel)
theorem mw_1_5 : Cond.initialized RX0 ∈ BG := mB (t1 (i := 5) (by decide +kernel)) (by decide +kernel)
theorem mw_2_103 : Cond.code yX0_isOwner cX0_isOwner 3 (some .boolean) ∈ BG := mB (t2 (i := 103) rfl) (by decide +kernel)
theorem mw_3_175 : Cond.methodLink RX0 34 yX0_isOwner ∈ BG := mB (t3 (i := 175) (by decide +kernel)) (by decide +kernel)
theorem mw_2_101 : Cond.instanceMethod yX0_isOwner ∈ BG := mB (t2 (i := 101) (by decide +kernel)) (by decide +kernel)
theorem mw_2_102 : Cond.selects RX0 yX0_isOwner yX0_isOwner ∈ BG := mB (t2 (i := 102) (by decide +kernel)) (by decide +kernel)
theorem mw_2_116 : Cond.code yX0_isBody cX0_isBody 2 (some .boolean) ∈ BG := mB (t2 (i := 116) rfl) (by decide +kernel)
theorem mw_2_114 : Cond.methodLink RX0 37 yX0_isBody ∈ BG := mB (t2 (i := 114) (by decide +kernel)) (by decide +kernel)
theorem mw_2_115 : Cond.static yX0_isBody ∈ BG := mB (t2 (i := 115) (by decide +kernel)) (by decide +kernel)
theorem mw_1_93 : Cond.fieldLink RX0 15 "AnswerLines$Bodies" "lengths" "[I" ∈ BG := mB (t1 (i := 93) (by decide +kernel)) (by decide +kernel)
theorem mw_2_175 : Cond.code yX0_lengthOf cX0_lengthOf 3 (some .int) ∈ BG := mB (t2 (i := 175) rfl) (by decide +kernel)
theorem mw_2_180 : Cond.methodLink RX0 56 yX0_lengthOf ∈ BG := mB (t2 (i := 180) (by decide +kernel)) (by decide +kernel)
theorem mw_2_173 : Cond.instanceMethod yX0_lengthOf ∈ BG := mB (t2 (i := 173) (by decide +kernel)) (by decide +kernel)
theorem mw_2_174 : Cond.selects RX0 yX0_lengthOf yX0_lengthOf ∈ BG := mB (t2 (i := 174) (by decide +kernel)) (by decide +kernel)
theorem mw_1_94 : Cond.fieldLink RX0 18 "AnswerLines$Bodies" "signs" "[C" ∈ BG := mB (t1 (i := 94) (by decide +kernel)) (by decide +kernel)
theorem mw_2_120 : Cond.code yX2_length cX2_length 1 (some .int) ∈ BG := mB (t2 (i := 120) rfl) (by decide +kernel)
theorem mw_2_117 : Cond.methodLink RX0 40 yX2_length ∈ BG := mB (t2 (i := 117) (by decide +kernel)) (by decide +kernel)
theorem mw_2_118 : Cond.instanceMethod yX2_length ∈ BG := mB (t2 (i := 118) (by decide +kernel)) (by decide +kernel)
theorem mw_2_119 : Cond.selects RX2 yX2_length yX2_length ∈ BG := mB (t2 (i := 119) (by decide +kernel)) (by decide +kernel)
theorem mw_2_121 : Cond.methodLink RX0 46 Lib.Math.min.name ∈ BG := mB (t2 (i := 121) (by decide +kernel)) (by decide +kernel)
theorem mw_2_122 : Cond.static Lib.Math.min.name ∈ BG := mB (t2 (i := 122) (by decide +kernel)) (by decide +kernel)
theorem mw_2_123 : Cond.code Lib.Math.min.name Lib.Math.min.code 2 (some .int) ∈ BG := mB (t2 (i := 123) rfl) (by decide +kernel)
theorem mw_2_127 : Cond.code yX2_sign cX2_sign 2 (some .char) ∈ BG := mB (t2 (i := 127) rfl) (by decide +kernel)
theorem mw_2_124 : Cond.methodLink RX0 52 yX2_sign ∈ BG := mB (t2 (i := 124) (by decide +kernel)) (by decide +kernel)
theorem mw_2_125 : Cond.instanceMethod yX2_sign ∈ BG := mB (t2 (i := 125) (by decide +kernel)) (by decide +kernel)
theorem mw_2_126 : Cond.selects RX2 yX2_sign yX2_sign ∈ BG := mB (t2 (i := 126) (by decide +kernel)) (by decide +kernel)
theorem dX0_isBody_0 : decode cX0_isBody 0 = .ok (.iload_n 0, 1) := by decide +kernel
theorem dX0_isBody_1 : decode cX0_isBody 1 = .ok (.ifCond .lt 20, 3) := by decide +kernel
theorem dX0_isBody_21 : decode cX0_isBody 21 = .ok (.iconst 0, 1) := by decide +kernel
theorem dX0_isBody_22 : decode cX0_isBody 22 = .ok (.ireturn, 1) := by decide +kernel
theorem dX0_isBody_4 : decode cX0_isBody 4 = .ok (.iload_n 0, 1) := by decide +kernel
theorem dX0_isBody_5 : decode cX0_isBody 5 = .ok (.bipush 10, 2) := by decide +kernel
theorem dX0_isBody_7 : decode cX0_isBody 7 = .ok (.if_icmp .ge 14, 3) := by decide +kernel
theorem dX0_isBody_10 : decode cX0_isBody 10 = .ok (.iload_n 1, 1) := by decide +kernel
theorem dX0_isBody_11 : decode cX0_isBody 11 = .ok (.invokestatic 22, 3) := by decide +kernel
theorem dX0_isBody_14 : decode cX0_isBody 14 = .ok (.ifCond .eq 7, 3) := by decide +kernel
theorem dX0_isBody_17 : decode cX0_isBody 17 = .ok (.iconst 1, 1) := by decide +kernel
theorem dX0_isBody_18 : decode cX0_isBody 18 = .ok (.goto 4, 3) := by decide +kernel
theorem dX0_ownersOf_0 : decode cX0_ownersOf 0 = .ok (.iload_n 1, 1) := by decide +kernel
theorem dX0_ownersOf_1 : decode cX0_ownersOf 1 = .ok (.invokestatic 22, 3) := by decide +kernel
theorem dX0_ownersOf_4 : decode cX0_ownersOf 4 = .ok (.ifCond .eq 12, 3) := by decide +kernel
theorem dX0_ownersOf_7 : decode cX0_ownersOf 7 = .ok (.aload_n 0, 1) := by decide +kernel
theorem dX0_ownersOf_8 : decode cX0_ownersOf 8 = .ok (.getfield 9, 3) := by decide +kernel
theorem dX0_ownersOf_11 : decode cX0_ownersOf 11 = .ok (.iload_n 1, 1) := by decide +kernel
theorem dX0_ownersOf_12 : decode cX0_ownersOf 12 = .ok (.iaload, 1) := by decide +kernel
theorem dX0_ownersOf_13 : decode cX0_ownersOf 13 = .ok (.goto 4, 3) := by decide +kernel
theorem dX0_ownersOf_17 : decode cX0_ownersOf 17 = .ok (.ireturn, 1) := by decide +kernel
theorem dX0_isOwner_0 : decode cX0_isOwner 0 = .ok (.iload_n 1, 1) := by decide +kernel
theorem dX0_isOwner_1 : decode cX0_isOwner 1 = .ok (.aload_n 0, 1) := by decide +kernel
theorem dX0_isOwner_2 : decode cX0_isOwner 2 = .ok (.iload_n 2, 1) := by decide +kernel
theorem dX0_isOwner_3 : decode cX0_isOwner 3 = .ok (.invokevirtual 26, 3) := by decide +kernel
theorem dX0_isOwner_6 : decode cX0_isOwner 6 = .ok (.invokestatic 30, 3) := by decide +kernel
theorem dX0_isOwner_9 : decode cX0_isOwner 9 = .ok (.ireturn, 1) := by decide +kernel
theorem dX0_namesOf_0 : decode cX0_namesOf 0 = .ok (.iconst 0, 1) := by decide +kernel
theorem dX0_namesOf_1 : decode cX0_namesOf 1 = .ok (.istore_n 2, 1) := by decide +kernel
theorem dX0_namesOf_2 : decode cX0_namesOf 2 = .ok (.iconst 0, 1) := by decide +kernel
theorem dX0_namesOf_3 : decode cX0_namesOf 3 = .ok (.istore_n 3, 1) := by decide +kernel
theorem dX0_namesOf_4 : decode cX0_namesOf 4 = .ok (.iload_n 3, 1) := by decide +kernel
theorem dX0_namesOf_5 : decode cX0_namesOf 5 = .ok (.bipush 8, 2) := by decide +kernel
theorem dX0_namesOf_7 : decode cX0_namesOf 7 = .ok (.if_icmp .ge 24, 3) := by decide +kernel
theorem dX0_namesOf_31 : decode cX0_namesOf 31 = .ok (.iload_n 2, 1) := by decide +kernel
theorem dX0_namesOf_32 : decode cX0_namesOf 32 = .ok (.ireturn, 1) := by decide +kernel
theorem dX0_namesOf_10 : decode cX0_namesOf 10 = .ok (.aload_n 0, 1) := by decide +kernel
theorem dX0_namesOf_11 : decode cX0_namesOf 11 = .ok (.iload_n 1, 1) := by decide +kernel
theorem dX0_namesOf_12 : decode cX0_namesOf 12 = .ok (.iload_n 3, 1) := by decide +kernel
theorem dX0_namesOf_13 : decode cX0_namesOf 13 = .ok (.invokevirtual 34, 3) := by decide +kernel
theorem dX0_namesOf_16 : decode cX0_namesOf 16 = .ok (.ifCond .eq 9, 3) := by decide +kernel
theorem dX0_namesOf_19 : decode cX0_namesOf 19 = .ok (.iload_n 2, 1) := by decide +kernel
theorem dX0_namesOf_20 : decode cX0_namesOf 20 = .ok (.iconst 1, 1) := by decide +kernel
theorem dX0_namesOf_21 : decode cX0_namesOf 21 = .ok (.iload_n 3, 1) := by decide +kernel
theorem dX0_namesOf_22 : decode cX0_namesOf 22 = .ok (.ishl, 1) := by decide +kernel
theorem dX0_namesOf_23 : decode cX0_namesOf 23 = .ok (.ior, 1) := by decide +kernel
theorem dX0_namesOf_24 : decode cX0_namesOf 24 = .ok (.istore_n 2, 1) := by decide +kernel
theorem dX0_namesOf_25 : decode cX0_namesOf 25 = .ok (.iinc 3 1, 3) := by decide +kernel
theorem dX0_namesOf_28 : decode cX0_namesOf 28 = .ok (.goto (-24), 3) := by decide +kernel
theorem dX0_takeAway_0 : decode cX0_takeAway 0 = .ok (.iload_n 1, 1) := by decide +kernel
theorem dX0_takeAway_1 : decode cX0_takeAway 1 = .ok (.iload_n 2, 1) := by decide +kernel
theorem dX0_takeAway_2 : decode cX0_takeAway 2 = .ok (.invokestatic 37, 3) := by decide +kernel
theorem dX0_takeAway_5 : decode cX0_takeAway 5 = .ok (.ifCond .ne 6, 3) := by decide +kernel
theorem dX0_takeAway_11 : decode cX0_takeAway 11 = .ok (.aload_n 0, 1) := by decide +kernel
theorem dX0_takeAway_12 : decode cX0_takeAway 12 = .ok (.getfield 9, 3) := by decide +kernel
theorem dX0_takeAway_15 : decode cX0_takeAway 15 = .ok (.iload_n 2, 1) := by decide +kernel
theorem dX0_takeAway_16 : decode cX0_takeAway 16 = .ok (.dup2, 1) := by decide +kernel
theorem dX0_takeAway_17 : decode cX0_takeAway 17 = .ok (.iaload, 1) := by decide +kernel
theorem dX0_takeAway_18 : decode cX0_takeAway 18 = .ok (.iconst 1, 1) := by decide +kernel
theorem dX0_takeAway_19 : decode cX0_takeAway 19 = .ok (.iload_n 1, 1) := by decide +kernel
theorem dX0_takeAway_20 : decode cX0_takeAway 20 = .ok (.ishl, 1) := by decide +kernel
theorem dX0_takeAway_21 : decode cX0_takeAway 21 = .ok (.iconst (-1), 1) := by decide +kernel
theorem dX0_takeAway_22 : decode cX0_takeAway 22 = .ok (.ixor, 1) := by decide +kernel
theorem dX0_takeAway_23 : decode cX0_takeAway 23 = .ok (.iand, 1) := by decide +kernel
theorem dX0_takeAway_24 : decode cX0_takeAway 24 = .ok (.iastore, 1) := by decide +kernel
theorem dX0_takeAway_25 : decode cX0_takeAway 25 = .ok (.aload_n 0, 1) := by decide +kernel
theorem dX0_takeAway_26 : decode cX0_takeAway 26 = .ok (.getfield 15, 3) := by decide +kernel
theorem dX0_takeAway_29 : decode cX0_takeAway 29 = .ok (.iload_n 1, 1) := by decide +kernel
theorem dX0_takeAway_30 : decode cX0_takeAway 30 = .ok (.bipush 8, 2) := by decide +kernel
theorem dX0_takeAway_32 : decode cX0_takeAway 32 = .ok (.imul, 1) := by decide +kernel
theorem dX0_takeAway_33 : decode cX0_takeAway 33 = .ok (.iload_n 2, 1) := by decide +kernel
theorem dX0_takeAway_34 : decode cX0_takeAway 34 = .ok (.iadd, 1) := by decide +kernel
theorem dX0_takeAway_35 : decode cX0_takeAway 35 = .ok (.iaload, 1) := by decide +kernel
theorem dX0_takeAway_36 : decode cX0_takeAway 36 = .ok (.ireturn, 1) := by decide +kernel
theorem dX0_lengthOf_0 : decode cX0_lengthOf 0 = .ok (.iload_n 1, 1) := by decide +kernel
theorem dX0_lengthOf_1 : decode cX0_lengthOf 1 = .ok (.iload_n 2, 1) := by decide +kernel
theorem dX0_lengthOf_2 : decode cX0_lengthOf 2 = .ok (.invokestatic 37, 3) := by decide +kernel
theorem dX0_lengthOf_5 : decode cX0_lengthOf 5 = .ok (.ifCond .eq 17, 3) := by decide +kernel
theorem dX0_lengthOf_8 : decode cX0_lengthOf 8 = .ok (.aload_n 0, 1) := by decide +kernel
theorem dX0_lengthOf_9 : decode cX0_lengthOf 9 = .ok (.getfield 15, 3) := by decide +kernel
theorem dX0_lengthOf_12 : decode cX0_lengthOf 12 = .ok (.iload_n 1, 1) := by decide +kernel
theorem dX0_lengthOf_13 : decode cX0_lengthOf 13 = .ok (.bipush 8, 2) := by decide +kernel
theorem dX0_lengthOf_15 : decode cX0_lengthOf 15 = .ok (.imul, 1) := by decide +kernel
theorem dX0_lengthOf_16 : decode cX0_lengthOf 16 = .ok (.iload_n 2, 1) := by decide +kernel
theorem dX0_lengthOf_17 : decode cX0_lengthOf 17 = .ok (.iadd, 1) := by decide +kernel
theorem dX0_lengthOf_18 : decode cX0_lengthOf 18 = .ok (.iaload, 1) := by decide +kernel
theorem dX0_lengthOf_19 : decode cX0_lengthOf 19 = .ok (.goto 4, 3) := by decide +kernel
theorem dX0_lengthOf_23 : decode cX0_lengthOf 23 = .ok (.ireturn, 1) := by decide +kernel
theorem dX0_sign_0 : decode cX0_sign 0 = .ok (.iload_n 3, 1) := by decide +kernel
theorem dX0_sign_1 : decode cX0_sign 1 = .ok (.ifCond .lt 13, 3) := by decide +kernel
theorem dX0_sign_4 : decode cX0_sign 4 = .ok (.iload_n 3, 1) := by decide +kernel
theorem dX0_sign_5 : decode cX0_sign 5 = .ok (.aload_n 0, 1) := by decide +kernel
theorem dX0_sign_6 : decode cX0_sign 6 = .ok (.iload_n 1, 1) := by decide +kernel
theorem dX0_sign_7 : decode cX0_sign 7 = .ok (.iload_n 2, 1) := by decide +kernel
theorem dX0_sign_8 : decode cX0_sign 8 = .ok (.invokevirtual 56, 3) := by decide +kernel
theorem dX0_sign_11 : decode cX0_sign 11 = .ok (.if_icmp .lt 5, 3) := by decide +kernel
theorem dX0_sign_16 : decode cX0_sign 16 = .ok (.aload_n 0, 1) := by decide +kernel
theorem dX0_sign_17 : decode cX0_sign 17 = .ok (.getfield 18, 3) := by decide +kernel
theorem dX0_sign_20 : decode cX0_sign 20 = .ok (.iload_n 1, 1) := by decide +kernel
theorem dX0_sign_21 : decode cX0_sign 21 = .ok (.bipush 8, 2) := by decide +kernel
theorem dX0_sign_23 : decode cX0_sign 23 = .ok (.imul, 1) := by decide +kernel
theorem dX0_sign_24 : decode cX0_sign 24 = .ok (.iload_n 2, 1) := by decide +kernel
theorem dX0_sign_25 : decode cX0_sign 25 = .ok (.iadd, 1) := by decide +kernel
theorem dX0_sign_26 : decode cX0_sign 26 = .ok (.bipush 12, 2) := by decide +kernel
theorem dX0_sign_28 : decode cX0_sign 28 = .ok (.imul, 1) := by decide +kernel
theorem dX0_sign_29 : decode cX0_sign 29 = .ok (.iload_n 3, 1) := by decide +kernel
theorem dX0_sign_30 : decode cX0_sign 30 = .ok (.iadd, 1) := by decide +kernel
theorem dX0_sign_31 : decode cX0_sign 31 = .ok (.caload, 1) := by decide +kernel
theorem dX0_sign_32 : decode cX0_sign 32 = .ok (.ireturn, 1) := by decide +kernel
theorem dX0_give_0 : decode cX0_give 0 = .ok (.iload_n 1, 1) := by decide +kernel
theorem dX0_give_1 : decode cX0_give 1 = .ok (.iload_n 2, 1) := by decide +kernel
theorem dX0_give_2 : decode cX0_give 2 = .ok (.invokestatic 37, 3) := by decide +kernel
theorem dX0_give_5 : decode cX0_give 5 = .ok (.ifCond .ne 4, 3) := by decide +kernel
theorem dX0_give_9 : decode cX0_give 9 = .ok (.iload_n 1, 1) := by decide +kernel
theorem dX0_give_10 : decode cX0_give 10 = .ok (.bipush 8, 2) := by decide +kernel
theorem dX0_give_12 : decode cX0_give 12 = .ok (.imul, 1) := by decide +kernel
theorem dX0_give_13 : decode cX0_give 13 = .ok (.iload_n 2, 1) := by decide +kernel
theorem dX0_give_14 : decode cX0_give 14 = .ok (.iadd, 1) := by decide +kernel
theorem dX0_give_15 : decode cX0_give 15 = .ok (.istore 4, 2) := by decide +kernel
theorem dX0_give_17 : decode cX0_give 17 = .ok (.aload_n 3, 1) := by decide +kernel
theorem dX0_give_18 : decode cX0_give 18 = .ok (.invokevirtual 40, 3) := by decide +kernel
theorem dX0_give_21 : decode cX0_give 21 = .ok (.bipush 12, 2) := by decide +kernel
theorem dX0_give_23 : decode cX0_give 23 = .ok (.invokestatic 46, 3) := by decide +kernel
theorem dX0_give_26 : decode cX0_give 26 = .ok (.istore 5, 2) := by decide +kernel
theorem dX0_give_28 : decode cX0_give 28 = .ok (.iconst 0, 1) := by decide +kernel
theorem dX0_give_29 : decode cX0_give 29 = .ok (.istore 6, 2) := by decide +kernel
theorem dX0_give_31 : decode cX0_give 31 = .ok (.iload 6, 2) := by decide +kernel
theorem dX0_give_33 : decode cX0_give 33 = .ok (.iload 5, 2) := by decide +kernel
theorem dX0_give_35 : decode cX0_give 35 = .ok (.if_icmp .ge 28, 3) := by decide +kernel
theorem dX0_give_63 : decode cX0_give 63 = .ok (.aload_n 0, 1) := by decide +kernel
theorem dX0_give_64 : decode cX0_give 64 = .ok (.getfield 15, 3) := by decide +kernel
theorem dX0_give_67 : decode cX0_give 67 = .ok (.iload 4, 2) := by decide +kernel
theorem dX0_give_69 : decode cX0_give 69 = .ok (.iload 5, 2) := by decide +kernel
theorem dX0_give_71 : decode cX0_give 71 = .ok (.iastore, 1) := by decide +kernel
theorem dX0_give_72 : decode cX0_give 72 = .ok (.aload_n 0, 1) := by decide +kernel
theorem dX0_give_73 : decode cX0_give 73 = .ok (.getfield 9, 3) := by decide +kernel
theorem dX0_give_76 : decode cX0_give 76 = .ok (.iload_n 2, 1) := by decide +kernel
theorem dX0_give_77 : decode cX0_give 77 = .ok (.dup2, 1) := by decide +kernel
theorem dX0_give_78 : decode cX0_give 78 = .ok (.iaload, 1) := by decide +kernel
theorem dX0_give_79 : decode cX0_give 79 = .ok (.iconst 1, 1) := by decide +kernel
theorem dX0_give_80 : decode cX0_give 80 = .ok (.iload_n 1, 1) := by decide +kernel
theorem dX0_give_81 : decode cX0_give 81 = .ok (.ishl, 1) := by decide +kernel
theorem dX0_give_82 : decode cX0_give 82 = .ok (.ior, 1) := by decide +kernel
theorem dX0_give_83 : decode cX0_give 83 = .ok (.iastore, 1) := by decide +kernel
theorem dX0_give_84 : decode cX0_give 84 = .ok (.return_, 1) := by decide +kernel
theorem dX0_give_38 : decode cX0_give 38 = .ok (.aload_n 0, 1) := by decide +kernel
theorem dX0_give_39 : decode cX0_give 39 = .ok (.getfield 18, 3) := by decide +kernel
theorem dX0_give_42 : decode cX0_give 42 = .ok (.iload 4, 2) := by decide +kernel
theorem dX0_give_44 : decode cX0_give 44 = .ok (.bipush 12, 2) := by decide +kernel
theorem dX0_give_46 : decode cX0_give 46 = .ok (.imul, 1) := by decide +kernel
theorem dX0_give_47 : decode cX0_give 47 = .ok (.iload 6, 2) := by decide +kernel
theorem dX0_give_49 : decode cX0_give 49 = .ok (.iadd, 1) := by decide +kernel
theorem dX0_give_50 : decode cX0_give 50 = .ok (.aload_n 3, 1) := by decide +kernel
theorem dX0_give_51 : decode cX0_give 51 = .ok (.iload 6, 2) := by decide +kernel
theorem dX0_give_53 : decode cX0_give 53 = .ok (.invokevirtual 52, 3) := by decide +kernel
theorem dX0_give_56 : decode cX0_give 56 = .ok (.castore, 1) := by decide +kernel
theorem dX0_give_57 : decode cX0_give 57 = .ok (.iinc 6 1, 3) := by decide +kernel
theorem dX0_give_60 : decode cX0_give 60 = .ok (.goto (-29), 3) := by decide +kernel
set_option maxHeartbeats 4000000 in
set_option maxRecDepth 100000 in
theorem c_isBody (l : Launch) (dC : Nat → ClassId) (dI : Nat → Nat → Nat) (sz : Nat) (n : Int32) (v : Int32)  : Met l yX0_isBody (wq yX0_isBody cX0_isBody 2 (some .boolean)) ({ frames := 1, cells := 0, slots := 0, locals := 20 }) (va_Pc [.int n, .int v] (pcW dC dI [] [] sz)) (va_Qi (fun (r : Int32) (_ : Unit) => r = (if (0 ≤ Int32.toInt n ∧ Int32.toInt n ≤ 9 ∧ 0 ≤ Int32.toInt v ∧ Int32.toInt v ≤ 7) then 1 else 0)) (fun _ _ => True) (fun q : Nat => sz ≤ q)) 0 0 (fun q : Nat => sz ≤ q) := by
  refine Met.ofW (cc := cX0_isBody) (maxL := 2) (ret := (some .boolean)) (by decide) rfl ?_
  intro p e s m args below meth c s₁ B hml hv
  obtain ⟨rfl, hsz, hN, hP, hK, hD0⟩ := hv
  have hx := B.exec
  have hb := B.bytes
  have hr := B.returns
  have hts0 := atoms_spec (ws := (wq yX0_isBody cX0_isBody 2 (some .boolean))) B.pre
  have hts : ∀ w ∈ BG, w.before _ s = true := fun w h => hts0 w (List.mem_cons_of_mem _ h)
  have hown : s.vm.findClass RX0 = some m.cls := findClass_of_methodNamed B.named
  have hlocks := B.notSynchronized
  subst hsz
  have hA : ∀ q : Nat, s.heap.size ≤ q → (fun q : Nat => s.heap.size ≤ q) q := fun _ h => h
  have hD := hD0
  have hS : va_S (fun q : Nat => s.heap.size ≤ q) s.heap s.heap [] := va_S.rf
  have hP : va_P (dC, dI) vwCl [] s.heap := hP
  have hl := lv_entry ([.int n, .int v]) (n := 2) (Nat.le_of_ble_eq_true rfl)
  rw [lg_entry_eq]
  generalize (lg_sl ([.int n, .int v]) ++ List.replicate (2 - (lg_sl ([.int n, .int v])).length) Slot.unset).toArray = ls at hl ⊢
  have hl : lv_has ls 2 [(0, .int n), (1, .int v)] := hl
  refine lv_iload_n hx hb dX0_isBody_0 rfl (lv_at hl 0 rfl) ?_
  refine lv_if_lt (tgt := 21) hx hb dX0_isBody_1 (by decide) (fun c_1 => ?_) (fun c_1 => ?_)
  · have b_2 := gx_lt (X := (Int32.toInt n)) (C := 0) rfl (by decide) c_1
    refine lv_iconst (v := 0) hx hb dX0_isBody_21 (by decide) ?_
    exact W.zret (v := 0) hx hb hr (by decide) (fun t ht hW => ⟨⟨0, (), rfl, (by first | exact (if_pos (by omega)).symm | exact (if_neg (by omega)).symm), trivial⟩, hS.F ht⟩) hS.2.2 dX0_isBody_22
  · have b_2 := gn_lt (X := (Int32.toInt n)) (C := 0) rfl (by decide) c_1
    refine lv_iload_n hx hb dX0_isBody_4 rfl (lv_at hl 0 rfl) ?_
    refine lv_bipush (v := 10) hx hb dX0_isBody_5 (by decide) ?_
    refine lv_icmp_ge (tgt := 21) hx hb dX0_isBody_7 (by decide) (fun c_3 => ?_) (fun c_3 => ?_)
    · have b_4 := gx_ge (X := (Int32.toInt n)) (C := 10) rfl (by decide) c_3
      refine lv_iconst (v := 0) hx hb dX0_isBody_21 (by decide) ?_
      exact W.zret (v := 0) hx hb hr (by decide) (fun t ht hW => ⟨⟨0, (), rfl, (by first | exact (if_pos (by omega)).symm | exact (if_neg (by omega)).symm), trivial⟩, hS.F ht⟩) hS.2.2 dX0_isBody_22
    · have b_4 := gn_ge (X := (Int32.toInt n)) (C := 10) rfl (by decide) c_3
      refine lv_iload_n hx hb dX0_isBody_10 rfl (lv_at hl 1 rfl) ?_
      have hPc := hP.sub (ws' := []) [] rfl
      have hDc := hD.sub (ws' := []) [] (by decide) rfl
      have hKc := hK.sub (tys' := []) [] rfl
      refine va_calli (va_runSN (As := [.int v]) (rest := []) ⟨hx, hb, hml, hown, hts⟩ (c_isName l dC dI s.heap.size v ) ⟨va_cnB 1 hts (gN mw_2_99) rfl rfl rfl (hN (RX0, 22, yX8_isName, RX8) (List.mem_of_getElem? (i := 8) rfl)) (hts _ mw_1_1) (by decide +kernel) ⟨Nat.le_of_ble_eq_true rfl, Nat.le_of_ble_eq_true rfl⟩, (hts _ mw_2_98), trivial⟩ ⟨pcW_blind, pcW_at hPc hKc hDc hN⟩ rfl rfl hl.1 rfl (lv_room (Nat.le_of_ble_eq_true rfl)) dX0_isBody_11 ⟨Nat.le_of_ble_eq_true rfl, Nat.le_of_ble_eq_true rfl⟩) hS (fun q h1 h2 => absurd h2 (Nat.not_le.mpr h1)) (fun q h => hA q (Nat.le_trans hS.1 h)) (fun r_5 u t H1 locs ht hvm hw_5 hB hz1 hk1 hS => ?_)
      have hP := keepP hP hk1
      clear hz1 hk1 hB ht hvm hPc hDc hKc
      generalize H1 = H at hP hS ⊢
      rcases fx_bool hw_5 with ⟨rfl, b_6⟩ | ⟨rfl, b_6⟩
      · skip
        refine lv_if_eq (tgt := 21) hx hb dX0_isBody_14 (by decide) (fun h => absurd h (by decide)) (fun _ => ?_)
        refine lv_iconst (v := 1) hx hb dX0_isBody_17 (by decide) ?_
        refine lv_goto (tgt := 22) hx hb dX0_isBody_18 (by decide) ?_
        exact W.zret (v := 1) hx hb hr (by decide) (fun t ht hW => ⟨⟨1, (), rfl, (by first | exact (if_pos (by omega)).symm | exact (if_neg (by omega)).symm), trivial⟩, hS.F ht⟩) hS.2.2 dX0_isBody_22
      · skip
        refine lv_if_eq (tgt := 21) hx hb dX0_isBody_14 (by decide) (fun _ => ?_) (fun h => absurd (by decide) h)
        refine lv_iconst (v := 0) hx hb dX0_isBody_21 (by decide) ?_
        exact W.zret (v := 0) hx hb hr (by decide) (fun t ht hW => ⟨⟨0, (), rfl, (by first | exact (if_pos (by omega)).symm | exact (if_neg (by omega)).symm), trivial⟩, hS.F ht⟩) hS.2.2 dX0_isBody_22
set_option maxHeartbeats 4000000 in
set_option maxRecDepth 100000 in
theorem c_own (l : Launch) (dC : Nat → ClassId) (dI : Nat → Nat → Nat) (sz : Nat) (h0 : Nat) (e0 : Nat) (z1 : Value) (z2 : Value) (ke0 : ClassId) (fo : Nat → Int32) (nq : Nat) (hnq : nq < 8) : Met l yX0_ownersOf (wq yX0_ownersOf cX0_ownersOf 2 (some .int)) ({ frames := 1, cells := 0, slots := 0, locals := 20 }) (va_Pc [.ref h0, .int (nI nq)] (pcW dC dI [(ke0, .int)] [(h0, .inr (0, [.ref e0, z1, z2])), (e0, .inl (ke0, 8, .inl fo))] sz)) (va_Qi (fun (r : Int32) (_ : Unit) => r = (fo nq)) (fun _ _ => True) (fun q : Nat => sz ≤ q)) 0 0 (fun q : Nat => sz ≤ q) := by
  refine Met.ofW (cc := cX0_ownersOf) (maxL := 2) (ret := (some .int)) (by decide) rfl ?_
  intro p e s m args below meth c s₁ B hml hv
  obtain ⟨rfl, hsz, hN, hP, hK, hD0⟩ := hv
  have hx := B.exec
  have hb := B.bytes
  have hr := B.returns
  have hts0 := atoms_spec (ws := (wq yX0_ownersOf cX0_ownersOf 2 (some .int))) B.pre
  have hts : ∀ w ∈ BG, w.before _ s = true := fun w h => hts0 w (List.mem_cons_of_mem _ h)
  have hown : s.vm.findClass RX0 = some m.cls := findClass_of_methodNamed B.named
  have hlocks := B.notSynchronized
  subst hsz
  have hA : ∀ q : Nat, s.heap.size ≤ q → (fun q : Nat => s.heap.size ≤ q) q := fun _ h => h
  have hD := hD0
  have hS : va_S (fun q : Nat => s.heap.size ≤ q) s.heap s.heap [] := va_S.rf
  have hP : va_P (dC, dI) vwCl [(h0, .inr (0, [.ref e0, z1, z2])), (e0, .inl (ke0, 8, .inl fo))] s.heap := hP
  have hl := lv_entry ([.ref h0, .int (nI nq)]) (n := 2) (Nat.le_of_ble_eq_true rfl)
  rw [lg_entry_eq]
  generalize (lg_sl ([.ref h0, .int (nI nq)]) ++ List.replicate (2 - (lg_sl ([.ref h0, .int (nI nq)])).length) Slot.unset).toArray = ls at hl ⊢
  have hl : lv_has ls 2 [(0, .ref h0), (1, .int (nI nq))] := hl
  have ynq : Int32.toInt (nI nq) = ((nq : Nat) : Int) := nI_toInt (by omega)
  refine lv_iload_n hx hb dX0_ownersOf_0 rfl (lv_at hl 1 rfl) ?_
  have hPc := hP.sub (ws' := []) [] rfl
  have hDc := hD.sub (ws' := []) [] (by decide) rfl
  have hKc := hK.sub (tys' := []) [] rfl
  refine va_calli (va_runSN (As := [.int (nI nq)]) (rest := []) ⟨hx, hb, hml, hown, hts⟩ (c_isName l dC dI s.heap.size (nI nq) ) ⟨va_cnB 1 hts (gN mw_2_99) rfl rfl rfl (hN (RX0, 22, yX8_isName, RX8) (List.mem_of_getElem? (i := 8) rfl)) (hts _ mw_1_1) (by decide +kernel) ⟨Nat.le_of_ble_eq_true rfl, Nat.le_of_ble_eq_true rfl⟩, (hts _ mw_2_98), trivial⟩ ⟨pcW_blind, pcW_at hPc hKc hDc hN⟩ rfl rfl hl.1 rfl (lv_room (Nat.le_of_ble_eq_true rfl)) dX0_ownersOf_1 ⟨Nat.le_of_ble_eq_true rfl, Nat.le_of_ble_eq_true rfl⟩) hS (fun q h1 h2 => absurd h2 (Nat.not_le.mpr h1)) (fun q h => hA q (Nat.le_trans hS.1 h)) (fun r_1 u t H1 locs ht hvm hw_1 hB hz1 hk1 hS => ?_)
  have hP := keepP hP hk1
  clear hz1 hk1 hB ht hvm hPc hDc hKc
  generalize H1 = H at hP hS ⊢
  obtain rfl : r_1 = 1 := hw_1.trans (if_pos (by omega))
  refine lv_if_eq (tgt := 16) hx hb dX0_ownersOf_4 (by decide) (fun h => absurd h (by decide)) (fun _ => ?_)
  refine lv_aload_n hx hb dX0_ownersOf_7 rfl (lv_at hl 0 rfl) ?_
  refine va_get (D := (dC, dI)) (ci := 0) (v := .ref e0) (C := RX0) (T := TX0) (N := 3) hx hb hts inB_0 hown hK hP 0 rfl rfl 0 (by decide) (hts _ mw_1_92) (fun _ h9 => h9) rfl dX0_ownersOf_8 ?_
  refine lv_iload_n hx hb dX0_ownersOf_11 rfl (lv_at hl 1 rfl) ?_
  refine va_iald hx hb hK hP 1 0 rfl rfl (show vp_in (nI nq) 8 from vp_in_nI (by omega) (by omega)) dX0_ownersOf_12 ?_
  refine hx_top (y := (fo nq)) (congrArg _ (nI_clamp (by omega))) ?_
  refine lv_goto (tgt := 17) hx hb dX0_ownersOf_13 (by decide) ?_
  exact W.iret (v := (fo nq)) hx hb hr (fun t ht hW => ⟨⟨(fo nq), (), rfl, rfl, trivial⟩, hS.F ht⟩) hS.2.2 dX0_ownersOf_17
set_option maxHeartbeats 4000000 in
set_option maxRecDepth 100000 in
theorem c_isOwn (l : Launch) (dC : Nat → ClassId) (dI : Nat → Nat → Nat) (sz : Nat) (h0 : Nat) (e0 : Nat) (z1 : Value) (z2 : Value) (ke0 : ClassId) (fo : Nat → Int32) (kq : Nat) (nq : Nat) (hkq : kq < 10) (hnq : nq < 8) : Met l yX0_isOwner (wq yX0_isOwner cX0_isOwner 3 (some .boolean)) ({ frames := 2, cells := 0, slots := 0, locals := 41 }) (va_Pc [.ref h0, .int (nI kq), .int (nI nq)] (pcW dC dI [(ke0, .int)] [(h0, .inr (0, [.ref e0, z1, z2])), (e0, .inl (ke0, 8, .inl fo))] sz)) (va_Qi (fun (r : Int32) (_ : Unit) => r = (if bt (fo nq) kq = true then 1 else 0)) (fun _ _ => True) (fun q : Nat => sz ≤ q)) 0 0 (fun q : Nat => sz ≤ q) := by
  refine Met.ofW (cc := cX0_isOwner) (maxL := 3) (ret := (some .boolean)) (by decide) rfl ?_
  intro p e s m args below meth c s₁ B hml hv
  obtain ⟨rfl, hsz, hN, hP, hK, hD0⟩ := hv
  have hx := B.exec
  have hb := B.bytes
  have hr := B.returns
  have hts0 := atoms_spec (ws := (wq yX0_isOwner cX0_isOwner 3 (some .boolean))) B.pre
  have hts : ∀ w ∈ BG, w.before _ s = true := fun w h => hts0 w (List.mem_cons_of_mem _ h)
  have hown : s.vm.findClass RX0 = some m.cls := findClass_of_methodNamed B.named
  have hlocks := B.notSynchronized
  subst hsz
  have hA : ∀ q : Nat, s.heap.size ≤ q → (fun q : Nat => s.heap.size ≤ q) q := fun _ h => h
  have hD := hD0
  have hS : va_S (fun q : Nat => s.heap.size ≤ q) s.heap s.heap [] := va_S.rf
  have hP : va_P (dC, dI) vwCl [(h0, .inr (0, [.ref e0, z1, z2])), (e0, .inl (ke0, 8, .inl fo))] s.heap := hP
  have hl := lv_entry ([.ref h0, .int (nI kq), .int (nI nq)]) (n := 3) (Nat.le_of_ble_eq_true rfl)
  rw [lg_entry_eq]
  generalize (lg_sl ([.ref h0, .int (nI kq), .int (nI nq)]) ++ List.replicate (3 - (lg_sl ([.ref h0, .int (nI kq), .int (nI nq)])).length) Slot.unset).toArray = ls at hl ⊢
  have hl : lv_has ls 3 [(0, .ref h0), (1, .int (nI kq)), (2, .int (nI nq))] := hl
  refine lv_iload_n hx hb dX0_isOwner_0 rfl (lv_at hl 1 rfl) ?_
  refine lv_aload_n hx hb dX0_isOwner_1 rfl (lv_at hl 0 rfl) ?_
  refine lv_iload_n hx hb dX0_isOwner_2 rfl (lv_at hl 2 rfl) ?_
  have hPc := hP.sub (ws' := [(h0, .inr (0, [.ref e0, z1, z2])), (e0, .inl (ke0, 8, .inl fo))]) [0, 1] rfl
  have hDc := hD.sub (ws' := [(h0, .inr (0, [.ref e0, z1, z2])), (e0, .inl (ke0, 8, .inl fo))]) [0, 1] (by decide) rfl
  have hKc := hK.sub (tys' := [(ke0, .int)]) [0] rfl
  refine va_calli (va_runV (As := [.int (nI nq)]) (rest := [.int (nI kq)]) ⟨hx, hb, hml, hown, hts⟩ (c_own l dC dI s.heap.size h0 e0 (z1) (z2) ke0 fo nq hnq) (cwV 1 hts (gV mw_2_104 mw_2_105 mw_2_106 mw_1_5 mw_2_107) rfl rfl rfl (by decide +kernel) ⟨Nat.le_of_ble_eq_true rfl, Nat.le_of_ble_eq_true rfl⟩) ⟨pcW_blind, va_recv hKc hPc (ci := 0) (q0 := 0) rfl rfl, pcW_at hPc hKc hDc hN⟩ rfl rfl hl.1 rfl (lv_room (Nat.le_of_ble_eq_true rfl)) dX0_isOwner_3 ⟨Nat.le_of_ble_eq_true rfl, Nat.le_of_ble_eq_true rfl⟩) hS (fun q h1 h2 => absurd h2 (Nat.not_le.mpr h1)) (fun q h => hA q (Nat.le_trans hS.1 h)) (fun r_1 u t H1 locs ht hvm hw_1 hB hz1 hk1 hS => ?_)
  have hP := keepP hP hk1
  clear hz1 hk1 hB ht hvm hPc hDc hKc
  generalize H1 = H at hP hS ⊢
  obtain rfl : r_1 = (fo nq) := hw_1
  have hPc := hP.sub (ws' := []) [] rfl
  have hDc := hD.sub (ws' := []) [] (by decide) rfl
  have hKc := hK.sub (tys' := []) [] rfl
  refine va_calli (va_runSN (As := [.int (nI kq), .int (fo nq)]) (rest := []) ⟨hx, hb, hml, hown, hts⟩ (c_isIn l dC dI H.size (nI kq) (fo nq) ) ⟨va_cnB 2 hts (gN mw_2_15) rfl rfl rfl (hN (RX0, 30, yX8_isIn, RX8) (List.mem_of_getElem? (i := 9) rfl)) (hts _ mw_1_1) (by decide +kernel) ⟨Nat.le_of_ble_eq_true rfl, Nat.le_of_ble_eq_true rfl⟩, (hts _ mw_2_14), trivial⟩ ⟨pcW_blind, pcW_at hPc hKc hDc hN⟩ rfl rfl hl.1 rfl (lv_room (Nat.le_of_ble_eq_true rfl)) dX0_isOwner_6 ⟨Nat.le_of_ble_eq_true rfl, Nat.le_of_ble_eq_true rfl⟩) hS (fun q h1 h2 => absurd h2 (Nat.not_le.mpr h1)) (fun q h => hA q (Nat.le_trans hS.1 h)) (fun r_2 u t H1 locs ht hvm hw_2 hB hz1 hk1 hS => ?_)
  have hP := keepP hP hk1
  clear hz1 hk1 hB ht hvm hPc hDc hKc
  generalize H1 = H at hP hS ⊢
  rcases fx_bool hw_2 with ⟨rfl, b_3⟩ | ⟨rfl, b_3⟩
  · skip
    exact W.zret (v := 1) hx hb hr (by decide) (fun t ht hW => ⟨⟨1, (), rfl, (if_pos (t_yes (by omega) b_3)).symm, trivial⟩, hS.F ht⟩) hS.2.2 dX0_isOwner_9
  · skip
    exact W.zret (v := 0) hx hb hr (by decide) (fun t ht hW => ⟨⟨0, (), rfl, (if_neg (by rw [t_no (by omega) b_3]; decide)).symm, trivial⟩, hS.F ht⟩) hS.2.2 dX0_isOwner_9
set_option maxHeartbeats 4000000 in
set_option maxRecDepth 100000 in
theorem c_names (l : Launch) (dC : Nat → ClassId) (dI : Nat → Nat → Nat) (sz : Nat) (h0 : Nat) (e0 : Nat) (z1 : Value) (z2 : Value) (ke0 : ClassId) (fo : Nat → Int32) (kq : Nat) (hkq : kq < 10) : Met l yX0_namesOf (wq yX0_namesOf cX0_namesOf 4 (some .int)) ({ frames := 3, cells := 0, slots := 0, locals := 63 }) (va_Pc [.ref h0, .int (nI kq)] (pcW dC dI [(ke0, .int)] [(h0, .inr (0, [.ref e0, z1, z2])), (e0, .inl (ke0, 8, .inl fo))] sz)) (va_Qi (fun (r : Int32) (_ : Unit) => r = (bitsF (fun i => bt (fo i) kq) 8)) (fun _ _ => True) (fun q : Nat => sz ≤ q)) 0 0 (fun q : Nat => sz ≤ q) := by
  refine Met.ofW (cc := cX0_namesOf) (maxL := 4) (ret := (some .int)) (by decide) rfl ?_
  intro p e s m args below meth c s₁ B hml hv
  obtain ⟨rfl, hsz, hN, hP, hK, hD0⟩ := hv
  have hx := B.exec
  have hb := B.bytes
  have hr := B.returns
  have hts0 := atoms_spec (ws := (wq yX0_namesOf cX0_namesOf 4 (some .int))) B.pre
  have hts : ∀ w ∈ BG, w.before _ s = true := fun w h => hts0 w (List.mem_cons_of_mem _ h)
  have hown : s.vm.findClass RX0 = some m.cls := findClass_of_methodNamed B.named
  have hlocks := B.notSynchronized
  subst hsz
  have hA : ∀ q : Nat, s.heap.size ≤ q → (fun q : Nat => s.heap.size ≤ q) q := fun _ h => h
  have hD := hD0
  have hS : va_S (fun q : Nat => s.heap.size ≤ q) s.heap s.heap [] := va_S.rf
  have hP : va_P (dC, dI) vwCl [(h0, .inr (0, [.ref e0, z1, z2])), (e0, .inl (ke0, 8, .inl fo))] s.heap := hP
  have hl := lv_entry ([.ref h0, .int (nI kq)]) (n := 4) (Nat.le_of_ble_eq_true rfl)
  rw [lg_entry_eq]
  generalize (lg_sl ([.ref h0, .int (nI kq)]) ++ List.replicate (4 - (lg_sl ([.ref h0, .int (nI kq)])).length) Slot.unset).toArray = ls at hl ⊢
  have hl : lv_has ls 4 [(0, .ref h0), (1, .int (nI kq))] := hl
  refine lv_iconst (v := 0) hx hb dX0_namesOf_0 (by decide) ?_
  refine lv_istore_n (lv' := [(2, .int 0), (0, .ref h0), (1, .int (nI kq))]) hx hb dX0_namesOf_1 rfl hl (by decide) rfl (fun ls hl => ?_)
  refine lv_iconst (v := 0) hx hb dX0_namesOf_2 (by decide) ?_
  refine lv_istore_n (lv' := [(3, .int 0), (2, .int 0), (0, .ref h0), (1, .int (nI kq))]) hx hb dX0_namesOf_3 rfl hl (by decide) rfl (fun ls hl => ?_)
  have key_1 : ∀ (fu : Nat) (k : Nat) (ac : Int32), (k ≤ 8) → (ac = bitsF (fun i => bt (fo i) kq) k) → 8 - k < fu → ∀ (H : Heap) (locs : List Loc), va_P (dC, dI) vwCl [(h0, .inr (0, [.ref e0, z1, z2])), (e0, .inl (ke0, 8, .inl fo))] H → va_S (fun q : Nat => s.heap.size ≤ q) s.heap H locs → ∀ (ls : Array Slot), lv_has ls 4 [(3, .int (nI k)), (2, .int ac), (0, .ref h0), (1, .int (nI kq))] → W p l e (headSpec (wq yX0_namesOf cX0_namesOf 4 (some .int)) ({ frames := 3, cells := 0, slots := 0, locals := 63 })).room s m (([.ref h0, .int (nI kq)] : List Value)).toArray below meth c H locs 0 0 (MQ below (va_Qi (fun (r : Int32) (_ : Unit) => r = (bitsF (fun i => bt (fo i) kq) 8)) (fun _ _ => True) (fun q : Nat => s.heap.size ≤ q)) (([.ref h0, .int (nI kq)] : List Value)).toArray s 0 0 (fun q : Nat => s.heap.size ≤ q)) (F0 m 4 ls []) := by
    intro fu
    induction fu with
    | zero => intro k ac hk hac hme; exact absurd hme (Nat.not_lt_zero _)
    | succ fu ih_2 =>
      intro k ac hk hac hme H locs hP hS ls hl
      refine lv_iload_n hx hb dX0_namesOf_4 rfl (lv_at hl 0 rfl) ?_
      refine lv_bipush (v := 8) hx hb dX0_namesOf_5 (by decide) ?_
      refine lv_icmp_ge (tgt := 31) hx hb dX0_namesOf_7 (by decide) (fun c_3 => ?_) (fun c_3 => ?_)
      · have b_4 := gx_ge (X := ((k : Nat) : Int)) (C := 8) (nI_toInt (by omega)) (by decide) c_3
        refine lv_iload_n hx hb dX0_namesOf_31 rfl (lv_at hl 1 rfl) ?_
        exact W.iret (v := ac) hx hb hr (fun t ht hW => ⟨⟨ac, (), rfl, (by rw [hac, show k = 8 from (by omega)]), trivial⟩, hS.F ht⟩) hS.2.2 dX0_namesOf_32
      · have b_4 := gn_ge (X := ((k : Nat) : Int)) (C := 8) (nI_toInt (by omega)) (by decide) c_3
        refine lv_aload_n hx hb dX0_namesOf_10 rfl (lv_at hl 2 rfl) ?_
        refine lv_iload_n hx hb dX0_namesOf_11 rfl (lv_at hl 3 rfl) ?_
        refine lv_iload_n hx hb dX0_namesOf_12 rfl (lv_at hl 0 rfl) ?_
        have hPc := hP.sub (ws' := [(h0, .inr (0, [.ref e0, z1, z2])), (e0, .inl (ke0, 8, .inl fo))]) [0, 1] rfl
        have hDc := hD.sub (ws' := [(h0, .inr (0, [.ref e0, z1, z2])), (e0, .inl (ke0, 8, .inl fo))]) [0, 1] (by decide) rfl
        have hKc := hK.sub (tys' := [(ke0, .int)]) [0] rfl
        refine va_calli (va_runV (As := [.int (nI kq), .int (nI k)]) (rest := []) ⟨hx, hb, hml, hown, hts⟩ (c_isOwn l dC dI H.size h0 e0 (z1) (z2) ke0 fo kq k hkq (by omega)) (cwV 2 hts (gV mw_3_175 mw_2_101 mw_2_102 mw_1_5 mw_2_103) rfl rfl rfl (by decide +kernel) ⟨Nat.le_of_ble_eq_true rfl, Nat.le_of_ble_eq_true rfl⟩) ⟨pcW_blind, va_recv hKc hPc (ci := 0) (q0 := 0) rfl rfl, pcW_at hPc hKc hDc hN⟩ rfl rfl hl.1 rfl (lv_room (Nat.le_of_ble_eq_true rfl)) dX0_namesOf_13 ⟨Nat.le_of_ble_eq_true rfl, Nat.le_of_ble_eq_true rfl⟩) hS (fun q h1 h2 => absurd h2 (Nat.not_le.mpr h1)) (fun q h => hA q (Nat.le_trans hS.1 h)) (fun r_5 u t H1 locs ht hvm hw_5 hB hz1 hk1 hS => ?_)
        have hP := keepP hP hk1
        clear hz1 hk1 hB ht hvm hPc hDc hKc
        generalize H1 = H at hP hS ⊢
        rcases fx_bool hw_5 with ⟨rfl, b_6⟩ | ⟨rfl, b_6⟩
        · skip
          refine lv_if_eq (tgt := 25) hx hb dX0_namesOf_16 (by decide) (fun h => absurd h (by decide)) (fun _ => ?_)
          refine lv_iload_n hx hb dX0_namesOf_19 rfl (lv_at hl 1 rfl) ?_
          refine lv_iconst (v := 1) hx hb dX0_namesOf_20 (by decide) ?_
          refine lv_iload_n hx hb dX0_namesOf_21 rfl (lv_at hl 0 rfl) ?_
          refine lv_ishl hx hb dX0_namesOf_22 ?_
          refine lv_ior hx hb dX0_namesOf_23 ?_
          refine lv_istore_n (lv' := [(2, .int (ac ||| (1 <<< ((nI k) &&& 31)))), (3, .int (nI k)), (0, .ref h0), (1, .int (nI kq))]) hx hb dX0_namesOf_24 rfl hl (by decide) rfl (fun ls hl => ?_)
          refine lv_iinc (v := (nI (k + 1))) (lv' := [(3, .int (nI (k + 1))), (2, .int (ac ||| (1 <<< ((nI k) &&& 31)))), (0, .ref h0), (1, .int (nI kq))]) hx hb dX0_namesOf_25 hl (k := 1) rfl (nI_add k 1) (by decide) rfl (fun ls hl => ?_)
          refine lv_goto (tgt := 4) hx hb dX0_namesOf_28 (by decide) ?_
          exact ih_2 (k + 1) (ac ||| (1 <<< ((nI k) &&& 31))) (by omega) (by rw [hac]; exact bits_t b_6) (by omega) _ _ hP hS ls (lv_sub hl [0, 1, 2, 3] rfl)
        · skip
          refine lv_if_eq (tgt := 25) hx hb dX0_namesOf_16 (by decide) (fun _ => ?_) (fun h => absurd (by decide) h)
          refine lv_iinc (v := (nI (k + 1))) (lv' := [(3, .int (nI (k + 1))), (2, .int ac), (0, .ref h0), (1, .int (nI kq))]) hx hb dX0_namesOf_25 hl (k := 0) rfl (nI_add k 1) (by decide) rfl (fun ls hl => ?_)
          refine lv_goto (tgt := 4) hx hb dX0_namesOf_28 (by decide) ?_
          exact ih_2 (k + 1) ac (by omega) (by rw [hac]; exact bits_f (bF b_6)) (by omega) _ _ hP hS ls (lv_sub hl [0, 1, 2, 3] rfl)
  exact key_1 ((8 - 0) + 1) 0 0 (by omega) rfl (Nat.lt_succ_self _) _ _ hP hS ls (lv_sub hl [0, 1, 2, 3] rfl)
set_option maxHeartbeats 4000000 in
set_option maxRecDepth 100000 in
theorem c_take (l : Launch) (dC : Nat → ClassId) (dI : Nat → Nat → Nat) (sz : Nat) (h0 : Nat) (e0 : Nat) (e1 : Nat) (e2 : Nat) (ke0 : ClassId) (fo : Nat → Int32) (ke1 : ClassId) (fbl : Nat → Int32) (ke2 : ClassId) (fbs : Nat → Int32) (kq : Nat) (nq : Nat) (hbl : BdOk 80 12 fbl) (hkq : kq < 10) (hnq : nq < 8) : Met l yX0_takeAway (wq yX0_takeAway cX0_takeAway 3 (some .int)) ({ frames := 2, cells := 0, slots := 0, locals := 41 }) (va_Pc [.ref h0, .int (nI kq), .int (nI nq)] (pcW dC dI [(ke0, .int), (ke1, .int), (ke2, .char)] [(h0, .inr (0, [.ref e0, .ref e1, .ref e2])), (e0, .inl (ke0, 8, .inl fo)), (e1, .inl (ke1, 80, .inl fbl)), (e2, .inl (ke2, 960, .inl fbs))] sz)) (va_Qi (fun (r : Int32) (_ : Unit) => r = (fbl (8 * kq + nq))) (fun _ t => ∃ (fo2 : Nat → Int32), (fo2 = upd fo nq (fo nq &&& (((1 : Int32) <<< (nI kq &&& 31)) ^^^ (-1)))) ∧ va_P (dC, dI) vwCl [(h0, .inr (0, [.ref e0, .ref e1, .ref e2])), (e0, .inl (ke0, 8, .inl fo2)), (e1, .inl (ke1, 80, .inl fbl)), (e2, .inl (ke2, 960, .inl fbs))] t.heap ∧ va_K (dC, dI) vwCl [(ke0, .int), (ke1, .int), (ke2, .char)] t ∧ va_D (va_A [(h0, .inr (0, [.ref e0, .ref e1, .ref e2])), (e0, .inl (ke0, 8, .inl fo)), (e1, .inl (ke1, 80, .inl fbl)), (e2, .inl (ke2, 960, .inl fbs))] sz) [(h0, .inr (0, [.ref e0, .ref e1, .ref e2])), (e0, .inl (ke0, 8, .inl fo2)), (e1, .inl (ke1, 80, .inl fbl)), (e2, .inl (ke2, 960, .inl fbs))]) (va_A [(h0, .inr (0, [.ref e0, .ref e1, .ref e2])), (e0, .inl (ke0, 8, .inl fo)), (e1, .inl (ke1, 80, .inl fbl)), (e2, .inl (ke2, 960, .inl fbs))] sz)) 0 0 (va_A [(h0, .inr (0, [.ref e0, .ref e1, .ref e2])), (e0, .inl (ke0, 8, .inl fo)), (e1, .inl (ke1, 80, .inl fbl)), (e2, .inl (ke2, 960, .inl fbs))] sz) := by
  refine Met.ofW (cc := cX0_takeAway) (maxL := 3) (ret := (some .int)) (by decide) rfl ?_
  intro p e s m args below meth c s₁ B hml hv
  obtain ⟨rfl, hsz, hN, hP, hK, hD0⟩ := hv
  have hx := B.exec
  have hb := B.bytes
  have hr := B.returns
  have hts0 := atoms_spec (ws := (wq yX0_takeAway cX0_takeAway 3 (some .int))) B.pre
  have hts : ∀ w ∈ BG, w.before _ s = true := fun w h => hts0 w (List.mem_cons_of_mem _ h)
  have hown : s.vm.findClass RX0 = some m.cls := findClass_of_methodNamed B.named
  have hlocks := B.notSynchronized
  subst hsz
  have hD := hD0.self (sz := s.heap.size)
  generalize hAe : va_A [(h0, .inr (0, [.ref e0, .ref e1, .ref e2])), (e0, .inl (ke0, 8, .inl fo)), (e1, .inl (ke1, 80, .inl fbl)), (e2, .inl (ke2, 960, .inl fbs))] s.heap.size = A at hD ⊢
  have hA : ∀ q : Nat, s.heap.size ≤ q → A q := fun q h => by rw [← hAe]; exact Or.inr h
  have hS : va_S A s.heap s.heap [] := va_S.rf
  clear hAe hD0
  have hP : va_P (dC, dI) vwCl [(h0, .inr (0, [.ref e0, .ref e1, .ref e2])), (e0, .inl (ke0, 8, .inl fo)), (e1, .inl (ke1, 80, .inl fbl)), (e2, .inl (ke2, 960, .inl fbs))] s.heap := hP
  have hl := lv_entry ([.ref h0, .int (nI kq), .int (nI nq)]) (n := 3) (Nat.le_of_ble_eq_true rfl)
  rw [lg_entry_eq]
  generalize (lg_sl ([.ref h0, .int (nI kq), .int (nI nq)]) ++ List.replicate (3 - (lg_sl ([.ref h0, .int (nI kq), .int (nI nq)])).length) Slot.unset).toArray = ls at hl ⊢
  have hl : lv_has ls 3 [(0, .ref h0), (1, .int (nI kq)), (2, .int (nI nq))] := hl
  have ykq : Int32.toInt (nI kq) = ((kq : Nat) : Int) := nI_toInt (by omega)
  have ynq : Int32.toInt (nI nq) = ((nq : Nat) : Int) := nI_toInt (by omega)
  refine lv_iload_n hx hb dX0_takeAway_0 rfl (lv_at hl 1 rfl) ?_
  refine lv_iload_n hx hb dX0_takeAway_1 rfl (lv_at hl 2 rfl) ?_
  have hPc := hP.sub (ws' := []) [] rfl
  have hDc := hD.sub (ws' := []) [] (by decide) rfl
  have hKc := hK.sub (tys' := []) [] rfl
  refine va_calli (va_runS (As := [.int (nI kq), .int (nI nq)]) (rest := []) ⟨hx, hb, hml, hown, hts⟩ (c_isBody l dC dI s.heap.size (nI kq) (nI nq) ) (va_cwS 2 hts (gS mw_2_114 mw_2_115 mw_1_5 mw_2_116) rfl rfl rfl (by decide +kernel) ⟨Nat.le_of_ble_eq_true rfl, Nat.le_of_ble_eq_true rfl⟩) ⟨pcW_blind, pcW_at hPc hKc hDc hN⟩ rfl rfl hl.1 rfl (lv_room (Nat.le_of_ble_eq_true rfl)) dX0_takeAway_2 ⟨Nat.le_of_ble_eq_true rfl, Nat.le_of_ble_eq_true rfl⟩) hS (fun q h1 h2 => absurd h2 (Nat.not_le.mpr h1)) (fun q h => hA q (Nat.le_trans hS.1 h)) (fun r_1 u t H1 locs ht hvm hw_1 hB hz1 hk1 hS => ?_)
  have hP := keepP hP hk1
  clear hz1 hk1 hB ht hvm hPc hDc hKc
  generalize H1 = H at hP hS ⊢
  obtain rfl : r_1 = 1 := hw_1.trans (if_pos (by omega))
  refine lv_if_ne (tgt := 11) hx hb dX0_takeAway_5 (by decide) (fun _ => ?_) (fun h => absurd h (by decide))
  refine lv_aload_n hx hb dX0_takeAway_11 rfl (lv_at hl 0 rfl) ?_
  refine va_get (D := (dC, dI)) (ci := 0) (v := .ref e0) (C := RX0) (T := TX0) (N := 3) hx hb hts inB_0 hown hK hP 0 rfl rfl 0 (by decide) (hts _ mw_1_92) (fun _ h9 => h9) rfl dX0_takeAway_12 ?_
  refine lv_iload_n hx hb dX0_takeAway_15 rfl (lv_at hl 2 rfl) ?_
  refine lv_dup2_11 hx hb dX0_takeAway_16 rfl rfl ?_
  refine va_iald hx hb hK hP 1 0 rfl rfl (show vp_in (nI nq) 8 from vp_in_nI (by omega) (by omega)) dX0_takeAway_17 ?_
  refine hx_top (y := (fo nq)) (congrArg _ (nI_clamp (by omega))) ?_
  refine lv_iconst (v := 1) hx hb dX0_takeAway_18 (by decide) ?_
  refine lv_iload_n hx hb dX0_takeAway_19 rfl (lv_at hl 1 rfl) ?_
  refine lv_ishl hx hb dX0_takeAway_20 ?_
  refine lv_iconst (v := (-1)) hx hb dX0_takeAway_21 (by decide) ?_
  refine lv_ixor hx hb dX0_takeAway_22 ?_
  refine lv_iand hx hb dX0_takeAway_23 ?_
  refine va_iast hx hb hK hP hD hS 1 0 rfl rfl (show vp_in (nI nq) 8 from vp_in_nI (by omega) (by omega)) dX0_takeAway_24 (fun H locs hP hD hS => ?_)
  obtain ⟨f_3, ef_3⟩ : ∃ g : Nat → Int32, g = upd fo (Int32.toNatClampNeg (nI nq)) ((fo nq) &&& ((1 <<< ((nI kq) &&& 31)) ^^^ (-1))) := ⟨_, rfl⟩
  rw [← ef_3] at hP hD
  have ef_3 : f_3 = upd fo nq ((fo nq) &&& ((1 <<< ((nI kq) &&& 31)) ^^^ (-1))) := by rw [ef_3, nI_clamp (by omega)]
  have hP : va_P (dC, dI) vwCl [(h0, .inr (0, [.ref e0, .ref e1, .ref e2])), (e0, .inl (ke0, 8, .inl f_3)), (e1, .inl (ke1, 80, .inl fbl)), (e2, .inl (ke2, 960, .inl fbs))] H := hP
  have hD : va_D A [(h0, .inr (0, [.ref e0, .ref e1, .ref e2])), (e0, .inl (ke0, 8, .inl f_3)), (e1, .inl (ke1, 80, .inl fbl)), (e2, .inl (ke2, 960, .inl fbs))] := hD
  refine lv_aload_n hx hb dX0_takeAway_25 rfl (lv_at hl 0 rfl) ?_
  refine va_get (D := (dC, dI)) (ci := 0) (v := .ref e1) (C := RX0) (T := TX0) (N := 3) hx hb hts inB_0 hown hK hP 0 rfl rfl 1 (by decide) (hts _ mw_1_93) (fun _ h9 => h9) rfl dX0_takeAway_26 ?_
  refine lv_iload_n hx hb dX0_takeAway_29 rfl (lv_at hl 1 rfl) ?_
  refine lv_bipush (v := 8) hx hb dX0_takeAway_30 (by decide) ?_
  refine lv_imul hx hb dX0_takeAway_32 ?_
  refine hx_top (y := (nI (kq * 8))) (pk_mul kq 8) ?_
  refine lv_iload_n hx hb dX0_takeAway_33 rfl (lv_at hl 2 rfl) ?_
  refine lv_iadd hx hb dX0_takeAway_34 ?_
  refine hx_top (y := (nI ((kq * 8) + nq))) (nI_add (kq * 8) nq) ?_
  refine va_iald hx hb hK hP 2 1 rfl rfl (show vp_in (nI ((kq * 8) + nq)) 80 from vp_in_nI (by omega) (by omega)) dX0_takeAway_35 ?_
  refine hx_top (y := (fbl ((kq * 8) + nq))) (congrArg _ (nI_clamp (by omega))) ?_
  obtain ⟨n_4, hn_4, en_4⟩ := hbl ((kq * 8) + nq) (by omega)
  refine hx_top (y := (nI n_4)) en_4 ?_
  have hP9 := hP.sub (ws' := [(h0, .inr (0, [.ref e0, .ref e1, .ref e2])), (e0, .inl (ke0, 8, .inl f_3)), (e1, .inl (ke1, 80, .inl fbl)), (e2, .inl (ke2, 960, .inl fbs))]) [0, 1, 2, 3] rfl
  have hD9 := hD.sub (ws' := [(h0, .inr (0, [.ref e0, .ref e1, .ref e2])), (e0, .inl (ke0, 8, .inl f_3)), (e1, .inl (ke1, 80, .inl fbl)), (e2, .inl (ke2, 960, .inl fbs))]) [0, 1, 2, 3] (by decide) rfl
  have hK9 := hK.sub (tys' := [(ke0, .int), (ke1, .int), (ke2, .char)]) [0, 1, 2] rfl
  exact W.iret (v := (nI n_4)) hx hb hr (fun t ht hW => ⟨⟨(nI n_4), (), rfl, (by rw [← en_4, Nat.mul_comm kq 8]), f_3, ef_3, by rw [ht]; exact hP9, va_K.moved hW.alike hK9, hD9⟩, hS.F ht⟩) hS.2.2 dX0_takeAway_36
set_option maxHeartbeats 4000000 in
set_option maxRecDepth 100000 in
theorem c_blenN (l : Launch) (dC : Nat → ClassId) (dI : Nat → Nat → Nat) (sz : Nat) (h0 : Nat) (z0 : Value) (e1 : Nat) (z2 : Value) (ke1 : ClassId) (fbl : Nat → Int32) (kq : Nat) (nq : Nat) (hbl : BdOk 80 12 fbl) (hkq : kq < 10) (hnq : nq < 8) : Met l yX0_lengthOf (wq yX0_lengthOf cX0_lengthOf 3 (some .int)) ({ frames := 2, cells := 0, slots := 0, locals := 41 }) (va_Pc [.ref h0, .int (nI kq), .int (nI nq)] (pcW dC dI [(ke1, .int)] [(h0, .inr (0, [z0, .ref e1, z2])), (e1, .inl (ke1, 80, .inl fbl))] sz)) (va_Qi (fun (r : Int32) (_ : Unit) => r = nI ((fbl (8 * kq + nq)).toNatClampNeg)) (fun _ _ => True) (fun q : Nat => sz ≤ q)) 0 0 (fun q : Nat => sz ≤ q) := by
  refine Met.ofW (cc := cX0_lengthOf) (maxL := 3) (ret := (some .int)) (by decide) rfl ?_
  intro p e s m args below meth c s₁ B hml hv
  obtain ⟨rfl, hsz, hN, hP, hK, hD0⟩ := hv
  have hx := B.exec
  have hb := B.bytes
  have hr := B.returns
  have hts0 := atoms_spec (ws := (wq yX0_lengthOf cX0_lengthOf 3 (some .int))) B.pre
  have hts : ∀ w ∈ BG, w.before _ s = true := fun w h => hts0 w (List.mem_cons_of_mem _ h)
  have hown : s.vm.findClass RX0 = some m.cls := findClass_of_methodNamed B.named
  have hlocks := B.notSynchronized
  subst hsz
  have hA : ∀ q : Nat, s.heap.size ≤ q → (fun q : Nat => s.heap.size ≤ q) q := fun _ h => h
  have hD := hD0
  have hS : va_S (fun q : Nat => s.heap.size ≤ q) s.heap s.heap [] := va_S.rf
  have hP : va_P (dC, dI) vwCl [(h0, .inr (0, [z0, .ref e1, z2])), (e1, .inl (ke1, 80, .inl fbl))] s.heap := hP
  have hl := lv_entry ([.ref h0, .int (nI kq), .int (nI nq)]) (n := 3) (Nat.le_of_ble_eq_true rfl)
  rw [lg_entry_eq]
  generalize (lg_sl ([.ref h0, .int (nI kq), .int (nI nq)]) ++ List.replicate (3 - (lg_sl ([.ref h0, .int (nI kq), .int (nI nq)])).length) Slot.unset).toArray = ls at hl ⊢
  have hl : lv_has ls 3 [(0, .ref h0), (1, .int (nI kq)), (2, .int (nI nq))] := hl
  have ykq : Int32.toInt (nI kq) = ((kq : Nat) : Int) := nI_toInt (by omega)
  have ynq : Int32.toInt (nI nq) = ((nq : Nat) : Int) := nI_toInt (by omega)
  refine lv_iload_n hx hb dX0_lengthOf_0 rfl (lv_at hl 1 rfl) ?_
  refine lv_iload_n hx hb dX0_lengthOf_1 rfl (lv_at hl 2 rfl) ?_
  have hPc := hP.sub (ws' := []) [] rfl
  have hDc := hD.sub (ws' := []) [] (by decide) rfl
  have hKc := hK.sub (tys' := []) [] rfl
  refine va_calli (va_runS (As := [.int (nI kq), .int (nI nq)]) (rest := []) ⟨hx, hb, hml, hown, hts⟩ (c_isBody l dC dI s.heap.size (nI kq) (nI nq) ) (va_cwS 2 hts (gS mw_2_114 mw_2_115 mw_1_5 mw_2_116) rfl rfl rfl (by decide +kernel) ⟨Nat.le_of_ble_eq_true rfl, Nat.le_of_ble_eq_true rfl⟩) ⟨pcW_blind, pcW_at hPc hKc hDc hN⟩ rfl rfl hl.1 rfl (lv_room (Nat.le_of_ble_eq_true rfl)) dX0_lengthOf_2 ⟨Nat.le_of_ble_eq_true rfl, Nat.le_of_ble_eq_true rfl⟩) hS (fun q h1 h2 => absurd h2 (Nat.not_le.mpr h1)) (fun q h => hA q (Nat.le_trans hS.1 h)) (fun r_1 u t H1 locs ht hvm hw_1 hB hz1 hk1 hS => ?_)
  have hP := keepP hP hk1
  clear hz1 hk1 hB ht hvm hPc hDc hKc
  generalize H1 = H at hP hS ⊢
  obtain rfl : r_1 = 1 := hw_1.trans (if_pos (by omega))
  refine lv_if_eq (tgt := 22) hx hb dX0_lengthOf_5 (by decide) (fun h => absurd h (by decide)) (fun _ => ?_)
  refine lv_aload_n hx hb dX0_lengthOf_8 rfl (lv_at hl 0 rfl) ?_
  refine va_get (D := (dC, dI)) (ci := 0) (v := .ref e1) (C := RX0) (T := TX0) (N := 3) hx hb hts inB_0 hown hK hP 0 rfl rfl 1 (by decide) (hts _ mw_1_93) (fun _ h9 => h9) rfl dX0_lengthOf_9 ?_
  refine lv_iload_n hx hb dX0_lengthOf_12 rfl (lv_at hl 1 rfl) ?_
  refine lv_bipush (v := 8) hx hb dX0_lengthOf_13 (by decide) ?_
  refine lv_imul hx hb dX0_lengthOf_15 ?_
  refine hx_top (y := (nI (kq * 8))) (pk_mul kq 8) ?_
  refine lv_iload_n hx hb dX0_lengthOf_16 rfl (lv_at hl 2 rfl) ?_
  refine lv_iadd hx hb dX0_lengthOf_17 ?_
  refine hx_top (y := (nI ((kq * 8) + nq))) (nI_add (kq * 8) nq) ?_
  refine va_iald hx hb hK hP 1 0 rfl rfl (show vp_in (nI ((kq * 8) + nq)) 80 from vp_in_nI (by omega) (by omega)) dX0_lengthOf_18 ?_
  refine hx_top (y := (fbl ((kq * 8) + nq))) (congrArg _ (nI_clamp (by omega))) ?_
  obtain ⟨n_3, hn_3, en_3⟩ := hbl ((kq * 8) + nq) (by omega)
  refine hx_top (y := (nI n_3)) en_3 ?_
  refine lv_goto (tgt := 23) hx hb dX0_lengthOf_19 (by decide) ?_
  exact W.iret (v := (nI n_3)) hx hb hr (fun t ht hW => ⟨⟨(nI n_3), (), rfl, (congrArg nI (by rw [Nat.mul_comm 8 kq, en_3, nI_clamp (by omega)])), trivial⟩, hS.F ht⟩) hS.2.2 dX0_lengthOf_23
set_option maxHeartbeats 4000000 in
set_option maxRecDepth 100000 in
theorem c_bsignN (l : Launch) (dC : Nat → ClassId) (dI : Nat → Nat → Nat) (sz : Nat) (h0 : Nat) (z0 : Value) (e1 : Nat) (e2 : Nat) (ke1 : ClassId) (fbl : Nat → Int32) (ke2 : ClassId) (fbs : Nat → Int32) (kq : Nat) (nq : Nat) (iq : Nat) (hbl : BdOk 80 12 fbl) (hbs : ChOk fbs) (hkq : kq < 10) (hnq : nq < 8) (hil : iq < (fbl (8 * kq + nq)).toNatClampNeg) : Met l yX0_sign (wq yX0_sign cX0_sign 4 (some .char)) ({ frames := 3, cells := 0, slots := 0, locals := 63 }) (va_Pc [.ref h0, .int (nI kq), .int (nI nq), .int (nI iq)] (pcW dC dI [(ke1, .int), (ke2, .char)] [(h0, .inr (0, [z0, .ref e1, .ref e2])), (e1, .inl (ke1, 80, .inl fbl)), (e2, .inl (ke2, 960, .inl fbs))] sz)) (va_Qi (fun (r : Int32) (_ : Unit) => r = (fbs (12 * (8 * kq + nq) + iq))) (fun _ _ => True) (fun q : Nat => sz ≤ q)) 0 0 (fun q : Nat => sz ≤ q) := by
  refine Met.ofW (cc := cX0_sign) (maxL := 4) (ret := (some .char)) (by decide) rfl ?_
  intro p e s m args below meth c s₁ B hml hv
  obtain ⟨rfl, hsz, hN, hP, hK, hD0⟩ := hv
  have hx := B.exec
  have hb := B.bytes
  have hr := B.returns
  have hts0 := atoms_spec (ws := (wq yX0_sign cX0_sign 4 (some .char))) B.pre
  have hts : ∀ w ∈ BG, w.before _ s = true := fun w h => hts0 w (List.mem_cons_of_mem _ h)
  have hown : s.vm.findClass RX0 = some m.cls := findClass_of_methodNamed B.named
  have hlocks := B.notSynchronized
  subst hsz
  have hA : ∀ q : Nat, s.heap.size ≤ q → (fun q : Nat => s.heap.size ≤ q) q := fun _ h => h
  have hD := hD0
  have hS : va_S (fun q : Nat => s.heap.size ≤ q) s.heap s.heap [] := va_S.rf
  have hP : va_P (dC, dI) vwCl [(h0, .inr (0, [z0, .ref e1, .ref e2])), (e1, .inl (ke1, 80, .inl fbl)), (e2, .inl (ke2, 960, .inl fbs))] s.heap := hP
  have hl := lv_entry ([.ref h0, .int (nI kq), .int (nI nq), .int (nI iq)]) (n := 4) (Nat.le_of_ble_eq_true rfl)
  rw [lg_entry_eq]
  generalize (lg_sl ([.ref h0, .int (nI kq), .int (nI nq), .int (nI iq)]) ++ List.replicate (4 - (lg_sl ([.ref h0, .int (nI kq), .int (nI nq), .int (nI iq)])).length) Slot.unset).toArray = ls at hl ⊢
  have hl : lv_has ls 4 [(0, .ref h0), (1, .int (nI kq)), (2, .int (nI nq)), (3, .int (nI iq))] := hl
  have hle9 := bd_cle0 hbl (show 8 * kq + nq < 80 by omega)
  refine lv_iload_n hx hb dX0_sign_0 rfl (lv_at hl 3 rfl) ?_
  refine lv_if_lt (tgt := 14) hx hb dX0_sign_1 (by decide) (fun h => absurd (gx_lt (X := ((iq : Nat) : Int)) (C := 0) (nI_toInt (by omega)) (by decide) h) (by omega)) (fun c_1 => ?_)
  have b_2 := gn_lt (X := ((iq : Nat) : Int)) (C := 0) (nI_toInt (by omega)) (by decide) c_1
  refine lv_iload_n hx hb dX0_sign_4 rfl (lv_at hl 3 rfl) ?_
  refine lv_aload_n hx hb dX0_sign_5 rfl (lv_at hl 0 rfl) ?_
  refine lv_iload_n hx hb dX0_sign_6 rfl (lv_at hl 1 rfl) ?_
  refine lv_iload_n hx hb dX0_sign_7 rfl (lv_at hl 2 rfl) ?_
  have hPc := hP.sub (ws' := [(h0, .inr (0, [z0, .ref e1, .ref e2])), (e1, .inl (ke1, 80, .inl fbl))]) [0, 1] rfl
  have hDc := hD.sub (ws' := [(h0, .inr (0, [z0, .ref e1, .ref e2])), (e1, .inl (ke1, 80, .inl fbl))]) [0, 1] (by decide) rfl
  have hKc := hK.sub (tys' := [(ke1, .int)]) [0] rfl
  refine va_calli (va_runV (As := [.int (nI kq), .int (nI nq)]) (rest := [.int (nI iq)]) ⟨hx, hb, hml, hown, hts⟩ (c_blenN l dC dI s.heap.size h0 (z0) e1 (.ref e2) ke1 fbl kq nq hbl hkq hnq) (cwV 2 hts (gV mw_2_180 mw_2_173 mw_2_174 mw_1_5 mw_2_175) rfl rfl rfl (by decide +kernel) ⟨Nat.le_of_ble_eq_true rfl, Nat.le_of_ble_eq_true rfl⟩) ⟨pcW_blind, va_recv hKc hPc (ci := 0) (q0 := 0) rfl rfl, pcW_at hPc hKc hDc hN⟩ rfl rfl hl.1 rfl (lv_room (Nat.le_of_ble_eq_true rfl)) dX0_sign_8 ⟨Nat.le_of_ble_eq_true rfl, Nat.le_of_ble_eq_true rfl⟩) hS (fun q h1 h2 => absurd h2 (Nat.not_le.mpr h1)) (fun q h => hA q (Nat.le_trans hS.1 h)) (fun r_3 u t H1 locs ht hvm hw_3 hB hz1 hk1 hS => ?_)
  have hP := keepP hP hk1
  clear hz1 hk1 hB ht hvm hPc hDc hKc
  generalize H1 = H at hP hS ⊢
  obtain rfl : r_3 = nI ((fbl (8 * kq + nq)).toNatClampNeg) := hw_3
  have b_4 := (bd_cle0 hbl (show 8 * kq + nq < 80 by omega) : (fbl (8 * kq + nq)).toNatClampNeg ≤ 12)
  refine lv_icmp_lt (tgt := 16) hx hb dX0_sign_11 (by decide) (fun c_5 => ?_) (fun h => absurd (gn_lt (X := ((iq : Nat) : Int)) (C := (((fbl (8 * kq + nq)).toNatClampNeg : Nat) : Int)) (nI_toInt (by omega)) (nI_toInt (by omega)) h) (by omega))
  have b_6 := gx_lt (X := ((iq : Nat) : Int)) (C := (((fbl (8 * kq + nq)).toNatClampNeg : Nat) : Int)) (nI_toInt (by omega)) (nI_toInt (by omega)) c_5
  refine lv_aload_n hx hb dX0_sign_16 rfl (lv_at hl 0 rfl) ?_
  refine va_get (D := (dC, dI)) (ci := 0) (v := .ref e2) (C := RX0) (T := TX0) (N := 3) hx hb hts inB_0 hown hK hP 0 rfl rfl 2 (by decide) (hts _ mw_1_94) (fun _ h9 => h9) rfl dX0_sign_17 ?_
  refine lv_iload_n hx hb dX0_sign_20 rfl (lv_at hl 1 rfl) ?_
  refine lv_bipush (v := 8) hx hb dX0_sign_21 (by decide) ?_
  refine lv_imul hx hb dX0_sign_23 ?_
  refine hx_top (y := (nI (kq * 8))) (pk_mul kq 8) ?_
  refine lv_iload_n hx hb dX0_sign_24 rfl (lv_at hl 2 rfl) ?_
  refine lv_iadd hx hb dX0_sign_25 ?_
  refine hx_top (y := (nI ((kq * 8) + nq))) (nI_add (kq * 8) nq) ?_
  refine lv_bipush (v := 12) hx hb dX0_sign_26 (by decide) ?_
  refine lv_imul hx hb dX0_sign_28 ?_
  refine hx_top (y := (nI (((kq * 8) + nq) * 12))) (pk_mul ((kq * 8) + nq) 12) ?_
  refine lv_iload_n hx hb dX0_sign_29 rfl (lv_at hl 3 rfl) ?_
  refine lv_iadd hx hb dX0_sign_30 ?_
  refine hx_top (y := (nI ((((kq * 8) + nq) * 12) + iq))) (nI_add (((kq * 8) + nq) * 12) iq) ?_
  refine va_cald hx hb hK hP 2 1 rfl rfl (show vp_in (nI ((((kq * 8) + nq) * 12) + iq)) 960 from vp_in_nI (by omega) (by omega)) dX0_sign_31 ?_
  refine hx_top (y := (fbs ((((kq * 8) + nq) * 12) + iq))) (congrArg _ (nI_clamp (by omega))) ?_
  exact W.zret (v := (fbs ((((kq * 8) + nq) * 12) + iq))) hx hb hr (hbs _) (fun t ht hW => ⟨⟨(fbs ((((kq * 8) + nq) * 12) + iq)), (), rfl, (by rw [show (((kq * 8) + nq) * 12) + iq = 12 * (8 * kq + nq) + iq from (by omega)]), trivial⟩, hS.F ht⟩) hS.2.2 dX0_sign_32
set_option maxHeartbeats 4000000 in
set_option maxRecDepth 100000 in
theorem c_give (l : Launch) (dC : Nat → ClassId) (dI : Nat → Nat → Nat) (sz : Nat) (h0 : Nat) (e0 : Nat) (e1 : Nat) (e2 : Nat) (ke0 : ClassId) (fo : Nat → Int32) (ke1 : ClassId) (fbl : Nat → Int32) (ke2 : ClassId) (fbs : Nat → Int32) (p2 : Nat) (d0 : Nat) (pn : Nat) (kd0 : ClassId) (fps : Nat → Int32) (kq : Nat) (nq : Nat) (hbl : BdOk 80 12 fbl) (hbs : ChOk fbs) (hpn : pn ≤ 12) (hch : ChOk fps) (hkq : kq < 10) (hnq : nq < 8) : Met l yX0_give (wq yX0_give cX0_give 7 none) ({ frames := 2, cells := 0, slots := 0, locals := 41 }) (va_Pc [.ref h0, .int (nI kq), .int (nI nq), .ref p2] (pcW dC dI [(ke0, .int), (ke1, .int), (ke2, .char), (kd0, .char)] [(h0, .inr (0, [.ref e0, .ref e1, .ref e2])), (e0, .inl (ke0, 8, .inl fo)), (e1, .inl (ke1, 80, .inl fbl)), (e2, .inl (ke2, 960, .inl fbs)), (p2, .inr (2, [.ref d0, .int (nI pn)])), (d0, .inl (kd0, 12, .inl fps))] sz)) (va_Qv (fun _ : Unit => True) (fun _ t => ∃ (fo2 : Nat → Int32) (fbl2 : Nat → Int32) (fbs2 : Nat → Int32), (BdOk 80 12 fbl2) ∧ (ChOk fbs2) ∧ (fo2 = upd fo nq (fo nq ||| ((1 : Int32) <<< (nI kq &&& 31)))) ∧ (fbl2 = upd fbl (8 * kq + nq) (nI pn)) ∧ (fbs2 = cpF fbs (12 * (8 * kq + nq)) fps pn) ∧ va_P (dC, dI) vwCl [(h0, .inr (0, [.ref e0, .ref e1, .ref e2])), (e0, .inl (ke0, 8, .inl fo2)), (e1, .inl (ke1, 80, .inl fbl2)), (e2, .inl (ke2, 960, .inl fbs2)), (p2, .inr (2, [.ref d0, .int (nI pn)])), (d0, .inl (kd0, 12, .inl fps))] t.heap ∧ va_K (dC, dI) vwCl [(ke0, .int), (ke1, .int), (ke2, .char), (kd0, .char)] t ∧ va_D (va_A [(h0, .inr (0, [.ref e0, .ref e1, .ref e2])), (e0, .inl (ke0, 8, .inl fo)), (e1, .inl (ke1, 80, .inl fbl)), (e2, .inl (ke2, 960, .inl fbs)), (p2, .inr (2, [.ref d0, .int (nI pn)])), (d0, .inl (kd0, 12, .inl fps))] sz) [(h0, .inr (0, [.ref e0, .ref e1, .ref e2])), (e0, .inl (ke0, 8, .inl fo2)), (e1, .inl (ke1, 80, .inl fbl2)), (e2, .inl (ke2, 960, .inl fbs2)), (p2, .inr (2, [.ref d0, .int (nI pn)])), (d0, .inl (kd0, 12, .inl fps))]) (va_A [(h0, .inr (0, [.ref e0, .ref e1, .ref e2])), (e0, .inl (ke0, 8, .inl fo)), (e1, .inl (ke1, 80, .inl fbl)), (e2, .inl (ke2, 960, .inl fbs)), (p2, .inr (2, [.ref d0, .int (nI pn)])), (d0, .inl (kd0, 12, .inl fps))] sz)) 0 0 (va_A [(h0, .inr (0, [.ref e0, .ref e1, .ref e2])), (e0, .inl (ke0, 8, .inl fo)), (e1, .inl (ke1, 80, .inl fbl)), (e2, .inl (ke2, 960, .inl fbs)), (p2, .inr (2, [.ref d0, .int (nI pn)])), (d0, .inl (kd0, 12, .inl fps))] sz) := by
  refine Met.ofW (cc := cX0_give) (maxL := 7) (ret := none) (by decide) rfl ?_
  intro p e s m args below meth c s₁ B hml hv
  obtain ⟨rfl, hsz, hN, hP, hK, hD0⟩ := hv
  have hx := B.exec
  have hb := B.bytes
  have hr := B.returns
  have hts0 := atoms_spec (ws := (wq yX0_give cX0_give 7 none)) B.pre
  have hts : ∀ w ∈ BG, w.before _ s = true := fun w h => hts0 w (List.mem_cons_of_mem _ h)
  have hown : s.vm.findClass RX0 = some m.cls := findClass_of_methodNamed B.named
  have hlocks := B.notSynchronized
  subst hsz
  have hD := hD0.self (sz := s.heap.size)
  generalize hAe : va_A [(h0, .inr (0, [.ref e0, .ref e1, .ref e2])), (e0, .inl (ke0, 8, .inl fo)), (e1, .inl (ke1, 80, .inl fbl)), (e2, .inl (ke2, 960, .inl fbs)), (p2, .inr (2, [.ref d0, .int (nI pn)])), (d0, .inl (kd0, 12, .inl fps))] s.heap.size = A at hD ⊢
  have hA : ∀ q : Nat, s.heap.size ≤ q → A q := fun q h => by rw [← hAe]; exact Or.inr h
  have hS : va_S A s.heap s.heap [] := va_S.rf
  clear hAe hD0
  have hP : va_P (dC, dI) vwCl [(h0, .inr (0, [.ref e0, .ref e1, .ref e2])), (e0, .inl (ke0, 8, .inl fo)), (e1, .inl (ke1, 80, .inl fbl)), (e2, .inl (ke2, 960, .inl fbs)), (p2, .inr (2, [.ref d0, .int (nI pn)])), (d0, .inl (kd0, 12, .inl fps))] s.heap := hP
  have hl := lv_entry ([.ref h0, .int (nI kq), .int (nI nq), .ref p2]) (n := 7) (Nat.le_of_ble_eq_true rfl)
  rw [lg_entry_eq]
  generalize (lg_sl ([.ref h0, .int (nI kq), .int (nI nq), .ref p2]) ++ List.replicate (7 - (lg_sl ([.ref h0, .int (nI kq), .int (nI nq), .ref p2])).length) Slot.unset).toArray = ls at hl ⊢
  have hl : lv_has ls 7 [(0, .ref h0), (1, .int (nI kq)), (2, .int (nI nq)), (3, .ref p2)] := hl
  have ykq : Int32.toInt (nI kq) = ((kq : Nat) : Int) := nI_toInt (by omega)
  have ynq : Int32.toInt (nI nq) = ((nq : Nat) : Int) := nI_toInt (by omega)
  refine lv_iload_n hx hb dX0_give_0 rfl (lv_at hl 1 rfl) ?_
  refine lv_iload_n hx hb dX0_give_1 rfl (lv_at hl 2 rfl) ?_
  have hPc := hP.sub (ws' := []) [] rfl
  have hDc := hD.sub (ws' := []) [] (by decide) rfl
  have hKc := hK.sub (tys' := []) [] rfl
  refine va_calli (va_runS (As := [.int (nI kq), .int (nI nq)]) (rest := []) ⟨hx, hb, hml, hown, hts⟩ (c_isBody l dC dI s.heap.size (nI kq) (nI nq) ) (va_cwS 2 hts (gS mw_2_114 mw_2_115 mw_1_5 mw_2_116) rfl rfl rfl (by decide +kernel) ⟨Nat.le_of_ble_eq_true rfl, Nat.le_of_ble_eq_true rfl⟩) ⟨pcW_blind, pcW_at hPc hKc hDc hN⟩ rfl rfl hl.1 rfl (lv_room (Nat.le_of_ble_eq_true rfl)) dX0_give_2 ⟨Nat.le_of_ble_eq_true rfl, Nat.le_of_ble_eq_true rfl⟩) hS (fun q h1 h2 => absurd h2 (Nat.not_le.mpr h1)) (fun q h => hA q (Nat.le_trans hS.1 h)) (fun r_1 u t H1 locs ht hvm hw_1 hB hz1 hk1 hS => ?_)
  have hP := keepP hP hk1
  clear hz1 hk1 hB ht hvm hPc hDc hKc
  generalize H1 = H at hP hS ⊢
  obtain rfl : r_1 = 1 := hw_1.trans (if_pos (by omega))
  refine lv_if_ne (tgt := 9) hx hb dX0_give_5 (by decide) (fun _ => ?_) (fun h => absurd h (by decide))
  refine lv_iload_n hx hb dX0_give_9 rfl (lv_at hl 1 rfl) ?_
  refine lv_bipush (v := 8) hx hb dX0_give_10 (by decide) ?_
  refine lv_imul hx hb dX0_give_12 ?_
  refine hx_top (y := (nI (kq * 8))) (pk_mul kq 8) ?_
  refine lv_iload_n hx hb dX0_give_13 rfl (lv_at hl 2 rfl) ?_
  refine lv_iadd hx hb dX0_give_14 ?_
  refine hx_top (y := (nI ((kq * 8) + nq))) (nI_add (kq * 8) nq) ?_
  refine lv_istore (lv' := [(4, .int (nI ((kq * 8) + nq))), (0, .ref h0), (1, .int (nI kq)), (2, .int (nI nq)), (3, .ref p2)]) hx hb dX0_give_15 hl (by decide) rfl (fun ls hl => ?_)
  refine lv_aload_n hx hb dX0_give_17 rfl (lv_at hl 4 rfl) ?_
  have hPc := hP.sub (ws' := [(p2, .inr (2, [.ref d0, .int (nI pn)]))]) [4] rfl
  have hDc := hD.sub (ws' := [(p2, .inr (2, [.ref d0, .int (nI pn)]))]) [4] (by decide) rfl
  have hKc := hK.sub (tys' := []) [] rfl
  refine va_calli (va_runV (As := []) (rest := []) ⟨hx, hb, hml, hown, hts⟩ (c_pLen l dC dI H.size p2 (.ref d0) pn ) (cwV 0 hts (gV mw_2_117 mw_2_118 mw_2_119 mw_1_4 mw_2_120) rfl rfl rfl (by decide +kernel) ⟨Nat.le_of_ble_eq_true rfl, Nat.le_of_ble_eq_true rfl⟩) ⟨pcW_blind, va_recv hKc hPc (ci := 2) (q0 := 0) rfl rfl, pcW_at hPc hKc hDc hN⟩ rfl rfl hl.1 rfl (lv_room (Nat.le_of_ble_eq_true rfl)) dX0_give_18 ⟨Nat.le_of_ble_eq_true rfl, Nat.le_of_ble_eq_true rfl⟩) hS (fun q h1 h2 => absurd h2 (Nat.not_le.mpr h1)) (fun q h => hA q (Nat.le_trans hS.1 h)) (fun r_3 u t H1 locs ht hvm hw_3 hB hz1 hk1 hS => ?_)
  have hP := keepP hP hk1
  clear hz1 hk1 hB ht hvm hPc hDc hKc
  generalize H1 = H at hP hS ⊢
  obtain rfl : r_3 = nI pn := hw_3
  refine lv_bipush (v := 12) hx hb dX0_give_21 (by decide) ?_
  refine va_mmin hx hb (by rw [hml]; exact hl.1.symm) hown (hts _ mw_2_121) (hts _ mw_2_122) (hts _ mw_1_10) (hts _ mw_2_123) (Nat.le_of_ble_eq_true rfl) (Nat.le_of_ble_eq_true rfl) (Nat.le_of_ble_eq_true rfl) (Nat.le_of_ble_eq_true rfl) dX0_give_23 ?_
  refine lv_topi (fun z_4 ez_4 => ?_)
  have fz_4 := gx_min (X := ((pn : Nat) : Int)) (C := 12) (nI_toInt (by omega)) (by decide) ez_4
  refine lv_istore (lv' := [(5, .int z_4), (4, .int (nI ((kq * 8) + nq))), (0, .ref h0), (1, .int (nI kq)), (2, .int (nI nq)), (3, .ref p2)]) hx hb dX0_give_26 hl (by decide) rfl (fun ls hl => ?_)
  refine lv_iconst (v := 0) hx hb dX0_give_28 (by decide) ?_
  refine lv_istore (lv' := [(6, .int 0), (5, .int z_4), (4, .int (nI ((kq * 8) + nq))), (0, .ref h0), (1, .int (nI kq)), (2, .int (nI nq)), (3, .ref p2)]) hx hb dX0_give_29 hl (by decide) rfl (fun ls hl => ?_)
  obtain ⟨j_7, tj_7, ej_7⟩ := fx_nat (x := z_4) (by omega)
  subst ej_7
  have yj_7 : Int32.toInt (nI j_7) = (j_7 : Int) := nI_toInt tj_7
  obtain rfl : pn = j_7 := (by omega)
  have key_5 : ∀ (fu : Nat) (k : Nat) (fbx : Nat → Int32), (k ≤ pn) → (ChOk fbx) → (fbx = cpF fbs (12 * (8 * kq + nq)) fps k) → pn - k < fu → ∀ (H : Heap) (locs : List Loc), va_P (dC, dI) vwCl [(h0, .inr (0, [.ref e0, .ref e1, .ref e2])), (e0, .inl (ke0, 8, .inl fo)), (e1, .inl (ke1, 80, .inl fbl)), (e2, .inl (ke2, 960, .inl fbx)), (p2, .inr (2, [.ref d0, .int (nI pn)])), (d0, .inl (kd0, 12, .inl fps))] H → va_D A [(h0, .inr (0, [.ref e0, .ref e1, .ref e2])), (e0, .inl (ke0, 8, .inl fo)), (e1, .inl (ke1, 80, .inl fbl)), (e2, .inl (ke2, 960, .inl fbx)), (p2, .inr (2, [.ref d0, .int (nI pn)])), (d0, .inl (kd0, 12, .inl fps))] → va_S A s.heap H locs → ∀ (ls : Array Slot), lv_has ls 7 [(6, .int (nI k)), (5, .int (nI pn)), (4, .int (nI ((kq * 8) + nq))), (0, .ref h0), (1, .int (nI kq)), (2, .int (nI nq)), (3, .ref p2)] → W p l e (headSpec (wq yX0_give cX0_give 7 none) ({ frames := 2, cells := 0, slots := 0, locals := 41 })).room s m (([.ref h0, .int (nI kq), .int (nI nq), .ref p2] : List Value)).toArray below meth c H locs 0 0 (MQ below (va_Qv (fun _ : Unit => True) (fun _ t => ∃ (fo2 : Nat → Int32) (fbl2 : Nat → Int32) (fbs2 : Nat → Int32), (BdOk 80 12 fbl2) ∧ (ChOk fbs2) ∧ (fo2 = upd fo nq (fo nq ||| ((1 : Int32) <<< (nI kq &&& 31)))) ∧ (fbl2 = upd fbl (8 * kq + nq) (nI pn)) ∧ (fbs2 = cpF fbs (12 * (8 * kq + nq)) fps pn) ∧ va_P (dC, dI) vwCl [(h0, .inr (0, [.ref e0, .ref e1, .ref e2])), (e0, .inl (ke0, 8, .inl fo2)), (e1, .inl (ke1, 80, .inl fbl2)), (e2, .inl (ke2, 960, .inl fbs2)), (p2, .inr (2, [.ref d0, .int (nI pn)])), (d0, .inl (kd0, 12, .inl fps))] t.heap ∧ va_K (dC, dI) vwCl [(ke0, .int), (ke1, .int), (ke2, .char), (kd0, .char)] t ∧ va_D A [(h0, .inr (0, [.ref e0, .ref e1, .ref e2])), (e0, .inl (ke0, 8, .inl fo2)), (e1, .inl (ke1, 80, .inl fbl2)), (e2, .inl (ke2, 960, .inl fbs2)), (p2, .inr (2, [.ref d0, .int (nI pn)])), (d0, .inl (kd0, 12, .inl fps))]) A) (([.ref h0, .int (nI kq), .int (nI nq), .ref p2] : List Value)).toArray s 0 0 A) (F0 m 31 ls []) := by
    intro fu
    induction fu with
    | zero => intro k fbx hk hfx hcp hme; exact absurd hme (Nat.not_lt_zero _)
    | succ fu ih_6 =>
      intro k fbx hk hfx hcp hme H locs hP hD hS ls hl
      refine lv_iload hx hb dX0_give_31 (lv_at hl 0 rfl) ?_
      refine lv_iload hx hb dX0_give_33 (lv_at hl 1 rfl) ?_
      refine lv_icmp_ge (tgt := 63) hx hb dX0_give_35 (by decide) (fun c_8 => ?_) (fun c_8 => ?_)
      · have b_9 := gx_ge (X := ((k : Nat) : Int)) (C := ((pn : Nat) : Int)) (nI_toInt (by omega)) (nI_toInt (by omega)) c_8
        refine lv_aload_n hx hb dX0_give_63 rfl (lv_at hl 3 rfl) ?_
        refine va_get (D := (dC, dI)) (ci := 0) (v := .ref e1) (C := RX0) (T := TX0) (N := 3) hx hb hts inB_0 hown hK hP 0 rfl rfl 1 (by decide) (hts _ mw_1_93) (fun _ h9 => h9) rfl dX0_give_64 ?_
        refine lv_iload hx hb dX0_give_67 (lv_at hl 2 rfl) ?_
        refine lv_iload hx hb dX0_give_69 (lv_at hl 1 rfl) ?_
        refine va_iast hx hb hK hP hD hS 2 1 rfl rfl (show vp_in (nI ((kq * 8) + nq)) 80 from vp_in_nI (by omega) (by omega)) dX0_give_71 (fun H locs hP hD hS => ?_)
        obtain ⟨f_10, ef_10⟩ : ∃ g : Nat → Int32, g = upd fbl (Int32.toNatClampNeg (nI ((kq * 8) + nq))) (nI pn) := ⟨_, rfl⟩
        rw [← ef_10] at hP hD
        have ef_10 : f_10 = upd fbl ((kq * 8) + nq) (nI pn) := by rw [ef_10, nI_clamp (by omega)]
        have pf_10 : BdOk 80 12 f_10 := by rw [ef_10]; exact bd_upd (z := pn) hbl (by omega)
        have hP : va_P (dC, dI) vwCl [(h0, .inr (0, [.ref e0, .ref e1, .ref e2])), (e0, .inl (ke0, 8, .inl fo)), (e1, .inl (ke1, 80, .inl f_10)), (e2, .inl (ke2, 960, .inl fbx)), (p2, .inr (2, [.ref d0, .int (nI pn)])), (d0, .inl (kd0, 12, .inl fps))] H := hP
        have hD : va_D A [(h0, .inr (0, [.ref e0, .ref e1, .ref e2])), (e0, .inl (ke0, 8, .inl fo)), (e1, .inl (ke1, 80, .inl f_10)), (e2, .inl (ke2, 960, .inl fbx)), (p2, .inr (2, [.ref d0, .int (nI pn)])), (d0, .inl (kd0, 12, .inl fps))] := hD
        refine lv_aload_n hx hb dX0_give_72 rfl (lv_at hl 3 rfl) ?_
        refine va_get (D := (dC, dI)) (ci := 0) (v := .ref e0) (C := RX0) (T := TX0) (N := 3) hx hb hts inB_0 hown hK hP 0 rfl rfl 0 (by decide) (hts _ mw_1_92) (fun _ h9 => h9) rfl dX0_give_73 ?_
        refine lv_iload_n hx hb dX0_give_76 rfl (lv_at hl 5 rfl) ?_
        refine lv_dup2_11 hx hb dX0_give_77 rfl rfl ?_
        refine va_iald hx hb hK hP 1 0 rfl rfl (show vp_in (nI nq) 8 from vp_in_nI (by omega) (by omega)) dX0_give_78 ?_
        refine hx_top (y := (fo nq)) (congrArg _ (nI_clamp (by omega))) ?_
        refine lv_iconst (v := 1) hx hb dX0_give_79 (by decide) ?_
        refine lv_iload_n hx hb dX0_give_80 rfl (lv_at hl 4 rfl) ?_
        refine lv_ishl hx hb dX0_give_81 ?_
        refine lv_ior hx hb dX0_give_82 ?_
        refine va_iast hx hb hK hP hD hS 1 0 rfl rfl (show vp_in (nI nq) 8 from vp_in_nI (by omega) (by omega)) dX0_give_83 (fun H locs hP hD hS => ?_)
        obtain ⟨f_11, ef_11⟩ : ∃ g : Nat → Int32, g = upd fo (Int32.toNatClampNeg (nI nq)) ((fo nq) ||| (1 <<< ((nI kq) &&& 31))) := ⟨_, rfl⟩
        rw [← ef_11] at hP hD
        have ef_11 : f_11 = upd fo nq ((fo nq) ||| (1 <<< ((nI kq) &&& 31))) := by rw [ef_11, nI_clamp (by omega)]
        have hP : va_P (dC, dI) vwCl [(h0, .inr (0, [.ref e0, .ref e1, .ref e2])), (e0, .inl (ke0, 8, .inl f_11)), (e1, .inl (ke1, 80, .inl f_10)), (e2, .inl (ke2, 960, .inl fbx)), (p2, .inr (2, [.ref d0, .int (nI pn)])), (d0, .inl (kd0, 12, .inl fps))] H := hP
        have hD : va_D A [(h0, .inr (0, [.ref e0, .ref e1, .ref e2])), (e0, .inl (ke0, 8, .inl f_11)), (e1, .inl (ke1, 80, .inl f_10)), (e2, .inl (ke2, 960, .inl fbx)), (p2, .inr (2, [.ref d0, .int (nI pn)])), (d0, .inl (kd0, 12, .inl fps))] := hD
        have hP9 := hP.sub (ws' := [(h0, .inr (0, [.ref e0, .ref e1, .ref e2])), (e0, .inl (ke0, 8, .inl f_11)), (e1, .inl (ke1, 80, .inl f_10)), (e2, .inl (ke2, 960, .inl fbx)), (p2, .inr (2, [.ref d0, .int (nI pn)])), (d0, .inl (kd0, 12, .inl fps))]) [0, 1, 2, 3, 4, 5] rfl
        have hD9 := hD.sub (ws' := [(h0, .inr (0, [.ref e0, .ref e1, .ref e2])), (e0, .inl (ke0, 8, .inl f_11)), (e1, .inl (ke1, 80, .inl f_10)), (e2, .inl (ke2, 960, .inl fbx)), (p2, .inr (2, [.ref d0, .int (nI pn)])), (d0, .inl (kd0, 12, .inl fps))]) [0, 1, 2, 3, 4, 5] (by decide) rfl
        have hK9 := hK.sub (tys' := [(ke0, .int), (ke1, .int), (ke2, .char), (kd0, .char)]) [0, 1, 2, 3] rfl
        exact W.vret hx hb hr (fun t ht hW => ⟨⟨(), rfl, trivial, f_11, f_10, fbx, pf_10, hfx, ef_11, (by rw [ef_10, Nat.mul_comm kq 8]), (by rw [hcp, show k = pn from (by omega)]), by rw [ht]; exact hP9, va_K.moved hW.alike hK9, hD9⟩, hS.F ht⟩) hS.2.2 dX0_give_84
      · have b_9 := gn_ge (X := ((k : Nat) : Int)) (C := ((pn : Nat) : Int)) (nI_toInt (by omega)) (nI_toInt (by omega)) c_8
        refine lv_aload_n hx hb dX0_give_38 rfl (lv_at hl 3 rfl) ?_
        refine va_get (D := (dC, dI)) (ci := 0) (v := .ref e2) (C := RX0) (T := TX0) (N := 3) hx hb hts inB_0 hown hK hP 0 rfl rfl 2 (by decide) (hts _ mw_1_94) (fun _ h9 => h9) rfl dX0_give_39 ?_
        refine lv_iload hx hb dX0_give_42 (lv_at hl 2 rfl) ?_
        refine lv_bipush (v := 12) hx hb dX0_give_44 (by decide) ?_
        refine lv_imul hx hb dX0_give_46 ?_
        refine hx_top (y := (nI (((kq * 8) + nq) * 12))) (pk_mul ((kq * 8) + nq) 12) ?_
        refine lv_iload hx hb dX0_give_47 (lv_at hl 0 rfl) ?_
        refine lv_iadd hx hb dX0_give_49 ?_
        refine hx_top (y := (nI ((((kq * 8) + nq) * 12) + k))) (nI_add (((kq * 8) + nq) * 12) k) ?_
        refine lv_aload_n hx hb dX0_give_50 rfl (lv_at hl 6 rfl) ?_
        refine lv_iload hx hb dX0_give_51 (lv_at hl 0 rfl) ?_
        have hPc := hP.sub (ws' := [(p2, .inr (2, [.ref d0, .int (nI pn)])), (d0, .inl (kd0, 12, .inl fps))]) [4, 5] rfl
        have hDc := hD.sub (ws' := [(p2, .inr (2, [.ref d0, .int (nI pn)])), (d0, .inl (kd0, 12, .inl fps))]) [4, 5] (by decide) rfl
        have hKc := hK.sub (tys' := [(kd0, .char)]) [3] rfl
        refine va_calli (va_runV (As := [.int (nI k)]) (rest := [.int (nI ((((kq * 8) + nq) * 12) + k)), .ref e2]) ⟨hx, hb, hml, hown, hts⟩ (c_pSign l dC dI H.size p2 d0 pn kd0 fps k (by omega) hpn hch) (cwV 1 hts (gV mw_2_124 mw_2_125 mw_2_126 mw_1_4 mw_2_127) rfl rfl rfl (by decide +kernel) ⟨Nat.le_of_ble_eq_true rfl, Nat.le_of_ble_eq_true rfl⟩) ⟨pcW_blind, va_recv hKc hPc (ci := 2) (q0 := 0) rfl rfl, pcW_at hPc hKc hDc hN⟩ rfl rfl hl.1 rfl (lv_room (Nat.le_of_ble_eq_true rfl)) dX0_give_53 ⟨Nat.le_of_ble_eq_true rfl, Nat.le_of_ble_eq_true rfl⟩) hS (fun q h1 h2 => absurd h2 (Nat.not_le.mpr h1)) (fun q h => hA q (Nat.le_trans hS.1 h)) (fun r_12 u t H1 locs ht hvm hw_12 hB hz1 hk1 hS => ?_)
        have hP := keepP hP hk1
        clear hz1 hk1 hB ht hvm hPc hDc hKc
        generalize H1 = H at hP hS ⊢
        obtain rfl : r_12 = (fps k) := hw_12
        refine va_cast hx hb hK hP hD hS 3 2 rfl rfl (show vp_in (nI ((((kq * 8) + nq) * 12) + k)) 960 from vp_in_nI (by omega) (by omega)) dX0_give_56 (fun H locs hP hD hS => ?_)
        obtain ⟨f_13, ef_13⟩ : ∃ g : Nat → Int32, g = upd fbx (Int32.toNatClampNeg (nI ((((kq * 8) + nq) * 12) + k))) (vp_nar .char (fps k)) := ⟨_, rfl⟩
        rw [← ef_13] at hP hD
        have ef_13 : f_13 = upd fbx ((((kq * 8) + nq) * 12) + k) (vp_nar .char (fps k)) := by rw [ef_13, nI_clamp (by omega)]
        have pf_13 : ChOk f_13 := by rw [ef_13]; exact ch_upd hfx
        have hP : va_P (dC, dI) vwCl [(h0, .inr (0, [.ref e0, .ref e1, .ref e2])), (e0, .inl (ke0, 8, .inl fo)), (e1, .inl (ke1, 80, .inl fbl)), (e2, .inl (ke2, 960, .inl f_13)), (p2, .inr (2, [.ref d0, .int (nI pn)])), (d0, .inl (kd0, 12, .inl fps))] H := hP
        have hD : va_D A [(h0, .inr (0, [.ref e0, .ref e1, .ref e2])), (e0, .inl (ke0, 8, .inl fo)), (e1, .inl (ke1, 80, .inl fbl)), (e2, .inl (ke2, 960, .inl f_13)), (p2, .inr (2, [.ref d0, .int (nI pn)])), (d0, .inl (kd0, 12, .inl fps))] := hD
        refine lv_iinc (v := (nI (k + 1))) (lv' := [(6, .int (nI (k + 1))), (5, .int (nI pn)), (4, .int (nI ((kq * 8) + nq))), (0, .ref h0), (1, .int (nI kq)), (2, .int (nI nq)), (3, .ref p2)]) hx hb dX0_give_57 hl (k := 0) rfl (nI_add k 1) (by decide) rfl (fun ls hl => ?_)
        refine lv_goto (tgt := 31) hx hb dX0_give_60 (by decide) ?_
        exact ih_6 (k + 1) f_13 (by omega) pf_13 (cp_step hcp (show f_13 = upd fbx ((12 * (8 * kq + nq)) + k) (fps k) from by rw [ef_13, ch_id hch, show (((kq * 8) + nq) * 12) + k = (12 * (8 * kq + nq)) + k from (by omega)])) (by omega) _ _ hP hD hS ls (lv_sub hl [0, 1, 2, 3, 4, 5, 6] rfl)
  exact key_5 ((pn - 0) + 1) 0 fbs (by omega) hbs cp_0 (Nat.lt_succ_self _) _ _ hP hD hS ls (lv_sub hl [0, 1, 2, 3, 4, 5, 6] rfl)
