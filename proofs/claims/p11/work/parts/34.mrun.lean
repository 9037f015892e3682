theorem mw_3_200 : Cond.fieldLink RX9 153 "AnswerLinesModel" "open" "I" ∈ BG := mB (t3 (i := 200) (by decide +kernel)) (by decide +kernel)
theorem mw_3_204 : Cond.fieldLink RX9 159 "AnswerLinesModel" "endIs" "I" ∈ BG := mB (t3 (i := 204) (by decide +kernel)) (by decide +kernel)
theorem mw_3_201 : Cond.fieldLink RX9 156 "AnswerLinesModel" "worked" "I" ∈ BG := mB (t3 (i := 201) (by decide +kernel)) (by decide +kernel)
theorem mw_3_197 : Cond.fieldLink RX9 50 "AnswerLinesModel" "openPlace" "[I" ∈ BG := mB (t3 (i := 197) (by decide +kernel)) (by decide +kernel)
theorem mw_3_198 : Cond.fieldLink RX9 53 "AnswerLinesModel" "openName" "[I" ∈ BG := mB (t3 (i := 198) (by decide +kernel)) (by decide +kernel)
theorem mw_3_199 : Cond.fieldLink RX9 56 "AnswerLinesModel" "openSign" "[I" ∈ BG := mB (t3 (i := 199) (by decide +kernel)) (by decide +kernel)
theorem mw_3_203 : Cond.fieldLink RX9 162 "AnswerLinesModel" "saidMany" "I" ∈ BG := mB (t3 (i := 203) (by decide +kernel)) (by decide +kernel)
theorem mw_3_202 : Cond.fieldLink RX9 59 "AnswerLinesModel" "said" "[I" ∈ BG := mB (t3 (i := 202) (by decide +kernel)) (by decide +kernel)
theorem mw_4_158 : Cond.code yX9_begin cX9_begin 5 none ∈ BG := mB (t4 (i := 158) rfl) (by decide +kernel)
theorem mw_4_155 : Cond.methodLink RX9 165 yX9_begin ∈ BG := mB (t4 (i := 155) (by decide +kernel)) (by decide +kernel)
theorem mw_4_157 : Cond.instanceMethod yX9_begin ∈ BG := mB (t4 (i := 157) (by decide +kernel)) (by decide +kernel)
theorem mw_0_24 : Cond.selects RX9 yX9_begin yX9_begin ∈ BG := mB (t0 (i := 24) (by decide +kernel)) (by decide +kernel)
theorem mw_4_162 : Cond.code yX9_work cX9_work 4 none ∈ BG := mB (t4 (i := 162) rfl) (by decide +kernel)
theorem mw_4_159 : Cond.methodLink RX9 169 yX9_work ∈ BG := mB (t4 (i := 159) (by decide +kernel)) (by decide +kernel)
theorem mw_4_161 : Cond.instanceMethod yX9_work ∈ BG := mB (t4 (i := 161) (by decide +kernel)) (by decide +kernel)
theorem mw_0_25 : Cond.selects RX9 yX9_work yX9_work ∈ BG := mB (t0 (i := 25) (by decide +kernel)) (by decide +kernel)
theorem mw_4_154 : Cond.code yX9_runAll cX9_runAll 6 none ∈ BG := mB (t4 (i := 154) rfl) (by decide +kernel)
theorem mw_4_151 : Cond.methodLink RX9 172 yX9_runAll ∈ BG := mB (t4 (i := 151) (by decide +kernel)) (by decide +kernel)
theorem mw_4_153 : Cond.instanceMethod yX9_runAll ∈ BG := mB (t4 (i := 153) (by decide +kernel)) (by decide +kernel)
theorem mw_0_23 : Cond.selects RX9 yX9_runAll yX9_runAll ∈ BG := mB (t0 (i := 23) (by decide +kernel)) (by decide +kernel)
theorem dX9_begin_0 : decode cX9_begin 0 = .ok (.aload_n 0, 1) := by decide +kernel
theorem dX9_begin_1 : decode cX9_begin 1 = .ok (.iload_n 1, 1) := by decide +kernel
theorem dX9_begin_2 : decode cX9_begin 2 = .ok (.iload_n 2, 1) := by decide +kernel
theorem dX9_begin_3 : decode cX9_begin 3 = .ok (.iload_n 3, 1) := by decide +kernel
theorem dX9_begin_4 : decode cX9_begin 4 = .ok (.invokevirtual 146, 3) := by decide +kernel
theorem dX9_begin_7 : decode cX9_begin 7 = .ok (.istore 4, 2) := by decide +kernel
theorem dX9_begin_9 : decode cX9_begin 9 = .ok (.aload_n 0, 1) := by decide +kernel
theorem dX9_begin_10 : decode cX9_begin 10 = .ok (.getfield 153, 3) := by decide +kernel
theorem dX9_begin_13 : decode cX9_begin 13 = .ok (.bipush 9, 2) := by decide +kernel
theorem dX9_begin_15 : decode cX9_begin 15 = .ok (.if_icmp .eq 13, 3) := by decide +kernel
theorem dX9_begin_28 : decode cX9_begin 28 = .ok (.aload_n 0, 1) := by decide +kernel
theorem dX9_begin_29 : decode cX9_begin 29 = .ok (.iconst 2, 1) := by decide +kernel
theorem dX9_begin_30 : decode cX9_begin 30 = .ok (.putfield 159, 3) := by decide +kernel
theorem dX9_begin_33 : decode cX9_begin 33 = .ok (.goto 67, 3) := by decide +kernel
theorem dX9_begin_100 : decode cX9_begin 100 = .ok (.return_, 1) := by decide +kernel
theorem dX9_begin_18 : decode cX9_begin 18 = .ok (.aload_n 0, 1) := by decide +kernel
theorem dX9_begin_19 : decode cX9_begin 19 = .ok (.getfield 156, 3) := by decide +kernel
theorem dX9_begin_22 : decode cX9_begin 22 = .ok (.sipush 200, 3) := by decide +kernel
theorem dX9_begin_25 : decode cX9_begin 25 = .ok (.if_icmp .ne 11, 3) := by decide +kernel
theorem dX9_begin_36 : decode cX9_begin 36 = .ok (.iload 4, 2) := by decide +kernel
theorem dX9_begin_38 : decode cX9_begin 38 = .ok (.ifCond .ge 11, 3) := by decide +kernel
theorem dX9_begin_41 : decode cX9_begin 41 = .ok (.aload_n 0, 1) := by decide +kernel
theorem dX9_begin_42 : decode cX9_begin 42 = .ok (.iconst 1, 1) := by decide +kernel
theorem dX9_begin_43 : decode cX9_begin 43 = .ok (.putfield 159, 3) := by decide +kernel
theorem dX9_begin_46 : decode cX9_begin 46 = .ok (.goto 54, 3) := by decide +kernel
theorem dX9_begin_49 : decode cX9_begin 49 = .ok (.aload_n 0, 1) := by decide +kernel
theorem dX9_begin_50 : decode cX9_begin 50 = .ok (.dup, 1) := by decide +kernel
theorem dX9_begin_51 : decode cX9_begin 51 = .ok (.getfield 156, 3) := by decide +kernel
theorem dX9_begin_54 : decode cX9_begin 54 = .ok (.iconst 1, 1) := by decide +kernel
theorem dX9_begin_55 : decode cX9_begin 55 = .ok (.iadd, 1) := by decide +kernel
theorem dX9_begin_56 : decode cX9_begin 56 = .ok (.putfield 156, 3) := by decide +kernel
theorem dX9_begin_59 : decode cX9_begin 59 = .ok (.aload_n 0, 1) := by decide +kernel
theorem dX9_begin_60 : decode cX9_begin 60 = .ok (.getfield 50, 3) := by decide +kernel
theorem dX9_begin_63 : decode cX9_begin 63 = .ok (.aload_n 0, 1) := by decide +kernel
theorem dX9_begin_64 : decode cX9_begin 64 = .ok (.getfield 153, 3) := by decide +kernel
theorem dX9_begin_67 : decode cX9_begin 67 = .ok (.iload 4, 2) := by decide +kernel
theorem dX9_begin_69 : decode cX9_begin 69 = .ok (.iastore, 1) := by decide +kernel
theorem dX9_begin_70 : decode cX9_begin 70 = .ok (.aload_n 0, 1) := by decide +kernel
theorem dX9_begin_71 : decode cX9_begin 71 = .ok (.getfield 53, 3) := by decide +kernel
theorem dX9_begin_74 : decode cX9_begin 74 = .ok (.aload_n 0, 1) := by decide +kernel
theorem dX9_begin_75 : decode cX9_begin 75 = .ok (.getfield 153, 3) := by decide +kernel
theorem dX9_begin_78 : decode cX9_begin 78 = .ok (.iload_n 2, 1) := by decide +kernel
theorem dX9_begin_79 : decode cX9_begin 79 = .ok (.iastore, 1) := by decide +kernel
theorem dX9_begin_80 : decode cX9_begin 80 = .ok (.aload_n 0, 1) := by decide +kernel
theorem dX9_begin_81 : decode cX9_begin 81 = .ok (.getfield 56, 3) := by decide +kernel
theorem dX9_begin_84 : decode cX9_begin 84 = .ok (.aload_n 0, 1) := by decide +kernel
theorem dX9_begin_85 : decode cX9_begin 85 = .ok (.getfield 153, 3) := by decide +kernel
theorem dX9_begin_88 : decode cX9_begin 88 = .ok (.iconst 0, 1) := by decide +kernel
theorem dX9_begin_89 : decode cX9_begin 89 = .ok (.iastore, 1) := by decide +kernel
theorem dX9_begin_90 : decode cX9_begin 90 = .ok (.aload_n 0, 1) := by decide +kernel
theorem dX9_begin_91 : decode cX9_begin 91 = .ok (.dup, 1) := by decide +kernel
theorem dX9_begin_92 : decode cX9_begin 92 = .ok (.getfield 153, 3) := by decide +kernel
theorem dX9_begin_95 : decode cX9_begin 95 = .ok (.iconst 1, 1) := by decide +kernel
theorem dX9_begin_96 : decode cX9_begin 96 = .ok (.iadd, 1) := by decide +kernel
theorem dX9_begin_97 : decode cX9_begin 97 = .ok (.putfield 153, 3) := by decide +kernel
theorem dX9_work_0 : decode cX9_work 0 = .ok (.iload_n 2, 1) := by decide +kernel
theorem dX9_work_1 : decode cX9_work 1 = .ok (.bipush 94, 2) := by decide +kernel
theorem dX9_work_3 : decode cX9_work 3 = .ok (.if_icmp .ne 25, 3) := by decide +kernel
theorem dX9_work_28 : decode cX9_work 28 = .ok (.iload_n 2, 1) := by decide +kernel
theorem dX9_work_29 : decode cX9_work 29 = .ok (.bipush 97, 2) := by decide +kernel
theorem dX9_work_31 : decode cX9_work 31 = .ok (.if_icmp .lt 16, 3) := by decide +kernel
theorem dX9_work_47 : decode cX9_work 47 = .ok (.aload_n 0, 1) := by decide +kernel
theorem dX9_work_48 : decode cX9_work 48 = .ok (.getfield 162, 3) := by decide +kernel
theorem dX9_work_51 : decode cX9_work 51 = .ok (.bipush 40, 2) := by decide +kernel
theorem dX9_work_53 : decode cX9_work 53 = .ok (.if_icmp .ne 11, 3) := by decide +kernel
theorem dX9_work_64 : decode cX9_work 64 = .ok (.aload_n 0, 1) := by decide +kernel
theorem dX9_work_65 : decode cX9_work 65 = .ok (.getfield 59, 3) := by decide +kernel
theorem dX9_work_68 : decode cX9_work 68 = .ok (.aload_n 0, 1) := by decide +kernel
theorem dX9_work_69 : decode cX9_work 69 = .ok (.getfield 162, 3) := by decide +kernel
theorem dX9_work_72 : decode cX9_work 72 = .ok (.iload_n 2, 1) := by decide +kernel
theorem dX9_work_73 : decode cX9_work 73 = .ok (.bipush 48, 2) := by decide +kernel
theorem dX9_work_75 : decode cX9_work 75 = .ok (.isub, 1) := by decide +kernel
theorem dX9_work_76 : decode cX9_work 76 = .ok (.iastore, 1) := by decide +kernel
theorem dX9_work_77 : decode cX9_work 77 = .ok (.aload_n 0, 1) := by decide +kernel
theorem dX9_work_78 : decode cX9_work 78 = .ok (.dup, 1) := by decide +kernel
theorem dX9_work_79 : decode cX9_work 79 = .ok (.getfield 162, 3) := by decide +kernel
theorem dX9_work_82 : decode cX9_work 82 = .ok (.iconst 1, 1) := by decide +kernel
theorem dX9_work_83 : decode cX9_work 83 = .ok (.iadd, 1) := by decide +kernel
theorem dX9_work_84 : decode cX9_work 84 = .ok (.putfield 162, 3) := by decide +kernel
theorem dX9_work_87 : decode cX9_work 87 = .ok (.return_, 1) := by decide +kernel
theorem dX9_work_56 : decode cX9_work 56 = .ok (.aload_n 0, 1) := by decide +kernel
theorem dX9_work_57 : decode cX9_work 57 = .ok (.iconst 2, 1) := by decide +kernel
theorem dX9_work_58 : decode cX9_work 58 = .ok (.putfield 159, 3) := by decide +kernel
theorem dX9_work_61 : decode cX9_work 61 = .ok (.goto 26, 3) := by decide +kernel
theorem dX9_work_34 : decode cX9_work 34 = .ok (.aload_n 0, 1) := by decide +kernel
theorem dX9_work_35 : decode cX9_work 35 = .ok (.iload_n 1, 1) := by decide +kernel
theorem dX9_work_36 : decode cX9_work 36 = .ok (.iload_n 2, 1) := by decide +kernel
theorem dX9_work_37 : decode cX9_work 37 = .ok (.bipush 97, 2) := by decide +kernel
theorem dX9_work_39 : decode cX9_work 39 = .ok (.isub, 1) := by decide +kernel
theorem dX9_work_40 : decode cX9_work 40 = .ok (.iconst 0, 1) := by decide +kernel
theorem dX9_work_41 : decode cX9_work 41 = .ok (.invokevirtual 165, 3) := by decide +kernel
theorem dX9_work_44 : decode cX9_work 44 = .ok (.goto 43, 3) := by decide +kernel
theorem dX9_work_6 : decode cX9_work 6 = .ok (.aload_n 0, 1) := by decide +kernel
theorem dX9_work_7 : decode cX9_work 7 = .ok (.iload_n 1, 1) := by decide +kernel
theorem dX9_work_8 : decode cX9_work 8 = .ok (.aload_n 0, 1) := by decide +kernel
theorem dX9_work_9 : decode cX9_work 9 = .ok (.getfield 53, 3) := by decide +kernel
theorem dX9_work_12 : decode cX9_work 12 = .ok (.iload_n 3, 1) := by decide +kernel
theorem dX9_work_13 : decode cX9_work 13 = .ok (.iaload, 1) := by decide +kernel
theorem dX9_work_14 : decode cX9_work 14 = .ok (.aload_n 0, 1) := by decide +kernel
theorem dX9_work_15 : decode cX9_work 15 = .ok (.getfield 50, 3) := by decide +kernel
theorem dX9_work_18 : decode cX9_work 18 = .ok (.iload_n 3, 1) := by decide +kernel
theorem dX9_work_19 : decode cX9_work 19 = .ok (.iaload, 1) := by decide +kernel
theorem dX9_work_20 : decode cX9_work 20 = .ok (.iconst 1, 1) := by decide +kernel
theorem dX9_work_21 : decode cX9_work 21 = .ok (.iadd, 1) := by decide +kernel
theorem dX9_work_22 : decode cX9_work 22 = .ok (.invokevirtual 165, 3) := by decide +kernel
theorem dX9_work_25 : decode cX9_work 25 = .ok (.goto 62, 3) := by decide +kernel
theorem dX9_runAll_0 : decode cX9_runAll 0 = .ok (.aload_n 0, 1) := by decide +kernel
theorem dX9_runAll_1 : decode cX9_runAll 1 = .ok (.iconst 0, 1) := by decide +kernel
theorem dX9_runAll_2 : decode cX9_runAll 2 = .ok (.putfield 153, 3) := by decide +kernel
theorem dX9_runAll_5 : decode cX9_runAll 5 = .ok (.aload_n 0, 1) := by decide +kernel
theorem dX9_runAll_6 : decode cX9_runAll 6 = .ok (.iconst 0, 1) := by decide +kernel
theorem dX9_runAll_7 : decode cX9_runAll 7 = .ok (.putfield 156, 3) := by decide +kernel
theorem dX9_runAll_10 : decode cX9_runAll 10 = .ok (.aload_n 0, 1) := by decide +kernel
theorem dX9_runAll_11 : decode cX9_runAll 11 = .ok (.iconst 0, 1) := by decide +kernel
theorem dX9_runAll_12 : decode cX9_runAll 12 = .ok (.putfield 162, 3) := by decide +kernel
theorem dX9_runAll_15 : decode cX9_runAll 15 = .ok (.aload_n 0, 1) := by decide +kernel
theorem dX9_runAll_16 : decode cX9_runAll 16 = .ok (.iconst 0, 1) := by decide +kernel
theorem dX9_runAll_17 : decode cX9_runAll 17 = .ok (.putfield 159, 3) := by decide +kernel
theorem dX9_runAll_20 : decode cX9_runAll 20 = .ok (.aload_n 0, 1) := by decide +kernel
theorem dX9_runAll_21 : decode cX9_runAll 21 = .ok (.iload_n 1, 1) := by decide +kernel
theorem dX9_runAll_22 : decode cX9_runAll 22 = .ok (.iload_n 2, 1) := by decide +kernel
theorem dX9_runAll_23 : decode cX9_runAll 23 = .ok (.iconst 0, 1) := by decide +kernel
theorem dX9_runAll_24 : decode cX9_runAll 24 = .ok (.invokevirtual 165, 3) := by decide +kernel
theorem dX9_runAll_27 : decode cX9_runAll 27 = .ok (.aload_n 0, 1) := by decide +kernel
theorem dX9_runAll_28 : decode cX9_runAll 28 = .ok (.getfield 153, 3) := by decide +kernel
theorem dX9_runAll_31 : decode cX9_runAll 31 = .ok (.ifCond .le 113, 3) := by decide +kernel
theorem dX9_runAll_144 : decode cX9_runAll 144 = .ok (.return_, 1) := by decide +kernel
theorem dX9_runAll_34 : decode cX9_runAll 34 = .ok (.aload_n 0, 1) := by decide +kernel
theorem dX9_runAll_35 : decode cX9_runAll 35 = .ok (.getfield 159, 3) := by decide +kernel
theorem dX9_runAll_38 : decode cX9_runAll 38 = .ok (.ifCond .ne 106, 3) := by decide +kernel
theorem dX9_runAll_41 : decode cX9_runAll 41 = .ok (.aload_n 0, 1) := by decide +kernel
theorem dX9_runAll_42 : decode cX9_runAll 42 = .ok (.getfield 153, 3) := by decide +kernel
theorem dX9_runAll_45 : decode cX9_runAll 45 = .ok (.iconst 1, 1) := by decide +kernel
theorem dX9_runAll_46 : decode cX9_runAll 46 = .ok (.isub, 1) := by decide +kernel
theorem dX9_runAll_47 : decode cX9_runAll 47 = .ok (.istore_n 3, 1) := by decide +kernel
theorem dX9_runAll_48 : decode cX9_runAll 48 = .ok (.aload_n 0, 1) := by decide +kernel
theorem dX9_runAll_49 : decode cX9_runAll 49 = .ok (.getfield 23, 3) := by decide +kernel
theorem dX9_runAll_52 : decode cX9_runAll 52 = .ok (.bipush 10, 2) := by decide +kernel
theorem dX9_runAll_54 : decode cX9_runAll 54 = .ok (.iload_n 1, 1) := by decide +kernel
theorem dX9_runAll_55 : decode cX9_runAll 55 = .ok (.imul, 1) := by decide +kernel
theorem dX9_runAll_56 : decode cX9_runAll 56 = .ok (.aload_n 0, 1) := by decide +kernel
theorem dX9_runAll_57 : decode cX9_runAll 57 = .ok (.getfield 50, 3) := by decide +kernel
theorem dX9_runAll_60 : decode cX9_runAll 60 = .ok (.iload_n 3, 1) := by decide +kernel
theorem dX9_runAll_61 : decode cX9_runAll 61 = .ok (.iaload, 1) := by decide +kernel
theorem dX9_runAll_62 : decode cX9_runAll 62 = .ok (.iadd, 1) := by decide +kernel
theorem dX9_runAll_63 : decode cX9_runAll 63 = .ok (.iaload, 1) := by decide +kernel
theorem dX9_runAll_64 : decode cX9_runAll 64 = .ok (.aload_n 0, 1) := by decide +kernel
theorem dX9_runAll_65 : decode cX9_runAll 65 = .ok (.getfield 53, 3) := by decide +kernel
theorem dX9_runAll_68 : decode cX9_runAll 68 = .ok (.iload_n 3, 1) := by decide +kernel
theorem dX9_runAll_69 : decode cX9_runAll 69 = .ok (.iaload, 1) := by decide +kernel
theorem dX9_runAll_70 : decode cX9_runAll 70 = .ok (.invokestatic 138, 3) := by decide +kernel
theorem dX9_runAll_73 : decode cX9_runAll 73 = .ok (.istore 4, 2) := by decide +kernel
theorem dX9_runAll_75 : decode cX9_runAll 75 = .ok (.aload_n 0, 1) := by decide +kernel
theorem dX9_runAll_76 : decode cX9_runAll 76 = .ok (.getfield 56, 3) := by decide +kernel
theorem dX9_runAll_79 : decode cX9_runAll 79 = .ok (.iload_n 3, 1) := by decide +kernel
theorem dX9_runAll_80 : decode cX9_runAll 80 = .ok (.iaload, 1) := by decide +kernel
theorem dX9_runAll_81 : decode cX9_runAll 81 = .ok (.aload_n 0, 1) := by decide +kernel
theorem dX9_runAll_82 : decode cX9_runAll 82 = .ok (.getfield 44, 3) := by decide +kernel
theorem dX9_runAll_85 : decode cX9_runAll 85 = .ok (.iload 4, 2) := by decide +kernel
theorem dX9_runAll_87 : decode cX9_runAll 87 = .ok (.iaload, 1) := by decide +kernel
theorem dX9_runAll_88 : decode cX9_runAll 88 = .ok (.if_icmp .ne 16, 3) := by decide +kernel
theorem dX9_runAll_104 : decode cX9_runAll 104 = .ok (.aload_n 0, 1) := by decide +kernel
theorem dX9_runAll_105 : decode cX9_runAll 105 = .ok (.getfield 41, 3) := by decide +kernel
theorem dX9_runAll_108 : decode cX9_runAll 108 = .ok (.bipush 12, 2) := by decide +kernel
theorem dX9_runAll_110 : decode cX9_runAll 110 = .ok (.iload 4, 2) := by decide +kernel
theorem dX9_runAll_112 : decode cX9_runAll 112 = .ok (.imul, 1) := by decide +kernel
theorem dX9_runAll_113 : decode cX9_runAll 113 = .ok (.aload_n 0, 1) := by decide +kernel
theorem dX9_runAll_114 : decode cX9_runAll 114 = .ok (.getfield 56, 3) := by decide +kernel
theorem dX9_runAll_117 : decode cX9_runAll 117 = .ok (.iload_n 3, 1) := by decide +kernel
theorem dX9_runAll_118 : decode cX9_runAll 118 = .ok (.iaload, 1) := by decide +kernel
theorem dX9_runAll_119 : decode cX9_runAll 119 = .ok (.iadd, 1) := by decide +kernel
theorem dX9_runAll_120 : decode cX9_runAll 120 = .ok (.iaload, 1) := by decide +kernel
theorem dX9_runAll_121 : decode cX9_runAll 121 = .ok (.istore 5, 2) := by decide +kernel
theorem dX9_runAll_123 : decode cX9_runAll 123 = .ok (.aload_n 0, 1) := by decide +kernel
theorem dX9_runAll_124 : decode cX9_runAll 124 = .ok (.getfield 56, 3) := by decide +kernel
theorem dX9_runAll_127 : decode cX9_runAll 127 = .ok (.iload_n 3, 1) := by decide +kernel
theorem dX9_runAll_128 : decode cX9_runAll 128 = .ok (.dup2, 1) := by decide +kernel
theorem dX9_runAll_129 : decode cX9_runAll 129 = .ok (.iaload, 1) := by decide +kernel
theorem dX9_runAll_130 : decode cX9_runAll 130 = .ok (.iconst 1, 1) := by decide +kernel
theorem dX9_runAll_131 : decode cX9_runAll 131 = .ok (.iadd, 1) := by decide +kernel
theorem dX9_runAll_132 : decode cX9_runAll 132 = .ok (.iastore, 1) := by decide +kernel
theorem dX9_runAll_133 : decode cX9_runAll 133 = .ok (.aload_n 0, 1) := by decide +kernel
theorem dX9_runAll_134 : decode cX9_runAll 134 = .ok (.iload_n 1, 1) := by decide +kernel
theorem dX9_runAll_135 : decode cX9_runAll 135 = .ok (.iload 5, 2) := by decide +kernel
theorem dX9_runAll_137 : decode cX9_runAll 137 = .ok (.iload_n 3, 1) := by decide +kernel
theorem dX9_runAll_138 : decode cX9_runAll 138 = .ok (.invokevirtual 169, 3) := by decide +kernel
theorem dX9_runAll_141 : decode cX9_runAll 141 = .ok (.goto (-114), 3) := by decide +kernel
theorem dX9_runAll_91 : decode cX9_runAll 91 = .ok (.aload_n 0, 1) := by decide +kernel
theorem dX9_runAll_92 : decode cX9_runAll 92 = .ok (.dup, 1) := by decide +kernel
theorem dX9_runAll_93 : decode cX9_runAll 93 = .ok (.getfield 153, 3) := by decide +kernel
theorem dX9_runAll_96 : decode cX9_runAll 96 = .ok (.iconst 1, 1) := by decide +kernel
theorem dX9_runAll_97 : decode cX9_runAll 97 = .ok (.isub, 1) := by decide +kernel
theorem dX9_runAll_98 : decode cX9_runAll 98 = .ok (.putfield 153, 3) := by decide +kernel
theorem dX9_runAll_101 : decode cX9_runAll 101 = .ok (.goto 40, 3) := by decide +kernel
theorem dX9_run_0 : decode cX9_run 0 = .ok (.aload_n 0, 1) := by decide +kernel
theorem dX9_run_1 : decode cX9_run 1 = .ok (.iload_n 1, 1) := by decide +kernel
theorem dX9_run_2 : decode cX9_run 2 = .ok (.invokevirtual 96, 3) := by decide +kernel
theorem dX9_run_5 : decode cX9_run 5 = .ok (.ifCond .eq 10, 3) := by decide +kernel
theorem dX9_run_8 : decode cX9_run 8 = .ok (.iload_n 2, 1) := by decide +kernel
theorem dX9_run_9 : decode cX9_run 9 = .ok (.invokestatic 132, 3) := by decide +kernel
theorem dX9_run_12 : decode cX9_run 12 = .ok (.ifCond .ne 5, 3) := by decide +kernel
theorem dX9_run_17 : decode cX9_run 17 = .ok (.aload_n 0, 1) := by decide +kernel
theorem dX9_run_18 : decode cX9_run 18 = .ok (.getfield 26, 3) := by decide +kernel
theorem dX9_run_21 : decode cX9_run 21 = .ok (.iload_n 1, 1) := by decide +kernel
theorem dX9_run_22 : decode cX9_run 22 = .ok (.iaload, 1) := by decide +kernel
theorem dX9_run_23 : decode cX9_run 23 = .ok (.ifCond .ne 6, 3) := by decide +kernel
theorem dX9_run_29 : decode cX9_run 29 = .ok (.aload_n 0, 1) := by decide +kernel
theorem dX9_run_30 : decode cX9_run 30 = .ok (.iload_n 1, 1) := by decide +kernel
theorem dX9_run_31 : decode cX9_run 31 = .ok (.iload_n 2, 1) := by decide +kernel
theorem dX9_run_32 : decode cX9_run 32 = .ok (.invokevirtual 172, 3) := by decide +kernel
theorem dX9_run_35 : decode cX9_run 35 = .ok (.iload_n 3, 1) := by decide +kernel
theorem dX9_run_36 : decode cX9_run 36 = .ok (.iconst (-1), 1) := by decide +kernel
theorem dX9_run_37 : decode cX9_run 37 = .ok (.if_icmp .ne 10, 3) := by decide +kernel
theorem dX9_run_47 : decode cX9_run 47 = .ok (.iload_n 3, 1) := by decide +kernel
theorem dX9_run_48 : decode cX9_run 48 = .ok (.bipush (-2), 2) := by decide +kernel
theorem dX9_run_50 : decode cX9_run 50 = .ok (.if_icmp .ne 10, 3) := by decide +kernel
theorem dX9_run_60 : decode cX9_run 60 = .ok (.iload_n 3, 1) := by decide +kernel
theorem dX9_run_61 : decode cX9_run 61 = .ok (.i2l, 1) := by decide +kernel
theorem dX9_run_62 : decode cX9_run 62 = .ok (.lconst 0, 1) := by decide +kernel
theorem dX9_run_63 : decode cX9_run 63 = .ok (.aload_n 0, 1) := by decide +kernel
theorem dX9_run_64 : decode cX9_run 64 = .ok (.getfield 162, 3) := by decide +kernel
theorem dX9_run_67 : decode cX9_run 67 = .ok (.iconst 1, 1) := by decide +kernel
theorem dX9_run_68 : decode cX9_run 68 = .ok (.isub, 1) := by decide +kernel
theorem dX9_run_69 : decode cX9_run 69 = .ok (.i2l, 1) := by decide +kernel
theorem dX9_run_70 : decode cX9_run 70 = .ok (.invokestatic 90, 3) := by decide +kernel
theorem dX9_run_73 : decode cX9_run 73 = .ok (.ifCond .eq 12, 3) := by decide +kernel
theorem dX9_run_76 : decode cX9_run 76 = .ok (.aload_n 0, 1) := by decide +kernel
theorem dX9_run_77 : decode cX9_run 77 = .ok (.getfield 59, 3) := by decide +kernel
theorem dX9_run_80 : decode cX9_run 80 = .ok (.iload_n 3, 1) := by decide +kernel
theorem dX9_run_81 : decode cX9_run 81 = .ok (.iaload, 1) := by decide +kernel
theorem dX9_run_82 : decode cX9_run 82 = .ok (.goto 5, 3) := by decide +kernel
theorem dX9_run_87 : decode cX9_run 87 = .ok (.ireturn, 1) := by decide +kernel
theorem dX9_run_85 : decode cX9_run 85 = .ok (.bipush (-6), 2) := by decide +kernel
theorem dX9_run_53 : decode cX9_run 53 = .ok (.aload_n 0, 1) := by decide +kernel
theorem dX9_run_54 : decode cX9_run 54 = .ok (.getfield 162, 3) := by decide +kernel
theorem dX9_run_57 : decode cX9_run 57 = .ok (.goto 30, 3) := by decide +kernel
theorem dX9_run_40 : decode cX9_run 40 = .ok (.aload_n 0, 1) := by decide +kernel
theorem dX9_run_41 : decode cX9_run 41 = .ok (.getfield 159, 3) := by decide +kernel
theorem dX9_run_44 : decode cX9_run 44 = .ok (.goto 43, 3) := by decide +kernel
theorem dX9_run_26 : decode cX9_run 26 = .ok (.bipush (-3), 2) := by decide +kernel
theorem dX9_run_28 : decode cX9_run 28 = .ok (.ireturn, 1) := by decide +kernel
theorem dX9_run_15 : decode cX9_run 15 = .ok (.iconst (-1), 1) := by decide +kernel
theorem dX9_run_16 : decode cX9_run 16 = .ok (.ireturn, 1) := by decide +kernel
set_option maxHeartbeats 4000000 in
set_option maxRecDepth 100000 in
theorem m_begin (l : Launch) (dC : Nat → ClassId) (dI : Nat → Nat → Nat) (sz : Nat) (h0 : Nat) (w0 : Value) (w1 : Value) (w2 : Value) (w3 : Value) (kn : Nat) (l4 : Nat) (l1 : Nat) (w7 : Value) (w8 : Value) (w9 : Value) (w10 : Value) (w11 : Value) (w12 : Value) (v2 : Nat) (nm0 : Nat) (o1 : Nat) (o2 : Nat) (o3 : Nat) (op : Nat) (wk : Nat) (w20 : Value) (w21 : Value) (en : Int32) (w23 : Value) (w24 : Value) (w25 : Value) (w26 : Value) (w27 : Value) (w28 : Value) (w29 : Value) (w30 : Value) (w31 : Value) (w32 : Value) (w33 : Value) (w34 : Value) (kl1 : ClassId) (fll : Nat → Int32) (kl4 : ClassId) (fln : Nat → Int32) (knm0 : ClassId) (fnm : Nat → Int32) (kv2 : ClassId) (fsm : Nat → Int32) (ko1 : ClassId) (fop : Nat → Int32) (ko2 : ClassId) (fon : Nat → Int32) (ko3 : ClassId) (fos : Nat → Int32) (kq : Nat) (nq : Nat) (fm : Nat) (fsg : Nat → Int32) (hkn : kn ≤ 10) (hll : BdOk 10 10 fll) (hln : LnOk fll fln kn) (hkq : kq < kn) (hn8 : nq < 8) (hfm : fm ≤ 11) (hop : op ≤ 9) (hwk : wk ≤ 200) (hos : OsOk fll fln fsm kq fop fon fos op) (hen : en = 0) : Met l yX9_begin (wq yX9_begin cX9_begin 5 none) ({ frames := 2, cells := 0, slots := 0, locals := 47 }) (va_Pc [.ref h0, .int (nI kq), .int (nI nq), .int (nI fm)] (pcW dC dI [(kl1, .int), (kl4, .int), (knm0, .int), (kv2, .int), (ko1, .int), (ko2, .int), (ko3, .int)] [(h0, .inr (8, [w0, w1, w2, w3, .int (nI kn), .ref l4, .ref l1, w7, w8, w9, w10, w11, w12, .ref v2, .ref nm0, .ref o1, .ref o2, .ref o3, .int (nI op), .int (nI wk), w20, w21, .int en, w23, w24, w25, w26, w27, w28, w29, w30, w31, w32, w33, w34])), (l1, .inl (kl1, 10, .inl fll)), (l4, .inl (kl4, 100, .inl fln)), (nm0, .inl (knm0, 10, .inl fnm)), (v2, .inl (kv2, 81, .inl fsm)), (o1, .inl (ko1, 10, .inl fop)), (o2, .inl (ko2, 10, .inl fon)), (o3, .inl (ko3, 10, .inl fos))] sz)) (va_Qv (fun _ : Unit => True) (fun _ t => ∃ (op2 : Nat) (wk2 : Nat) (en2 : Int32) (fop2 : Nat → Int32) (fon2 : Nat → Int32) (fos2 : Nat → Int32), (op2 ≤ 9) ∧ (wk2 ≤ 200) ∧ (OsOk fll fln fsm kq fop2 fon2 fos2 op2) ∧ (rMu wk2 fos2 op2 ≤ rMu wk fos op) ∧ (∀ (sm : Nat) (fd9 : Nat → Int32), FinEq (finM fll fln fnm fsm fsg kq fop2 fon2 fos2 op2 (en2, wk2, sm, fd9)) (finM fll fln fnm fsm fsg kq fop fon fos op (wdM fll fln fnm fsm fsg kq (9 - op) nq fm (wk, sm, fd9)))) ∧ va_P (dC, dI) vwCl [(h0, .inr (8, [w0, w1, w2, w3, .int (nI kn), .ref l4, .ref l1, w7, w8, w9, w10, w11, w12, .ref v2, .ref nm0, .ref o1, .ref o2, .ref o3, .int (nI op2), .int (nI wk2), w20, w21, .int en2, w23, w24, w25, w26, w27, w28, w29, w30, w31, w32, w33, w34])), (l1, .inl (kl1, 10, .inl fll)), (l4, .inl (kl4, 100, .inl fln)), (nm0, .inl (knm0, 10, .inl fnm)), (v2, .inl (kv2, 81, .inl fsm)), (o1, .inl (ko1, 10, .inl fop2)), (o2, .inl (ko2, 10, .inl fon2)), (o3, .inl (ko3, 10, .inl fos2))] t.heap ∧ va_K (dC, dI) vwCl [(kl1, .int), (kl4, .int), (knm0, .int), (kv2, .int), (ko1, .int), (ko2, .int), (ko3, .int)] t ∧ va_D (va_A [(h0, .inr (8, [w0, w1, w2, w3, .int (nI kn), .ref l4, .ref l1, w7, w8, w9, w10, w11, w12, .ref v2, .ref nm0, .ref o1, .ref o2, .ref o3, .int (nI op), .int (nI wk), w20, w21, .int en, w23, w24, w25, w26, w27, w28, w29, w30, w31, w32, w33, w34])), (l1, .inl (kl1, 10, .inl fll)), (l4, .inl (kl4, 100, .inl fln)), (nm0, .inl (knm0, 10, .inl fnm)), (v2, .inl (kv2, 81, .inl fsm)), (o1, .inl (ko1, 10, .inl fop)), (o2, .inl (ko2, 10, .inl fon)), (o3, .inl (ko3, 10, .inl fos))] sz) [(h0, .inr (8, [w0, w1, w2, w3, .int (nI kn), .ref l4, .ref l1, w7, w8, w9, w10, w11, w12, .ref v2, .ref nm0, .ref o1, .ref o2, .ref o3, .int (nI op2), .int (nI wk2), w20, w21, .int en2, w23, w24, w25, w26, w27, w28, w29, w30, w31, w32, w33, w34])), (l1, .inl (kl1, 10, .inl fll)), (l4, .inl (kl4, 100, .inl fln)), (nm0, .inl (knm0, 10, .inl fnm)), (v2, .inl (kv2, 81, .inl fsm)), (o1, .inl (ko1, 10, .inl fop2)), (o2, .inl (ko2, 10, .inl fon2)), (o3, .inl (ko3, 10, .inl fos2))]) (va_A [(h0, .inr (8, [w0, w1, w2, w3, .int (nI kn), .ref l4, .ref l1, w7, w8, w9, w10, w11, w12, .ref v2, .ref nm0, .ref o1, .ref o2, .ref o3, .int (nI op), .int (nI wk), w20, w21, .int en, w23, w24, w25, w26, w27, w28, w29, w30, w31, w32, w33, w34])), (l1, .inl (kl1, 10, .inl fll)), (l4, .inl (kl4, 100, .inl fln)), (nm0, .inl (knm0, 10, .inl fnm)), (v2, .inl (kv2, 81, .inl fsm)), (o1, .inl (ko1, 10, .inl fop)), (o2, .inl (ko2, 10, .inl fon)), (o3, .inl (ko3, 10, .inl fos))] sz)) 0 0 (va_A [(h0, .inr (8, [w0, w1, w2, w3, .int (nI kn), .ref l4, .ref l1, w7, w8, w9, w10, w11, w12, .ref v2, .ref nm0, .ref o1, .ref o2, .ref o3, .int (nI op), .int (nI wk), w20, w21, .int en, w23, w24, w25, w26, w27, w28, w29, w30, w31, w32, w33, w34])), (l1, .inl (kl1, 10, .inl fll)), (l4, .inl (kl4, 100, .inl fln)), (nm0, .inl (knm0, 10, .inl fnm)), (v2, .inl (kv2, 81, .inl fsm)), (o1, .inl (ko1, 10, .inl fop)), (o2, .inl (ko2, 10, .inl fon)), (o3, .inl (ko3, 10, .inl fos))] sz) := by
  refine Met.ofW (cc := cX9_begin) (maxL := 5) (ret := none) (by decide) rfl ?_
  intro p e s m args below meth c s₁ B hml hv
  obtain ⟨rfl, hsz, hN, hP, hK, hD0⟩ := hv
  have hx := B.exec
  have hb := B.bytes
  have hr := B.returns
  have hts0 := atoms_spec (ws := (wq yX9_begin cX9_begin 5 none)) B.pre
  have hts : ∀ w ∈ BG, w.before _ s = true := fun w h => hts0 w (List.mem_cons_of_mem _ h)
  have hown : s.vm.findClass RX9 = some m.cls := findClass_of_methodNamed B.named
  have hlocks := B.notSynchronized
  subst hsz
  have hD := hD0.self (sz := s.heap.size)
  generalize hAe : va_A [(h0, .inr (8, [w0, w1, w2, w3, .int (nI kn), .ref l4, .ref l1, w7, w8, w9, w10, w11, w12, .ref v2, .ref nm0, .ref o1, .ref o2, .ref o3, .int (nI op), .int (nI wk), w20, w21, .int en, w23, w24, w25, w26, w27, w28, w29, w30, w31, w32, w33, w34])), (l1, .inl (kl1, 10, .inl fll)), (l4, .inl (kl4, 100, .inl fln)), (nm0, .inl (knm0, 10, .inl fnm)), (v2, .inl (kv2, 81, .inl fsm)), (o1, .inl (ko1, 10, .inl fop)), (o2, .inl (ko2, 10, .inl fon)), (o3, .inl (ko3, 10, .inl fos))] s.heap.size = A at hD ⊢
  have hA : ∀ q : Nat, s.heap.size ≤ q → A q := fun q h => by rw [← hAe]; exact Or.inr h
  have hS : va_S A s.heap s.heap [] := va_S.rf
  clear hAe hD0
  have hP : va_P (dC, dI) vwCl [(h0, .inr (8, [w0, w1, w2, w3, .int (nI kn), .ref l4, .ref l1, w7, w8, w9, w10, w11, w12, .ref v2, .ref nm0, .ref o1, .ref o2, .ref o3, .int (nI op), .int (nI wk), w20, w21, .int en, w23, w24, w25, w26, w27, w28, w29, w30, w31, w32, w33, w34])), (l1, .inl (kl1, 10, .inl fll)), (l4, .inl (kl4, 100, .inl fln)), (nm0, .inl (knm0, 10, .inl fnm)), (v2, .inl (kv2, 81, .inl fsm)), (o1, .inl (ko1, 10, .inl fop)), (o2, .inl (ko2, 10, .inl fon)), (o3, .inl (ko3, 10, .inl fos))] s.heap := hP
  have hl := lv_entry ([.ref h0, .int (nI kq), .int (nI nq), .int (nI fm)]) (n := 5) (Nat.le_of_ble_eq_true rfl)
  rw [lg_entry_eq]
  generalize (lg_sl ([.ref h0, .int (nI kq), .int (nI nq), .int (nI fm)]) ++ List.replicate (5 - (lg_sl ([.ref h0, .int (nI kq), .int (nI nq), .int (nI fm)])).length) Slot.unset).toArray = ls at hl ⊢
  have hl : lv_has ls 5 [(0, .ref h0), (1, .int (nI kq)), (2, .int (nI nq)), (3, .int (nI fm))] := hl
  have hle9 := bd_cle0 hll (show kq < 10 by omega)
  refine lv_aload_n hx hb dX9_begin_0 rfl (lv_at hl 0 rfl) ?_
  refine lv_iload_n hx hb dX9_begin_1 rfl (lv_at hl 1 rfl) ?_
  refine lv_iload_n hx hb dX9_begin_2 rfl (lv_at hl 2 rfl) ?_
  refine lv_iload_n hx hb dX9_begin_3 rfl (lv_at hl 3 rfl) ?_
  have hPc := hP.sub (ws' := [(h0, .inr (8, [w0, w1, w2, w3, .int (nI kn), .ref l4, .ref l1, w7, w8, w9, w10, w11, w12, .ref v2, .ref nm0, .ref o1, .ref o2, .ref o3, .int (nI op), .int (nI wk), w20, w21, .int en, w23, w24, w25, w26, w27, w28, w29, w30, w31, w32, w33, w34])), (l1, .inl (kl1, 10, .inl fll)), (l4, .inl (kl4, 100, .inl fln)), (nm0, .inl (knm0, 10, .inl fnm))]) [0, 1, 2, 3] rfl
  have hDc := hD.sub (ws' := [(h0, .inr (8, [w0, w1, w2, w3, .int (nI kn), .ref l4, .ref l1, w7, w8, w9, w10, w11, w12, .ref v2, .ref nm0, .ref o1, .ref o2, .ref o3, .int (nI op), .int (nI wk), w20, w21, .int en, w23, w24, w25, w26, w27, w28, w29, w30, w31, w32, w33, w34])), (l1, .inl (kl1, 10, .inl fll)), (l4, .inl (kl4, 100, .inl fln)), (nm0, .inl (knm0, 10, .inl fnm))]) [0, 1, 2, 3] (by decide) rfl
  have hKc := hK.sub (tys' := [(kl1, .int), (kl4, .int), (knm0, .int)]) [0, 1, 2] rfl
  refine va_calli (va_runV (As := [.int (nI kq), .int (nI nq), .int (nI fm)]) (rest := []) ⟨hx, hb, hml, hown, hts⟩ (m_placeOf l dC dI s.heap.size h0 (w0) (w1) (w2) (w3) kn l4 l1 (w7) (w8) (w9) (w10) (w11) (w12) (.ref v2) nm0 (.ref o1) (.ref o2) (.ref o3) (.int (nI op)) (.int (nI wk)) (w20) (w21) (.int en) (w23) (w24) (w25) (w26) (w27) (w28) (w29) (w30) (w31) (w32) (w33) (w34) kl1 fll kl4 fln knm0 fnm kq nq fm hkn hll hln hkq hfm hn8) (cwV 3 hts (gV mw_4_139 mw_4_141 mw_0_22 mw_1_9 mw_4_142) rfl rfl rfl (by decide +kernel) ⟨Nat.le_of_ble_eq_true rfl, Nat.le_of_ble_eq_true rfl⟩) ⟨pcW_blind, va_recv hKc hPc (ci := 8) (q0 := 0) rfl rfl, pcW_at hPc hKc hDc hN⟩ rfl rfl hl.1 rfl (lv_room (Nat.le_of_ble_eq_true rfl)) dX9_begin_4 ⟨Nat.le_of_ble_eq_true rfl, Nat.le_of_ble_eq_true rfl⟩) hS (fun q h1 h2 => absurd h2 (Nat.not_le.mpr h1)) (fun q h => hA q (Nat.le_trans hS.1 h)) (fun r_1 u t H1 locs ht hvm hw_1 hB hz1 hk1 hS => ?_)
  have hP := keepP hP hk1
  clear hz1 hk1 hB ht hvm hPc hDc hKc
  generalize H1 = H at hP hS ⊢
  rcases pl_cases hw_1 with eq9 | ⟨q9, hq9, eq9⟩
  · subst eq9
    refine lv_istore (lv' := [(4, .int (-6)), (0, .ref h0), (1, .int (nI kq)), (2, .int (nI nq)), (3, .int (nI fm))]) hx hb dX9_begin_7 hl (by decide) rfl (fun ls hl => ?_)
    refine lv_aload_n hx hb dX9_begin_9 rfl (lv_at hl 1 rfl) ?_
    refine va_get (D := (dC, dI)) (ci := 8) (v := .int (nI op)) (C := RX9) (T := TX9) (N := 35) hx hb hts inB_9 hown hK hP 0 rfl rfl 18 (by decide) (hts _ mw_3_200) (fun _ h9 => h9) rfl dX9_begin_10 ?_
    refine lv_bipush (v := 9) hx hb dX9_begin_13 (by decide) ?_
    refine lv_icmp_eq (tgt := 28) hx hb dX9_begin_15 (by decide) (fun c_2 => ?_) (fun c_2 => ?_)
    · have b_3 := gx_eq (X := ((op : Nat) : Int)) (C := 9) (nI_toInt (by omega)) (by decide) c_2
      refine lv_aload_n hx hb dX9_begin_28 rfl (lv_at hl 1 rfl) ?_
      refine lv_iconst (v := 2) hx hb dX9_begin_29 (by decide) ?_
      refine va_put (D := (dC, dI)) (ci := 8) (v := .int 2) (ty := .int) (C := RX9) (T := TX9) (N := 35) hx hb hts inB_9 tyX9 tyX9_ok nmX9 hown hK hP hD hS 0 rfl rfl 22 (by decide) (hts _ mw_3_204) (fun _ h9 => h9) rfl (by decide +kernel) rfl rfl (Nat.le_of_ble_eq_true rfl) dX9_begin_30 (fun H locs hP hD hS => ?_)
      have hP : va_P (dC, dI) vwCl [(h0, .inr (8, [w0, w1, w2, w3, .int (nI kn), .ref l4, .ref l1, w7, w8, w9, w10, w11, w12, .ref v2, .ref nm0, .ref o1, .ref o2, .ref o3, .int (nI op), .int (nI wk), w20, w21, .int 2, w23, w24, w25, w26, w27, w28, w29, w30, w31, w32, w33, w34])), (l1, .inl (kl1, 10, .inl fll)), (l4, .inl (kl4, 100, .inl fln)), (nm0, .inl (knm0, 10, .inl fnm)), (v2, .inl (kv2, 81, .inl fsm)), (o1, .inl (ko1, 10, .inl fop)), (o2, .inl (ko2, 10, .inl fon)), (o3, .inl (ko3, 10, .inl fos))] H := hP
      have hD : va_D A [(h0, .inr (8, [w0, w1, w2, w3, .int (nI kn), .ref l4, .ref l1, w7, w8, w9, w10, w11, w12, .ref v2, .ref nm0, .ref o1, .ref o2, .ref o3, .int (nI op), .int (nI wk), w20, w21, .int 2, w23, w24, w25, w26, w27, w28, w29, w30, w31, w32, w33, w34])), (l1, .inl (kl1, 10, .inl fll)), (l4, .inl (kl4, 100, .inl fln)), (nm0, .inl (knm0, 10, .inl fnm)), (v2, .inl (kv2, 81, .inl fsm)), (o1, .inl (ko1, 10, .inl fop)), (o2, .inl (ko2, 10, .inl fon)), (o3, .inl (ko3, 10, .inl fos))] := hD
      refine lv_goto (tgt := 100) hx hb dX9_begin_33 (by decide) ?_
      have hP9 := hP.sub (ws' := [(h0, .inr (8, [w0, w1, w2, w3, .int (nI kn), .ref l4, .ref l1, w7, w8, w9, w10, w11, w12, .ref v2, .ref nm0, .ref o1, .ref o2, .ref o3, .int (nI op), .int (nI wk), w20, w21, .int 2, w23, w24, w25, w26, w27, w28, w29, w30, w31, w32, w33, w34])), (l1, .inl (kl1, 10, .inl fll)), (l4, .inl (kl4, 100, .inl fln)), (nm0, .inl (knm0, 10, .inl fnm)), (v2, .inl (kv2, 81, .inl fsm)), (o1, .inl (ko1, 10, .inl fop)), (o2, .inl (ko2, 10, .inl fon)), (o3, .inl (ko3, 10, .inl fos))]) [0, 1, 2, 3, 4, 5, 6, 7] rfl
      have hD9 := hD.sub (ws' := [(h0, .inr (8, [w0, w1, w2, w3, .int (nI kn), .ref l4, .ref l1, w7, w8, w9, w10, w11, w12, .ref v2, .ref nm0, .ref o1, .ref o2, .ref o3, .int (nI op), .int (nI wk), w20, w21, .int 2, w23, w24, w25, w26, w27, w28, w29, w30, w31, w32, w33, w34])), (l1, .inl (kl1, 10, .inl fll)), (l4, .inl (kl4, 100, .inl fln)), (nm0, .inl (knm0, 10, .inl fnm)), (v2, .inl (kv2, 81, .inl fsm)), (o1, .inl (ko1, 10, .inl fop)), (o2, .inl (ko2, 10, .inl fon)), (o3, .inl (ko3, 10, .inl fos))]) [0, 1, 2, 3, 4, 5, 6, 7] (by decide) rfl
      have hK9 := hK.sub (tys' := [(kl1, .int), (kl4, .int), (knm0, .int), (kv2, .int), (ko1, .int), (ko2, .int), (ko3, .int)]) [0, 1, 2, 3, 4, 5, 6] rfl
      exact W.vret hx hb hr (fun t ht hW => ⟨⟨(), rfl, trivial, op, wk, 2, fop, fon, fos, hop, hwk, hos, (Nat.le_refl _), (bg_full (by omega)), by rw [ht]; exact hP9, va_K.moved hW.alike hK9, hD9⟩, hS.F ht⟩) hS.2.2 dX9_begin_100
    · have b_3 := gn_eq (X := ((op : Nat) : Int)) (C := 9) (nI_toInt (by omega)) (by decide) c_2
      refine lv_aload_n hx hb dX9_begin_18 rfl (lv_at hl 1 rfl) ?_
      refine va_get (D := (dC, dI)) (ci := 8) (v := .int (nI wk)) (C := RX9) (T := TX9) (N := 35) hx hb hts inB_9 hown hK hP 0 rfl rfl 19 (by decide) (hts _ mw_3_201) (fun _ h9 => h9) rfl dX9_begin_19 ?_
      refine lv_sipush (v := 200) hx hb dX9_begin_22 (by decide) ?_
      refine lv_icmp_ne (tgt := 36) hx hb dX9_begin_25 (by decide) (fun c_4 => ?_) (fun c_4 => ?_)
      · have b_5 := gx_ne (X := ((wk : Nat) : Int)) (C := 200) (nI_toInt (by omega)) (by decide) c_4
        refine lv_iload hx hb dX9_begin_36 (lv_at hl 0 rfl) ?_
        refine lv_if_ge (tgt := 49) hx hb dX9_begin_38 (by decide) (fun h => absurd h (by decide)) (fun _ => ?_)
        refine lv_aload_n hx hb dX9_begin_41 rfl (lv_at hl 1 rfl) ?_
        refine lv_iconst (v := 1) hx hb dX9_begin_42 (by decide) ?_
        refine va_put (D := (dC, dI)) (ci := 8) (v := .int 1) (ty := .int) (C := RX9) (T := TX9) (N := 35) hx hb hts inB_9 tyX9 tyX9_ok nmX9 hown hK hP hD hS 0 rfl rfl 22 (by decide) (hts _ mw_3_204) (fun _ h9 => h9) rfl (by decide +kernel) rfl rfl (Nat.le_of_ble_eq_true rfl) dX9_begin_43 (fun H locs hP hD hS => ?_)
        have hP : va_P (dC, dI) vwCl [(h0, .inr (8, [w0, w1, w2, w3, .int (nI kn), .ref l4, .ref l1, w7, w8, w9, w10, w11, w12, .ref v2, .ref nm0, .ref o1, .ref o2, .ref o3, .int (nI op), .int (nI wk), w20, w21, .int 1, w23, w24, w25, w26, w27, w28, w29, w30, w31, w32, w33, w34])), (l1, .inl (kl1, 10, .inl fll)), (l4, .inl (kl4, 100, .inl fln)), (nm0, .inl (knm0, 10, .inl fnm)), (v2, .inl (kv2, 81, .inl fsm)), (o1, .inl (ko1, 10, .inl fop)), (o2, .inl (ko2, 10, .inl fon)), (o3, .inl (ko3, 10, .inl fos))] H := hP
        have hD : va_D A [(h0, .inr (8, [w0, w1, w2, w3, .int (nI kn), .ref l4, .ref l1, w7, w8, w9, w10, w11, w12, .ref v2, .ref nm0, .ref o1, .ref o2, .ref o3, .int (nI op), .int (nI wk), w20, w21, .int 1, w23, w24, w25, w26, w27, w28, w29, w30, w31, w32, w33, w34])), (l1, .inl (kl1, 10, .inl fll)), (l4, .inl (kl4, 100, .inl fln)), (nm0, .inl (knm0, 10, .inl fnm)), (v2, .inl (kv2, 81, .inl fsm)), (o1, .inl (ko1, 10, .inl fop)), (o2, .inl (ko2, 10, .inl fon)), (o3, .inl (ko3, 10, .inl fos))] := hD
        refine lv_goto (tgt := 100) hx hb dX9_begin_46 (by decide) ?_
        have hP9 := hP.sub (ws' := [(h0, .inr (8, [w0, w1, w2, w3, .int (nI kn), .ref l4, .ref l1, w7, w8, w9, w10, w11, w12, .ref v2, .ref nm0, .ref o1, .ref o2, .ref o3, .int (nI op), .int (nI wk), w20, w21, .int 1, w23, w24, w25, w26, w27, w28, w29, w30, w31, w32, w33, w34])), (l1, .inl (kl1, 10, .inl fll)), (l4, .inl (kl4, 100, .inl fln)), (nm0, .inl (knm0, 10, .inl fnm)), (v2, .inl (kv2, 81, .inl fsm)), (o1, .inl (ko1, 10, .inl fop)), (o2, .inl (ko2, 10, .inl fon)), (o3, .inl (ko3, 10, .inl fos))]) [0, 1, 2, 3, 4, 5, 6, 7] rfl
        have hD9 := hD.sub (ws' := [(h0, .inr (8, [w0, w1, w2, w3, .int (nI kn), .ref l4, .ref l1, w7, w8, w9, w10, w11, w12, .ref v2, .ref nm0, .ref o1, .ref o2, .ref o3, .int (nI op), .int (nI wk), w20, w21, .int 1, w23, w24, w25, w26, w27, w28, w29, w30, w31, w32, w33, w34])), (l1, .inl (kl1, 10, .inl fll)), (l4, .inl (kl4, 100, .inl fln)), (nm0, .inl (knm0, 10, .inl fnm)), (v2, .inl (kv2, 81, .inl fsm)), (o1, .inl (ko1, 10, .inl fop)), (o2, .inl (ko2, 10, .inl fon)), (o3, .inl (ko3, 10, .inl fos))]) [0, 1, 2, 3, 4, 5, 6, 7] (by decide) rfl
        have hK9 := hK.sub (tys' := [(kl1, .int), (kl4, .int), (knm0, .int), (kv2, .int), (ko1, .int), (ko2, .int), (ko3, .int)]) [0, 1, 2, 3, 4, 5, 6] rfl
        exact W.vret hx hb hr (fun t ht hW => ⟨⟨(), rfl, trivial, op, wk, 1, fop, fon, fos, hop, hwk, hos, (Nat.le_refl _), (bg_none (by omega) (by omega) hw_1), by rw [ht]; exact hP9, va_K.moved hW.alike hK9, hD9⟩, hS.F ht⟩) hS.2.2 dX9_begin_100
      · have b_5 := gn_ne (X := ((wk : Nat) : Int)) (C := 200) (nI_toInt (by omega)) (by decide) c_4
        refine lv_aload_n hx hb dX9_begin_28 rfl (lv_at hl 1 rfl) ?_
        refine lv_iconst (v := 2) hx hb dX9_begin_29 (by decide) ?_
        refine va_put (D := (dC, dI)) (ci := 8) (v := .int 2) (ty := .int) (C := RX9) (T := TX9) (N := 35) hx hb hts inB_9 tyX9 tyX9_ok nmX9 hown hK hP hD hS 0 rfl rfl 22 (by decide) (hts _ mw_3_204) (fun _ h9 => h9) rfl (by decide +kernel) rfl rfl (Nat.le_of_ble_eq_true rfl) dX9_begin_30 (fun H locs hP hD hS => ?_)
        have hP : va_P (dC, dI) vwCl [(h0, .inr (8, [w0, w1, w2, w3, .int (nI kn), .ref l4, .ref l1, w7, w8, w9, w10, w11, w12, .ref v2, .ref nm0, .ref o1, .ref o2, .ref o3, .int (nI op), .int (nI wk), w20, w21, .int 2, w23, w24, w25, w26, w27, w28, w29, w30, w31, w32, w33, w34])), (l1, .inl (kl1, 10, .inl fll)), (l4, .inl (kl4, 100, .inl fln)), (nm0, .inl (knm0, 10, .inl fnm)), (v2, .inl (kv2, 81, .inl fsm)), (o1, .inl (ko1, 10, .inl fop)), (o2, .inl (ko2, 10, .inl fon)), (o3, .inl (ko3, 10, .inl fos))] H := hP
        have hD : va_D A [(h0, .inr (8, [w0, w1, w2, w3, .int (nI kn), .ref l4, .ref l1, w7, w8, w9, w10, w11, w12, .ref v2, .ref nm0, .ref o1, .ref o2, .ref o3, .int (nI op), .int (nI wk), w20, w21, .int 2, w23, w24, w25, w26, w27, w28, w29, w30, w31, w32, w33, w34])), (l1, .inl (kl1, 10, .inl fll)), (l4, .inl (kl4, 100, .inl fln)), (nm0, .inl (knm0, 10, .inl fnm)), (v2, .inl (kv2, 81, .inl fsm)), (o1, .inl (ko1, 10, .inl fop)), (o2, .inl (ko2, 10, .inl fon)), (o3, .inl (ko3, 10, .inl fos))] := hD
        refine lv_goto (tgt := 100) hx hb dX9_begin_33 (by decide) ?_
        have hP9 := hP.sub (ws' := [(h0, .inr (8, [w0, w1, w2, w3, .int (nI kn), .ref l4, .ref l1, w7, w8, w9, w10, w11, w12, .ref v2, .ref nm0, .ref o1, .ref o2, .ref o3, .int (nI op), .int (nI wk), w20, w21, .int 2, w23, w24, w25, w26, w27, w28, w29, w30, w31, w32, w33, w34])), (l1, .inl (kl1, 10, .inl fll)), (l4, .inl (kl4, 100, .inl fln)), (nm0, .inl (knm0, 10, .inl fnm)), (v2, .inl (kv2, 81, .inl fsm)), (o1, .inl (ko1, 10, .inl fop)), (o2, .inl (ko2, 10, .inl fon)), (o3, .inl (ko3, 10, .inl fos))]) [0, 1, 2, 3, 4, 5, 6, 7] rfl
        have hD9 := hD.sub (ws' := [(h0, .inr (8, [w0, w1, w2, w3, .int (nI kn), .ref l4, .ref l1, w7, w8, w9, w10, w11, w12, .ref v2, .ref nm0, .ref o1, .ref o2, .ref o3, .int (nI op), .int (nI wk), w20, w21, .int 2, w23, w24, w25, w26, w27, w28, w29, w30, w31, w32, w33, w34])), (l1, .inl (kl1, 10, .inl fll)), (l4, .inl (kl4, 100, .inl fln)), (nm0, .inl (knm0, 10, .inl fnm)), (v2, .inl (kv2, 81, .inl fsm)), (o1, .inl (ko1, 10, .inl fop)), (o2, .inl (ko2, 10, .inl fon)), (o3, .inl (ko3, 10, .inl fos))]) [0, 1, 2, 3, 4, 5, 6, 7] (by decide) rfl
        have hK9 := hK.sub (tys' := [(kl1, .int), (kl4, .int), (knm0, .int), (kv2, .int), (ko1, .int), (ko2, .int), (ko3, .int)]) [0, 1, 2, 3, 4, 5, 6] rfl
        exact W.vret hx hb hr (fun t ht hW => ⟨⟨(), rfl, trivial, op, wk, 2, fop, fon, fos, hop, hwk, hos, (Nat.le_refl _), (bg_full (by omega)), by rw [ht]; exact hP9, va_K.moved hW.alike hK9, hD9⟩, hS.F ht⟩) hS.2.2 dX9_begin_100
  · subst eq9
    refine lv_istore (lv' := [(4, .int (nI q9)), (0, .ref h0), (1, .int (nI kq)), (2, .int (nI nq)), (3, .int (nI fm))]) hx hb dX9_begin_7 hl (by decide) rfl (fun ls hl => ?_)
    refine lv_aload_n hx hb dX9_begin_9 rfl (lv_at hl 1 rfl) ?_
    refine va_get (D := (dC, dI)) (ci := 8) (v := .int (nI op)) (C := RX9) (T := TX9) (N := 35) hx hb hts inB_9 hown hK hP 0 rfl rfl 18 (by decide) (hts _ mw_3_200) (fun _ h9 => h9) rfl dX9_begin_10 ?_
    refine lv_bipush (v := 9) hx hb dX9_begin_13 (by decide) ?_
    refine lv_icmp_eq (tgt := 28) hx hb dX9_begin_15 (by decide) (fun c_6 => ?_) (fun c_6 => ?_)
    · have b_7 := gx_eq (X := ((op : Nat) : Int)) (C := 9) (nI_toInt (by omega)) (by decide) c_6
      refine lv_aload_n hx hb dX9_begin_28 rfl (lv_at hl 1 rfl) ?_
      refine lv_iconst (v := 2) hx hb dX9_begin_29 (by decide) ?_
      refine va_put (D := (dC, dI)) (ci := 8) (v := .int 2) (ty := .int) (C := RX9) (T := TX9) (N := 35) hx hb hts inB_9 tyX9 tyX9_ok nmX9 hown hK hP hD hS 0 rfl rfl 22 (by decide) (hts _ mw_3_204) (fun _ h9 => h9) rfl (by decide +kernel) rfl rfl (Nat.le_of_ble_eq_true rfl) dX9_begin_30 (fun H locs hP hD hS => ?_)
      have hP : va_P (dC, dI) vwCl [(h0, .inr (8, [w0, w1, w2, w3, .int (nI kn), .ref l4, .ref l1, w7, w8, w9, w10, w11, w12, .ref v2, .ref nm0, .ref o1, .ref o2, .ref o3, .int (nI op), .int (nI wk), w20, w21, .int 2, w23, w24, w25, w26, w27, w28, w29, w30, w31, w32, w33, w34])), (l1, .inl (kl1, 10, .inl fll)), (l4, .inl (kl4, 100, .inl fln)), (nm0, .inl (knm0, 10, .inl fnm)), (v2, .inl (kv2, 81, .inl fsm)), (o1, .inl (ko1, 10, .inl fop)), (o2, .inl (ko2, 10, .inl fon)), (o3, .inl (ko3, 10, .inl fos))] H := hP
      have hD : va_D A [(h0, .inr (8, [w0, w1, w2, w3, .int (nI kn), .ref l4, .ref l1, w7, w8, w9, w10, w11, w12, .ref v2, .ref nm0, .ref o1, .ref o2, .ref o3, .int (nI op), .int (nI wk), w20, w21, .int 2, w23, w24, w25, w26, w27, w28, w29, w30, w31, w32, w33, w34])), (l1, .inl (kl1, 10, .inl fll)), (l4, .inl (kl4, 100, .inl fln)), (nm0, .inl (knm0, 10, .inl fnm)), (v2, .inl (kv2, 81, .inl fsm)), (o1, .inl (ko1, 10, .inl fop)), (o2, .inl (ko2, 10, .inl fon)), (o3, .inl (ko3, 10, .inl fos))] := hD
      refine lv_goto (tgt := 100) hx hb dX9_begin_33 (by decide) ?_
      have hP9 := hP.sub (ws' := [(h0, .inr (8, [w0, w1, w2, w3, .int (nI kn), .ref l4, .ref l1, w7, w8, w9, w10, w11, w12, .ref v2, .ref nm0, .ref o1, .ref o2, .ref o3, .int (nI op), .int (nI wk), w20, w21, .int 2, w23, w24, w25, w26, w27, w28, w29, w30, w31, w32, w33, w34])), (l1, .inl (kl1, 10, .inl fll)), (l4, .inl (kl4, 100, .inl fln)), (nm0, .inl (knm0, 10, .inl fnm)), (v2, .inl (kv2, 81, .inl fsm)), (o1, .inl (ko1, 10, .inl fop)), (o2, .inl (ko2, 10, .inl fon)), (o3, .inl (ko3, 10, .inl fos))]) [0, 1, 2, 3, 4, 5, 6, 7] rfl
      have hD9 := hD.sub (ws' := [(h0, .inr (8, [w0, w1, w2, w3, .int (nI kn), .ref l4, .ref l1, w7, w8, w9, w10, w11, w12, .ref v2, .ref nm0, .ref o1, .ref o2, .ref o3, .int (nI op), .int (nI wk), w20, w21, .int 2, w23, w24, w25, w26, w27, w28, w29, w30, w31, w32, w33, w34])), (l1, .inl (kl1, 10, .inl fll)), (l4, .inl (kl4, 100, .inl fln)), (nm0, .inl (knm0, 10, .inl fnm)), (v2, .inl (kv2, 81, .inl fsm)), (o1, .inl (ko1, 10, .inl fop)), (o2, .inl (ko2, 10, .inl fon)), (o3, .inl (ko3, 10, .inl fos))]) [0, 1, 2, 3, 4, 5, 6, 7] (by decide) rfl
      have hK9 := hK.sub (tys' := [(kl1, .int), (kl4, .int), (knm0, .int), (kv2, .int), (ko1, .int), (ko2, .int), (ko3, .int)]) [0, 1, 2, 3, 4, 5, 6] rfl
      exact W.vret hx hb hr (fun t ht hW => ⟨⟨(), rfl, trivial, op, wk, 2, fop, fon, fos, hop, hwk, hos, (Nat.le_refl _), (bg_full (by omega)), by rw [ht]; exact hP9, va_K.moved hW.alike hK9, hD9⟩, hS.F ht⟩) hS.2.2 dX9_begin_100
    · have b_7 := gn_eq (X := ((op : Nat) : Int)) (C := 9) (nI_toInt (by omega)) (by decide) c_6
      refine lv_aload_n hx hb dX9_begin_18 rfl (lv_at hl 1 rfl) ?_
      refine va_get (D := (dC, dI)) (ci := 8) (v := .int (nI wk)) (C := RX9) (T := TX9) (N := 35) hx hb hts inB_9 hown hK hP 0 rfl rfl 19 (by decide) (hts _ mw_3_201) (fun _ h9 => h9) rfl dX9_begin_19 ?_
      refine lv_sipush (v := 200) hx hb dX9_begin_22 (by decide) ?_
      refine lv_icmp_ne (tgt := 36) hx hb dX9_begin_25 (by decide) (fun c_8 => ?_) (fun c_8 => ?_)
      · have b_9 := gx_ne (X := ((wk : Nat) : Int)) (C := 200) (nI_toInt (by omega)) (by decide) c_8
        refine lv_iload hx hb dX9_begin_36 (lv_at hl 0 rfl) ?_
        refine lv_if_ge (tgt := 49) hx hb dX9_begin_38 (by decide) (fun c_10 => ?_) (fun h => absurd (gn_ge (X := ((q9 : Nat) : Int)) (C := 0) (nI_toInt (by omega)) (by decide) h) (by omega))
        have b_11 := gx_ge (X := ((q9 : Nat) : Int)) (C := 0) (nI_toInt (by omega)) (by decide) c_10
        refine lv_aload_n hx hb dX9_begin_49 rfl (lv_at hl 1 rfl) ?_
        refine lv_dup hx hb dX9_begin_50 rfl ?_
        refine va_get (D := (dC, dI)) (ci := 8) (v := .int (nI wk)) (C := RX9) (T := TX9) (N := 35) hx hb hts inB_9 hown hK hP 0 rfl rfl 19 (by decide) (hts _ mw_3_201) (fun _ h9 => h9) rfl dX9_begin_51 ?_
        refine lv_iconst (v := 1) hx hb dX9_begin_54 (by decide) ?_
        refine lv_iadd hx hb dX9_begin_55 ?_
        refine hx_top (y := (nI (wk + 1))) (nI_add wk 1) ?_
        refine va_put (D := (dC, dI)) (ci := 8) (v := .int (nI (wk + 1))) (ty := .int) (C := RX9) (T := TX9) (N := 35) hx hb hts inB_9 tyX9 tyX9_ok nmX9 hown hK hP hD hS 0 rfl rfl 19 (by decide) (hts _ mw_3_201) (fun _ h9 => h9) rfl (by decide +kernel) rfl rfl (Nat.le_of_ble_eq_true rfl) dX9_begin_56 (fun H locs hP hD hS => ?_)
        have hP : va_P (dC, dI) vwCl [(h0, .inr (8, [w0, w1, w2, w3, .int (nI kn), .ref l4, .ref l1, w7, w8, w9, w10, w11, w12, .ref v2, .ref nm0, .ref o1, .ref o2, .ref o3, .int (nI op), .int (nI (wk + 1)), w20, w21, .int en, w23, w24, w25, w26, w27, w28, w29, w30, w31, w32, w33, w34])), (l1, .inl (kl1, 10, .inl fll)), (l4, .inl (kl4, 100, .inl fln)), (nm0, .inl (knm0, 10, .inl fnm)), (v2, .inl (kv2, 81, .inl fsm)), (o1, .inl (ko1, 10, .inl fop)), (o2, .inl (ko2, 10, .inl fon)), (o3, .inl (ko3, 10, .inl fos))] H := hP
        have hD : va_D A [(h0, .inr (8, [w0, w1, w2, w3, .int (nI kn), .ref l4, .ref l1, w7, w8, w9, w10, w11, w12, .ref v2, .ref nm0, .ref o1, .ref o2, .ref o3, .int (nI op), .int (nI (wk + 1)), w20, w21, .int en, w23, w24, w25, w26, w27, w28, w29, w30, w31, w32, w33, w34])), (l1, .inl (kl1, 10, .inl fll)), (l4, .inl (kl4, 100, .inl fln)), (nm0, .inl (knm0, 10, .inl fnm)), (v2, .inl (kv2, 81, .inl fsm)), (o1, .inl (ko1, 10, .inl fop)), (o2, .inl (ko2, 10, .inl fon)), (o3, .inl (ko3, 10, .inl fos))] := hD
        refine lv_aload_n hx hb dX9_begin_59 rfl (lv_at hl 1 rfl) ?_
        refine va_get (D := (dC, dI)) (ci := 8) (v := .ref o1) (C := RX9) (T := TX9) (N := 35) hx hb hts inB_9 hown hK hP 0 rfl rfl 15 (by decide) (hts _ mw_3_197) (fun _ h9 => h9) rfl dX9_begin_60 ?_
        refine lv_aload_n hx hb dX9_begin_63 rfl (lv_at hl 1 rfl) ?_
        refine va_get (D := (dC, dI)) (ci := 8) (v := .int (nI op)) (C := RX9) (T := TX9) (N := 35) hx hb hts inB_9 hown hK hP 0 rfl rfl 18 (by decide) (hts _ mw_3_200) (fun _ h9 => h9) rfl dX9_begin_64 ?_
        refine lv_iload hx hb dX9_begin_67 (lv_at hl 0 rfl) ?_
        refine va_iast hx hb hK hP hD hS 5 4 rfl rfl (show vp_in (nI op) 10 from vp_in_nI (by omega) (by omega)) dX9_begin_69 (fun H locs hP hD hS => ?_)
        obtain ⟨f_12, ef_12⟩ : ∃ g : Nat → Int32, g = upd fop (Int32.toNatClampNeg (nI op)) (nI q9) := ⟨_, rfl⟩
        rw [← ef_12] at hP hD
        have ef_12 : f_12 = upd fop op (nI q9) := by rw [ef_12, nI_clamp (by omega)]
        have hP : va_P (dC, dI) vwCl [(h0, .inr (8, [w0, w1, w2, w3, .int (nI kn), .ref l4, .ref l1, w7, w8, w9, w10, w11, w12, .ref v2, .ref nm0, .ref o1, .ref o2, .ref o3, .int (nI op), .int (nI (wk + 1)), w20, w21, .int en, w23, w24, w25, w26, w27, w28, w29, w30, w31, w32, w33, w34])), (l1, .inl (kl1, 10, .inl fll)), (l4, .inl (kl4, 100, .inl fln)), (nm0, .inl (knm0, 10, .inl fnm)), (v2, .inl (kv2, 81, .inl fsm)), (o1, .inl (ko1, 10, .inl f_12)), (o2, .inl (ko2, 10, .inl fon)), (o3, .inl (ko3, 10, .inl fos))] H := hP
        have hD : va_D A [(h0, .inr (8, [w0, w1, w2, w3, .int (nI kn), .ref l4, .ref l1, w7, w8, w9, w10, w11, w12, .ref v2, .ref nm0, .ref o1, .ref o2, .ref o3, .int (nI op), .int (nI (wk + 1)), w20, w21, .int en, w23, w24, w25, w26, w27, w28, w29, w30, w31, w32, w33, w34])), (l1, .inl (kl1, 10, .inl fll)), (l4, .inl (kl4, 100, .inl fln)), (nm0, .inl (knm0, 10, .inl fnm)), (v2, .inl (kv2, 81, .inl fsm)), (o1, .inl (ko1, 10, .inl f_12)), (o2, .inl (ko2, 10, .inl fon)), (o3, .inl (ko3, 10, .inl fos))] := hD
        refine lv_aload_n hx hb dX9_begin_70 rfl (lv_at hl 1 rfl) ?_
        refine va_get (D := (dC, dI)) (ci := 8) (v := .ref o2) (C := RX9) (T := TX9) (N := 35) hx hb hts inB_9 hown hK hP 0 rfl rfl 16 (by decide) (hts _ mw_3_198) (fun _ h9 => h9) rfl dX9_begin_71 ?_
        refine lv_aload_n hx hb dX9_begin_74 rfl (lv_at hl 1 rfl) ?_
        refine va_get (D := (dC, dI)) (ci := 8) (v := .int (nI op)) (C := RX9) (T := TX9) (N := 35) hx hb hts inB_9 hown hK hP 0 rfl rfl 18 (by decide) (hts _ mw_3_200) (fun _ h9 => h9) rfl dX9_begin_75 ?_
        refine lv_iload_n hx hb dX9_begin_78 rfl (lv_at hl 3 rfl) ?_
        refine va_iast hx hb hK hP hD hS 6 5 rfl rfl (show vp_in (nI op) 10 from vp_in_nI (by omega) (by omega)) dX9_begin_79 (fun H locs hP hD hS => ?_)
        obtain ⟨f_13, ef_13⟩ : ∃ g : Nat → Int32, g = upd fon (Int32.toNatClampNeg (nI op)) (nI nq) := ⟨_, rfl⟩
        rw [← ef_13] at hP hD
        have ef_13 : f_13 = upd fon op (nI nq) := by rw [ef_13, nI_clamp (by omega)]
        have hP : va_P (dC, dI) vwCl [(h0, .inr (8, [w0, w1, w2, w3, .int (nI kn), .ref l4, .ref l1, w7, w8, w9, w10, w11, w12, .ref v2, .ref nm0, .ref o1, .ref o2, .ref o3, .int (nI op), .int (nI (wk + 1)), w20, w21, .int en, w23, w24, w25, w26, w27, w28, w29, w30, w31, w32, w33, w34])), (l1, .inl (kl1, 10, .inl fll)), (l4, .inl (kl4, 100, .inl fln)), (nm0, .inl (knm0, 10, .inl fnm)), (v2, .inl (kv2, 81, .inl fsm)), (o1, .inl (ko1, 10, .inl f_12)), (o2, .inl (ko2, 10, .inl f_13)), (o3, .inl (ko3, 10, .inl fos))] H := hP
        have hD : va_D A [(h0, .inr (8, [w0, w1, w2, w3, .int (nI kn), .ref l4, .ref l1, w7, w8, w9, w10, w11, w12, .ref v2, .ref nm0, .ref o1, .ref o2, .ref o3, .int (nI op), .int (nI (wk + 1)), w20, w21, .int en, w23, w24, w25, w26, w27, w28, w29, w30, w31, w32, w33, w34])), (l1, .inl (kl1, 10, .inl fll)), (l4, .inl (kl4, 100, .inl fln)), (nm0, .inl (knm0, 10, .inl fnm)), (v2, .inl (kv2, 81, .inl fsm)), (o1, .inl (ko1, 10, .inl f_12)), (o2, .inl (ko2, 10, .inl f_13)), (o3, .inl (ko3, 10, .inl fos))] := hD
        refine lv_aload_n hx hb dX9_begin_80 rfl (lv_at hl 1 rfl) ?_
        refine va_get (D := (dC, dI)) (ci := 8) (v := .ref o3) (C := RX9) (T := TX9) (N := 35) hx hb hts inB_9 hown hK hP 0 rfl rfl 17 (by decide) (hts _ mw_3_199) (fun _ h9 => h9) rfl dX9_begin_81 ?_
        refine lv_aload_n hx hb dX9_begin_84 rfl (lv_at hl 1 rfl) ?_
        refine va_get (D := (dC, dI)) (ci := 8) (v := .int (nI op)) (C := RX9) (T := TX9) (N := 35) hx hb hts inB_9 hown hK hP 0 rfl rfl 18 (by decide) (hts _ mw_3_200) (fun _ h9 => h9) rfl dX9_begin_85 ?_
        refine lv_iconst (v := 0) hx hb dX9_begin_88 (by decide) ?_
        refine va_iast hx hb hK hP hD hS 7 6 rfl rfl (show vp_in (nI op) 10 from vp_in_nI (by omega) (by omega)) dX9_begin_89 (fun H locs hP hD hS => ?_)
        obtain ⟨f_14, ef_14⟩ : ∃ g : Nat → Int32, g = upd fos (Int32.toNatClampNeg (nI op)) 0 := ⟨_, rfl⟩
        rw [← ef_14] at hP hD
        have ef_14 : f_14 = upd fos op 0 := by rw [ef_14, nI_clamp (by omega)]
        have hP : va_P (dC, dI) vwCl [(h0, .inr (8, [w0, w1, w2, w3, .int (nI kn), .ref l4, .ref l1, w7, w8, w9, w10, w11, w12, .ref v2, .ref nm0, .ref o1, .ref o2, .ref o3, .int (nI op), .int (nI (wk + 1)), w20, w21, .int en, w23, w24, w25, w26, w27, w28, w29, w30, w31, w32, w33, w34])), (l1, .inl (kl1, 10, .inl fll)), (l4, .inl (kl4, 100, .inl fln)), (nm0, .inl (knm0, 10, .inl fnm)), (v2, .inl (kv2, 81, .inl fsm)), (o1, .inl (ko1, 10, .inl f_12)), (o2, .inl (ko2, 10, .inl f_13)), (o3, .inl (ko3, 10, .inl f_14))] H := hP
        have hD : va_D A [(h0, .inr (8, [w0, w1, w2, w3, .int (nI kn), .ref l4, .ref l1, w7, w8, w9, w10, w11, w12, .ref v2, .ref nm0, .ref o1, .ref o2, .ref o3, .int (nI op), .int (nI (wk + 1)), w20, w21, .int en, w23, w24, w25, w26, w27, w28, w29, w30, w31, w32, w33, w34])), (l1, .inl (kl1, 10, .inl fll)), (l4, .inl (kl4, 100, .inl fln)), (nm0, .inl (knm0, 10, .inl fnm)), (v2, .inl (kv2, 81, .inl fsm)), (o1, .inl (ko1, 10, .inl f_12)), (o2, .inl (ko2, 10, .inl f_13)), (o3, .inl (ko3, 10, .inl f_14))] := hD
        refine lv_aload_n hx hb dX9_begin_90 rfl (lv_at hl 1 rfl) ?_
        refine lv_dup hx hb dX9_begin_91 rfl ?_
        refine va_get (D := (dC, dI)) (ci := 8) (v := .int (nI op)) (C := RX9) (T := TX9) (N := 35) hx hb hts inB_9 hown hK hP 0 rfl rfl 18 (by decide) (hts _ mw_3_200) (fun _ h9 => h9) rfl dX9_begin_92 ?_
        refine lv_iconst (v := 1) hx hb dX9_begin_95 (by decide) ?_
        refine lv_iadd hx hb dX9_begin_96 ?_
        refine hx_top (y := (nI (op + 1))) (nI_add op 1) ?_
        refine va_put (D := (dC, dI)) (ci := 8) (v := .int (nI (op + 1))) (ty := .int) (C := RX9) (T := TX9) (N := 35) hx hb hts inB_9 tyX9 tyX9_ok nmX9 hown hK hP hD hS 0 rfl rfl 18 (by decide) (hts _ mw_3_200) (fun _ h9 => h9) rfl (by decide +kernel) rfl rfl (Nat.le_of_ble_eq_true rfl) dX9_begin_97 (fun H locs hP hD hS => ?_)
        have hP : va_P (dC, dI) vwCl [(h0, .inr (8, [w0, w1, w2, w3, .int (nI kn), .ref l4, .ref l1, w7, w8, w9, w10, w11, w12, .ref v2, .ref nm0, .ref o1, .ref o2, .ref o3, .int (nI (op + 1)), .int (nI (wk + 1)), w20, w21, .int en, w23, w24, w25, w26, w27, w28, w29, w30, w31, w32, w33, w34])), (l1, .inl (kl1, 10, .inl fll)), (l4, .inl (kl4, 100, .inl fln)), (nm0, .inl (knm0, 10, .inl fnm)), (v2, .inl (kv2, 81, .inl fsm)), (o1, .inl (ko1, 10, .inl f_12)), (o2, .inl (ko2, 10, .inl f_13)), (o3, .inl (ko3, 10, .inl f_14))] H := hP
        have hD : va_D A [(h0, .inr (8, [w0, w1, w2, w3, .int (nI kn), .ref l4, .ref l1, w7, w8, w9, w10, w11, w12, .ref v2, .ref nm0, .ref o1, .ref o2, .ref o3, .int (nI (op + 1)), .int (nI (wk + 1)), w20, w21, .int en, w23, w24, w25, w26, w27, w28, w29, w30, w31, w32, w33, w34])), (l1, .inl (kl1, 10, .inl fll)), (l4, .inl (kl4, 100, .inl fln)), (nm0, .inl (knm0, 10, .inl fnm)), (v2, .inl (kv2, 81, .inl fsm)), (o1, .inl (ko1, 10, .inl f_12)), (o2, .inl (ko2, 10, .inl f_13)), (o3, .inl (ko3, 10, .inl f_14))] := hD
        have hP9 := hP.sub (ws' := [(h0, .inr (8, [w0, w1, w2, w3, .int (nI kn), .ref l4, .ref l1, w7, w8, w9, w10, w11, w12, .ref v2, .ref nm0, .ref o1, .ref o2, .ref o3, .int (nI (op + 1)), .int (nI (wk + 1)), w20, w21, .int en, w23, w24, w25, w26, w27, w28, w29, w30, w31, w32, w33, w34])), (l1, .inl (kl1, 10, .inl fll)), (l4, .inl (kl4, 100, .inl fln)), (nm0, .inl (knm0, 10, .inl fnm)), (v2, .inl (kv2, 81, .inl fsm)), (o1, .inl (ko1, 10, .inl f_12)), (o2, .inl (ko2, 10, .inl f_13)), (o3, .inl (ko3, 10, .inl f_14))]) [0, 1, 2, 3, 4, 5, 6, 7] rfl
        have hD9 := hD.sub (ws' := [(h0, .inr (8, [w0, w1, w2, w3, .int (nI kn), .ref l4, .ref l1, w7, w8, w9, w10, w11, w12, .ref v2, .ref nm0, .ref o1, .ref o2, .ref o3, .int (nI (op + 1)), .int (nI (wk + 1)), w20, w21, .int en, w23, w24, w25, w26, w27, w28, w29, w30, w31, w32, w33, w34])), (l1, .inl (kl1, 10, .inl fll)), (l4, .inl (kl4, 100, .inl fln)), (nm0, .inl (knm0, 10, .inl fnm)), (v2, .inl (kv2, 81, .inl fsm)), (o1, .inl (ko1, 10, .inl f_12)), (o2, .inl (ko2, 10, .inl f_13)), (o3, .inl (ko3, 10, .inl f_14))]) [0, 1, 2, 3, 4, 5, 6, 7] (by decide) rfl
        have hK9 := hK.sub (tys' := [(kl1, .int), (kl4, .int), (knm0, .int), (kv2, .int), (ko1, .int), (ko2, .int), (ko3, .int)]) [0, 1, 2, 3, 4, 5, 6] rfl
        exact W.vret hx hb hr (fun t ht hW => ⟨⟨(), rfl, trivial, (op + 1), (wk + 1), en, f_12, f_13, f_14, (by omega), (by omega), (by obtain ⟨y, hy, ey⟩ := hln kq (by omega) q9 hq9; exact os_push hos ef_12 ef_13 ef_14 ⟨hq9, by omega⟩ (by omega) (by omega) ey), (mu_push ef_14 (by omega)), (by rw [hen]; exact bg_push (by omega) (by omega) hw_1 (by omega) (by omega) ef_12 ef_13 ef_14), by rw [ht]; exact hP9, va_K.moved hW.alike hK9, hD9⟩, hS.F ht⟩) hS.2.2 dX9_begin_100
      · have b_9 := gn_ne (X := ((wk : Nat) : Int)) (C := 200) (nI_toInt (by omega)) (by decide) c_8
        refine lv_aload_n hx hb dX9_begin_28 rfl (lv_at hl 1 rfl) ?_
        refine lv_iconst (v := 2) hx hb dX9_begin_29 (by decide) ?_
        refine va_put (D := (dC, dI)) (ci := 8) (v := .int 2) (ty := .int) (C := RX9) (T := TX9) (N := 35) hx hb hts inB_9 tyX9 tyX9_ok nmX9 hown hK hP hD hS 0 rfl rfl 22 (by decide) (hts _ mw_3_204) (fun _ h9 => h9) rfl (by decide +kernel) rfl rfl (Nat.le_of_ble_eq_true rfl) dX9_begin_30 (fun H locs hP hD hS => ?_)
        have hP : va_P (dC, dI) vwCl [(h0, .inr (8, [w0, w1, w2, w3, .int (nI kn), .ref l4, .ref l1, w7, w8, w9, w10, w11, w12, .ref v2, .ref nm0, .ref o1, .ref o2, .ref o3, .int (nI op), .int (nI wk), w20, w21, .int 2, w23, w24, w25, w26, w27, w28, w29, w30, w31, w32, w33, w34])), (l1, .inl (kl1, 10, .inl fll)), (l4, .inl (kl4, 100, .inl fln)), (nm0, .inl (knm0, 10, .inl fnm)), (v2, .inl (kv2, 81, .inl fsm)), (o1, .inl (ko1, 10, .inl fop)), (o2, .inl (ko2, 10, .inl fon)), (o3, .inl (ko3, 10, .inl fos))] H := hP
        have hD : va_D A [(h0, .inr (8, [w0, w1, w2, w3, .int (nI kn), .ref l4, .ref l1, w7, w8, w9, w10, w11, w12, .ref v2, .ref nm0, .ref o1, .ref o2, .ref o3, .int (nI op), .int (nI wk), w20, w21, .int 2, w23, w24, w25, w26, w27, w28, w29, w30, w31, w32, w33, w34])), (l1, .inl (kl1, 10, .inl fll)), (l4, .inl (kl4, 100, .inl fln)), (nm0, .inl (knm0, 10, .inl fnm)), (v2, .inl (kv2, 81, .inl fsm)), (o1, .inl (ko1, 10, .inl fop)), (o2, .inl (ko2, 10, .inl fon)), (o3, .inl (ko3, 10, .inl fos))] := hD
        refine lv_goto (tgt := 100) hx hb dX9_begin_33 (by decide) ?_
        have hP9 := hP.sub (ws' := [(h0, .inr (8, [w0, w1, w2, w3, .int (nI kn), .ref l4, .ref l1, w7, w8, w9, w10, w11, w12, .ref v2, .ref nm0, .ref o1, .ref o2, .ref o3, .int (nI op), .int (nI wk), w20, w21, .int 2, w23, w24, w25, w26, w27, w28, w29, w30, w31, w32, w33, w34])), (l1, .inl (kl1, 10, .inl fll)), (l4, .inl (kl4, 100, .inl fln)), (nm0, .inl (knm0, 10, .inl fnm)), (v2, .inl (kv2, 81, .inl fsm)), (o1, .inl (ko1, 10, .inl fop)), (o2, .inl (ko2, 10, .inl fon)), (o3, .inl (ko3, 10, .inl fos))]) [0, 1, 2, 3, 4, 5, 6, 7] rfl
        have hD9 := hD.sub (ws' := [(h0, .inr (8, [w0, w1, w2, w3, .int (nI kn), .ref l4, .ref l1, w7, w8, w9, w10, w11, w12, .ref v2, .ref nm0, .ref o1, .ref o2, .ref o3, .int (nI op), .int (nI wk), w20, w21, .int 2, w23, w24, w25, w26, w27, w28, w29, w30, w31, w32, w33, w34])), (l1, .inl (kl1, 10, .inl fll)), (l4, .inl (kl4, 100, .inl fln)), (nm0, .inl (knm0, 10, .inl fnm)), (v2, .inl (kv2, 81, .inl fsm)), (o1, .inl (ko1, 10, .inl fop)), (o2, .inl (ko2, 10, .inl fon)), (o3, .inl (ko3, 10, .inl fos))]) [0, 1, 2, 3, 4, 5, 6, 7] (by decide) rfl
        have hK9 := hK.sub (tys' := [(kl1, .int), (kl4, .int), (knm0, .int), (kv2, .int), (ko1, .int), (ko2, .int), (ko3, .int)]) [0, 1, 2, 3, 4, 5, 6] rfl
        exact W.vret hx hb hr (fun t ht hW => ⟨⟨(), rfl, trivial, op, wk, 2, fop, fon, fos, hop, hwk, hos, (Nat.le_refl _), (bg_full (by omega)), by rw [ht]; exact hP9, va_K.moved hW.alike hK9, hD9⟩, hS.F ht⟩) hS.2.2 dX9_begin_100
set_option maxHeartbeats 4000000 in
set_option maxRecDepth 100000 in
theorem m_work (l : Launch) (dC : Nat → ClassId) (dI : Nat → Nat → Nat) (sz : Nat) (h0 : Nat) (w0 : Value) (w1 : Value) (w2 : Value) (w3 : Value) (kn : Nat) (l4 : Nat) (l1 : Nat) (w7 : Value) (w8 : Value) (w9 : Value) (w10 : Value) (w11 : Value) (w12 : Value) (v2 : Nat) (nm0 : Nat) (o1 : Nat) (o2 : Nat) (o3 : Nat) (op : Nat) (wk : Nat) (o4 : Nat) (sd : Nat) (en : Int32) (w23 : Value) (w24 : Value) (w25 : Value) (w26 : Value) (w27 : Value) (w28 : Value) (w29 : Value) (w30 : Value) (w31 : Value) (w32 : Value) (w33 : Value) (w34 : Value) (kl1 : ClassId) (fll : Nat → Int32) (kl4 : ClassId) (fln : Nat → Int32) (knm0 : ClassId) (fnm : Nat → Int32) (kv2 : ClassId) (fsm : Nat → Int32) (ko1 : ClassId) (fop : Nat → Int32) (ko2 : ClassId) (fon : Nat → Int32) (ko3 : ClassId) (fos : Nat → Int32) (ko4 : ClassId) (fsd : Nat → Int32) (kq : Nat) (n : Int32) (tp : Nat) (fsg : Nat → Int32) (hkn : kn ≤ 10) (hll : BdOk 10 10 fll) (hln : LnOk fll fln kn) (hkq : kq < kn) (hop : op ≤ 9) (hwk : wk ≤ 200) (hos : OsOk fll fln fsm kq fop fon fos op) (hsd : sd ≤ 40) (htp : tp < op) (hvc : Vc n) (hen : en = 0) : Met l yX9_work (wq yX9_work cX9_work 4 none) ({ frames := 3, cells := 0, slots := 0, locals := 71 }) (va_Pc [.ref h0, .int (nI kq), .int n, .int (nI tp)] (pcW dC dI [(kl1, .int), (kl4, .int), (knm0, .int), (kv2, .int), (ko1, .int), (ko2, .int), (ko3, .int), (ko4, .int)] [(h0, .inr (8, [w0, w1, w2, w3, .int (nI kn), .ref l4, .ref l1, w7, w8, w9, w10, w11, w12, .ref v2, .ref nm0, .ref o1, .ref o2, .ref o3, .int (nI op), .int (nI wk), .ref o4, .int (nI sd), .int en, w23, w24, w25, w26, w27, w28, w29, w30, w31, w32, w33, w34])), (l1, .inl (kl1, 10, .inl fll)), (l4, .inl (kl4, 100, .inl fln)), (nm0, .inl (knm0, 10, .inl fnm)), (v2, .inl (kv2, 81, .inl fsm)), (o1, .inl (ko1, 10, .inl fop)), (o2, .inl (ko2, 10, .inl fon)), (o3, .inl (ko3, 10, .inl fos)), (o4, .inl (ko4, 40, .inl fsd))] sz)) (va_Qv (fun _ : Unit => True) (fun _ t => ∃ (op2 : Nat) (wk2 : Nat) (en2 : Int32) (fop2 : Nat → Int32) (fon2 : Nat → Int32) (fos2 : Nat → Int32) (sd2 : Nat) (fsd2 : Nat → Int32), (op2 ≤ 9) ∧ (wk2 ≤ 200) ∧ (OsOk fll fln fsm kq fop2 fon2 fos2 op2) ∧ (rMu wk2 fos2 op2 ≤ rMu wk fos op) ∧ (sd2 ≤ 40) ∧ (FinEq (finM fll fln fnm fsm fsg kq fop2 fon2 fos2 op2 (en2, wk2, sd2, fsd2)) (finM fll fln fnm fsm fsg kq fop fon fos op (stepF (wdM fll fln fnm fsm fsg kq (9 - op)) (fon tp).toNatClampNeg (fop tp).toNatClampNeg n (wk, sd, fsd)))) ∧ va_P (dC, dI) vwCl [(h0, .inr (8, [w0, w1, w2, w3, .int (nI kn), .ref l4, .ref l1, w7, w8, w9, w10, w11, w12, .ref v2, .ref nm0, .ref o1, .ref o2, .ref o3, .int (nI op2), .int (nI wk2), .ref o4, .int (nI sd2), .int en2, w23, w24, w25, w26, w27, w28, w29, w30, w31, w32, w33, w34])), (l1, .inl (kl1, 10, .inl fll)), (l4, .inl (kl4, 100, .inl fln)), (nm0, .inl (knm0, 10, .inl fnm)), (v2, .inl (kv2, 81, .inl fsm)), (o1, .inl (ko1, 10, .inl fop2)), (o2, .inl (ko2, 10, .inl fon2)), (o3, .inl (ko3, 10, .inl fos2)), (o4, .inl (ko4, 40, .inl fsd2))] t.heap ∧ va_K (dC, dI) vwCl [(kl1, .int), (kl4, .int), (knm0, .int), (kv2, .int), (ko1, .int), (ko2, .int), (ko3, .int), (ko4, .int)] t ∧ va_D (va_A [(h0, .inr (8, [w0, w1, w2, w3, .int (nI kn), .ref l4, .ref l1, w7, w8, w9, w10, w11, w12, .ref v2, .ref nm0, .ref o1, .ref o2, .ref o3, .int (nI op), .int (nI wk), .ref o4, .int (nI sd), .int en, w23, w24, w25, w26, w27, w28, w29, w30, w31, w32, w33, w34])), (l1, .inl (kl1, 10, .inl fll)), (l4, .inl (kl4, 100, .inl fln)), (nm0, .inl (knm0, 10, .inl fnm)), (v2, .inl (kv2, 81, .inl fsm)), (o1, .inl (ko1, 10, .inl fop)), (o2, .inl (ko2, 10, .inl fon)), (o3, .inl (ko3, 10, .inl fos)), (o4, .inl (ko4, 40, .inl fsd))] sz) [(h0, .inr (8, [w0, w1, w2, w3, .int (nI kn), .ref l4, .ref l1, w7, w8, w9, w10, w11, w12, .ref v2, .ref nm0, .ref o1, .ref o2, .ref o3, .int (nI op2), .int (nI wk2), .ref o4, .int (nI sd2), .int en2, w23, w24, w25, w26, w27, w28, w29, w30, w31, w32, w33, w34])), (l1, .inl (kl1, 10, .inl fll)), (l4, .inl (kl4, 100, .inl fln)), (nm0, .inl (knm0, 10, .inl fnm)), (v2, .inl (kv2, 81, .inl fsm)), (o1, .inl (ko1, 10, .inl fop2)), (o2, .inl (ko2, 10, .inl fon2)), (o3, .inl (ko3, 10, .inl fos2)), (o4, .inl (ko4, 40, .inl fsd2))]) (va_A [(h0, .inr (8, [w0, w1, w2, w3, .int (nI kn), .ref l4, .ref l1, w7, w8, w9, w10, w11, w12, .ref v2, .ref nm0, .ref o1, .ref o2, .ref o3, .int (nI op), .int (nI wk), .ref o4, .int (nI sd), .int en, w23, w24, w25, w26, w27, w28, w29, w30, w31, w32, w33, w34])), (l1, .inl (kl1, 10, .inl fll)), (l4, .inl (kl4, 100, .inl fln)), (nm0, .inl (knm0, 10, .inl fnm)), (v2, .inl (kv2, 81, .inl fsm)), (o1, .inl (ko1, 10, .inl fop)), (o2, .inl (ko2, 10, .inl fon)), (o3, .inl (ko3, 10, .inl fos)), (o4, .inl (ko4, 40, .inl fsd))] sz)) 0 0 (va_A [(h0, .inr (8, [w0, w1, w2, w3, .int (nI kn), .ref l4, .ref l1, w7, w8, w9, w10, w11, w12, .ref v2, .ref nm0, .ref o1, .ref o2, .ref o3, .int (nI op), .int (nI wk), .ref o4, .int (nI sd), .int en, w23, w24, w25, w26, w27, w28, w29, w30, w31, w32, w33, w34])), (l1, .inl (kl1, 10, .inl fll)), (l4, .inl (kl4, 100, .inl fln)), (nm0, .inl (knm0, 10, .inl fnm)), (v2, .inl (kv2, 81, .inl fsm)), (o1, .inl (ko1, 10, .inl fop)), (o2, .inl (ko2, 10, .inl fon)), (o3, .inl (ko3, 10, .inl fos)), (o4, .inl (ko4, 40, .inl fsd))] sz) := by
  refine Met.ofW (cc := cX9_work) (maxL := 4) (ret := none) (by decide) rfl ?_
  intro p e s m args below meth c s₁ B hml hv
  obtain ⟨rfl, hsz, hN, hP, hK, hD0⟩ := hv
  have hx := B.exec
  have hb := B.bytes
  have hr := B.returns
  have hts0 := atoms_spec (ws := (wq yX9_work cX9_work 4 none)) B.pre
  have hts : ∀ w ∈ BG, w.before _ s = true := fun w h => hts0 w (List.mem_cons_of_mem _ h)
  have hown : s.vm.findClass RX9 = some m.cls := findClass_of_methodNamed B.named
  have hlocks := B.notSynchronized
  subst hsz
  have hD := hD0.self (sz := s.heap.size)
  generalize hAe : va_A [(h0, .inr (8, [w0, w1, w2, w3, .int (nI kn), .ref l4, .ref l1, w7, w8, w9, w10, w11, w12, .ref v2, .ref nm0, .ref o1, .ref o2, .ref o3, .int (nI op), .int (nI wk), .ref o4, .int (nI sd), .int en, w23, w24, w25, w26, w27, w28, w29, w30, w31, w32, w33, w34])), (l1, .inl (kl1, 10, .inl fll)), (l4, .inl (kl4, 100, .inl fln)), (nm0, .inl (knm0, 10, .inl fnm)), (v2, .inl (kv2, 81, .inl fsm)), (o1, .inl (ko1, 10, .inl fop)), (o2, .inl (ko2, 10, .inl fon)), (o3, .inl (ko3, 10, .inl fos)), (o4, .inl (ko4, 40, .inl fsd))] s.heap.size = A at hD ⊢
  have hA : ∀ q : Nat, s.heap.size ≤ q → A q := fun q h => by rw [← hAe]; exact Or.inr h
  have hS : va_S A s.heap s.heap [] := va_S.rf
  clear hAe hD0
  have hP : va_P (dC, dI) vwCl [(h0, .inr (8, [w0, w1, w2, w3, .int (nI kn), .ref l4, .ref l1, w7, w8, w9, w10, w11, w12, .ref v2, .ref nm0, .ref o1, .ref o2, .ref o3, .int (nI op), .int (nI wk), .ref o4, .int (nI sd), .int en, w23, w24, w25, w26, w27, w28, w29, w30, w31, w32, w33, w34])), (l1, .inl (kl1, 10, .inl fll)), (l4, .inl (kl4, 100, .inl fln)), (nm0, .inl (knm0, 10, .inl fnm)), (v2, .inl (kv2, 81, .inl fsm)), (o1, .inl (ko1, 10, .inl fop)), (o2, .inl (ko2, 10, .inl fon)), (o3, .inl (ko3, 10, .inl fos)), (o4, .inl (ko4, 40, .inl fsd))] s.heap := hP
  have hl := lv_entry ([.ref h0, .int (nI kq), .int n, .int (nI tp)]) (n := 4) (Nat.le_of_ble_eq_true rfl)
  rw [lg_entry_eq]
  generalize (lg_sl ([.ref h0, .int (nI kq), .int n, .int (nI tp)]) ++ List.replicate (4 - (lg_sl ([.ref h0, .int (nI kq), .int n, .int (nI tp)])).length) Slot.unset).toArray = ls at hl ⊢
  have hl : lv_has ls 4 [(0, .ref h0), (1, .int (nI kq)), (2, .int n), (3, .int (nI tp))] := hl
  refine lv_iload_n hx hb dX9_work_0 rfl (lv_at hl 2 rfl) ?_
  refine lv_bipush (v := 94) hx hb dX9_work_1 (by decide) ?_
  refine lv_icmp_ne (tgt := 28) hx hb dX9_work_3 (by decide) (fun c_1 => ?_) (fun c_1 => ?_)
  · have b_2 := gx_ne (X := (Int32.toInt n)) (C := 94) rfl (by decide) c_1
    refine lv_iload_n hx hb dX9_work_28 rfl (lv_at hl 2 rfl) ?_
    refine lv_bipush (v := 97) hx hb dX9_work_29 (by decide) ?_
    refine lv_icmp_lt (tgt := 47) hx hb dX9_work_31 (by decide) (fun c_3 => ?_) (fun c_3 => ?_)
    · have b_4 := gx_lt (X := (Int32.toInt n)) (C := 97) rfl (by decide) c_3
      refine lv_aload_n hx hb dX9_work_47 rfl (lv_at hl 0 rfl) ?_
      refine va_get (D := (dC, dI)) (ci := 8) (v := .int (nI sd)) (C := RX9) (T := TX9) (N := 35) hx hb hts inB_9 hown hK hP 0 rfl rfl 21 (by decide) (hts _ mw_3_203) (fun _ h9 => h9) rfl dX9_work_48 ?_
      refine lv_bipush (v := 40) hx hb dX9_work_51 (by decide) ?_
      refine lv_icmp_ne (tgt := 64) hx hb dX9_work_53 (by decide) (fun c_5 => ?_) (fun c_5 => ?_)
      · have b_6 := gx_ne (X := ((sd : Nat) : Int)) (C := 40) (nI_toInt (by omega)) (by decide) c_5
        refine lv_aload_n hx hb dX9_work_64 rfl (lv_at hl 0 rfl) ?_
        refine va_get (D := (dC, dI)) (ci := 8) (v := .ref o4) (C := RX9) (T := TX9) (N := 35) hx hb hts inB_9 hown hK hP 0 rfl rfl 20 (by decide) (hts _ mw_3_202) (fun _ h9 => h9) rfl dX9_work_65 ?_
        refine lv_aload_n hx hb dX9_work_68 rfl (lv_at hl 0 rfl) ?_
        refine va_get (D := (dC, dI)) (ci := 8) (v := .int (nI sd)) (C := RX9) (T := TX9) (N := 35) hx hb hts inB_9 hown hK hP 0 rfl rfl 21 (by decide) (hts _ mw_3_203) (fun _ h9 => h9) rfl dX9_work_69 ?_
        refine lv_iload_n hx hb dX9_work_72 rfl (lv_at hl 2 rfl) ?_
        refine lv_bipush (v := 48) hx hb dX9_work_73 (by decide) ?_
        refine lv_isub hx hb dX9_work_75 ?_
        refine va_iast hx hb hK hP hD hS 8 7 rfl rfl (show vp_in (nI sd) 40 from vp_in_nI (by omega) (by omega)) dX9_work_76 (fun H locs hP hD hS => ?_)
        obtain ⟨f_8, ef_8⟩ : ∃ g : Nat → Int32, g = upd fsd (Int32.toNatClampNeg (nI sd)) (n - 48) := ⟨_, rfl⟩
        rw [← ef_8] at hP hD
        have ef_8 : f_8 = upd fsd sd (n - 48) := by rw [ef_8, nI_clamp (by omega)]
        have hP : va_P (dC, dI) vwCl [(h0, .inr (8, [w0, w1, w2, w3, .int (nI kn), .ref l4, .ref l1, w7, w8, w9, w10, w11, w12, .ref v2, .ref nm0, .ref o1, .ref o2, .ref o3, .int (nI op), .int (nI wk), .ref o4, .int (nI sd), .int en, w23, w24, w25, w26, w27, w28, w29, w30, w31, w32, w33, w34])), (l1, .inl (kl1, 10, .inl fll)), (l4, .inl (kl4, 100, .inl fln)), (nm0, .inl (knm0, 10, .inl fnm)), (v2, .inl (kv2, 81, .inl fsm)), (o1, .inl (ko1, 10, .inl fop)), (o2, .inl (ko2, 10, .inl fon)), (o3, .inl (ko3, 10, .inl fos)), (o4, .inl (ko4, 40, .inl f_8))] H := hP
        have hD : va_D A [(h0, .inr (8, [w0, w1, w2, w3, .int (nI kn), .ref l4, .ref l1, w7, w8, w9, w10, w11, w12, .ref v2, .ref nm0, .ref o1, .ref o2, .ref o3, .int (nI op), .int (nI wk), .ref o4, .int (nI sd), .int en, w23, w24, w25, w26, w27, w28, w29, w30, w31, w32, w33, w34])), (l1, .inl (kl1, 10, .inl fll)), (l4, .inl (kl4, 100, .inl fln)), (nm0, .inl (knm0, 10, .inl fnm)), (v2, .inl (kv2, 81, .inl fsm)), (o1, .inl (ko1, 10, .inl fop)), (o2, .inl (ko2, 10, .inl fon)), (o3, .inl (ko3, 10, .inl fos)), (o4, .inl (ko4, 40, .inl f_8))] := hD
        refine lv_aload_n hx hb dX9_work_77 rfl (lv_at hl 0 rfl) ?_
        refine lv_dup hx hb dX9_work_78 rfl ?_
        refine va_get (D := (dC, dI)) (ci := 8) (v := .int (nI sd)) (C := RX9) (T := TX9) (N := 35) hx hb hts inB_9 hown hK hP 0 rfl rfl 21 (by decide) (hts _ mw_3_203) (fun _ h9 => h9) rfl dX9_work_79 ?_
        refine lv_iconst (v := 1) hx hb dX9_work_82 (by decide) ?_
        refine lv_iadd hx hb dX9_work_83 ?_
        refine hx_top (y := (nI (sd + 1))) (nI_add sd 1) ?_
        refine va_put (D := (dC, dI)) (ci := 8) (v := .int (nI (sd + 1))) (ty := .int) (C := RX9) (T := TX9) (N := 35) hx hb hts inB_9 tyX9 tyX9_ok nmX9 hown hK hP hD hS 0 rfl rfl 21 (by decide) (hts _ mw_3_203) (fun _ h9 => h9) rfl (by decide +kernel) rfl rfl (Nat.le_of_ble_eq_true rfl) dX9_work_84 (fun H locs hP hD hS => ?_)
        have hP : va_P (dC, dI) vwCl [(h0, .inr (8, [w0, w1, w2, w3, .int (nI kn), .ref l4, .ref l1, w7, w8, w9, w10, w11, w12, .ref v2, .ref nm0, .ref o1, .ref o2, .ref o3, .int (nI op), .int (nI wk), .ref o4, .int (nI (sd + 1)), .int en, w23, w24, w25, w26, w27, w28, w29, w30, w31, w32, w33, w34])), (l1, .inl (kl1, 10, .inl fll)), (l4, .inl (kl4, 100, .inl fln)), (nm0, .inl (knm0, 10, .inl fnm)), (v2, .inl (kv2, 81, .inl fsm)), (o1, .inl (ko1, 10, .inl fop)), (o2, .inl (ko2, 10, .inl fon)), (o3, .inl (ko3, 10, .inl fos)), (o4, .inl (ko4, 40, .inl f_8))] H := hP
        have hD : va_D A [(h0, .inr (8, [w0, w1, w2, w3, .int (nI kn), .ref l4, .ref l1, w7, w8, w9, w10, w11, w12, .ref v2, .ref nm0, .ref o1, .ref o2, .ref o3, .int (nI op), .int (nI wk), .ref o4, .int (nI (sd + 1)), .int en, w23, w24, w25, w26, w27, w28, w29, w30, w31, w32, w33, w34])), (l1, .inl (kl1, 10, .inl fll)), (l4, .inl (kl4, 100, .inl fln)), (nm0, .inl (knm0, 10, .inl fnm)), (v2, .inl (kv2, 81, .inl fsm)), (o1, .inl (ko1, 10, .inl fop)), (o2, .inl (ko2, 10, .inl fon)), (o3, .inl (ko3, 10, .inl fos)), (o4, .inl (ko4, 40, .inl f_8))] := hD
        have hP9 := hP.sub (ws' := [(h0, .inr (8, [w0, w1, w2, w3, .int (nI kn), .ref l4, .ref l1, w7, w8, w9, w10, w11, w12, .ref v2, .ref nm0, .ref o1, .ref o2, .ref o3, .int (nI op), .int (nI wk), .ref o4, .int (nI (sd + 1)), .int en, w23, w24, w25, w26, w27, w28, w29, w30, w31, w32, w33, w34])), (l1, .inl (kl1, 10, .inl fll)), (l4, .inl (kl4, 100, .inl fln)), (nm0, .inl (knm0, 10, .inl fnm)), (v2, .inl (kv2, 81, .inl fsm)), (o1, .inl (ko1, 10, .inl fop)), (o2, .inl (ko2, 10, .inl fon)), (o3, .inl (ko3, 10, .inl fos)), (o4, .inl (ko4, 40, .inl f_8))]) [0, 1, 2, 3, 4, 5, 6, 7, 8] rfl
        have hD9 := hD.sub (ws' := [(h0, .inr (8, [w0, w1, w2, w3, .int (nI kn), .ref l4, .ref l1, w7, w8, w9, w10, w11, w12, .ref v2, .ref nm0, .ref o1, .ref o2, .ref o3, .int (nI op), .int (nI wk), .ref o4, .int (nI (sd + 1)), .int en, w23, w24, w25, w26, w27, w28, w29, w30, w31, w32, w33, w34])), (l1, .inl (kl1, 10, .inl fll)), (l4, .inl (kl4, 100, .inl fln)), (nm0, .inl (knm0, 10, .inl fnm)), (v2, .inl (kv2, 81, .inl fsm)), (o1, .inl (ko1, 10, .inl fop)), (o2, .inl (ko2, 10, .inl fon)), (o3, .inl (ko3, 10, .inl fos)), (o4, .inl (ko4, 40, .inl f_8))]) [0, 1, 2, 3, 4, 5, 6, 7, 8] (by decide) rfl
        have hK9 := hK.sub (tys' := [(kl1, .int), (kl4, .int), (knm0, .int), (kv2, .int), (ko1, .int), (ko2, .int), (ko3, .int), (ko4, .int)]) [0, 1, 2, 3, 4, 5, 6, 7] rfl
        exact W.vret hx hb hr (fun t ht hW => ⟨⟨(), rfl, trivial, op, wk, en, fop, fon, fos, (sd + 1), f_8, hop, hwk, hos, (Nat.le_refl _), (by omega), (by rw [st_dig (by have hv9 := hvc; unfold Vc at hv9; omega), say_eq]; unfold sayR sayN sayD; rw [if_neg (by omega), if_neg (by omega), if_neg (by omega), hen, ef_8]; exact fe_rf), by rw [ht]; exact hP9, va_K.moved hW.alike hK9, hD9⟩, hS.F ht⟩) hS.2.2 dX9_work_87
      · have b_6 := gn_ne (X := ((sd : Nat) : Int)) (C := 40) (nI_toInt (by omega)) (by decide) c_5
        refine lv_aload_n hx hb dX9_work_56 rfl (lv_at hl 0 rfl) ?_
        refine lv_iconst (v := 2) hx hb dX9_work_57 (by decide) ?_
        refine va_put (D := (dC, dI)) (ci := 8) (v := .int 2) (ty := .int) (C := RX9) (T := TX9) (N := 35) hx hb hts inB_9 tyX9 tyX9_ok nmX9 hown hK hP hD hS 0 rfl rfl 22 (by decide) (hts _ mw_3_204) (fun _ h9 => h9) rfl (by decide +kernel) rfl rfl (Nat.le_of_ble_eq_true rfl) dX9_work_58 (fun H locs hP hD hS => ?_)
        have hP : va_P (dC, dI) vwCl [(h0, .inr (8, [w0, w1, w2, w3, .int (nI kn), .ref l4, .ref l1, w7, w8, w9, w10, w11, w12, .ref v2, .ref nm0, .ref o1, .ref o2, .ref o3, .int (nI op), .int (nI wk), .ref o4, .int (nI sd), .int 2, w23, w24, w25, w26, w27, w28, w29, w30, w31, w32, w33, w34])), (l1, .inl (kl1, 10, .inl fll)), (l4, .inl (kl4, 100, .inl fln)), (nm0, .inl (knm0, 10, .inl fnm)), (v2, .inl (kv2, 81, .inl fsm)), (o1, .inl (ko1, 10, .inl fop)), (o2, .inl (ko2, 10, .inl fon)), (o3, .inl (ko3, 10, .inl fos)), (o4, .inl (ko4, 40, .inl fsd))] H := hP
        have hD : va_D A [(h0, .inr (8, [w0, w1, w2, w3, .int (nI kn), .ref l4, .ref l1, w7, w8, w9, w10, w11, w12, .ref v2, .ref nm0, .ref o1, .ref o2, .ref o3, .int (nI op), .int (nI wk), .ref o4, .int (nI sd), .int 2, w23, w24, w25, w26, w27, w28, w29, w30, w31, w32, w33, w34])), (l1, .inl (kl1, 10, .inl fll)), (l4, .inl (kl4, 100, .inl fln)), (nm0, .inl (knm0, 10, .inl fnm)), (v2, .inl (kv2, 81, .inl fsm)), (o1, .inl (ko1, 10, .inl fop)), (o2, .inl (ko2, 10, .inl fon)), (o3, .inl (ko3, 10, .inl fos)), (o4, .inl (ko4, 40, .inl fsd))] := hD
        refine lv_goto (tgt := 87) hx hb dX9_work_61 (by decide) ?_
        have hP9 := hP.sub (ws' := [(h0, .inr (8, [w0, w1, w2, w3, .int (nI kn), .ref l4, .ref l1, w7, w8, w9, w10, w11, w12, .ref v2, .ref nm0, .ref o1, .ref o2, .ref o3, .int (nI op), .int (nI wk), .ref o4, .int (nI sd), .int 2, w23, w24, w25, w26, w27, w28, w29, w30, w31, w32, w33, w34])), (l1, .inl (kl1, 10, .inl fll)), (l4, .inl (kl4, 100, .inl fln)), (nm0, .inl (knm0, 10, .inl fnm)), (v2, .inl (kv2, 81, .inl fsm)), (o1, .inl (ko1, 10, .inl fop)), (o2, .inl (ko2, 10, .inl fon)), (o3, .inl (ko3, 10, .inl fos)), (o4, .inl (ko4, 40, .inl fsd))]) [0, 1, 2, 3, 4, 5, 6, 7, 8] rfl
        have hD9 := hD.sub (ws' := [(h0, .inr (8, [w0, w1, w2, w3, .int (nI kn), .ref l4, .ref l1, w7, w8, w9, w10, w11, w12, .ref v2, .ref nm0, .ref o1, .ref o2, .ref o3, .int (nI op), .int (nI wk), .ref o4, .int (nI sd), .int 2, w23, w24, w25, w26, w27, w28, w29, w30, w31, w32, w33, w34])), (l1, .inl (kl1, 10, .inl fll)), (l4, .inl (kl4, 100, .inl fln)), (nm0, .inl (knm0, 10, .inl fnm)), (v2, .inl (kv2, 81, .inl fsm)), (o1, .inl (ko1, 10, .inl fop)), (o2, .inl (ko2, 10, .inl fon)), (o3, .inl (ko3, 10, .inl fos)), (o4, .inl (ko4, 40, .inl fsd))]) [0, 1, 2, 3, 4, 5, 6, 7, 8] (by decide) rfl
        have hK9 := hK.sub (tys' := [(kl1, .int), (kl4, .int), (knm0, .int), (kv2, .int), (ko1, .int), (ko2, .int), (ko3, .int), (ko4, .int)]) [0, 1, 2, 3, 4, 5, 6, 7] rfl
        exact W.vret hx hb hr (fun t ht hW => ⟨⟨(), rfl, trivial, op, wk, 2, fop, fon, fos, sd, fsd, hop, hwk, hos, (Nat.le_refl _), hsd, (by rw [st_dig (by have hv9 := hvc; unfold Vc at hv9; omega), say_eq]; unfold sayR sayN sayD; rw [if_pos (by omega), if_pos (by omega), if_pos (by omega)]; exact fe_rf), by rw [ht]; exact hP9, va_K.moved hW.alike hK9, hD9⟩, hS.F ht⟩) hS.2.2 dX9_work_87
    · have b_4 := gn_lt (X := (Int32.toInt n)) (C := 97) rfl (by decide) c_3
      refine lv_aload_n hx hb dX9_work_34 rfl (lv_at hl 0 rfl) ?_
      refine lv_iload_n hx hb dX9_work_35 rfl (lv_at hl 1 rfl) ?_
      refine lv_iload_n hx hb dX9_work_36 rfl (lv_at hl 2 rfl) ?_
      refine lv_bipush (v := 97) hx hb dX9_work_37 (by decide) ?_
      refine lv_isub hx hb dX9_work_39 ?_
      refine lv_topi (fun z_9 ez_9 => ?_)
      have gz_9 := fx_rng n
      have fz_9 : Int32.toInt z_9 = (Int32.toInt n) - 97 := by rw [ez_9]; exact gx_sub (X := (Int32.toInt n)) (C := 97) rfl (by decide) (by omega) (by omega)
      have hv := hvc
      unfold Vc at hv
      obtain ⟨j_10, tj_10, ej_10⟩ := fx_nat (x := z_9) (by omega)
      subst ej_10
      have yj_10 : Int32.toInt (nI j_10) = (j_10 : Int) := nI_toInt tj_10
      refine lv_iconst (v := 0) hx hb dX9_work_40 (by decide) ?_
      have hPc := hP.sub (ws' := [(h0, .inr (8, [w0, w1, w2, w3, .int (nI kn), .ref l4, .ref l1, w7, w8, w9, w10, w11, w12, .ref v2, .ref nm0, .ref o1, .ref o2, .ref o3, .int (nI op), .int (nI wk), .ref o4, .int (nI sd), .int en, w23, w24, w25, w26, w27, w28, w29, w30, w31, w32, w33, w34])), (l1, .inl (kl1, 10, .inl fll)), (l4, .inl (kl4, 100, .inl fln)), (nm0, .inl (knm0, 10, .inl fnm)), (v2, .inl (kv2, 81, .inl fsm)), (o1, .inl (ko1, 10, .inl fop)), (o2, .inl (ko2, 10, .inl fon)), (o3, .inl (ko3, 10, .inl fos))]) [0, 1, 2, 3, 4, 5, 6, 7] rfl
      have hDc := hD.sub (ws' := [(h0, .inr (8, [w0, w1, w2, w3, .int (nI kn), .ref l4, .ref l1, w7, w8, w9, w10, w11, w12, .ref v2, .ref nm0, .ref o1, .ref o2, .ref o3, .int (nI op), .int (nI wk), .ref o4, .int (nI sd), .int en, w23, w24, w25, w26, w27, w28, w29, w30, w31, w32, w33, w34])), (l1, .inl (kl1, 10, .inl fll)), (l4, .inl (kl4, 100, .inl fln)), (nm0, .inl (knm0, 10, .inl fnm)), (v2, .inl (kv2, 81, .inl fsm)), (o1, .inl (ko1, 10, .inl fop)), (o2, .inl (ko2, 10, .inl fon)), (o3, .inl (ko3, 10, .inl fos))]) [0, 1, 2, 3, 4, 5, 6, 7] (by decide) rfl
      have hKc := hK.sub (tys' := [(kl1, .int), (kl4, .int), (knm0, .int), (kv2, .int), (ko1, .int), (ko2, .int), (ko3, .int)]) [0, 1, 2, 3, 4, 5, 6] rfl
      have hFc := va_free (wc := [(h0, .inr (8, [w0, w1, w2, w3, .int (nI kn), .ref l4, .ref l1, w7, w8, w9, w10, w11, w12, .ref v2, .ref nm0, .ref o1, .ref o2, .ref o3, .int (nI op), .int (nI wk), .ref o4, .int (nI sd), .int en, w23, w24, w25, w26, w27, w28, w29, w30, w31, w32, w33, w34])), (l1, .inl (kl1, 10, .inl fll)), (l4, .inl (kl4, 100, .inl fln)), (nm0, .inl (knm0, 10, .inl fnm)), (v2, .inl (kv2, 81, .inl fsm)), (o1, .inl (ko1, 10, .inl fop)), (o2, .inl (ko2, 10, .inl fon)), (o3, .inl (ko3, 10, .inl fos))]) hD hS hA [0, 1, 2, 3, 4, 5, 6, 7] rfl
      refine va_callv (va_runV (As := [.int (nI kq), .int (nI j_10), .int 0]) (rest := []) ⟨hx, hb, hml, hown, hts⟩ (m_begin l dC dI s.heap.size h0 (w0) (w1) (w2) (w3) kn l4 l1 (w7) (w8) (w9) (w10) (w11) (w12) v2 nm0 o1 o2 o3 op wk (.ref o4) (.int (nI sd)) en (w23) (w24) (w25) (w26) (w27) (w28) (w29) (w30) (w31) (w32) (w33) (w34) kl1 fll kl4 fln knm0 fnm kv2 fsm ko1 fop ko2 fon ko3 fos kq j_10 0 fsg hkn hll hln hkq (by omega) (by omega) hop hwk hos hen) (cwV 3 hts (gV mw_4_155 mw_4_157 mw_0_24 mw_1_9 mw_4_158) rfl rfl rfl (by decide +kernel) ⟨Nat.le_of_ble_eq_true rfl, Nat.le_of_ble_eq_true rfl⟩) ⟨pcW_blind, va_recv hKc hPc (ci := 8) (q0 := 0) rfl rfl, pcW_at hPc hKc hDc hN⟩ rfl rfl hl.1 rfl (lv_room (Nat.le_of_ble_eq_true rfl)) dX9_work_41 ⟨Nat.le_of_ble_eq_true rfl, Nat.le_of_ble_eq_true rfl⟩) hS (fun q _ h => hFc q h) hFc (fun u t H1 locs ht hvm hw_11 hB hz1 hk1 hS => ?_)
      obtain ⟨q_12, q_13, z_14, f_15, f_16, f_17, p_18, p_19, p_20, p_21, p_22, hP1, hK1, hD1⟩ := hB
      rw [ht] at hP1
      have hK1 := va_K.moved hvm.symm hK1
      obtain ⟨hP, hD⟩ := va_join (wr := [(o4, .inl (ko4, 40, .inl fsd))]) (w1 := [(h0, .inr (8, [w0, w1, w2, w3, .int (nI kn), .ref l4, .ref l1, w7, w8, w9, w10, w11, w12, .ref v2, .ref nm0, .ref o1, .ref o2, .ref o3, .int (nI q_12), .int (nI q_13), .ref o4, .int (nI sd), .int z_14, w23, w24, w25, w26, w27, w28, w29, w30, w31, w32, w33, w34])), (l1, .inl (kl1, 10, .inl fll)), (l4, .inl (kl4, 100, .inl fln)), (nm0, .inl (knm0, 10, .inl fnm)), (v2, .inl (kv2, 81, .inl fsm)), (o1, .inl (ko1, 10, .inl f_15)), (o2, .inl (ko2, 10, .inl f_16)), (o3, .inl (ko3, 10, .inl f_17))]) hP hD [0, 1, 2, 3, 4, 5, 6, 7] [8] rfl rfl (by decide) (by decide) hk1 hFc hP1 hD1
      have hK := (hK.sub (tys' := [(ko4, .int)]) [7] rfl).app hK1
      clear hz1 hk1 hPc hDc hKc hFc
      generalize H1 = H at hP hS ⊢
      have hK : va_K (dC, dI) vwCl [(ko4, .int), (kl1, .int), (kl4, .int), (knm0, .int), (kv2, .int), (ko1, .int), (ko2, .int), (ko3, .int)] s := hK
      have hP : va_P (dC, dI) vwCl [(o4, .inl (ko4, 40, .inl fsd)), (h0, .inr (8, [w0, w1, w2, w3, .int (nI kn), .ref l4, .ref l1, w7, w8, w9, w10, w11, w12, .ref v2, .ref nm0, .ref o1, .ref o2, .ref o3, .int (nI q_12), .int (nI q_13), .ref o4, .int (nI sd), .int z_14, w23, w24, w25, w26, w27, w28, w29, w30, w31, w32, w33, w34])), (l1, .inl (kl1, 10, .inl fll)), (l4, .inl (kl4, 100, .inl fln)), (nm0, .inl (knm0, 10, .inl fnm)), (v2, .inl (kv2, 81, .inl fsm)), (o1, .inl (ko1, 10, .inl f_15)), (o2, .inl (ko2, 10, .inl f_16)), (o3, .inl (ko3, 10, .inl f_17))] H := hP
      have hD : va_D A [(o4, .inl (ko4, 40, .inl fsd)), (h0, .inr (8, [w0, w1, w2, w3, .int (nI kn), .ref l4, .ref l1, w7, w8, w9, w10, w11, w12, .ref v2, .ref nm0, .ref o1, .ref o2, .ref o3, .int (nI q_12), .int (nI q_13), .ref o4, .int (nI sd), .int z_14, w23, w24, w25, w26, w27, w28, w29, w30, w31, w32, w33, w34])), (l1, .inl (kl1, 10, .inl fll)), (l4, .inl (kl4, 100, .inl fln)), (nm0, .inl (knm0, 10, .inl fnm)), (v2, .inl (kv2, 81, .inl fsm)), (o1, .inl (ko1, 10, .inl f_15)), (o2, .inl (ko2, 10, .inl f_16)), (o3, .inl (ko3, 10, .inl f_17))] := hD
      refine lv_goto (tgt := 87) hx hb dX9_work_44 (by decide) ?_
      have hP9 := hP.sub (ws' := [(h0, .inr (8, [w0, w1, w2, w3, .int (nI kn), .ref l4, .ref l1, w7, w8, w9, w10, w11, w12, .ref v2, .ref nm0, .ref o1, .ref o2, .ref o3, .int (nI q_12), .int (nI q_13), .ref o4, .int (nI sd), .int z_14, w23, w24, w25, w26, w27, w28, w29, w30, w31, w32, w33, w34])), (l1, .inl (kl1, 10, .inl fll)), (l4, .inl (kl4, 100, .inl fln)), (nm0, .inl (knm0, 10, .inl fnm)), (v2, .inl (kv2, 81, .inl fsm)), (o1, .inl (ko1, 10, .inl f_15)), (o2, .inl (ko2, 10, .inl f_16)), (o3, .inl (ko3, 10, .inl f_17)), (o4, .inl (ko4, 40, .inl fsd))]) [1, 2, 3, 4, 5, 6, 7, 8, 0] rfl
      have hD9 := hD.sub (ws' := [(h0, .inr (8, [w0, w1, w2, w3, .int (nI kn), .ref l4, .ref l1, w7, w8, w9, w10, w11, w12, .ref v2, .ref nm0, .ref o1, .ref o2, .ref o3, .int (nI q_12), .int (nI q_13), .ref o4, .int (nI sd), .int z_14, w23, w24, w25, w26, w27, w28, w29, w30, w31, w32, w33, w34])), (l1, .inl (kl1, 10, .inl fll)), (l4, .inl (kl4, 100, .inl fln)), (nm0, .inl (knm0, 10, .inl fnm)), (v2, .inl (kv2, 81, .inl fsm)), (o1, .inl (ko1, 10, .inl f_15)), (o2, .inl (ko2, 10, .inl f_16)), (o3, .inl (ko3, 10, .inl f_17)), (o4, .inl (ko4, 40, .inl fsd))]) [1, 2, 3, 4, 5, 6, 7, 8, 0] (by decide) rfl
      have hK9 := hK.sub (tys' := [(kl1, .int), (kl4, .int), (knm0, .int), (kv2, .int), (ko1, .int), (ko2, .int), (ko3, .int), (ko4, .int)]) [1, 2, 3, 4, 5, 6, 7, 0] rfl
      exact W.vret hx hb hr (fun t ht hW => ⟨⟨(), rfl, trivial, q_12, q_13, z_14, f_15, f_16, f_17, sd, fsd, p_18, p_19, p_20, p_21, hsd, (by rw [st_let (j := j_10) (by omega) (by omega)]; exact p_22 sd fsd), by rw [ht]; exact hP9, va_K.moved hW.alike hK9, hD9⟩, hS.F ht⟩) hS.2.2 dX9_work_87
  · have b_2 := gn_ne (X := (Int32.toInt n)) (C := 94) rfl (by decide) c_1
    obtain ⟨a9, b9, d9, q9, e1, h2, e3, h4, e5, h6, h7, h8, h9⟩ := hos tp htp
    refine lv_aload_n hx hb dX9_work_6 rfl (lv_at hl 0 rfl) ?_
    refine lv_iload_n hx hb dX9_work_7 rfl (lv_at hl 1 rfl) ?_
    refine lv_aload_n hx hb dX9_work_8 rfl (lv_at hl 0 rfl) ?_
    refine va_get (D := (dC, dI)) (ci := 8) (v := .ref o2) (C := RX9) (T := TX9) (N := 35) hx hb hts inB_9 hown hK hP 0 rfl rfl 16 (by decide) (hts _ mw_3_198) (fun _ h9 => h9) rfl dX9_work_9 ?_
    refine lv_iload_n hx hb dX9_work_12 rfl (lv_at hl 3 rfl) ?_
    refine va_iald hx hb hK hP 6 5 rfl rfl (show vp_in (nI tp) 10 from vp_in_nI (by omega) (by omega)) dX9_work_13 ?_
    refine hx_top (y := (fon tp)) (congrArg _ (nI_clamp (by omega))) ?_
    refine hx_top (y := (nI b9)) e3 ?_
    refine lv_aload_n hx hb dX9_work_14 rfl (lv_at hl 0 rfl) ?_
    refine va_get (D := (dC, dI)) (ci := 8) (v := .ref o1) (C := RX9) (T := TX9) (N := 35) hx hb hts inB_9 hown hK hP 0 rfl rfl 15 (by decide) (hts _ mw_3_197) (fun _ h9 => h9) rfl dX9_work_15 ?_
    refine lv_iload_n hx hb dX9_work_18 rfl (lv_at hl 3 rfl) ?_
    refine va_iald hx hb hK hP 5 4 rfl rfl (show vp_in (nI tp) 10 from vp_in_nI (by omega) (by omega)) dX9_work_19 ?_
    refine hx_top (y := (fop tp)) (congrArg _ (nI_clamp (by omega))) ?_
    refine hx_top (y := (nI a9)) e1 ?_
    refine lv_iconst (v := 1) hx hb dX9_work_20 (by decide) ?_
    refine lv_iadd hx hb dX9_work_21 ?_
    refine hx_top (y := (nI (a9 + 1))) (nI_add a9 1) ?_
    have hPc := hP.sub (ws' := [(h0, .inr (8, [w0, w1, w2, w3, .int (nI kn), .ref l4, .ref l1, w7, w8, w9, w10, w11, w12, .ref v2, .ref nm0, .ref o1, .ref o2, .ref o3, .int (nI op), .int (nI wk), .ref o4, .int (nI sd), .int en, w23, w24, w25, w26, w27, w28, w29, w30, w31, w32, w33, w34])), (l1, .inl (kl1, 10, .inl fll)), (l4, .inl (kl4, 100, .inl fln)), (nm0, .inl (knm0, 10, .inl fnm)), (v2, .inl (kv2, 81, .inl fsm)), (o1, .inl (ko1, 10, .inl fop)), (o2, .inl (ko2, 10, .inl fon)), (o3, .inl (ko3, 10, .inl fos))]) [0, 1, 2, 3, 4, 5, 6, 7] rfl
    have hDc := hD.sub (ws' := [(h0, .inr (8, [w0, w1, w2, w3, .int (nI kn), .ref l4, .ref l1, w7, w8, w9, w10, w11, w12, .ref v2, .ref nm0, .ref o1, .ref o2, .ref o3, .int (nI op), .int (nI wk), .ref o4, .int (nI sd), .int en, w23, w24, w25, w26, w27, w28, w29, w30, w31, w32, w33, w34])), (l1, .inl (kl1, 10, .inl fll)), (l4, .inl (kl4, 100, .inl fln)), (nm0, .inl (knm0, 10, .inl fnm)), (v2, .inl (kv2, 81, .inl fsm)), (o1, .inl (ko1, 10, .inl fop)), (o2, .inl (ko2, 10, .inl fon)), (o3, .inl (ko3, 10, .inl fos))]) [0, 1, 2, 3, 4, 5, 6, 7] (by decide) rfl
    have hKc := hK.sub (tys' := [(kl1, .int), (kl4, .int), (knm0, .int), (kv2, .int), (ko1, .int), (ko2, .int), (ko3, .int)]) [0, 1, 2, 3, 4, 5, 6] rfl
    have hFc := va_free (wc := [(h0, .inr (8, [w0, w1, w2, w3, .int (nI kn), .ref l4, .ref l1, w7, w8, w9, w10, w11, w12, .ref v2, .ref nm0, .ref o1, .ref o2, .ref o3, .int (nI op), .int (nI wk), .ref o4, .int (nI sd), .int en, w23, w24, w25, w26, w27, w28, w29, w30, w31, w32, w33, w34])), (l1, .inl (kl1, 10, .inl fll)), (l4, .inl (kl4, 100, .inl fln)), (nm0, .inl (knm0, 10, .inl fnm)), (v2, .inl (kv2, 81, .inl fsm)), (o1, .inl (ko1, 10, .inl fop)), (o2, .inl (ko2, 10, .inl fon)), (o3, .inl (ko3, 10, .inl fos))]) hD hS hA [0, 1, 2, 3, 4, 5, 6, 7] rfl
    refine va_callv (va_runV (As := [.int (nI kq), .int (nI b9), .int (nI (a9 + 1))]) (rest := []) ⟨hx, hb, hml, hown, hts⟩ (m_begin l dC dI s.heap.size h0 (w0) (w1) (w2) (w3) kn l4 l1 (w7) (w8) (w9) (w10) (w11) (w12) v2 nm0 o1 o2 o3 op wk (.ref o4) (.int (nI sd)) en (w23) (w24) (w25) (w26) (w27) (w28) (w29) (w30) (w31) (w32) (w33) (w34) kl1 fll kl4 fln knm0 fnm kv2 fsm ko1 fop ko2 fon ko3 fos kq b9 (a9 + 1) fsg hkn hll hln hkq (by omega) (by omega) hop hwk hos hen) (cwV 3 hts (gV mw_4_155 mw_4_157 mw_0_24 mw_1_9 mw_4_158) rfl rfl rfl (by decide +kernel) ⟨Nat.le_of_ble_eq_true rfl, Nat.le_of_ble_eq_true rfl⟩) ⟨pcW_blind, va_recv hKc hPc (ci := 8) (q0 := 0) rfl rfl, pcW_at hPc hKc hDc hN⟩ rfl rfl hl.1 rfl (lv_room (Nat.le_of_ble_eq_true rfl)) dX9_work_22 ⟨Nat.le_of_ble_eq_true rfl, Nat.le_of_ble_eq_true rfl⟩) hS (fun q _ h => hFc q h) hFc (fun u t H1 locs ht hvm hw_23 hB hz1 hk1 hS => ?_)
    obtain ⟨q_24, q_25, z_26, f_27, f_28, f_29, p_30, p_31, p_32, p_33, p_34, hP1, hK1, hD1⟩ := hB
    rw [ht] at hP1
    have hK1 := va_K.moved hvm.symm hK1
    obtain ⟨hP, hD⟩ := va_join (wr := [(o4, .inl (ko4, 40, .inl fsd))]) (w1 := [(h0, .inr (8, [w0, w1, w2, w3, .int (nI kn), .ref l4, .ref l1, w7, w8, w9, w10, w11, w12, .ref v2, .ref nm0, .ref o1, .ref o2, .ref o3, .int (nI q_24), .int (nI q_25), .ref o4, .int (nI sd), .int z_26, w23, w24, w25, w26, w27, w28, w29, w30, w31, w32, w33, w34])), (l1, .inl (kl1, 10, .inl fll)), (l4, .inl (kl4, 100, .inl fln)), (nm0, .inl (knm0, 10, .inl fnm)), (v2, .inl (kv2, 81, .inl fsm)), (o1, .inl (ko1, 10, .inl f_27)), (o2, .inl (ko2, 10, .inl f_28)), (o3, .inl (ko3, 10, .inl f_29))]) hP hD [0, 1, 2, 3, 4, 5, 6, 7] [8] rfl rfl (by decide) (by decide) hk1 hFc hP1 hD1
    have hK := (hK.sub (tys' := [(ko4, .int)]) [7] rfl).app hK1
    clear hz1 hk1 hPc hDc hKc hFc
    generalize H1 = H at hP hS ⊢
    have hK : va_K (dC, dI) vwCl [(ko4, .int), (kl1, .int), (kl4, .int), (knm0, .int), (kv2, .int), (ko1, .int), (ko2, .int), (ko3, .int)] s := hK
    have hP : va_P (dC, dI) vwCl [(o4, .inl (ko4, 40, .inl fsd)), (h0, .inr (8, [w0, w1, w2, w3, .int (nI kn), .ref l4, .ref l1, w7, w8, w9, w10, w11, w12, .ref v2, .ref nm0, .ref o1, .ref o2, .ref o3, .int (nI q_24), .int (nI q_25), .ref o4, .int (nI sd), .int z_26, w23, w24, w25, w26, w27, w28, w29, w30, w31, w32, w33, w34])), (l1, .inl (kl1, 10, .inl fll)), (l4, .inl (kl4, 100, .inl fln)), (nm0, .inl (knm0, 10, .inl fnm)), (v2, .inl (kv2, 81, .inl fsm)), (o1, .inl (ko1, 10, .inl f_27)), (o2, .inl (ko2, 10, .inl f_28)), (o3, .inl (ko3, 10, .inl f_29))] H := hP
    have hD : va_D A [(o4, .inl (ko4, 40, .inl fsd)), (h0, .inr (8, [w0, w1, w2, w3, .int (nI kn), .ref l4, .ref l1, w7, w8, w9, w10, w11, w12, .ref v2, .ref nm0, .ref o1, .ref o2, .ref o3, .int (nI q_24), .int (nI q_25), .ref o4, .int (nI sd), .int z_26, w23, w24, w25, w26, w27, w28, w29, w30, w31, w32, w33, w34])), (l1, .inl (kl1, 10, .inl fll)), (l4, .inl (kl4, 100, .inl fln)), (nm0, .inl (knm0, 10, .inl fnm)), (v2, .inl (kv2, 81, .inl fsm)), (o1, .inl (ko1, 10, .inl f_27)), (o2, .inl (ko2, 10, .inl f_28)), (o3, .inl (ko3, 10, .inl f_29))] := hD
    refine lv_goto (tgt := 87) hx hb dX9_work_25 (by decide) ?_
    have hP9 := hP.sub (ws' := [(h0, .inr (8, [w0, w1, w2, w3, .int (nI kn), .ref l4, .ref l1, w7, w8, w9, w10, w11, w12, .ref v2, .ref nm0, .ref o1, .ref o2, .ref o3, .int (nI q_24), .int (nI q_25), .ref o4, .int (nI sd), .int z_26, w23, w24, w25, w26, w27, w28, w29, w30, w31, w32, w33, w34])), (l1, .inl (kl1, 10, .inl fll)), (l4, .inl (kl4, 100, .inl fln)), (nm0, .inl (knm0, 10, .inl fnm)), (v2, .inl (kv2, 81, .inl fsm)), (o1, .inl (ko1, 10, .inl f_27)), (o2, .inl (ko2, 10, .inl f_28)), (o3, .inl (ko3, 10, .inl f_29)), (o4, .inl (ko4, 40, .inl fsd))]) [1, 2, 3, 4, 5, 6, 7, 8, 0] rfl
    have hD9 := hD.sub (ws' := [(h0, .inr (8, [w0, w1, w2, w3, .int (nI kn), .ref l4, .ref l1, w7, w8, w9, w10, w11, w12, .ref v2, .ref nm0, .ref o1, .ref o2, .ref o3, .int (nI q_24), .int (nI q_25), .ref o4, .int (nI sd), .int z_26, w23, w24, w25, w26, w27, w28, w29, w30, w31, w32, w33, w34])), (l1, .inl (kl1, 10, .inl fll)), (l4, .inl (kl4, 100, .inl fln)), (nm0, .inl (knm0, 10, .inl fnm)), (v2, .inl (kv2, 81, .inl fsm)), (o1, .inl (ko1, 10, .inl f_27)), (o2, .inl (ko2, 10, .inl f_28)), (o3, .inl (ko3, 10, .inl f_29)), (o4, .inl (ko4, 40, .inl fsd))]) [1, 2, 3, 4, 5, 6, 7, 8, 0] (by decide) rfl
    have hK9 := hK.sub (tys' := [(kl1, .int), (kl4, .int), (knm0, .int), (kv2, .int), (ko1, .int), (ko2, .int), (ko3, .int), (ko4, .int)]) [1, 2, 3, 4, 5, 6, 7, 0] rfl
    exact W.vret hx hb hr (fun t ht hW => ⟨⟨(), rfl, trivial, q_24, q_25, z_26, f_27, f_28, f_29, sd, fsd, p_30, p_31, p_32, p_33, hsd, (by rw [e1, e3, nI_clamp (by omega), nI_clamp (by omega), st_up (by omega)]; exact p_34 sd fsd), by rw [ht]; exact hP9, va_K.moved hW.alike hK9, hD9⟩, hS.F ht⟩) hS.2.2 dX9_work_87
set_option maxHeartbeats 4000000 in
set_option maxRecDepth 100000 in
theorem m_runAll (l : Launch) (dC : Nat → ClassId) (dI : Nat → Nat → Nat) (sz : Nat) (h0 : Nat) (w0 : Value) (w1 : Value) (w2 : Value) (w3 : Value) (kn : Nat) (l4 : Nat) (l1 : Nat) (w7 : Value) (w8 : Value) (w9 : Value) (w10 : Value) (w11 : Value) (v1 : Nat) (v2 : Nat) (nm0 : Nat) (o1 : Nat) (o2 : Nat) (o3 : Nat) (op0 : Int32) (wk0 : Int32) (o4 : Nat) (sd0 : Int32) (en : Int32) (w23 : Value) (w24 : Value) (w25 : Value) (w26 : Value) (w27 : Value) (w28 : Value) (w29 : Value) (w30 : Value) (w31 : Value) (w32 : Value) (w33 : Value) (w34 : Value) (kl1 : ClassId) (fll : Nat → Int32) (kl4 : ClassId) (fln : Nat → Int32) (knm0 : ClassId) (fnm : Nat → Int32) (kv2 : ClassId) (fsm : Nat → Int32) (ko1 : ClassId) (fop : Nat → Int32) (ko2 : ClassId) (fon : Nat → Int32) (ko3 : ClassId) (fos : Nat → Int32) (ko4 : ClassId) (fsd : Nat → Int32) (kv1 : ClassId) (fsg : Nat → Int32) (kq : Nat) (nq : Nat) (hkn : kn ≤ 10) (hll : BdOk 10 10 fll) (hln : LnOk fll fln kn) (hkq : kq < kn) (hn8 : nq < 8) (hsm : BdOk 81 12 fsm) (hcv : CvOk fsm fsg) : Met l yX9_runAll (wq yX9_runAll cX9_runAll 6 none) ({ frames := 4, cells := 0, slots := 0, locals := 94 }) (va_Pc [.ref h0, .int (nI kq), .int (nI nq)] (pcW dC dI [(kl1, .int), (kl4, .int), (knm0, .int), (kv2, .int), (ko1, .int), (ko2, .int), (ko3, .int), (ko4, .int), (kv1, .int)] [(h0, .inr (8, [w0, w1, w2, w3, .int (nI kn), .ref l4, .ref l1, w7, w8, w9, w10, w11, .ref v1, .ref v2, .ref nm0, .ref o1, .ref o2, .ref o3, .int op0, .int wk0, .ref o4, .int sd0, .int en, w23, w24, w25, w26, w27, w28, w29, w30, w31, w32, w33, w34])), (l1, .inl (kl1, 10, .inl fll)), (l4, .inl (kl4, 100, .inl fln)), (nm0, .inl (knm0, 10, .inl fnm)), (v2, .inl (kv2, 81, .inl fsm)), (o1, .inl (ko1, 10, .inl fop)), (o2, .inl (ko2, 10, .inl fon)), (o3, .inl (ko3, 10, .inl fos)), (o4, .inl (ko4, 40, .inl fsd)), (v1, .inl (kv1, 972, .inl fsg))] sz)) (va_Qv (fun _ : Unit => True) (fun _ t => ∃ (op2 : Nat) (wk2 : Nat) (en2 : Int32) (fop2 : Nat → Int32) (fon2 : Nat → Int32) (fos2 : Nat → Int32) (sd2 : Nat) (fsd2 : Nat → Int32), (sd2 ≤ 40) ∧ (FinEq (en2, wk2, sd2, fsd2) (wdM fll fln fnm fsm fsg kq 9 nq 0 (0, 0, fsd))) ∧ va_P (dC, dI) vwCl [(h0, .inr (8, [w0, w1, w2, w3, .int (nI kn), .ref l4, .ref l1, w7, w8, w9, w10, w11, .ref v1, .ref v2, .ref nm0, .ref o1, .ref o2, .ref o3, .int (nI op2), .int (nI wk2), .ref o4, .int (nI sd2), .int en2, w23, w24, w25, w26, w27, w28, w29, w30, w31, w32, w33, w34])), (l1, .inl (kl1, 10, .inl fll)), (l4, .inl (kl4, 100, .inl fln)), (nm0, .inl (knm0, 10, .inl fnm)), (v2, .inl (kv2, 81, .inl fsm)), (o1, .inl (ko1, 10, .inl fop2)), (o2, .inl (ko2, 10, .inl fon2)), (o3, .inl (ko3, 10, .inl fos2)), (o4, .inl (ko4, 40, .inl fsd2)), (v1, .inl (kv1, 972, .inl fsg))] t.heap ∧ va_K (dC, dI) vwCl [(kl1, .int), (kl4, .int), (knm0, .int), (kv2, .int), (ko1, .int), (ko2, .int), (ko3, .int), (ko4, .int), (kv1, .int)] t ∧ va_D (va_A [(h0, .inr (8, [w0, w1, w2, w3, .int (nI kn), .ref l4, .ref l1, w7, w8, w9, w10, w11, .ref v1, .ref v2, .ref nm0, .ref o1, .ref o2, .ref o3, .int op0, .int wk0, .ref o4, .int sd0, .int en, w23, w24, w25, w26, w27, w28, w29, w30, w31, w32, w33, w34])), (l1, .inl (kl1, 10, .inl fll)), (l4, .inl (kl4, 100, .inl fln)), (nm0, .inl (knm0, 10, .inl fnm)), (v2, .inl (kv2, 81, .inl fsm)), (o1, .inl (ko1, 10, .inl fop)), (o2, .inl (ko2, 10, .inl fon)), (o3, .inl (ko3, 10, .inl fos)), (o4, .inl (ko4, 40, .inl fsd)), (v1, .inl (kv1, 972, .inl fsg))] sz) [(h0, .inr (8, [w0, w1, w2, w3, .int (nI kn), .ref l4, .ref l1, w7, w8, w9, w10, w11, .ref v1, .ref v2, .ref nm0, .ref o1, .ref o2, .ref o3, .int (nI op2), .int (nI wk2), .ref o4, .int (nI sd2), .int en2, w23, w24, w25, w26, w27, w28, w29, w30, w31, w32, w33, w34])), (l1, .inl (kl1, 10, .inl fll)), (l4, .inl (kl4, 100, .inl fln)), (nm0, .inl (knm0, 10, .inl fnm)), (v2, .inl (kv2, 81, .inl fsm)), (o1, .inl (ko1, 10, .inl fop2)), (o2, .inl (ko2, 10, .inl fon2)), (o3, .inl (ko3, 10, .inl fos2)), (o4, .inl (ko4, 40, .inl fsd2)), (v1, .inl (kv1, 972, .inl fsg))]) (va_A [(h0, .inr (8, [w0, w1, w2, w3, .int (nI kn), .ref l4, .ref l1, w7, w8, w9, w10, w11, .ref v1, .ref v2, .ref nm0, .ref o1, .ref o2, .ref o3, .int op0, .int wk0, .ref o4, .int sd0, .int en, w23, w24, w25, w26, w27, w28, w29, w30, w31, w32, w33, w34])), (l1, .inl (kl1, 10, .inl fll)), (l4, .inl (kl4, 100, .inl fln)), (nm0, .inl (knm0, 10, .inl fnm)), (v2, .inl (kv2, 81, .inl fsm)), (o1, .inl (ko1, 10, .inl fop)), (o2, .inl (ko2, 10, .inl fon)), (o3, .inl (ko3, 10, .inl fos)), (o4, .inl (ko4, 40, .inl fsd)), (v1, .inl (kv1, 972, .inl fsg))] sz)) 0 0 (va_A [(h0, .inr (8, [w0, w1, w2, w3, .int (nI kn), .ref l4, .ref l1, w7, w8, w9, w10, w11, .ref v1, .ref v2, .ref nm0, .ref o1, .ref o2, .ref o3, .int op0, .int wk0, .ref o4, .int sd0, .int en, w23, w24, w25, w26, w27, w28, w29, w30, w31, w32, w33, w34])), (l1, .inl (kl1, 10, .inl fll)), (l4, .inl (kl4, 100, .inl fln)), (nm0, .inl (knm0, 10, .inl fnm)), (v2, .inl (kv2, 81, .inl fsm)), (o1, .inl (ko1, 10, .inl fop)), (o2, .inl (ko2, 10, .inl fon)), (o3, .inl (ko3, 10, .inl fos)), (o4, .inl (ko4, 40, .inl fsd)), (v1, .inl (kv1, 972, .inl fsg))] sz) := by
  refine Met.ofW (cc := cX9_runAll) (maxL := 6) (ret := none) (by decide) rfl ?_
  intro p e s m args below meth c s₁ B hml hv
  obtain ⟨rfl, hsz, hN, hP, hK, hD0⟩ := hv
  have hx := B.exec
  have hb := B.bytes
  have hr := B.returns
  have hts0 := atoms_spec (ws := (wq yX9_runAll cX9_runAll 6 none)) B.pre
  have hts : ∀ w ∈ BG, w.before _ s = true := fun w h => hts0 w (List.mem_cons_of_mem _ h)
  have hown : s.vm.findClass RX9 = some m.cls := findClass_of_methodNamed B.named
  have hlocks := B.notSynchronized
  subst hsz
  have hD := hD0.self (sz := s.heap.size)
  generalize hAe : va_A [(h0, .inr (8, [w0, w1, w2, w3, .int (nI kn), .ref l4, .ref l1, w7, w8, w9, w10, w11, .ref v1, .ref v2, .ref nm0, .ref o1, .ref o2, .ref o3, .int op0, .int wk0, .ref o4, .int sd0, .int en, w23, w24, w25, w26, w27, w28, w29, w30, w31, w32, w33, w34])), (l1, .inl (kl1, 10, .inl fll)), (l4, .inl (kl4, 100, .inl fln)), (nm0, .inl (knm0, 10, .inl fnm)), (v2, .inl (kv2, 81, .inl fsm)), (o1, .inl (ko1, 10, .inl fop)), (o2, .inl (ko2, 10, .inl fon)), (o3, .inl (ko3, 10, .inl fos)), (o4, .inl (ko4, 40, .inl fsd)), (v1, .inl (kv1, 972, .inl fsg))] s.heap.size = A at hD ⊢
  have hA : ∀ q : Nat, s.heap.size ≤ q → A q := fun q h => by rw [← hAe]; exact Or.inr h
  have hS : va_S A s.heap s.heap [] := va_S.rf
  clear hAe hD0
  have hP : va_P (dC, dI) vwCl [(h0, .inr (8, [w0, w1, w2, w3, .int (nI kn), .ref l4, .ref l1, w7, w8, w9, w10, w11, .ref v1, .ref v2, .ref nm0, .ref o1, .ref o2, .ref o3, .int op0, .int wk0, .ref o4, .int sd0, .int en, w23, w24, w25, w26, w27, w28, w29, w30, w31, w32, w33, w34])), (l1, .inl (kl1, 10, .inl fll)), (l4, .inl (kl4, 100, .inl fln)), (nm0, .inl (knm0, 10, .inl fnm)), (v2, .inl (kv2, 81, .inl fsm)), (o1, .inl (ko1, 10, .inl fop)), (o2, .inl (ko2, 10, .inl fon)), (o3, .inl (ko3, 10, .inl fos)), (o4, .inl (ko4, 40, .inl fsd)), (v1, .inl (kv1, 972, .inl fsg))] s.heap := hP
  have hl := lv_entry ([.ref h0, .int (nI kq), .int (nI nq)]) (n := 6) (Nat.le_of_ble_eq_true rfl)
  rw [lg_entry_eq]
  generalize (lg_sl ([.ref h0, .int (nI kq), .int (nI nq)]) ++ List.replicate (6 - (lg_sl ([.ref h0, .int (nI kq), .int (nI nq)])).length) Slot.unset).toArray = ls at hl ⊢
  have hl : lv_has ls 6 [(0, .ref h0), (1, .int (nI kq)), (2, .int (nI nq))] := hl
  refine lv_aload_n hx hb dX9_runAll_0 rfl (lv_at hl 0 rfl) ?_
  refine lv_iconst (v := 0) hx hb dX9_runAll_1 (by decide) ?_
  refine va_put (D := (dC, dI)) (ci := 8) (v := .int 0) (ty := .int) (C := RX9) (T := TX9) (N := 35) hx hb hts inB_9 tyX9 tyX9_ok nmX9 hown hK hP hD hS 0 rfl rfl 18 (by decide) (hts _ mw_3_200) (fun _ h9 => h9) rfl (by decide +kernel) rfl rfl (Nat.le_of_ble_eq_true rfl) dX9_runAll_2 (fun H locs hP hD hS => ?_)
  have hP : va_P (dC, dI) vwCl [(h0, .inr (8, [w0, w1, w2, w3, .int (nI kn), .ref l4, .ref l1, w7, w8, w9, w10, w11, .ref v1, .ref v2, .ref nm0, .ref o1, .ref o2, .ref o3, .int 0, .int wk0, .ref o4, .int sd0, .int en, w23, w24, w25, w26, w27, w28, w29, w30, w31, w32, w33, w34])), (l1, .inl (kl1, 10, .inl fll)), (l4, .inl (kl4, 100, .inl fln)), (nm0, .inl (knm0, 10, .inl fnm)), (v2, .inl (kv2, 81, .inl fsm)), (o1, .inl (ko1, 10, .inl fop)), (o2, .inl (ko2, 10, .inl fon)), (o3, .inl (ko3, 10, .inl fos)), (o4, .inl (ko4, 40, .inl fsd)), (v1, .inl (kv1, 972, .inl fsg))] H := hP
  have hD : va_D A [(h0, .inr (8, [w0, w1, w2, w3, .int (nI kn), .ref l4, .ref l1, w7, w8, w9, w10, w11, .ref v1, .ref v2, .ref nm0, .ref o1, .ref o2, .ref o3, .int 0, .int wk0, .ref o4, .int sd0, .int en, w23, w24, w25, w26, w27, w28, w29, w30, w31, w32, w33, w34])), (l1, .inl (kl1, 10, .inl fll)), (l4, .inl (kl4, 100, .inl fln)), (nm0, .inl (knm0, 10, .inl fnm)), (v2, .inl (kv2, 81, .inl fsm)), (o1, .inl (ko1, 10, .inl fop)), (o2, .inl (ko2, 10, .inl fon)), (o3, .inl (ko3, 10, .inl fos)), (o4, .inl (ko4, 40, .inl fsd)), (v1, .inl (kv1, 972, .inl fsg))] := hD
  refine lv_aload_n hx hb dX9_runAll_5 rfl (lv_at hl 0 rfl) ?_
  refine lv_iconst (v := 0) hx hb dX9_runAll_6 (by decide) ?_
  refine va_put (D := (dC, dI)) (ci := 8) (v := .int 0) (ty := .int) (C := RX9) (T := TX9) (N := 35) hx hb hts inB_9 tyX9 tyX9_ok nmX9 hown hK hP hD hS 0 rfl rfl 19 (by decide) (hts _ mw_3_201) (fun _ h9 => h9) rfl (by decide +kernel) rfl rfl (Nat.le_of_ble_eq_true rfl) dX9_runAll_7 (fun H locs hP hD hS => ?_)
  have hP : va_P (dC, dI) vwCl [(h0, .inr (8, [w0, w1, w2, w3, .int (nI kn), .ref l4, .ref l1, w7, w8, w9, w10, w11, .ref v1, .ref v2, .ref nm0, .ref o1, .ref o2, .ref o3, .int 0, .int 0, .ref o4, .int sd0, .int en, w23, w24, w25, w26, w27, w28, w29, w30, w31, w32, w33, w34])), (l1, .inl (kl1, 10, .inl fll)), (l4, .inl (kl4, 100, .inl fln)), (nm0, .inl (knm0, 10, .inl fnm)), (v2, .inl (kv2, 81, .inl fsm)), (o1, .inl (ko1, 10, .inl fop)), (o2, .inl (ko2, 10, .inl fon)), (o3, .inl (ko3, 10, .inl fos)), (o4, .inl (ko4, 40, .inl fsd)), (v1, .inl (kv1, 972, .inl fsg))] H := hP
  have hD : va_D A [(h0, .inr (8, [w0, w1, w2, w3, .int (nI kn), .ref l4, .ref l1, w7, w8, w9, w10, w11, .ref v1, .ref v2, .ref nm0, .ref o1, .ref o2, .ref o3, .int 0, .int 0, .ref o4, .int sd0, .int en, w23, w24, w25, w26, w27, w28, w29, w30, w31, w32, w33, w34])), (l1, .inl (kl1, 10, .inl fll)), (l4, .inl (kl4, 100, .inl fln)), (nm0, .inl (knm0, 10, .inl fnm)), (v2, .inl (kv2, 81, .inl fsm)), (o1, .inl (ko1, 10, .inl fop)), (o2, .inl (ko2, 10, .inl fon)), (o3, .inl (ko3, 10, .inl fos)), (o4, .inl (ko4, 40, .inl fsd)), (v1, .inl (kv1, 972, .inl fsg))] := hD
  refine lv_aload_n hx hb dX9_runAll_10 rfl (lv_at hl 0 rfl) ?_
  refine lv_iconst (v := 0) hx hb dX9_runAll_11 (by decide) ?_
  refine va_put (D := (dC, dI)) (ci := 8) (v := .int 0) (ty := .int) (C := RX9) (T := TX9) (N := 35) hx hb hts inB_9 tyX9 tyX9_ok nmX9 hown hK hP hD hS 0 rfl rfl 21 (by decide) (hts _ mw_3_203) (fun _ h9 => h9) rfl (by decide +kernel) rfl rfl (Nat.le_of_ble_eq_true rfl) dX9_runAll_12 (fun H locs hP hD hS => ?_)
  have hP : va_P (dC, dI) vwCl [(h0, .inr (8, [w0, w1, w2, w3, .int (nI kn), .ref l4, .ref l1, w7, w8, w9, w10, w11, .ref v1, .ref v2, .ref nm0, .ref o1, .ref o2, .ref o3, .int 0, .int 0, .ref o4, .int 0, .int en, w23, w24, w25, w26, w27, w28, w29, w30, w31, w32, w33, w34])), (l1, .inl (kl1, 10, .inl fll)), (l4, .inl (kl4, 100, .inl fln)), (nm0, .inl (knm0, 10, .inl fnm)), (v2, .inl (kv2, 81, .inl fsm)), (o1, .inl (ko1, 10, .inl fop)), (o2, .inl (ko2, 10, .inl fon)), (o3, .inl (ko3, 10, .inl fos)), (o4, .inl (ko4, 40, .inl fsd)), (v1, .inl (kv1, 972, .inl fsg))] H := hP
  have hD : va_D A [(h0, .inr (8, [w0, w1, w2, w3, .int (nI kn), .ref l4, .ref l1, w7, w8, w9, w10, w11, .ref v1, .ref v2, .ref nm0, .ref o1, .ref o2, .ref o3, .int 0, .int 0, .ref o4, .int 0, .int en, w23, w24, w25, w26, w27, w28, w29, w30, w31, w32, w33, w34])), (l1, .inl (kl1, 10, .inl fll)), (l4, .inl (kl4, 100, .inl fln)), (nm0, .inl (knm0, 10, .inl fnm)), (v2, .inl (kv2, 81, .inl fsm)), (o1, .inl (ko1, 10, .inl fop)), (o2, .inl (ko2, 10, .inl fon)), (o3, .inl (ko3, 10, .inl fos)), (o4, .inl (ko4, 40, .inl fsd)), (v1, .inl (kv1, 972, .inl fsg))] := hD
  refine lv_aload_n hx hb dX9_runAll_15 rfl (lv_at hl 0 rfl) ?_
  refine lv_iconst (v := 0) hx hb dX9_runAll_16 (by decide) ?_
  refine va_put (D := (dC, dI)) (ci := 8) (v := .int 0) (ty := .int) (C := RX9) (T := TX9) (N := 35) hx hb hts inB_9 tyX9 tyX9_ok nmX9 hown hK hP hD hS 0 rfl rfl 22 (by decide) (hts _ mw_3_204) (fun _ h9 => h9) rfl (by decide +kernel) rfl rfl (Nat.le_of_ble_eq_true rfl) dX9_runAll_17 (fun H locs hP hD hS => ?_)
  have hP : va_P (dC, dI) vwCl [(h0, .inr (8, [w0, w1, w2, w3, .int (nI kn), .ref l4, .ref l1, w7, w8, w9, w10, w11, .ref v1, .ref v2, .ref nm0, .ref o1, .ref o2, .ref o3, .int 0, .int 0, .ref o4, .int 0, .int 0, w23, w24, w25, w26, w27, w28, w29, w30, w31, w32, w33, w34])), (l1, .inl (kl1, 10, .inl fll)), (l4, .inl (kl4, 100, .inl fln)), (nm0, .inl (knm0, 10, .inl fnm)), (v2, .inl (kv2, 81, .inl fsm)), (o1, .inl (ko1, 10, .inl fop)), (o2, .inl (ko2, 10, .inl fon)), (o3, .inl (ko3, 10, .inl fos)), (o4, .inl (ko4, 40, .inl fsd)), (v1, .inl (kv1, 972, .inl fsg))] H := hP
  have hD : va_D A [(h0, .inr (8, [w0, w1, w2, w3, .int (nI kn), .ref l4, .ref l1, w7, w8, w9, w10, w11, .ref v1, .ref v2, .ref nm0, .ref o1, .ref o2, .ref o3, .int 0, .int 0, .ref o4, .int 0, .int 0, w23, w24, w25, w26, w27, w28, w29, w30, w31, w32, w33, w34])), (l1, .inl (kl1, 10, .inl fll)), (l4, .inl (kl4, 100, .inl fln)), (nm0, .inl (knm0, 10, .inl fnm)), (v2, .inl (kv2, 81, .inl fsm)), (o1, .inl (ko1, 10, .inl fop)), (o2, .inl (ko2, 10, .inl fon)), (o3, .inl (ko3, 10, .inl fos)), (o4, .inl (ko4, 40, .inl fsd)), (v1, .inl (kv1, 972, .inl fsg))] := hD
  refine lv_aload_n hx hb dX9_runAll_20 rfl (lv_at hl 0 rfl) ?_
  refine lv_iload_n hx hb dX9_runAll_21 rfl (lv_at hl 1 rfl) ?_
  refine lv_iload_n hx hb dX9_runAll_22 rfl (lv_at hl 2 rfl) ?_
  refine lv_iconst (v := 0) hx hb dX9_runAll_23 (by decide) ?_
  have hPc := hP.sub (ws' := [(h0, .inr (8, [w0, w1, w2, w3, .int (nI kn), .ref l4, .ref l1, w7, w8, w9, w10, w11, .ref v1, .ref v2, .ref nm0, .ref o1, .ref o2, .ref o3, .int 0, .int 0, .ref o4, .int 0, .int 0, w23, w24, w25, w26, w27, w28, w29, w30, w31, w32, w33, w34])), (l1, .inl (kl1, 10, .inl fll)), (l4, .inl (kl4, 100, .inl fln)), (nm0, .inl (knm0, 10, .inl fnm)), (v2, .inl (kv2, 81, .inl fsm)), (o1, .inl (ko1, 10, .inl fop)), (o2, .inl (ko2, 10, .inl fon)), (o3, .inl (ko3, 10, .inl fos))]) [0, 1, 2, 3, 4, 5, 6, 7] rfl
  have hDc := hD.sub (ws' := [(h0, .inr (8, [w0, w1, w2, w3, .int (nI kn), .ref l4, .ref l1, w7, w8, w9, w10, w11, .ref v1, .ref v2, .ref nm0, .ref o1, .ref o2, .ref o3, .int 0, .int 0, .ref o4, .int 0, .int 0, w23, w24, w25, w26, w27, w28, w29, w30, w31, w32, w33, w34])), (l1, .inl (kl1, 10, .inl fll)), (l4, .inl (kl4, 100, .inl fln)), (nm0, .inl (knm0, 10, .inl fnm)), (v2, .inl (kv2, 81, .inl fsm)), (o1, .inl (ko1, 10, .inl fop)), (o2, .inl (ko2, 10, .inl fon)), (o3, .inl (ko3, 10, .inl fos))]) [0, 1, 2, 3, 4, 5, 6, 7] (by decide) rfl
  have hKc := hK.sub (tys' := [(kl1, .int), (kl4, .int), (knm0, .int), (kv2, .int), (ko1, .int), (ko2, .int), (ko3, .int)]) [0, 1, 2, 3, 4, 5, 6] rfl
  have hFc := va_free (wc := [(h0, .inr (8, [w0, w1, w2, w3, .int (nI kn), .ref l4, .ref l1, w7, w8, w9, w10, w11, .ref v1, .ref v2, .ref nm0, .ref o1, .ref o2, .ref o3, .int 0, .int 0, .ref o4, .int 0, .int 0, w23, w24, w25, w26, w27, w28, w29, w30, w31, w32, w33, w34])), (l1, .inl (kl1, 10, .inl fll)), (l4, .inl (kl4, 100, .inl fln)), (nm0, .inl (knm0, 10, .inl fnm)), (v2, .inl (kv2, 81, .inl fsm)), (o1, .inl (ko1, 10, .inl fop)), (o2, .inl (ko2, 10, .inl fon)), (o3, .inl (ko3, 10, .inl fos))]) hD hS hA [0, 1, 2, 3, 4, 5, 6, 7] rfl
  refine va_callv (va_runV (As := [.int (nI kq), .int (nI nq), .int 0]) (rest := []) ⟨hx, hb, hml, hown, hts⟩ (m_begin l dC dI H.size h0 (w0) (w1) (w2) (w3) kn l4 l1 (w7) (w8) (w9) (w10) (w11) (.ref v1) v2 nm0 o1 o2 o3 0 0 (.ref o4) (.int 0) 0 (w23) (w24) (w25) (w26) (w27) (w28) (w29) (w30) (w31) (w32) (w33) (w34) kl1 fll kl4 fln knm0 fnm kv2 fsm ko1 fop ko2 fon ko3 fos kq nq 0 fsg hkn hll hln hkq hn8 (by omega) (by omega) (by omega) os_0 rfl) (cwV 3 hts (gV mw_4_155 mw_4_157 mw_0_24 mw_1_9 mw_4_158) rfl rfl rfl (by decide +kernel) ⟨Nat.le_of_ble_eq_true rfl, Nat.le_of_ble_eq_true rfl⟩) ⟨pcW_blind, va_recv hKc hPc (ci := 8) (q0 := 0) rfl rfl, pcW_at hPc hKc hDc hN⟩ rfl rfl hl.1 rfl (lv_room (Nat.le_of_ble_eq_true rfl)) dX9_runAll_24 ⟨Nat.le_of_ble_eq_true rfl, Nat.le_of_ble_eq_true rfl⟩) hS (fun q _ h => hFc q h) hFc (fun u t H1 locs ht hvm hw_1 hB hz1 hk1 hS => ?_)
  obtain ⟨q_2, q_3, z_4, f_5, f_6, f_7, p_8, p_9, p_10, p_11, p_12, hP1, hK1, hD1⟩ := hB
  rw [ht] at hP1
  have hK1 := va_K.moved hvm.symm hK1
  obtain ⟨hP, hD⟩ := va_join (wr := [(o4, .inl (ko4, 40, .inl fsd)), (v1, .inl (kv1, 972, .inl fsg))]) (w1 := [(h0, .inr (8, [w0, w1, w2, w3, .int (nI kn), .ref l4, .ref l1, w7, w8, w9, w10, w11, .ref v1, .ref v2, .ref nm0, .ref o1, .ref o2, .ref o3, .int (nI q_2), .int (nI q_3), .ref o4, .int 0, .int z_4, w23, w24, w25, w26, w27, w28, w29, w30, w31, w32, w33, w34])), (l1, .inl (kl1, 10, .inl fll)), (l4, .inl (kl4, 100, .inl fln)), (nm0, .inl (knm0, 10, .inl fnm)), (v2, .inl (kv2, 81, .inl fsm)), (o1, .inl (ko1, 10, .inl f_5)), (o2, .inl (ko2, 10, .inl f_6)), (o3, .inl (ko3, 10, .inl f_7))]) hP hD [0, 1, 2, 3, 4, 5, 6, 7] [8, 9] rfl rfl (by decide) (by decide) hk1 hFc hP1 hD1
  have hK := (hK.sub (tys' := [(ko4, .int), (kv1, .int)]) [7, 8] rfl).app hK1
  clear hz1 hk1 hPc hDc hKc hFc
  generalize H1 = H at hP hS ⊢
  have hK : va_K (dC, dI) vwCl [(ko4, .int), (kv1, .int), (kl1, .int), (kl4, .int), (knm0, .int), (kv2, .int), (ko1, .int), (ko2, .int), (ko3, .int)] s := hK
  have hP : va_P (dC, dI) vwCl [(o4, .inl (ko4, 40, .inl fsd)), (v1, .inl (kv1, 972, .inl fsg)), (h0, .inr (8, [w0, w1, w2, w3, .int (nI kn), .ref l4, .ref l1, w7, w8, w9, w10, w11, .ref v1, .ref v2, .ref nm0, .ref o1, .ref o2, .ref o3, .int (nI q_2), .int (nI q_3), .ref o4, .int 0, .int z_4, w23, w24, w25, w26, w27, w28, w29, w30, w31, w32, w33, w34])), (l1, .inl (kl1, 10, .inl fll)), (l4, .inl (kl4, 100, .inl fln)), (nm0, .inl (knm0, 10, .inl fnm)), (v2, .inl (kv2, 81, .inl fsm)), (o1, .inl (ko1, 10, .inl f_5)), (o2, .inl (ko2, 10, .inl f_6)), (o3, .inl (ko3, 10, .inl f_7))] H := hP
  have hD : va_D A [(o4, .inl (ko4, 40, .inl fsd)), (v1, .inl (kv1, 972, .inl fsg)), (h0, .inr (8, [w0, w1, w2, w3, .int (nI kn), .ref l4, .ref l1, w7, w8, w9, w10, w11, .ref v1, .ref v2, .ref nm0, .ref o1, .ref o2, .ref o3, .int (nI q_2), .int (nI q_3), .ref o4, .int 0, .int z_4, w23, w24, w25, w26, w27, w28, w29, w30, w31, w32, w33, w34])), (l1, .inl (kl1, 10, .inl fll)), (l4, .inl (kl4, 100, .inl fln)), (nm0, .inl (knm0, 10, .inl fnm)), (v2, .inl (kv2, 81, .inl fsm)), (o1, .inl (ko1, 10, .inl f_5)), (o2, .inl (ko2, 10, .inl f_6)), (o3, .inl (ko3, 10, .inl f_7))] := hD
  have key_13 : ∀ (fu : Nat) (opx : Nat) (wkx : Nat) (enx : Int32) (fopx : Nat → Int32) (fonx : Nat → Int32) (fosx : Nat → Int32) (sdx : Nat) (fsdx : Nat → Int32), (opx ≤ 9) → (wkx ≤ 200) → (OsOk fll fln fsm kq fopx fonx fosx opx) → (sdx ≤ 40) → (FinEq (finM fll fln fnm fsm fsg kq fopx fonx fosx opx (enx, wkx, sdx, fsdx)) (wdM fll fln fnm fsm fsg kq 9 nq 0 (0, 0, fsd))) → rMu wkx fosx opx < fu → ∀ (H : Heap) (locs : List Loc), va_P (dC, dI) vwCl [(o4, .inl (ko4, 40, .inl fsdx)), (v1, .inl (kv1, 972, .inl fsg)), (h0, .inr (8, [w0, w1, w2, w3, .int (nI kn), .ref l4, .ref l1, w7, w8, w9, w10, w11, .ref v1, .ref v2, .ref nm0, .ref o1, .ref o2, .ref o3, .int (nI opx), .int (nI wkx), .ref o4, .int (nI sdx), .int enx, w23, w24, w25, w26, w27, w28, w29, w30, w31, w32, w33, w34])), (l1, .inl (kl1, 10, .inl fll)), (l4, .inl (kl4, 100, .inl fln)), (nm0, .inl (knm0, 10, .inl fnm)), (v2, .inl (kv2, 81, .inl fsm)), (o1, .inl (ko1, 10, .inl fopx)), (o2, .inl (ko2, 10, .inl fonx)), (o3, .inl (ko3, 10, .inl fosx))] H → va_D A [(o4, .inl (ko4, 40, .inl fsdx)), (v1, .inl (kv1, 972, .inl fsg)), (h0, .inr (8, [w0, w1, w2, w3, .int (nI kn), .ref l4, .ref l1, w7, w8, w9, w10, w11, .ref v1, .ref v2, .ref nm0, .ref o1, .ref o2, .ref o3, .int (nI opx), .int (nI wkx), .ref o4, .int (nI sdx), .int enx, w23, w24, w25, w26, w27, w28, w29, w30, w31, w32, w33, w34])), (l1, .inl (kl1, 10, .inl fll)), (l4, .inl (kl4, 100, .inl fln)), (nm0, .inl (knm0, 10, .inl fnm)), (v2, .inl (kv2, 81, .inl fsm)), (o1, .inl (ko1, 10, .inl fopx)), (o2, .inl (ko2, 10, .inl fonx)), (o3, .inl (ko3, 10, .inl fosx))] → va_S A s.heap H locs → ∀ (ls : Array Slot), lv_has ls 6 [(0, .ref h0), (1, .int (nI kq)), (2, .int (nI nq))] → W p l e (headSpec (wq yX9_runAll cX9_runAll 6 none) ({ frames := 4, cells := 0, slots := 0, locals := 94 })).room s m (([.ref h0, .int (nI kq), .int (nI nq)] : List Value)).toArray below meth c H locs 0 0 (MQ below (va_Qv (fun _ : Unit => True) (fun _ t => ∃ (op2 : Nat) (wk2 : Nat) (en2 : Int32) (fop2 : Nat → Int32) (fon2 : Nat → Int32) (fos2 : Nat → Int32) (sd2 : Nat) (fsd2 : Nat → Int32), (sd2 ≤ 40) ∧ (FinEq (en2, wk2, sd2, fsd2) (wdM fll fln fnm fsm fsg kq 9 nq 0 (0, 0, fsd))) ∧ va_P (dC, dI) vwCl [(h0, .inr (8, [w0, w1, w2, w3, .int (nI kn), .ref l4, .ref l1, w7, w8, w9, w10, w11, .ref v1, .ref v2, .ref nm0, .ref o1, .ref o2, .ref o3, .int (nI op2), .int (nI wk2), .ref o4, .int (nI sd2), .int en2, w23, w24, w25, w26, w27, w28, w29, w30, w31, w32, w33, w34])), (l1, .inl (kl1, 10, .inl fll)), (l4, .inl (kl4, 100, .inl fln)), (nm0, .inl (knm0, 10, .inl fnm)), (v2, .inl (kv2, 81, .inl fsm)), (o1, .inl (ko1, 10, .inl fop2)), (o2, .inl (ko2, 10, .inl fon2)), (o3, .inl (ko3, 10, .inl fos2)), (o4, .inl (ko4, 40, .inl fsd2)), (v1, .inl (kv1, 972, .inl fsg))] t.heap ∧ va_K (dC, dI) vwCl [(kl1, .int), (kl4, .int), (knm0, .int), (kv2, .int), (ko1, .int), (ko2, .int), (ko3, .int), (ko4, .int), (kv1, .int)] t ∧ va_D A [(h0, .inr (8, [w0, w1, w2, w3, .int (nI kn), .ref l4, .ref l1, w7, w8, w9, w10, w11, .ref v1, .ref v2, .ref nm0, .ref o1, .ref o2, .ref o3, .int (nI op2), .int (nI wk2), .ref o4, .int (nI sd2), .int en2, w23, w24, w25, w26, w27, w28, w29, w30, w31, w32, w33, w34])), (l1, .inl (kl1, 10, .inl fll)), (l4, .inl (kl4, 100, .inl fln)), (nm0, .inl (knm0, 10, .inl fnm)), (v2, .inl (kv2, 81, .inl fsm)), (o1, .inl (ko1, 10, .inl fop2)), (o2, .inl (ko2, 10, .inl fon2)), (o3, .inl (ko3, 10, .inl fos2)), (o4, .inl (ko4, 40, .inl fsd2)), (v1, .inl (kv1, 972, .inl fsg))]) A) (([.ref h0, .int (nI kq), .int (nI nq)] : List Value)).toArray s 0 0 A) (F0 m 27 ls []) := by
    intro fu
    induction fu with
    | zero => intro opx wkx enx fopx fonx fosx sdx fsdx hopx hwkx hosx hsdx hfe hme; exact absurd hme (Nat.not_lt_zero _)
    | succ fu ih_14 =>
      intro opx wkx enx fopx fonx fosx sdx fsdx hopx hwkx hosx hsdx hfe hme H locs hP hD hS ls hl
      refine lv_aload_n hx hb dX9_runAll_27 rfl (lv_at hl 0 rfl) ?_
      refine va_get (D := (dC, dI)) (ci := 8) (v := .int (nI opx)) (C := RX9) (T := TX9) (N := 35) hx hb hts inB_9 hown hK hP 2 rfl rfl 18 (by decide) (hts _ mw_3_200) (fun _ h9 => h9) rfl dX9_runAll_28 ?_
      refine lv_if_le (tgt := 144) hx hb dX9_runAll_31 (by decide) (fun c_15 => ?_) (fun c_15 => ?_)
      · have b_16 := gx_le (X := ((opx : Nat) : Int)) (C := 0) (nI_toInt (by omega)) (by decide) c_15
        have hP9 := hP.sub (ws' := [(h0, .inr (8, [w0, w1, w2, w3, .int (nI kn), .ref l4, .ref l1, w7, w8, w9, w10, w11, .ref v1, .ref v2, .ref nm0, .ref o1, .ref o2, .ref o3, .int (nI opx), .int (nI wkx), .ref o4, .int (nI sdx), .int enx, w23, w24, w25, w26, w27, w28, w29, w30, w31, w32, w33, w34])), (l1, .inl (kl1, 10, .inl fll)), (l4, .inl (kl4, 100, .inl fln)), (nm0, .inl (knm0, 10, .inl fnm)), (v2, .inl (kv2, 81, .inl fsm)), (o1, .inl (ko1, 10, .inl fopx)), (o2, .inl (ko2, 10, .inl fonx)), (o3, .inl (ko3, 10, .inl fosx)), (o4, .inl (ko4, 40, .inl fsdx)), (v1, .inl (kv1, 972, .inl fsg))]) [2, 3, 4, 5, 6, 7, 8, 9, 0, 1] rfl
        have hD9 := hD.sub (ws' := [(h0, .inr (8, [w0, w1, w2, w3, .int (nI kn), .ref l4, .ref l1, w7, w8, w9, w10, w11, .ref v1, .ref v2, .ref nm0, .ref o1, .ref o2, .ref o3, .int (nI opx), .int (nI wkx), .ref o4, .int (nI sdx), .int enx, w23, w24, w25, w26, w27, w28, w29, w30, w31, w32, w33, w34])), (l1, .inl (kl1, 10, .inl fll)), (l4, .inl (kl4, 100, .inl fln)), (nm0, .inl (knm0, 10, .inl fnm)), (v2, .inl (kv2, 81, .inl fsm)), (o1, .inl (ko1, 10, .inl fopx)), (o2, .inl (ko2, 10, .inl fonx)), (o3, .inl (ko3, 10, .inl fosx)), (o4, .inl (ko4, 40, .inl fsdx)), (v1, .inl (kv1, 972, .inl fsg))]) [2, 3, 4, 5, 6, 7, 8, 9, 0, 1] (by decide) rfl
        have hK9 := hK.sub (tys' := [(kl1, .int), (kl4, .int), (knm0, .int), (kv2, .int), (ko1, .int), (ko2, .int), (ko3, .int), (ko4, .int), (kv1, .int)]) [2, 3, 4, 5, 6, 7, 8, 0, 1] rfl
        exact W.vret hx hb hr (fun t ht hW => ⟨⟨(), rfl, trivial, opx, wkx, enx, fopx, fonx, fosx, sdx, fsdx, hsdx, (by have q := hfe; rw [show opx = 0 from (by omega)] at q; exact q), by rw [ht]; exact hP9, va_K.moved hW.alike hK9, hD9⟩, hS.F ht⟩) hS.2.2 dX9_runAll_144
      · have b_16 := gn_le (X := ((opx : Nat) : Int)) (C := 0) (nI_toInt (by omega)) (by decide) c_15
        refine lv_aload_n hx hb dX9_runAll_34 rfl (lv_at hl 0 rfl) ?_
        refine va_get (D := (dC, dI)) (ci := 8) (v := .int enx) (C := RX9) (T := TX9) (N := 35) hx hb hts inB_9 hown hK hP 2 rfl rfl 22 (by decide) (hts _ mw_3_204) (fun _ h9 => h9) rfl dX9_runAll_35 ?_
        refine lv_if_ne (tgt := 144) hx hb dX9_runAll_38 (by decide) (fun c_17 => ?_) (fun c_17 => ?_)
        · have b_18 := gx_ne (X := (Int32.toInt enx)) (C := 0) rfl (by decide) c_17
          have hP9 := hP.sub (ws' := [(h0, .inr (8, [w0, w1, w2, w3, .int (nI kn), .ref l4, .ref l1, w7, w8, w9, w10, w11, .ref v1, .ref v2, .ref nm0, .ref o1, .ref o2, .ref o3, .int (nI opx), .int (nI wkx), .ref o4, .int (nI sdx), .int enx, w23, w24, w25, w26, w27, w28, w29, w30, w31, w32, w33, w34])), (l1, .inl (kl1, 10, .inl fll)), (l4, .inl (kl4, 100, .inl fln)), (nm0, .inl (knm0, 10, .inl fnm)), (v2, .inl (kv2, 81, .inl fsm)), (o1, .inl (ko1, 10, .inl fopx)), (o2, .inl (ko2, 10, .inl fonx)), (o3, .inl (ko3, 10, .inl fosx)), (o4, .inl (ko4, 40, .inl fsdx)), (v1, .inl (kv1, 972, .inl fsg))]) [2, 3, 4, 5, 6, 7, 8, 9, 0, 1] rfl
          have hD9 := hD.sub (ws' := [(h0, .inr (8, [w0, w1, w2, w3, .int (nI kn), .ref l4, .ref l1, w7, w8, w9, w10, w11, .ref v1, .ref v2, .ref nm0, .ref o1, .ref o2, .ref o3, .int (nI opx), .int (nI wkx), .ref o4, .int (nI sdx), .int enx, w23, w24, w25, w26, w27, w28, w29, w30, w31, w32, w33, w34])), (l1, .inl (kl1, 10, .inl fll)), (l4, .inl (kl4, 100, .inl fln)), (nm0, .inl (knm0, 10, .inl fnm)), (v2, .inl (kv2, 81, .inl fsm)), (o1, .inl (ko1, 10, .inl fopx)), (o2, .inl (ko2, 10, .inl fonx)), (o3, .inl (ko3, 10, .inl fosx)), (o4, .inl (ko4, 40, .inl fsdx)), (v1, .inl (kv1, 972, .inl fsg))]) [2, 3, 4, 5, 6, 7, 8, 9, 0, 1] (by decide) rfl
          have hK9 := hK.sub (tys' := [(kl1, .int), (kl4, .int), (knm0, .int), (kv2, .int), (ko1, .int), (ko2, .int), (ko3, .int), (ko4, .int), (kv1, .int)]) [2, 3, 4, 5, 6, 7, 8, 0, 1] rfl
          exact W.vret hx hb hr (fun t ht hW => ⟨⟨(), rfl, trivial, opx, wkx, enx, fopx, fonx, fosx, sdx, fsdx, hsdx, (by have q := hfe; rw [fin_stop (r := (enx, wkx, sdx, fsdx)) c_17] at q; exact q), by rw [ht]; exact hP9, va_K.moved hW.alike hK9, hD9⟩, hS.F ht⟩) hS.2.2 dX9_runAll_144
        · have b_18 := gn_ne (X := (Int32.toInt enx)) (C := 0) rfl (by decide) c_17
          refine lv_aload_n hx hb dX9_runAll_41 rfl (lv_at hl 0 rfl) ?_
          refine va_get (D := (dC, dI)) (ci := 8) (v := .int (nI opx)) (C := RX9) (T := TX9) (N := 35) hx hb hts inB_9 hown hK hP 2 rfl rfl 18 (by decide) (hts _ mw_3_200) (fun _ h9 => h9) rfl dX9_runAll_42 ?_
          refine lv_iconst (v := 1) hx hb dX9_runAll_45 (by decide) ?_
          refine lv_isub hx hb dX9_runAll_46 ?_
          refine hx_top (y := (nI (opx - 1))) (pk_sub (a := opx) (b := 1) (by omega)) ?_
          refine lv_istore_n (lv' := [(3, .int (nI (opx - 1))), (0, .ref h0), (1, .int (nI kq)), (2, .int (nI nq))]) hx hb dX9_runAll_47 rfl hl (by decide) rfl (fun ls hl => ?_)
          obtain ⟨a9, b9, d9, q9, e1, h2, e3, h4, e5, h6, h7, h8, h9⟩ := hosx (opx - 1) (by omega)
          refine lv_aload_n hx hb dX9_runAll_48 rfl (lv_at hl 1 rfl) ?_
          refine va_get (D := (dC, dI)) (ci := 8) (v := .ref l4) (C := RX9) (T := TX9) (N := 35) hx hb hts inB_9 hown hK hP 2 rfl rfl 5 (by decide) (hts _ mw_3_187) (fun _ h9 => h9) rfl dX9_runAll_49 ?_
          refine lv_bipush (v := 10) hx hb dX9_runAll_52 (by decide) ?_
          refine lv_iload_n hx hb dX9_runAll_54 rfl (lv_at hl 2 rfl) ?_
          refine lv_imul hx hb dX9_runAll_55 ?_
          refine hx_top (y := (nI (10 * kq))) (pk_mul 10 kq) ?_
          refine lv_aload_n hx hb dX9_runAll_56 rfl (lv_at hl 1 rfl) ?_
          refine va_get (D := (dC, dI)) (ci := 8) (v := .ref o1) (C := RX9) (T := TX9) (N := 35) hx hb hts inB_9 hown hK hP 2 rfl rfl 15 (by decide) (hts _ mw_3_197) (fun _ h9 => h9) rfl dX9_runAll_57 ?_
          refine lv_iload_n hx hb dX9_runAll_60 rfl (lv_at hl 0 rfl) ?_
          refine va_iald hx hb hK hP 7 6 rfl rfl (show vp_in (nI (opx - 1)) 10 from vp_in_nI (by omega) (by omega)) dX9_runAll_61 ?_
          refine hx_top (y := (fopx (opx - 1))) (congrArg _ (nI_clamp (by omega))) ?_
          refine hx_top (y := (nI a9)) e1 ?_
          refine lv_iadd hx hb dX9_runAll_62 ?_
          refine hx_top (y := (nI ((10 * kq) + a9))) (nI_add (10 * kq) a9) ?_
          refine va_iald hx hb hK hP 4 3 rfl rfl (show vp_in (nI ((10 * kq) + a9)) 100 from vp_in_nI (by omega) (by omega)) dX9_runAll_63 ?_
          refine hx_top (y := (fln ((10 * kq) + a9))) (congrArg _ (nI_clamp (by omega))) ?_
          refine hx_top (y := (nI q9)) h7 ?_
          refine lv_aload_n hx hb dX9_runAll_64 rfl (lv_at hl 1 rfl) ?_
          refine va_get (D := (dC, dI)) (ci := 8) (v := .ref o2) (C := RX9) (T := TX9) (N := 35) hx hb hts inB_9 hown hK hP 2 rfl rfl 16 (by decide) (hts _ mw_3_198) (fun _ h9 => h9) rfl dX9_runAll_65 ?_
          refine lv_iload_n hx hb dX9_runAll_68 rfl (lv_at hl 0 rfl) ?_
          refine va_iald hx hb hK hP 8 7 rfl rfl (show vp_in (nI (opx - 1)) 10 from vp_in_nI (by omega) (by omega)) dX9_runAll_69 ?_
          refine hx_top (y := (fonx (opx - 1))) (congrArg _ (nI_clamp (by omega))) ?_
          refine hx_top (y := (nI b9)) e3 ?_
          have hPc := hP.sub (ws' := []) [] rfl
          have hDc := hD.sub (ws' := []) [] (by decide) rfl
          have hKc := hK.sub (tys' := []) [] rfl
          refine va_calli (va_runS (As := [.int (nI q9), .int (nI b9)]) (rest := []) ⟨hx, hb, hml, hown, hts⟩ (m_bodyOf l dC dI H.size q9 b9 ) (va_cwS 2 hts (gS mw_4_120 mw_4_121 mw_1_9 mw_4_122) rfl rfl rfl (by decide +kernel) ⟨Nat.le_of_ble_eq_true rfl, Nat.le_of_ble_eq_true rfl⟩) ⟨pcW_blind, pcW_at hPc hKc hDc hN⟩ rfl rfl hl.1 rfl (lv_room (Nat.le_of_ble_eq_true rfl)) dX9_runAll_70 ⟨Nat.le_of_ble_eq_true rfl, Nat.le_of_ble_eq_true rfl⟩) hS (fun q h1 h2 => absurd h2 (Nat.not_le.mpr h1)) (fun q h => hA q (Nat.le_trans hS.1 h)) (fun r_19 u t H1 locs ht hvm hw_19 hB hz1 hk1 hS => ?_)
          have hP := keepP hP hk1
          clear hz1 hk1 hB ht hvm hPc hDc hKc
          generalize H1 = H at hP hS ⊢
          obtain rfl : r_19 = nI (8 * q9 + b9) := hw_19
          refine lv_istore (lv' := [(4, .int (nI (8 * q9 + b9))), (3, .int (nI (opx - 1))), (0, .ref h0), (1, .int (nI kq)), (2, .int (nI nq))]) hx hb dX9_runAll_73 hl (by decide) rfl (fun ls hl => ?_)
          refine lv_aload_n hx hb dX9_runAll_75 rfl (lv_at hl 2 rfl) ?_
          refine va_get (D := (dC, dI)) (ci := 8) (v := .ref o3) (C := RX9) (T := TX9) (N := 35) hx hb hts inB_9 hown hK hP 2 rfl rfl 17 (by decide) (hts _ mw_3_199) (fun _ h9 => h9) rfl dX9_runAll_76 ?_
          refine lv_iload_n hx hb dX9_runAll_79 rfl (lv_at hl 1 rfl) ?_
          refine va_iald hx hb hK hP 9 8 rfl rfl (show vp_in (nI (opx - 1)) 10 from vp_in_nI (by omega) (by omega)) dX9_runAll_80 ?_
          refine hx_top (y := (fosx (opx - 1))) (congrArg _ (nI_clamp (by omega))) ?_
          refine hx_top (y := (nI d9)) e5 ?_
          refine lv_aload_n hx hb dX9_runAll_81 rfl (lv_at hl 2 rfl) ?_
          refine va_get (D := (dC, dI)) (ci := 8) (v := .ref v2) (C := RX9) (T := TX9) (N := 35) hx hb hts inB_9 hown hK hP 2 rfl rfl 13 (by decide) (hts _ mw_3_195) (fun _ h9 => h9) rfl dX9_runAll_82 ?_
          refine lv_iload hx hb dX9_runAll_85 (lv_at hl 0 rfl) ?_
          refine va_iald hx hb hK hP 6 5 rfl rfl (show vp_in (nI (8 * q9 + b9)) 81 from vp_in_nI (by omega) (by omega)) dX9_runAll_87 ?_
          refine hx_top (y := (fsm (8 * q9 + b9))) (congrArg _ (nI_clamp (by omega))) ?_
          obtain ⟨n_20, hn_20, en_20⟩ := hsm (8 * q9 + b9) (by omega)
          refine hx_top (y := (nI n_20)) en_20 ?_
          refine lv_icmp_ne (tgt := 104) hx hb dX9_runAll_88 (by decide) (fun c_21 => ?_) (fun c_21 => ?_)
          · have b_22 := gx_ne (X := ((d9 : Nat) : Int)) (C := ((n_20 : Nat) : Int)) (nI_toInt (by omega)) (nI_toInt (by omega)) c_21
            have h8z : d9 ≤ n_20 := (by have y := h8; rw [en_20, nI_clamp (by omega)] at y; exact y)
            refine lv_aload_n hx hb dX9_runAll_104 rfl (lv_at hl 2 rfl) ?_
            refine va_get (D := (dC, dI)) (ci := 8) (v := .ref v1) (C := RX9) (T := TX9) (N := 35) hx hb hts inB_9 hown hK hP 2 rfl rfl 12 (by decide) (hts _ mw_3_194) (fun _ h9 => h9) rfl dX9_runAll_105 ?_
            refine lv_bipush (v := 12) hx hb dX9_runAll_108 (by decide) ?_
            refine lv_iload hx hb dX9_runAll_110 (lv_at hl 0 rfl) ?_
            refine lv_imul hx hb dX9_runAll_112 ?_
            refine hx_top (y := (nI (12 * (8 * q9 + b9)))) (pk_mul 12 (8 * q9 + b9)) ?_
            refine lv_aload_n hx hb dX9_runAll_113 rfl (lv_at hl 2 rfl) ?_
            refine va_get (D := (dC, dI)) (ci := 8) (v := .ref o3) (C := RX9) (T := TX9) (N := 35) hx hb hts inB_9 hown hK hP 2 rfl rfl 17 (by decide) (hts _ mw_3_199) (fun _ h9 => h9) rfl dX9_runAll_114 ?_
            refine lv_iload_n hx hb dX9_runAll_117 rfl (lv_at hl 1 rfl) ?_
            refine va_iald hx hb hK hP 9 8 rfl rfl (show vp_in (nI (opx - 1)) 10 from vp_in_nI (by omega) (by omega)) dX9_runAll_118 ?_
            refine hx_top (y := (fosx (opx - 1))) (congrArg _ (nI_clamp (by omega))) ?_
            refine hx_top (y := (nI d9)) e5 ?_
            refine lv_iadd hx hb dX9_runAll_119 ?_
            refine hx_top (y := (nI ((12 * (8 * q9 + b9)) + d9))) (nI_add (12 * (8 * q9 + b9)) d9) ?_
            refine va_iald hx hb hK hP 1 1 rfl rfl (show vp_in (nI ((12 * (8 * q9 + b9)) + d9)) 972 from vp_in_nI (by omega) (by omega)) dX9_runAll_120 ?_
            refine hx_top (y := (fsg ((12 * (8 * q9 + b9)) + d9))) (congrArg _ (nI_clamp (by omega))) ?_
            refine lv_istore (lv' := [(5, .int (fsg ((12 * (8 * q9 + b9)) + d9))), (4, .int (nI (8 * q9 + b9))), (3, .int (nI (opx - 1))), (0, .ref h0), (1, .int (nI kq)), (2, .int (nI nq))]) hx hb dX9_runAll_121 hl (by decide) rfl (fun ls hl => ?_)
            refine lv_aload_n hx hb dX9_runAll_123 rfl (lv_at hl 3 rfl) ?_
            refine va_get (D := (dC, dI)) (ci := 8) (v := .ref o3) (C := RX9) (T := TX9) (N := 35) hx hb hts inB_9 hown hK hP 2 rfl rfl 17 (by decide) (hts _ mw_3_199) (fun _ h9 => h9) rfl dX9_runAll_124 ?_
            refine lv_iload_n hx hb dX9_runAll_127 rfl (lv_at hl 2 rfl) ?_
            refine lv_dup2_11 hx hb dX9_runAll_128 rfl rfl ?_
            refine va_iald hx hb hK hP 9 8 rfl rfl (show vp_in (nI (opx - 1)) 10 from vp_in_nI (by omega) (by omega)) dX9_runAll_129 ?_
            refine hx_top (y := (fosx (opx - 1))) (congrArg _ (nI_clamp (by omega))) ?_
            refine hx_top (y := (nI d9)) e5 ?_
            refine lv_iconst (v := 1) hx hb dX9_runAll_130 (by decide) ?_
            refine lv_iadd hx hb dX9_runAll_131 ?_
            refine hx_top (y := (nI (d9 + 1))) (nI_add d9 1) ?_
            refine va_iast hx hb hK hP hD hS 9 8 rfl rfl (show vp_in (nI (opx - 1)) 10 from vp_in_nI (by omega) (by omega)) dX9_runAll_132 (fun H locs hP hD hS => ?_)
            obtain ⟨f_23, ef_23⟩ : ∃ g : Nat → Int32, g = upd fosx (Int32.toNatClampNeg (nI (opx - 1))) (nI (d9 + 1)) := ⟨_, rfl⟩
            rw [← ef_23] at hP hD
            have ef_23 : f_23 = upd fosx (opx - 1) (nI (d9 + 1)) := by rw [ef_23, nI_clamp (by omega)]
            have hP : va_P (dC, dI) vwCl [(o4, .inl (ko4, 40, .inl fsdx)), (v1, .inl (kv1, 972, .inl fsg)), (h0, .inr (8, [w0, w1, w2, w3, .int (nI kn), .ref l4, .ref l1, w7, w8, w9, w10, w11, .ref v1, .ref v2, .ref nm0, .ref o1, .ref o2, .ref o3, .int (nI opx), .int (nI wkx), .ref o4, .int (nI sdx), .int enx, w23, w24, w25, w26, w27, w28, w29, w30, w31, w32, w33, w34])), (l1, .inl (kl1, 10, .inl fll)), (l4, .inl (kl4, 100, .inl fln)), (nm0, .inl (knm0, 10, .inl fnm)), (v2, .inl (kv2, 81, .inl fsm)), (o1, .inl (ko1, 10, .inl fopx)), (o2, .inl (ko2, 10, .inl fonx)), (o3, .inl (ko3, 10, .inl f_23))] H := hP
            have hD : va_D A [(o4, .inl (ko4, 40, .inl fsdx)), (v1, .inl (kv1, 972, .inl fsg)), (h0, .inr (8, [w0, w1, w2, w3, .int (nI kn), .ref l4, .ref l1, w7, w8, w9, w10, w11, .ref v1, .ref v2, .ref nm0, .ref o1, .ref o2, .ref o3, .int (nI opx), .int (nI wkx), .ref o4, .int (nI sdx), .int enx, w23, w24, w25, w26, w27, w28, w29, w30, w31, w32, w33, w34])), (l1, .inl (kl1, 10, .inl fll)), (l4, .inl (kl4, 100, .inl fln)), (nm0, .inl (knm0, 10, .inl fnm)), (v2, .inl (kv2, 81, .inl fsm)), (o1, .inl (ko1, 10, .inl fopx)), (o2, .inl (ko2, 10, .inl fonx)), (o3, .inl (ko3, 10, .inl f_23))] := hD
            refine lv_aload_n hx hb dX9_runAll_133 rfl (lv_at hl 3 rfl) ?_
            refine lv_iload_n hx hb dX9_runAll_134 rfl (lv_at hl 4 rfl) ?_
            refine lv_iload hx hb dX9_runAll_135 (lv_at hl 0 rfl) ?_
            refine lv_iload_n hx hb dX9_runAll_137 rfl (lv_at hl 2 rfl) ?_
            have hPc := hP.sub (ws' := [(h0, .inr (8, [w0, w1, w2, w3, .int (nI kn), .ref l4, .ref l1, w7, w8, w9, w10, w11, .ref v1, .ref v2, .ref nm0, .ref o1, .ref o2, .ref o3, .int (nI opx), .int (nI wkx), .ref o4, .int (nI sdx), .int enx, w23, w24, w25, w26, w27, w28, w29, w30, w31, w32, w33, w34])), (l1, .inl (kl1, 10, .inl fll)), (l4, .inl (kl4, 100, .inl fln)), (nm0, .inl (knm0, 10, .inl fnm)), (v2, .inl (kv2, 81, .inl fsm)), (o1, .inl (ko1, 10, .inl fopx)), (o2, .inl (ko2, 10, .inl fonx)), (o3, .inl (ko3, 10, .inl f_23)), (o4, .inl (ko4, 40, .inl fsdx))]) [2, 3, 4, 5, 6, 7, 8, 9, 0] rfl
            have hDc := hD.sub (ws' := [(h0, .inr (8, [w0, w1, w2, w3, .int (nI kn), .ref l4, .ref l1, w7, w8, w9, w10, w11, .ref v1, .ref v2, .ref nm0, .ref o1, .ref o2, .ref o3, .int (nI opx), .int (nI wkx), .ref o4, .int (nI sdx), .int enx, w23, w24, w25, w26, w27, w28, w29, w30, w31, w32, w33, w34])), (l1, .inl (kl1, 10, .inl fll)), (l4, .inl (kl4, 100, .inl fln)), (nm0, .inl (knm0, 10, .inl fnm)), (v2, .inl (kv2, 81, .inl fsm)), (o1, .inl (ko1, 10, .inl fopx)), (o2, .inl (ko2, 10, .inl fonx)), (o3, .inl (ko3, 10, .inl f_23)), (o4, .inl (ko4, 40, .inl fsdx))]) [2, 3, 4, 5, 6, 7, 8, 9, 0] (by decide) rfl
            have hKc := hK.sub (tys' := [(kl1, .int), (kl4, .int), (knm0, .int), (kv2, .int), (ko1, .int), (ko2, .int), (ko3, .int), (ko4, .int)]) [2, 3, 4, 5, 6, 7, 8, 0] rfl
            have hFc := va_free (wc := [(h0, .inr (8, [w0, w1, w2, w3, .int (nI kn), .ref l4, .ref l1, w7, w8, w9, w10, w11, .ref v1, .ref v2, .ref nm0, .ref o1, .ref o2, .ref o3, .int (nI opx), .int (nI wkx), .ref o4, .int (nI sdx), .int enx, w23, w24, w25, w26, w27, w28, w29, w30, w31, w32, w33, w34])), (l1, .inl (kl1, 10, .inl fll)), (l4, .inl (kl4, 100, .inl fln)), (nm0, .inl (knm0, 10, .inl fnm)), (v2, .inl (kv2, 81, .inl fsm)), (o1, .inl (ko1, 10, .inl fopx)), (o2, .inl (ko2, 10, .inl fonx)), (o3, .inl (ko3, 10, .inl f_23)), (o4, .inl (ko4, 40, .inl fsdx))]) hD hS hA [2, 3, 4, 5, 6, 7, 8, 9, 0] rfl
            refine va_callv (va_runV (As := [.int (nI kq), .int (fsg ((12 * (8 * q9 + b9)) + d9)), .int (nI (opx - 1))]) (rest := []) ⟨hx, hb, hml, hown, hts⟩ (m_work l dC dI H.size h0 (w0) (w1) (w2) (w3) kn l4 l1 (w7) (w8) (w9) (w10) (w11) (.ref v1) v2 nm0 o1 o2 o3 opx wkx o4 sdx enx (w23) (w24) (w25) (w26) (w27) (w28) (w29) (w30) (w31) (w32) (w33) (w34) kl1 fll kl4 fln knm0 fnm kv2 fsm ko1 fopx ko2 fonx ko3 f_23 ko4 fsdx kq (fsg ((12 * (8 * q9 + b9)) + d9)) (opx - 1) fsg hkn hll hln hkq hopx hwkx (by have q8 := os_use (op := opx - 1) (by rw [show opx - 1 + 1 = opx from (by omega)]; exact hosx) e1 h2 e3 h4 h6 h7 en_20 (by omega) (by omega) ef_23; rw [show opx - 1 + 1 = opx from (by omega)] at q8; exact q8) hsdx (by omega) (by exact hcv (8 * q9 + b9) (by omega) d9 (by rw [en_20, nI_clamp (by omega)]; omega)) c_17) (cwV 3 hts (gV mw_4_159 mw_4_161 mw_0_25 mw_1_9 mw_4_162) rfl rfl rfl (by decide +kernel) ⟨Nat.le_of_ble_eq_true rfl, Nat.le_of_ble_eq_true rfl⟩) ⟨pcW_blind, va_recv hKc hPc (ci := 8) (q0 := 0) rfl rfl, pcW_at hPc hKc hDc hN⟩ rfl rfl hl.1 rfl (lv_room (Nat.le_of_ble_eq_true rfl)) dX9_runAll_138 ⟨Nat.le_of_ble_eq_true rfl, Nat.le_of_ble_eq_true rfl⟩) hS (fun q _ h => hFc q h) hFc (fun u t H1 locs ht hvm hw_24 hB hz1 hk1 hS => ?_)
            obtain ⟨q_25, q_26, z_27, f_28, f_29, f_30, q_31, f_32, p_33, p_34, p_35, p_36, p_37, p_38, hP1, hK1, hD1⟩ := hB
            rw [ht] at hP1
            have hK1 := va_K.moved hvm.symm hK1
            obtain ⟨hP, hD⟩ := va_join (wr := [(v1, .inl (kv1, 972, .inl fsg))]) (w1 := [(h0, .inr (8, [w0, w1, w2, w3, .int (nI kn), .ref l4, .ref l1, w7, w8, w9, w10, w11, .ref v1, .ref v2, .ref nm0, .ref o1, .ref o2, .ref o3, .int (nI q_25), .int (nI q_26), .ref o4, .int (nI q_31), .int z_27, w23, w24, w25, w26, w27, w28, w29, w30, w31, w32, w33, w34])), (l1, .inl (kl1, 10, .inl fll)), (l4, .inl (kl4, 100, .inl fln)), (nm0, .inl (knm0, 10, .inl fnm)), (v2, .inl (kv2, 81, .inl fsm)), (o1, .inl (ko1, 10, .inl f_28)), (o2, .inl (ko2, 10, .inl f_29)), (o3, .inl (ko3, 10, .inl f_30)), (o4, .inl (ko4, 40, .inl f_32))]) hP hD [2, 3, 4, 5, 6, 7, 8, 9, 0] [1] rfl rfl (by decide) (by decide) hk1 hFc hP1 hD1
            have hK := (hK.sub (tys' := [(kv1, .int)]) [1] rfl).app hK1
            clear hz1 hk1 hPc hDc hKc hFc
            generalize H1 = H at hP hS ⊢
            have hK : va_K (dC, dI) vwCl [(kv1, .int), (kl1, .int), (kl4, .int), (knm0, .int), (kv2, .int), (ko1, .int), (ko2, .int), (ko3, .int), (ko4, .int)] s := hK
            have hP : va_P (dC, dI) vwCl [(v1, .inl (kv1, 972, .inl fsg)), (h0, .inr (8, [w0, w1, w2, w3, .int (nI kn), .ref l4, .ref l1, w7, w8, w9, w10, w11, .ref v1, .ref v2, .ref nm0, .ref o1, .ref o2, .ref o3, .int (nI q_25), .int (nI q_26), .ref o4, .int (nI q_31), .int z_27, w23, w24, w25, w26, w27, w28, w29, w30, w31, w32, w33, w34])), (l1, .inl (kl1, 10, .inl fll)), (l4, .inl (kl4, 100, .inl fln)), (nm0, .inl (knm0, 10, .inl fnm)), (v2, .inl (kv2, 81, .inl fsm)), (o1, .inl (ko1, 10, .inl f_28)), (o2, .inl (ko2, 10, .inl f_29)), (o3, .inl (ko3, 10, .inl f_30)), (o4, .inl (ko4, 40, .inl f_32))] H := hP
            have hD : va_D A [(v1, .inl (kv1, 972, .inl fsg)), (h0, .inr (8, [w0, w1, w2, w3, .int (nI kn), .ref l4, .ref l1, w7, w8, w9, w10, w11, .ref v1, .ref v2, .ref nm0, .ref o1, .ref o2, .ref o3, .int (nI q_25), .int (nI q_26), .ref o4, .int (nI q_31), .int z_27, w23, w24, w25, w26, w27, w28, w29, w30, w31, w32, w33, w34])), (l1, .inl (kl1, 10, .inl fll)), (l4, .inl (kl4, 100, .inl fln)), (nm0, .inl (knm0, 10, .inl fnm)), (v2, .inl (kv2, 81, .inl fsm)), (o1, .inl (ko1, 10, .inl f_28)), (o2, .inl (ko2, 10, .inl f_29)), (o3, .inl (ko3, 10, .inl f_30)), (o4, .inl (ko4, 40, .inl f_32))] := hD
            refine lv_goto (tgt := 27) hx hb dX9_runAll_141 (by decide) ?_
            exact ih_14 q_25 q_26 z_27 f_28 f_29 f_30 q_31 f_32 p_33 p_34 p_35 p_37 (fe_tr p_38 (by have q8 := fin_use (fll := fll) (fnm := fnm) (fsm := fsm) (fsg := fsg) (j := opx - 1) (r := (enx, wkx, sdx, fsdx)) c_17 e1 e3 e5 h7 (by omega) (by omega) (by omega) (by omega) (by rw [en_20, nI_clamp (by omega)]; omega) ef_23; rw [show opx - 1 + 1 = opx from (by omega), show 8 - (opx - 1) = 9 - opx from (by omega)] at q8; rw [e1, e3, nI_clamp (by omega), nI_clamp (by omega)]; rw [← q8]; exact hfe)) (by have q8 := mu_use (wk := wkx) (op := opx - 1) e5 (by omega) ef_23; rw [show opx - 1 + 1 = opx from (by omega)] at q8; omega) _ _ (hP.sub (ws' := [(o4, .inl (ko4, 40, .inl f_32)), (v1, .inl (kv1, 972, .inl fsg)), (h0, .inr (8, [w0, w1, w2, w3, .int (nI kn), .ref l4, .ref l1, w7, w8, w9, w10, w11, .ref v1, .ref v2, .ref nm0, .ref o1, .ref o2, .ref o3, .int (nI q_25), .int (nI q_26), .ref o4, .int (nI q_31), .int z_27, w23, w24, w25, w26, w27, w28, w29, w30, w31, w32, w33, w34])), (l1, .inl (kl1, 10, .inl fll)), (l4, .inl (kl4, 100, .inl fln)), (nm0, .inl (knm0, 10, .inl fnm)), (v2, .inl (kv2, 81, .inl fsm)), (o1, .inl (ko1, 10, .inl f_28)), (o2, .inl (ko2, 10, .inl f_29)), (o3, .inl (ko3, 10, .inl f_30))]) [9, 0, 1, 2, 3, 4, 5, 6, 7, 8] rfl) (hD.sub (ws' := [(o4, .inl (ko4, 40, .inl f_32)), (v1, .inl (kv1, 972, .inl fsg)), (h0, .inr (8, [w0, w1, w2, w3, .int (nI kn), .ref l4, .ref l1, w7, w8, w9, w10, w11, .ref v1, .ref v2, .ref nm0, .ref o1, .ref o2, .ref o3, .int (nI q_25), .int (nI q_26), .ref o4, .int (nI q_31), .int z_27, w23, w24, w25, w26, w27, w28, w29, w30, w31, w32, w33, w34])), (l1, .inl (kl1, 10, .inl fll)), (l4, .inl (kl4, 100, .inl fln)), (nm0, .inl (knm0, 10, .inl fnm)), (v2, .inl (kv2, 81, .inl fsm)), (o1, .inl (ko1, 10, .inl f_28)), (o2, .inl (ko2, 10, .inl f_29)), (o3, .inl (ko3, 10, .inl f_30))]) [9, 0, 1, 2, 3, 4, 5, 6, 7, 8] (by decide) rfl) hS ls (lv_sub hl [3, 4, 5] rfl)
          · have b_22 := gn_ne (X := ((d9 : Nat) : Int)) (C := ((n_20 : Nat) : Int)) (nI_toInt (by omega)) (nI_toInt (by omega)) c_21
            refine lv_aload_n hx hb dX9_runAll_91 rfl (lv_at hl 2 rfl) ?_
            refine lv_dup hx hb dX9_runAll_92 rfl ?_
            refine va_get (D := (dC, dI)) (ci := 8) (v := .int (nI opx)) (C := RX9) (T := TX9) (N := 35) hx hb hts inB_9 hown hK hP 2 rfl rfl 18 (by decide) (hts _ mw_3_200) (fun _ h9 => h9) rfl dX9_runAll_93 ?_
            refine lv_iconst (v := 1) hx hb dX9_runAll_96 (by decide) ?_
            refine lv_isub hx hb dX9_runAll_97 ?_
            refine hx_top (y := (nI (opx - 1))) (pk_sub (a := opx) (b := 1) (by omega)) ?_
            refine va_put (D := (dC, dI)) (ci := 8) (v := .int (nI (opx - 1))) (ty := .int) (C := RX9) (T := TX9) (N := 35) hx hb hts inB_9 tyX9 tyX9_ok nmX9 hown hK hP hD hS 2 rfl rfl 18 (by decide) (hts _ mw_3_200) (fun _ h9 => h9) rfl (by decide +kernel) rfl rfl (Nat.le_of_ble_eq_true rfl) dX9_runAll_98 (fun H locs hP hD hS => ?_)
            have hP : va_P (dC, dI) vwCl [(o4, .inl (ko4, 40, .inl fsdx)), (v1, .inl (kv1, 972, .inl fsg)), (h0, .inr (8, [w0, w1, w2, w3, .int (nI kn), .ref l4, .ref l1, w7, w8, w9, w10, w11, .ref v1, .ref v2, .ref nm0, .ref o1, .ref o2, .ref o3, .int (nI (opx - 1)), .int (nI wkx), .ref o4, .int (nI sdx), .int enx, w23, w24, w25, w26, w27, w28, w29, w30, w31, w32, w33, w34])), (l1, .inl (kl1, 10, .inl fll)), (l4, .inl (kl4, 100, .inl fln)), (nm0, .inl (knm0, 10, .inl fnm)), (v2, .inl (kv2, 81, .inl fsm)), (o1, .inl (ko1, 10, .inl fopx)), (o2, .inl (ko2, 10, .inl fonx)), (o3, .inl (ko3, 10, .inl fosx))] H := hP
            have hD : va_D A [(o4, .inl (ko4, 40, .inl fsdx)), (v1, .inl (kv1, 972, .inl fsg)), (h0, .inr (8, [w0, w1, w2, w3, .int (nI kn), .ref l4, .ref l1, w7, w8, w9, w10, w11, .ref v1, .ref v2, .ref nm0, .ref o1, .ref o2, .ref o3, .int (nI (opx - 1)), .int (nI wkx), .ref o4, .int (nI sdx), .int enx, w23, w24, w25, w26, w27, w28, w29, w30, w31, w32, w33, w34])), (l1, .inl (kl1, 10, .inl fll)), (l4, .inl (kl4, 100, .inl fln)), (nm0, .inl (knm0, 10, .inl fnm)), (v2, .inl (kv2, 81, .inl fsm)), (o1, .inl (ko1, 10, .inl fopx)), (o2, .inl (ko2, 10, .inl fonx)), (o3, .inl (ko3, 10, .inl fosx))] := hD
            refine lv_goto (tgt := 141) hx hb dX9_runAll_101 (by decide) ?_
            refine lv_goto (tgt := 27) hx hb dX9_runAll_141 (by decide) ?_
            exact ih_14 (opx - 1) wkx enx fopx fonx fosx sdx fsdx (by omega) hwkx (os_sub hosx (by omega)) hsdx (by have q8 := fin_pop (fll := fll) (fnm := fnm) (fsm := fsm) (fsg := fsg) (j := opx - 1) (r := (enx, wkx, sdx, fsdx)) e1 e3 e5 h7 (by omega) (by omega) (by omega) (by omega) (by rw [en_20, nI_clamp (by omega)]; omega); rw [show opx - 1 + 1 = opx from (by omega)] at q8; rw [← q8]; exact hfe) (by have q8 := mu_pop (wk := wkx) (op := opx - 1) e5 h9; rw [show opx - 1 + 1 = opx from (by omega)] at q8; omega) _ _ hP hD hS ls (lv_sub hl [2, 3, 4] rfl)
  exact key_13 ((rMu q_3 f_7 q_2) + 1) q_2 q_3 z_4 f_5 f_6 f_7 0 fsd p_8 p_9 p_10 (by omega) (p_12 0 fsd) (Nat.lt_succ_self _) _ _ hP hD hS ls (lv_sub hl [0, 1, 2] rfl)
set_option maxHeartbeats 4000000 in
set_option maxRecDepth 100000 in
theorem m_run (l : Launch) (dC : Nat → ClassId) (dI : Nat → Nat → Nat) (sz : Nat) (h0 : Nat) (w0 : Value) (w1 : Value) (w2 : Value) (w3 : Value) (kn : Nat) (l4 : Nat) (l1 : Nat) (w7 : Value) (w8 : Value) (w9 : Value) (w10 : Value) (w11 : Value) (v1 : Nat) (v2 : Nat) (nm0 : Nat) (o1 : Nat) (o2 : Nat) (o3 : Nat) (op0 : Int32) (wk0 : Int32) (o4 : Nat) (sd0 : Int32) (en : Int32) (w23 : Value) (w24 : Value) (w25 : Value) (w26 : Value) (w27 : Value) (w28 : Value) (w29 : Value) (w30 : Value) (w31 : Value) (w32 : Value) (w33 : Value) (w34 : Value) (kl1 : ClassId) (fll : Nat → Int32) (kl4 : ClassId) (fln : Nat → Int32) (knm0 : ClassId) (fnm : Nat → Int32) (kv2 : ClassId) (fsm : Nat → Int32) (ko1 : ClassId) (fop : Nat → Int32) (ko2 : ClassId) (fon : Nat → Int32) (ko3 : ClassId) (fos : Nat → Int32) (ko4 : ClassId) (fsd : Nat → Int32) (kv1 : ClassId) (fsg : Nat → Int32) (n1 : Int32) (n2 : Int32) (n3 : Int32) (hkn : kn ≤ 10) (hll : BdOk 10 10 fll) (hln : LnOk fll fln kn) (hsm : BdOk 81 12 fsm) (hcv : CvOk fsm fsg) : Met l yX9_run (wq yX9_run cX9_run 4 (some .int)) ({ frames := 5, cells := 0, slots := 0, locals := 119 }) (va_Pc [.ref h0, .int n1, .int n2, .int n3] (pcW dC dI [(kl1, .int), (kl4, .int), (knm0, .int), (kv2, .int), (ko1, .int), (ko2, .int), (ko3, .int), (ko4, .int), (kv1, .int)] [(h0, .inr (8, [w0, w1, w2, w3, .int (nI kn), .ref l4, .ref l1, w7, w8, w9, w10, w11, .ref v1, .ref v2, .ref nm0, .ref o1, .ref o2, .ref o3, .int op0, .int wk0, .ref o4, .int sd0, .int en, w23, w24, w25, w26, w27, w28, w29, w30, w31, w32, w33, w34])), (l1, .inl (kl1, 10, .inl fll)), (l4, .inl (kl4, 100, .inl fln)), (nm0, .inl (knm0, 10, .inl fnm)), (v2, .inl (kv2, 81, .inl fsm)), (o1, .inl (ko1, 10, .inl fop)), (o2, .inl (ko2, 10, .inl fon)), (o3, .inl (ko3, 10, .inl fos)), (o4, .inl (ko4, 40, .inl fsd)), (v1, .inl (kv1, 972, .inl fsg))] sz)) (va_Qi (fun (r : Int32) (_ : Unit) => r = F_run kn (fll n1.toNatClampNeg).toNatClampNeg (wdM fll fln fnm fsm fsg n1.toNatClampNeg 9 n2.toNatClampNeg 0 (0, 0, fsd)).1 (wdM fll fln fnm fsm fsg n1.toNatClampNeg 9 n2.toNatClampNeg 0 (0, 0, fsd)).2.2.1 (wdM fll fln fnm fsm fsg n1.toNatClampNeg 9 n2.toNatClampNeg 0 (0, 0, fsd)).2.2.2 n1 n2 n3) (fun _ t => ∃ (op2 : Int32) (wk2 : Int32) (en2 : Int32) (fop2 : Nat → Int32) (fon2 : Nat → Int32) (fos2 : Nat → Int32) (sd2 : Int32) (fsd2 : Nat → Int32), va_P (dC, dI) vwCl [(h0, .inr (8, [w0, w1, w2, w3, .int (nI kn), .ref l4, .ref l1, w7, w8, w9, w10, w11, .ref v1, .ref v2, .ref nm0, .ref o1, .ref o2, .ref o3, .int op2, .int wk2, .ref o4, .int sd2, .int en2, w23, w24, w25, w26, w27, w28, w29, w30, w31, w32, w33, w34])), (l1, .inl (kl1, 10, .inl fll)), (l4, .inl (kl4, 100, .inl fln)), (nm0, .inl (knm0, 10, .inl fnm)), (v2, .inl (kv2, 81, .inl fsm)), (o1, .inl (ko1, 10, .inl fop2)), (o2, .inl (ko2, 10, .inl fon2)), (o3, .inl (ko3, 10, .inl fos2)), (o4, .inl (ko4, 40, .inl fsd2)), (v1, .inl (kv1, 972, .inl fsg))] t.heap ∧ va_K (dC, dI) vwCl [(kl1, .int), (kl4, .int), (knm0, .int), (kv2, .int), (ko1, .int), (ko2, .int), (ko3, .int), (ko4, .int), (kv1, .int)] t ∧ va_D (va_A [(h0, .inr (8, [w0, w1, w2, w3, .int (nI kn), .ref l4, .ref l1, w7, w8, w9, w10, w11, .ref v1, .ref v2, .ref nm0, .ref o1, .ref o2, .ref o3, .int op0, .int wk0, .ref o4, .int sd0, .int en, w23, w24, w25, w26, w27, w28, w29, w30, w31, w32, w33, w34])), (l1, .inl (kl1, 10, .inl fll)), (l4, .inl (kl4, 100, .inl fln)), (nm0, .inl (knm0, 10, .inl fnm)), (v2, .inl (kv2, 81, .inl fsm)), (o1, .inl (ko1, 10, .inl fop)), (o2, .inl (ko2, 10, .inl fon)), (o3, .inl (ko3, 10, .inl fos)), (o4, .inl (ko4, 40, .inl fsd)), (v1, .inl (kv1, 972, .inl fsg))] sz) [(h0, .inr (8, [w0, w1, w2, w3, .int (nI kn), .ref l4, .ref l1, w7, w8, w9, w10, w11, .ref v1, .ref v2, .ref nm0, .ref o1, .ref o2, .ref o3, .int op2, .int wk2, .ref o4, .int sd2, .int en2, w23, w24, w25, w26, w27, w28, w29, w30, w31, w32, w33, w34])), (l1, .inl (kl1, 10, .inl fll)), (l4, .inl (kl4, 100, .inl fln)), (nm0, .inl (knm0, 10, .inl fnm)), (v2, .inl (kv2, 81, .inl fsm)), (o1, .inl (ko1, 10, .inl fop2)), (o2, .inl (ko2, 10, .inl fon2)), (o3, .inl (ko3, 10, .inl fos2)), (o4, .inl (ko4, 40, .inl fsd2)), (v1, .inl (kv1, 972, .inl fsg))]) (va_A [(h0, .inr (8, [w0, w1, w2, w3, .int (nI kn), .ref l4, .ref l1, w7, w8, w9, w10, w11, .ref v1, .ref v2, .ref nm0, .ref o1, .ref o2, .ref o3, .int op0, .int wk0, .ref o4, .int sd0, .int en, w23, w24, w25, w26, w27, w28, w29, w30, w31, w32, w33, w34])), (l1, .inl (kl1, 10, .inl fll)), (l4, .inl (kl4, 100, .inl fln)), (nm0, .inl (knm0, 10, .inl fnm)), (v2, .inl (kv2, 81, .inl fsm)), (o1, .inl (ko1, 10, .inl fop)), (o2, .inl (ko2, 10, .inl fon)), (o3, .inl (ko3, 10, .inl fos)), (o4, .inl (ko4, 40, .inl fsd)), (v1, .inl (kv1, 972, .inl fsg))] sz)) 0 0 (va_A [(h0, .inr (8, [w0, w1, w2, w3, .int (nI kn), .ref l4, .ref l1, w7, w8, w9, w10, w11, .ref v1, .ref v2, .ref nm0, .ref o1, .ref o2, .ref o3, .int op0, .int wk0, .ref o4, .int sd0, .int en, w23, w24, w25, w26, w27, w28, w29, w30, w31, w32, w33, w34])), (l1, .inl (kl1, 10, .inl fll)), (l4, .inl (kl4, 100, .inl fln)), (nm0, .inl (knm0, 10, .inl fnm)), (v2, .inl (kv2, 81, .inl fsm)), (o1, .inl (ko1, 10, .inl fop)), (o2, .inl (ko2, 10, .inl fon)), (o3, .inl (ko3, 10, .inl fos)), (o4, .inl (ko4, 40, .inl fsd)), (v1, .inl (kv1, 972, .inl fsg))] sz) := by
  refine Met.ofW (cc := cX9_run) (maxL := 4) (ret := (some .int)) (by decide) rfl ?_
  intro p e s m args below meth c s₁ B hml hv
  obtain ⟨rfl, hsz, hN, hP, hK, hD0⟩ := hv
  have hx := B.exec
  have hb := B.bytes
  have hr := B.returns
  have hts0 := atoms_spec (ws := (wq yX9_run cX9_run 4 (some .int))) B.pre
  have hts : ∀ w ∈ BG, w.before _ s = true := fun w h => hts0 w (List.mem_cons_of_mem _ h)
  have hown : s.vm.findClass RX9 = some m.cls := findClass_of_methodNamed B.named
  have hlocks := B.notSynchronized
  subst hsz
  have hD := hD0.self (sz := s.heap.size)
  generalize hAe : va_A [(h0, .inr (8, [w0, w1, w2, w3, .int (nI kn), .ref l4, .ref l1, w7, w8, w9, w10, w11, .ref v1, .ref v2, .ref nm0, .ref o1, .ref o2, .ref o3, .int op0, .int wk0, .ref o4, .int sd0, .int en, w23, w24, w25, w26, w27, w28, w29, w30, w31, w32, w33, w34])), (l1, .inl (kl1, 10, .inl fll)), (l4, .inl (kl4, 100, .inl fln)), (nm0, .inl (knm0, 10, .inl fnm)), (v2, .inl (kv2, 81, .inl fsm)), (o1, .inl (ko1, 10, .inl fop)), (o2, .inl (ko2, 10, .inl fon)), (o3, .inl (ko3, 10, .inl fos)), (o4, .inl (ko4, 40, .inl fsd)), (v1, .inl (kv1, 972, .inl fsg))] s.heap.size = A at hD ⊢
  have hA : ∀ q : Nat, s.heap.size ≤ q → A q := fun q h => by rw [← hAe]; exact Or.inr h
  have hS : va_S A s.heap s.heap [] := va_S.rf
  clear hAe hD0
  have hP : va_P (dC, dI) vwCl [(h0, .inr (8, [w0, w1, w2, w3, .int (nI kn), .ref l4, .ref l1, w7, w8, w9, w10, w11, .ref v1, .ref v2, .ref nm0, .ref o1, .ref o2, .ref o3, .int op0, .int wk0, .ref o4, .int sd0, .int en, w23, w24, w25, w26, w27, w28, w29, w30, w31, w32, w33, w34])), (l1, .inl (kl1, 10, .inl fll)), (l4, .inl (kl4, 100, .inl fln)), (nm0, .inl (knm0, 10, .inl fnm)), (v2, .inl (kv2, 81, .inl fsm)), (o1, .inl (ko1, 10, .inl fop)), (o2, .inl (ko2, 10, .inl fon)), (o3, .inl (ko3, 10, .inl fos)), (o4, .inl (ko4, 40, .inl fsd)), (v1, .inl (kv1, 972, .inl fsg))] s.heap := hP
  have hl := lv_entry ([.ref h0, .int n1, .int n2, .int n3]) (n := 4) (Nat.le_of_ble_eq_true rfl)
  rw [lg_entry_eq]
  generalize (lg_sl ([.ref h0, .int n1, .int n2, .int n3]) ++ List.replicate (4 - (lg_sl ([.ref h0, .int n1, .int n2, .int n3])).length) Slot.unset).toArray = ls at hl ⊢
  have hl : lv_has ls 4 [(0, .ref h0), (1, .int n1), (2, .int n2), (3, .int n3)] := hl
  refine lv_aload_n hx hb dX9_run_0 rfl (lv_at hl 0 rfl) ?_
  refine lv_iload_n hx hb dX9_run_1 rfl (lv_at hl 1 rfl) ?_
  have hPc := hP.sub (ws' := [(h0, .inr (8, [w0, w1, w2, w3, .int (nI kn), .ref l4, .ref l1, w7, w8, w9, w10, w11, .ref v1, .ref v2, .ref nm0, .ref o1, .ref o2, .ref o3, .int op0, .int wk0, .ref o4, .int sd0, .int en, w23, w24, w25, w26, w27, w28, w29, w30, w31, w32, w33, w34]))]) [0] rfl
  have hDc := hD.sub (ws' := [(h0, .inr (8, [w0, w1, w2, w3, .int (nI kn), .ref l4, .ref l1, w7, w8, w9, w10, w11, .ref v1, .ref v2, .ref nm0, .ref o1, .ref o2, .ref o3, .int op0, .int wk0, .ref o4, .int sd0, .int en, w23, w24, w25, w26, w27, w28, w29, w30, w31, w32, w33, w34]))]) [0] (by decide) rfl
  have hKc := hK.sub (tys' := []) [] rfl
  refine va_calli (va_runV (As := [.int n1]) (rest := []) ⟨hx, hb, hml, hown, hts⟩ (m_isKind l dC dI s.heap.size h0 (w0) (w1) (w2) (w3) kn (.ref l4) (.ref l1) (w7) (w8) (w9) (w10) (w11) (.ref v1) (.ref v2) (.ref nm0) (.ref o1) (.ref o2) (.ref o3) (.int op0) (.int wk0) (.ref o4) (.int sd0) (.int en) (w23) (w24) (w25) (w26) (w27) (w28) (w29) (w30) (w31) (w32) (w33) (w34) n1 hkn) (cwV 1 hts (gV mw_4_53 mw_4_55 mw_0_15 mw_1_9 mw_4_56) rfl rfl rfl (by decide +kernel) ⟨Nat.le_of_ble_eq_true rfl, Nat.le_of_ble_eq_true rfl⟩) ⟨pcW_blind, va_recv hKc hPc (ci := 8) (q0 := 0) rfl rfl, pcW_at hPc hKc hDc hN⟩ rfl rfl hl.1 rfl (lv_room (Nat.le_of_ble_eq_true rfl)) dX9_run_2 ⟨Nat.le_of_ble_eq_true rfl, Nat.le_of_ble_eq_true rfl⟩) hS (fun q h1 h2 => absurd h2 (Nat.not_le.mpr h1)) (fun q h => hA q (Nat.le_trans hS.1 h)) (fun r_1 u t H1 locs ht hvm hw_1 hB hz1 hk1 hS => ?_)
  have hP := keepP hP hk1
  clear hz1 hk1 hB ht hvm hPc hDc hKc
  generalize H1 = H at hP hS ⊢
  rcases fx_bool hw_1 with ⟨rfl, b_2⟩ | ⟨rfl, b_2⟩
  · skip
    refine lv_if_eq (tgt := 15) hx hb dX9_run_5 (by decide) (fun h => absurd h (by decide)) (fun _ => ?_)
    refine lv_iload_n hx hb dX9_run_8 rfl (lv_at hl 2 rfl) ?_
    have hPc := hP.sub (ws' := []) [] rfl
    have hDc := hD.sub (ws' := []) [] (by decide) rfl
    have hKc := hK.sub (tys' := []) [] rfl
    refine va_calli (va_runS (As := [.int n2]) (rest := []) ⟨hx, hb, hml, hown, hts⟩ (m_isName l dC dI H.size n2 ) (va_cwS 1 hts (gS mw_4_115 mw_4_116 mw_1_9 mw_4_117) rfl rfl rfl (by decide +kernel) ⟨Nat.le_of_ble_eq_true rfl, Nat.le_of_ble_eq_true rfl⟩) ⟨pcW_blind, pcW_at hPc hKc hDc hN⟩ rfl rfl hl.1 rfl (lv_room (Nat.le_of_ble_eq_true rfl)) dX9_run_9 ⟨Nat.le_of_ble_eq_true rfl, Nat.le_of_ble_eq_true rfl⟩) hS (fun q h1 h2 => absurd h2 (Nat.not_le.mpr h1)) (fun q h => hA q (Nat.le_trans hS.1 h)) (fun r_3 u t H1 locs ht hvm hw_3 hB hz1 hk1 hS => ?_)
    have hP := keepP hP hk1
    clear hz1 hk1 hB ht hvm hPc hDc hKc
    generalize H1 = H at hP hS ⊢
    rcases fx_bool hw_3 with ⟨rfl, b_4⟩ | ⟨rfl, b_4⟩
    · skip
      refine lv_if_ne (tgt := 17) hx hb dX9_run_12 (by decide) (fun _ => ?_) (fun h => absurd h (by decide))
      obtain ⟨j_5, tj_5, ej_5⟩ := fx_nat (x := n1) (by omega)
      subst ej_5
      have yj_5 : Int32.toInt (nI j_5) = (j_5 : Int) := nI_toInt tj_5
      obtain ⟨j_6, tj_6, ej_6⟩ := fx_nat (x := n2) (by omega)
      subst ej_6
      have yj_6 : Int32.toInt (nI j_6) = (j_6 : Int) := nI_toInt tj_6
      refine lv_aload_n hx hb dX9_run_17 rfl (lv_at hl 0 rfl) ?_
      refine va_get (D := (dC, dI)) (ci := 8) (v := .ref l1) (C := RX9) (T := TX9) (N := 35) hx hb hts inB_9 hown hK hP 0 rfl rfl 6 (by decide) (hts _ mw_3_188) (fun _ h9 => h9) rfl dX9_run_18 ?_
      refine lv_iload_n hx hb dX9_run_21 rfl (lv_at hl 1 rfl) ?_
      refine va_iald hx hb hK hP 1 0 rfl rfl (show vp_in (nI j_5) 10 from vp_in_nI (by omega) (by omega)) dX9_run_22 ?_
      refine hx_top (y := (fll j_5)) (congrArg _ (nI_clamp (by omega))) ?_
      obtain ⟨n_7, hn_7, en_7⟩ := hll j_5 (by omega)
      refine hx_top (y := (nI n_7)) en_7 ?_
      refine lv_if_ne (tgt := 29) hx hb dX9_run_23 (by decide) (fun c_8 => ?_) (fun c_8 => ?_)
      · have b_9 := gx_ne (X := ((n_7 : Nat) : Int)) (C := 0) (nI_toInt (by omega)) (by decide) c_8
        refine lv_aload_n hx hb dX9_run_29 rfl (lv_at hl 0 rfl) ?_
        refine lv_iload_n hx hb dX9_run_30 rfl (lv_at hl 1 rfl) ?_
        refine lv_iload_n hx hb dX9_run_31 rfl (lv_at hl 2 rfl) ?_
        have hPc := hP.sub (ws' := [(h0, .inr (8, [w0, w1, w2, w3, .int (nI kn), .ref l4, .ref l1, w7, w8, w9, w10, w11, .ref v1, .ref v2, .ref nm0, .ref o1, .ref o2, .ref o3, .int op0, .int wk0, .ref o4, .int sd0, .int en, w23, w24, w25, w26, w27, w28, w29, w30, w31, w32, w33, w34])), (l1, .inl (kl1, 10, .inl fll)), (l4, .inl (kl4, 100, .inl fln)), (nm0, .inl (knm0, 10, .inl fnm)), (v2, .inl (kv2, 81, .inl fsm)), (o1, .inl (ko1, 10, .inl fop)), (o2, .inl (ko2, 10, .inl fon)), (o3, .inl (ko3, 10, .inl fos)), (o4, .inl (ko4, 40, .inl fsd)), (v1, .inl (kv1, 972, .inl fsg))]) [0, 1, 2, 3, 4, 5, 6, 7, 8, 9] rfl
        have hDc := hD.sub (ws' := [(h0, .inr (8, [w0, w1, w2, w3, .int (nI kn), .ref l4, .ref l1, w7, w8, w9, w10, w11, .ref v1, .ref v2, .ref nm0, .ref o1, .ref o2, .ref o3, .int op0, .int wk0, .ref o4, .int sd0, .int en, w23, w24, w25, w26, w27, w28, w29, w30, w31, w32, w33, w34])), (l1, .inl (kl1, 10, .inl fll)), (l4, .inl (kl4, 100, .inl fln)), (nm0, .inl (knm0, 10, .inl fnm)), (v2, .inl (kv2, 81, .inl fsm)), (o1, .inl (ko1, 10, .inl fop)), (o2, .inl (ko2, 10, .inl fon)), (o3, .inl (ko3, 10, .inl fos)), (o4, .inl (ko4, 40, .inl fsd)), (v1, .inl (kv1, 972, .inl fsg))]) [0, 1, 2, 3, 4, 5, 6, 7, 8, 9] (by decide) rfl
        have hKc := hK.sub (tys' := [(kl1, .int), (kl4, .int), (knm0, .int), (kv2, .int), (ko1, .int), (ko2, .int), (ko3, .int), (ko4, .int), (kv1, .int)]) [0, 1, 2, 3, 4, 5, 6, 7, 8] rfl
        have hFc := va_free (wc := [(h0, .inr (8, [w0, w1, w2, w3, .int (nI kn), .ref l4, .ref l1, w7, w8, w9, w10, w11, .ref v1, .ref v2, .ref nm0, .ref o1, .ref o2, .ref o3, .int op0, .int wk0, .ref o4, .int sd0, .int en, w23, w24, w25, w26, w27, w28, w29, w30, w31, w32, w33, w34])), (l1, .inl (kl1, 10, .inl fll)), (l4, .inl (kl4, 100, .inl fln)), (nm0, .inl (knm0, 10, .inl fnm)), (v2, .inl (kv2, 81, .inl fsm)), (o1, .inl (ko1, 10, .inl fop)), (o2, .inl (ko2, 10, .inl fon)), (o3, .inl (ko3, 10, .inl fos)), (o4, .inl (ko4, 40, .inl fsd)), (v1, .inl (kv1, 972, .inl fsg))]) hD hS hA [0, 1, 2, 3, 4, 5, 6, 7, 8, 9] rfl
        refine va_callv (va_runV (As := [.int (nI j_5), .int (nI j_6)]) (rest := []) ⟨hx, hb, hml, hown, hts⟩ (m_runAll l dC dI H.size h0 (w0) (w1) (w2) (w3) kn l4 l1 (w7) (w8) (w9) (w10) (w11) v1 v2 nm0 o1 o2 o3 op0 wk0 o4 sd0 en (w23) (w24) (w25) (w26) (w27) (w28) (w29) (w30) (w31) (w32) (w33) (w34) kl1 fll kl4 fln knm0 fnm kv2 fsm ko1 fop ko2 fon ko3 fos ko4 fsd kv1 fsg j_5 j_6 hkn hll hln (by omega) (by omega) hsm hcv) (cwV 2 hts (gV mw_4_151 mw_4_153 mw_0_23 mw_1_9 mw_4_154) rfl rfl rfl (by decide +kernel) ⟨Nat.le_of_ble_eq_true rfl, Nat.le_of_ble_eq_true rfl⟩) ⟨pcW_blind, va_recv hKc hPc (ci := 8) (q0 := 0) rfl rfl, pcW_at hPc hKc hDc hN⟩ rfl rfl hl.1 rfl (lv_room (Nat.le_of_ble_eq_true rfl)) dX9_run_32 ⟨Nat.le_of_ble_eq_true rfl, Nat.le_of_ble_eq_true rfl⟩) hS (fun q _ h => hFc q h) hFc (fun u t H1 locs ht hvm hw_10 hB hz1 hk1 hS => ?_)
        obtain ⟨q_11, q_12, z_13, f_14, f_15, f_16, q_17, f_18, p_19, p_20, hP1, hK1, hD1⟩ := hB
        rw [ht] at hP1
        have hK1 := va_K.moved hvm.symm hK1
        obtain ⟨hP, hD⟩ := va_join (wr := []) (w1 := [(h0, .inr (8, [w0, w1, w2, w3, .int (nI kn), .ref l4, .ref l1, w7, w8, w9, w10, w11, .ref v1, .ref v2, .ref nm0, .ref o1, .ref o2, .ref o3, .int (nI q_11), .int (nI q_12), .ref o4, .int (nI q_17), .int z_13, w23, w24, w25, w26, w27, w28, w29, w30, w31, w32, w33, w34])), (l1, .inl (kl1, 10, .inl fll)), (l4, .inl (kl4, 100, .inl fln)), (nm0, .inl (knm0, 10, .inl fnm)), (v2, .inl (kv2, 81, .inl fsm)), (o1, .inl (ko1, 10, .inl f_14)), (o2, .inl (ko2, 10, .inl f_15)), (o3, .inl (ko3, 10, .inl f_16)), (o4, .inl (ko4, 40, .inl f_18)), (v1, .inl (kv1, 972, .inl fsg))]) hP hD [0, 1, 2, 3, 4, 5, 6, 7, 8, 9] [] rfl rfl (by decide) (by decide) hk1 hFc hP1 hD1
        have hK := (hK.sub (tys' := []) [] rfl).app hK1
        clear hz1 hk1 hPc hDc hKc hFc
        generalize H1 = H at hP hS ⊢
        have hK : va_K (dC, dI) vwCl [(kl1, .int), (kl4, .int), (knm0, .int), (kv2, .int), (ko1, .int), (ko2, .int), (ko3, .int), (ko4, .int), (kv1, .int)] s := hK
        have hP : va_P (dC, dI) vwCl [(h0, .inr (8, [w0, w1, w2, w3, .int (nI kn), .ref l4, .ref l1, w7, w8, w9, w10, w11, .ref v1, .ref v2, .ref nm0, .ref o1, .ref o2, .ref o3, .int (nI q_11), .int (nI q_12), .ref o4, .int (nI q_17), .int z_13, w23, w24, w25, w26, w27, w28, w29, w30, w31, w32, w33, w34])), (l1, .inl (kl1, 10, .inl fll)), (l4, .inl (kl4, 100, .inl fln)), (nm0, .inl (knm0, 10, .inl fnm)), (v2, .inl (kv2, 81, .inl fsm)), (o1, .inl (ko1, 10, .inl f_14)), (o2, .inl (ko2, 10, .inl f_15)), (o3, .inl (ko3, 10, .inl f_16)), (o4, .inl (ko4, 40, .inl f_18)), (v1, .inl (kv1, 972, .inl fsg))] H := hP
        have hD : va_D A [(h0, .inr (8, [w0, w1, w2, w3, .int (nI kn), .ref l4, .ref l1, w7, w8, w9, w10, w11, .ref v1, .ref v2, .ref nm0, .ref o1, .ref o2, .ref o3, .int (nI q_11), .int (nI q_12), .ref o4, .int (nI q_17), .int z_13, w23, w24, w25, w26, w27, w28, w29, w30, w31, w32, w33, w34])), (l1, .inl (kl1, 10, .inl fll)), (l4, .inl (kl4, 100, .inl fln)), (nm0, .inl (knm0, 10, .inl fnm)), (v2, .inl (kv2, 81, .inl fsm)), (o1, .inl (ko1, 10, .inl f_14)), (o2, .inl (ko2, 10, .inl f_15)), (o3, .inl (ko3, 10, .inl f_16)), (o4, .inl (ko4, 40, .inl f_18)), (v1, .inl (kv1, 972, .inl fsg))] := hD
        refine lv_iload_n hx hb dX9_run_35 rfl (lv_at hl 3 rfl) ?_
        refine lv_iconst (v := (-1)) hx hb dX9_run_36 (by decide) ?_
        refine lv_icmp_ne (tgt := 47) hx hb dX9_run_37 (by decide) (fun c_21 => ?_) (fun c_21 => ?_)
        · have b_22 := gx_ne (X := (Int32.toInt n3)) (C := (-1)) rfl (by decide) c_21
          refine lv_iload_n hx hb dX9_run_47 rfl (lv_at hl 3 rfl) ?_
          refine lv_bipush (v := (-2)) hx hb dX9_run_48 (by decide) ?_
          refine lv_icmp_ne (tgt := 60) hx hb dX9_run_50 (by decide) (fun c_23 => ?_) (fun c_23 => ?_)
          · have b_24 := gx_ne (X := (Int32.toInt n3)) (C := (-2)) rfl (by decide) c_23
            refine lv_iload_n hx hb dX9_run_60 rfl (lv_at hl 3 rfl) ?_
            refine lv_i2l hx hb dX9_run_61 rfl ?_
            refine lv_lconst (v := Int32.toInt64 0) hx hb dX9_run_62 (by decide) ?_
            refine lv_aload_n hx hb dX9_run_63 rfl (lv_at hl 0 rfl) ?_
            refine va_get (D := (dC, dI)) (ci := 8) (v := .int (nI q_17)) (C := RX9) (T := TX9) (N := 35) hx hb hts inB_9 hown hK hP 0 rfl rfl 21 (by decide) (hts _ mw_3_203) (fun _ h9 => h9) rfl dX9_run_64 ?_
            refine lv_iconst (v := 1) hx hb dX9_run_67 (by decide) ?_
            refine lv_isub hx hb dX9_run_68 ?_
            refine lv_topi (fun z_25 ez_25 => ?_)
            have fz_25 : Int32.toInt z_25 = ((q_17 : Nat) : Int) - 1 := by rw [ez_25]; exact gx_sub (X := ((q_17 : Nat) : Int)) (C := 1) (nI_toInt (by omega)) (by decide) (by omega) (by omega)
            refine lv_i2l hx hb dX9_run_69 rfl ?_
            have hPc := hP.sub (ws' := []) [] rfl
            have hDc := hD.sub (ws' := []) [] (by decide) rfl
            have hKc := hK.sub (tys' := []) [] rfl
            refine va_calli (va_runS (As := [.long (Int32.toInt64 n3), .long (Int32.toInt64 0), .long (Int32.toInt64 z_25)]) (rest := []) ⟨hx, hb, hml, hown, hts⟩ (m_in l dC dI H.size n3 0 z_25 0 (Int32.toInt z_25) (by decide) rfl) (va_cwS 3 hts (gS mw_4_57 mw_4_58 mw_1_9 mw_4_59) rfl rfl rfl (by decide +kernel) ⟨Nat.le_of_ble_eq_true rfl, Nat.le_of_ble_eq_true rfl⟩) ⟨pcW_blind, pcW_at hPc hKc hDc hN⟩ rfl rfl hl.1 rfl (lv_room (Nat.le_of_ble_eq_true rfl)) dX9_run_70 ⟨Nat.le_of_ble_eq_true rfl, Nat.le_of_ble_eq_true rfl⟩) hS (fun q h1 h2 => absurd h2 (Nat.not_le.mpr h1)) (fun q h => hA q (Nat.le_trans hS.1 h)) (fun r_26 u t H1 locs ht hvm hw_26 hB hz1 hk1 hS => ?_)
            have hP := keepP hP hk1
            clear hz1 hk1 hB ht hvm hPc hDc hKc
            generalize H1 = H at hP hS ⊢
            rcases fx_bool hw_26 with ⟨rfl, b_27⟩ | ⟨rfl, b_27⟩
            · skip
              refine lv_if_eq (tgt := 85) hx hb dX9_run_73 (by decide) (fun h => absurd h (by decide)) (fun _ => ?_)
              obtain ⟨j_28, tj_28, ej_28⟩ := fx_nat (x := n3) (by omega)
              subst ej_28
              have yj_28 : Int32.toInt (nI j_28) = (j_28 : Int) := nI_toInt tj_28
              refine lv_aload_n hx hb dX9_run_76 rfl (lv_at hl 0 rfl) ?_
              refine va_get (D := (dC, dI)) (ci := 8) (v := .ref o4) (C := RX9) (T := TX9) (N := 35) hx hb hts inB_9 hown hK hP 0 rfl rfl 20 (by decide) (hts _ mw_3_202) (fun _ h9 => h9) rfl dX9_run_77 ?_
              refine lv_iload_n hx hb dX9_run_80 rfl (lv_at hl 3 rfl) ?_
              refine va_iald hx hb hK hP 8 7 rfl rfl (show vp_in (nI j_28) 40 from vp_in_nI (by omega) (by omega)) dX9_run_81 ?_
              refine hx_top (y := (f_18 j_28)) (congrArg _ (nI_clamp (by omega))) ?_
              refine lv_goto (tgt := 87) hx hb dX9_run_82 (by decide) ?_
              have hP9 := hP.sub (ws' := [(h0, .inr (8, [w0, w1, w2, w3, .int (nI kn), .ref l4, .ref l1, w7, w8, w9, w10, w11, .ref v1, .ref v2, .ref nm0, .ref o1, .ref o2, .ref o3, .int (nI q_11), .int (nI q_12), .ref o4, .int (nI q_17), .int z_13, w23, w24, w25, w26, w27, w28, w29, w30, w31, w32, w33, w34])), (l1, .inl (kl1, 10, .inl fll)), (l4, .inl (kl4, 100, .inl fln)), (nm0, .inl (knm0, 10, .inl fnm)), (v2, .inl (kv2, 81, .inl fsm)), (o1, .inl (ko1, 10, .inl f_14)), (o2, .inl (ko2, 10, .inl f_15)), (o3, .inl (ko3, 10, .inl f_16)), (o4, .inl (ko4, 40, .inl f_18)), (v1, .inl (kv1, 972, .inl fsg))]) [0, 1, 2, 3, 4, 5, 6, 7, 8, 9] rfl
              have hD9 := hD.sub (ws' := [(h0, .inr (8, [w0, w1, w2, w3, .int (nI kn), .ref l4, .ref l1, w7, w8, w9, w10, w11, .ref v1, .ref v2, .ref nm0, .ref o1, .ref o2, .ref o3, .int (nI q_11), .int (nI q_12), .ref o4, .int (nI q_17), .int z_13, w23, w24, w25, w26, w27, w28, w29, w30, w31, w32, w33, w34])), (l1, .inl (kl1, 10, .inl fll)), (l4, .inl (kl4, 100, .inl fln)), (nm0, .inl (knm0, 10, .inl fnm)), (v2, .inl (kv2, 81, .inl fsm)), (o1, .inl (ko1, 10, .inl f_14)), (o2, .inl (ko2, 10, .inl f_15)), (o3, .inl (ko3, 10, .inl f_16)), (o4, .inl (ko4, 40, .inl f_18)), (v1, .inl (kv1, 972, .inl fsg))]) [0, 1, 2, 3, 4, 5, 6, 7, 8, 9] (by decide) rfl
              have hK9 := hK.sub (tys' := [(kl1, .int), (kl4, .int), (knm0, .int), (kv2, .int), (ko1, .int), (ko2, .int), (ko3, .int), (ko4, .int), (kv1, .int)]) [0, 1, 2, 3, 4, 5, 6, 7, 8] rfl
              exact W.iret (v := (f_18 j_28)) hx hb hr (fun t ht hW => ⟨⟨(f_18 j_28), (), rfl, (by unfold F_run; rw [if_pos (by omega), nI_clamp (by omega), nI_clamp (by omega), en_7, nI_clamp (by omega), if_neg (by omega), if_neg (by omega), if_neg (by omega)]; rw [← (show q_17 = _ from congrArg (fun x => x.1) p_20.2), ← (show f_18 = _ from congrArg (fun x => x.2) p_20.2)]; exact ((if_pos (by omega)).trans (congrArg _ (nI_clamp (by omega)))).symm), (nI q_11), (nI q_12), z_13, f_14, f_15, f_16, (nI q_17), f_18, by rw [ht]; exact hP9, va_K.moved hW.alike hK9, hD9⟩, hS.F ht⟩) hS.2.2 dX9_run_87
            · skip
              refine lv_if_eq (tgt := 85) hx hb dX9_run_73 (by decide) (fun _ => ?_) (fun h => absurd (by decide) h)
              refine lv_bipush (v := (-6)) hx hb dX9_run_85 (by decide) ?_
              have hP9 := hP.sub (ws' := [(h0, .inr (8, [w0, w1, w2, w3, .int (nI kn), .ref l4, .ref l1, w7, w8, w9, w10, w11, .ref v1, .ref v2, .ref nm0, .ref o1, .ref o2, .ref o3, .int (nI q_11), .int (nI q_12), .ref o4, .int (nI q_17), .int z_13, w23, w24, w25, w26, w27, w28, w29, w30, w31, w32, w33, w34])), (l1, .inl (kl1, 10, .inl fll)), (l4, .inl (kl4, 100, .inl fln)), (nm0, .inl (knm0, 10, .inl fnm)), (v2, .inl (kv2, 81, .inl fsm)), (o1, .inl (ko1, 10, .inl f_14)), (o2, .inl (ko2, 10, .inl f_15)), (o3, .inl (ko3, 10, .inl f_16)), (o4, .inl (ko4, 40, .inl f_18)), (v1, .inl (kv1, 972, .inl fsg))]) [0, 1, 2, 3, 4, 5, 6, 7, 8, 9] rfl
              have hD9 := hD.sub (ws' := [(h0, .inr (8, [w0, w1, w2, w3, .int (nI kn), .ref l4, .ref l1, w7, w8, w9, w10, w11, .ref v1, .ref v2, .ref nm0, .ref o1, .ref o2, .ref o3, .int (nI q_11), .int (nI q_12), .ref o4, .int (nI q_17), .int z_13, w23, w24, w25, w26, w27, w28, w29, w30, w31, w32, w33, w34])), (l1, .inl (kl1, 10, .inl fll)), (l4, .inl (kl4, 100, .inl fln)), (nm0, .inl (knm0, 10, .inl fnm)), (v2, .inl (kv2, 81, .inl fsm)), (o1, .inl (ko1, 10, .inl f_14)), (o2, .inl (ko2, 10, .inl f_15)), (o3, .inl (ko3, 10, .inl f_16)), (o4, .inl (ko4, 40, .inl f_18)), (v1, .inl (kv1, 972, .inl fsg))]) [0, 1, 2, 3, 4, 5, 6, 7, 8, 9] (by decide) rfl
              have hK9 := hK.sub (tys' := [(kl1, .int), (kl4, .int), (knm0, .int), (kv2, .int), (ko1, .int), (ko2, .int), (ko3, .int), (ko4, .int), (kv1, .int)]) [0, 1, 2, 3, 4, 5, 6, 7, 8] rfl
              exact W.iret (v := (-6)) hx hb hr (fun t ht hW => ⟨⟨(-6), (), rfl, (by unfold F_run; rw [if_pos (by omega), nI_clamp (by omega), nI_clamp (by omega), en_7, nI_clamp (by omega), if_neg (by omega), if_neg (by omega), if_neg (by omega)]; rw [← (show q_17 = _ from congrArg (fun x => x.1) p_20.2)]; exact (if_neg (by omega)).symm), (nI q_11), (nI q_12), z_13, f_14, f_15, f_16, (nI q_17), f_18, by rw [ht]; exact hP9, va_K.moved hW.alike hK9, hD9⟩, hS.F ht⟩) hS.2.2 dX9_run_87
          · have b_24 := gn_ne (X := (Int32.toInt n3)) (C := (-2)) rfl (by decide) c_23
            refine lv_aload_n hx hb dX9_run_53 rfl (lv_at hl 0 rfl) ?_
            refine va_get (D := (dC, dI)) (ci := 8) (v := .int (nI q_17)) (C := RX9) (T := TX9) (N := 35) hx hb hts inB_9 hown hK hP 0 rfl rfl 21 (by decide) (hts _ mw_3_203) (fun _ h9 => h9) rfl dX9_run_54 ?_
            refine lv_goto (tgt := 87) hx hb dX9_run_57 (by decide) ?_
            have hP9 := hP.sub (ws' := [(h0, .inr (8, [w0, w1, w2, w3, .int (nI kn), .ref l4, .ref l1, w7, w8, w9, w10, w11, .ref v1, .ref v2, .ref nm0, .ref o1, .ref o2, .ref o3, .int (nI q_11), .int (nI q_12), .ref o4, .int (nI q_17), .int z_13, w23, w24, w25, w26, w27, w28, w29, w30, w31, w32, w33, w34])), (l1, .inl (kl1, 10, .inl fll)), (l4, .inl (kl4, 100, .inl fln)), (nm0, .inl (knm0, 10, .inl fnm)), (v2, .inl (kv2, 81, .inl fsm)), (o1, .inl (ko1, 10, .inl f_14)), (o2, .inl (ko2, 10, .inl f_15)), (o3, .inl (ko3, 10, .inl f_16)), (o4, .inl (ko4, 40, .inl f_18)), (v1, .inl (kv1, 972, .inl fsg))]) [0, 1, 2, 3, 4, 5, 6, 7, 8, 9] rfl
            have hD9 := hD.sub (ws' := [(h0, .inr (8, [w0, w1, w2, w3, .int (nI kn), .ref l4, .ref l1, w7, w8, w9, w10, w11, .ref v1, .ref v2, .ref nm0, .ref o1, .ref o2, .ref o3, .int (nI q_11), .int (nI q_12), .ref o4, .int (nI q_17), .int z_13, w23, w24, w25, w26, w27, w28, w29, w30, w31, w32, w33, w34])), (l1, .inl (kl1, 10, .inl fll)), (l4, .inl (kl4, 100, .inl fln)), (nm0, .inl (knm0, 10, .inl fnm)), (v2, .inl (kv2, 81, .inl fsm)), (o1, .inl (ko1, 10, .inl f_14)), (o2, .inl (ko2, 10, .inl f_15)), (o3, .inl (ko3, 10, .inl f_16)), (o4, .inl (ko4, 40, .inl f_18)), (v1, .inl (kv1, 972, .inl fsg))]) [0, 1, 2, 3, 4, 5, 6, 7, 8, 9] (by decide) rfl
            have hK9 := hK.sub (tys' := [(kl1, .int), (kl4, .int), (knm0, .int), (kv2, .int), (ko1, .int), (ko2, .int), (ko3, .int), (ko4, .int), (kv1, .int)]) [0, 1, 2, 3, 4, 5, 6, 7, 8] rfl
            exact W.iret (v := (nI q_17)) hx hb hr (fun t ht hW => ⟨⟨(nI q_17), (), rfl, (by unfold F_run; rw [if_pos (by omega), nI_clamp (by omega), nI_clamp (by omega), en_7, nI_clamp (by omega), if_neg (by omega), if_neg (by omega), if_pos (by omega)]; exact congrArg nI (congrArg (fun x => x.1) p_20.2)), (nI q_11), (nI q_12), z_13, f_14, f_15, f_16, (nI q_17), f_18, by rw [ht]; exact hP9, va_K.moved hW.alike hK9, hD9⟩, hS.F ht⟩) hS.2.2 dX9_run_87
        · have b_22 := gn_ne (X := (Int32.toInt n3)) (C := (-1)) rfl (by decide) c_21
          refine lv_aload_n hx hb dX9_run_40 rfl (lv_at hl 0 rfl) ?_
          refine va_get (D := (dC, dI)) (ci := 8) (v := .int z_13) (C := RX9) (T := TX9) (N := 35) hx hb hts inB_9 hown hK hP 0 rfl rfl 22 (by decide) (hts _ mw_3_204) (fun _ h9 => h9) rfl dX9_run_41 ?_
          refine lv_goto (tgt := 87) hx hb dX9_run_44 (by decide) ?_
          have hP9 := hP.sub (ws' := [(h0, .inr (8, [w0, w1, w2, w3, .int (nI kn), .ref l4, .ref l1, w7, w8, w9, w10, w11, .ref v1, .ref v2, .ref nm0, .ref o1, .ref o2, .ref o3, .int (nI q_11), .int (nI q_12), .ref o4, .int (nI q_17), .int z_13, w23, w24, w25, w26, w27, w28, w29, w30, w31, w32, w33, w34])), (l1, .inl (kl1, 10, .inl fll)), (l4, .inl (kl4, 100, .inl fln)), (nm0, .inl (knm0, 10, .inl fnm)), (v2, .inl (kv2, 81, .inl fsm)), (o1, .inl (ko1, 10, .inl f_14)), (o2, .inl (ko2, 10, .inl f_15)), (o3, .inl (ko3, 10, .inl f_16)), (o4, .inl (ko4, 40, .inl f_18)), (v1, .inl (kv1, 972, .inl fsg))]) [0, 1, 2, 3, 4, 5, 6, 7, 8, 9] rfl
          have hD9 := hD.sub (ws' := [(h0, .inr (8, [w0, w1, w2, w3, .int (nI kn), .ref l4, .ref l1, w7, w8, w9, w10, w11, .ref v1, .ref v2, .ref nm0, .ref o1, .ref o2, .ref o3, .int (nI q_11), .int (nI q_12), .ref o4, .int (nI q_17), .int z_13, w23, w24, w25, w26, w27, w28, w29, w30, w31, w32, w33, w34])), (l1, .inl (kl1, 10, .inl fll)), (l4, .inl (kl4, 100, .inl fln)), (nm0, .inl (knm0, 10, .inl fnm)), (v2, .inl (kv2, 81, .inl fsm)), (o1, .inl (ko1, 10, .inl f_14)), (o2, .inl (ko2, 10, .inl f_15)), (o3, .inl (ko3, 10, .inl f_16)), (o4, .inl (ko4, 40, .inl f_18)), (v1, .inl (kv1, 972, .inl fsg))]) [0, 1, 2, 3, 4, 5, 6, 7, 8, 9] (by decide) rfl
          have hK9 := hK.sub (tys' := [(kl1, .int), (kl4, .int), (knm0, .int), (kv2, .int), (ko1, .int), (ko2, .int), (ko3, .int), (ko4, .int), (kv1, .int)]) [0, 1, 2, 3, 4, 5, 6, 7, 8] rfl
          exact W.iret (v := z_13) hx hb hr (fun t ht hW => ⟨⟨z_13, (), rfl, (by unfold F_run; rw [if_pos (by omega), nI_clamp (by omega), nI_clamp (by omega), en_7, nI_clamp (by omega), if_neg (by omega), if_pos (by omega)]; exact p_20.1), (nI q_11), (nI q_12), z_13, f_14, f_15, f_16, (nI q_17), f_18, by rw [ht]; exact hP9, va_K.moved hW.alike hK9, hD9⟩, hS.F ht⟩) hS.2.2 dX9_run_87
      · have b_9 := gn_ne (X := ((n_7 : Nat) : Int)) (C := 0) (nI_toInt (by omega)) (by decide) c_8
        refine lv_bipush (v := (-3)) hx hb dX9_run_26 (by decide) ?_
        have hP9 := hP.sub (ws' := [(h0, .inr (8, [w0, w1, w2, w3, .int (nI kn), .ref l4, .ref l1, w7, w8, w9, w10, w11, .ref v1, .ref v2, .ref nm0, .ref o1, .ref o2, .ref o3, .int op0, .int wk0, .ref o4, .int sd0, .int en, w23, w24, w25, w26, w27, w28, w29, w30, w31, w32, w33, w34])), (l1, .inl (kl1, 10, .inl fll)), (l4, .inl (kl4, 100, .inl fln)), (nm0, .inl (knm0, 10, .inl fnm)), (v2, .inl (kv2, 81, .inl fsm)), (o1, .inl (ko1, 10, .inl fop)), (o2, .inl (ko2, 10, .inl fon)), (o3, .inl (ko3, 10, .inl fos)), (o4, .inl (ko4, 40, .inl fsd)), (v1, .inl (kv1, 972, .inl fsg))]) [0, 1, 2, 3, 4, 5, 6, 7, 8, 9] rfl
        have hD9 := hD.sub (ws' := [(h0, .inr (8, [w0, w1, w2, w3, .int (nI kn), .ref l4, .ref l1, w7, w8, w9, w10, w11, .ref v1, .ref v2, .ref nm0, .ref o1, .ref o2, .ref o3, .int op0, .int wk0, .ref o4, .int sd0, .int en, w23, w24, w25, w26, w27, w28, w29, w30, w31, w32, w33, w34])), (l1, .inl (kl1, 10, .inl fll)), (l4, .inl (kl4, 100, .inl fln)), (nm0, .inl (knm0, 10, .inl fnm)), (v2, .inl (kv2, 81, .inl fsm)), (o1, .inl (ko1, 10, .inl fop)), (o2, .inl (ko2, 10, .inl fon)), (o3, .inl (ko3, 10, .inl fos)), (o4, .inl (ko4, 40, .inl fsd)), (v1, .inl (kv1, 972, .inl fsg))]) [0, 1, 2, 3, 4, 5, 6, 7, 8, 9] (by decide) rfl
        have hK9 := hK.sub (tys' := [(kl1, .int), (kl4, .int), (knm0, .int), (kv2, .int), (ko1, .int), (ko2, .int), (ko3, .int), (ko4, .int), (kv1, .int)]) [0, 1, 2, 3, 4, 5, 6, 7, 8] rfl
        exact W.iret (v := (-3)) hx hb hr (fun t ht hW => ⟨⟨(-3), (), rfl, (by unfold F_run; rw [if_pos (by omega), nI_clamp (by omega), nI_clamp (by omega), en_7, nI_clamp (by omega), if_pos (by omega)]), op0, wk0, en, fop, fon, fos, sd0, fsd, by rw [ht]; exact hP9, va_K.moved hW.alike hK9, hD9⟩, hS.F ht⟩) hS.2.2 dX9_run_28
    · skip
      refine lv_if_ne (tgt := 17) hx hb dX9_run_12 (by decide) (fun h => absurd h (by decide)) (fun _ => ?_)
      refine lv_iconst (v := (-1)) hx hb dX9_run_15 (by decide) ?_
      have hP9 := hP.sub (ws' := [(h0, .inr (8, [w0, w1, w2, w3, .int (nI kn), .ref l4, .ref l1, w7, w8, w9, w10, w11, .ref v1, .ref v2, .ref nm0, .ref o1, .ref o2, .ref o3, .int op0, .int wk0, .ref o4, .int sd0, .int en, w23, w24, w25, w26, w27, w28, w29, w30, w31, w32, w33, w34])), (l1, .inl (kl1, 10, .inl fll)), (l4, .inl (kl4, 100, .inl fln)), (nm0, .inl (knm0, 10, .inl fnm)), (v2, .inl (kv2, 81, .inl fsm)), (o1, .inl (ko1, 10, .inl fop)), (o2, .inl (ko2, 10, .inl fon)), (o3, .inl (ko3, 10, .inl fos)), (o4, .inl (ko4, 40, .inl fsd)), (v1, .inl (kv1, 972, .inl fsg))]) [0, 1, 2, 3, 4, 5, 6, 7, 8, 9] rfl
      have hD9 := hD.sub (ws' := [(h0, .inr (8, [w0, w1, w2, w3, .int (nI kn), .ref l4, .ref l1, w7, w8, w9, w10, w11, .ref v1, .ref v2, .ref nm0, .ref o1, .ref o2, .ref o3, .int op0, .int wk0, .ref o4, .int sd0, .int en, w23, w24, w25, w26, w27, w28, w29, w30, w31, w32, w33, w34])), (l1, .inl (kl1, 10, .inl fll)), (l4, .inl (kl4, 100, .inl fln)), (nm0, .inl (knm0, 10, .inl fnm)), (v2, .inl (kv2, 81, .inl fsm)), (o1, .inl (ko1, 10, .inl fop)), (o2, .inl (ko2, 10, .inl fon)), (o3, .inl (ko3, 10, .inl fos)), (o4, .inl (ko4, 40, .inl fsd)), (v1, .inl (kv1, 972, .inl fsg))]) [0, 1, 2, 3, 4, 5, 6, 7, 8, 9] (by decide) rfl
      have hK9 := hK.sub (tys' := [(kl1, .int), (kl4, .int), (knm0, .int), (kv2, .int), (ko1, .int), (ko2, .int), (ko3, .int), (ko4, .int), (kv1, .int)]) [0, 1, 2, 3, 4, 5, 6, 7, 8] rfl
      exact W.iret (v := (-1)) hx hb hr (fun t ht hW => ⟨⟨(-1), (), rfl, (by unfold F_run; rw [if_neg (by omega)]), op0, wk0, en, fop, fon, fos, sd0, fsd, by rw [ht]; exact hP9, va_K.moved hW.alike hK9, hD9⟩, hS.F ht⟩) hS.2.2 dX9_run_16
  · skip
    refine lv_if_eq (tgt := 15) hx hb dX9_run_5 (by decide) (fun _ => ?_) (fun h => absurd (by decide) h)
    refine lv_iconst (v := (-1)) hx hb dX9_run_15 (by decide) ?_
    have hP9 := hP.sub (ws' := [(h0, .inr (8, [w0, w1, w2, w3, .int (nI kn), .ref l4, .ref l1, w7, w8, w9, w10, w11, .ref v1, .ref v2, .ref nm0, .ref o1, .ref o2, .ref o3, .int op0, .int wk0, .ref o4, .int sd0, .int en, w23, w24, w25, w26, w27, w28, w29, w30, w31, w32, w33, w34])), (l1, .inl (kl1, 10, .inl fll)), (l4, .inl (kl4, 100, .inl fln)), (nm0, .inl (knm0, 10, .inl fnm)), (v2, .inl (kv2, 81, .inl fsm)), (o1, .inl (ko1, 10, .inl fop)), (o2, .inl (ko2, 10, .inl fon)), (o3, .inl (ko3, 10, .inl fos)), (o4, .inl (ko4, 40, .inl fsd)), (v1, .inl (kv1, 972, .inl fsg))]) [0, 1, 2, 3, 4, 5, 6, 7, 8, 9] rfl
    have hD9 := hD.sub (ws' := [(h0, .inr (8, [w0, w1, w2, w3, .int (nI kn), .ref l4, .ref l1, w7, w8, w9, w10, w11, .ref v1, .ref v2, .ref nm0, .ref o1, .ref o2, .ref o3, .int op0, .int wk0, .ref o4, .int sd0, .int en, w23, w24, w25, w26, w27, w28, w29, w30, w31, w32, w33, w34])), (l1, .inl (kl1, 10, .inl fll)), (l4, .inl (kl4, 100, .inl fln)), (nm0, .inl (knm0, 10, .inl fnm)), (v2, .inl (kv2, 81, .inl fsm)), (o1, .inl (ko1, 10, .inl fop)), (o2, .inl (ko2, 10, .inl fon)), (o3, .inl (ko3, 10, .inl fos)), (o4, .inl (ko4, 40, .inl fsd)), (v1, .inl (kv1, 972, .inl fsg))]) [0, 1, 2, 3, 4, 5, 6, 7, 8, 9] (by decide) rfl
    have hK9 := hK.sub (tys' := [(kl1, .int), (kl4, .int), (knm0, .int), (kv2, .int), (ko1, .int), (ko2, .int), (ko3, .int), (ko4, .int), (kv1, .int)]) [0, 1, 2, 3, 4, 5, 6, 7, 8] rfl
    exact W.iret (v := (-1)) hx hb hr (fun t ht hW => ⟨⟨(-1), (), rfl, (by unfold F_run; rw [if_neg (by omega)]), op0, wk0, en, fop, fon, fos, sd0, fsd, by rw [ht]; exact hP9, va_K.moved hW.alike hK9, hD9⟩, hS.F ht⟩) hS.2.2 dX9_run_16
