theorem mw_3_193 : Cond.fieldLink RX9 110 "AnswerLinesModel" "rowMany" "I" ∈ BG := mB (t3 (i := 193) (by decide +kernel)) (by decide +kernel)
theorem mw_3_191 : Cond.fieldLink RX9 35 "AnswerLinesModel" "rowAt" "[I" ∈ BG := mB (t3 (i := 191) (by decide +kernel)) (by decide +kernel)
theorem mw_3_192 : Cond.fieldLink RX9 38 "AnswerLinesModel" "rowEnd" "[I" ∈ BG := mB (t3 (i := 192) (by decide +kernel)) (by decide +kernel)
theorem mw_3_188 : Cond.fieldLink RX9 26 "AnswerLinesModel" "lineLong" "[I" ∈ BG := mB (t3 (i := 188) (by decide +kernel)) (by decide +kernel)
theorem mw_3_189 : Cond.fieldLink RX9 29 "AnswerLinesModel" "quarrels" "[I" ∈ BG := mB (t3 (i := 189) (by decide +kernel)) (by decide +kernel)
theorem mw_3_183 : Cond.fieldLink RX9 13 "AnswerLinesModel" "parentMany" "[I" ∈ BG := mB (t3 (i := 183) (by decide +kernel)) (by decide +kernel)
theorem mw_3_187 : Cond.fieldLink RX9 23 "AnswerLinesModel" "lines" "[I" ∈ BG := mB (t3 (i := 187) (by decide +kernel)) (by decide +kernel)
theorem mw_4_68 : Cond.code yX9_nextHead cX9_nextHead 4 (some .int) ∈ BG := mB (t4 (i := 68) rfl) (by decide +kernel)
theorem mw_4_65 : Cond.methodLink RX9 116 yX9_nextHead ∈ BG := mB (t4 (i := 65) (by decide +kernel)) (by decide +kernel)
theorem mw_4_67 : Cond.instanceMethod yX9_nextHead ∈ BG := mB (t4 (i := 67) (by decide +kernel)) (by decide +kernel)
theorem mw_0_17 : Cond.selects RX9 yX9_nextHead yX9_nextHead ∈ BG := mB (t0 (i := 17) (by decide +kernel)) (by decide +kernel)
theorem mw_3_182 : Cond.fieldLink RX9 7 "AnswerLinesModel" "parents" "[I" ∈ BG := mB (t3 (i := 182) (by decide +kernel)) (by decide +kernel)
theorem mw_3_184 : Cond.fieldLink RX9 16 "AnswerLinesModel" "above" "[I" ∈ BG := mB (t3 (i := 184) (by decide +kernel)) (by decide +kernel)
theorem mw_3_185 : Cond.fieldLink RX9 19 "AnswerLinesModel" "isBare" "[Z" ∈ BG := mB (t3 (i := 185) (by decide +kernel)) (by decide +kernel)
theorem mw_4_64 : Cond.code yX9_layLine cX9_layLine 5 none ∈ BG := mB (t4 (i := 64) rfl) (by decide +kernel)
theorem mw_4_61 : Cond.methodLink RX9 102 yX9_layLine ∈ BG := mB (t4 (i := 61) (by decide +kernel)) (by decide +kernel)
theorem mw_4_63 : Cond.instanceMethod yX9_layLine ∈ BG := mB (t4 (i := 63) (by decide +kernel)) (by decide +kernel)
theorem mw_0_16 : Cond.selects RX9 yX9_layLine yX9_layLine ∈ BG := mB (t0 (i := 16) (by decide +kernel)) (by decide +kernel)
theorem mw_4_56 : Cond.code yX9_isKind cX9_isKind 2 (some .boolean) ∈ BG := mB (t4 (i := 56) rfl) (by decide +kernel)
theorem mw_4_53 : Cond.methodLink RX9 96 yX9_isKind ∈ BG := mB (t4 (i := 53) (by decide +kernel)) (by decide +kernel)
theorem mw_4_55 : Cond.instanceMethod yX9_isKind ∈ BG := mB (t4 (i := 55) (by decide +kernel)) (by decide +kernel)
theorem mw_0_15 : Cond.selects RX9 yX9_isKind yX9_isKind ∈ BG := mB (t0 (i := 15) (by decide +kernel)) (by decide +kernel)
theorem dX9_nextHead_0 : decode cX9_nextHead 0 = .ok (.bipush (-6), 2) := by decide +kernel
theorem dX9_nextHead_2 : decode cX9_nextHead 2 = .ok (.istore_n 1, 1) := by decide +kernel
theorem dX9_nextHead_3 : decode cX9_nextHead 3 = .ok (.iconst 0, 1) := by decide +kernel
theorem dX9_nextHead_4 : decode cX9_nextHead 4 = .ok (.istore_n 2, 1) := by decide +kernel
theorem dX9_nextHead_5 : decode cX9_nextHead 5 = .ok (.iload_n 2, 1) := by decide +kernel
theorem dX9_nextHead_6 : decode cX9_nextHead 6 = .ok (.aload_n 0, 1) := by decide +kernel
theorem dX9_nextHead_7 : decode cX9_nextHead 7 = .ok (.getfield 110, 3) := by decide +kernel
theorem dX9_nextHead_10 : decode cX9_nextHead 10 = .ok (.if_icmp .ge 83, 3) := by decide +kernel
theorem dX9_nextHead_13 : decode cX9_nextHead 13 = .ok (.iload_n 1, 1) := by decide +kernel
theorem dX9_nextHead_14 : decode cX9_nextHead 14 = .ok (.ifCond .ge 79, 3) := by decide +kernel
theorem dX9_nextHead_17 : decode cX9_nextHead 17 = .ok (.aload_n 0, 1) := by decide +kernel
theorem dX9_nextHead_18 : decode cX9_nextHead 18 = .ok (.getfield 35, 3) := by decide +kernel
theorem dX9_nextHead_21 : decode cX9_nextHead 21 = .ok (.iload_n 2, 1) := by decide +kernel
theorem dX9_nextHead_22 : decode cX9_nextHead 22 = .ok (.iaload, 1) := by decide +kernel
theorem dX9_nextHead_23 : decode cX9_nextHead 23 = .ok (.aload_n 0, 1) := by decide +kernel
theorem dX9_nextHead_24 : decode cX9_nextHead 24 = .ok (.getfield 38, 3) := by decide +kernel
theorem dX9_nextHead_27 : decode cX9_nextHead 27 = .ok (.iload_n 2, 1) := by decide +kernel
theorem dX9_nextHead_28 : decode cX9_nextHead 28 = .ok (.iaload, 1) := by decide +kernel
theorem dX9_nextHead_29 : decode cX9_nextHead 29 = .ok (.if_icmp .ge 30, 3) := by decide +kernel
theorem dX9_nextHead_59 : decode cX9_nextHead 59 = .ok (.iconst 0, 1) := by decide +kernel
theorem dX9_nextHead_60 : decode cX9_nextHead 60 = .ok (.istore_n 3, 1) := by decide +kernel
theorem dX9_nextHead_61 : decode cX9_nextHead 61 = .ok (.iload_n 3, 1) := by decide +kernel
theorem dX9_nextHead_62 : decode cX9_nextHead 62 = .ok (.ifCond .eq 22, 3) := by decide +kernel
theorem dX9_nextHead_84 : decode cX9_nextHead 84 = .ok (.bipush (-6), 2) := by decide +kernel
theorem dX9_nextHead_86 : decode cX9_nextHead 86 = .ok (.istore_n 1, 1) := by decide +kernel
theorem dX9_nextHead_87 : decode cX9_nextHead 87 = .ok (.iinc 2 1, 3) := by decide +kernel
theorem dX9_nextHead_90 : decode cX9_nextHead 90 = .ok (.goto (-85), 3) := by decide +kernel
theorem dX9_nextHead_93 : decode cX9_nextHead 93 = .ok (.iload_n 1, 1) := by decide +kernel
theorem dX9_nextHead_94 : decode cX9_nextHead 94 = .ok (.ireturn, 1) := by decide +kernel
theorem dX9_layLine_0 : decode cX9_layLine 0 = .ok (.aload_n 0, 1) := by decide +kernel
theorem dX9_layLine_1 : decode cX9_layLine 1 = .ok (.getfield 26, 3) := by decide +kernel
theorem dX9_layLine_4 : decode cX9_layLine 4 = .ok (.iload_n 1, 1) := by decide +kernel
theorem dX9_layLine_5 : decode cX9_layLine 5 = .ok (.iconst 0, 1) := by decide +kernel
theorem dX9_layLine_6 : decode cX9_layLine 6 = .ok (.iastore, 1) := by decide +kernel
theorem dX9_layLine_7 : decode cX9_layLine 7 = .ok (.aload_n 0, 1) := by decide +kernel
theorem dX9_layLine_8 : decode cX9_layLine 8 = .ok (.getfield 29, 3) := by decide +kernel
theorem dX9_layLine_11 : decode cX9_layLine 11 = .ok (.iload_n 1, 1) := by decide +kernel
theorem dX9_layLine_12 : decode cX9_layLine 12 = .ok (.iconst 0, 1) := by decide +kernel
theorem dX9_layLine_13 : decode cX9_layLine 13 = .ok (.iastore, 1) := by decide +kernel
theorem dX9_layLine_14 : decode cX9_layLine 14 = .ok (.aload_n 0, 1) := by decide +kernel
theorem dX9_layLine_15 : decode cX9_layLine 15 = .ok (.aload_n 0, 1) := by decide +kernel
theorem dX9_layLine_16 : decode cX9_layLine 16 = .ok (.getfield 13, 3) := by decide +kernel
theorem dX9_layLine_19 : decode cX9_layLine 19 = .ok (.iload_n 1, 1) := by decide +kernel
theorem dX9_layLine_20 : decode cX9_layLine 20 = .ok (.iaload, 1) := by decide +kernel
theorem dX9_layLine_21 : decode cX9_layLine 21 = .ok (.iconst 1, 1) := by decide +kernel
theorem dX9_layLine_22 : decode cX9_layLine 22 = .ok (.iadd, 1) := by decide +kernel
theorem dX9_layLine_23 : decode cX9_layLine 23 = .ok (.putfield 110, 3) := by decide +kernel
theorem dX9_layLine_26 : decode cX9_layLine 26 = .ok (.iconst 0, 1) := by decide +kernel
theorem dX9_layLine_27 : decode cX9_layLine 27 = .ok (.istore_n 2, 1) := by decide +kernel
theorem dX9_layLine_28 : decode cX9_layLine 28 = .ok (.iload_n 2, 1) := by decide +kernel
theorem dX9_layLine_29 : decode cX9_layLine 29 = .ok (.aload_n 0, 1) := by decide +kernel
theorem dX9_layLine_30 : decode cX9_layLine 30 = .ok (.getfield 13, 3) := by decide +kernel
theorem dX9_layLine_33 : decode cX9_layLine 33 = .ok (.iload_n 1, 1) := by decide +kernel
theorem dX9_layLine_34 : decode cX9_layLine 34 = .ok (.iaload, 1) := by decide +kernel
theorem dX9_layLine_35 : decode cX9_layLine 35 = .ok (.if_icmp .ge 118, 3) := by decide +kernel
theorem dX9_layLine_153 : decode cX9_layLine 153 = .ok (.aload_n 0, 1) := by decide +kernel
theorem dX9_layLine_154 : decode cX9_layLine 154 = .ok (.getfield 35, 3) := by decide +kernel
theorem dX9_layLine_157 : decode cX9_layLine 157 = .ok (.aload_n 0, 1) := by decide +kernel
theorem dX9_layLine_158 : decode cX9_layLine 158 = .ok (.getfield 13, 3) := by decide +kernel
theorem dX9_layLine_161 : decode cX9_layLine 161 = .ok (.iload_n 1, 1) := by decide +kernel
theorem dX9_layLine_162 : decode cX9_layLine 162 = .ok (.iaload, 1) := by decide +kernel
theorem dX9_layLine_163 : decode cX9_layLine 163 = .ok (.iconst 0, 1) := by decide +kernel
theorem dX9_layLine_164 : decode cX9_layLine 164 = .ok (.iastore, 1) := by decide +kernel
theorem dX9_layLine_165 : decode cX9_layLine 165 = .ok (.aload_n 0, 1) := by decide +kernel
theorem dX9_layLine_166 : decode cX9_layLine 166 = .ok (.getfield 38, 3) := by decide +kernel
theorem dX9_layLine_169 : decode cX9_layLine 169 = .ok (.aload_n 0, 1) := by decide +kernel
theorem dX9_layLine_170 : decode cX9_layLine 170 = .ok (.getfield 13, 3) := by decide +kernel
theorem dX9_layLine_173 : decode cX9_layLine 173 = .ok (.iload_n 1, 1) := by decide +kernel
theorem dX9_layLine_174 : decode cX9_layLine 174 = .ok (.iaload, 1) := by decide +kernel
theorem dX9_layLine_175 : decode cX9_layLine 175 = .ok (.aload_n 0, 1) := by decide +kernel
theorem dX9_layLine_176 : decode cX9_layLine 176 = .ok (.getfield 13, 3) := by decide +kernel
theorem dX9_layLine_179 : decode cX9_layLine 179 = .ok (.iload_n 1, 1) := by decide +kernel
theorem dX9_layLine_180 : decode cX9_layLine 180 = .ok (.iaload, 1) := by decide +kernel
theorem dX9_layLine_181 : decode cX9_layLine 181 = .ok (.iastore, 1) := by decide +kernel
theorem dX9_layLine_182 : decode cX9_layLine 182 = .ok (.aload_n 0, 1) := by decide +kernel
theorem dX9_layLine_183 : decode cX9_layLine 183 = .ok (.getfield 23, 3) := by decide +kernel
theorem dX9_layLine_186 : decode cX9_layLine 186 = .ok (.bipush 10, 2) := by decide +kernel
theorem dX9_layLine_188 : decode cX9_layLine 188 = .ok (.iload_n 1, 1) := by decide +kernel
theorem dX9_layLine_189 : decode cX9_layLine 189 = .ok (.imul, 1) := by decide +kernel
theorem dX9_layLine_190 : decode cX9_layLine 190 = .ok (.iload_n 1, 1) := by decide +kernel
theorem dX9_layLine_191 : decode cX9_layLine 191 = .ok (.iastore, 1) := by decide +kernel
theorem dX9_layLine_192 : decode cX9_layLine 192 = .ok (.iconst 1, 1) := by decide +kernel
theorem dX9_layLine_193 : decode cX9_layLine 193 = .ok (.istore_n 2, 1) := by decide +kernel
theorem dX9_layLine_194 : decode cX9_layLine 194 = .ok (.aload_n 0, 1) := by decide +kernel
theorem dX9_layLine_195 : decode cX9_layLine 195 = .ok (.invokevirtual 116, 3) := by decide +kernel
theorem dX9_layLine_198 : decode cX9_layLine 198 = .ok (.istore_n 3, 1) := by decide +kernel
theorem dX9_layLine_199 : decode cX9_layLine 199 = .ok (.iload_n 3, 1) := by decide +kernel
theorem dX9_layLine_200 : decode cX9_layLine 200 = .ok (.ifCond .lt 98, 3) := by decide +kernel
theorem dX9_layLine_298 : decode cX9_layLine 298 = .ok (.iconst 0, 1) := by decide +kernel
theorem dX9_layLine_299 : decode cX9_layLine 299 = .ok (.istore 4, 2) := by decide +kernel
theorem dX9_layLine_301 : decode cX9_layLine 301 = .ok (.iload 4, 2) := by decide +kernel
theorem dX9_layLine_303 : decode cX9_layLine 303 = .ok (.aload_n 0, 1) := by decide +kernel
theorem dX9_layLine_304 : decode cX9_layLine 304 = .ok (.getfield 110, 3) := by decide +kernel
theorem dX9_layLine_307 : decode cX9_layLine 307 = .ok (.if_icmp .ge 59, 3) := by decide +kernel
theorem dX9_layLine_310 : decode cX9_layLine 310 = .ok (.aload_n 0, 1) := by decide +kernel
theorem dX9_layLine_311 : decode cX9_layLine 311 = .ok (.getfield 29, 3) := by decide +kernel
theorem dX9_layLine_314 : decode cX9_layLine 314 = .ok (.iload_n 1, 1) := by decide +kernel
theorem dX9_layLine_315 : decode cX9_layLine 315 = .ok (.dup2, 1) := by decide +kernel
theorem dX9_layLine_316 : decode cX9_layLine 316 = .ok (.iaload, 1) := by decide +kernel
theorem dX9_layLine_317 : decode cX9_layLine 317 = .ok (.aload_n 0, 1) := by decide +kernel
theorem dX9_layLine_318 : decode cX9_layLine 318 = .ok (.getfield 35, 3) := by decide +kernel
theorem dX9_layLine_321 : decode cX9_layLine 321 = .ok (.iload 4, 2) := by decide +kernel
theorem dX9_layLine_323 : decode cX9_layLine 323 = .ok (.iaload, 1) := by decide +kernel
theorem dX9_layLine_324 : decode cX9_layLine 324 = .ok (.aload_n 0, 1) := by decide +kernel
theorem dX9_layLine_325 : decode cX9_layLine 325 = .ok (.getfield 38, 3) := by decide +kernel
theorem dX9_layLine_328 : decode cX9_layLine 328 = .ok (.iload 4, 2) := by decide +kernel
theorem dX9_layLine_330 : decode cX9_layLine 330 = .ok (.iaload, 1) := by decide +kernel
theorem dX9_layLine_331 : decode cX9_layLine 331 = .ok (.if_icmp .ge 26, 3) := by decide +kernel
theorem dX9_layLine_357 : decode cX9_layLine 357 = .ok (.iconst 0, 1) := by decide +kernel
theorem dX9_layLine_358 : decode cX9_layLine 358 = .ok (.ior, 1) := by decide +kernel
theorem dX9_layLine_359 : decode cX9_layLine 359 = .ok (.iastore, 1) := by decide +kernel
theorem dX9_layLine_360 : decode cX9_layLine 360 = .ok (.iinc 4 1, 3) := by decide +kernel
theorem dX9_layLine_363 : decode cX9_layLine 363 = .ok (.goto (-62), 3) := by decide +kernel
theorem dX9_layLine_366 : decode cX9_layLine 366 = .ok (.aload_n 0, 1) := by decide +kernel
theorem dX9_layLine_367 : decode cX9_layLine 367 = .ok (.getfield 26, 3) := by decide +kernel
theorem dX9_layLine_370 : decode cX9_layLine 370 = .ok (.iload_n 1, 1) := by decide +kernel
theorem dX9_layLine_371 : decode cX9_layLine 371 = .ok (.aload_n 0, 1) := by decide +kernel
theorem dX9_layLine_372 : decode cX9_layLine 372 = .ok (.getfield 29, 3) := by decide +kernel
theorem dX9_layLine_375 : decode cX9_layLine 375 = .ok (.iload_n 1, 1) := by decide +kernel
theorem dX9_layLine_376 : decode cX9_layLine 376 = .ok (.iaload, 1) := by decide +kernel
theorem dX9_layLine_377 : decode cX9_layLine 377 = .ok (.ifCond .ne 7, 3) := by decide +kernel
theorem dX9_layLine_380 : decode cX9_layLine 380 = .ok (.iload_n 2, 1) := by decide +kernel
theorem dX9_layLine_381 : decode cX9_layLine 381 = .ok (.goto 4, 3) := by decide +kernel
theorem dX9_layLine_385 : decode cX9_layLine 385 = .ok (.iastore, 1) := by decide +kernel
theorem dX9_layLine_386 : decode cX9_layLine 386 = .ok (.return_, 1) := by decide +kernel
theorem dX9_kind_0 : decode cX9_kind 0 = .ok (.iload_n 1, 1) := by decide +kernel
theorem dX9_kind_1 : decode cX9_kind 1 = .ok (.iconst 1, 1) := by decide +kernel
theorem dX9_kind_2 : decode cX9_kind 2 = .ok (.if_icmp .lt 11, 3) := by decide +kernel
theorem dX9_kind_13 : decode cX9_kind 13 = .ok (.iload_n 1, 1) := by decide +kernel
theorem dX9_kind_14 : decode cX9_kind 14 = .ok (.iconst 2, 1) := by decide +kernel
theorem dX9_kind_15 : decode cX9_kind 15 = .ok (.if_icmp .lt 16, 3) := by decide +kernel
theorem dX9_kind_31 : decode cX9_kind 31 = .ok (.iload_n 1, 1) := by decide +kernel
theorem dX9_kind_32 : decode cX9_kind 32 = .ok (.iconst 3, 1) := by decide +kernel
theorem dX9_kind_33 : decode cX9_kind 33 = .ok (.if_icmp .lt 24, 3) := by decide +kernel
theorem dX9_kind_57 : decode cX9_kind 57 = .ok (.iconst 1, 1) := by decide +kernel
theorem dX9_kind_58 : decode cX9_kind 58 = .ok (.goto 4, 3) := by decide +kernel
theorem dX9_kind_62 : decode cX9_kind 62 = .ok (.istore 5, 2) := by decide +kernel
theorem dX9_kind_64 : decode cX9_kind 64 = .ok (.iload 5, 2) := by decide +kernel
theorem dX9_kind_66 : decode cX9_kind 66 = .ok (.ifCond .ne 5, 3) := by decide +kernel
theorem dX9_kind_71 : decode cX9_kind 71 = .ok (.iload_n 1, 1) := by decide +kernel
theorem dX9_kind_72 : decode cX9_kind 72 = .ok (.i2l, 1) := by decide +kernel
theorem dX9_kind_73 : decode cX9_kind 73 = .ok (.lconst 0, 1) := by decide +kernel
theorem dX9_kind_74 : decode cX9_kind 74 = .ok (.ldc2_w 100, 3) := by decide +kernel
theorem dX9_kind_77 : decode cX9_kind 77 = .ok (.invokestatic 90, 3) := by decide +kernel
theorem dX9_kind_80 : decode cX9_kind 80 = .ok (.ifCond .ne 6, 3) := by decide +kernel
theorem dX9_kind_86 : decode cX9_kind 86 = .ok (.aload_n 0, 1) := by decide +kernel
theorem dX9_kind_87 : decode cX9_kind 87 = .ok (.getfield 86, 3) := by decide +kernel
theorem dX9_kind_90 : decode cX9_kind 90 = .ok (.bipush 10, 2) := by decide +kernel
theorem dX9_kind_92 : decode cX9_kind 92 = .ok (.if_icmp .ne 6, 3) := by decide +kernel
theorem dX9_kind_98 : decode cX9_kind 98 = .ok (.aload_n 0, 1) := by decide +kernel
theorem dX9_kind_99 : decode cX9_kind 99 = .ok (.getfield 7, 3) := by decide +kernel
theorem dX9_kind_102 : decode cX9_kind 102 = .ok (.iconst 3, 1) := by decide +kernel
theorem dX9_kind_103 : decode cX9_kind 103 = .ok (.aload_n 0, 1) := by decide +kernel
theorem dX9_kind_104 : decode cX9_kind 104 = .ok (.getfield 86, 3) := by decide +kernel
theorem dX9_kind_107 : decode cX9_kind 107 = .ok (.imul, 1) := by decide +kernel
theorem dX9_kind_108 : decode cX9_kind 108 = .ok (.iload_n 2, 1) := by decide +kernel
theorem dX9_kind_109 : decode cX9_kind 109 = .ok (.iastore, 1) := by decide +kernel
theorem dX9_kind_110 : decode cX9_kind 110 = .ok (.aload_n 0, 1) := by decide +kernel
theorem dX9_kind_111 : decode cX9_kind 111 = .ok (.getfield 7, 3) := by decide +kernel
theorem dX9_kind_114 : decode cX9_kind 114 = .ok (.iconst 3, 1) := by decide +kernel
theorem dX9_kind_115 : decode cX9_kind 115 = .ok (.aload_n 0, 1) := by decide +kernel
theorem dX9_kind_116 : decode cX9_kind 116 = .ok (.getfield 86, 3) := by decide +kernel
theorem dX9_kind_119 : decode cX9_kind 119 = .ok (.imul, 1) := by decide +kernel
theorem dX9_kind_120 : decode cX9_kind 120 = .ok (.iconst 1, 1) := by decide +kernel
theorem dX9_kind_121 : decode cX9_kind 121 = .ok (.iadd, 1) := by decide +kernel
theorem dX9_kind_122 : decode cX9_kind 122 = .ok (.iload_n 3, 1) := by decide +kernel
theorem dX9_kind_123 : decode cX9_kind 123 = .ok (.iastore, 1) := by decide +kernel
theorem dX9_kind_124 : decode cX9_kind 124 = .ok (.aload_n 0, 1) := by decide +kernel
theorem dX9_kind_125 : decode cX9_kind 125 = .ok (.getfield 7, 3) := by decide +kernel
theorem dX9_kind_128 : decode cX9_kind 128 = .ok (.iconst 3, 1) := by decide +kernel
theorem dX9_kind_129 : decode cX9_kind 129 = .ok (.aload_n 0, 1) := by decide +kernel
theorem dX9_kind_130 : decode cX9_kind 130 = .ok (.getfield 86, 3) := by decide +kernel
theorem dX9_kind_133 : decode cX9_kind 133 = .ok (.imul, 1) := by decide +kernel
theorem dX9_kind_134 : decode cX9_kind 134 = .ok (.iconst 2, 1) := by decide +kernel
theorem dX9_kind_135 : decode cX9_kind 135 = .ok (.iadd, 1) := by decide +kernel
theorem dX9_kind_136 : decode cX9_kind 136 = .ok (.iload 4, 2) := by decide +kernel
theorem dX9_kind_138 : decode cX9_kind 138 = .ok (.iastore, 1) := by decide +kernel
theorem dX9_kind_139 : decode cX9_kind 139 = .ok (.aload_n 0, 1) := by decide +kernel
theorem dX9_kind_140 : decode cX9_kind 140 = .ok (.getfield 13, 3) := by decide +kernel
theorem dX9_kind_143 : decode cX9_kind 143 = .ok (.aload_n 0, 1) := by decide +kernel
theorem dX9_kind_144 : decode cX9_kind 144 = .ok (.getfield 86, 3) := by decide +kernel
theorem dX9_kind_147 : decode cX9_kind 147 = .ok (.iload_n 1, 1) := by decide +kernel
theorem dX9_kind_148 : decode cX9_kind 148 = .ok (.iastore, 1) := by decide +kernel
theorem dX9_kind_149 : decode cX9_kind 149 = .ok (.aload_n 0, 1) := by decide +kernel
theorem dX9_kind_150 : decode cX9_kind 150 = .ok (.getfield 16, 3) := by decide +kernel
theorem dX9_kind_153 : decode cX9_kind 153 = .ok (.aload_n 0, 1) := by decide +kernel
theorem dX9_kind_154 : decode cX9_kind 154 = .ok (.getfield 86, 3) := by decide +kernel
theorem dX9_kind_157 : decode cX9_kind 157 = .ok (.iconst 0, 1) := by decide +kernel
theorem dX9_kind_158 : decode cX9_kind 158 = .ok (.iastore, 1) := by decide +kernel
theorem dX9_kind_159 : decode cX9_kind 159 = .ok (.aload_n 0, 1) := by decide +kernel
theorem dX9_kind_160 : decode cX9_kind 160 = .ok (.getfield 19, 3) := by decide +kernel
theorem dX9_kind_163 : decode cX9_kind 163 = .ok (.aload_n 0, 1) := by decide +kernel
theorem dX9_kind_164 : decode cX9_kind 164 = .ok (.getfield 86, 3) := by decide +kernel
theorem dX9_kind_167 : decode cX9_kind 167 = .ok (.iconst 0, 1) := by decide +kernel
theorem dX9_kind_168 : decode cX9_kind 168 = .ok (.bastore, 1) := by decide +kernel
theorem dX9_kind_169 : decode cX9_kind 169 = .ok (.iconst 0, 1) := by decide +kernel
theorem dX9_kind_170 : decode cX9_kind 170 = .ok (.istore 6, 2) := by decide +kernel
theorem dX9_kind_172 : decode cX9_kind 172 = .ok (.iload 6, 2) := by decide +kernel
theorem dX9_kind_174 : decode cX9_kind 174 = .ok (.iload_n 1, 1) := by decide +kernel
theorem dX9_kind_175 : decode cX9_kind 175 = .ok (.if_icmp .ge 49, 3) := by decide +kernel
theorem dX9_kind_224 : decode cX9_kind 224 = .ok (.aload_n 0, 1) := by decide +kernel
theorem dX9_kind_225 : decode cX9_kind 225 = .ok (.aload_n 0, 1) := by decide +kernel
theorem dX9_kind_226 : decode cX9_kind 226 = .ok (.getfield 86, 3) := by decide +kernel
theorem dX9_kind_229 : decode cX9_kind 229 = .ok (.invokevirtual 102, 3) := by decide +kernel
theorem dX9_kind_232 : decode cX9_kind 232 = .ok (.aload_n 0, 1) := by decide +kernel
theorem dX9_kind_233 : decode cX9_kind 233 = .ok (.dup, 1) := by decide +kernel
theorem dX9_kind_234 : decode cX9_kind 234 = .ok (.getfield 86, 3) := by decide +kernel
theorem dX9_kind_237 : decode cX9_kind 237 = .ok (.iconst 1, 1) := by decide +kernel
theorem dX9_kind_238 : decode cX9_kind 238 = .ok (.iadd, 1) := by decide +kernel
theorem dX9_kind_239 : decode cX9_kind 239 = .ok (.putfield 86, 3) := by decide +kernel
theorem dX9_kind_242 : decode cX9_kind 242 = .ok (.aload_n 0, 1) := by decide +kernel
theorem dX9_kind_243 : decode cX9_kind 243 = .ok (.getfield 86, 3) := by decide +kernel
theorem dX9_kind_246 : decode cX9_kind 246 = .ok (.iconst 1, 1) := by decide +kernel
theorem dX9_kind_247 : decode cX9_kind 247 = .ok (.isub, 1) := by decide +kernel
theorem dX9_kind_248 : decode cX9_kind 248 = .ok (.ireturn, 1) := by decide +kernel
theorem dX9_kind_83 : decode cX9_kind 83 = .ok (.bipush (-2), 2) := by decide +kernel
theorem dX9_kind_85 : decode cX9_kind 85 = .ok (.ireturn, 1) := by decide +kernel
theorem dX9_kind_5 : decode cX9_kind 5 = .ok (.aload_n 0, 1) := by decide +kernel
theorem dX9_kind_6 : decode cX9_kind 6 = .ok (.iload_n 2, 1) := by decide +kernel
theorem dX9_kind_7 : decode cX9_kind 7 = .ok (.invokevirtual 96, 3) := by decide +kernel
theorem dX9_kind_10 : decode cX9_kind 10 = .ok (.ifCond .eq 51, 3) := by decide +kernel
theorem dX9_kind_61 : decode cX9_kind 61 = .ok (.iconst 0, 1) := by decide +kernel
theorem dX9_kind_69 : decode cX9_kind 69 = .ok (.iconst (-1), 1) := by decide +kernel
theorem dX9_kind_70 : decode cX9_kind 70 = .ok (.ireturn, 1) := by decide +kernel
set_option maxHeartbeats 4000000 in
set_option maxRecDepth 100000 in
theorem m_nextHead (l : Launch) (dC : Nat → ClassId) (dI : Nat → Nat → Nat) (sz : Nat) (h0 : Nat) (w0 : Value) (w1 : Value) (w2 : Value) (w3 : Value) (w4 : Value) (w5 : Value) (w6 : Value) (w7 : Value) (w8 : Value) (g1 : Nat) (g2 : Nat) (w12 : Value) (w13 : Value) (w14 : Value) (w15 : Value) (w16 : Value) (w17 : Value) (w18 : Value) (w19 : Value) (w20 : Value) (w21 : Value) (w22 : Value) (w23 : Value) (w24 : Value) (w25 : Value) (w26 : Value) (w27 : Value) (w28 : Value) (w29 : Value) (w30 : Value) (w31 : Value) (w32 : Value) (w33 : Value) (w34 : Value) (kg1 : ClassId) (kg2 : ClassId)  : Met l yX9_nextHead (wq yX9_nextHead cX9_nextHead 4 (some .int)) ({ frames := 0, cells := 0, slots := 0, locals := 0 }) (va_Pc [.ref h0] (pcW dC dI [(kg1, .int), (kg2, .int)] [(h0, .inr (8, [w0, w1, w2, w3, w4, w5, w6, w7, w8, .ref g1, .ref g2, .int 1, w12, w13, w14, w15, w16, w17, w18, w19, w20, w21, w22, w23, w24, w25, w26, w27, w28, w29, w30, w31, w32, w33, w34])), (g1, .inl (kg1, 4, .inl (fun _ => 0))), (g2, .inl (kg2, 4, .inl (fun _ => 0)))] sz)) (va_Qi (fun (r : Int32) (_ : Unit) => r = (-6)) (fun _ _ => True) (fun q : Nat => sz ≤ q)) 0 0 (fun q : Nat => sz ≤ q) := by
  refine Met.ofW (cc := cX9_nextHead) (maxL := 4) (ret := (some .int)) (by decide) rfl ?_
  intro p e s m args below meth c s₁ B hml hv
  obtain ⟨rfl, hsz, hN, hP, hK, hD0⟩ := hv
  have hx := B.exec
  have hb := B.bytes
  have hr := B.returns
  have hts0 := atoms_spec (ws := (wq yX9_nextHead cX9_nextHead 4 (some .int))) B.pre
  have hts : ∀ w ∈ BG, w.before _ s = true := fun w h => hts0 w (List.mem_cons_of_mem _ h)
  have hown : s.vm.findClass RX9 = some m.cls := findClass_of_methodNamed B.named
  have hlocks := B.notSynchronized
  subst hsz
  have hA : ∀ q : Nat, s.heap.size ≤ q → (fun q : Nat => s.heap.size ≤ q) q := fun _ h => h
  have hD := hD0
  have hS : va_S (fun q : Nat => s.heap.size ≤ q) s.heap s.heap [] := va_S.rf
  have hP : va_P (dC, dI) vwCl [(h0, .inr (8, [w0, w1, w2, w3, w4, w5, w6, w7, w8, .ref g1, .ref g2, .int 1, w12, w13, w14, w15, w16, w17, w18, w19, w20, w21, w22, w23, w24, w25, w26, w27, w28, w29, w30, w31, w32, w33, w34])), (g1, .inl (kg1, 4, .inl (fun _ => 0))), (g2, .inl (kg2, 4, .inl (fun _ => 0)))] s.heap := hP
  have hl := lv_entry ([.ref h0]) (n := 4) (Nat.le_of_ble_eq_true rfl)
  rw [lg_entry_eq]
  generalize (lg_sl ([.ref h0]) ++ List.replicate (4 - (lg_sl ([.ref h0])).length) Slot.unset).toArray = ls at hl ⊢
  have hl : lv_has ls 4 [(0, .ref h0)] := hl
  skip
  refine lv_bipush (v := (-6)) hx hb dX9_nextHead_0 (by decide) ?_
  refine lv_istore_n (lv' := [(1, .int (-6)), (0, .ref h0)]) hx hb dX9_nextHead_2 rfl hl (by decide) rfl (fun ls hl => ?_)
  refine lv_iconst (v := 0) hx hb dX9_nextHead_3 (by decide) ?_
  refine lv_istore_n (lv' := [(2, .int 0), (1, .int (-6)), (0, .ref h0)]) hx hb dX9_nextHead_4 rfl hl (by decide) rfl (fun ls hl => ?_)
  refine lv_iload_n hx hb dX9_nextHead_5 rfl (lv_at hl 0 rfl) ?_
  refine lv_aload_n hx hb dX9_nextHead_6 rfl (lv_at hl 2 rfl) ?_
  refine va_get (D := (dC, dI)) (ci := 8) (v := .int 1) (C := RX9) (T := TX9) (N := 35) hx hb hts inB_9 hown hK hP 0 rfl rfl 11 (by decide) (hts _ mw_3_193) (fun _ h9 => h9) rfl dX9_nextHead_7 ?_
  refine lv_icmp_ge (tgt := 93) hx hb dX9_nextHead_10 (by decide) (fun h => absurd h (by decide)) (fun _ => ?_)
  refine lv_iload_n hx hb dX9_nextHead_13 rfl (lv_at hl 1 rfl) ?_
  refine lv_if_ge (tgt := 93) hx hb dX9_nextHead_14 (by decide) (fun h => absurd h (by decide)) (fun _ => ?_)
  refine lv_aload_n hx hb dX9_nextHead_17 rfl (lv_at hl 2 rfl) ?_
  refine va_get (D := (dC, dI)) (ci := 8) (v := .ref g1) (C := RX9) (T := TX9) (N := 35) hx hb hts inB_9 hown hK hP 0 rfl rfl 9 (by decide) (hts _ mw_3_191) (fun _ h9 => h9) rfl dX9_nextHead_18 ?_
  refine lv_iload_n hx hb dX9_nextHead_21 rfl (lv_at hl 0 rfl) ?_
  refine va_iald hx hb hK hP 1 0 rfl rfl (show vp_in 0 4 by unfold vp_in; decide) dX9_nextHead_22 ?_
  refine hx_top (y := 0) rfl ?_
  refine lv_aload_n hx hb dX9_nextHead_23 rfl (lv_at hl 2 rfl) ?_
  refine va_get (D := (dC, dI)) (ci := 8) (v := .ref g2) (C := RX9) (T := TX9) (N := 35) hx hb hts inB_9 hown hK hP 0 rfl rfl 10 (by decide) (hts _ mw_3_192) (fun _ h9 => h9) rfl dX9_nextHead_24 ?_
  refine lv_iload_n hx hb dX9_nextHead_27 rfl (lv_at hl 0 rfl) ?_
  refine va_iald hx hb hK hP 2 1 rfl rfl (show vp_in 0 4 by unfold vp_in; decide) dX9_nextHead_28 ?_
  refine hx_top (y := 0) rfl ?_
  refine lv_icmp_ge (tgt := 59) hx hb dX9_nextHead_29 (by decide) (fun _ => ?_) (fun h => absurd (by decide) h)
  refine lv_iconst (v := 0) hx hb dX9_nextHead_59 (by decide) ?_
  refine lv_istore_n (lv' := [(3, .int 0), (2, .int 0), (1, .int (-6)), (0, .ref h0)]) hx hb dX9_nextHead_60 rfl hl (by decide) rfl (fun ls hl => ?_)
  refine lv_iload_n hx hb dX9_nextHead_61 rfl (lv_at hl 0 rfl) ?_
  refine lv_if_eq (tgt := 84) hx hb dX9_nextHead_62 (by decide) (fun _ => ?_) (fun h => absurd (by decide) h)
  refine lv_bipush (v := (-6)) hx hb dX9_nextHead_84 (by decide) ?_
  refine lv_istore_n (lv' := [(1, .int (-6)), (3, .int 0), (2, .int 0), (0, .ref h0)]) hx hb dX9_nextHead_86 rfl hl (by decide) rfl (fun ls hl => ?_)
  refine lv_iinc (v := 1) (lv' := [(2, .int 1), (1, .int (-6)), (3, .int 0), (0, .ref h0)]) hx hb dX9_nextHead_87 hl (k := 2) rfl (by decide) (by decide) rfl (fun ls hl => ?_)
  refine lv_goto (tgt := 5) hx hb dX9_nextHead_90 (by decide) ?_
  refine lv_iload_n hx hb dX9_nextHead_5 rfl (lv_at hl 0 rfl) ?_
  refine lv_aload_n hx hb dX9_nextHead_6 rfl (lv_at hl 3 rfl) ?_
  refine va_get (D := (dC, dI)) (ci := 8) (v := .int 1) (C := RX9) (T := TX9) (N := 35) hx hb hts inB_9 hown hK hP 0 rfl rfl 11 (by decide) (hts _ mw_3_193) (fun _ h9 => h9) rfl dX9_nextHead_7 ?_
  refine lv_icmp_ge (tgt := 93) hx hb dX9_nextHead_10 (by decide) (fun _ => ?_) (fun h => absurd (by decide) h)
  refine lv_iload_n hx hb dX9_nextHead_93 rfl (lv_at hl 1 rfl) ?_
  exact W.iret (v := (-6)) hx hb hr (fun t ht hW => ⟨⟨(-6), (), rfl, rfl, trivial⟩, hS.F ht⟩) hS.2.2 dX9_nextHead_94
set_option maxHeartbeats 4000000 in
set_option maxRecDepth 100000 in
theorem m_layLine (l : Launch) (dC : Nat → ClassId) (dI : Nat → Nat → Nat) (sz : Nat) (h0 : Nat) (w0 : Value) (l3 : Nat) (w2 : Value) (w3 : Value) (w4 : Value) (l4 : Nat) (l1 : Nat) (l2 : Nat) (w8 : Value) (g1 : Nat) (g2 : Nat) (rm : Int32) (w12 : Value) (w13 : Value) (w14 : Value) (w15 : Value) (w16 : Value) (w17 : Value) (w18 : Value) (w19 : Value) (w20 : Value) (w21 : Value) (w22 : Value) (w23 : Value) (w24 : Value) (w25 : Value) (w26 : Value) (w27 : Value) (w28 : Value) (w29 : Value) (w30 : Value) (w31 : Value) (w32 : Value) (w33 : Value) (w34 : Value) (kl1 : ClassId) (kl2 : ClassId) (kl3 : ClassId) (kl4 : ClassId) (kg1 : ClassId) (kg2 : ClassId)  : Met l yX9_layLine (wq yX9_layLine cX9_layLine 5 none) ({ frames := 1, cells := 0, slots := 0, locals := 23 }) (va_Pc [.ref h0, .int 0] (pcW dC dI [(kl1, .int), (kl2, .int), (kl3, .int), (kl4, .int), (kg1, .int), (kg2, .int)] [(h0, .inr (8, [w0, .ref l3, w2, w3, w4, .ref l4, .ref l1, .ref l2, w8, .ref g1, .ref g2, .int rm, w12, w13, w14, w15, w16, w17, w18, w19, w20, w21, w22, w23, w24, w25, w26, w27, w28, w29, w30, w31, w32, w33, w34])), (l1, .inl (kl1, 10, .inl (fun _ => 0))), (l2, .inl (kl2, 10, .inl (fun _ => 0))), (l3, .inl (kl3, 10, .inl (fun _ => 0))), (l4, .inl (kl4, 100, .inl (fun _ => 0))), (g1, .inl (kg1, 4, .inl (fun _ => 0))), (g2, .inl (kg2, 4, .inl (fun _ => 0)))] sz)) (va_Qv (fun _ : Unit => True) (fun _ t => va_P (dC, dI) vwCl [(h0, .inr (8, [w0, .ref l3, w2, w3, w4, .ref l4, .ref l1, .ref l2, w8, .ref g1, .ref g2, .int 1, w12, w13, w14, w15, w16, w17, w18, w19, w20, w21, w22, w23, w24, w25, w26, w27, w28, w29, w30, w31, w32, w33, w34])), (l1, .inl (kl1, 10, .inl (slF 1 0 1))), (l2, .inl (kl2, 10, .inl (fun _ => 0))), (l3, .inl (kl3, 10, .inl (fun _ => 0))), (l4, .inl (kl4, 100, .inl (fun _ => 0))), (g1, .inl (kg1, 4, .inl (fun _ => 0))), (g2, .inl (kg2, 4, .inl (fun _ => 0)))] t.heap ∧ va_K (dC, dI) vwCl [(kl1, .int), (kl2, .int), (kl3, .int), (kl4, .int), (kg1, .int), (kg2, .int)] t ∧ va_D (va_A [(h0, .inr (8, [w0, .ref l3, w2, w3, w4, .ref l4, .ref l1, .ref l2, w8, .ref g1, .ref g2, .int rm, w12, w13, w14, w15, w16, w17, w18, w19, w20, w21, w22, w23, w24, w25, w26, w27, w28, w29, w30, w31, w32, w33, w34])), (l1, .inl (kl1, 10, .inl (fun _ => 0))), (l2, .inl (kl2, 10, .inl (fun _ => 0))), (l3, .inl (kl3, 10, .inl (fun _ => 0))), (l4, .inl (kl4, 100, .inl (fun _ => 0))), (g1, .inl (kg1, 4, .inl (fun _ => 0))), (g2, .inl (kg2, 4, .inl (fun _ => 0)))] sz) [(h0, .inr (8, [w0, .ref l3, w2, w3, w4, .ref l4, .ref l1, .ref l2, w8, .ref g1, .ref g2, .int 1, w12, w13, w14, w15, w16, w17, w18, w19, w20, w21, w22, w23, w24, w25, w26, w27, w28, w29, w30, w31, w32, w33, w34])), (l1, .inl (kl1, 10, .inl (slF 1 0 1))), (l2, .inl (kl2, 10, .inl (fun _ => 0))), (l3, .inl (kl3, 10, .inl (fun _ => 0))), (l4, .inl (kl4, 100, .inl (fun _ => 0))), (g1, .inl (kg1, 4, .inl (fun _ => 0))), (g2, .inl (kg2, 4, .inl (fun _ => 0)))]) (va_A [(h0, .inr (8, [w0, .ref l3, w2, w3, w4, .ref l4, .ref l1, .ref l2, w8, .ref g1, .ref g2, .int rm, w12, w13, w14, w15, w16, w17, w18, w19, w20, w21, w22, w23, w24, w25, w26, w27, w28, w29, w30, w31, w32, w33, w34])), (l1, .inl (kl1, 10, .inl (fun _ => 0))), (l2, .inl (kl2, 10, .inl (fun _ => 0))), (l3, .inl (kl3, 10, .inl (fun _ => 0))), (l4, .inl (kl4, 100, .inl (fun _ => 0))), (g1, .inl (kg1, 4, .inl (fun _ => 0))), (g2, .inl (kg2, 4, .inl (fun _ => 0)))] sz)) 0 0 (va_A [(h0, .inr (8, [w0, .ref l3, w2, w3, w4, .ref l4, .ref l1, .ref l2, w8, .ref g1, .ref g2, .int rm, w12, w13, w14, w15, w16, w17, w18, w19, w20, w21, w22, w23, w24, w25, w26, w27, w28, w29, w30, w31, w32, w33, w34])), (l1, .inl (kl1, 10, .inl (fun _ => 0))), (l2, .inl (kl2, 10, .inl (fun _ => 0))), (l3, .inl (kl3, 10, .inl (fun _ => 0))), (l4, .inl (kl4, 100, .inl (fun _ => 0))), (g1, .inl (kg1, 4, .inl (fun _ => 0))), (g2, .inl (kg2, 4, .inl (fun _ => 0)))] sz) := by
  refine Met.ofW (cc := cX9_layLine) (maxL := 5) (ret := none) (by decide) rfl ?_
  intro p e s m args below meth c s₁ B hml hv
  obtain ⟨rfl, hsz, hN, hP, hK, hD0⟩ := hv
  have hx := B.exec
  have hb := B.bytes
  have hr := B.returns
  have hts0 := atoms_spec (ws := (wq yX9_layLine cX9_layLine 5 none)) B.pre
  have hts : ∀ w ∈ BG, w.before _ s = true := fun w h => hts0 w (List.mem_cons_of_mem _ h)
  have hown : s.vm.findClass RX9 = some m.cls := findClass_of_methodNamed B.named
  have hlocks := B.notSynchronized
  subst hsz
  have hD := hD0.self (sz := s.heap.size)
  generalize hAe : va_A [(h0, .inr (8, [w0, .ref l3, w2, w3, w4, .ref l4, .ref l1, .ref l2, w8, .ref g1, .ref g2, .int rm, w12, w13, w14, w15, w16, w17, w18, w19, w20, w21, w22, w23, w24, w25, w26, w27, w28, w29, w30, w31, w32, w33, w34])), (l1, .inl (kl1, 10, .inl (fun _ => 0))), (l2, .inl (kl2, 10, .inl (fun _ => 0))), (l3, .inl (kl3, 10, .inl (fun _ => 0))), (l4, .inl (kl4, 100, .inl (fun _ => 0))), (g1, .inl (kg1, 4, .inl (fun _ => 0))), (g2, .inl (kg2, 4, .inl (fun _ => 0)))] s.heap.size = A at hD ⊢
  have hA : ∀ q : Nat, s.heap.size ≤ q → A q := fun q h => by rw [← hAe]; exact Or.inr h
  have hS : va_S A s.heap s.heap [] := va_S.rf
  have hP : va_P (dC, dI) vwCl [(h0, .inr (8, [w0, .ref l3, w2, w3, w4, .ref l4, .ref l1, .ref l2, w8, .ref g1, .ref g2, .int rm, w12, w13, w14, w15, w16, w17, w18, w19, w20, w21, w22, w23, w24, w25, w26, w27, w28, w29, w30, w31, w32, w33, w34])), (l1, .inl (kl1, 10, .inl (fun _ => 0))), (l2, .inl (kl2, 10, .inl (fun _ => 0))), (l3, .inl (kl3, 10, .inl (fun _ => 0))), (l4, .inl (kl4, 100, .inl (fun _ => 0))), (g1, .inl (kg1, 4, .inl (fun _ => 0))), (g2, .inl (kg2, 4, .inl (fun _ => 0)))] s.heap := hP
  have hl := lv_entry ([.ref h0, .int 0]) (n := 5) (Nat.le_of_ble_eq_true rfl)
  rw [lg_entry_eq]
  generalize (lg_sl ([.ref h0, .int 0]) ++ List.replicate (5 - (lg_sl ([.ref h0, .int 0])).length) Slot.unset).toArray = ls at hl ⊢
  have hl : lv_has ls 5 [(0, .ref h0), (1, .int 0)] := hl
  skip
  refine lv_aload_n hx hb dX9_layLine_0 rfl (lv_at hl 0 rfl) ?_
  refine va_get (D := (dC, dI)) (ci := 8) (v := .ref l1) (C := RX9) (T := TX9) (N := 35) hx hb hts inB_9 hown hK hP 0 rfl rfl 6 (by decide) (hts _ mw_3_188) (fun _ h9 => h9) rfl dX9_layLine_1 ?_
  refine lv_iload_n hx hb dX9_layLine_4 rfl (lv_at hl 1 rfl) ?_
  refine lv_iconst (v := 0) hx hb dX9_layLine_5 (by decide) ?_
  refine va_iast hx hb hK hP hD hS 1 0 rfl rfl (show vp_in 0 10 by unfold vp_in; decide) dX9_layLine_6 (fun H locs hP hD hS => ?_)
  rw [show upd (fun _ => 0) (Int32.toNatClampNeg 0) 0 = (fun _ => 0) from upd_const _ _] at hP hD
  have hP : va_P (dC, dI) vwCl [(h0, .inr (8, [w0, .ref l3, w2, w3, w4, .ref l4, .ref l1, .ref l2, w8, .ref g1, .ref g2, .int rm, w12, w13, w14, w15, w16, w17, w18, w19, w20, w21, w22, w23, w24, w25, w26, w27, w28, w29, w30, w31, w32, w33, w34])), (l1, .inl (kl1, 10, .inl (fun _ => 0))), (l2, .inl (kl2, 10, .inl (fun _ => 0))), (l3, .inl (kl3, 10, .inl (fun _ => 0))), (l4, .inl (kl4, 100, .inl (fun _ => 0))), (g1, .inl (kg1, 4, .inl (fun _ => 0))), (g2, .inl (kg2, 4, .inl (fun _ => 0)))] H := hP
  have hD : va_D A [(h0, .inr (8, [w0, .ref l3, w2, w3, w4, .ref l4, .ref l1, .ref l2, w8, .ref g1, .ref g2, .int rm, w12, w13, w14, w15, w16, w17, w18, w19, w20, w21, w22, w23, w24, w25, w26, w27, w28, w29, w30, w31, w32, w33, w34])), (l1, .inl (kl1, 10, .inl (fun _ => 0))), (l2, .inl (kl2, 10, .inl (fun _ => 0))), (l3, .inl (kl3, 10, .inl (fun _ => 0))), (l4, .inl (kl4, 100, .inl (fun _ => 0))), (g1, .inl (kg1, 4, .inl (fun _ => 0))), (g2, .inl (kg2, 4, .inl (fun _ => 0)))] := hD
  refine lv_aload_n hx hb dX9_layLine_7 rfl (lv_at hl 0 rfl) ?_
  refine va_get (D := (dC, dI)) (ci := 8) (v := .ref l2) (C := RX9) (T := TX9) (N := 35) hx hb hts inB_9 hown hK hP 0 rfl rfl 7 (by decide) (hts _ mw_3_189) (fun _ h9 => h9) rfl dX9_layLine_8 ?_
  refine lv_iload_n hx hb dX9_layLine_11 rfl (lv_at hl 1 rfl) ?_
  refine lv_iconst (v := 0) hx hb dX9_layLine_12 (by decide) ?_
  refine va_iast hx hb hK hP hD hS 2 1 rfl rfl (show vp_in 0 10 by unfold vp_in; decide) dX9_layLine_13 (fun H locs hP hD hS => ?_)
  rw [show upd (fun _ => 0) (Int32.toNatClampNeg 0) 0 = (fun _ => 0) from upd_const _ _] at hP hD
  have hP : va_P (dC, dI) vwCl [(h0, .inr (8, [w0, .ref l3, w2, w3, w4, .ref l4, .ref l1, .ref l2, w8, .ref g1, .ref g2, .int rm, w12, w13, w14, w15, w16, w17, w18, w19, w20, w21, w22, w23, w24, w25, w26, w27, w28, w29, w30, w31, w32, w33, w34])), (l1, .inl (kl1, 10, .inl (fun _ => 0))), (l2, .inl (kl2, 10, .inl (fun _ => 0))), (l3, .inl (kl3, 10, .inl (fun _ => 0))), (l4, .inl (kl4, 100, .inl (fun _ => 0))), (g1, .inl (kg1, 4, .inl (fun _ => 0))), (g2, .inl (kg2, 4, .inl (fun _ => 0)))] H := hP
  have hD : va_D A [(h0, .inr (8, [w0, .ref l3, w2, w3, w4, .ref l4, .ref l1, .ref l2, w8, .ref g1, .ref g2, .int rm, w12, w13, w14, w15, w16, w17, w18, w19, w20, w21, w22, w23, w24, w25, w26, w27, w28, w29, w30, w31, w32, w33, w34])), (l1, .inl (kl1, 10, .inl (fun _ => 0))), (l2, .inl (kl2, 10, .inl (fun _ => 0))), (l3, .inl (kl3, 10, .inl (fun _ => 0))), (l4, .inl (kl4, 100, .inl (fun _ => 0))), (g1, .inl (kg1, 4, .inl (fun _ => 0))), (g2, .inl (kg2, 4, .inl (fun _ => 0)))] := hD
  refine lv_aload_n hx hb dX9_layLine_14 rfl (lv_at hl 0 rfl) ?_
  refine lv_aload_n hx hb dX9_layLine_15 rfl (lv_at hl 0 rfl) ?_
  refine va_get (D := (dC, dI)) (ci := 8) (v := .ref l3) (C := RX9) (T := TX9) (N := 35) hx hb hts inB_9 hown hK hP 0 rfl rfl 1 (by decide) (hts _ mw_3_183) (fun _ h9 => h9) rfl dX9_layLine_16 ?_
  refine lv_iload_n hx hb dX9_layLine_19 rfl (lv_at hl 1 rfl) ?_
  refine va_iald hx hb hK hP 3 2 rfl rfl (show vp_in 0 10 by unfold vp_in; decide) dX9_layLine_20 ?_
  refine hx_top (y := 0) rfl ?_
  refine lv_iconst (v := 1) hx hb dX9_layLine_21 (by decide) ?_
  refine lv_iadd hx hb dX9_layLine_22 ?_
  refine hx_top (y := 1) (by decide) ?_
  refine va_put (D := (dC, dI)) (ci := 8) (v := .int 1) (ty := .int) (C := RX9) (T := TX9) (N := 35) hx hb hts inB_9 tyX9 tyX9_ok nmX9 hown hK hP hD hS 0 rfl rfl 11 (by decide) (hts _ mw_3_193) (fun _ h9 => h9) rfl (by decide +kernel) rfl rfl (Nat.le_of_ble_eq_true rfl) dX9_layLine_23 (fun H locs hP hD hS => ?_)
  have hP : va_P (dC, dI) vwCl [(h0, .inr (8, [w0, .ref l3, w2, w3, w4, .ref l4, .ref l1, .ref l2, w8, .ref g1, .ref g2, .int 1, w12, w13, w14, w15, w16, w17, w18, w19, w20, w21, w22, w23, w24, w25, w26, w27, w28, w29, w30, w31, w32, w33, w34])), (l1, .inl (kl1, 10, .inl (fun _ => 0))), (l2, .inl (kl2, 10, .inl (fun _ => 0))), (l3, .inl (kl3, 10, .inl (fun _ => 0))), (l4, .inl (kl4, 100, .inl (fun _ => 0))), (g1, .inl (kg1, 4, .inl (fun _ => 0))), (g2, .inl (kg2, 4, .inl (fun _ => 0)))] H := hP
  have hD : va_D A [(h0, .inr (8, [w0, .ref l3, w2, w3, w4, .ref l4, .ref l1, .ref l2, w8, .ref g1, .ref g2, .int 1, w12, w13, w14, w15, w16, w17, w18, w19, w20, w21, w22, w23, w24, w25, w26, w27, w28, w29, w30, w31, w32, w33, w34])), (l1, .inl (kl1, 10, .inl (fun _ => 0))), (l2, .inl (kl2, 10, .inl (fun _ => 0))), (l3, .inl (kl3, 10, .inl (fun _ => 0))), (l4, .inl (kl4, 100, .inl (fun _ => 0))), (g1, .inl (kg1, 4, .inl (fun _ => 0))), (g2, .inl (kg2, 4, .inl (fun _ => 0)))] := hD
  refine lv_iconst (v := 0) hx hb dX9_layLine_26 (by decide) ?_
  refine lv_istore_n (lv' := [(2, .int 0), (0, .ref h0), (1, .int 0)]) hx hb dX9_layLine_27 rfl hl (by decide) rfl (fun ls hl => ?_)
  refine lv_iload_n hx hb dX9_layLine_28 rfl (lv_at hl 0 rfl) ?_
  refine lv_aload_n hx hb dX9_layLine_29 rfl (lv_at hl 1 rfl) ?_
  refine va_get (D := (dC, dI)) (ci := 8) (v := .ref l3) (C := RX9) (T := TX9) (N := 35) hx hb hts inB_9 hown hK hP 0 rfl rfl 1 (by decide) (hts _ mw_3_183) (fun _ h9 => h9) rfl dX9_layLine_30 ?_
  refine lv_iload_n hx hb dX9_layLine_33 rfl (lv_at hl 2 rfl) ?_
  refine va_iald hx hb hK hP 3 2 rfl rfl (show vp_in 0 10 by unfold vp_in; decide) dX9_layLine_34 ?_
  refine hx_top (y := 0) rfl ?_
  refine lv_icmp_ge (tgt := 153) hx hb dX9_layLine_35 (by decide) (fun _ => ?_) (fun h => absurd (by decide) h)
  refine lv_aload_n hx hb dX9_layLine_153 rfl (lv_at hl 1 rfl) ?_
  refine va_get (D := (dC, dI)) (ci := 8) (v := .ref g1) (C := RX9) (T := TX9) (N := 35) hx hb hts inB_9 hown hK hP 0 rfl rfl 9 (by decide) (hts _ mw_3_191) (fun _ h9 => h9) rfl dX9_layLine_154 ?_
  refine lv_aload_n hx hb dX9_layLine_157 rfl (lv_at hl 1 rfl) ?_
  refine va_get (D := (dC, dI)) (ci := 8) (v := .ref l3) (C := RX9) (T := TX9) (N := 35) hx hb hts inB_9 hown hK hP 0 rfl rfl 1 (by decide) (hts _ mw_3_183) (fun _ h9 => h9) rfl dX9_layLine_158 ?_
  refine lv_iload_n hx hb dX9_layLine_161 rfl (lv_at hl 2 rfl) ?_
  refine va_iald hx hb hK hP 3 2 rfl rfl (show vp_in 0 10 by unfold vp_in; decide) dX9_layLine_162 ?_
  refine hx_top (y := 0) rfl ?_
  refine lv_iconst (v := 0) hx hb dX9_layLine_163 (by decide) ?_
  refine va_iast hx hb hK hP hD hS 5 4 rfl rfl (show vp_in 0 4 by unfold vp_in; decide) dX9_layLine_164 (fun H locs hP hD hS => ?_)
  rw [show upd (fun _ => 0) (Int32.toNatClampNeg 0) 0 = (fun _ => 0) from upd_const _ _] at hP hD
  have hP : va_P (dC, dI) vwCl [(h0, .inr (8, [w0, .ref l3, w2, w3, w4, .ref l4, .ref l1, .ref l2, w8, .ref g1, .ref g2, .int 1, w12, w13, w14, w15, w16, w17, w18, w19, w20, w21, w22, w23, w24, w25, w26, w27, w28, w29, w30, w31, w32, w33, w34])), (l1, .inl (kl1, 10, .inl (fun _ => 0))), (l2, .inl (kl2, 10, .inl (fun _ => 0))), (l3, .inl (kl3, 10, .inl (fun _ => 0))), (l4, .inl (kl4, 100, .inl (fun _ => 0))), (g1, .inl (kg1, 4, .inl (fun _ => 0))), (g2, .inl (kg2, 4, .inl (fun _ => 0)))] H := hP
  have hD : va_D A [(h0, .inr (8, [w0, .ref l3, w2, w3, w4, .ref l4, .ref l1, .ref l2, w8, .ref g1, .ref g2, .int 1, w12, w13, w14, w15, w16, w17, w18, w19, w20, w21, w22, w23, w24, w25, w26, w27, w28, w29, w30, w31, w32, w33, w34])), (l1, .inl (kl1, 10, .inl (fun _ => 0))), (l2, .inl (kl2, 10, .inl (fun _ => 0))), (l3, .inl (kl3, 10, .inl (fun _ => 0))), (l4, .inl (kl4, 100, .inl (fun _ => 0))), (g1, .inl (kg1, 4, .inl (fun _ => 0))), (g2, .inl (kg2, 4, .inl (fun _ => 0)))] := hD
  refine lv_aload_n hx hb dX9_layLine_165 rfl (lv_at hl 1 rfl) ?_
  refine va_get (D := (dC, dI)) (ci := 8) (v := .ref g2) (C := RX9) (T := TX9) (N := 35) hx hb hts inB_9 hown hK hP 0 rfl rfl 10 (by decide) (hts _ mw_3_192) (fun _ h9 => h9) rfl dX9_layLine_166 ?_
  refine lv_aload_n hx hb dX9_layLine_169 rfl (lv_at hl 1 rfl) ?_
  refine va_get (D := (dC, dI)) (ci := 8) (v := .ref l3) (C := RX9) (T := TX9) (N := 35) hx hb hts inB_9 hown hK hP 0 rfl rfl 1 (by decide) (hts _ mw_3_183) (fun _ h9 => h9) rfl dX9_layLine_170 ?_
  refine lv_iload_n hx hb dX9_layLine_173 rfl (lv_at hl 2 rfl) ?_
  refine va_iald hx hb hK hP 3 2 rfl rfl (show vp_in 0 10 by unfold vp_in; decide) dX9_layLine_174 ?_
  refine hx_top (y := 0) rfl ?_
  refine lv_aload_n hx hb dX9_layLine_175 rfl (lv_at hl 1 rfl) ?_
  refine va_get (D := (dC, dI)) (ci := 8) (v := .ref l3) (C := RX9) (T := TX9) (N := 35) hx hb hts inB_9 hown hK hP 0 rfl rfl 1 (by decide) (hts _ mw_3_183) (fun _ h9 => h9) rfl dX9_layLine_176 ?_
  refine lv_iload_n hx hb dX9_layLine_179 rfl (lv_at hl 2 rfl) ?_
  refine va_iald hx hb hK hP 3 2 rfl rfl (show vp_in 0 10 by unfold vp_in; decide) dX9_layLine_180 ?_
  refine hx_top (y := 0) rfl ?_
  refine va_iast hx hb hK hP hD hS 6 5 rfl rfl (show vp_in 0 4 by unfold vp_in; decide) dX9_layLine_181 (fun H locs hP hD hS => ?_)
  rw [show upd (fun _ => 0) (Int32.toNatClampNeg 0) 0 = (fun _ => 0) from upd_const _ _] at hP hD
  have hP : va_P (dC, dI) vwCl [(h0, .inr (8, [w0, .ref l3, w2, w3, w4, .ref l4, .ref l1, .ref l2, w8, .ref g1, .ref g2, .int 1, w12, w13, w14, w15, w16, w17, w18, w19, w20, w21, w22, w23, w24, w25, w26, w27, w28, w29, w30, w31, w32, w33, w34])), (l1, .inl (kl1, 10, .inl (fun _ => 0))), (l2, .inl (kl2, 10, .inl (fun _ => 0))), (l3, .inl (kl3, 10, .inl (fun _ => 0))), (l4, .inl (kl4, 100, .inl (fun _ => 0))), (g1, .inl (kg1, 4, .inl (fun _ => 0))), (g2, .inl (kg2, 4, .inl (fun _ => 0)))] H := hP
  have hD : va_D A [(h0, .inr (8, [w0, .ref l3, w2, w3, w4, .ref l4, .ref l1, .ref l2, w8, .ref g1, .ref g2, .int 1, w12, w13, w14, w15, w16, w17, w18, w19, w20, w21, w22, w23, w24, w25, w26, w27, w28, w29, w30, w31, w32, w33, w34])), (l1, .inl (kl1, 10, .inl (fun _ => 0))), (l2, .inl (kl2, 10, .inl (fun _ => 0))), (l3, .inl (kl3, 10, .inl (fun _ => 0))), (l4, .inl (kl4, 100, .inl (fun _ => 0))), (g1, .inl (kg1, 4, .inl (fun _ => 0))), (g2, .inl (kg2, 4, .inl (fun _ => 0)))] := hD
  refine lv_aload_n hx hb dX9_layLine_182 rfl (lv_at hl 1 rfl) ?_
  refine va_get (D := (dC, dI)) (ci := 8) (v := .ref l4) (C := RX9) (T := TX9) (N := 35) hx hb hts inB_9 hown hK hP 0 rfl rfl 5 (by decide) (hts _ mw_3_187) (fun _ h9 => h9) rfl dX9_layLine_183 ?_
  refine lv_bipush (v := 10) hx hb dX9_layLine_186 (by decide) ?_
  refine lv_iload_n hx hb dX9_layLine_188 rfl (lv_at hl 2 rfl) ?_
  refine lv_imul hx hb dX9_layLine_189 ?_
  refine hx_top (y := 0) (by decide) ?_
  refine lv_iload_n hx hb dX9_layLine_190 rfl (lv_at hl 2 rfl) ?_
  refine va_iast hx hb hK hP hD hS 4 3 rfl rfl (show vp_in 0 100 by unfold vp_in; decide) dX9_layLine_191 (fun H locs hP hD hS => ?_)
  rw [show upd (fun _ => 0) (Int32.toNatClampNeg 0) 0 = (fun _ => 0) from upd_const _ _] at hP hD
  have hP : va_P (dC, dI) vwCl [(h0, .inr (8, [w0, .ref l3, w2, w3, w4, .ref l4, .ref l1, .ref l2, w8, .ref g1, .ref g2, .int 1, w12, w13, w14, w15, w16, w17, w18, w19, w20, w21, w22, w23, w24, w25, w26, w27, w28, w29, w30, w31, w32, w33, w34])), (l1, .inl (kl1, 10, .inl (fun _ => 0))), (l2, .inl (kl2, 10, .inl (fun _ => 0))), (l3, .inl (kl3, 10, .inl (fun _ => 0))), (l4, .inl (kl4, 100, .inl (fun _ => 0))), (g1, .inl (kg1, 4, .inl (fun _ => 0))), (g2, .inl (kg2, 4, .inl (fun _ => 0)))] H := hP
  have hD : va_D A [(h0, .inr (8, [w0, .ref l3, w2, w3, w4, .ref l4, .ref l1, .ref l2, w8, .ref g1, .ref g2, .int 1, w12, w13, w14, w15, w16, w17, w18, w19, w20, w21, w22, w23, w24, w25, w26, w27, w28, w29, w30, w31, w32, w33, w34])), (l1, .inl (kl1, 10, .inl (fun _ => 0))), (l2, .inl (kl2, 10, .inl (fun _ => 0))), (l3, .inl (kl3, 10, .inl (fun _ => 0))), (l4, .inl (kl4, 100, .inl (fun _ => 0))), (g1, .inl (kg1, 4, .inl (fun _ => 0))), (g2, .inl (kg2, 4, .inl (fun _ => 0)))] := hD
  refine lv_iconst (v := 1) hx hb dX9_layLine_192 (by decide) ?_
  refine lv_istore_n (lv' := [(2, .int 1), (0, .ref h0), (1, .int 0)]) hx hb dX9_layLine_193 rfl hl (by decide) rfl (fun ls hl => ?_)
  refine lv_aload_n hx hb dX9_layLine_194 rfl (lv_at hl 1 rfl) ?_
  have hPc := hP.sub (ws' := [(h0, .inr (8, [w0, .ref l3, w2, w3, w4, .ref l4, .ref l1, .ref l2, w8, .ref g1, .ref g2, .int 1, w12, w13, w14, w15, w16, w17, w18, w19, w20, w21, w22, w23, w24, w25, w26, w27, w28, w29, w30, w31, w32, w33, w34])), (g1, .inl (kg1, 4, .inl (fun _ => 0))), (g2, .inl (kg2, 4, .inl (fun _ => 0)))]) [0, 5, 6] rfl
  have hDc := hD.sub (ws' := [(h0, .inr (8, [w0, .ref l3, w2, w3, w4, .ref l4, .ref l1, .ref l2, w8, .ref g1, .ref g2, .int 1, w12, w13, w14, w15, w16, w17, w18, w19, w20, w21, w22, w23, w24, w25, w26, w27, w28, w29, w30, w31, w32, w33, w34])), (g1, .inl (kg1, 4, .inl (fun _ => 0))), (g2, .inl (kg2, 4, .inl (fun _ => 0)))]) [0, 5, 6] (by decide) rfl
  have hKc := hK.sub (tys' := [(kg1, .int), (kg2, .int)]) [4, 5] rfl
  refine va_calli (va_runV (As := []) (rest := []) ⟨hx, hb, hml, hown, hts⟩ (m_nextHead l dC dI H.size h0 (w0) (.ref l3) (w2) (w3) (w4) (.ref l4) (.ref l1) (.ref l2) (w8) g1 g2 (w12) (w13) (w14) (w15) (w16) (w17) (w18) (w19) (w20) (w21) (w22) (w23) (w24) (w25) (w26) (w27) (w28) (w29) (w30) (w31) (w32) (w33) (w34) kg1 kg2) (cwV 0 hts (gV mw_4_65 mw_4_67 mw_0_17 mw_1_9 mw_4_68) rfl rfl rfl (by decide +kernel) ⟨Nat.le_of_ble_eq_true rfl, Nat.le_of_ble_eq_true rfl⟩) ⟨pcW_blind, va_recv hKc hPc (ci := 8) (q0 := 0) rfl rfl, pcW_at hPc hKc hDc hN⟩ rfl rfl hl.1 rfl (lv_room (Nat.le_of_ble_eq_true rfl)) dX9_layLine_195 ⟨Nat.le_of_ble_eq_true rfl, Nat.le_of_ble_eq_true rfl⟩) hS (fun q h1 h2 => absurd h2 (Nat.not_le.mpr h1)) (fun q h => hA q (Nat.le_trans hS.1 h)) (fun r_1 u t H1 locs ht hvm hw_1 hB hz1 hk1 hS => ?_)
  have hP := keepP hP hk1
  clear hz1 hk1 hB ht hvm hPc hDc hKc
  generalize H1 = H at hP hS ⊢
  obtain rfl : r_1 = (-6) := hw_1
  refine lv_istore_n (lv' := [(3, .int (-6)), (2, .int 1), (0, .ref h0), (1, .int 0)]) hx hb dX9_layLine_198 rfl hl (by decide) rfl (fun ls hl => ?_)
  refine lv_iload_n hx hb dX9_layLine_199 rfl (lv_at hl 0 rfl) ?_
  refine lv_if_lt (tgt := 298) hx hb dX9_layLine_200 (by decide) (fun _ => ?_) (fun h => absurd (by decide) h)
  refine lv_iconst (v := 0) hx hb dX9_layLine_298 (by decide) ?_
  refine lv_istore (lv' := [(4, .int 0), (3, .int (-6)), (2, .int 1), (0, .ref h0), (1, .int 0)]) hx hb dX9_layLine_299 hl (by decide) rfl (fun ls hl => ?_)
  refine lv_iload hx hb dX9_layLine_301 (lv_at hl 0 rfl) ?_
  refine lv_aload_n hx hb dX9_layLine_303 rfl (lv_at hl 3 rfl) ?_
  refine va_get (D := (dC, dI)) (ci := 8) (v := .int 1) (C := RX9) (T := TX9) (N := 35) hx hb hts inB_9 hown hK hP 0 rfl rfl 11 (by decide) (hts _ mw_3_193) (fun _ h9 => h9) rfl dX9_layLine_304 ?_
  refine lv_icmp_ge (tgt := 366) hx hb dX9_layLine_307 (by decide) (fun h => absurd h (by decide)) (fun _ => ?_)
  refine lv_aload_n hx hb dX9_layLine_310 rfl (lv_at hl 3 rfl) ?_
  refine va_get (D := (dC, dI)) (ci := 8) (v := .ref l2) (C := RX9) (T := TX9) (N := 35) hx hb hts inB_9 hown hK hP 0 rfl rfl 7 (by decide) (hts _ mw_3_189) (fun _ h9 => h9) rfl dX9_layLine_311 ?_
  refine lv_iload_n hx hb dX9_layLine_314 rfl (lv_at hl 4 rfl) ?_
  refine lv_dup2_11 hx hb dX9_layLine_315 rfl rfl ?_
  refine va_iald hx hb hK hP 2 1 rfl rfl (show vp_in 0 10 by unfold vp_in; decide) dX9_layLine_316 ?_
  refine hx_top (y := 0) rfl ?_
  refine lv_aload_n hx hb dX9_layLine_317 rfl (lv_at hl 3 rfl) ?_
  refine va_get (D := (dC, dI)) (ci := 8) (v := .ref g1) (C := RX9) (T := TX9) (N := 35) hx hb hts inB_9 hown hK hP 0 rfl rfl 9 (by decide) (hts _ mw_3_191) (fun _ h9 => h9) rfl dX9_layLine_318 ?_
  refine lv_iload hx hb dX9_layLine_321 (lv_at hl 0 rfl) ?_
  refine va_iald hx hb hK hP 5 4 rfl rfl (show vp_in 0 4 by unfold vp_in; decide) dX9_layLine_323 ?_
  refine hx_top (y := 0) rfl ?_
  refine lv_aload_n hx hb dX9_layLine_324 rfl (lv_at hl 3 rfl) ?_
  refine va_get (D := (dC, dI)) (ci := 8) (v := .ref g2) (C := RX9) (T := TX9) (N := 35) hx hb hts inB_9 hown hK hP 0 rfl rfl 10 (by decide) (hts _ mw_3_192) (fun _ h9 => h9) rfl dX9_layLine_325 ?_
  refine lv_iload hx hb dX9_layLine_328 (lv_at hl 0 rfl) ?_
  refine va_iald hx hb hK hP 6 5 rfl rfl (show vp_in 0 4 by unfold vp_in; decide) dX9_layLine_330 ?_
  refine hx_top (y := 0) rfl ?_
  refine lv_icmp_ge (tgt := 357) hx hb dX9_layLine_331 (by decide) (fun _ => ?_) (fun h => absurd (by decide) h)
  refine lv_iconst (v := 0) hx hb dX9_layLine_357 (by decide) ?_
  refine lv_ior hx hb dX9_layLine_358 ?_
  refine hx_top (y := 0) (by decide) ?_
  refine va_iast hx hb hK hP hD hS 2 1 rfl rfl (show vp_in 0 10 by unfold vp_in; decide) dX9_layLine_359 (fun H locs hP hD hS => ?_)
  rw [show upd (fun _ => 0) (Int32.toNatClampNeg 0) 0 = (fun _ => 0) from upd_const _ _] at hP hD
  have hP : va_P (dC, dI) vwCl [(h0, .inr (8, [w0, .ref l3, w2, w3, w4, .ref l4, .ref l1, .ref l2, w8, .ref g1, .ref g2, .int 1, w12, w13, w14, w15, w16, w17, w18, w19, w20, w21, w22, w23, w24, w25, w26, w27, w28, w29, w30, w31, w32, w33, w34])), (l1, .inl (kl1, 10, .inl (fun _ => 0))), (l2, .inl (kl2, 10, .inl (fun _ => 0))), (l3, .inl (kl3, 10, .inl (fun _ => 0))), (l4, .inl (kl4, 100, .inl (fun _ => 0))), (g1, .inl (kg1, 4, .inl (fun _ => 0))), (g2, .inl (kg2, 4, .inl (fun _ => 0)))] H := hP
  have hD : va_D A [(h0, .inr (8, [w0, .ref l3, w2, w3, w4, .ref l4, .ref l1, .ref l2, w8, .ref g1, .ref g2, .int 1, w12, w13, w14, w15, w16, w17, w18, w19, w20, w21, w22, w23, w24, w25, w26, w27, w28, w29, w30, w31, w32, w33, w34])), (l1, .inl (kl1, 10, .inl (fun _ => 0))), (l2, .inl (kl2, 10, .inl (fun _ => 0))), (l3, .inl (kl3, 10, .inl (fun _ => 0))), (l4, .inl (kl4, 100, .inl (fun _ => 0))), (g1, .inl (kg1, 4, .inl (fun _ => 0))), (g2, .inl (kg2, 4, .inl (fun _ => 0)))] := hD
  refine lv_iinc (v := 1) (lv' := [(4, .int 1), (3, .int (-6)), (2, .int 1), (0, .ref h0), (1, .int 0)]) hx hb dX9_layLine_360 hl (k := 0) rfl (by decide) (by decide) rfl (fun ls hl => ?_)
  refine lv_goto (tgt := 301) hx hb dX9_layLine_363 (by decide) ?_
  refine lv_iload hx hb dX9_layLine_301 (lv_at hl 0 rfl) ?_
  refine lv_aload_n hx hb dX9_layLine_303 rfl (lv_at hl 3 rfl) ?_
  refine va_get (D := (dC, dI)) (ci := 8) (v := .int 1) (C := RX9) (T := TX9) (N := 35) hx hb hts inB_9 hown hK hP 0 rfl rfl 11 (by decide) (hts _ mw_3_193) (fun _ h9 => h9) rfl dX9_layLine_304 ?_
  refine lv_icmp_ge (tgt := 366) hx hb dX9_layLine_307 (by decide) (fun _ => ?_) (fun h => absurd (by decide) h)
  refine lv_aload_n hx hb dX9_layLine_366 rfl (lv_at hl 3 rfl) ?_
  refine va_get (D := (dC, dI)) (ci := 8) (v := .ref l1) (C := RX9) (T := TX9) (N := 35) hx hb hts inB_9 hown hK hP 0 rfl rfl 6 (by decide) (hts _ mw_3_188) (fun _ h9 => h9) rfl dX9_layLine_367 ?_
  refine lv_iload_n hx hb dX9_layLine_370 rfl (lv_at hl 4 rfl) ?_
  refine lv_aload_n hx hb dX9_layLine_371 rfl (lv_at hl 3 rfl) ?_
  refine va_get (D := (dC, dI)) (ci := 8) (v := .ref l2) (C := RX9) (T := TX9) (N := 35) hx hb hts inB_9 hown hK hP 0 rfl rfl 7 (by decide) (hts _ mw_3_189) (fun _ h9 => h9) rfl dX9_layLine_372 ?_
  refine lv_iload_n hx hb dX9_layLine_375 rfl (lv_at hl 4 rfl) ?_
  refine va_iald hx hb hK hP 2 1 rfl rfl (show vp_in 0 10 by unfold vp_in; decide) dX9_layLine_376 ?_
  refine hx_top (y := 0) rfl ?_
  refine lv_if_ne (tgt := 384) hx hb dX9_layLine_377 (by decide) (fun h => absurd h (by decide)) (fun _ => ?_)
  refine lv_iload_n hx hb dX9_layLine_380 rfl (lv_at hl 2 rfl) ?_
  refine lv_goto (tgt := 385) hx hb dX9_layLine_381 (by decide) ?_
  refine va_iast hx hb hK hP hD hS 1 0 rfl rfl (show vp_in 0 10 by unfold vp_in; decide) dX9_layLine_385 (fun H locs hP hD hS => ?_)
  rw [show upd (fun _ => 0) (Int32.toNatClampNeg 0) 1 = (slF 1 0 1) from slF_u0 _ _] at hP hD
  have hP : va_P (dC, dI) vwCl [(h0, .inr (8, [w0, .ref l3, w2, w3, w4, .ref l4, .ref l1, .ref l2, w8, .ref g1, .ref g2, .int 1, w12, w13, w14, w15, w16, w17, w18, w19, w20, w21, w22, w23, w24, w25, w26, w27, w28, w29, w30, w31, w32, w33, w34])), (l1, .inl (kl1, 10, .inl (slF 1 0 1))), (l2, .inl (kl2, 10, .inl (fun _ => 0))), (l3, .inl (kl3, 10, .inl (fun _ => 0))), (l4, .inl (kl4, 100, .inl (fun _ => 0))), (g1, .inl (kg1, 4, .inl (fun _ => 0))), (g2, .inl (kg2, 4, .inl (fun _ => 0)))] H := hP
  have hD : va_D A [(h0, .inr (8, [w0, .ref l3, w2, w3, w4, .ref l4, .ref l1, .ref l2, w8, .ref g1, .ref g2, .int 1, w12, w13, w14, w15, w16, w17, w18, w19, w20, w21, w22, w23, w24, w25, w26, w27, w28, w29, w30, w31, w32, w33, w34])), (l1, .inl (kl1, 10, .inl (slF 1 0 1))), (l2, .inl (kl2, 10, .inl (fun _ => 0))), (l3, .inl (kl3, 10, .inl (fun _ => 0))), (l4, .inl (kl4, 100, .inl (fun _ => 0))), (g1, .inl (kg1, 4, .inl (fun _ => 0))), (g2, .inl (kg2, 4, .inl (fun _ => 0)))] := hD
  exact W.vret hx hb hr (fun t ht hW => ⟨⟨(), rfl, trivial, by rw [ht]; exact hP, va_K.moved hW.alike hK, hD⟩, hS.F ht⟩) hS.2.2 dX9_layLine_386
set_option maxHeartbeats 4000000 in
set_option maxRecDepth 100000 in
theorem m_kind (l : Launch) (dC : Nat → ClassId) (dI : Nat → Nat → Nat) (sz : Nat) (h0 : Nat) (l5 : Nat) (l3 : Nat) (l6 : Nat) (l7 : Nat) (l4 : Nat) (l1 : Nat) (l2 : Nat) (w8 : Value) (g1 : Nat) (g2 : Nat) (rm : Int32) (w12 : Value) (w13 : Value) (w14 : Value) (w15 : Value) (w16 : Value) (w17 : Value) (w18 : Value) (w19 : Value) (w20 : Value) (w21 : Value) (w22 : Value) (w23 : Value) (w24 : Value) (w25 : Value) (w26 : Value) (w27 : Value) (w28 : Value) (w29 : Value) (w30 : Value) (w31 : Value) (w32 : Value) (w33 : Value) (w34 : Value) (kl1 : ClassId) (kl2 : ClassId) (kl3 : ClassId) (kl4 : ClassId) (kl5 : ClassId) (kl6 : ClassId) (kl7 : ClassId) (kg1 : ClassId) (kg2 : ClassId) (n1 : Int32) (n2 : Int32) (n3 : Int32) (n4 : Int32)  : Met l yX9_kind (wq yX9_kind cX9_kind 8 (some .int)) ({ frames := 2, cells := 0, slots := 0, locals := 47 }) (va_Pc [.ref h0, .int n1, .int n2, .int n3, .int n4] (pcW dC dI [(kl1, .int), (kl2, .int), (kl3, .int), (kl4, .int), (kl5, .int), (kl6, .int), (kl7, .boolean), (kg1, .int), (kg2, .int)] [(h0, .inr (8, [.ref l5, .ref l3, .ref l6, .ref l7, .int 0, .ref l4, .ref l1, .ref l2, w8, .ref g1, .ref g2, .int rm, w12, w13, w14, w15, w16, w17, w18, w19, w20, w21, w22, w23, w24, w25, w26, w27, w28, w29, w30, w31, w32, w33, w34])), (l1, .inl (kl1, 10, .inl (fun _ => 0))), (l2, .inl (kl2, 10, .inl (fun _ => 0))), (l3, .inl (kl3, 10, .inl (fun _ => 0))), (l4, .inl (kl4, 100, .inl (fun _ => 0))), (l5, .inl (kl5, 30, .inl (fun _ => 0))), (l6, .inl (kl6, 10, .inl (fun _ => 0))), (l7, .inl (kl7, 10, .inl (fun _ => 0))), (g1, .inl (kg1, 4, .inl (fun _ => 0))), (g2, .inl (kg2, 4, .inl (fun _ => 0)))] sz)) (va_Qi (fun (r : Int32) (_ : Unit) => r = F_kind n1) (fun _ _ => True) (va_A [(h0, .inr (8, [.ref l5, .ref l3, .ref l6, .ref l7, .int 0, .ref l4, .ref l1, .ref l2, w8, .ref g1, .ref g2, .int rm, w12, w13, w14, w15, w16, w17, w18, w19, w20, w21, w22, w23, w24, w25, w26, w27, w28, w29, w30, w31, w32, w33, w34])), (l1, .inl (kl1, 10, .inl (fun _ => 0))), (l2, .inl (kl2, 10, .inl (fun _ => 0))), (l3, .inl (kl3, 10, .inl (fun _ => 0))), (l4, .inl (kl4, 100, .inl (fun _ => 0))), (l5, .inl (kl5, 30, .inl (fun _ => 0))), (l6, .inl (kl6, 10, .inl (fun _ => 0))), (l7, .inl (kl7, 10, .inl (fun _ => 0))), (g1, .inl (kg1, 4, .inl (fun _ => 0))), (g2, .inl (kg2, 4, .inl (fun _ => 0)))] sz)) 0 0 (va_A [(h0, .inr (8, [.ref l5, .ref l3, .ref l6, .ref l7, .int 0, .ref l4, .ref l1, .ref l2, w8, .ref g1, .ref g2, .int rm, w12, w13, w14, w15, w16, w17, w18, w19, w20, w21, w22, w23, w24, w25, w26, w27, w28, w29, w30, w31, w32, w33, w34])), (l1, .inl (kl1, 10, .inl (fun _ => 0))), (l2, .inl (kl2, 10, .inl (fun _ => 0))), (l3, .inl (kl3, 10, .inl (fun _ => 0))), (l4, .inl (kl4, 100, .inl (fun _ => 0))), (l5, .inl (kl5, 30, .inl (fun _ => 0))), (l6, .inl (kl6, 10, .inl (fun _ => 0))), (l7, .inl (kl7, 10, .inl (fun _ => 0))), (g1, .inl (kg1, 4, .inl (fun _ => 0))), (g2, .inl (kg2, 4, .inl (fun _ => 0)))] sz) := by
  refine Met.ofW (cc := cX9_kind) (maxL := 8) (ret := (some .int)) (by decide) rfl ?_
  intro p e s m args below meth c s₁ B hml hv
  obtain ⟨rfl, hsz, hN, hP, hK, hD0⟩ := hv
  have hx := B.exec
  have hb := B.bytes
  have hr := B.returns
  have hts0 := atoms_spec (ws := (wq yX9_kind cX9_kind 8 (some .int))) B.pre
  have hts : ∀ w ∈ BG, w.before _ s = true := fun w h => hts0 w (List.mem_cons_of_mem _ h)
  have hown : s.vm.findClass RX9 = some m.cls := findClass_of_methodNamed B.named
  have hlocks := B.notSynchronized
  subst hsz
  have hD := hD0.self (sz := s.heap.size)
  generalize hAe : va_A [(h0, .inr (8, [.ref l5, .ref l3, .ref l6, .ref l7, .int 0, .ref l4, .ref l1, .ref l2, w8, .ref g1, .ref g2, .int rm, w12, w13, w14, w15, w16, w17, w18, w19, w20, w21, w22, w23, w24, w25, w26, w27, w28, w29, w30, w31, w32, w33, w34])), (l1, .inl (kl1, 10, .inl (fun _ => 0))), (l2, .inl (kl2, 10, .inl (fun _ => 0))), (l3, .inl (kl3, 10, .inl (fun _ => 0))), (l4, .inl (kl4, 100, .inl (fun _ => 0))), (l5, .inl (kl5, 30, .inl (fun _ => 0))), (l6, .inl (kl6, 10, .inl (fun _ => 0))), (l7, .inl (kl7, 10, .inl (fun _ => 0))), (g1, .inl (kg1, 4, .inl (fun _ => 0))), (g2, .inl (kg2, 4, .inl (fun _ => 0)))] s.heap.size = A at hD ⊢
  have hA : ∀ q : Nat, s.heap.size ≤ q → A q := fun q h => by rw [← hAe]; exact Or.inr h
  have hS : va_S A s.heap s.heap [] := va_S.rf
  have hP : va_P (dC, dI) vwCl [(h0, .inr (8, [.ref l5, .ref l3, .ref l6, .ref l7, .int 0, .ref l4, .ref l1, .ref l2, w8, .ref g1, .ref g2, .int rm, w12, w13, w14, w15, w16, w17, w18, w19, w20, w21, w22, w23, w24, w25, w26, w27, w28, w29, w30, w31, w32, w33, w34])), (l1, .inl (kl1, 10, .inl (fun _ => 0))), (l2, .inl (kl2, 10, .inl (fun _ => 0))), (l3, .inl (kl3, 10, .inl (fun _ => 0))), (l4, .inl (kl4, 100, .inl (fun _ => 0))), (l5, .inl (kl5, 30, .inl (fun _ => 0))), (l6, .inl (kl6, 10, .inl (fun _ => 0))), (l7, .inl (kl7, 10, .inl (fun _ => 0))), (g1, .inl (kg1, 4, .inl (fun _ => 0))), (g2, .inl (kg2, 4, .inl (fun _ => 0)))] s.heap := hP
  have hl := lv_entry ([.ref h0, .int n1, .int n2, .int n3, .int n4]) (n := 8) (Nat.le_of_ble_eq_true rfl)
  rw [lg_entry_eq]
  generalize (lg_sl ([.ref h0, .int n1, .int n2, .int n3, .int n4]) ++ List.replicate (8 - (lg_sl ([.ref h0, .int n1, .int n2, .int n3, .int n4])).length) Slot.unset).toArray = ls at hl ⊢
  have hl : lv_has ls 8 [(0, .ref h0), (1, .int n1), (2, .int n2), (3, .int n3), (4, .int n4)] := hl
  skip
  refine lv_iload_n hx hb dX9_kind_0 rfl (lv_at hl 1 rfl) ?_
  refine lv_iconst (v := 1) hx hb dX9_kind_1 (by decide) ?_
  refine lv_icmp_lt (tgt := 13) hx hb dX9_kind_2 (by decide) (fun c_1 => ?_) (fun c_1 => ?_)
  · have b_2 := fx_lt (x := n1) (C := 1) (by decide) c_1
    refine lv_iload_n hx hb dX9_kind_13 rfl (lv_at hl 1 rfl) ?_
    refine lv_iconst (v := 2) hx hb dX9_kind_14 (by decide) ?_
    refine lv_icmp_lt (tgt := 31) hx hb dX9_kind_15 (by decide) (fun _ => ?_) (fun h => absurd (fn_lt (x := n1) (C := 2) (by decide) h) (by omega))
    refine lv_iload_n hx hb dX9_kind_31 rfl (lv_at hl 1 rfl) ?_
    refine lv_iconst (v := 3) hx hb dX9_kind_32 (by decide) ?_
    refine lv_icmp_lt (tgt := 57) hx hb dX9_kind_33 (by decide) (fun _ => ?_) (fun h => absurd (fn_lt (x := n1) (C := 3) (by decide) h) (by omega))
    refine lv_iconst (v := 1) hx hb dX9_kind_57 (by decide) ?_
    refine lv_goto (tgt := 62) hx hb dX9_kind_58 (by decide) ?_
    refine lv_istore (lv' := [(5, .int 1), (0, .ref h0), (1, .int n1), (2, .int n2), (3, .int n3), (4, .int n4)]) hx hb dX9_kind_62 hl (by decide) rfl (fun ls hl => ?_)
    refine lv_iload hx hb dX9_kind_64 (lv_at hl 0 rfl) ?_
    refine lv_if_ne (tgt := 71) hx hb dX9_kind_66 (by decide) (fun _ => ?_) (fun h => absurd h (by decide))
    refine lv_iload_n hx hb dX9_kind_71 rfl (lv_at hl 2 rfl) ?_
    refine lv_i2l hx hb dX9_kind_72 rfl ?_
    refine lv_lconst (v := Int32.toInt64 0) hx hb dX9_kind_73 (by decide) ?_
    refine lv_ldc2 (v := Int32.toInt64 3) hx hb hown (show (Cond.constantLong RX9 100 (Int32.toInt64 3)).before _ s = true from (hts _ mw_4_60)) dX9_kind_74 ?_
    have hPc := hP.sub (ws' := []) [] rfl
    have hDc := hD.sub (ws' := []) [] (by decide) rfl
    have hKc := hK.sub (tys' := []) [] rfl
    refine va_calli (va_runS (As := [.long (Int32.toInt64 n1), .long (Int32.toInt64 0), .long (Int32.toInt64 3)]) (rest := []) ⟨hx, hb, hml, hown, hts⟩ (m_in l dC dI s.heap.size n1 0 3 0 3 (by decide) (by decide)) (va_cwS 3 hts (gS mw_4_57 mw_4_58 mw_1_9 mw_4_59) rfl rfl rfl (by decide +kernel) ⟨Nat.le_of_ble_eq_true rfl, Nat.le_of_ble_eq_true rfl⟩) ⟨pcW_blind, pcW_at hPc hKc hDc hN⟩ rfl rfl hl.1 rfl (lv_room (Nat.le_of_ble_eq_true rfl)) dX9_kind_77 ⟨Nat.le_of_ble_eq_true rfl, Nat.le_of_ble_eq_true rfl⟩) hS (fun q h1 h2 => absurd h2 (Nat.not_le.mpr h1)) (fun q h => hA q (Nat.le_trans hS.1 h)) (fun r_3 u t H1 locs ht hvm hw_3 hB hz1 hk1 hS => ?_)
    have hP := keepP hP hk1
    clear hz1 hk1 hB ht hvm hPc hDc hKc
    generalize H1 = H at hP hS ⊢
    rcases fx_bool hw_3 with ⟨rfl, b_4⟩ | ⟨rfl, b_4⟩
    · skip
      refine lv_if_ne (tgt := 86) hx hb dX9_kind_80 (by decide) (fun _ => ?_) (fun h => absurd h (by decide))
      refine lv_aload_n hx hb dX9_kind_86 rfl (lv_at hl 1 rfl) ?_
      refine va_get (D := (dC, dI)) (ci := 8) (v := .int 0) (C := RX9) (T := TX9) (N := 35) hx hb hts inB_9 hown hK hP 0 rfl rfl 4 (by decide) (hts _ mw_3_186) (fun _ h9 => h9) rfl dX9_kind_87 ?_
      refine lv_bipush (v := 10) hx hb dX9_kind_90 (by decide) ?_
      refine lv_icmp_ne (tgt := 98) hx hb dX9_kind_92 (by decide) (fun _ => ?_) (fun h => absurd h (by decide))
      refine lv_aload_n hx hb dX9_kind_98 rfl (lv_at hl 1 rfl) ?_
      refine va_get (D := (dC, dI)) (ci := 8) (v := .ref l5) (C := RX9) (T := TX9) (N := 35) hx hb hts inB_9 hown hK hP 0 rfl rfl 0 (by decide) (hts _ mw_3_182) (fun _ h9 => h9) rfl dX9_kind_99 ?_
      refine lv_iconst (v := 3) hx hb dX9_kind_102 (by decide) ?_
      refine lv_aload_n hx hb dX9_kind_103 rfl (lv_at hl 1 rfl) ?_
      refine va_get (D := (dC, dI)) (ci := 8) (v := .int 0) (C := RX9) (T := TX9) (N := 35) hx hb hts inB_9 hown hK hP 0 rfl rfl 4 (by decide) (hts _ mw_3_186) (fun _ h9 => h9) rfl dX9_kind_104 ?_
      refine lv_imul hx hb dX9_kind_107 ?_
      refine hx_top (y := 0) (by decide) ?_
      refine lv_iload_n hx hb dX9_kind_108 rfl (lv_at hl 3 rfl) ?_
      refine va_iast hx hb hK hP hD hS 5 4 rfl rfl (show vp_in 0 30 by unfold vp_in; decide) dX9_kind_109 (fun H locs hP hD hS => ?_)
      have hP : va_P (dC, dI) vwCl [(h0, .inr (8, [.ref l5, .ref l3, .ref l6, .ref l7, .int 0, .ref l4, .ref l1, .ref l2, w8, .ref g1, .ref g2, .int rm, w12, w13, w14, w15, w16, w17, w18, w19, w20, w21, w22, w23, w24, w25, w26, w27, w28, w29, w30, w31, w32, w33, w34])), (l1, .inl (kl1, 10, .inl (fun _ => 0))), (l2, .inl (kl2, 10, .inl (fun _ => 0))), (l3, .inl (kl3, 10, .inl (fun _ => 0))), (l4, .inl (kl4, 100, .inl (fun _ => 0))), (l5, .inl (kl5, 30, .inl (upd (fun _ => 0) 0 n2))), (l6, .inl (kl6, 10, .inl (fun _ => 0))), (l7, .inl (kl7, 10, .inl (fun _ => 0))), (g1, .inl (kg1, 4, .inl (fun _ => 0))), (g2, .inl (kg2, 4, .inl (fun _ => 0)))] H := hP
      have hD : va_D A [(h0, .inr (8, [.ref l5, .ref l3, .ref l6, .ref l7, .int 0, .ref l4, .ref l1, .ref l2, w8, .ref g1, .ref g2, .int rm, w12, w13, w14, w15, w16, w17, w18, w19, w20, w21, w22, w23, w24, w25, w26, w27, w28, w29, w30, w31, w32, w33, w34])), (l1, .inl (kl1, 10, .inl (fun _ => 0))), (l2, .inl (kl2, 10, .inl (fun _ => 0))), (l3, .inl (kl3, 10, .inl (fun _ => 0))), (l4, .inl (kl4, 100, .inl (fun _ => 0))), (l5, .inl (kl5, 30, .inl (upd (fun _ => 0) 0 n2))), (l6, .inl (kl6, 10, .inl (fun _ => 0))), (l7, .inl (kl7, 10, .inl (fun _ => 0))), (g1, .inl (kg1, 4, .inl (fun _ => 0))), (g2, .inl (kg2, 4, .inl (fun _ => 0)))] := hD
      refine lv_aload_n hx hb dX9_kind_110 rfl (lv_at hl 1 rfl) ?_
      refine va_get (D := (dC, dI)) (ci := 8) (v := .ref l5) (C := RX9) (T := TX9) (N := 35) hx hb hts inB_9 hown hK hP 0 rfl rfl 0 (by decide) (hts _ mw_3_182) (fun _ h9 => h9) rfl dX9_kind_111 ?_
      refine lv_iconst (v := 3) hx hb dX9_kind_114 (by decide) ?_
      refine lv_aload_n hx hb dX9_kind_115 rfl (lv_at hl 1 rfl) ?_
      refine va_get (D := (dC, dI)) (ci := 8) (v := .int 0) (C := RX9) (T := TX9) (N := 35) hx hb hts inB_9 hown hK hP 0 rfl rfl 4 (by decide) (hts _ mw_3_186) (fun _ h9 => h9) rfl dX9_kind_116 ?_
      refine lv_imul hx hb dX9_kind_119 ?_
      refine hx_top (y := 0) (by decide) ?_
      refine lv_iconst (v := 1) hx hb dX9_kind_120 (by decide) ?_
      refine lv_iadd hx hb dX9_kind_121 ?_
      refine hx_top (y := 1) (by decide) ?_
      refine lv_iload_n hx hb dX9_kind_122 rfl (lv_at hl 4 rfl) ?_
      refine va_iast hx hb hK hP hD hS 5 4 rfl rfl (show vp_in 1 30 by unfold vp_in; decide) dX9_kind_123 (fun H locs hP hD hS => ?_)
      have hP : va_P (dC, dI) vwCl [(h0, .inr (8, [.ref l5, .ref l3, .ref l6, .ref l7, .int 0, .ref l4, .ref l1, .ref l2, w8, .ref g1, .ref g2, .int rm, w12, w13, w14, w15, w16, w17, w18, w19, w20, w21, w22, w23, w24, w25, w26, w27, w28, w29, w30, w31, w32, w33, w34])), (l1, .inl (kl1, 10, .inl (fun _ => 0))), (l2, .inl (kl2, 10, .inl (fun _ => 0))), (l3, .inl (kl3, 10, .inl (fun _ => 0))), (l4, .inl (kl4, 100, .inl (fun _ => 0))), (l5, .inl (kl5, 30, .inl (upd (upd (fun _ => 0) 0 n2) 1 n3))), (l6, .inl (kl6, 10, .inl (fun _ => 0))), (l7, .inl (kl7, 10, .inl (fun _ => 0))), (g1, .inl (kg1, 4, .inl (fun _ => 0))), (g2, .inl (kg2, 4, .inl (fun _ => 0)))] H := hP
      have hD : va_D A [(h0, .inr (8, [.ref l5, .ref l3, .ref l6, .ref l7, .int 0, .ref l4, .ref l1, .ref l2, w8, .ref g1, .ref g2, .int rm, w12, w13, w14, w15, w16, w17, w18, w19, w20, w21, w22, w23, w24, w25, w26, w27, w28, w29, w30, w31, w32, w33, w34])), (l1, .inl (kl1, 10, .inl (fun _ => 0))), (l2, .inl (kl2, 10, .inl (fun _ => 0))), (l3, .inl (kl3, 10, .inl (fun _ => 0))), (l4, .inl (kl4, 100, .inl (fun _ => 0))), (l5, .inl (kl5, 30, .inl (upd (upd (fun _ => 0) 0 n2) 1 n3))), (l6, .inl (kl6, 10, .inl (fun _ => 0))), (l7, .inl (kl7, 10, .inl (fun _ => 0))), (g1, .inl (kg1, 4, .inl (fun _ => 0))), (g2, .inl (kg2, 4, .inl (fun _ => 0)))] := hD
      refine lv_aload_n hx hb dX9_kind_124 rfl (lv_at hl 1 rfl) ?_
      refine va_get (D := (dC, dI)) (ci := 8) (v := .ref l5) (C := RX9) (T := TX9) (N := 35) hx hb hts inB_9 hown hK hP 0 rfl rfl 0 (by decide) (hts _ mw_3_182) (fun _ h9 => h9) rfl dX9_kind_125 ?_
      refine lv_iconst (v := 3) hx hb dX9_kind_128 (by decide) ?_
      refine lv_aload_n hx hb dX9_kind_129 rfl (lv_at hl 1 rfl) ?_
      refine va_get (D := (dC, dI)) (ci := 8) (v := .int 0) (C := RX9) (T := TX9) (N := 35) hx hb hts inB_9 hown hK hP 0 rfl rfl 4 (by decide) (hts _ mw_3_186) (fun _ h9 => h9) rfl dX9_kind_130 ?_
      refine lv_imul hx hb dX9_kind_133 ?_
      refine hx_top (y := 0) (by decide) ?_
      refine lv_iconst (v := 2) hx hb dX9_kind_134 (by decide) ?_
      refine lv_iadd hx hb dX9_kind_135 ?_
      refine hx_top (y := 2) (by decide) ?_
      refine lv_iload hx hb dX9_kind_136 (lv_at hl 5 rfl) ?_
      refine va_iast hx hb hK hP hD hS 5 4 rfl rfl (show vp_in 2 30 by unfold vp_in; decide) dX9_kind_138 (fun H locs hP hD hS => ?_)
      have hP : va_P (dC, dI) vwCl [(h0, .inr (8, [.ref l5, .ref l3, .ref l6, .ref l7, .int 0, .ref l4, .ref l1, .ref l2, w8, .ref g1, .ref g2, .int rm, w12, w13, w14, w15, w16, w17, w18, w19, w20, w21, w22, w23, w24, w25, w26, w27, w28, w29, w30, w31, w32, w33, w34])), (l1, .inl (kl1, 10, .inl (fun _ => 0))), (l2, .inl (kl2, 10, .inl (fun _ => 0))), (l3, .inl (kl3, 10, .inl (fun _ => 0))), (l4, .inl (kl4, 100, .inl (fun _ => 0))), (l5, .inl (kl5, 30, .inl (upd (upd (upd (fun _ => 0) 0 n2) 1 n3) 2 n4))), (l6, .inl (kl6, 10, .inl (fun _ => 0))), (l7, .inl (kl7, 10, .inl (fun _ => 0))), (g1, .inl (kg1, 4, .inl (fun _ => 0))), (g2, .inl (kg2, 4, .inl (fun _ => 0)))] H := hP
      have hD : va_D A [(h0, .inr (8, [.ref l5, .ref l3, .ref l6, .ref l7, .int 0, .ref l4, .ref l1, .ref l2, w8, .ref g1, .ref g2, .int rm, w12, w13, w14, w15, w16, w17, w18, w19, w20, w21, w22, w23, w24, w25, w26, w27, w28, w29, w30, w31, w32, w33, w34])), (l1, .inl (kl1, 10, .inl (fun _ => 0))), (l2, .inl (kl2, 10, .inl (fun _ => 0))), (l3, .inl (kl3, 10, .inl (fun _ => 0))), (l4, .inl (kl4, 100, .inl (fun _ => 0))), (l5, .inl (kl5, 30, .inl (upd (upd (upd (fun _ => 0) 0 n2) 1 n3) 2 n4))), (l6, .inl (kl6, 10, .inl (fun _ => 0))), (l7, .inl (kl7, 10, .inl (fun _ => 0))), (g1, .inl (kg1, 4, .inl (fun _ => 0))), (g2, .inl (kg2, 4, .inl (fun _ => 0)))] := hD
      refine lv_aload_n hx hb dX9_kind_139 rfl (lv_at hl 1 rfl) ?_
      refine va_get (D := (dC, dI)) (ci := 8) (v := .ref l3) (C := RX9) (T := TX9) (N := 35) hx hb hts inB_9 hown hK hP 0 rfl rfl 1 (by decide) (hts _ mw_3_183) (fun _ h9 => h9) rfl dX9_kind_140 ?_
      refine lv_aload_n hx hb dX9_kind_143 rfl (lv_at hl 1 rfl) ?_
      refine va_get (D := (dC, dI)) (ci := 8) (v := .int 0) (C := RX9) (T := TX9) (N := 35) hx hb hts inB_9 hown hK hP 0 rfl rfl 4 (by decide) (hts _ mw_3_186) (fun _ h9 => h9) rfl dX9_kind_144 ?_
      refine lv_iload_n hx hb dX9_kind_147 rfl (lv_at hl 2 rfl) ?_
      refine hx_top (y := 0) (fx_sing (C := 0) (by decide) (by omega)) ?_
      refine va_iast hx hb hK hP hD hS 3 2 rfl rfl (show vp_in 0 10 by unfold vp_in; decide) dX9_kind_148 (fun H locs hP hD hS => ?_)
      rw [show upd (fun _ => 0) (Int32.toNatClampNeg 0) 0 = (fun _ => 0) from upd_const _ _] at hP hD
      have hP : va_P (dC, dI) vwCl [(h0, .inr (8, [.ref l5, .ref l3, .ref l6, .ref l7, .int 0, .ref l4, .ref l1, .ref l2, w8, .ref g1, .ref g2, .int rm, w12, w13, w14, w15, w16, w17, w18, w19, w20, w21, w22, w23, w24, w25, w26, w27, w28, w29, w30, w31, w32, w33, w34])), (l1, .inl (kl1, 10, .inl (fun _ => 0))), (l2, .inl (kl2, 10, .inl (fun _ => 0))), (l3, .inl (kl3, 10, .inl (fun _ => 0))), (l4, .inl (kl4, 100, .inl (fun _ => 0))), (l5, .inl (kl5, 30, .inl (upd (upd (upd (fun _ => 0) 0 n2) 1 n3) 2 n4))), (l6, .inl (kl6, 10, .inl (fun _ => 0))), (l7, .inl (kl7, 10, .inl (fun _ => 0))), (g1, .inl (kg1, 4, .inl (fun _ => 0))), (g2, .inl (kg2, 4, .inl (fun _ => 0)))] H := hP
      have hD : va_D A [(h0, .inr (8, [.ref l5, .ref l3, .ref l6, .ref l7, .int 0, .ref l4, .ref l1, .ref l2, w8, .ref g1, .ref g2, .int rm, w12, w13, w14, w15, w16, w17, w18, w19, w20, w21, w22, w23, w24, w25, w26, w27, w28, w29, w30, w31, w32, w33, w34])), (l1, .inl (kl1, 10, .inl (fun _ => 0))), (l2, .inl (kl2, 10, .inl (fun _ => 0))), (l3, .inl (kl3, 10, .inl (fun _ => 0))), (l4, .inl (kl4, 100, .inl (fun _ => 0))), (l5, .inl (kl5, 30, .inl (upd (upd (upd (fun _ => 0) 0 n2) 1 n3) 2 n4))), (l6, .inl (kl6, 10, .inl (fun _ => 0))), (l7, .inl (kl7, 10, .inl (fun _ => 0))), (g1, .inl (kg1, 4, .inl (fun _ => 0))), (g2, .inl (kg2, 4, .inl (fun _ => 0)))] := hD
      refine lv_aload_n hx hb dX9_kind_149 rfl (lv_at hl 1 rfl) ?_
      refine va_get (D := (dC, dI)) (ci := 8) (v := .ref l6) (C := RX9) (T := TX9) (N := 35) hx hb hts inB_9 hown hK hP 0 rfl rfl 2 (by decide) (hts _ mw_3_184) (fun _ h9 => h9) rfl dX9_kind_150 ?_
      refine lv_aload_n hx hb dX9_kind_153 rfl (lv_at hl 1 rfl) ?_
      refine va_get (D := (dC, dI)) (ci := 8) (v := .int 0) (C := RX9) (T := TX9) (N := 35) hx hb hts inB_9 hown hK hP 0 rfl rfl 4 (by decide) (hts _ mw_3_186) (fun _ h9 => h9) rfl dX9_kind_154 ?_
      refine lv_iconst (v := 0) hx hb dX9_kind_157 (by decide) ?_
      refine va_iast hx hb hK hP hD hS 6 5 rfl rfl (show vp_in 0 10 by unfold vp_in; decide) dX9_kind_158 (fun H locs hP hD hS => ?_)
      rw [show upd (fun _ => 0) (Int32.toNatClampNeg 0) 0 = (fun _ => 0) from upd_const _ _] at hP hD
      have hP : va_P (dC, dI) vwCl [(h0, .inr (8, [.ref l5, .ref l3, .ref l6, .ref l7, .int 0, .ref l4, .ref l1, .ref l2, w8, .ref g1, .ref g2, .int rm, w12, w13, w14, w15, w16, w17, w18, w19, w20, w21, w22, w23, w24, w25, w26, w27, w28, w29, w30, w31, w32, w33, w34])), (l1, .inl (kl1, 10, .inl (fun _ => 0))), (l2, .inl (kl2, 10, .inl (fun _ => 0))), (l3, .inl (kl3, 10, .inl (fun _ => 0))), (l4, .inl (kl4, 100, .inl (fun _ => 0))), (l5, .inl (kl5, 30, .inl (upd (upd (upd (fun _ => 0) 0 n2) 1 n3) 2 n4))), (l6, .inl (kl6, 10, .inl (fun _ => 0))), (l7, .inl (kl7, 10, .inl (fun _ => 0))), (g1, .inl (kg1, 4, .inl (fun _ => 0))), (g2, .inl (kg2, 4, .inl (fun _ => 0)))] H := hP
      have hD : va_D A [(h0, .inr (8, [.ref l5, .ref l3, .ref l6, .ref l7, .int 0, .ref l4, .ref l1, .ref l2, w8, .ref g1, .ref g2, .int rm, w12, w13, w14, w15, w16, w17, w18, w19, w20, w21, w22, w23, w24, w25, w26, w27, w28, w29, w30, w31, w32, w33, w34])), (l1, .inl (kl1, 10, .inl (fun _ => 0))), (l2, .inl (kl2, 10, .inl (fun _ => 0))), (l3, .inl (kl3, 10, .inl (fun _ => 0))), (l4, .inl (kl4, 100, .inl (fun _ => 0))), (l5, .inl (kl5, 30, .inl (upd (upd (upd (fun _ => 0) 0 n2) 1 n3) 2 n4))), (l6, .inl (kl6, 10, .inl (fun _ => 0))), (l7, .inl (kl7, 10, .inl (fun _ => 0))), (g1, .inl (kg1, 4, .inl (fun _ => 0))), (g2, .inl (kg2, 4, .inl (fun _ => 0)))] := hD
      refine lv_aload_n hx hb dX9_kind_159 rfl (lv_at hl 1 rfl) ?_
      refine va_get (D := (dC, dI)) (ci := 8) (v := .ref l7) (C := RX9) (T := TX9) (N := 35) hx hb hts inB_9 hown hK hP 0 rfl rfl 3 (by decide) (hts _ mw_3_185) (fun _ h9 => h9) rfl dX9_kind_160 ?_
      refine lv_aload_n hx hb dX9_kind_163 rfl (lv_at hl 1 rfl) ?_
      refine va_get (D := (dC, dI)) (ci := 8) (v := .int 0) (C := RX9) (T := TX9) (N := 35) hx hb hts inB_9 hown hK hP 0 rfl rfl 4 (by decide) (hts _ mw_3_186) (fun _ h9 => h9) rfl dX9_kind_164 ?_
      refine lv_iconst (v := 0) hx hb dX9_kind_167 (by decide) ?_
      refine va_zast hx hb hK hP hD hS 7 6 rfl rfl (show vp_in 0 10 by unfold vp_in; decide) dX9_kind_168 (fun H locs hP hD hS => ?_)
      rw [show upd (fun _ => 0) (Int32.toNatClampNeg 0) (vp_nar .boolean 0) = (fun _ => 0) from upd_const _ _] at hP hD
      have hP : va_P (dC, dI) vwCl [(h0, .inr (8, [.ref l5, .ref l3, .ref l6, .ref l7, .int 0, .ref l4, .ref l1, .ref l2, w8, .ref g1, .ref g2, .int rm, w12, w13, w14, w15, w16, w17, w18, w19, w20, w21, w22, w23, w24, w25, w26, w27, w28, w29, w30, w31, w32, w33, w34])), (l1, .inl (kl1, 10, .inl (fun _ => 0))), (l2, .inl (kl2, 10, .inl (fun _ => 0))), (l3, .inl (kl3, 10, .inl (fun _ => 0))), (l4, .inl (kl4, 100, .inl (fun _ => 0))), (l5, .inl (kl5, 30, .inl (upd (upd (upd (fun _ => 0) 0 n2) 1 n3) 2 n4))), (l6, .inl (kl6, 10, .inl (fun _ => 0))), (l7, .inl (kl7, 10, .inl (fun _ => 0))), (g1, .inl (kg1, 4, .inl (fun _ => 0))), (g2, .inl (kg2, 4, .inl (fun _ => 0)))] H := hP
      have hD : va_D A [(h0, .inr (8, [.ref l5, .ref l3, .ref l6, .ref l7, .int 0, .ref l4, .ref l1, .ref l2, w8, .ref g1, .ref g2, .int rm, w12, w13, w14, w15, w16, w17, w18, w19, w20, w21, w22, w23, w24, w25, w26, w27, w28, w29, w30, w31, w32, w33, w34])), (l1, .inl (kl1, 10, .inl (fun _ => 0))), (l2, .inl (kl2, 10, .inl (fun _ => 0))), (l3, .inl (kl3, 10, .inl (fun _ => 0))), (l4, .inl (kl4, 100, .inl (fun _ => 0))), (l5, .inl (kl5, 30, .inl (upd (upd (upd (fun _ => 0) 0 n2) 1 n3) 2 n4))), (l6, .inl (kl6, 10, .inl (fun _ => 0))), (l7, .inl (kl7, 10, .inl (fun _ => 0))), (g1, .inl (kg1, 4, .inl (fun _ => 0))), (g2, .inl (kg2, 4, .inl (fun _ => 0)))] := hD
      refine lv_iconst (v := 0) hx hb dX9_kind_169 (by decide) ?_
      refine lv_istore (lv' := [(6, .int 0), (5, .int 1), (0, .ref h0), (1, .int n1), (2, .int n2), (3, .int n3), (4, .int n4)]) hx hb dX9_kind_170 hl (by decide) rfl (fun ls hl => ?_)
      refine lv_iload hx hb dX9_kind_172 (lv_at hl 0 rfl) ?_
      refine lv_iload_n hx hb dX9_kind_174 rfl (lv_at hl 3 rfl) ?_
      refine hx_top (y := 0) (fx_sing (C := 0) (by decide) (by omega)) ?_
      refine lv_icmp_ge (tgt := 224) hx hb dX9_kind_175 (by decide) (fun _ => ?_) (fun h => absurd (by decide) h)
      refine lv_aload_n hx hb dX9_kind_224 rfl (lv_at hl 2 rfl) ?_
      refine lv_aload_n hx hb dX9_kind_225 rfl (lv_at hl 2 rfl) ?_
      refine va_get (D := (dC, dI)) (ci := 8) (v := .int 0) (C := RX9) (T := TX9) (N := 35) hx hb hts inB_9 hown hK hP 0 rfl rfl 4 (by decide) (hts _ mw_3_186) (fun _ h9 => h9) rfl dX9_kind_226 ?_
      have hPc := hP.sub (ws' := [(h0, .inr (8, [.ref l5, .ref l3, .ref l6, .ref l7, .int 0, .ref l4, .ref l1, .ref l2, w8, .ref g1, .ref g2, .int rm, w12, w13, w14, w15, w16, w17, w18, w19, w20, w21, w22, w23, w24, w25, w26, w27, w28, w29, w30, w31, w32, w33, w34])), (l1, .inl (kl1, 10, .inl (fun _ => 0))), (l2, .inl (kl2, 10, .inl (fun _ => 0))), (l3, .inl (kl3, 10, .inl (fun _ => 0))), (l4, .inl (kl4, 100, .inl (fun _ => 0))), (g1, .inl (kg1, 4, .inl (fun _ => 0))), (g2, .inl (kg2, 4, .inl (fun _ => 0)))]) [0, 1, 2, 3, 4, 8, 9] rfl
      have hDc := hD.sub (ws' := [(h0, .inr (8, [.ref l5, .ref l3, .ref l6, .ref l7, .int 0, .ref l4, .ref l1, .ref l2, w8, .ref g1, .ref g2, .int rm, w12, w13, w14, w15, w16, w17, w18, w19, w20, w21, w22, w23, w24, w25, w26, w27, w28, w29, w30, w31, w32, w33, w34])), (l1, .inl (kl1, 10, .inl (fun _ => 0))), (l2, .inl (kl2, 10, .inl (fun _ => 0))), (l3, .inl (kl3, 10, .inl (fun _ => 0))), (l4, .inl (kl4, 100, .inl (fun _ => 0))), (g1, .inl (kg1, 4, .inl (fun _ => 0))), (g2, .inl (kg2, 4, .inl (fun _ => 0)))]) [0, 1, 2, 3, 4, 8, 9] (by decide) rfl
      have hKc := hK.sub (tys' := [(kl1, .int), (kl2, .int), (kl3, .int), (kl4, .int), (kg1, .int), (kg2, .int)]) [0, 1, 2, 3, 7, 8] rfl
      have hFc := va_free (wc := [(h0, .inr (8, [.ref l5, .ref l3, .ref l6, .ref l7, .int 0, .ref l4, .ref l1, .ref l2, w8, .ref g1, .ref g2, .int rm, w12, w13, w14, w15, w16, w17, w18, w19, w20, w21, w22, w23, w24, w25, w26, w27, w28, w29, w30, w31, w32, w33, w34])), (l1, .inl (kl1, 10, .inl (fun _ => 0))), (l2, .inl (kl2, 10, .inl (fun _ => 0))), (l3, .inl (kl3, 10, .inl (fun _ => 0))), (l4, .inl (kl4, 100, .inl (fun _ => 0))), (g1, .inl (kg1, 4, .inl (fun _ => 0))), (g2, .inl (kg2, 4, .inl (fun _ => 0)))]) hD hS hA [0, 1, 2, 3, 4, 8, 9] rfl
      refine va_callv (va_runV (As := [.int 0]) (rest := []) ⟨hx, hb, hml, hown, hts⟩ (m_layLine l dC dI H.size h0 (.ref l5) l3 (.ref l6) (.ref l7) (.int 0) l4 l1 l2 (w8) g1 g2 rm (w12) (w13) (w14) (w15) (w16) (w17) (w18) (w19) (w20) (w21) (w22) (w23) (w24) (w25) (w26) (w27) (w28) (w29) (w30) (w31) (w32) (w33) (w34) kl1 kl2 kl3 kl4 kg1 kg2) (cwV 1 hts (gV mw_4_61 mw_4_63 mw_0_16 mw_1_9 mw_4_64) rfl rfl rfl (by decide +kernel) ⟨Nat.le_of_ble_eq_true rfl, Nat.le_of_ble_eq_true rfl⟩) ⟨pcW_blind, va_recv hKc hPc (ci := 8) (q0 := 0) rfl rfl, pcW_at hPc hKc hDc hN⟩ rfl rfl hl.1 rfl (lv_room (Nat.le_of_ble_eq_true rfl)) dX9_kind_229 ⟨Nat.le_of_ble_eq_true rfl, Nat.le_of_ble_eq_true rfl⟩) hS (fun q _ h => hFc q h) hFc (fun u t H1 locs ht hvm hw_5 hB hz1 hk1 hS => ?_)
      obtain ⟨hP1, hK1, hD1⟩ := hB
      rw [ht] at hP1
      have hK1 := va_K.moved hvm.symm hK1
      obtain ⟨hP, hD⟩ := va_join (wr := [(l5, .inl (kl5, 30, .inl (upd (upd (upd (fun _ => 0) 0 n2) 1 n3) 2 n4))), (l6, .inl (kl6, 10, .inl (fun _ => 0))), (l7, .inl (kl7, 10, .inl (fun _ => 0)))]) (w1 := [(h0, .inr (8, [.ref l5, .ref l3, .ref l6, .ref l7, .int 0, .ref l4, .ref l1, .ref l2, w8, .ref g1, .ref g2, .int 1, w12, w13, w14, w15, w16, w17, w18, w19, w20, w21, w22, w23, w24, w25, w26, w27, w28, w29, w30, w31, w32, w33, w34])), (l1, .inl (kl1, 10, .inl (slF 1 0 1))), (l2, .inl (kl2, 10, .inl (fun _ => 0))), (l3, .inl (kl3, 10, .inl (fun _ => 0))), (l4, .inl (kl4, 100, .inl (fun _ => 0))), (g1, .inl (kg1, 4, .inl (fun _ => 0))), (g2, .inl (kg2, 4, .inl (fun _ => 0)))]) hP hD [0, 1, 2, 3, 4, 8, 9] [5, 6, 7] rfl rfl (by decide) (by decide) hk1 hFc hP1 hD1
      have hK := (hK.sub (tys' := [(kl5, .int), (kl6, .int), (kl7, .boolean)]) [4, 5, 6] rfl).app hK1
      clear hz1 hk1 hPc hDc hKc hFc
      generalize H1 = H at hP hS ⊢
      have hK : va_K (dC, dI) vwCl [(kl5, .int), (kl6, .int), (kl7, .boolean), (kl1, .int), (kl2, .int), (kl3, .int), (kl4, .int), (kg1, .int), (kg2, .int)] s := hK
      have hP : va_P (dC, dI) vwCl [(l5, .inl (kl5, 30, .inl (upd (upd (upd (fun _ => 0) 0 n2) 1 n3) 2 n4))), (l6, .inl (kl6, 10, .inl (fun _ => 0))), (l7, .inl (kl7, 10, .inl (fun _ => 0))), (h0, .inr (8, [.ref l5, .ref l3, .ref l6, .ref l7, .int 0, .ref l4, .ref l1, .ref l2, w8, .ref g1, .ref g2, .int 1, w12, w13, w14, w15, w16, w17, w18, w19, w20, w21, w22, w23, w24, w25, w26, w27, w28, w29, w30, w31, w32, w33, w34])), (l1, .inl (kl1, 10, .inl (slF 1 0 1))), (l2, .inl (kl2, 10, .inl (fun _ => 0))), (l3, .inl (kl3, 10, .inl (fun _ => 0))), (l4, .inl (kl4, 100, .inl (fun _ => 0))), (g1, .inl (kg1, 4, .inl (fun _ => 0))), (g2, .inl (kg2, 4, .inl (fun _ => 0)))] H := hP
      have hD : va_D A [(l5, .inl (kl5, 30, .inl (upd (upd (upd (fun _ => 0) 0 n2) 1 n3) 2 n4))), (l6, .inl (kl6, 10, .inl (fun _ => 0))), (l7, .inl (kl7, 10, .inl (fun _ => 0))), (h0, .inr (8, [.ref l5, .ref l3, .ref l6, .ref l7, .int 0, .ref l4, .ref l1, .ref l2, w8, .ref g1, .ref g2, .int 1, w12, w13, w14, w15, w16, w17, w18, w19, w20, w21, w22, w23, w24, w25, w26, w27, w28, w29, w30, w31, w32, w33, w34])), (l1, .inl (kl1, 10, .inl (slF 1 0 1))), (l2, .inl (kl2, 10, .inl (fun _ => 0))), (l3, .inl (kl3, 10, .inl (fun _ => 0))), (l4, .inl (kl4, 100, .inl (fun _ => 0))), (g1, .inl (kg1, 4, .inl (fun _ => 0))), (g2, .inl (kg2, 4, .inl (fun _ => 0)))] := hD
      refine lv_aload_n hx hb dX9_kind_232 rfl (lv_at hl 2 rfl) ?_
      refine lv_dup hx hb dX9_kind_233 rfl ?_
      refine va_get (D := (dC, dI)) (ci := 8) (v := .int 0) (C := RX9) (T := TX9) (N := 35) hx hb hts inB_9 hown hK hP 3 rfl rfl 4 (by decide) (hts _ mw_3_186) (fun _ h9 => h9) rfl dX9_kind_234 ?_
      refine lv_iconst (v := 1) hx hb dX9_kind_237 (by decide) ?_
      refine lv_iadd hx hb dX9_kind_238 ?_
      refine hx_top (y := 1) (by decide) ?_
      refine va_put (D := (dC, dI)) (ci := 8) (v := .int 1) (ty := .int) (C := RX9) (T := TX9) (N := 35) hx hb hts inB_9 tyX9 tyX9_ok nmX9 hown hK hP hD hS 3 rfl rfl 4 (by decide) (hts _ mw_3_186) (fun _ h9 => h9) rfl (by decide +kernel) rfl rfl (Nat.le_of_ble_eq_true rfl) dX9_kind_239 (fun H locs hP hD hS => ?_)
      have hP : va_P (dC, dI) vwCl [(l5, .inl (kl5, 30, .inl (upd (upd (upd (fun _ => 0) 0 n2) 1 n3) 2 n4))), (l6, .inl (kl6, 10, .inl (fun _ => 0))), (l7, .inl (kl7, 10, .inl (fun _ => 0))), (h0, .inr (8, [.ref l5, .ref l3, .ref l6, .ref l7, .int 1, .ref l4, .ref l1, .ref l2, w8, .ref g1, .ref g2, .int 1, w12, w13, w14, w15, w16, w17, w18, w19, w20, w21, w22, w23, w24, w25, w26, w27, w28, w29, w30, w31, w32, w33, w34])), (l1, .inl (kl1, 10, .inl (slF 1 0 1))), (l2, .inl (kl2, 10, .inl (fun _ => 0))), (l3, .inl (kl3, 10, .inl (fun _ => 0))), (l4, .inl (kl4, 100, .inl (fun _ => 0))), (g1, .inl (kg1, 4, .inl (fun _ => 0))), (g2, .inl (kg2, 4, .inl (fun _ => 0)))] H := hP
      have hD : va_D A [(l5, .inl (kl5, 30, .inl (upd (upd (upd (fun _ => 0) 0 n2) 1 n3) 2 n4))), (l6, .inl (kl6, 10, .inl (fun _ => 0))), (l7, .inl (kl7, 10, .inl (fun _ => 0))), (h0, .inr (8, [.ref l5, .ref l3, .ref l6, .ref l7, .int 1, .ref l4, .ref l1, .ref l2, w8, .ref g1, .ref g2, .int 1, w12, w13, w14, w15, w16, w17, w18, w19, w20, w21, w22, w23, w24, w25, w26, w27, w28, w29, w30, w31, w32, w33, w34])), (l1, .inl (kl1, 10, .inl (slF 1 0 1))), (l2, .inl (kl2, 10, .inl (fun _ => 0))), (l3, .inl (kl3, 10, .inl (fun _ => 0))), (l4, .inl (kl4, 100, .inl (fun _ => 0))), (g1, .inl (kg1, 4, .inl (fun _ => 0))), (g2, .inl (kg2, 4, .inl (fun _ => 0)))] := hD
      refine lv_aload_n hx hb dX9_kind_242 rfl (lv_at hl 2 rfl) ?_
      refine va_get (D := (dC, dI)) (ci := 8) (v := .int 1) (C := RX9) (T := TX9) (N := 35) hx hb hts inB_9 hown hK hP 3 rfl rfl 4 (by decide) (hts _ mw_3_186) (fun _ h9 => h9) rfl dX9_kind_243 ?_
      refine lv_iconst (v := 1) hx hb dX9_kind_246 (by decide) ?_
      refine lv_isub hx hb dX9_kind_247 ?_
      refine hx_top (y := 0) (by decide) ?_
      exact W.iret (v := 0) hx hb hr (fun t ht hW => ⟨⟨0, (), rfl, (by (unfold F_kind; repeat' split) <;> first | rfl | (exfalso; omega)), trivial⟩, hS.F ht⟩) hS.2.2 dX9_kind_248
    · skip
      refine lv_if_ne (tgt := 86) hx hb dX9_kind_80 (by decide) (fun h => absurd h (by decide)) (fun _ => ?_)
      refine lv_bipush (v := (-2)) hx hb dX9_kind_83 (by decide) ?_
      exact W.iret (v := (-2)) hx hb hr (fun t ht hW => ⟨⟨(-2), (), rfl, (by (unfold F_kind; repeat' split) <;> first | rfl | (exfalso; omega)), trivial⟩, hS.F ht⟩) hS.2.2 dX9_kind_85
  · have b_2 := fn_lt (x := n1) (C := 1) (by decide) c_1
    refine lv_aload_n hx hb dX9_kind_5 rfl (lv_at hl 0 rfl) ?_
    refine lv_iload_n hx hb dX9_kind_6 rfl (lv_at hl 2 rfl) ?_
    have hPc := hP.sub (ws' := [(h0, .inr (8, [.ref l5, .ref l3, .ref l6, .ref l7, .int 0, .ref l4, .ref l1, .ref l2, w8, .ref g1, .ref g2, .int rm, w12, w13, w14, w15, w16, w17, w18, w19, w20, w21, w22, w23, w24, w25, w26, w27, w28, w29, w30, w31, w32, w33, w34]))]) [0] rfl
    have hDc := hD.sub (ws' := [(h0, .inr (8, [.ref l5, .ref l3, .ref l6, .ref l7, .int 0, .ref l4, .ref l1, .ref l2, w8, .ref g1, .ref g2, .int rm, w12, w13, w14, w15, w16, w17, w18, w19, w20, w21, w22, w23, w24, w25, w26, w27, w28, w29, w30, w31, w32, w33, w34]))]) [0] (by decide) rfl
    have hKc := hK.sub (tys' := []) [] rfl
    refine va_calli (va_runV (As := [.int n2]) (rest := []) ⟨hx, hb, hml, hown, hts⟩ (m_isKind l dC dI s.heap.size h0 (.ref l5) (.ref l3) (.ref l6) (.ref l7) (.ref l4) (.ref l1) (.ref l2) (w8) (.ref g1) (.ref g2) (.int rm) (w12) (w13) (w14) (w15) (w16) (w17) (w18) (w19) (w20) (w21) (w22) (w23) (w24) (w25) (w26) (w27) (w28) (w29) (w30) (w31) (w32) (w33) (w34) n2) (cwV 1 hts (gV mw_4_53 mw_4_55 mw_0_15 mw_1_9 mw_4_56) rfl rfl rfl (by decide +kernel) ⟨Nat.le_of_ble_eq_true rfl, Nat.le_of_ble_eq_true rfl⟩) ⟨pcW_blind, va_recv hKc hPc (ci := 8) (q0 := 0) rfl rfl, pcW_at hPc hKc hDc hN⟩ rfl rfl hl.1 rfl (lv_room (Nat.le_of_ble_eq_true rfl)) dX9_kind_7 ⟨Nat.le_of_ble_eq_true rfl, Nat.le_of_ble_eq_true rfl⟩) hS (fun q h1 h2 => absurd h2 (Nat.not_le.mpr h1)) (fun q h => hA q (Nat.le_trans hS.1 h)) (fun r_6 u t H1 locs ht hvm hw_6 hB hz1 hk1 hS => ?_)
    have hP := keepP hP hk1
    clear hz1 hk1 hB ht hvm hPc hDc hKc
    generalize H1 = H at hP hS ⊢
    obtain rfl : r_6 = 0 := hw_6
    refine lv_if_eq (tgt := 61) hx hb dX9_kind_10 (by decide) (fun _ => ?_) (fun h => absurd (by decide) h)
    refine lv_iconst (v := 0) hx hb dX9_kind_61 (by decide) ?_
    refine lv_istore (lv' := [(5, .int 0), (0, .ref h0), (1, .int n1), (2, .int n2), (3, .int n3), (4, .int n4)]) hx hb dX9_kind_62 hl (by decide) rfl (fun ls hl => ?_)
    refine lv_iload hx hb dX9_kind_64 (lv_at hl 0 rfl) ?_
    refine lv_if_ne (tgt := 71) hx hb dX9_kind_66 (by decide) (fun h => absurd h (by decide)) (fun _ => ?_)
    refine lv_iconst (v := (-1)) hx hb dX9_kind_69 (by decide) ?_
    exact W.iret (v := (-1)) hx hb hr (fun t ht hW => ⟨⟨(-1), (), rfl, (by (unfold F_kind; repeat' split) <;> first | rfl | (exfalso; omega)), trivial⟩, hS.F ht⟩) hS.2.2 dX9_kind_70
