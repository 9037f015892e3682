theorem mw_3_216 : Cond.fieldLink RX9 228 "AnswerLinesModel" "rememberedMany" "I" ∈ BG := mB (t3 (i := 216) (by decide +kernel)) (by decide +kernel)
theorem mw_3_213 : Cond.fieldLink RX9 223 "AnswerLinesModel" "calls" "I" ∈ BG := mB (t3 (i := 213) (by decide +kernel)) (by decide +kernel)
theorem mw_5_18 : Cond.constantLong RX9 226 (4) ∈ BG := mB (t5 (i := 18) (by decide +kernel)) (by decide +kernel)
theorem mw_3_214 : Cond.fieldLink RX9 80 "AnswerLinesModel" "sizes" "[I" ∈ BG := mB (t3 (i := 214) (by decide +kernel)) (by decide +kernel)
theorem mw_5_26 : Cond.code yX9_hitsBy cX9_hitsBy 7 (some .int) ∈ BG := mB (t5 (i := 26) rfl) (by decide +kernel)
theorem mw_5_23 : Cond.methodLink RX9 246 yX9_hitsBy ∈ BG := mB (t5 (i := 23) (by decide +kernel)) (by decide +kernel)
theorem mw_5_25 : Cond.instanceMethod yX9_hitsBy ∈ BG := mB (t5 (i := 25) (by decide +kernel)) (by decide +kernel)
theorem mw_0_37 : Cond.selects RX9 yX9_hitsBy yX9_hitsBy ∈ BG := mB (t0 (i := 37) (by decide +kernel)) (by decide +kernel)
theorem mw_5_47 : Cond.constantLong RX9 250 (10) ∈ BG := mB (t5 (i := 47) (by decide +kernel)) (by decide +kernel)
theorem mw_5_48 : Cond.constantLong RX9 252 (13) ∈ BG := mB (t5 (i := 48) (by decide +kernel)) (by decide +kernel)
theorem mw_5_53 : Cond.constantLong RX9 254 (40) ∈ BG := mB (t5 (i := 53) (by decide +kernel)) (by decide +kernel)
theorem mw_5_58 : Cond.constantLong RX9 256 (19) ∈ BG := mB (t5 (i := 58) (by decide +kernel)) (by decide +kernel)
theorem mw_5_59 : Cond.constantLong RX9 258 (20) ∈ BG := mB (t5 (i := 59) (by decide +kernel)) (by decide +kernel)
theorem mw_5_60 : Cond.constantLong RX9 260 (29) ∈ BG := mB (t5 (i := 60) (by decide +kernel)) (by decide +kernel)
theorem dX9_hitsBy_0 : decode cX9_hitsBy 0 = .ok (.aload_n 0, 1) := by decide +kernel
theorem dX9_hitsBy_1 : decode cX9_hitsBy 1 = .ok (.iconst 0, 1) := by decide +kernel
theorem dX9_hitsBy_2 : decode cX9_hitsBy 2 = .ok (.putfield 228, 3) := by decide +kernel
theorem dX9_hitsBy_5 : decode cX9_hitsBy 5 = .ok (.iconst 0, 1) := by decide +kernel
theorem dX9_hitsBy_6 : decode cX9_hitsBy 6 = .ok (.istore 4, 2) := by decide +kernel
theorem dX9_hitsBy_8 : decode cX9_hitsBy 8 = .ok (.iconst 0, 1) := by decide +kernel
theorem dX9_hitsBy_9 : decode cX9_hitsBy 9 = .ok (.istore 5, 2) := by decide +kernel
theorem dX9_hitsBy_11 : decode cX9_hitsBy 11 = .ok (.iload 5, 2) := by decide +kernel
theorem dX9_hitsBy_13 : decode cX9_hitsBy 13 = .ok (.aload_n 0, 1) := by decide +kernel
theorem dX9_hitsBy_14 : decode cX9_hitsBy 14 = .ok (.getfield 223, 3) := by decide +kernel
theorem dX9_hitsBy_17 : decode cX9_hitsBy 17 = .ok (.if_icmp .ge 102, 3) := by decide +kernel
theorem dX9_hitsBy_119 : decode cX9_hitsBy 119 = .ok (.iload 4, 2) := by decide +kernel
theorem dX9_hitsBy_121 : decode cX9_hitsBy 121 = .ok (.ireturn, 1) := by decide +kernel
theorem dX9_forget_0 : decode cX9_forget 0 = .ok (.aload_n 0, 1) := by decide +kernel
theorem dX9_forget_1 : decode cX9_forget 1 = .ok (.getfield 223, 3) := by decide +kernel
theorem dX9_forget_4 : decode cX9_forget 4 = .ok (.istore_n 1, 1) := by decide +kernel
theorem dX9_forget_5 : decode cX9_forget 5 = .ok (.aload_n 0, 1) := by decide +kernel
theorem dX9_forget_6 : decode cX9_forget 6 = .ok (.iconst 0, 1) := by decide +kernel
theorem dX9_forget_7 : decode cX9_forget 7 = .ok (.putfield 223, 3) := by decide +kernel
theorem dX9_forget_10 : decode cX9_forget 10 = .ok (.iload_n 1, 1) := by decide +kernel
theorem dX9_forget_11 : decode cX9_forget 11 = .ok (.ireturn, 1) := by decide +kernel
theorem dX9_size_0 : decode cX9_size 0 = .ok (.iload_n 1, 1) := by decide +kernel
theorem dX9_size_1 : decode cX9_size 1 = .ok (.invokestatic 220, 3) := by decide +kernel
theorem dX9_size_4 : decode cX9_size 4 = .ok (.ifCond .ne 5, 3) := by decide +kernel
theorem dX9_size_9 : decode cX9_size 9 = .ok (.iload_n 2, 1) := by decide +kernel
theorem dX9_size_10 : decode cX9_size 10 = .ok (.i2l, 1) := by decide +kernel
theorem dX9_size_11 : decode cX9_size 11 = .ok (.lconst 1, 1) := by decide +kernel
theorem dX9_size_12 : decode cX9_size 12 = .ok (.ldc2_w 226, 3) := by decide +kernel
theorem dX9_size_15 : decode cX9_size 15 = .ok (.invokestatic 90, 3) := by decide +kernel
theorem dX9_size_18 : decode cX9_size 18 = .ok (.ifCond .ne 6, 3) := by decide +kernel
theorem dX9_size_24 : decode cX9_size 24 = .ok (.aload_n 0, 1) := by decide +kernel
theorem dX9_size_25 : decode cX9_size 25 = .ok (.getfield 80, 3) := by decide +kernel
theorem dX9_size_28 : decode cX9_size 28 = .ok (.iload_n 1, 1) := by decide +kernel
theorem dX9_size_29 : decode cX9_size 29 = .ok (.iaload, 1) := by decide +kernel
theorem dX9_size_30 : decode cX9_size 30 = .ok (.istore_n 3, 1) := by decide +kernel
theorem dX9_size_31 : decode cX9_size 31 = .ok (.aload_n 0, 1) := by decide +kernel
theorem dX9_size_32 : decode cX9_size 32 = .ok (.getfield 80, 3) := by decide +kernel
theorem dX9_size_35 : decode cX9_size 35 = .ok (.iload_n 1, 1) := by decide +kernel
theorem dX9_size_36 : decode cX9_size 36 = .ok (.iload_n 2, 1) := by decide +kernel
theorem dX9_size_37 : decode cX9_size 37 = .ok (.iastore, 1) := by decide +kernel
theorem dX9_size_38 : decode cX9_size 38 = .ok (.iload_n 3, 1) := by decide +kernel
theorem dX9_size_39 : decode cX9_size 39 = .ok (.ireturn, 1) := by decide +kernel
theorem dX9_size_21 : decode cX9_size 21 = .ok (.bipush (-2), 2) := by decide +kernel
theorem dX9_size_23 : decode cX9_size 23 = .ok (.ireturn, 1) := by decide +kernel
theorem dX9_size_7 : decode cX9_size 7 = .ok (.iconst (-1), 1) := by decide +kernel
theorem dX9_size_8 : decode cX9_size 8 = .ok (.ireturn, 1) := by decide +kernel
theorem dX9_hits_0 : decode cX9_hits 0 = .ok (.iload_n 1, 1) := by decide +kernel
theorem dX9_hits_1 : decode cX9_hits 1 = .ok (.invokestatic 220, 3) := by decide +kernel
theorem dX9_hits_4 : decode cX9_hits 4 = .ok (.ifCond .ne 5, 3) := by decide +kernel
theorem dX9_hits_9 : decode cX9_hits 9 = .ok (.iconst 0, 1) := by decide +kernel
theorem dX9_hits_10 : decode cX9_hits 10 = .ok (.istore_n 3, 1) := by decide +kernel
theorem dX9_hits_11 : decode cX9_hits 11 = .ok (.iconst 0, 1) := by decide +kernel
theorem dX9_hits_12 : decode cX9_hits 12 = .ok (.istore 4, 2) := by decide +kernel
theorem dX9_hits_14 : decode cX9_hits 14 = .ok (.iload 4, 2) := by decide +kernel
theorem dX9_hits_16 : decode cX9_hits 16 = .ok (.aload_n 0, 1) := by decide +kernel
theorem dX9_hits_17 : decode cX9_hits 17 = .ok (.getfield 223, 3) := by decide +kernel
theorem dX9_hits_20 : decode cX9_hits 20 = .ok (.if_icmp .ge 28, 3) := by decide +kernel
theorem dX9_hits_48 : decode cX9_hits 48 = .ok (.iload_n 2, 1) := by decide +kernel
theorem dX9_hits_49 : decode cX9_hits 49 = .ok (.tableswitch 55 0 2 #[27, 29, 42], 27) := by decide +kernel
theorem dX9_hits_76 : decode cX9_hits 76 = .ok (.iload_n 3, 1) := by decide +kernel
theorem dX9_hits_77 : decode cX9_hits 77 = .ok (.ireturn, 1) := by decide +kernel
theorem dX9_hits_78 : decode cX9_hits 78 = .ok (.aload_n 0, 1) := by decide +kernel
theorem dX9_hits_79 : decode cX9_hits 79 = .ok (.iload_n 1, 1) := by decide +kernel
theorem dX9_hits_80 : decode cX9_hits 80 = .ok (.aload_n 0, 1) := by decide +kernel
theorem dX9_hits_81 : decode cX9_hits 81 = .ok (.getfield 80, 3) := by decide +kernel
theorem dX9_hits_84 : decode cX9_hits 84 = .ok (.iload_n 1, 1) := by decide +kernel
theorem dX9_hits_85 : decode cX9_hits 85 = .ok (.iaload, 1) := by decide +kernel
theorem dX9_hits_86 : decode cX9_hits 86 = .ok (.iconst 0, 1) := by decide +kernel
theorem dX9_hits_87 : decode cX9_hits 87 = .ok (.invokevirtual 246, 3) := by decide +kernel
theorem dX9_hits_90 : decode cX9_hits 90 = .ok (.ireturn, 1) := by decide +kernel
theorem dX9_hits_91 : decode cX9_hits 91 = .ok (.aload_n 0, 1) := by decide +kernel
theorem dX9_hits_92 : decode cX9_hits 92 = .ok (.iload_n 1, 1) := by decide +kernel
theorem dX9_hits_93 : decode cX9_hits 93 = .ok (.aload_n 0, 1) := by decide +kernel
theorem dX9_hits_94 : decode cX9_hits 94 = .ok (.getfield 80, 3) := by decide +kernel
theorem dX9_hits_97 : decode cX9_hits 97 = .ok (.iload_n 1, 1) := by decide +kernel
theorem dX9_hits_98 : decode cX9_hits 98 = .ok (.iaload, 1) := by decide +kernel
theorem dX9_hits_99 : decode cX9_hits 99 = .ok (.iconst 1, 1) := by decide +kernel
theorem dX9_hits_100 : decode cX9_hits 100 = .ok (.invokevirtual 246, 3) := by decide +kernel
theorem dX9_hits_103 : decode cX9_hits 103 = .ok (.ireturn, 1) := by decide +kernel
theorem dX9_hits_104 : decode cX9_hits 104 = .ok (.iload_n 2, 1) := by decide +kernel
theorem dX9_hits_105 : decode cX9_hits 105 = .ok (.i2l, 1) := by decide +kernel
theorem dX9_hits_106 : decode cX9_hits 106 = .ok (.ldc2_w 250, 3) := by decide +kernel
theorem dX9_hits_109 : decode cX9_hits 109 = .ok (.ldc2_w 252, 3) := by decide +kernel
theorem dX9_hits_112 : decode cX9_hits 112 = .ok (.invokestatic 90, 3) := by decide +kernel
theorem dX9_hits_115 : decode cX9_hits 115 = .ok (.ifCond .ne 6, 3) := by decide +kernel
theorem dX9_hits_121 : decode cX9_hits 121 = .ok (.aload_n 0, 1) := by decide +kernel
theorem dX9_hits_122 : decode cX9_hits 122 = .ok (.iload_n 1, 1) := by decide +kernel
theorem dX9_hits_123 : decode cX9_hits 123 = .ok (.aload_n 0, 1) := by decide +kernel
theorem dX9_hits_124 : decode cX9_hits 124 = .ok (.getfield 80, 3) := by decide +kernel
theorem dX9_hits_127 : decode cX9_hits 127 = .ok (.iload_n 1, 1) := by decide +kernel
theorem dX9_hits_128 : decode cX9_hits 128 = .ok (.iaload, 1) := by decide +kernel
theorem dX9_hits_129 : decode cX9_hits 129 = .ok (.iconst 0, 1) := by decide +kernel
theorem dX9_hits_130 : decode cX9_hits 130 = .ok (.invokevirtual 246, 3) := by decide +kernel
theorem dX9_hits_133 : decode cX9_hits 133 = .ok (.pop, 1) := by decide +kernel
theorem dX9_hits_134 : decode cX9_hits 134 = .ok (.iload_n 2, 1) := by decide +kernel
theorem dX9_hits_135 : decode cX9_hits 135 = .ok (.bipush 10, 2) := by decide +kernel
theorem dX9_hits_137 : decode cX9_hits 137 = .ok (.isub, 1) := by decide +kernel
theorem dX9_hits_138 : decode cX9_hits 138 = .ok (.aload_n 0, 1) := by decide +kernel
theorem dX9_hits_139 : decode cX9_hits 139 = .ok (.getfield 228, 3) := by decide +kernel
theorem dX9_hits_142 : decode cX9_hits 142 = .ok (.if_icmp .ge 15, 3) := by decide +kernel
theorem dX9_hits_157 : decode cX9_hits 157 = .ok (.bipush (-6), 2) := by decide +kernel
theorem dX9_hits_159 : decode cX9_hits 159 = .ok (.ireturn, 1) := by decide +kernel
theorem dX9_hits_118 : decode cX9_hits 118 = .ok (.bipush (-2), 2) := by decide +kernel
theorem dX9_hits_120 : decode cX9_hits 120 = .ok (.ireturn, 1) := by decide +kernel
theorem dX9_hits_7 : decode cX9_hits 7 = .ok (.iconst (-1), 1) := by decide +kernel
theorem dX9_hits_8 : decode cX9_hits 8 = .ok (.ireturn, 1) := by decide +kernel
theorem dX9_need_0 : decode cX9_need 0 = .ok (.iload_n 1, 1) := by decide +kernel
theorem dX9_need_1 : decode cX9_need 1 = .ok (.invokestatic 220, 3) := by decide +kernel
theorem dX9_need_4 : decode cX9_need 4 = .ok (.ifCond .ne 5, 3) := by decide +kernel
theorem dX9_need_9 : decode cX9_need 9 = .ok (.iload_n 2, 1) := by decide +kernel
theorem dX9_need_10 : decode cX9_need 10 = .ok (.i2l, 1) := by decide +kernel
theorem dX9_need_11 : decode cX9_need 11 = .ok (.lconst 0, 1) := by decide +kernel
theorem dX9_need_12 : decode cX9_need 12 = .ok (.ldc2_w 254, 3) := by decide +kernel
theorem dX9_need_15 : decode cX9_need 15 = .ok (.invokestatic 90, 3) := by decide +kernel
theorem dX9_need_18 : decode cX9_need 18 = .ok (.ifCond .ne 6, 3) := by decide +kernel
theorem dX9_need_24 : decode cX9_need 24 = .ok (.iconst 1, 1) := by decide +kernel
theorem dX9_need_25 : decode cX9_need 25 = .ok (.istore_n 3, 1) := by decide +kernel
theorem dX9_need_26 : decode cX9_need 26 = .ok (.iload_n 3, 1) := by decide +kernel
theorem dX9_need_27 : decode cX9_need 27 = .ok (.iconst 4, 1) := by decide +kernel
theorem dX9_need_28 : decode cX9_need 28 = .ok (.if_icmp .gt 22, 3) := by decide +kernel
theorem dX9_need_31 : decode cX9_need 31 = .ok (.aload_n 0, 1) := by decide +kernel
theorem dX9_need_32 : decode cX9_need 32 = .ok (.iload_n 1, 1) := by decide +kernel
theorem dX9_need_33 : decode cX9_need 33 = .ok (.iload_n 3, 1) := by decide +kernel
theorem dX9_need_34 : decode cX9_need 34 = .ok (.iconst 0, 1) := by decide +kernel
theorem dX9_need_35 : decode cX9_need 35 = .ok (.invokevirtual 246, 3) := by decide +kernel
theorem dX9_need_38 : decode cX9_need 38 = .ok (.iload_n 2, 1) := by decide +kernel
theorem dX9_need_39 : decode cX9_need 39 = .ok (.if_icmp .lt 5, 3) := by decide +kernel
theorem dX9_need_44 : decode cX9_need 44 = .ok (.iinc 3 1, 3) := by decide +kernel
theorem dX9_need_47 : decode cX9_need 47 = .ok (.goto (-21), 3) := by decide +kernel
theorem dX9_need_50 : decode cX9_need 50 = .ok (.bipush (-6), 2) := by decide +kernel
theorem dX9_need_52 : decode cX9_need 52 = .ok (.ireturn, 1) := by decide +kernel
theorem dX9_need_42 : decode cX9_need 42 = .ok (.iload_n 3, 1) := by decide +kernel
theorem dX9_need_43 : decode cX9_need 43 = .ok (.ireturn, 1) := by decide +kernel
theorem dX9_need_21 : decode cX9_need 21 = .ok (.bipush (-2), 2) := by decide +kernel
theorem dX9_need_23 : decode cX9_need 23 = .ok (.ireturn, 1) := by decide +kernel
theorem dX9_need_7 : decode cX9_need 7 = .ok (.iconst (-1), 1) := by decide +kernel
theorem dX9_need_8 : decode cX9_need 8 = .ok (.ireturn, 1) := by decide +kernel
theorem dX9_told_0 : decode cX9_told 0 = .ok (.iload_n 1, 1) := by decide +kernel
theorem dX9_told_1 : decode cX9_told 1 = .ok (.i2l, 1) := by decide +kernel
theorem dX9_told_2 : decode cX9_told 2 = .ok (.ldc2_w 250, 3) := by decide +kernel
theorem dX9_told_5 : decode cX9_told 5 = .ok (.ldc2_w 256, 3) := by decide +kernel
theorem dX9_told_8 : decode cX9_told 8 = .ok (.invokestatic 90, 3) := by decide +kernel
theorem dX9_told_11 : decode cX9_told 11 = .ok (.ifCond .eq 28, 3) := by decide +kernel
theorem dX9_told_14 : decode cX9_told 14 = .ok (.aload_n 0, 1) := by decide +kernel
theorem dX9_told_15 : decode cX9_told 15 = .ok (.iload_n 1, 1) := by decide +kernel
theorem dX9_told_16 : decode cX9_told 16 = .ok (.bipush 10, 2) := by decide +kernel
theorem dX9_told_18 : decode cX9_told 18 = .ok (.isub, 1) := by decide +kernel
theorem dX9_told_19 : decode cX9_told 19 = .ok (.invokevirtual 96, 3) := by decide +kernel
theorem dX9_told_22 : decode cX9_told 22 = .ok (.ifCond .eq 15, 3) := by decide +kernel
theorem dX9_told_37 : decode cX9_told 37 = .ok (.iconst 0, 1) := by decide +kernel
theorem dX9_told_38 : decode cX9_told 38 = .ok (.ireturn, 1) := by decide +kernel
theorem dX9_told_39 : decode cX9_told 39 = .ok (.iload_n 1, 1) := by decide +kernel
theorem dX9_told_40 : decode cX9_told 40 = .ok (.i2l, 1) := by decide +kernel
theorem dX9_told_41 : decode cX9_told 41 = .ok (.ldc2_w 258, 3) := by decide +kernel
theorem dX9_told_44 : decode cX9_told 44 = .ok (.ldc2_w 260, 3) := by decide +kernel
theorem dX9_told_47 : decode cX9_told 47 = .ok (.invokestatic 90, 3) := by decide +kernel
theorem dX9_told_50 : decode cX9_told 50 = .ok (.ifCond .eq 32, 3) := by decide +kernel
theorem dX9_told_53 : decode cX9_told 53 = .ok (.aload_n 0, 1) := by decide +kernel
theorem dX9_told_54 : decode cX9_told 54 = .ok (.iload_n 1, 1) := by decide +kernel
theorem dX9_told_55 : decode cX9_told 55 = .ok (.bipush 20, 2) := by decide +kernel
theorem dX9_told_57 : decode cX9_told 57 = .ok (.isub, 1) := by decide +kernel
theorem dX9_told_58 : decode cX9_told 58 = .ok (.invokevirtual 96, 3) := by decide +kernel
theorem dX9_told_61 : decode cX9_told 61 = .ok (.ifCond .eq 19, 3) := by decide +kernel
theorem dX9_told_80 : decode cX9_told 80 = .ok (.iconst 0, 1) := by decide +kernel
theorem dX9_told_81 : decode cX9_told 81 = .ok (.ireturn, 1) := by decide +kernel
theorem dX9_told_82 : decode cX9_told 82 = .ok (.iload_n 1, 1) := by decide +kernel
theorem dX9_told_83 : decode cX9_told 83 = .ok (.ifCond .ne 10, 3) := by decide +kernel
theorem dX9_told_93 : decode cX9_told 93 = .ok (.iload_n 1, 1) := by decide +kernel
theorem dX9_told_94 : decode cX9_told 94 = .ok (.iconst 1, 1) := by decide +kernel
theorem dX9_told_95 : decode cX9_told 95 = .ok (.if_icmp .ne 13, 3) := by decide +kernel
theorem dX9_told_108 : decode cX9_told 108 = .ok (.iload_n 1, 1) := by decide +kernel
theorem dX9_told_109 : decode cX9_told 109 = .ok (.iconst 2, 1) := by decide +kernel
theorem dX9_told_110 : decode cX9_told 110 = .ok (.if_icmp .ne 10, 3) := by decide +kernel
theorem dX9_told_120 : decode cX9_told 120 = .ok (.bipush (-2), 2) := by decide +kernel
theorem dX9_told_122 : decode cX9_told 122 = .ok (.ireturn, 1) := by decide +kernel
theorem dX9_told_113 : decode cX9_told 113 = .ok (.aload_n 0, 1) := by decide +kernel
theorem dX9_told_114 : decode cX9_told 114 = .ok (.getfield 223, 3) := by decide +kernel
theorem dX9_told_117 : decode cX9_told 117 = .ok (.goto 5, 3) := by decide +kernel
theorem dX9_told_98 : decode cX9_told 98 = .ok (.aload_n 0, 1) := by decide +kernel
theorem dX9_told_99 : decode cX9_told 99 = .ok (.getfield 44, 3) := by decide +kernel
theorem dX9_told_102 : decode cX9_told 102 = .ok (.bipush 80, 2) := by decide +kernel
theorem dX9_told_104 : decode cX9_told 104 = .ok (.iaload, 1) := by decide +kernel
theorem dX9_told_105 : decode cX9_told 105 = .ok (.goto 17, 3) := by decide +kernel
theorem dX9_told_86 : decode cX9_told 86 = .ok (.aload_n 0, 1) := by decide +kernel
theorem dX9_told_87 : decode cX9_told 87 = .ok (.getfield 86, 3) := by decide +kernel
theorem dX9_told_90 : decode cX9_told 90 = .ok (.goto 32, 3) := by decide +kernel
set_option maxHeartbeats 4000000 in
set_option maxRecDepth 100000 in
theorem m_hitsBy (l : Launch) (dC : Nat → ClassId) (dI : Nat → Nat → Nat) (sz : Nat) (h0 : Nat) (w0 : Value) (w1 : Value) (w2 : Value) (w3 : Value) (w4 : Value) (w5 : Value) (w6 : Value) (w7 : Value) (w8 : Value) (w9 : Value) (w10 : Value) (w11 : Value) (w12 : Value) (w13 : Value) (w14 : Value) (w15 : Value) (w16 : Value) (w17 : Value) (w18 : Value) (w19 : Value) (w20 : Value) (w21 : Value) (w22 : Value) (w23 : Value) (w24 : Value) (w25 : Value) (w26 : Value) (w27 : Value) (w28 : Value) (w29 : Value) (w30 : Value) (w32 : Value) (w33 : Value) (rm : Int32) (n : Int32) (v : Int32) (bs : Int32)  : Met l yX9_hitsBy (wq yX9_hitsBy cX9_hitsBy 7 (some .int)) ({ frames := 0, cells := 0, slots := 0, locals := 0 }) (va_Pc [.ref h0, .int n, .int v, .int bs] (pcW dC dI [] [(h0, .inr (8, [w0, w1, w2, w3, w4, w5, w6, w7, w8, w9, w10, w11, w12, w13, w14, w15, w16, w17, w18, w19, w20, w21, w22, w23, w24, w25, w26, w27, w28, w29, w30, .int 0, w32, w33, .int rm]))] sz)) (va_Qi (fun (r : Int32) (_ : Unit) => r = 0) (fun _ t => va_P (dC, dI) vwCl [(h0, .inr (8, [w0, w1, w2, w3, w4, w5, w6, w7, w8, w9, w10, w11, w12, w13, w14, w15, w16, w17, w18, w19, w20, w21, w22, w23, w24, w25, w26, w27, w28, w29, w30, .int 0, w32, w33, .int 0]))] t.heap ∧ va_K (dC, dI) vwCl [] t ∧ va_D (va_A [(h0, .inr (8, [w0, w1, w2, w3, w4, w5, w6, w7, w8, w9, w10, w11, w12, w13, w14, w15, w16, w17, w18, w19, w20, w21, w22, w23, w24, w25, w26, w27, w28, w29, w30, .int 0, w32, w33, .int rm]))] sz) [(h0, .inr (8, [w0, w1, w2, w3, w4, w5, w6, w7, w8, w9, w10, w11, w12, w13, w14, w15, w16, w17, w18, w19, w20, w21, w22, w23, w24, w25, w26, w27, w28, w29, w30, .int 0, w32, w33, .int 0]))]) (va_A [(h0, .inr (8, [w0, w1, w2, w3, w4, w5, w6, w7, w8, w9, w10, w11, w12, w13, w14, w15, w16, w17, w18, w19, w20, w21, w22, w23, w24, w25, w26, w27, w28, w29, w30, .int 0, w32, w33, .int rm]))] sz)) 0 0 (va_A [(h0, .inr (8, [w0, w1, w2, w3, w4, w5, w6, w7, w8, w9, w10, w11, w12, w13, w14, w15, w16, w17, w18, w19, w20, w21, w22, w23, w24, w25, w26, w27, w28, w29, w30, .int 0, w32, w33, .int rm]))] sz) := by
  refine Met.ofW (cc := cX9_hitsBy) (maxL := 7) (ret := (some .int)) (by decide) rfl ?_
  intro p e s m args below meth c s₁ B hml hv
  obtain ⟨rfl, hsz, hN, hP, hK, hD0⟩ := hv
  have hx := B.exec
  have hb := B.bytes
  have hr := B.returns
  have hts0 := atoms_spec (ws := (wq yX9_hitsBy cX9_hitsBy 7 (some .int))) B.pre
  have hts : ∀ w ∈ BG, w.before _ s = true := fun w h => hts0 w (List.mem_cons_of_mem _ h)
  have hown : s.vm.findClass RX9 = some m.cls := findClass_of_methodNamed B.named
  have hlocks := B.notSynchronized
  subst hsz
  have hD := hD0.self (sz := s.heap.size)
  generalize hAe : va_A [(h0, .inr (8, [w0, w1, w2, w3, w4, w5, w6, w7, w8, w9, w10, w11, w12, w13, w14, w15, w16, w17, w18, w19, w20, w21, w22, w23, w24, w25, w26, w27, w28, w29, w30, .int 0, w32, w33, .int rm]))] s.heap.size = A at hD ⊢
  have hA : ∀ q : Nat, s.heap.size ≤ q → A q := fun q h => by rw [← hAe]; exact Or.inr h
  have hS : va_S A s.heap s.heap [] := va_S.rf
  have hP : va_P (dC, dI) vwCl [(h0, .inr (8, [w0, w1, w2, w3, w4, w5, w6, w7, w8, w9, w10, w11, w12, w13, w14, w15, w16, w17, w18, w19, w20, w21, w22, w23, w24, w25, w26, w27, w28, w29, w30, .int 0, w32, w33, .int rm]))] s.heap := hP
  have hl := lv_entry ([.ref h0, .int n, .int v, .int bs]) (n := 7) (Nat.le_of_ble_eq_true rfl)
  rw [lg_entry_eq]
  generalize (lg_sl ([.ref h0, .int n, .int v, .int bs]) ++ List.replicate (7 - (lg_sl ([.ref h0, .int n, .int v, .int bs])).length) Slot.unset).toArray = ls at hl ⊢
  have hl : lv_has ls 7 [(0, .ref h0), (1, .int n), (2, .int v), (3, .int bs)] := hl
  skip
  refine lv_aload_n hx hb dX9_hitsBy_0 rfl (lv_at hl 0 rfl) ?_
  refine lv_iconst (v := 0) hx hb dX9_hitsBy_1 (by decide) ?_
  refine va_put (D := (dC, dI)) (ci := 8) (v := .int 0) (ty := .int) (C := RX9) (T := TX9) (N := 35) hx hb hts inB_9 tyX9 tyX9_ok nmX9 hown hK hP hD hS 0 rfl rfl 34 (by decide) (hts _ mw_3_216) (fun _ h9 => h9) rfl (by decide +kernel) rfl rfl (Nat.le_of_ble_eq_true rfl) dX9_hitsBy_2 (fun H locs hP hD hS => ?_)
  have hP : va_P (dC, dI) vwCl [(h0, .inr (8, [w0, w1, w2, w3, w4, w5, w6, w7, w8, w9, w10, w11, w12, w13, w14, w15, w16, w17, w18, w19, w20, w21, w22, w23, w24, w25, w26, w27, w28, w29, w30, .int 0, w32, w33, .int 0]))] H := hP
  have hD : va_D A [(h0, .inr (8, [w0, w1, w2, w3, w4, w5, w6, w7, w8, w9, w10, w11, w12, w13, w14, w15, w16, w17, w18, w19, w20, w21, w22, w23, w24, w25, w26, w27, w28, w29, w30, .int 0, w32, w33, .int 0]))] := hD
  refine lv_iconst (v := 0) hx hb dX9_hitsBy_5 (by decide) ?_
  refine lv_istore (lv' := [(4, .int 0), (0, .ref h0), (1, .int n), (2, .int v), (3, .int bs)]) hx hb dX9_hitsBy_6 hl (by decide) rfl (fun ls hl => ?_)
  refine lv_iconst (v := 0) hx hb dX9_hitsBy_8 (by decide) ?_
  refine lv_istore (lv' := [(5, .int 0), (4, .int 0), (0, .ref h0), (1, .int n), (2, .int v), (3, .int bs)]) hx hb dX9_hitsBy_9 hl (by decide) rfl (fun ls hl => ?_)
  refine lv_iload hx hb dX9_hitsBy_11 (lv_at hl 0 rfl) ?_
  refine lv_aload_n hx hb dX9_hitsBy_13 rfl (lv_at hl 2 rfl) ?_
  refine va_get (D := (dC, dI)) (ci := 8) (v := .int 0) (C := RX9) (T := TX9) (N := 35) hx hb hts inB_9 hown hK hP 0 rfl rfl 31 (by decide) (hts _ mw_3_213) (fun _ h9 => h9) rfl dX9_hitsBy_14 ?_
  refine lv_icmp_ge (tgt := 119) hx hb dX9_hitsBy_17 (by decide) (fun _ => ?_) (fun h => absurd (by decide) h)
  refine lv_iload hx hb dX9_hitsBy_119 (lv_at hl 1 rfl) ?_
  exact W.iret (v := 0) hx hb hr (fun t ht hW => ⟨⟨0, (), rfl, rfl, by rw [ht]; exact hP, va_K.moved hW.alike hK, hD⟩, hS.F ht⟩) hS.2.2 dX9_hitsBy_121
set_option maxHeartbeats 4000000 in
set_option maxRecDepth 100000 in
theorem m_forget (l : Launch) (dC : Nat → ClassId) (dI : Nat → Nat → Nat) (sz : Nat) (h0 : Nat) (w0 : Value) (w1 : Value) (w2 : Value) (w3 : Value) (w4 : Value) (w5 : Value) (w6 : Value) (w7 : Value) (w8 : Value) (w9 : Value) (w10 : Value) (w11 : Value) (w12 : Value) (w13 : Value) (w14 : Value) (w15 : Value) (w16 : Value) (w17 : Value) (w18 : Value) (w19 : Value) (w20 : Value) (w21 : Value) (w22 : Value) (w23 : Value) (w24 : Value) (w25 : Value) (w26 : Value) (w27 : Value) (w28 : Value) (w29 : Value) (w30 : Value) (w32 : Value) (w33 : Value) (w34 : Value)  : Met l yX9_forget (wq yX9_forget cX9_forget 2 (some .int)) ({ frames := 0, cells := 0, slots := 0, locals := 0 }) (va_Pc [.ref h0] (pcW dC dI [] [(h0, .inr (8, [w0, w1, w2, w3, w4, w5, w6, w7, w8, w9, w10, w11, w12, w13, w14, w15, w16, w17, w18, w19, w20, w21, w22, w23, w24, w25, w26, w27, w28, w29, w30, .int 0, w32, w33, w34]))] sz)) (va_Qi (fun (r : Int32) (_ : Unit) => r = 0) (fun _ _ => True) (va_A [(h0, .inr (8, [w0, w1, w2, w3, w4, w5, w6, w7, w8, w9, w10, w11, w12, w13, w14, w15, w16, w17, w18, w19, w20, w21, w22, w23, w24, w25, w26, w27, w28, w29, w30, .int 0, w32, w33, w34]))] sz)) 0 0 (va_A [(h0, .inr (8, [w0, w1, w2, w3, w4, w5, w6, w7, w8, w9, w10, w11, w12, w13, w14, w15, w16, w17, w18, w19, w20, w21, w22, w23, w24, w25, w26, w27, w28, w29, w30, .int 0, w32, w33, w34]))] sz) := by
  refine Met.ofW (cc := cX9_forget) (maxL := 2) (ret := (some .int)) (by decide) rfl ?_
  intro p e s m args below meth c s₁ B hml hv
  obtain ⟨rfl, hsz, hN, hP, hK, hD0⟩ := hv
  have hx := B.exec
  have hb := B.bytes
  have hr := B.returns
  have hts0 := atoms_spec (ws := (wq yX9_forget cX9_forget 2 (some .int))) B.pre
  have hts : ∀ w ∈ BG, w.before _ s = true := fun w h => hts0 w (List.mem_cons_of_mem _ h)
  have hown : s.vm.findClass RX9 = some m.cls := findClass_of_methodNamed B.named
  have hlocks := B.notSynchronized
  subst hsz
  have hD := hD0.self (sz := s.heap.size)
  generalize hAe : va_A [(h0, .inr (8, [w0, w1, w2, w3, w4, w5, w6, w7, w8, w9, w10, w11, w12, w13, w14, w15, w16, w17, w18, w19, w20, w21, w22, w23, w24, w25, w26, w27, w28, w29, w30, .int 0, w32, w33, w34]))] s.heap.size = A at hD ⊢
  have hA : ∀ q : Nat, s.heap.size ≤ q → A q := fun q h => by rw [← hAe]; exact Or.inr h
  have hS : va_S A s.heap s.heap [] := va_S.rf
  have hP : va_P (dC, dI) vwCl [(h0, .inr (8, [w0, w1, w2, w3, w4, w5, w6, w7, w8, w9, w10, w11, w12, w13, w14, w15, w16, w17, w18, w19, w20, w21, w22, w23, w24, w25, w26, w27, w28, w29, w30, .int 0, w32, w33, w34]))] s.heap := hP
  have hl := lv_entry ([.ref h0]) (n := 2) (Nat.le_of_ble_eq_true rfl)
  rw [lg_entry_eq]
  generalize (lg_sl ([.ref h0]) ++ List.replicate (2 - (lg_sl ([.ref h0])).length) Slot.unset).toArray = ls at hl ⊢
  have hl : lv_has ls 2 [(0, .ref h0)] := hl
  skip
  refine lv_aload_n hx hb dX9_forget_0 rfl (lv_at hl 0 rfl) ?_
  refine va_get (D := (dC, dI)) (ci := 8) (v := .int 0) (C := RX9) (T := TX9) (N := 35) hx hb hts inB_9 hown hK hP 0 rfl rfl 31 (by decide) (hts _ mw_3_213) (fun _ h9 => h9) rfl dX9_forget_1 ?_
  refine lv_istore_n (lv' := [(1, .int 0), (0, .ref h0)]) hx hb dX9_forget_4 rfl hl (by decide) rfl (fun ls hl => ?_)
  refine lv_aload_n hx hb dX9_forget_5 rfl (lv_at hl 1 rfl) ?_
  refine lv_iconst (v := 0) hx hb dX9_forget_6 (by decide) ?_
  refine va_put (D := (dC, dI)) (ci := 8) (v := .int 0) (ty := .int) (C := RX9) (T := TX9) (N := 35) hx hb hts inB_9 tyX9 tyX9_ok nmX9 hown hK hP hD hS 0 rfl rfl 31 (by decide) (hts _ mw_3_213) (fun _ h9 => h9) rfl (by decide +kernel) rfl rfl (Nat.le_of_ble_eq_true rfl) dX9_forget_7 (fun H locs hP hD hS => ?_)
  have hP : va_P (dC, dI) vwCl [(h0, .inr (8, [w0, w1, w2, w3, w4, w5, w6, w7, w8, w9, w10, w11, w12, w13, w14, w15, w16, w17, w18, w19, w20, w21, w22, w23, w24, w25, w26, w27, w28, w29, w30, .int 0, w32, w33, w34]))] H := hP
  have hD : va_D A [(h0, .inr (8, [w0, w1, w2, w3, w4, w5, w6, w7, w8, w9, w10, w11, w12, w13, w14, w15, w16, w17, w18, w19, w20, w21, w22, w23, w24, w25, w26, w27, w28, w29, w30, .int 0, w32, w33, w34]))] := hD
  refine lv_iload_n hx hb dX9_forget_10 rfl (lv_at hl 0 rfl) ?_
  exact W.iret (v := 0) hx hb hr (fun t ht hW => ⟨⟨0, (), rfl, rfl, trivial⟩, hS.F ht⟩) hS.2.2 dX9_forget_11
set_option maxHeartbeats 4000000 in
set_option maxRecDepth 100000 in
theorem m_size (l : Launch) (dC : Nat → ClassId) (dI : Nat → Nat → Nat) (sz : Nat) (h0 : Nat) (w0 : Value) (w1 : Value) (w2 : Value) (w3 : Value) (w4 : Value) (w5 : Value) (w6 : Value) (w7 : Value) (w8 : Value) (w9 : Value) (w10 : Value) (w11 : Value) (w12 : Value) (w13 : Value) (w14 : Value) (w15 : Value) (w16 : Value) (w17 : Value) (w18 : Value) (w19 : Value) (w20 : Value) (w21 : Value) (w22 : Value) (w23 : Value) (w24 : Value) (w25 : Value) (w26 : Value) (w27 : Value) (w28 : Value) (w29 : Value) (w30 : Value) (f4 : Nat) (w33 : Value) (kf4 : ClassId) (n1 : Int32) (n2 : Int32)  : Met l yX9_size (wq yX9_size cX9_size 4 (some .int)) ({ frames := 2, cells := 0, slots := 0, locals := 45 }) (va_Pc [.ref h0, .int n1, .int n2] (pcW dC dI [(kf4, .int)] [(h0, .inr (8, [w0, w1, w2, w3, w4, w5, w6, w7, w8, w9, w10, w11, w12, w13, w14, w15, w16, w17, w18, w19, w20, w21, w22, w23, w24, w25, w26, w27, w28, w29, w30, .int 0, .ref f4, w33, .int 0])), (f4, .inl (kf4, 4, .inl (slF 1 0 4)))] sz)) (va_Qi (fun (r : Int32) (_ : Unit) => r = F_size n1 n2) (fun _ _ => True) (va_A [(h0, .inr (8, [w0, w1, w2, w3, w4, w5, w6, w7, w8, w9, w10, w11, w12, w13, w14, w15, w16, w17, w18, w19, w20, w21, w22, w23, w24, w25, w26, w27, w28, w29, w30, .int 0, .ref f4, w33, .int 0])), (f4, .inl (kf4, 4, .inl (slF 1 0 4)))] sz)) 0 0 (va_A [(h0, .inr (8, [w0, w1, w2, w3, w4, w5, w6, w7, w8, w9, w10, w11, w12, w13, w14, w15, w16, w17, w18, w19, w20, w21, w22, w23, w24, w25, w26, w27, w28, w29, w30, .int 0, .ref f4, w33, .int 0])), (f4, .inl (kf4, 4, .inl (slF 1 0 4)))] sz) := by
  refine Met.ofW (cc := cX9_size) (maxL := 4) (ret := (some .int)) (by decide) rfl ?_
  intro p e s m args below meth c s₁ B hml hv
  obtain ⟨rfl, hsz, hN, hP, hK, hD0⟩ := hv
  have hx := B.exec
  have hb := B.bytes
  have hr := B.returns
  have hts0 := atoms_spec (ws := (wq yX9_size cX9_size 4 (some .int))) B.pre
  have hts : ∀ w ∈ BG, w.before _ s = true := fun w h => hts0 w (List.mem_cons_of_mem _ h)
  have hown : s.vm.findClass RX9 = some m.cls := findClass_of_methodNamed B.named
  have hlocks := B.notSynchronized
  subst hsz
  have hD := hD0.self (sz := s.heap.size)
  generalize hAe : va_A [(h0, .inr (8, [w0, w1, w2, w3, w4, w5, w6, w7, w8, w9, w10, w11, w12, w13, w14, w15, w16, w17, w18, w19, w20, w21, w22, w23, w24, w25, w26, w27, w28, w29, w30, .int 0, .ref f4, w33, .int 0])), (f4, .inl (kf4, 4, .inl (slF 1 0 4)))] s.heap.size = A at hD ⊢
  have hA : ∀ q : Nat, s.heap.size ≤ q → A q := fun q h => by rw [← hAe]; exact Or.inr h
  have hS : va_S A s.heap s.heap [] := va_S.rf
  have hP : va_P (dC, dI) vwCl [(h0, .inr (8, [w0, w1, w2, w3, w4, w5, w6, w7, w8, w9, w10, w11, w12, w13, w14, w15, w16, w17, w18, w19, w20, w21, w22, w23, w24, w25, w26, w27, w28, w29, w30, .int 0, .ref f4, w33, .int 0])), (f4, .inl (kf4, 4, .inl (slF 1 0 4)))] s.heap := hP
  have hl := lv_entry ([.ref h0, .int n1, .int n2]) (n := 4) (Nat.le_of_ble_eq_true rfl)
  rw [lg_entry_eq]
  generalize (lg_sl ([.ref h0, .int n1, .int n2]) ++ List.replicate (4 - (lg_sl ([.ref h0, .int n1, .int n2])).length) Slot.unset).toArray = ls at hl ⊢
  have hl : lv_has ls 4 [(0, .ref h0), (1, .int n1), (2, .int n2)] := hl
  skip
  refine lv_iload_n hx hb dX9_size_0 rfl (lv_at hl 1 rfl) ?_
  have hPc := hP.sub (ws' := []) [] rfl
  have hDc := hD.sub (ws' := []) [] (by decide) rfl
  have hKc := hK.sub (tys' := []) [] rfl
  refine va_calli (va_runS (As := [.int n1]) (rest := []) ⟨hx, hb, hml, hown, hts⟩ (m_isPlace l dC dI s.heap.size n1) (va_cwS 1 hts (gS mw_5_7 mw_5_8 mw_1_9 mw_5_9) rfl rfl rfl (by decide +kernel) ⟨Nat.le_of_ble_eq_true rfl, Nat.le_of_ble_eq_true rfl⟩) ⟨pcW_blind, pcW_at hPc hKc hDc hN⟩ rfl rfl hl.1 rfl (lv_room (Nat.le_of_ble_eq_true rfl)) dX9_size_1 ⟨Nat.le_of_ble_eq_true rfl, Nat.le_of_ble_eq_true rfl⟩) hS (fun q h1 h2 => absurd h2 (Nat.not_le.mpr h1)) (fun q h => hA q (Nat.le_trans hS.1 h)) (fun r_1 u t H1 locs ht hvm hw_1 hB hz1 hk1 hS => ?_)
  have hP := keepP hP hk1
  clear hz1 hk1 hB ht hvm hPc hDc hKc
  generalize H1 = H at hP hS ⊢
  rcases fx_bool hw_1 with ⟨rfl, b_2⟩ | ⟨rfl, b_2⟩
  · skip
    refine lv_if_ne (tgt := 9) hx hb dX9_size_4 (by decide) (fun _ => ?_) (fun h => absurd h (by decide))
    refine lv_iload_n hx hb dX9_size_9 rfl (lv_at hl 2 rfl) ?_
    refine lv_i2l hx hb dX9_size_10 rfl ?_
    refine lv_lconst (v := Int32.toInt64 1) hx hb dX9_size_11 (by decide) ?_
    refine lv_ldc2 (v := Int32.toInt64 4) hx hb hown (show (Cond.constantLong RX9 226 (Int32.toInt64 4)).before _ s = true from (hts _ mw_5_18)) dX9_size_12 ?_
    have hPc := hP.sub (ws' := []) [] rfl
    have hDc := hD.sub (ws' := []) [] (by decide) rfl
    have hKc := hK.sub (tys' := []) [] rfl
    refine va_calli (va_runS (As := [.long (Int32.toInt64 n2), .long (Int32.toInt64 1), .long (Int32.toInt64 4)]) (rest := []) ⟨hx, hb, hml, hown, hts⟩ (m_in l dC dI H.size n2 1 4 1 4 (by decide) (by decide)) (va_cwS 3 hts (gS mw_4_57 mw_4_58 mw_1_9 mw_4_59) rfl rfl rfl (by decide +kernel) ⟨Nat.le_of_ble_eq_true rfl, Nat.le_of_ble_eq_true rfl⟩) ⟨pcW_blind, pcW_at hPc hKc hDc hN⟩ rfl rfl hl.1 rfl (lv_room (Nat.le_of_ble_eq_true rfl)) dX9_size_15 ⟨Nat.le_of_ble_eq_true rfl, Nat.le_of_ble_eq_true rfl⟩) hS (fun q h1 h2 => absurd h2 (Nat.not_le.mpr h1)) (fun q h => hA q (Nat.le_trans hS.1 h)) (fun r_3 u t H1 locs ht hvm hw_3 hB hz1 hk1 hS => ?_)
    have hP := keepP hP hk1
    clear hz1 hk1 hB ht hvm hPc hDc hKc
    generalize H1 = H at hP hS ⊢
    rcases fx_bool hw_3 with ⟨rfl, b_4⟩ | ⟨rfl, b_4⟩
    · skip
      refine lv_if_ne (tgt := 24) hx hb dX9_size_18 (by decide) (fun _ => ?_) (fun h => absurd h (by decide))
      refine lv_aload_n hx hb dX9_size_24 rfl (lv_at hl 0 rfl) ?_
      refine va_get (D := (dC, dI)) (ci := 8) (v := .ref f4) (C := RX9) (T := TX9) (N := 35) hx hb hts inB_9 hown hK hP 0 rfl rfl 32 (by decide) (hts _ mw_3_214) (fun _ h9 => h9) rfl dX9_size_25 ?_
      refine lv_iload_n hx hb dX9_size_28 rfl (lv_at hl 1 rfl) ?_
      refine va_iald hx hb hK hP 1 0 rfl rfl (show vp_in n1 4 from fx_in (by omega) (by omega)) dX9_size_29 ?_
      refine hx_top (y := 1) (slF_in (fx_cl (by omega) (by omega))) ?_
      refine lv_istore_n (lv' := [(3, .int 1), (0, .ref h0), (1, .int n1), (2, .int n2)]) hx hb dX9_size_30 rfl hl (by decide) rfl (fun ls hl => ?_)
      refine lv_aload_n hx hb dX9_size_31 rfl (lv_at hl 1 rfl) ?_
      refine va_get (D := (dC, dI)) (ci := 8) (v := .ref f4) (C := RX9) (T := TX9) (N := 35) hx hb hts inB_9 hown hK hP 0 rfl rfl 32 (by decide) (hts _ mw_3_214) (fun _ h9 => h9) rfl dX9_size_32 ?_
      refine lv_iload_n hx hb dX9_size_35 rfl (lv_at hl 2 rfl) ?_
      refine lv_iload_n hx hb dX9_size_36 rfl (lv_at hl 3 rfl) ?_
      refine va_iast hx hb hK hP hD hS 1 0 rfl rfl (show vp_in n1 4 from fx_in (by omega) (by omega)) dX9_size_37 (fun H locs hP hD hS => ?_)
      have hP : va_P (dC, dI) vwCl [(h0, .inr (8, [w0, w1, w2, w3, w4, w5, w6, w7, w8, w9, w10, w11, w12, w13, w14, w15, w16, w17, w18, w19, w20, w21, w22, w23, w24, w25, w26, w27, w28, w29, w30, .int 0, .ref f4, w33, .int 0])), (f4, .inl (kf4, 4, .inl (upd (slF 1 0 4) (Int32.toNatClampNeg n1) n2)))] H := hP
      have hD : va_D A [(h0, .inr (8, [w0, w1, w2, w3, w4, w5, w6, w7, w8, w9, w10, w11, w12, w13, w14, w15, w16, w17, w18, w19, w20, w21, w22, w23, w24, w25, w26, w27, w28, w29, w30, .int 0, .ref f4, w33, .int 0])), (f4, .inl (kf4, 4, .inl (upd (slF 1 0 4) (Int32.toNatClampNeg n1) n2)))] := hD
      refine lv_iload_n hx hb dX9_size_38 rfl (lv_at hl 0 rfl) ?_
      exact W.iret (v := 1) hx hb hr (fun t ht hW => ⟨⟨1, (), rfl, (by (unfold F_size; repeat' split) <;> first | rfl | (exfalso; omega)), trivial⟩, hS.F ht⟩) hS.2.2 dX9_size_39
    · skip
      refine lv_if_ne (tgt := 24) hx hb dX9_size_18 (by decide) (fun h => absurd h (by decide)) (fun _ => ?_)
      refine lv_bipush (v := (-2)) hx hb dX9_size_21 (by decide) ?_
      exact W.iret (v := (-2)) hx hb hr (fun t ht hW => ⟨⟨(-2), (), rfl, (by (unfold F_size; repeat' split) <;> first | rfl | (exfalso; omega)), trivial⟩, hS.F ht⟩) hS.2.2 dX9_size_23
  · skip
    refine lv_if_ne (tgt := 9) hx hb dX9_size_4 (by decide) (fun h => absurd h (by decide)) (fun _ => ?_)
    refine lv_iconst (v := (-1)) hx hb dX9_size_7 (by decide) ?_
    exact W.iret (v := (-1)) hx hb hr (fun t ht hW => ⟨⟨(-1), (), rfl, (by (unfold F_size; repeat' split) <;> first | rfl | (exfalso; omega)), trivial⟩, hS.F ht⟩) hS.2.2 dX9_size_8
set_option maxHeartbeats 4000000 in
set_option maxRecDepth 100000 in
theorem m_hits (l : Launch) (dC : Nat → ClassId) (dI : Nat → Nat → Nat) (sz : Nat) (h0 : Nat) (w0 : Value) (w1 : Value) (w2 : Value) (w3 : Value) (w4 : Value) (w5 : Value) (w6 : Value) (w7 : Value) (w8 : Value) (w9 : Value) (w10 : Value) (w11 : Value) (w12 : Value) (w13 : Value) (w14 : Value) (w15 : Value) (w16 : Value) (w17 : Value) (w18 : Value) (w19 : Value) (w20 : Value) (w21 : Value) (w22 : Value) (w23 : Value) (w24 : Value) (w25 : Value) (w26 : Value) (w27 : Value) (w28 : Value) (w29 : Value) (w30 : Value) (f4 : Nat) (w33 : Value) (kf4 : ClassId) (n1 : Int32) (n2 : Int32)  : Met l yX9_hits (wq yX9_hits cX9_hits 5 (some .int)) ({ frames := 2, cells := 0, slots := 0, locals := 45 }) (va_Pc [.ref h0, .int n1, .int n2] (pcW dC dI [(kf4, .int)] [(h0, .inr (8, [w0, w1, w2, w3, w4, w5, w6, w7, w8, w9, w10, w11, w12, w13, w14, w15, w16, w17, w18, w19, w20, w21, w22, w23, w24, w25, w26, w27, w28, w29, w30, .int 0, .ref f4, w33, .int 0])), (f4, .inl (kf4, 4, .inl (slF 1 0 4)))] sz)) (va_Qi (fun (r : Int32) (_ : Unit) => r = F_hits n1 n2) (fun _ _ => True) (va_A [(h0, .inr (8, [w0, w1, w2, w3, w4, w5, w6, w7, w8, w9, w10, w11, w12, w13, w14, w15, w16, w17, w18, w19, w20, w21, w22, w23, w24, w25, w26, w27, w28, w29, w30, .int 0, .ref f4, w33, .int 0])), (f4, .inl (kf4, 4, .inl (slF 1 0 4)))] sz)) 0 0 (va_A [(h0, .inr (8, [w0, w1, w2, w3, w4, w5, w6, w7, w8, w9, w10, w11, w12, w13, w14, w15, w16, w17, w18, w19, w20, w21, w22, w23, w24, w25, w26, w27, w28, w29, w30, .int 0, .ref f4, w33, .int 0])), (f4, .inl (kf4, 4, .inl (slF 1 0 4)))] sz) := by
  refine Met.ofW (cc := cX9_hits) (maxL := 5) (ret := (some .int)) (by decide) rfl ?_
  intro p e s m args below meth c s₁ B hml hv
  obtain ⟨rfl, hsz, hN, hP, hK, hD0⟩ := hv
  have hx := B.exec
  have hb := B.bytes
  have hr := B.returns
  have hts0 := atoms_spec (ws := (wq yX9_hits cX9_hits 5 (some .int))) B.pre
  have hts : ∀ w ∈ BG, w.before _ s = true := fun w h => hts0 w (List.mem_cons_of_mem _ h)
  have hown : s.vm.findClass RX9 = some m.cls := findClass_of_methodNamed B.named
  have hlocks := B.notSynchronized
  subst hsz
  have hD := hD0.self (sz := s.heap.size)
  generalize hAe : va_A [(h0, .inr (8, [w0, w1, w2, w3, w4, w5, w6, w7, w8, w9, w10, w11, w12, w13, w14, w15, w16, w17, w18, w19, w20, w21, w22, w23, w24, w25, w26, w27, w28, w29, w30, .int 0, .ref f4, w33, .int 0])), (f4, .inl (kf4, 4, .inl (slF 1 0 4)))] s.heap.size = A at hD ⊢
  have hA : ∀ q : Nat, s.heap.size ≤ q → A q := fun q h => by rw [← hAe]; exact Or.inr h
  have hS : va_S A s.heap s.heap [] := va_S.rf
  have hP : va_P (dC, dI) vwCl [(h0, .inr (8, [w0, w1, w2, w3, w4, w5, w6, w7, w8, w9, w10, w11, w12, w13, w14, w15, w16, w17, w18, w19, w20, w21, w22, w23, w24, w25, w26, w27, w28, w29, w30, .int 0, .ref f4, w33, .int 0])), (f4, .inl (kf4, 4, .inl (slF 1 0 4)))] s.heap := hP
  have hl := lv_entry ([.ref h0, .int n1, .int n2]) (n := 5) (Nat.le_of_ble_eq_true rfl)
  rw [lg_entry_eq]
  generalize (lg_sl ([.ref h0, .int n1, .int n2]) ++ List.replicate (5 - (lg_sl ([.ref h0, .int n1, .int n2])).length) Slot.unset).toArray = ls at hl ⊢
  have hl : lv_has ls 5 [(0, .ref h0), (1, .int n1), (2, .int n2)] := hl
  skip
  refine lv_iload_n hx hb dX9_hits_0 rfl (lv_at hl 1 rfl) ?_
  have hPc := hP.sub (ws' := []) [] rfl
  have hDc := hD.sub (ws' := []) [] (by decide) rfl
  have hKc := hK.sub (tys' := []) [] rfl
  refine va_calli (va_runS (As := [.int n1]) (rest := []) ⟨hx, hb, hml, hown, hts⟩ (m_isPlace l dC dI s.heap.size n1) (va_cwS 1 hts (gS mw_5_7 mw_5_8 mw_1_9 mw_5_9) rfl rfl rfl (by decide +kernel) ⟨Nat.le_of_ble_eq_true rfl, Nat.le_of_ble_eq_true rfl⟩) ⟨pcW_blind, pcW_at hPc hKc hDc hN⟩ rfl rfl hl.1 rfl (lv_room (Nat.le_of_ble_eq_true rfl)) dX9_hits_1 ⟨Nat.le_of_ble_eq_true rfl, Nat.le_of_ble_eq_true rfl⟩) hS (fun q h1 h2 => absurd h2 (Nat.not_le.mpr h1)) (fun q h => hA q (Nat.le_trans hS.1 h)) (fun r_1 u t H1 locs ht hvm hw_1 hB hz1 hk1 hS => ?_)
  have hP := keepP hP hk1
  clear hz1 hk1 hB ht hvm hPc hDc hKc
  generalize H1 = H at hP hS ⊢
  rcases fx_bool hw_1 with ⟨rfl, b_2⟩ | ⟨rfl, b_2⟩
  · skip
    refine lv_if_ne (tgt := 9) hx hb dX9_hits_4 (by decide) (fun _ => ?_) (fun h => absurd h (by decide))
    refine lv_iconst (v := 0) hx hb dX9_hits_9 (by decide) ?_
    refine lv_istore_n (lv' := [(3, .int 0), (0, .ref h0), (1, .int n1), (2, .int n2)]) hx hb dX9_hits_10 rfl hl (by decide) rfl (fun ls hl => ?_)
    refine lv_iconst (v := 0) hx hb dX9_hits_11 (by decide) ?_
    refine lv_istore (lv' := [(4, .int 0), (3, .int 0), (0, .ref h0), (1, .int n1), (2, .int n2)]) hx hb dX9_hits_12 hl (by decide) rfl (fun ls hl => ?_)
    refine lv_iload hx hb dX9_hits_14 (lv_at hl 0 rfl) ?_
    refine lv_aload_n hx hb dX9_hits_16 rfl (lv_at hl 2 rfl) ?_
    refine va_get (D := (dC, dI)) (ci := 8) (v := .int 0) (C := RX9) (T := TX9) (N := 35) hx hb hts inB_9 hown hK hP 0 rfl rfl 31 (by decide) (hts _ mw_3_213) (fun _ h9 => h9) rfl dX9_hits_17 ?_
    refine lv_icmp_ge (tgt := 48) hx hb dX9_hits_20 (by decide) (fun _ => ?_) (fun h => absurd (by decide) h)
    refine lv_iload_n hx hb dX9_hits_48 rfl (lv_at hl 4 rfl) ?_
    rcases (by omega : Int32.toInt n2 = 0 ∨ Int32.toInt n2 = 1 ∨ Int32.toInt n2 = 2 ∨ (Int32.toInt n2 < 0 ∨ 2 < Int32.toInt n2)) with b_3 | b_3 | b_3 | b_3
    · refine lv_tableIn (off := 27) (tgt := 76) hx hb dX9_hits_49 (by omega) (by omega) (by rw [b_3]; rfl) (by decide) ?_
      refine lv_iload_n hx hb dX9_hits_76 rfl (lv_at hl 1 rfl) ?_
      exact W.iret (v := 0) hx hb hr (fun t ht hW => ⟨⟨0, (), rfl, (by (unfold F_hits; repeat' split) <;> first | rfl | (exfalso; omega)), trivial⟩, hS.F ht⟩) hS.2.2 dX9_hits_77
    · refine lv_tableIn (off := 29) (tgt := 78) hx hb dX9_hits_49 (by omega) (by omega) (by rw [b_3]; rfl) (by decide) ?_
      refine lv_aload_n hx hb dX9_hits_78 rfl (lv_at hl 2 rfl) ?_
      refine lv_iload_n hx hb dX9_hits_79 rfl (lv_at hl 3 rfl) ?_
      refine lv_aload_n hx hb dX9_hits_80 rfl (lv_at hl 2 rfl) ?_
      refine va_get (D := (dC, dI)) (ci := 8) (v := .ref f4) (C := RX9) (T := TX9) (N := 35) hx hb hts inB_9 hown hK hP 0 rfl rfl 32 (by decide) (hts _ mw_3_214) (fun _ h9 => h9) rfl dX9_hits_81 ?_
      refine lv_iload_n hx hb dX9_hits_84 rfl (lv_at hl 3 rfl) ?_
      refine va_iald hx hb hK hP 1 0 rfl rfl (show vp_in n1 4 from fx_in (by omega) (by omega)) dX9_hits_85 ?_
      refine hx_top (y := 1) (slF_in (fx_cl (by omega) (by omega))) ?_
      refine lv_iconst (v := 0) hx hb dX9_hits_86 (by decide) ?_
      have hPc := hP.sub (ws' := [(h0, .inr (8, [w0, w1, w2, w3, w4, w5, w6, w7, w8, w9, w10, w11, w12, w13, w14, w15, w16, w17, w18, w19, w20, w21, w22, w23, w24, w25, w26, w27, w28, w29, w30, .int 0, .ref f4, w33, .int 0]))]) [0] rfl
      have hDc := hD.sub (ws' := [(h0, .inr (8, [w0, w1, w2, w3, w4, w5, w6, w7, w8, w9, w10, w11, w12, w13, w14, w15, w16, w17, w18, w19, w20, w21, w22, w23, w24, w25, w26, w27, w28, w29, w30, .int 0, .ref f4, w33, .int 0]))]) [0] (by decide) rfl
      have hKc := hK.sub (tys' := []) [] rfl
      have hFc := va_free (wc := [(h0, .inr (8, [w0, w1, w2, w3, w4, w5, w6, w7, w8, w9, w10, w11, w12, w13, w14, w15, w16, w17, w18, w19, w20, w21, w22, w23, w24, w25, w26, w27, w28, w29, w30, .int 0, .ref f4, w33, .int 0]))]) hD hS hA [0] rfl
      refine va_calli (va_runV (As := [.int n1, .int 1, .int 0]) (rest := []) ⟨hx, hb, hml, hown, hts⟩ (m_hitsBy l dC dI H.size h0 (w0) (w1) (w2) (w3) (w4) (w5) (w6) (w7) (w8) (w9) (w10) (w11) (w12) (w13) (w14) (w15) (w16) (w17) (w18) (w19) (w20) (w21) (w22) (w23) (w24) (w25) (w26) (w27) (w28) (w29) (w30) (.ref f4) (w33) 0 n1 1 0) (cwV 3 hts (gV mw_5_23 mw_5_25 mw_0_37 mw_1_9 mw_5_26) rfl rfl rfl (by decide +kernel) ⟨Nat.le_of_ble_eq_true rfl, Nat.le_of_ble_eq_true rfl⟩) ⟨pcW_blind, va_recv hKc hPc (ci := 8) (q0 := 0) rfl rfl, pcW_at hPc hKc hDc hN⟩ rfl rfl hl.1 rfl (lv_room (Nat.le_of_ble_eq_true rfl)) dX9_hits_87 ⟨Nat.le_of_ble_eq_true rfl, Nat.le_of_ble_eq_true rfl⟩) hS (fun q _ h => hFc q h) hFc (fun r_4 u t H1 locs ht hvm hw_4 hB hz1 hk1 hS => ?_)
      obtain ⟨hP1, hK1, hD1⟩ := hB
      rw [ht] at hP1
      have hK1 := va_K.moved hvm.symm hK1
      obtain ⟨hP, hD⟩ := va_join (wr := [(f4, .inl (kf4, 4, .inl (slF 1 0 4)))]) (w1 := [(h0, .inr (8, [w0, w1, w2, w3, w4, w5, w6, w7, w8, w9, w10, w11, w12, w13, w14, w15, w16, w17, w18, w19, w20, w21, w22, w23, w24, w25, w26, w27, w28, w29, w30, .int 0, .ref f4, w33, .int 0]))]) hP hD [0] [1] rfl rfl (by decide) (by decide) hk1 hFc hP1 hD1
      have hK := (hK.sub (tys' := [(kf4, .int)]) [0] rfl).app hK1
      clear hz1 hk1 hPc hDc hKc hFc
      generalize H1 = H at hP hS ⊢
      have hK : va_K (dC, dI) vwCl [(kf4, .int)] s := hK
      have hP : va_P (dC, dI) vwCl [(f4, .inl (kf4, 4, .inl (slF 1 0 4))), (h0, .inr (8, [w0, w1, w2, w3, w4, w5, w6, w7, w8, w9, w10, w11, w12, w13, w14, w15, w16, w17, w18, w19, w20, w21, w22, w23, w24, w25, w26, w27, w28, w29, w30, .int 0, .ref f4, w33, .int 0]))] H := hP
      have hD : va_D A [(f4, .inl (kf4, 4, .inl (slF 1 0 4))), (h0, .inr (8, [w0, w1, w2, w3, w4, w5, w6, w7, w8, w9, w10, w11, w12, w13, w14, w15, w16, w17, w18, w19, w20, w21, w22, w23, w24, w25, w26, w27, w28, w29, w30, .int 0, .ref f4, w33, .int 0]))] := hD
      obtain rfl : r_4 = 0 := hw_4
      exact W.iret (v := 0) hx hb hr (fun t ht hW => ⟨⟨0, (), rfl, (by (unfold F_hits; repeat' split) <;> first | rfl | (exfalso; omega)), trivial⟩, hS.F ht⟩) hS.2.2 dX9_hits_90
    · refine lv_tableIn (off := 42) (tgt := 91) hx hb dX9_hits_49 (by omega) (by omega) (by rw [b_3]; rfl) (by decide) ?_
      refine lv_aload_n hx hb dX9_hits_91 rfl (lv_at hl 2 rfl) ?_
      refine lv_iload_n hx hb dX9_hits_92 rfl (lv_at hl 3 rfl) ?_
      refine lv_aload_n hx hb dX9_hits_93 rfl (lv_at hl 2 rfl) ?_
      refine va_get (D := (dC, dI)) (ci := 8) (v := .ref f4) (C := RX9) (T := TX9) (N := 35) hx hb hts inB_9 hown hK hP 0 rfl rfl 32 (by decide) (hts _ mw_3_214) (fun _ h9 => h9) rfl dX9_hits_94 ?_
      refine lv_iload_n hx hb dX9_hits_97 rfl (lv_at hl 3 rfl) ?_
      refine va_iald hx hb hK hP 1 0 rfl rfl (show vp_in n1 4 from fx_in (by omega) (by omega)) dX9_hits_98 ?_
      refine hx_top (y := 1) (slF_in (fx_cl (by omega) (by omega))) ?_
      refine lv_iconst (v := 1) hx hb dX9_hits_99 (by decide) ?_
      have hPc := hP.sub (ws' := [(h0, .inr (8, [w0, w1, w2, w3, w4, w5, w6, w7, w8, w9, w10, w11, w12, w13, w14, w15, w16, w17, w18, w19, w20, w21, w22, w23, w24, w25, w26, w27, w28, w29, w30, .int 0, .ref f4, w33, .int 0]))]) [0] rfl
      have hDc := hD.sub (ws' := [(h0, .inr (8, [w0, w1, w2, w3, w4, w5, w6, w7, w8, w9, w10, w11, w12, w13, w14, w15, w16, w17, w18, w19, w20, w21, w22, w23, w24, w25, w26, w27, w28, w29, w30, .int 0, .ref f4, w33, .int 0]))]) [0] (by decide) rfl
      have hKc := hK.sub (tys' := []) [] rfl
      have hFc := va_free (wc := [(h0, .inr (8, [w0, w1, w2, w3, w4, w5, w6, w7, w8, w9, w10, w11, w12, w13, w14, w15, w16, w17, w18, w19, w20, w21, w22, w23, w24, w25, w26, w27, w28, w29, w30, .int 0, .ref f4, w33, .int 0]))]) hD hS hA [0] rfl
      refine va_calli (va_runV (As := [.int n1, .int 1, .int 1]) (rest := []) ⟨hx, hb, hml, hown, hts⟩ (m_hitsBy l dC dI H.size h0 (w0) (w1) (w2) (w3) (w4) (w5) (w6) (w7) (w8) (w9) (w10) (w11) (w12) (w13) (w14) (w15) (w16) (w17) (w18) (w19) (w20) (w21) (w22) (w23) (w24) (w25) (w26) (w27) (w28) (w29) (w30) (.ref f4) (w33) 0 n1 1 1) (cwV 3 hts (gV mw_5_23 mw_5_25 mw_0_37 mw_1_9 mw_5_26) rfl rfl rfl (by decide +kernel) ⟨Nat.le_of_ble_eq_true rfl, Nat.le_of_ble_eq_true rfl⟩) ⟨pcW_blind, va_recv hKc hPc (ci := 8) (q0 := 0) rfl rfl, pcW_at hPc hKc hDc hN⟩ rfl rfl hl.1 rfl (lv_room (Nat.le_of_ble_eq_true rfl)) dX9_hits_100 ⟨Nat.le_of_ble_eq_true rfl, Nat.le_of_ble_eq_true rfl⟩) hS (fun q _ h => hFc q h) hFc (fun r_5 u t H1 locs ht hvm hw_5 hB hz1 hk1 hS => ?_)
      obtain ⟨hP1, hK1, hD1⟩ := hB
      rw [ht] at hP1
      have hK1 := va_K.moved hvm.symm hK1
      obtain ⟨hP, hD⟩ := va_join (wr := [(f4, .inl (kf4, 4, .inl (slF 1 0 4)))]) (w1 := [(h0, .inr (8, [w0, w1, w2, w3, w4, w5, w6, w7, w8, w9, w10, w11, w12, w13, w14, w15, w16, w17, w18, w19, w20, w21, w22, w23, w24, w25, w26, w27, w28, w29, w30, .int 0, .ref f4, w33, .int 0]))]) hP hD [0] [1] rfl rfl (by decide) (by decide) hk1 hFc hP1 hD1
      have hK := (hK.sub (tys' := [(kf4, .int)]) [0] rfl).app hK1
      clear hz1 hk1 hPc hDc hKc hFc
      generalize H1 = H at hP hS ⊢
      have hK : va_K (dC, dI) vwCl [(kf4, .int)] s := hK
      have hP : va_P (dC, dI) vwCl [(f4, .inl (kf4, 4, .inl (slF 1 0 4))), (h0, .inr (8, [w0, w1, w2, w3, w4, w5, w6, w7, w8, w9, w10, w11, w12, w13, w14, w15, w16, w17, w18, w19, w20, w21, w22, w23, w24, w25, w26, w27, w28, w29, w30, .int 0, .ref f4, w33, .int 0]))] H := hP
      have hD : va_D A [(f4, .inl (kf4, 4, .inl (slF 1 0 4))), (h0, .inr (8, [w0, w1, w2, w3, w4, w5, w6, w7, w8, w9, w10, w11, w12, w13, w14, w15, w16, w17, w18, w19, w20, w21, w22, w23, w24, w25, w26, w27, w28, w29, w30, .int 0, .ref f4, w33, .int 0]))] := hD
      obtain rfl : r_5 = 0 := hw_5
      exact W.iret (v := 0) hx hb hr (fun t ht hW => ⟨⟨0, (), rfl, (by (unfold F_hits; repeat' split) <;> first | rfl | (exfalso; omega)), trivial⟩, hS.F ht⟩) hS.2.2 dX9_hits_103
    · refine lv_tableOut (tgt := 104) hx hb dX9_hits_49 (by omega) (by decide) ?_
      refine lv_iload_n hx hb dX9_hits_104 rfl (lv_at hl 4 rfl) ?_
      refine lv_i2l hx hb dX9_hits_105 rfl ?_
      refine lv_ldc2 (v := Int32.toInt64 10) hx hb hown (show (Cond.constantLong RX9 250 (Int32.toInt64 10)).before _ s = true from (hts _ mw_5_47)) dX9_hits_106 ?_
      refine lv_ldc2 (v := Int32.toInt64 13) hx hb hown (show (Cond.constantLong RX9 252 (Int32.toInt64 13)).before _ s = true from (hts _ mw_5_48)) dX9_hits_109 ?_
      have hPc := hP.sub (ws' := []) [] rfl
      have hDc := hD.sub (ws' := []) [] (by decide) rfl
      have hKc := hK.sub (tys' := []) [] rfl
      refine va_calli (va_runS (As := [.long (Int32.toInt64 n2), .long (Int32.toInt64 10), .long (Int32.toInt64 13)]) (rest := []) ⟨hx, hb, hml, hown, hts⟩ (m_in l dC dI H.size n2 10 13 10 13 (by decide) (by decide)) (va_cwS 3 hts (gS mw_4_57 mw_4_58 mw_1_9 mw_4_59) rfl rfl rfl (by decide +kernel) ⟨Nat.le_of_ble_eq_true rfl, Nat.le_of_ble_eq_true rfl⟩) ⟨pcW_blind, pcW_at hPc hKc hDc hN⟩ rfl rfl hl.1 rfl (lv_room (Nat.le_of_ble_eq_true rfl)) dX9_hits_112 ⟨Nat.le_of_ble_eq_true rfl, Nat.le_of_ble_eq_true rfl⟩) hS (fun q h1 h2 => absurd h2 (Nat.not_le.mpr h1)) (fun q h => hA q (Nat.le_trans hS.1 h)) (fun r_6 u t H1 locs ht hvm hw_6 hB hz1 hk1 hS => ?_)
      have hP := keepP hP hk1
      clear hz1 hk1 hB ht hvm hPc hDc hKc
      generalize H1 = H at hP hS ⊢
      rcases fx_bool hw_6 with ⟨rfl, b_7⟩ | ⟨rfl, b_7⟩
      · skip
        refine lv_if_ne (tgt := 121) hx hb dX9_hits_115 (by decide) (fun _ => ?_) (fun h => absurd h (by decide))
        refine lv_aload_n hx hb dX9_hits_121 rfl (lv_at hl 2 rfl) ?_
        refine lv_iload_n hx hb dX9_hits_122 rfl (lv_at hl 3 rfl) ?_
        refine lv_aload_n hx hb dX9_hits_123 rfl (lv_at hl 2 rfl) ?_
        refine va_get (D := (dC, dI)) (ci := 8) (v := .ref f4) (C := RX9) (T := TX9) (N := 35) hx hb hts inB_9 hown hK hP 0 rfl rfl 32 (by decide) (hts _ mw_3_214) (fun _ h9 => h9) rfl dX9_hits_124 ?_
        refine lv_iload_n hx hb dX9_hits_127 rfl (lv_at hl 3 rfl) ?_
        refine va_iald hx hb hK hP 1 0 rfl rfl (show vp_in n1 4 from fx_in (by omega) (by omega)) dX9_hits_128 ?_
        refine hx_top (y := 1) (slF_in (fx_cl (by omega) (by omega))) ?_
        refine lv_iconst (v := 0) hx hb dX9_hits_129 (by decide) ?_
        have hPc := hP.sub (ws' := [(h0, .inr (8, [w0, w1, w2, w3, w4, w5, w6, w7, w8, w9, w10, w11, w12, w13, w14, w15, w16, w17, w18, w19, w20, w21, w22, w23, w24, w25, w26, w27, w28, w29, w30, .int 0, .ref f4, w33, .int 0]))]) [0] rfl
        have hDc := hD.sub (ws' := [(h0, .inr (8, [w0, w1, w2, w3, w4, w5, w6, w7, w8, w9, w10, w11, w12, w13, w14, w15, w16, w17, w18, w19, w20, w21, w22, w23, w24, w25, w26, w27, w28, w29, w30, .int 0, .ref f4, w33, .int 0]))]) [0] (by decide) rfl
        have hKc := hK.sub (tys' := []) [] rfl
        have hFc := va_free (wc := [(h0, .inr (8, [w0, w1, w2, w3, w4, w5, w6, w7, w8, w9, w10, w11, w12, w13, w14, w15, w16, w17, w18, w19, w20, w21, w22, w23, w24, w25, w26, w27, w28, w29, w30, .int 0, .ref f4, w33, .int 0]))]) hD hS hA [0] rfl
        refine va_calli (va_runV (As := [.int n1, .int 1, .int 0]) (rest := []) ⟨hx, hb, hml, hown, hts⟩ (m_hitsBy l dC dI H.size h0 (w0) (w1) (w2) (w3) (w4) (w5) (w6) (w7) (w8) (w9) (w10) (w11) (w12) (w13) (w14) (w15) (w16) (w17) (w18) (w19) (w20) (w21) (w22) (w23) (w24) (w25) (w26) (w27) (w28) (w29) (w30) (.ref f4) (w33) 0 n1 1 0) (cwV 3 hts (gV mw_5_23 mw_5_25 mw_0_37 mw_1_9 mw_5_26) rfl rfl rfl (by decide +kernel) ⟨Nat.le_of_ble_eq_true rfl, Nat.le_of_ble_eq_true rfl⟩) ⟨pcW_blind, va_recv hKc hPc (ci := 8) (q0 := 0) rfl rfl, pcW_at hPc hKc hDc hN⟩ rfl rfl hl.1 rfl (lv_room (Nat.le_of_ble_eq_true rfl)) dX9_hits_130 ⟨Nat.le_of_ble_eq_true rfl, Nat.le_of_ble_eq_true rfl⟩) hS (fun q _ h => hFc q h) hFc (fun r_8 u t H1 locs ht hvm hw_8 hB hz1 hk1 hS => ?_)
        obtain ⟨hP1, hK1, hD1⟩ := hB
        rw [ht] at hP1
        have hK1 := va_K.moved hvm.symm hK1
        obtain ⟨hP, hD⟩ := va_join (wr := [(f4, .inl (kf4, 4, .inl (slF 1 0 4)))]) (w1 := [(h0, .inr (8, [w0, w1, w2, w3, w4, w5, w6, w7, w8, w9, w10, w11, w12, w13, w14, w15, w16, w17, w18, w19, w20, w21, w22, w23, w24, w25, w26, w27, w28, w29, w30, .int 0, .ref f4, w33, .int 0]))]) hP hD [0] [1] rfl rfl (by decide) (by decide) hk1 hFc hP1 hD1
        have hK := (hK.sub (tys' := [(kf4, .int)]) [0] rfl).app hK1
        clear hz1 hk1 hPc hDc hKc hFc
        generalize H1 = H at hP hS ⊢
        have hK : va_K (dC, dI) vwCl [(kf4, .int)] s := hK
        have hP : va_P (dC, dI) vwCl [(f4, .inl (kf4, 4, .inl (slF 1 0 4))), (h0, .inr (8, [w0, w1, w2, w3, w4, w5, w6, w7, w8, w9, w10, w11, w12, w13, w14, w15, w16, w17, w18, w19, w20, w21, w22, w23, w24, w25, w26, w27, w28, w29, w30, .int 0, .ref f4, w33, .int 0]))] H := hP
        have hD : va_D A [(f4, .inl (kf4, 4, .inl (slF 1 0 4))), (h0, .inr (8, [w0, w1, w2, w3, w4, w5, w6, w7, w8, w9, w10, w11, w12, w13, w14, w15, w16, w17, w18, w19, w20, w21, w22, w23, w24, w25, w26, w27, w28, w29, w30, .int 0, .ref f4, w33, .int 0]))] := hD
        obtain rfl : r_8 = 0 := hw_8
        refine lv_pop hx hb dX9_hits_133 rfl ?_
        refine lv_iload_n hx hb dX9_hits_134 rfl (lv_at hl 4 rfl) ?_
        refine lv_bipush (v := 10) hx hb dX9_hits_135 (by decide) ?_
        refine lv_isub hx hb dX9_hits_137 ?_
        refine lv_topi (fun z_9 ez_9 => ?_)
        have fz_9 : Int32.toInt z_9 = Int32.toInt n2 - 10 := by rw [ez_9]; exact fx_sub (C := 10) (by decide) (by omega) (by omega)
        refine lv_aload_n hx hb dX9_hits_138 rfl (lv_at hl 2 rfl) ?_
        refine va_get (D := (dC, dI)) (ci := 8) (v := .int 0) (C := RX9) (T := TX9) (N := 35) hx hb hts inB_9 hown hK hP 1 rfl rfl 34 (by decide) (hts _ mw_3_216) (fun _ h9 => h9) rfl dX9_hits_139 ?_
        refine lv_icmp_ge (tgt := 157) hx hb dX9_hits_142 (by decide) (fun _ => ?_) (fun h => absurd (fn_ge (x := z_9) (C := 0) (by decide) h) (by omega))
        refine lv_bipush (v := (-6)) hx hb dX9_hits_157 (by decide) ?_
        exact W.iret (v := (-6)) hx hb hr (fun t ht hW => ⟨⟨(-6), (), rfl, (by (unfold F_hits; repeat' split) <;> first | rfl | (exfalso; omega)), trivial⟩, hS.F ht⟩) hS.2.2 dX9_hits_159
      · skip
        refine lv_if_ne (tgt := 121) hx hb dX9_hits_115 (by decide) (fun h => absurd h (by decide)) (fun _ => ?_)
        refine lv_bipush (v := (-2)) hx hb dX9_hits_118 (by decide) ?_
        exact W.iret (v := (-2)) hx hb hr (fun t ht hW => ⟨⟨(-2), (), rfl, (by (unfold F_hits; repeat' split) <;> first | rfl | (exfalso; omega)), trivial⟩, hS.F ht⟩) hS.2.2 dX9_hits_120
  · skip
    refine lv_if_ne (tgt := 9) hx hb dX9_hits_4 (by decide) (fun h => absurd h (by decide)) (fun _ => ?_)
    refine lv_iconst (v := (-1)) hx hb dX9_hits_7 (by decide) ?_
    exact W.iret (v := (-1)) hx hb hr (fun t ht hW => ⟨⟨(-1), (), rfl, (by (unfold F_hits; repeat' split) <;> first | rfl | (exfalso; omega)), trivial⟩, hS.F ht⟩) hS.2.2 dX9_hits_8
set_option maxHeartbeats 4000000 in
set_option maxRecDepth 100000 in
theorem m_need (l : Launch) (dC : Nat → ClassId) (dI : Nat → Nat → Nat) (sz : Nat) (h0 : Nat) (w0 : Value) (w1 : Value) (w2 : Value) (w3 : Value) (w4 : Value) (w5 : Value) (w6 : Value) (w7 : Value) (w8 : Value) (w9 : Value) (w10 : Value) (w11 : Value) (w12 : Value) (w13 : Value) (w14 : Value) (w15 : Value) (w16 : Value) (w17 : Value) (w18 : Value) (w19 : Value) (w20 : Value) (w21 : Value) (w22 : Value) (w23 : Value) (w24 : Value) (w25 : Value) (w26 : Value) (w27 : Value) (w28 : Value) (w29 : Value) (w30 : Value) (w32 : Value) (w33 : Value) (n1 : Int32) (n2 : Int32)  : Met l yX9_need (wq yX9_need cX9_need 4 (some .int)) ({ frames := 2, cells := 0, slots := 0, locals := 45 }) (va_Pc [.ref h0, .int n1, .int n2] (pcW dC dI [] [(h0, .inr (8, [w0, w1, w2, w3, w4, w5, w6, w7, w8, w9, w10, w11, w12, w13, w14, w15, w16, w17, w18, w19, w20, w21, w22, w23, w24, w25, w26, w27, w28, w29, w30, .int 0, w32, w33, .int 0]))] sz)) (va_Qi (fun (r : Int32) (_ : Unit) => r = F_need n1 n2) (fun _ _ => True) (va_A [(h0, .inr (8, [w0, w1, w2, w3, w4, w5, w6, w7, w8, w9, w10, w11, w12, w13, w14, w15, w16, w17, w18, w19, w20, w21, w22, w23, w24, w25, w26, w27, w28, w29, w30, .int 0, w32, w33, .int 0]))] sz)) 0 0 (va_A [(h0, .inr (8, [w0, w1, w2, w3, w4, w5, w6, w7, w8, w9, w10, w11, w12, w13, w14, w15, w16, w17, w18, w19, w20, w21, w22, w23, w24, w25, w26, w27, w28, w29, w30, .int 0, w32, w33, .int 0]))] sz) := by
  refine Met.ofW (cc := cX9_need) (maxL := 4) (ret := (some .int)) (by decide) rfl ?_
  intro p e s m args below meth c s₁ B hml hv
  obtain ⟨rfl, hsz, hN, hP, hK, hD0⟩ := hv
  have hx := B.exec
  have hb := B.bytes
  have hr := B.returns
  have hts0 := atoms_spec (ws := (wq yX9_need cX9_need 4 (some .int))) B.pre
  have hts : ∀ w ∈ BG, w.before _ s = true := fun w h => hts0 w (List.mem_cons_of_mem _ h)
  have hown : s.vm.findClass RX9 = some m.cls := findClass_of_methodNamed B.named
  have hlocks := B.notSynchronized
  subst hsz
  have hD := hD0.self (sz := s.heap.size)
  generalize hAe : va_A [(h0, .inr (8, [w0, w1, w2, w3, w4, w5, w6, w7, w8, w9, w10, w11, w12, w13, w14, w15, w16, w17, w18, w19, w20, w21, w22, w23, w24, w25, w26, w27, w28, w29, w30, .int 0, w32, w33, .int 0]))] s.heap.size = A at hD ⊢
  have hA : ∀ q : Nat, s.heap.size ≤ q → A q := fun q h => by rw [← hAe]; exact Or.inr h
  have hS : va_S A s.heap s.heap [] := va_S.rf
  have hP : va_P (dC, dI) vwCl [(h0, .inr (8, [w0, w1, w2, w3, w4, w5, w6, w7, w8, w9, w10, w11, w12, w13, w14, w15, w16, w17, w18, w19, w20, w21, w22, w23, w24, w25, w26, w27, w28, w29, w30, .int 0, w32, w33, .int 0]))] s.heap := hP
  have hl := lv_entry ([.ref h0, .int n1, .int n2]) (n := 4) (Nat.le_of_ble_eq_true rfl)
  rw [lg_entry_eq]
  generalize (lg_sl ([.ref h0, .int n1, .int n2]) ++ List.replicate (4 - (lg_sl ([.ref h0, .int n1, .int n2])).length) Slot.unset).toArray = ls at hl ⊢
  have hl : lv_has ls 4 [(0, .ref h0), (1, .int n1), (2, .int n2)] := hl
  skip
  refine lv_iload_n hx hb dX9_need_0 rfl (lv_at hl 1 rfl) ?_
  have hPc := hP.sub (ws' := []) [] rfl
  have hDc := hD.sub (ws' := []) [] (by decide) rfl
  have hKc := hK.sub (tys' := []) [] rfl
  refine va_calli (va_runS (As := [.int n1]) (rest := []) ⟨hx, hb, hml, hown, hts⟩ (m_isPlace l dC dI s.heap.size n1) (va_cwS 1 hts (gS mw_5_7 mw_5_8 mw_1_9 mw_5_9) rfl rfl rfl (by decide +kernel) ⟨Nat.le_of_ble_eq_true rfl, Nat.le_of_ble_eq_true rfl⟩) ⟨pcW_blind, pcW_at hPc hKc hDc hN⟩ rfl rfl hl.1 rfl (lv_room (Nat.le_of_ble_eq_true rfl)) dX9_need_1 ⟨Nat.le_of_ble_eq_true rfl, Nat.le_of_ble_eq_true rfl⟩) hS (fun q h1 h2 => absurd h2 (Nat.not_le.mpr h1)) (fun q h => hA q (Nat.le_trans hS.1 h)) (fun r_1 u t H1 locs ht hvm hw_1 hB hz1 hk1 hS => ?_)
  have hP := keepP hP hk1
  clear hz1 hk1 hB ht hvm hPc hDc hKc
  generalize H1 = H at hP hS ⊢
  rcases fx_bool hw_1 with ⟨rfl, b_2⟩ | ⟨rfl, b_2⟩
  · skip
    refine lv_if_ne (tgt := 9) hx hb dX9_need_4 (by decide) (fun _ => ?_) (fun h => absurd h (by decide))
    refine lv_iload_n hx hb dX9_need_9 rfl (lv_at hl 2 rfl) ?_
    refine lv_i2l hx hb dX9_need_10 rfl ?_
    refine lv_lconst (v := Int32.toInt64 0) hx hb dX9_need_11 (by decide) ?_
    refine lv_ldc2 (v := Int32.toInt64 40) hx hb hown (show (Cond.constantLong RX9 254 (Int32.toInt64 40)).before _ s = true from (hts _ mw_5_53)) dX9_need_12 ?_
    have hPc := hP.sub (ws' := []) [] rfl
    have hDc := hD.sub (ws' := []) [] (by decide) rfl
    have hKc := hK.sub (tys' := []) [] rfl
    refine va_calli (va_runS (As := [.long (Int32.toInt64 n2), .long (Int32.toInt64 0), .long (Int32.toInt64 40)]) (rest := []) ⟨hx, hb, hml, hown, hts⟩ (m_in l dC dI H.size n2 0 40 0 40 (by decide) (by decide)) (va_cwS 3 hts (gS mw_4_57 mw_4_58 mw_1_9 mw_4_59) rfl rfl rfl (by decide +kernel) ⟨Nat.le_of_ble_eq_true rfl, Nat.le_of_ble_eq_true rfl⟩) ⟨pcW_blind, pcW_at hPc hKc hDc hN⟩ rfl rfl hl.1 rfl (lv_room (Nat.le_of_ble_eq_true rfl)) dX9_need_15 ⟨Nat.le_of_ble_eq_true rfl, Nat.le_of_ble_eq_true rfl⟩) hS (fun q h1 h2 => absurd h2 (Nat.not_le.mpr h1)) (fun q h => hA q (Nat.le_trans hS.1 h)) (fun r_3 u t H1 locs ht hvm hw_3 hB hz1 hk1 hS => ?_)
    have hP := keepP hP hk1
    clear hz1 hk1 hB ht hvm hPc hDc hKc
    generalize H1 = H at hP hS ⊢
    rcases fx_bool hw_3 with ⟨rfl, b_4⟩ | ⟨rfl, b_4⟩
    · skip
      refine lv_if_ne (tgt := 24) hx hb dX9_need_18 (by decide) (fun _ => ?_) (fun h => absurd h (by decide))
      refine lv_iconst (v := 1) hx hb dX9_need_24 (by decide) ?_
      refine lv_istore_n (lv' := [(3, .int 1), (0, .ref h0), (1, .int n1), (2, .int n2)]) hx hb dX9_need_25 rfl hl (by decide) rfl (fun ls hl => ?_)
      refine lv_iload_n hx hb dX9_need_26 rfl (lv_at hl 0 rfl) ?_
      refine lv_iconst (v := 4) hx hb dX9_need_27 (by decide) ?_
      refine lv_icmp_gt (tgt := 50) hx hb dX9_need_28 (by decide) (fun h => absurd h (by decide)) (fun _ => ?_)
      refine lv_aload_n hx hb dX9_need_31 rfl (lv_at hl 1 rfl) ?_
      refine lv_iload_n hx hb dX9_need_32 rfl (lv_at hl 2 rfl) ?_
      refine lv_iload_n hx hb dX9_need_33 rfl (lv_at hl 0 rfl) ?_
      refine lv_iconst (v := 0) hx hb dX9_need_34 (by decide) ?_
      have hPc := hP.sub (ws' := [(h0, .inr (8, [w0, w1, w2, w3, w4, w5, w6, w7, w8, w9, w10, w11, w12, w13, w14, w15, w16, w17, w18, w19, w20, w21, w22, w23, w24, w25, w26, w27, w28, w29, w30, .int 0, w32, w33, .int 0]))]) [0] rfl
      have hDc := hD.sub (ws' := [(h0, .inr (8, [w0, w1, w2, w3, w4, w5, w6, w7, w8, w9, w10, w11, w12, w13, w14, w15, w16, w17, w18, w19, w20, w21, w22, w23, w24, w25, w26, w27, w28, w29, w30, .int 0, w32, w33, .int 0]))]) [0] (by decide) rfl
      have hKc := hK.sub (tys' := []) [] rfl
      have hFc := va_free (wc := [(h0, .inr (8, [w0, w1, w2, w3, w4, w5, w6, w7, w8, w9, w10, w11, w12, w13, w14, w15, w16, w17, w18, w19, w20, w21, w22, w23, w24, w25, w26, w27, w28, w29, w30, .int 0, w32, w33, .int 0]))]) hD hS hA [0] rfl
      refine va_calli (va_runV (As := [.int n1, .int 1, .int 0]) (rest := []) ⟨hx, hb, hml, hown, hts⟩ (m_hitsBy l dC dI H.size h0 (w0) (w1) (w2) (w3) (w4) (w5) (w6) (w7) (w8) (w9) (w10) (w11) (w12) (w13) (w14) (w15) (w16) (w17) (w18) (w19) (w20) (w21) (w22) (w23) (w24) (w25) (w26) (w27) (w28) (w29) (w30) (w32) (w33) 0 n1 1 0) (cwV 3 hts (gV mw_5_23 mw_5_25 mw_0_37 mw_1_9 mw_5_26) rfl rfl rfl (by decide +kernel) ⟨Nat.le_of_ble_eq_true rfl, Nat.le_of_ble_eq_true rfl⟩) ⟨pcW_blind, va_recv hKc hPc (ci := 8) (q0 := 0) rfl rfl, pcW_at hPc hKc hDc hN⟩ rfl rfl hl.1 rfl (lv_room (Nat.le_of_ble_eq_true rfl)) dX9_need_35 ⟨Nat.le_of_ble_eq_true rfl, Nat.le_of_ble_eq_true rfl⟩) hS (fun q _ h => hFc q h) hFc (fun r_5 u t H1 locs ht hvm hw_5 hB hz1 hk1 hS => ?_)
      obtain ⟨hP1, hK1, hD1⟩ := hB
      rw [ht] at hP1
      have hK1 := va_K.moved hvm.symm hK1
      obtain ⟨hP, hD⟩ := va_join (wr := []) (w1 := [(h0, .inr (8, [w0, w1, w2, w3, w4, w5, w6, w7, w8, w9, w10, w11, w12, w13, w14, w15, w16, w17, w18, w19, w20, w21, w22, w23, w24, w25, w26, w27, w28, w29, w30, .int 0, w32, w33, .int 0]))]) hP hD [0] [] rfl rfl (by decide) (by decide) hk1 hFc hP1 hD1
      have hK := (hK.sub (tys' := []) [] rfl).app hK1
      clear hz1 hk1 hPc hDc hKc hFc
      generalize H1 = H at hP hS ⊢
      have hK : va_K (dC, dI) vwCl [] s := hK
      have hP : va_P (dC, dI) vwCl [(h0, .inr (8, [w0, w1, w2, w3, w4, w5, w6, w7, w8, w9, w10, w11, w12, w13, w14, w15, w16, w17, w18, w19, w20, w21, w22, w23, w24, w25, w26, w27, w28, w29, w30, .int 0, w32, w33, .int 0]))] H := hP
      have hD : va_D A [(h0, .inr (8, [w0, w1, w2, w3, w4, w5, w6, w7, w8, w9, w10, w11, w12, w13, w14, w15, w16, w17, w18, w19, w20, w21, w22, w23, w24, w25, w26, w27, w28, w29, w30, .int 0, w32, w33, .int 0]))] := hD
      obtain rfl : r_5 = 0 := hw_5
      refine lv_iload_n hx hb dX9_need_38 rfl (lv_at hl 3 rfl) ?_
      refine lv_icmp_lt (tgt := 44) hx hb dX9_need_39 (by decide) (fun c_6 => ?_) (fun c_6 => ?_)
      · have b_7 := fx_gt (x := n2) (C := 0) (by decide) c_6
        refine lv_iinc (v := 2) (lv' := [(3, .int 2), (0, .ref h0), (1, .int n1), (2, .int n2)]) hx hb dX9_need_44 hl (k := 0) rfl (by decide) (by decide) rfl (fun ls hl => ?_)
        refine lv_goto (tgt := 26) hx hb dX9_need_47 (by decide) ?_
        refine lv_iload_n hx hb dX9_need_26 rfl (lv_at hl 0 rfl) ?_
        refine lv_iconst (v := 4) hx hb dX9_need_27 (by decide) ?_
        refine lv_icmp_gt (tgt := 50) hx hb dX9_need_28 (by decide) (fun h => absurd h (by decide)) (fun _ => ?_)
        refine lv_aload_n hx hb dX9_need_31 rfl (lv_at hl 1 rfl) ?_
        refine lv_iload_n hx hb dX9_need_32 rfl (lv_at hl 2 rfl) ?_
        refine lv_iload_n hx hb dX9_need_33 rfl (lv_at hl 0 rfl) ?_
        refine lv_iconst (v := 0) hx hb dX9_need_34 (by decide) ?_
        have hPc := hP.sub (ws' := [(h0, .inr (8, [w0, w1, w2, w3, w4, w5, w6, w7, w8, w9, w10, w11, w12, w13, w14, w15, w16, w17, w18, w19, w20, w21, w22, w23, w24, w25, w26, w27, w28, w29, w30, .int 0, w32, w33, .int 0]))]) [0] rfl
        have hDc := hD.sub (ws' := [(h0, .inr (8, [w0, w1, w2, w3, w4, w5, w6, w7, w8, w9, w10, w11, w12, w13, w14, w15, w16, w17, w18, w19, w20, w21, w22, w23, w24, w25, w26, w27, w28, w29, w30, .int 0, w32, w33, .int 0]))]) [0] (by decide) rfl
        have hKc := hK.sub (tys' := []) [] rfl
        have hFc := va_free (wc := [(h0, .inr (8, [w0, w1, w2, w3, w4, w5, w6, w7, w8, w9, w10, w11, w12, w13, w14, w15, w16, w17, w18, w19, w20, w21, w22, w23, w24, w25, w26, w27, w28, w29, w30, .int 0, w32, w33, .int 0]))]) hD hS hA [0] rfl
        refine va_calli (va_runV (As := [.int n1, .int 2, .int 0]) (rest := []) ⟨hx, hb, hml, hown, hts⟩ (m_hitsBy l dC dI H.size h0 (w0) (w1) (w2) (w3) (w4) (w5) (w6) (w7) (w8) (w9) (w10) (w11) (w12) (w13) (w14) (w15) (w16) (w17) (w18) (w19) (w20) (w21) (w22) (w23) (w24) (w25) (w26) (w27) (w28) (w29) (w30) (w32) (w33) 0 n1 2 0) (cwV 3 hts (gV mw_5_23 mw_5_25 mw_0_37 mw_1_9 mw_5_26) rfl rfl rfl (by decide +kernel) ⟨Nat.le_of_ble_eq_true rfl, Nat.le_of_ble_eq_true rfl⟩) ⟨pcW_blind, va_recv hKc hPc (ci := 8) (q0 := 0) rfl rfl, pcW_at hPc hKc hDc hN⟩ rfl rfl hl.1 rfl (lv_room (Nat.le_of_ble_eq_true rfl)) dX9_need_35 ⟨Nat.le_of_ble_eq_true rfl, Nat.le_of_ble_eq_true rfl⟩) hS (fun q _ h => hFc q h) hFc (fun r_8 u t H1 locs ht hvm hw_8 hB hz1 hk1 hS => ?_)
        obtain ⟨hP1, hK1, hD1⟩ := hB
        rw [ht] at hP1
        have hK1 := va_K.moved hvm.symm hK1
        obtain ⟨hP, hD⟩ := va_join (wr := []) (w1 := [(h0, .inr (8, [w0, w1, w2, w3, w4, w5, w6, w7, w8, w9, w10, w11, w12, w13, w14, w15, w16, w17, w18, w19, w20, w21, w22, w23, w24, w25, w26, w27, w28, w29, w30, .int 0, w32, w33, .int 0]))]) hP hD [0] [] rfl rfl (by decide) (by decide) hk1 hFc hP1 hD1
        have hK := (hK.sub (tys' := []) [] rfl).app hK1
        clear hz1 hk1 hPc hDc hKc hFc
        generalize H1 = H at hP hS ⊢
        have hK : va_K (dC, dI) vwCl [] s := hK
        have hP : va_P (dC, dI) vwCl [(h0, .inr (8, [w0, w1, w2, w3, w4, w5, w6, w7, w8, w9, w10, w11, w12, w13, w14, w15, w16, w17, w18, w19, w20, w21, w22, w23, w24, w25, w26, w27, w28, w29, w30, .int 0, w32, w33, .int 0]))] H := hP
        have hD : va_D A [(h0, .inr (8, [w0, w1, w2, w3, w4, w5, w6, w7, w8, w9, w10, w11, w12, w13, w14, w15, w16, w17, w18, w19, w20, w21, w22, w23, w24, w25, w26, w27, w28, w29, w30, .int 0, w32, w33, .int 0]))] := hD
        obtain rfl : r_8 = 0 := hw_8
        refine lv_iload_n hx hb dX9_need_38 rfl (lv_at hl 3 rfl) ?_
        refine lv_icmp_lt (tgt := 44) hx hb dX9_need_39 (by decide) (fun _ => ?_) (fun h => absurd (fn_gt (x := n2) (C := 0) (by decide) h) (by omega))
        refine lv_iinc (v := 3) (lv' := [(3, .int 3), (0, .ref h0), (1, .int n1), (2, .int n2)]) hx hb dX9_need_44 hl (k := 0) rfl (by decide) (by decide) rfl (fun ls hl => ?_)
        refine lv_goto (tgt := 26) hx hb dX9_need_47 (by decide) ?_
        refine lv_iload_n hx hb dX9_need_26 rfl (lv_at hl 0 rfl) ?_
        refine lv_iconst (v := 4) hx hb dX9_need_27 (by decide) ?_
        refine lv_icmp_gt (tgt := 50) hx hb dX9_need_28 (by decide) (fun h => absurd h (by decide)) (fun _ => ?_)
        refine lv_aload_n hx hb dX9_need_31 rfl (lv_at hl 1 rfl) ?_
        refine lv_iload_n hx hb dX9_need_32 rfl (lv_at hl 2 rfl) ?_
        refine lv_iload_n hx hb dX9_need_33 rfl (lv_at hl 0 rfl) ?_
        refine lv_iconst (v := 0) hx hb dX9_need_34 (by decide) ?_
        have hPc := hP.sub (ws' := [(h0, .inr (8, [w0, w1, w2, w3, w4, w5, w6, w7, w8, w9, w10, w11, w12, w13, w14, w15, w16, w17, w18, w19, w20, w21, w22, w23, w24, w25, w26, w27, w28, w29, w30, .int 0, w32, w33, .int 0]))]) [0] rfl
        have hDc := hD.sub (ws' := [(h0, .inr (8, [w0, w1, w2, w3, w4, w5, w6, w7, w8, w9, w10, w11, w12, w13, w14, w15, w16, w17, w18, w19, w20, w21, w22, w23, w24, w25, w26, w27, w28, w29, w30, .int 0, w32, w33, .int 0]))]) [0] (by decide) rfl
        have hKc := hK.sub (tys' := []) [] rfl
        have hFc := va_free (wc := [(h0, .inr (8, [w0, w1, w2, w3, w4, w5, w6, w7, w8, w9, w10, w11, w12, w13, w14, w15, w16, w17, w18, w19, w20, w21, w22, w23, w24, w25, w26, w27, w28, w29, w30, .int 0, w32, w33, .int 0]))]) hD hS hA [0] rfl
        refine va_calli (va_runV (As := [.int n1, .int 3, .int 0]) (rest := []) ⟨hx, hb, hml, hown, hts⟩ (m_hitsBy l dC dI H.size h0 (w0) (w1) (w2) (w3) (w4) (w5) (w6) (w7) (w8) (w9) (w10) (w11) (w12) (w13) (w14) (w15) (w16) (w17) (w18) (w19) (w20) (w21) (w22) (w23) (w24) (w25) (w26) (w27) (w28) (w29) (w30) (w32) (w33) 0 n1 3 0) (cwV 3 hts (gV mw_5_23 mw_5_25 mw_0_37 mw_1_9 mw_5_26) rfl rfl rfl (by decide +kernel) ⟨Nat.le_of_ble_eq_true rfl, Nat.le_of_ble_eq_true rfl⟩) ⟨pcW_blind, va_recv hKc hPc (ci := 8) (q0 := 0) rfl rfl, pcW_at hPc hKc hDc hN⟩ rfl rfl hl.1 rfl (lv_room (Nat.le_of_ble_eq_true rfl)) dX9_need_35 ⟨Nat.le_of_ble_eq_true rfl, Nat.le_of_ble_eq_true rfl⟩) hS (fun q _ h => hFc q h) hFc (fun r_9 u t H1 locs ht hvm hw_9 hB hz1 hk1 hS => ?_)
        obtain ⟨hP1, hK1, hD1⟩ := hB
        rw [ht] at hP1
        have hK1 := va_K.moved hvm.symm hK1
        obtain ⟨hP, hD⟩ := va_join (wr := []) (w1 := [(h0, .inr (8, [w0, w1, w2, w3, w4, w5, w6, w7, w8, w9, w10, w11, w12, w13, w14, w15, w16, w17, w18, w19, w20, w21, w22, w23, w24, w25, w26, w27, w28, w29, w30, .int 0, w32, w33, .int 0]))]) hP hD [0] [] rfl rfl (by decide) (by decide) hk1 hFc hP1 hD1
        have hK := (hK.sub (tys' := []) [] rfl).app hK1
        clear hz1 hk1 hPc hDc hKc hFc
        generalize H1 = H at hP hS ⊢
        have hK : va_K (dC, dI) vwCl [] s := hK
        have hP : va_P (dC, dI) vwCl [(h0, .inr (8, [w0, w1, w2, w3, w4, w5, w6, w7, w8, w9, w10, w11, w12, w13, w14, w15, w16, w17, w18, w19, w20, w21, w22, w23, w24, w25, w26, w27, w28, w29, w30, .int 0, w32, w33, .int 0]))] H := hP
        have hD : va_D A [(h0, .inr (8, [w0, w1, w2, w3, w4, w5, w6, w7, w8, w9, w10, w11, w12, w13, w14, w15, w16, w17, w18, w19, w20, w21, w22, w23, w24, w25, w26, w27, w28, w29, w30, .int 0, w32, w33, .int 0]))] := hD
        obtain rfl : r_9 = 0 := hw_9
        refine lv_iload_n hx hb dX9_need_38 rfl (lv_at hl 3 rfl) ?_
        refine lv_icmp_lt (tgt := 44) hx hb dX9_need_39 (by decide) (fun _ => ?_) (fun h => absurd (fn_gt (x := n2) (C := 0) (by decide) h) (by omega))
        refine lv_iinc (v := 4) (lv' := [(3, .int 4), (0, .ref h0), (1, .int n1), (2, .int n2)]) hx hb dX9_need_44 hl (k := 0) rfl (by decide) (by decide) rfl (fun ls hl => ?_)
        refine lv_goto (tgt := 26) hx hb dX9_need_47 (by decide) ?_
        refine lv_iload_n hx hb dX9_need_26 rfl (lv_at hl 0 rfl) ?_
        refine lv_iconst (v := 4) hx hb dX9_need_27 (by decide) ?_
        refine lv_icmp_gt (tgt := 50) hx hb dX9_need_28 (by decide) (fun h => absurd h (by decide)) (fun _ => ?_)
        refine lv_aload_n hx hb dX9_need_31 rfl (lv_at hl 1 rfl) ?_
        refine lv_iload_n hx hb dX9_need_32 rfl (lv_at hl 2 rfl) ?_
        refine lv_iload_n hx hb dX9_need_33 rfl (lv_at hl 0 rfl) ?_
        refine lv_iconst (v := 0) hx hb dX9_need_34 (by decide) ?_
        have hPc := hP.sub (ws' := [(h0, .inr (8, [w0, w1, w2, w3, w4, w5, w6, w7, w8, w9, w10, w11, w12, w13, w14, w15, w16, w17, w18, w19, w20, w21, w22, w23, w24, w25, w26, w27, w28, w29, w30, .int 0, w32, w33, .int 0]))]) [0] rfl
        have hDc := hD.sub (ws' := [(h0, .inr (8, [w0, w1, w2, w3, w4, w5, w6, w7, w8, w9, w10, w11, w12, w13, w14, w15, w16, w17, w18, w19, w20, w21, w22, w23, w24, w25, w26, w27, w28, w29, w30, .int 0, w32, w33, .int 0]))]) [0] (by decide) rfl
        have hKc := hK.sub (tys' := []) [] rfl
        have hFc := va_free (wc := [(h0, .inr (8, [w0, w1, w2, w3, w4, w5, w6, w7, w8, w9, w10, w11, w12, w13, w14, w15, w16, w17, w18, w19, w20, w21, w22, w23, w24, w25, w26, w27, w28, w29, w30, .int 0, w32, w33, .int 0]))]) hD hS hA [0] rfl
        refine va_calli (va_runV (As := [.int n1, .int 4, .int 0]) (rest := []) ⟨hx, hb, hml, hown, hts⟩ (m_hitsBy l dC dI H.size h0 (w0) (w1) (w2) (w3) (w4) (w5) (w6) (w7) (w8) (w9) (w10) (w11) (w12) (w13) (w14) (w15) (w16) (w17) (w18) (w19) (w20) (w21) (w22) (w23) (w24) (w25) (w26) (w27) (w28) (w29) (w30) (w32) (w33) 0 n1 4 0) (cwV 3 hts (gV mw_5_23 mw_5_25 mw_0_37 mw_1_9 mw_5_26) rfl rfl rfl (by decide +kernel) ⟨Nat.le_of_ble_eq_true rfl, Nat.le_of_ble_eq_true rfl⟩) ⟨pcW_blind, va_recv hKc hPc (ci := 8) (q0 := 0) rfl rfl, pcW_at hPc hKc hDc hN⟩ rfl rfl hl.1 rfl (lv_room (Nat.le_of_ble_eq_true rfl)) dX9_need_35 ⟨Nat.le_of_ble_eq_true rfl, Nat.le_of_ble_eq_true rfl⟩) hS (fun q _ h => hFc q h) hFc (fun r_10 u t H1 locs ht hvm hw_10 hB hz1 hk1 hS => ?_)
        obtain ⟨hP1, hK1, hD1⟩ := hB
        rw [ht] at hP1
        have hK1 := va_K.moved hvm.symm hK1
        obtain ⟨hP, hD⟩ := va_join (wr := []) (w1 := [(h0, .inr (8, [w0, w1, w2, w3, w4, w5, w6, w7, w8, w9, w10, w11, w12, w13, w14, w15, w16, w17, w18, w19, w20, w21, w22, w23, w24, w25, w26, w27, w28, w29, w30, .int 0, w32, w33, .int 0]))]) hP hD [0] [] rfl rfl (by decide) (by decide) hk1 hFc hP1 hD1
        have hK := (hK.sub (tys' := []) [] rfl).app hK1
        clear hz1 hk1 hPc hDc hKc hFc
        generalize H1 = H at hP hS ⊢
        have hK : va_K (dC, dI) vwCl [] s := hK
        have hP : va_P (dC, dI) vwCl [(h0, .inr (8, [w0, w1, w2, w3, w4, w5, w6, w7, w8, w9, w10, w11, w12, w13, w14, w15, w16, w17, w18, w19, w20, w21, w22, w23, w24, w25, w26, w27, w28, w29, w30, .int 0, w32, w33, .int 0]))] H := hP
        have hD : va_D A [(h0, .inr (8, [w0, w1, w2, w3, w4, w5, w6, w7, w8, w9, w10, w11, w12, w13, w14, w15, w16, w17, w18, w19, w20, w21, w22, w23, w24, w25, w26, w27, w28, w29, w30, .int 0, w32, w33, .int 0]))] := hD
        obtain rfl : r_10 = 0 := hw_10
        refine lv_iload_n hx hb dX9_need_38 rfl (lv_at hl 3 rfl) ?_
        refine lv_icmp_lt (tgt := 44) hx hb dX9_need_39 (by decide) (fun _ => ?_) (fun h => absurd (fn_gt (x := n2) (C := 0) (by decide) h) (by omega))
        refine lv_iinc (v := 5) (lv' := [(3, .int 5), (0, .ref h0), (1, .int n1), (2, .int n2)]) hx hb dX9_need_44 hl (k := 0) rfl (by decide) (by decide) rfl (fun ls hl => ?_)
        refine lv_goto (tgt := 26) hx hb dX9_need_47 (by decide) ?_
        refine lv_iload_n hx hb dX9_need_26 rfl (lv_at hl 0 rfl) ?_
        refine lv_iconst (v := 4) hx hb dX9_need_27 (by decide) ?_
        refine lv_icmp_gt (tgt := 50) hx hb dX9_need_28 (by decide) (fun _ => ?_) (fun h => absurd (by decide) h)
        refine lv_bipush (v := (-6)) hx hb dX9_need_50 (by decide) ?_
        exact W.iret (v := (-6)) hx hb hr (fun t ht hW => ⟨⟨(-6), (), rfl, (by (unfold F_need; repeat' split) <;> first | rfl | (exfalso; omega)), trivial⟩, hS.F ht⟩) hS.2.2 dX9_need_52
      · have b_7 := fn_gt (x := n2) (C := 0) (by decide) c_6
        refine lv_iload_n hx hb dX9_need_42 rfl (lv_at hl 0 rfl) ?_
        exact W.iret (v := 1) hx hb hr (fun t ht hW => ⟨⟨1, (), rfl, (by (unfold F_need; repeat' split) <;> first | rfl | (exfalso; omega)), trivial⟩, hS.F ht⟩) hS.2.2 dX9_need_43
    · skip
      refine lv_if_ne (tgt := 24) hx hb dX9_need_18 (by decide) (fun h => absurd h (by decide)) (fun _ => ?_)
      refine lv_bipush (v := (-2)) hx hb dX9_need_21 (by decide) ?_
      exact W.iret (v := (-2)) hx hb hr (fun t ht hW => ⟨⟨(-2), (), rfl, (by (unfold F_need; repeat' split) <;> first | rfl | (exfalso; omega)), trivial⟩, hS.F ht⟩) hS.2.2 dX9_need_23
  · skip
    refine lv_if_ne (tgt := 9) hx hb dX9_need_4 (by decide) (fun h => absurd h (by decide)) (fun _ => ?_)
    refine lv_iconst (v := (-1)) hx hb dX9_need_7 (by decide) ?_
    exact W.iret (v := (-1)) hx hb hr (fun t ht hW => ⟨⟨(-1), (), rfl, (by (unfold F_need; repeat' split) <;> first | rfl | (exfalso; omega)), trivial⟩, hS.F ht⟩) hS.2.2 dX9_need_8
set_option maxHeartbeats 4000000 in
set_option maxRecDepth 100000 in
theorem m_told (l : Launch) (dC : Nat → ClassId) (dI : Nat → Nat → Nat) (sz : Nat) (h0 : Nat) (w0 : Value) (w1 : Value) (w2 : Value) (w3 : Value) (w5 : Value) (w6 : Value) (w7 : Value) (w8 : Value) (w9 : Value) (w10 : Value) (w11 : Value) (w12 : Value) (s2 : Nat) (w14 : Value) (w15 : Value) (w16 : Value) (w17 : Value) (w18 : Value) (w19 : Value) (w20 : Value) (w21 : Value) (w22 : Value) (w23 : Value) (w24 : Value) (w25 : Value) (w26 : Value) (w27 : Value) (w28 : Value) (w29 : Value) (w30 : Value) (w32 : Value) (w33 : Value) (w34 : Value) (ks2 : ClassId) (n1 : Int32)  : Met l yX9_told (wq yX9_told cX9_told 2 (some .int)) ({ frames := 2, cells := 0, slots := 0, locals := 46 }) (va_Pc [.ref h0, .int n1] (pcW dC dI [(ks2, .int)] [(h0, .inr (8, [w0, w1, w2, w3, .int 0, w5, w6, w7, w8, w9, w10, w11, w12, .ref s2, w14, w15, w16, w17, w18, w19, w20, w21, w22, w23, w24, w25, w26, w27, w28, w29, w30, .int 0, w32, w33, w34])), (s2, .inl (ks2, 81, .inl (fun _ => 0)))] sz)) (va_Qi (fun (r : Int32) (_ : Unit) => r = F_told n1) (fun _ _ => True) (fun q : Nat => sz ≤ q)) 0 0 (fun q : Nat => sz ≤ q) := by
  refine Met.ofW (cc := cX9_told) (maxL := 2) (ret := (some .int)) (by decide) rfl ?_
  intro p e s m args below meth c s₁ B hml hv
  obtain ⟨rfl, hsz, hN, hP, hK, hD0⟩ := hv
  have hx := B.exec
  have hb := B.bytes
  have hr := B.returns
  have hts0 := atoms_spec (ws := (wq yX9_told cX9_told 2 (some .int))) B.pre
  have hts : ∀ w ∈ BG, w.before _ s = true := fun w h => hts0 w (List.mem_cons_of_mem _ h)
  have hown : s.vm.findClass RX9 = some m.cls := findClass_of_methodNamed B.named
  have hlocks := B.notSynchronized
  subst hsz
  have hA : ∀ q : Nat, s.heap.size ≤ q → (fun q : Nat => s.heap.size ≤ q) q := fun _ h => h
  have hD := hD0
  have hS : va_S (fun q : Nat => s.heap.size ≤ q) s.heap s.heap [] := va_S.rf
  have hP : va_P (dC, dI) vwCl [(h0, .inr (8, [w0, w1, w2, w3, .int 0, w5, w6, w7, w8, w9, w10, w11, w12, .ref s2, w14, w15, w16, w17, w18, w19, w20, w21, w22, w23, w24, w25, w26, w27, w28, w29, w30, .int 0, w32, w33, w34])), (s2, .inl (ks2, 81, .inl (fun _ => 0)))] s.heap := hP
  have hl := lv_entry ([.ref h0, .int n1]) (n := 2) (Nat.le_of_ble_eq_true rfl)
  rw [lg_entry_eq]
  generalize (lg_sl ([.ref h0, .int n1]) ++ List.replicate (2 - (lg_sl ([.ref h0, .int n1])).length) Slot.unset).toArray = ls at hl ⊢
  have hl : lv_has ls 2 [(0, .ref h0), (1, .int n1)] := hl
  skip
  refine lv_iload_n hx hb dX9_told_0 rfl (lv_at hl 1 rfl) ?_
  refine lv_i2l hx hb dX9_told_1 rfl ?_
  refine lv_ldc2 (v := Int32.toInt64 10) hx hb hown (show (Cond.constantLong RX9 250 (Int32.toInt64 10)).before _ s = true from (hts _ mw_5_47)) dX9_told_2 ?_
  refine lv_ldc2 (v := Int32.toInt64 19) hx hb hown (show (Cond.constantLong RX9 256 (Int32.toInt64 19)).before _ s = true from (hts _ mw_5_58)) dX9_told_5 ?_
  have hPc := hP.sub (ws' := []) [] rfl
  have hDc := hD.sub (ws' := []) [] (by decide) rfl
  have hKc := hK.sub (tys' := []) [] rfl
  refine va_calli (va_runS (As := [.long (Int32.toInt64 n1), .long (Int32.toInt64 10), .long (Int32.toInt64 19)]) (rest := []) ⟨hx, hb, hml, hown, hts⟩ (m_in l dC dI s.heap.size n1 10 19 10 19 (by decide) (by decide)) (va_cwS 3 hts (gS mw_4_57 mw_4_58 mw_1_9 mw_4_59) rfl rfl rfl (by decide +kernel) ⟨Nat.le_of_ble_eq_true rfl, Nat.le_of_ble_eq_true rfl⟩) ⟨pcW_blind, pcW_at hPc hKc hDc hN⟩ rfl rfl hl.1 rfl (lv_room (Nat.le_of_ble_eq_true rfl)) dX9_told_8 ⟨Nat.le_of_ble_eq_true rfl, Nat.le_of_ble_eq_true rfl⟩) hS (fun q h1 h2 => absurd h2 (Nat.not_le.mpr h1)) (fun q h => hA q (Nat.le_trans hS.1 h)) (fun r_1 u t H1 locs ht hvm hw_1 hB hz1 hk1 hS => ?_)
  have hP := keepP hP hk1
  clear hz1 hk1 hB ht hvm hPc hDc hKc
  generalize H1 = H at hP hS ⊢
  rcases fx_bool hw_1 with ⟨rfl, b_2⟩ | ⟨rfl, b_2⟩
  · skip
    refine lv_if_eq (tgt := 39) hx hb dX9_told_11 (by decide) (fun h => absurd h (by decide)) (fun _ => ?_)
    refine lv_aload_n hx hb dX9_told_14 rfl (lv_at hl 0 rfl) ?_
    refine lv_iload_n hx hb dX9_told_15 rfl (lv_at hl 1 rfl) ?_
    refine lv_bipush (v := 10) hx hb dX9_told_16 (by decide) ?_
    refine lv_isub hx hb dX9_told_18 ?_
    refine lv_topi (fun z_3 ez_3 => ?_)
    have fz_3 : Int32.toInt z_3 = Int32.toInt n1 - 10 := by rw [ez_3]; exact fx_sub (C := 10) (by decide) (by omega) (by omega)
    have hPc := hP.sub (ws' := [(h0, .inr (8, [w0, w1, w2, w3, .int 0, w5, w6, w7, w8, w9, w10, w11, w12, .ref s2, w14, w15, w16, w17, w18, w19, w20, w21, w22, w23, w24, w25, w26, w27, w28, w29, w30, .int 0, w32, w33, w34]))]) [0] rfl
    have hDc := hD.sub (ws' := [(h0, .inr (8, [w0, w1, w2, w3, .int 0, w5, w6, w7, w8, w9, w10, w11, w12, .ref s2, w14, w15, w16, w17, w18, w19, w20, w21, w22, w23, w24, w25, w26, w27, w28, w29, w30, .int 0, w32, w33, w34]))]) [0] (by decide) rfl
    have hKc := hK.sub (tys' := []) [] rfl
    refine va_calli (va_runV (As := [.int z_3]) (rest := []) ⟨hx, hb, hml, hown, hts⟩ (m_isKind l dC dI H.size h0 (w0) (w1) (w2) (w3) (w5) (w6) (w7) (w8) (w9) (w10) (w11) (w12) (.ref s2) (w14) (w15) (w16) (w17) (w18) (w19) (w20) (w21) (w22) (w23) (w24) (w25) (w26) (w27) (w28) (w29) (w30) (.int 0) (w32) (w33) (w34) z_3) (cwV 1 hts (gV mw_4_53 mw_4_55 mw_0_15 mw_1_9 mw_4_56) rfl rfl rfl (by decide +kernel) ⟨Nat.le_of_ble_eq_true rfl, Nat.le_of_ble_eq_true rfl⟩) ⟨pcW_blind, va_recv hKc hPc (ci := 8) (q0 := 0) rfl rfl, pcW_at hPc hKc hDc hN⟩ rfl rfl hl.1 rfl (lv_room (Nat.le_of_ble_eq_true rfl)) dX9_told_19 ⟨Nat.le_of_ble_eq_true rfl, Nat.le_of_ble_eq_true rfl⟩) hS (fun q h1 h2 => absurd h2 (Nat.not_le.mpr h1)) (fun q h => hA q (Nat.le_trans hS.1 h)) (fun r_4 u t H1 locs ht hvm hw_4 hB hz1 hk1 hS => ?_)
    have hP := keepP hP hk1
    clear hz1 hk1 hB ht hvm hPc hDc hKc
    generalize H1 = H at hP hS ⊢
    obtain rfl : r_4 = 0 := hw_4
    refine lv_if_eq (tgt := 37) hx hb dX9_told_22 (by decide) (fun _ => ?_) (fun h => absurd (by decide) h)
    refine lv_iconst (v := 0) hx hb dX9_told_37 (by decide) ?_
    exact W.iret (v := 0) hx hb hr (fun t ht hW => ⟨⟨0, (), rfl, (by (unfold F_told; repeat' split) <;> first | rfl | (exfalso; omega)), trivial⟩, hS.F ht⟩) hS.2.2 dX9_told_38
  · skip
    refine lv_if_eq (tgt := 39) hx hb dX9_told_11 (by decide) (fun _ => ?_) (fun h => absurd (by decide) h)
    refine lv_iload_n hx hb dX9_told_39 rfl (lv_at hl 1 rfl) ?_
    refine lv_i2l hx hb dX9_told_40 rfl ?_
    refine lv_ldc2 (v := Int32.toInt64 20) hx hb hown (show (Cond.constantLong RX9 258 (Int32.toInt64 20)).before _ s = true from (hts _ mw_5_59)) dX9_told_41 ?_
    refine lv_ldc2 (v := Int32.toInt64 29) hx hb hown (show (Cond.constantLong RX9 260 (Int32.toInt64 29)).before _ s = true from (hts _ mw_5_60)) dX9_told_44 ?_
    have hPc := hP.sub (ws' := []) [] rfl
    have hDc := hD.sub (ws' := []) [] (by decide) rfl
    have hKc := hK.sub (tys' := []) [] rfl
    refine va_calli (va_runS (As := [.long (Int32.toInt64 n1), .long (Int32.toInt64 20), .long (Int32.toInt64 29)]) (rest := []) ⟨hx, hb, hml, hown, hts⟩ (m_in l dC dI H.size n1 20 29 20 29 (by decide) (by decide)) (va_cwS 3 hts (gS mw_4_57 mw_4_58 mw_1_9 mw_4_59) rfl rfl rfl (by decide +kernel) ⟨Nat.le_of_ble_eq_true rfl, Nat.le_of_ble_eq_true rfl⟩) ⟨pcW_blind, pcW_at hPc hKc hDc hN⟩ rfl rfl hl.1 rfl (lv_room (Nat.le_of_ble_eq_true rfl)) dX9_told_47 ⟨Nat.le_of_ble_eq_true rfl, Nat.le_of_ble_eq_true rfl⟩) hS (fun q h1 h2 => absurd h2 (Nat.not_le.mpr h1)) (fun q h => hA q (Nat.le_trans hS.1 h)) (fun r_5 u t H1 locs ht hvm hw_5 hB hz1 hk1 hS => ?_)
    have hP := keepP hP hk1
    clear hz1 hk1 hB ht hvm hPc hDc hKc
    generalize H1 = H at hP hS ⊢
    rcases fx_bool hw_5 with ⟨rfl, b_6⟩ | ⟨rfl, b_6⟩
    · skip
      refine lv_if_eq (tgt := 82) hx hb dX9_told_50 (by decide) (fun h => absurd h (by decide)) (fun _ => ?_)
      refine lv_aload_n hx hb dX9_told_53 rfl (lv_at hl 0 rfl) ?_
      refine lv_iload_n hx hb dX9_told_54 rfl (lv_at hl 1 rfl) ?_
      refine lv_bipush (v := 20) hx hb dX9_told_55 (by decide) ?_
      refine lv_isub hx hb dX9_told_57 ?_
      refine lv_topi (fun z_7 ez_7 => ?_)
      have fz_7 : Int32.toInt z_7 = Int32.toInt n1 - 20 := by rw [ez_7]; exact fx_sub (C := 20) (by decide) (by omega) (by omega)
      have hPc := hP.sub (ws' := [(h0, .inr (8, [w0, w1, w2, w3, .int 0, w5, w6, w7, w8, w9, w10, w11, w12, .ref s2, w14, w15, w16, w17, w18, w19, w20, w21, w22, w23, w24, w25, w26, w27, w28, w29, w30, .int 0, w32, w33, w34]))]) [0] rfl
      have hDc := hD.sub (ws' := [(h0, .inr (8, [w0, w1, w2, w3, .int 0, w5, w6, w7, w8, w9, w10, w11, w12, .ref s2, w14, w15, w16, w17, w18, w19, w20, w21, w22, w23, w24, w25, w26, w27, w28, w29, w30, .int 0, w32, w33, w34]))]) [0] (by decide) rfl
      have hKc := hK.sub (tys' := []) [] rfl
      refine va_calli (va_runV (As := [.int z_7]) (rest := []) ⟨hx, hb, hml, hown, hts⟩ (m_isKind l dC dI H.size h0 (w0) (w1) (w2) (w3) (w5) (w6) (w7) (w8) (w9) (w10) (w11) (w12) (.ref s2) (w14) (w15) (w16) (w17) (w18) (w19) (w20) (w21) (w22) (w23) (w24) (w25) (w26) (w27) (w28) (w29) (w30) (.int 0) (w32) (w33) (w34) z_7) (cwV 1 hts (gV mw_4_53 mw_4_55 mw_0_15 mw_1_9 mw_4_56) rfl rfl rfl (by decide +kernel) ⟨Nat.le_of_ble_eq_true rfl, Nat.le_of_ble_eq_true rfl⟩) ⟨pcW_blind, va_recv hKc hPc (ci := 8) (q0 := 0) rfl rfl, pcW_at hPc hKc hDc hN⟩ rfl rfl hl.1 rfl (lv_room (Nat.le_of_ble_eq_true rfl)) dX9_told_58 ⟨Nat.le_of_ble_eq_true rfl, Nat.le_of_ble_eq_true rfl⟩) hS (fun q h1 h2 => absurd h2 (Nat.not_le.mpr h1)) (fun q h => hA q (Nat.le_trans hS.1 h)) (fun r_8 u t H1 locs ht hvm hw_8 hB hz1 hk1 hS => ?_)
      have hP := keepP hP hk1
      clear hz1 hk1 hB ht hvm hPc hDc hKc
      generalize H1 = H at hP hS ⊢
      obtain rfl : r_8 = 0 := hw_8
      refine lv_if_eq (tgt := 80) hx hb dX9_told_61 (by decide) (fun _ => ?_) (fun h => absurd (by decide) h)
      refine lv_iconst (v := 0) hx hb dX9_told_80 (by decide) ?_
      exact W.iret (v := 0) hx hb hr (fun t ht hW => ⟨⟨0, (), rfl, (by (unfold F_told; repeat' split) <;> first | rfl | (exfalso; omega)), trivial⟩, hS.F ht⟩) hS.2.2 dX9_told_81
    · skip
      refine lv_if_eq (tgt := 82) hx hb dX9_told_50 (by decide) (fun _ => ?_) (fun h => absurd (by decide) h)
      refine lv_iload_n hx hb dX9_told_82 rfl (lv_at hl 1 rfl) ?_
      refine lv_if_ne (tgt := 93) hx hb dX9_told_83 (by decide) (fun c_9 => ?_) (fun c_9 => ?_)
      · have b_10 := fx_ne (x := n1) (C := 0) (by decide) c_9
        refine lv_iload_n hx hb dX9_told_93 rfl (lv_at hl 1 rfl) ?_
        refine lv_iconst (v := 1) hx hb dX9_told_94 (by decide) ?_
        refine lv_icmp_ne (tgt := 108) hx hb dX9_told_95 (by decide) (fun c_11 => ?_) (fun c_11 => ?_)
        · have b_12 := fx_ne (x := n1) (C := 1) (by decide) c_11
          refine lv_iload_n hx hb dX9_told_108 rfl (lv_at hl 1 rfl) ?_
          refine lv_iconst (v := 2) hx hb dX9_told_109 (by decide) ?_
          refine lv_icmp_ne (tgt := 120) hx hb dX9_told_110 (by decide) (fun c_13 => ?_) (fun c_13 => ?_)
          · have b_14 := fx_ne (x := n1) (C := 2) (by decide) c_13
            refine lv_bipush (v := (-2)) hx hb dX9_told_120 (by decide) ?_
            exact W.iret (v := (-2)) hx hb hr (fun t ht hW => ⟨⟨(-2), (), rfl, (by (unfold F_told; repeat' split) <;> first | rfl | (exfalso; omega)), trivial⟩, hS.F ht⟩) hS.2.2 dX9_told_122
          · have b_14 := fn_ne (x := n1) (C := 2) (by decide) c_13
            refine lv_aload_n hx hb dX9_told_113 rfl (lv_at hl 0 rfl) ?_
            refine va_get (D := (dC, dI)) (ci := 8) (v := .int 0) (C := RX9) (T := TX9) (N := 35) hx hb hts inB_9 hown hK hP 0 rfl rfl 31 (by decide) (hts _ mw_3_213) (fun _ h9 => h9) rfl dX9_told_114 ?_
            refine lv_goto (tgt := 122) hx hb dX9_told_117 (by decide) ?_
            exact W.iret (v := 0) hx hb hr (fun t ht hW => ⟨⟨0, (), rfl, (by (unfold F_told; repeat' split) <;> first | rfl | (exfalso; omega)), trivial⟩, hS.F ht⟩) hS.2.2 dX9_told_122
        · have b_12 := fn_ne (x := n1) (C := 1) (by decide) c_11
          refine lv_aload_n hx hb dX9_told_98 rfl (lv_at hl 0 rfl) ?_
          refine va_get (D := (dC, dI)) (ci := 8) (v := .ref s2) (C := RX9) (T := TX9) (N := 35) hx hb hts inB_9 hown hK hP 0 rfl rfl 13 (by decide) (hts _ mw_3_195) (fun _ h9 => h9) rfl dX9_told_99 ?_
          refine lv_bipush (v := 80) hx hb dX9_told_102 (by decide) ?_
          refine va_iald hx hb hK hP 1 0 rfl rfl (show vp_in 80 81 by unfold vp_in; decide) dX9_told_104 ?_
          refine hx_top (y := 0) rfl ?_
          refine lv_goto (tgt := 122) hx hb dX9_told_105 (by decide) ?_
          exact W.iret (v := 0) hx hb hr (fun t ht hW => ⟨⟨0, (), rfl, (by (unfold F_told; repeat' split) <;> first | rfl | (exfalso; omega)), trivial⟩, hS.F ht⟩) hS.2.2 dX9_told_122
      · have b_10 := fn_ne (x := n1) (C := 0) (by decide) c_9
        refine lv_aload_n hx hb dX9_told_86 rfl (lv_at hl 0 rfl) ?_
        refine va_get (D := (dC, dI)) (ci := 8) (v := .int 0) (C := RX9) (T := TX9) (N := 35) hx hb hts inB_9 hown hK hP 0 rfl rfl 4 (by decide) (hts _ mw_3_186) (fun _ h9 => h9) rfl dX9_told_87 ?_
        refine lv_goto (tgt := 122) hx hb dX9_told_90 (by decide) ?_
        exact W.iret (v := 0) hx hb hr (fun t ht hW => ⟨⟨0, (), rfl, (by (unfold F_told; repeat' split) <;> first | rfl | (exfalso; omega)), trivial⟩, hS.F ht⟩) hS.2.2 dX9_told_122
