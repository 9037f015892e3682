theorem mw_1_132 : Cond.laysFinal RX7 "AnswerLines$Table" "rows" "[I" ∈ BG := mB (t1 (i := 132) (by decide +kernel)) (by decide +kernel)
theorem mw_1_134 : Cond.laysFinal RX7 "AnswerLines$Table" "together" "[I" ∈ BG := mB (t1 (i := 134) (by decide +kernel)) (by decide +kernel)
theorem mw_1_136 : Cond.laysFinal RX7 "AnswerLines$Table" "columns" "[I" ∈ BG := mB (t1 (i := 136) (by decide +kernel)) (by decide +kernel)
theorem mw_1_138 : Cond.laysFinal RX7 "AnswerLines$Table" "pushedTo" "[I" ∈ BG := mB (t1 (i := 138) (by decide +kernel)) (by decide +kernel)
theorem mw_1_140 : Cond.laysFinal RX7 "AnswerLines$Table" "slots" "[I" ∈ BG := mB (t1 (i := 140) (by decide +kernel)) (by decide +kernel)
theorem inB_7 : ∀ w ∈ u_ws RX7 TX7 5, w ∈ BG := fun w hw => by
  obtain ⟨k, hk, rfl⟩ := List.mem_map.mp hw
  have hk := List.mem_range.mp hk
  rcases (by omega : k = 0 ∨ k = 1 ∨ k = 2 ∨ k = 3 ∨ k = 4) with rfl | rfl | rfl | rfl | rfl
  · exact mw_1_132
  · exact mw_1_134
  · exact mw_1_136
  · exact mw_1_138
  · exact mw_1_140
theorem mw_1_127 : Cond.fieldLink RX7 9 "AnswerLines$Table" "rows" "[I" ∈ BG := mB (t1 (i := 127) (by decide +kernel)) (by decide +kernel)
theorem mw_3_10 : Cond.methodLink RX7 27 yX1_hasRow ∈ BG := mB (t3 (i := 10) (by decide +kernel)) (by decide +kernel)
theorem mw_3_15 : Cond.methodLink RX7 33 yX0_ownersOf ∈ BG := mB (t3 (i := 15) (by decide +kernel)) (by decide +kernel)
theorem mw_3_16 : Cond.methodLink RX7 39 yX1_firstOf ∈ BG := mB (t3 (i := 16) (by decide +kernel)) (by decide +kernel)
theorem mw_1_128 : Cond.fieldLink RX7 15 "AnswerLines$Table" "together" "[I" ∈ BG := mB (t1 (i := 128) (by decide +kernel)) (by decide +kernel)
theorem mw_1_129 : Cond.fieldLink RX7 18 "AnswerLines$Table" "columns" "[I" ∈ BG := mB (t1 (i := 129) (by decide +kernel)) (by decide +kernel)
theorem mw_3_33 : Cond.code yX7_isFree cX7_isFree 4 (some .boolean) ∈ BG := mB (t3 (i := 33) rfl) (by decide +kernel)
theorem mw_3_30 : Cond.methodLink RX7 66 yX7_isFree ∈ BG := mB (t3 (i := 30) (by decide +kernel)) (by decide +kernel)
theorem mw_3_32 : Cond.instanceMethod yX7_isFree ∈ BG := mB (t3 (i := 32) (by decide +kernel)) (by decide +kernel)
theorem mw_0_8 : Cond.selects RX7 yX7_isFree yX7_isFree ∈ BG := mB (t0 (i := 8) (by decide +kernel)) (by decide +kernel)
theorem mw_1_7 : Cond.initialized RX7 ∈ BG := mB (t1 (i := 7) (by decide +kernel)) (by decide +kernel)
theorem mw_3_34 : Cond.methodLink RX7 56 Lib.Math.max.name ∈ BG := mB (t3 (i := 34) (by decide +kernel)) (by decide +kernel)
theorem mw_3_29 : Cond.code yX7_fitInto cX7_fitInto 5 (some .boolean) ∈ BG := mB (t3 (i := 29) rfl) (by decide +kernel)
theorem mw_3_26 : Cond.methodLink RX7 46 yX7_fitInto ∈ BG := mB (t3 (i := 26) (by decide +kernel)) (by decide +kernel)
theorem mw_3_28 : Cond.instanceMethod yX7_fitInto ∈ BG := mB (t3 (i := 28) (by decide +kernel)) (by decide +kernel)
theorem mw_0_7 : Cond.selects RX7 yX7_fitInto yX7_fitInto ∈ BG := mB (t0 (i := 7) (by decide +kernel)) (by decide +kernel)
theorem mw_3_24 : Cond.code yX7_findTogether cX7_findTogether 3 none ∈ BG := mB (t3 (i := 24) rfl) (by decide +kernel)
theorem mw_3_21 : Cond.methodLink RX7 43 yX7_findTogether ∈ BG := mB (t3 (i := 21) (by decide +kernel)) (by decide +kernel)
theorem mw_3_23 : Cond.instanceMethod yX7_findTogether ∈ BG := mB (t3 (i := 23) (by decide +kernel)) (by decide +kernel)
theorem mw_0_6 : Cond.selects RX7 yX7_findTogether yX7_findTogether ∈ BG := mB (t0 (i := 6) (by decide +kernel)) (by decide +kernel)
theorem dX7_fill_0 : decode cX7_fill 0 = .ok (.iconst 0, 1) := by decide +kernel
theorem dX7_fill_1 : decode cX7_fill 1 = .ok (.istore_n 3, 1) := by decide +kernel
theorem dX7_fill_2 : decode cX7_fill 2 = .ok (.iload_n 3, 1) := by decide +kernel
theorem dX7_fill_3 : decode cX7_fill 3 = .ok (.bipush 10, 2) := by decide +kernel
theorem dX7_fill_5 : decode cX7_fill 5 = .ok (.if_icmp .ge 73, 3) := by decide +kernel
theorem dX7_fill_78 : decode cX7_fill 78 = .ok (.return_, 1) := by decide +kernel
theorem dX7_fill_8 : decode cX7_fill 8 = .ok (.aload_n 0, 1) := by decide +kernel
theorem dX7_fill_9 : decode cX7_fill 9 = .ok (.getfield 9, 3) := by decide +kernel
theorem dX7_fill_12 : decode cX7_fill 12 = .ok (.iload_n 3, 1) := by decide +kernel
theorem dX7_fill_13 : decode cX7_fill 13 = .ok (.iconst 0, 1) := by decide +kernel
theorem dX7_fill_14 : decode cX7_fill 14 = .ok (.iastore, 1) := by decide +kernel
theorem dX7_fill_15 : decode cX7_fill 15 = .ok (.aload_n 1, 1) := by decide +kernel
theorem dX7_fill_16 : decode cX7_fill 16 = .ok (.iload_n 3, 1) := by decide +kernel
theorem dX7_fill_17 : decode cX7_fill 17 = .ok (.invokevirtual 27, 3) := by decide +kernel
theorem dX7_fill_20 : decode cX7_fill 20 = .ok (.ifCond .ne 6, 3) := by decide +kernel
theorem dX7_fill_26 : decode cX7_fill 26 = .ok (.iconst 0, 1) := by decide +kernel
theorem dX7_fill_27 : decode cX7_fill 27 = .ok (.istore 4, 2) := by decide +kernel
theorem dX7_fill_29 : decode cX7_fill 29 = .ok (.iload 4, 2) := by decide +kernel
theorem dX7_fill_31 : decode cX7_fill 31 = .ok (.bipush 8, 2) := by decide +kernel
theorem dX7_fill_33 : decode cX7_fill 33 = .ok (.if_icmp .ge 39, 3) := by decide +kernel
theorem dX7_fill_72 : decode cX7_fill 72 = .ok (.iinc 3 1, 3) := by decide +kernel
theorem dX7_fill_75 : decode cX7_fill 75 = .ok (.goto (-73), 3) := by decide +kernel
theorem dX7_fill_36 : decode cX7_fill 36 = .ok (.aload_n 1, 1) := by decide +kernel
theorem dX7_fill_37 : decode cX7_fill 37 = .ok (.iload_n 3, 1) := by decide +kernel
theorem dX7_fill_38 : decode cX7_fill 38 = .ok (.aload_n 2, 1) := by decide +kernel
theorem dX7_fill_39 : decode cX7_fill 39 = .ok (.iload 4, 2) := by decide +kernel
theorem dX7_fill_41 : decode cX7_fill 41 = .ok (.invokevirtual 33, 3) := by decide +kernel
theorem dX7_fill_44 : decode cX7_fill 44 = .ok (.iconst 0, 1) := by decide +kernel
theorem dX7_fill_45 : decode cX7_fill 45 = .ok (.invokevirtual 39, 3) := by decide +kernel
theorem dX7_fill_48 : decode cX7_fill 48 = .ok (.bipush (-6), 2) := by decide +kernel
theorem dX7_fill_50 : decode cX7_fill 50 = .ok (.if_icmp .eq 16, 3) := by decide +kernel
theorem dX7_fill_66 : decode cX7_fill 66 = .ok (.iinc 4 1, 3) := by decide +kernel
theorem dX7_fill_69 : decode cX7_fill 69 = .ok (.goto (-40), 3) := by decide +kernel
theorem dX7_fill_53 : decode cX7_fill 53 = .ok (.aload_n 0, 1) := by decide +kernel
theorem dX7_fill_54 : decode cX7_fill 54 = .ok (.getfield 9, 3) := by decide +kernel
theorem dX7_fill_57 : decode cX7_fill 57 = .ok (.iload_n 3, 1) := by decide +kernel
theorem dX7_fill_58 : decode cX7_fill 58 = .ok (.dup2, 1) := by decide +kernel
theorem dX7_fill_59 : decode cX7_fill 59 = .ok (.iaload, 1) := by decide +kernel
theorem dX7_fill_60 : decode cX7_fill 60 = .ok (.iconst 1, 1) := by decide +kernel
theorem dX7_fill_61 : decode cX7_fill 61 = .ok (.iload 4, 2) := by decide +kernel
theorem dX7_fill_63 : decode cX7_fill 63 = .ok (.ishl, 1) := by decide +kernel
theorem dX7_fill_64 : decode cX7_fill 64 = .ok (.ior, 1) := by decide +kernel
theorem dX7_fill_65 : decode cX7_fill 65 = .ok (.iastore, 1) := by decide +kernel
theorem dX7_fill_23 : decode cX7_fill 23 = .ok (.goto 49, 3) := by decide +kernel
theorem dX7_findTogether_0 : decode cX7_findTogether 0 = .ok (.iconst 0, 1) := by decide +kernel
theorem dX7_findTogether_1 : decode cX7_findTogether 1 = .ok (.istore_n 1, 1) := by decide +kernel
theorem dX7_findTogether_2 : decode cX7_findTogether 2 = .ok (.iload_n 1, 1) := by decide +kernel
theorem dX7_findTogether_3 : decode cX7_findTogether 3 = .ok (.bipush 8, 2) := by decide +kernel
theorem dX7_findTogether_5 : decode cX7_findTogether 5 = .ok (.if_icmp .ge 58, 3) := by decide +kernel
theorem dX7_findTogether_63 : decode cX7_findTogether 63 = .ok (.return_, 1) := by decide +kernel
theorem dX7_findTogether_8 : decode cX7_findTogether 8 = .ok (.aload_n 0, 1) := by decide +kernel
theorem dX7_findTogether_9 : decode cX7_findTogether 9 = .ok (.getfield 15, 3) := by decide +kernel
theorem dX7_findTogether_12 : decode cX7_findTogether 12 = .ok (.iload_n 1, 1) := by decide +kernel
theorem dX7_findTogether_13 : decode cX7_findTogether 13 = .ok (.iconst 0, 1) := by decide +kernel
theorem dX7_findTogether_14 : decode cX7_findTogether 14 = .ok (.iastore, 1) := by decide +kernel
theorem dX7_findTogether_15 : decode cX7_findTogether 15 = .ok (.iconst 0, 1) := by decide +kernel
theorem dX7_findTogether_16 : decode cX7_findTogether 16 = .ok (.istore_n 2, 1) := by decide +kernel
theorem dX7_findTogether_17 : decode cX7_findTogether 17 = .ok (.iload_n 2, 1) := by decide +kernel
theorem dX7_findTogether_18 : decode cX7_findTogether 18 = .ok (.bipush 10, 2) := by decide +kernel
theorem dX7_findTogether_20 : decode cX7_findTogether 20 = .ok (.if_icmp .ge 37, 3) := by decide +kernel
theorem dX7_findTogether_57 : decode cX7_findTogether 57 = .ok (.iinc 1 1, 3) := by decide +kernel
theorem dX7_findTogether_60 : decode cX7_findTogether 60 = .ok (.goto (-58), 3) := by decide +kernel
theorem dX7_findTogether_23 : decode cX7_findTogether 23 = .ok (.iload_n 1, 1) := by decide +kernel
theorem dX7_findTogether_24 : decode cX7_findTogether 24 = .ok (.aload_n 0, 1) := by decide +kernel
theorem dX7_findTogether_25 : decode cX7_findTogether 25 = .ok (.getfield 9, 3) := by decide +kernel
theorem dX7_findTogether_28 : decode cX7_findTogether 28 = .ok (.iload_n 2, 1) := by decide +kernel
theorem dX7_findTogether_29 : decode cX7_findTogether 29 = .ok (.iaload, 1) := by decide +kernel
theorem dX7_findTogether_30 : decode cX7_findTogether 30 = .ok (.invokestatic 62, 3) := by decide +kernel
theorem dX7_findTogether_33 : decode cX7_findTogether 33 = .ok (.ifCond .eq 18, 3) := by decide +kernel
theorem dX7_findTogether_36 : decode cX7_findTogether 36 = .ok (.aload_n 0, 1) := by decide +kernel
theorem dX7_findTogether_37 : decode cX7_findTogether 37 = .ok (.getfield 15, 3) := by decide +kernel
theorem dX7_findTogether_40 : decode cX7_findTogether 40 = .ok (.iload_n 1, 1) := by decide +kernel
theorem dX7_findTogether_41 : decode cX7_findTogether 41 = .ok (.dup2, 1) := by decide +kernel
theorem dX7_findTogether_42 : decode cX7_findTogether 42 = .ok (.iaload, 1) := by decide +kernel
theorem dX7_findTogether_43 : decode cX7_findTogether 43 = .ok (.aload_n 0, 1) := by decide +kernel
theorem dX7_findTogether_44 : decode cX7_findTogether 44 = .ok (.getfield 9, 3) := by decide +kernel
theorem dX7_findTogether_47 : decode cX7_findTogether 47 = .ok (.iload_n 2, 1) := by decide +kernel
theorem dX7_findTogether_48 : decode cX7_findTogether 48 = .ok (.iaload, 1) := by decide +kernel
theorem dX7_findTogether_49 : decode cX7_findTogether 49 = .ok (.ior, 1) := by decide +kernel
theorem dX7_findTogether_50 : decode cX7_findTogether 50 = .ok (.iastore, 1) := by decide +kernel
theorem dX7_findTogether_51 : decode cX7_findTogether 51 = .ok (.iinc 2 1, 3) := by decide +kernel
theorem dX7_findTogether_54 : decode cX7_findTogether 54 = .ok (.goto (-37), 3) := by decide +kernel
theorem dX7_isFree_0 : decode cX7_isFree 0 = .ok (.iconst 0, 1) := by decide +kernel
theorem dX7_isFree_1 : decode cX7_isFree 1 = .ok (.istore_n 3, 1) := by decide +kernel
theorem dX7_isFree_2 : decode cX7_isFree 2 = .ok (.iload_n 3, 1) := by decide +kernel
theorem dX7_isFree_3 : decode cX7_isFree 3 = .ok (.iload_n 2, 1) := by decide +kernel
theorem dX7_isFree_4 : decode cX7_isFree 4 = .ok (.if_icmp .ge 40, 3) := by decide +kernel
theorem dX7_isFree_44 : decode cX7_isFree 44 = .ok (.iconst 1, 1) := by decide +kernel
theorem dX7_isFree_45 : decode cX7_isFree 45 = .ok (.ireturn, 1) := by decide +kernel
theorem dX7_isFree_7 : decode cX7_isFree 7 = .ok (.iload_n 3, 1) := by decide +kernel
theorem dX7_isFree_8 : decode cX7_isFree 8 = .ok (.bipush 8, 2) := by decide +kernel
theorem dX7_isFree_10 : decode cX7_isFree 10 = .ok (.if_icmp .ge 34, 3) := by decide +kernel
theorem dX7_isFree_13 : decode cX7_isFree 13 = .ok (.aload_n 0, 1) := by decide +kernel
theorem dX7_isFree_14 : decode cX7_isFree 14 = .ok (.getfield 18, 3) := by decide +kernel
theorem dX7_isFree_17 : decode cX7_isFree 17 = .ok (.iload_n 3, 1) := by decide +kernel
theorem dX7_isFree_18 : decode cX7_isFree 18 = .ok (.iaload, 1) := by decide +kernel
theorem dX7_isFree_19 : decode cX7_isFree 19 = .ok (.iload_n 1, 1) := by decide +kernel
theorem dX7_isFree_20 : decode cX7_isFree 20 = .ok (.if_icmp .ne 18, 3) := by decide +kernel
theorem dX7_isFree_38 : decode cX7_isFree 38 = .ok (.iinc 3 1, 3) := by decide +kernel
theorem dX7_isFree_41 : decode cX7_isFree 41 = .ok (.goto (-39), 3) := by decide +kernel
theorem dX7_isFree_23 : decode cX7_isFree 23 = .ok (.iload_n 3, 1) := by decide +kernel
theorem dX7_isFree_24 : decode cX7_isFree 24 = .ok (.aload_n 0, 1) := by decide +kernel
theorem dX7_isFree_25 : decode cX7_isFree 25 = .ok (.getfield 15, 3) := by decide +kernel
theorem dX7_isFree_28 : decode cX7_isFree 28 = .ok (.iload_n 2, 1) := by decide +kernel
theorem dX7_isFree_29 : decode cX7_isFree 29 = .ok (.iaload, 1) := by decide +kernel
theorem dX7_isFree_30 : decode cX7_isFree 30 = .ok (.invokestatic 62, 3) := by decide +kernel
theorem dX7_isFree_33 : decode cX7_isFree 33 = .ok (.ifCond .eq 5, 3) := by decide +kernel
theorem dX7_isFree_36 : decode cX7_isFree 36 = .ok (.iconst 0, 1) := by decide +kernel
theorem dX7_isFree_37 : decode cX7_isFree 37 = .ok (.ireturn, 1) := by decide +kernel
theorem dX7_fitInto_0 : decode cX7_fitInto 0 = .ok (.iload_n 2, 1) := by decide +kernel
theorem dX7_fitInto_1 : decode cX7_fitInto 1 = .ok (.ifCond .lt 9, 3) := by decide +kernel
theorem dX7_fitInto_4 : decode cX7_fitInto 4 = .ok (.iload_n 2, 1) := by decide +kernel
theorem dX7_fitInto_5 : decode cX7_fitInto 5 = .ok (.bipush 8, 2) := by decide +kernel
theorem dX7_fitInto_7 : decode cX7_fitInto 7 = .ok (.if_icmp .lt 5, 3) := by decide +kernel
theorem dX7_fitInto_10 : decode cX7_fitInto 10 = .ok (.iconst 1, 1) := by decide +kernel
theorem dX7_fitInto_11 : decode cX7_fitInto 11 = .ok (.ireturn, 1) := by decide +kernel
theorem dX7_fitInto_12 : decode cX7_fitInto 12 = .ok (.aload_n 0, 1) := by decide +kernel
theorem dX7_fitInto_13 : decode cX7_fitInto 13 = .ok (.getfield 18, 3) := by decide +kernel
theorem dX7_fitInto_16 : decode cX7_fitInto 16 = .ok (.iload_n 2, 1) := by decide +kernel
theorem dX7_fitInto_17 : decode cX7_fitInto 17 = .ok (.bipush (-6), 2) := by decide +kernel
theorem dX7_fitInto_19 : decode cX7_fitInto 19 = .ok (.iastore, 1) := by decide +kernel
theorem dX7_fitInto_20 : decode cX7_fitInto 20 = .ok (.aload_n 0, 1) := by decide +kernel
theorem dX7_fitInto_21 : decode cX7_fitInto 21 = .ok (.getfield 15, 3) := by decide +kernel
theorem dX7_fitInto_24 : decode cX7_fitInto 24 = .ok (.iload_n 2, 1) := by decide +kernel
theorem dX7_fitInto_25 : decode cX7_fitInto 25 = .ok (.iaload, 1) := by decide +kernel
theorem dX7_fitInto_26 : decode cX7_fitInto 26 = .ok (.ifCond .ne 13, 3) := by decide +kernel
theorem dX7_fitInto_39 : decode cX7_fitInto 39 = .ok (.iconst 0, 1) := by decide +kernel
theorem dX7_fitInto_40 : decode cX7_fitInto 40 = .ok (.istore 4, 2) := by decide +kernel
theorem dX7_fitInto_42 : decode cX7_fitInto 42 = .ok (.iload 4, 2) := by decide +kernel
theorem dX7_fitInto_44 : decode cX7_fitInto 44 = .ok (.iload_n 3, 1) := by decide +kernel
theorem dX7_fitInto_45 : decode cX7_fitInto 45 = .ok (.if_icmp .gt 57, 3) := by decide +kernel
theorem dX7_fitInto_102 : decode cX7_fitInto 102 = .ok (.iconst 0, 1) := by decide +kernel
theorem dX7_fitInto_103 : decode cX7_fitInto 103 = .ok (.ireturn, 1) := by decide +kernel
theorem dX7_fitInto_48 : decode cX7_fitInto 48 = .ok (.iload 4, 2) := by decide +kernel
theorem dX7_fitInto_50 : decode cX7_fitInto 50 = .ok (.iload_n 1, 1) := by decide +kernel
theorem dX7_fitInto_51 : decode cX7_fitInto 51 = .ok (.if_icmp .ge 51, 3) := by decide +kernel
theorem dX7_fitInto_54 : decode cX7_fitInto 54 = .ok (.aload_n 0, 1) := by decide +kernel
theorem dX7_fitInto_55 : decode cX7_fitInto 55 = .ok (.iload 4, 2) := by decide +kernel
theorem dX7_fitInto_57 : decode cX7_fitInto 57 = .ok (.iload_n 2, 1) := by decide +kernel
theorem dX7_fitInto_58 : decode cX7_fitInto 58 = .ok (.invokevirtual 66, 3) := by decide +kernel
theorem dX7_fitInto_61 : decode cX7_fitInto 61 = .ok (.ifCond .ne 6, 3) := by decide +kernel
theorem dX7_fitInto_67 : decode cX7_fitInto 67 = .ok (.aload_n 0, 1) := by decide +kernel
theorem dX7_fitInto_68 : decode cX7_fitInto 68 = .ok (.getfield 18, 3) := by decide +kernel
theorem dX7_fitInto_71 : decode cX7_fitInto 71 = .ok (.iload_n 2, 1) := by decide +kernel
theorem dX7_fitInto_72 : decode cX7_fitInto 72 = .ok (.iload 4, 2) := by decide +kernel
theorem dX7_fitInto_74 : decode cX7_fitInto 74 = .ok (.iastore, 1) := by decide +kernel
theorem dX7_fitInto_75 : decode cX7_fitInto 75 = .ok (.aload_n 0, 1) := by decide +kernel
theorem dX7_fitInto_76 : decode cX7_fitInto 76 = .ok (.iload_n 1, 1) := by decide +kernel
theorem dX7_fitInto_77 : decode cX7_fitInto 77 = .ok (.iload_n 2, 1) := by decide +kernel
theorem dX7_fitInto_78 : decode cX7_fitInto 78 = .ok (.iconst 1, 1) := by decide +kernel
theorem dX7_fitInto_79 : decode cX7_fitInto 79 = .ok (.iadd, 1) := by decide +kernel
theorem dX7_fitInto_80 : decode cX7_fitInto 80 = .ok (.iload_n 3, 1) := by decide +kernel
theorem dX7_fitInto_81 : decode cX7_fitInto 81 = .ok (.iload 4, 2) := by decide +kernel
theorem dX7_fitInto_83 : decode cX7_fitInto 83 = .ok (.iconst 1, 1) := by decide +kernel
theorem dX7_fitInto_84 : decode cX7_fitInto 84 = .ok (.iadd, 1) := by decide +kernel
theorem dX7_fitInto_85 : decode cX7_fitInto 85 = .ok (.invokestatic 56, 3) := by decide +kernel
theorem dX7_fitInto_88 : decode cX7_fitInto 88 = .ok (.invokevirtual 46, 3) := by decide +kernel
theorem dX7_fitInto_91 : decode cX7_fitInto 91 = .ok (.ifCond .eq 5, 3) := by decide +kernel
theorem dX7_fitInto_94 : decode cX7_fitInto 94 = .ok (.iconst 1, 1) := by decide +kernel
theorem dX7_fitInto_95 : decode cX7_fitInto 95 = .ok (.ireturn, 1) := by decide +kernel
theorem dX7_fitInto_96 : decode cX7_fitInto 96 = .ok (.iinc 4 1, 3) := by decide +kernel
theorem dX7_fitInto_99 : decode cX7_fitInto 99 = .ok (.goto (-57), 3) := by decide +kernel
theorem dX7_fitInto_64 : decode cX7_fitInto 64 = .ok (.goto 32, 3) := by decide +kernel
theorem dX7_fitInto_29 : decode cX7_fitInto 29 = .ok (.aload_n 0, 1) := by decide +kernel
theorem dX7_fitInto_30 : decode cX7_fitInto 30 = .ok (.iload_n 1, 1) := by decide +kernel
theorem dX7_fitInto_31 : decode cX7_fitInto 31 = .ok (.iload_n 2, 1) := by decide +kernel
theorem dX7_fitInto_32 : decode cX7_fitInto 32 = .ok (.iconst 1, 1) := by decide +kernel
theorem dX7_fitInto_33 : decode cX7_fitInto 33 = .ok (.iadd, 1) := by decide +kernel
theorem dX7_fitInto_34 : decode cX7_fitInto 34 = .ok (.iload_n 3, 1) := by decide +kernel
theorem dX7_fitInto_35 : decode cX7_fitInto 35 = .ok (.invokevirtual 46, 3) := by decide +kernel
theorem dX7_fitInto_38 : decode cX7_fitInto 38 = .ok (.ireturn, 1) := by decide +kernel
theorem dX7_spread_0 : decode cX7_spread 0 = .ok (.aload_n 0, 1) := by decide +kernel
theorem dX7_spread_1 : decode cX7_spread 1 = .ok (.invokevirtual 43, 3) := by decide +kernel
theorem dX7_spread_4 : decode cX7_spread 4 = .ok (.iconst 0, 1) := by decide +kernel
theorem dX7_spread_5 : decode cX7_spread 5 = .ok (.istore_n 1, 1) := by decide +kernel
theorem dX7_spread_6 : decode cX7_spread 6 = .ok (.iload_n 1, 1) := by decide +kernel
theorem dX7_spread_7 : decode cX7_spread 7 = .ok (.bipush 8, 2) := by decide +kernel
theorem dX7_spread_9 : decode cX7_spread 9 = .ok (.if_icmp .gt 21, 3) := by decide +kernel
theorem dX7_spread_30 : decode cX7_spread 30 = .ok (.bipush 8, 2) := by decide +kernel
theorem dX7_spread_32 : decode cX7_spread 32 = .ok (.ireturn, 1) := by decide +kernel
theorem dX7_spread_12 : decode cX7_spread 12 = .ok (.aload_n 0, 1) := by decide +kernel
theorem dX7_spread_13 : decode cX7_spread 13 = .ok (.iload_n 1, 1) := by decide +kernel
theorem dX7_spread_14 : decode cX7_spread 14 = .ok (.iconst 0, 1) := by decide +kernel
theorem dX7_spread_15 : decode cX7_spread 15 = .ok (.iconst 0, 1) := by decide +kernel
theorem dX7_spread_16 : decode cX7_spread 16 = .ok (.invokevirtual 46, 3) := by decide +kernel
theorem dX7_spread_19 : decode cX7_spread 19 = .ok (.ifCond .eq 5, 3) := by decide +kernel
theorem dX7_spread_22 : decode cX7_spread 22 = .ok (.iload_n 1, 1) := by decide +kernel
theorem dX7_spread_23 : decode cX7_spread 23 = .ok (.ireturn, 1) := by decide +kernel
theorem dX7_spread_24 : decode cX7_spread 24 = .ok (.iinc 1 1, 3) := by decide +kernel
theorem dX7_spread_27 : decode cX7_spread 27 = .ok (.goto (-21), 3) := by decide +kernel
theorem dX7_columnOf_0 : decode cX7_columnOf 0 = .ok (.iload_n 1, 1) := by decide +kernel
theorem dX7_columnOf_1 : decode cX7_columnOf 1 = .ok (.invokestatic 50, 3) := by decide +kernel
theorem dX7_columnOf_4 : decode cX7_columnOf 4 = .ok (.ifCond .eq 12, 3) := by decide +kernel
theorem dX7_columnOf_7 : decode cX7_columnOf 7 = .ok (.aload_n 0, 1) := by decide +kernel
theorem dX7_columnOf_8 : decode cX7_columnOf 8 = .ok (.getfield 18, 3) := by decide +kernel
theorem dX7_columnOf_11 : decode cX7_columnOf 11 = .ok (.iload_n 1, 1) := by decide +kernel
theorem dX7_columnOf_12 : decode cX7_columnOf 12 = .ok (.iaload, 1) := by decide +kernel
theorem dX7_columnOf_13 : decode cX7_columnOf 13 = .ok (.goto 5, 3) := by decide +kernel
theorem dX7_columnOf_18 : decode cX7_columnOf 18 = .ok (.ireturn, 1) := by decide +kernel
set_option maxHeartbeats 4000000 in
set_option maxRecDepth 100000 in
theorem c_fill (l : Launch) (dC : Nat → ClassId) (dI : Nat → Nat → Nat) (sz : Nat) (h0 : Nat) (t0 : Nat) (t1 : Value) (t2 : Value) (t3 : Value) (t4 : Value) (kt0 : ClassId) (fr : Nat → Int32) (p1 : Nat) (w0 : Value) (b1 : Nat) (w2 : Value) (b3 : Nat) (w4 : Value) (w5 : Value) (cn : Nat) (bb : Int32) (kb1 : ClassId) (fle : Nat → Int32) (kb3 : ClassId) (fli : Nat → Int32) (p3 : Nat) (e0 : Nat) (z1 : Value) (z2 : Value) (ke0 : ClassId) (fo : Nat → Int32) (hc : cn ≤ 10) (hle : BdOk 10 10 fle) (hlk : LnOk fle fli cn) : Met l yX7_fill (wq yX7_fill cX7_fill 5 none) ({ frames := 4, cells := 0, slots := 0, locals := 90 }) (va_Pc [.ref h0, .ref p1, .ref p3] (pcW dC dI [(kt0, .int), (kb1, .int), (kb3, .int), (ke0, .int)] [(h0, .inr (6, [.ref t0, t1, t2, t3, t4])), (t0, .inl (kt0, 10, .inl fr)), (p1, .inr (1, [w0, .ref b1, w2, .ref b3, w4, w5, .int (nI cn), .int bb])), (b1, .inl (kb1, 10, .inl fle)), (b3, .inl (kb3, 100, .inl fli)), (p3, .inr (0, [.ref e0, z1, z2])), (e0, .inl (ke0, 8, .inl fo))] sz)) (va_Qv (fun _ : Unit => True) (fun _ t => ∃ (fr2 : Nat → Int32), (∀ k, k < 10 → fr2 k = (rowC fle fli fo cn bb) k) ∧ va_P (dC, dI) vwCl [(h0, .inr (6, [.ref t0, t1, t2, t3, t4])), (t0, .inl (kt0, 10, .inl fr2)), (p1, .inr (1, [w0, .ref b1, w2, .ref b3, w4, w5, .int (nI cn), .int bb])), (b1, .inl (kb1, 10, .inl fle)), (b3, .inl (kb3, 100, .inl fli)), (p3, .inr (0, [.ref e0, z1, z2])), (e0, .inl (ke0, 8, .inl fo))] t.heap ∧ va_K (dC, dI) vwCl [(kt0, .int), (kb1, .int), (kb3, .int), (ke0, .int)] t ∧ va_D (va_A [(h0, .inr (6, [.ref t0, t1, t2, t3, t4])), (t0, .inl (kt0, 10, .inl fr)), (p1, .inr (1, [w0, .ref b1, w2, .ref b3, w4, w5, .int (nI cn), .int bb])), (b1, .inl (kb1, 10, .inl fle)), (b3, .inl (kb3, 100, .inl fli)), (p3, .inr (0, [.ref e0, z1, z2])), (e0, .inl (ke0, 8, .inl fo))] sz) [(h0, .inr (6, [.ref t0, t1, t2, t3, t4])), (t0, .inl (kt0, 10, .inl fr2)), (p1, .inr (1, [w0, .ref b1, w2, .ref b3, w4, w5, .int (nI cn), .int bb])), (b1, .inl (kb1, 10, .inl fle)), (b3, .inl (kb3, 100, .inl fli)), (p3, .inr (0, [.ref e0, z1, z2])), (e0, .inl (ke0, 8, .inl fo))]) (va_A [(h0, .inr (6, [.ref t0, t1, t2, t3, t4])), (t0, .inl (kt0, 10, .inl fr)), (p1, .inr (1, [w0, .ref b1, w2, .ref b3, w4, w5, .int (nI cn), .int bb])), (b1, .inl (kb1, 10, .inl fle)), (b3, .inl (kb3, 100, .inl fli)), (p3, .inr (0, [.ref e0, z1, z2])), (e0, .inl (ke0, 8, .inl fo))] sz)) 0 0 (va_A [(h0, .inr (6, [.ref t0, t1, t2, t3, t4])), (t0, .inl (kt0, 10, .inl fr)), (p1, .inr (1, [w0, .ref b1, w2, .ref b3, w4, w5, .int (nI cn), .int bb])), (b1, .inl (kb1, 10, .inl fle)), (b3, .inl (kb3, 100, .inl fli)), (p3, .inr (0, [.ref e0, z1, z2])), (e0, .inl (ke0, 8, .inl fo))] sz) := by
  refine Met.ofW (cc := cX7_fill) (maxL := 5) (ret := none) (by decide) rfl ?_
  intro p e s m args below meth c s₁ B hml hv
  obtain ⟨rfl, hsz, hN, hP, hK, hD0⟩ := hv
  have hx := B.exec
  have hb := B.bytes
  have hr := B.returns
  have hts0 := atoms_spec (ws := (wq yX7_fill cX7_fill 5 none)) B.pre
  have hts : ∀ w ∈ BG, w.before _ s = true := fun w h => hts0 w (List.mem_cons_of_mem _ h)
  have hown : s.vm.findClass RX7 = some m.cls := findClass_of_methodNamed B.named
  have hlocks := B.notSynchronized
  subst hsz
  have hD := hD0.self (sz := s.heap.size)
  generalize hAe : va_A [(h0, .inr (6, [.ref t0, t1, t2, t3, t4])), (t0, .inl (kt0, 10, .inl fr)), (p1, .inr (1, [w0, .ref b1, w2, .ref b3, w4, w5, .int (nI cn), .int bb])), (b1, .inl (kb1, 10, .inl fle)), (b3, .inl (kb3, 100, .inl fli)), (p3, .inr (0, [.ref e0, z1, z2])), (e0, .inl (ke0, 8, .inl fo))] s.heap.size = A at hD ⊢
  have hA : ∀ q : Nat, s.heap.size ≤ q → A q := fun q h => by rw [← hAe]; exact Or.inr h
  have hS : va_S A s.heap s.heap [] := va_S.rf
  clear hAe hD0
  have hP : va_P (dC, dI) vwCl [(h0, .inr (6, [.ref t0, t1, t2, t3, t4])), (t0, .inl (kt0, 10, .inl fr)), (p1, .inr (1, [w0, .ref b1, w2, .ref b3, w4, w5, .int (nI cn), .int bb])), (b1, .inl (kb1, 10, .inl fle)), (b3, .inl (kb3, 100, .inl fli)), (p3, .inr (0, [.ref e0, z1, z2])), (e0, .inl (ke0, 8, .inl fo))] s.heap := hP
  have hl := lv_entry ([.ref h0, .ref p1, .ref p3]) (n := 5) (Nat.le_of_ble_eq_true rfl)
  rw [lg_entry_eq]
  generalize (lg_sl ([.ref h0, .ref p1, .ref p3]) ++ List.replicate (5 - (lg_sl ([.ref h0, .ref p1, .ref p3])).length) Slot.unset).toArray = ls at hl ⊢
  have hl : lv_has ls 5 [(0, .ref h0), (1, .ref p1), (2, .ref p3)] := hl
  refine lv_iconst (v := 0) hx hb dX7_fill_0 (by decide) ?_
  refine lv_istore_n (lv' := [(3, .int 0), (0, .ref h0), (1, .ref p1), (2, .ref p3)]) hx hb dX7_fill_1 rfl hl (by decide) rfl (fun ls hl => ?_)
  have key_1 : ∀ (fu : Nat) (k : Nat) (frx : Nat → Int32), (k ≤ 10) → (∀ i, i < k → frx i = (rowC fle fli fo cn bb) i) → 10 - k < fu → ∀ (H : Heap) (locs : List Loc), va_P (dC, dI) vwCl [(h0, .inr (6, [.ref t0, t1, t2, t3, t4])), (t0, .inl (kt0, 10, .inl frx)), (p1, .inr (1, [w0, .ref b1, w2, .ref b3, w4, w5, .int (nI cn), .int bb])), (b1, .inl (kb1, 10, .inl fle)), (b3, .inl (kb3, 100, .inl fli)), (p3, .inr (0, [.ref e0, z1, z2])), (e0, .inl (ke0, 8, .inl fo))] H → va_D A [(h0, .inr (6, [.ref t0, t1, t2, t3, t4])), (t0, .inl (kt0, 10, .inl frx)), (p1, .inr (1, [w0, .ref b1, w2, .ref b3, w4, w5, .int (nI cn), .int bb])), (b1, .inl (kb1, 10, .inl fle)), (b3, .inl (kb3, 100, .inl fli)), (p3, .inr (0, [.ref e0, z1, z2])), (e0, .inl (ke0, 8, .inl fo))] → va_S A s.heap H locs → ∀ (ls : Array Slot), lv_has ls 5 [(3, .int (nI k)), (0, .ref h0), (1, .ref p1), (2, .ref p3)] → W p l e (headSpec (wq yX7_fill cX7_fill 5 none) ({ frames := 4, cells := 0, slots := 0, locals := 90 })).room s m (([.ref h0, .ref p1, .ref p3] : List Value)).toArray below meth c H locs 0 0 (MQ below (va_Qv (fun _ : Unit => True) (fun _ t => ∃ (fr2 : Nat → Int32), (∀ k, k < 10 → fr2 k = (rowC fle fli fo cn bb) k) ∧ va_P (dC, dI) vwCl [(h0, .inr (6, [.ref t0, t1, t2, t3, t4])), (t0, .inl (kt0, 10, .inl fr2)), (p1, .inr (1, [w0, .ref b1, w2, .ref b3, w4, w5, .int (nI cn), .int bb])), (b1, .inl (kb1, 10, .inl fle)), (b3, .inl (kb3, 100, .inl fli)), (p3, .inr (0, [.ref e0, z1, z2])), (e0, .inl (ke0, 8, .inl fo))] t.heap ∧ va_K (dC, dI) vwCl [(kt0, .int), (kb1, .int), (kb3, .int), (ke0, .int)] t ∧ va_D A [(h0, .inr (6, [.ref t0, t1, t2, t3, t4])), (t0, .inl (kt0, 10, .inl fr2)), (p1, .inr (1, [w0, .ref b1, w2, .ref b3, w4, w5, .int (nI cn), .int bb])), (b1, .inl (kb1, 10, .inl fle)), (b3, .inl (kb3, 100, .inl fli)), (p3, .inr (0, [.ref e0, z1, z2])), (e0, .inl (ke0, 8, .inl fo))]) A) (([.ref h0, .ref p1, .ref p3] : List Value)).toArray s 0 0 A) (F0 m 2 ls []) := by
    intro fu
    induction fu with
    | zero => intro k frx hk hro hme; exact absurd hme (Nat.not_lt_zero _)
    | succ fu ih_2 =>
      intro k frx hk hro hme H locs hP hD hS ls hl
      refine lv_iload_n hx hb dX7_fill_2 rfl (lv_at hl 0 rfl) ?_
      refine lv_bipush (v := 10) hx hb dX7_fill_3 (by decide) ?_
      refine lv_icmp_ge (tgt := 78) hx hb dX7_fill_5 (by decide) (fun c_3 => ?_) (fun c_3 => ?_)
      · have b_4 := gx_ge (X := ((k : Nat) : Int)) (C := 10) (nI_toInt (by omega)) (by decide) c_3
        have hP9 := hP.sub (ws' := [(h0, .inr (6, [.ref t0, t1, t2, t3, t4])), (t0, .inl (kt0, 10, .inl frx)), (p1, .inr (1, [w0, .ref b1, w2, .ref b3, w4, w5, .int (nI cn), .int bb])), (b1, .inl (kb1, 10, .inl fle)), (b3, .inl (kb3, 100, .inl fli)), (p3, .inr (0, [.ref e0, z1, z2])), (e0, .inl (ke0, 8, .inl fo))]) [0, 1, 2, 3, 4, 5, 6] rfl
        have hD9 := hD.sub (ws' := [(h0, .inr (6, [.ref t0, t1, t2, t3, t4])), (t0, .inl (kt0, 10, .inl frx)), (p1, .inr (1, [w0, .ref b1, w2, .ref b3, w4, w5, .int (nI cn), .int bb])), (b1, .inl (kb1, 10, .inl fle)), (b3, .inl (kb3, 100, .inl fli)), (p3, .inr (0, [.ref e0, z1, z2])), (e0, .inl (ke0, 8, .inl fo))]) [0, 1, 2, 3, 4, 5, 6] (by decide) rfl
        have hK9 := hK.sub (tys' := [(kt0, .int), (kb1, .int), (kb3, .int), (ke0, .int)]) [0, 1, 2, 3] rfl
        exact W.vret hx hb hr (fun t ht hW => ⟨⟨(), rfl, trivial, frx, (fun k9 h9 => hro k9 (by omega)), by rw [ht]; exact hP9, va_K.moved hW.alike hK9, hD9⟩, hS.F ht⟩) hS.2.2 dX7_fill_78
      · have b_4 := gn_ge (X := ((k : Nat) : Int)) (C := 10) (nI_toInt (by omega)) (by decide) c_3
        refine lv_aload_n hx hb dX7_fill_8 rfl (lv_at hl 1 rfl) ?_
        refine va_get (D := (dC, dI)) (ci := 6) (v := .ref t0) (C := RX7) (T := TX7) (N := 5) hx hb hts inB_7 hown hK hP 0 rfl rfl 0 (by decide) (hts _ mw_1_127) (fun _ h9 => h9) rfl dX7_fill_9 ?_
        refine lv_iload_n hx hb dX7_fill_12 rfl (lv_at hl 0 rfl) ?_
        refine lv_iconst (v := 0) hx hb dX7_fill_13 (by decide) ?_
        refine va_iast hx hb hK hP hD hS 1 0 rfl rfl (show vp_in (nI k) 10 from vp_in_nI (by omega) (by omega)) dX7_fill_14 (fun H locs hP hD hS => ?_)
        obtain ⟨f_5, ef_5⟩ : ∃ g : Nat → Int32, g = upd frx (Int32.toNatClampNeg (nI k)) 0 := ⟨_, rfl⟩
        rw [← ef_5] at hP hD
        have ef_5 : f_5 = upd frx k 0 := by rw [ef_5, nI_clamp (by omega)]
        have hP : va_P (dC, dI) vwCl [(h0, .inr (6, [.ref t0, t1, t2, t3, t4])), (t0, .inl (kt0, 10, .inl f_5)), (p1, .inr (1, [w0, .ref b1, w2, .ref b3, w4, w5, .int (nI cn), .int bb])), (b1, .inl (kb1, 10, .inl fle)), (b3, .inl (kb3, 100, .inl fli)), (p3, .inr (0, [.ref e0, z1, z2])), (e0, .inl (ke0, 8, .inl fo))] H := hP
        have hD : va_D A [(h0, .inr (6, [.ref t0, t1, t2, t3, t4])), (t0, .inl (kt0, 10, .inl f_5)), (p1, .inr (1, [w0, .ref b1, w2, .ref b3, w4, w5, .int (nI cn), .int bb])), (b1, .inl (kb1, 10, .inl fle)), (b3, .inl (kb3, 100, .inl fli)), (p3, .inr (0, [.ref e0, z1, z2])), (e0, .inl (ke0, 8, .inl fo))] := hD
        refine lv_aload_n hx hb dX7_fill_15 rfl (lv_at hl 2 rfl) ?_
        refine lv_iload_n hx hb dX7_fill_16 rfl (lv_at hl 0 rfl) ?_
        have hPc := hP.sub (ws' := [(p1, .inr (1, [w0, .ref b1, w2, .ref b3, w4, w5, .int (nI cn), .int bb])), (b1, .inl (kb1, 10, .inl fle))]) [2, 3] rfl
        have hDc := hD.sub (ws' := [(p1, .inr (1, [w0, .ref b1, w2, .ref b3, w4, w5, .int (nI cn), .int bb])), (b1, .inl (kb1, 10, .inl fle))]) [2, 3] (by decide) rfl
        have hKc := hK.sub (tys' := [(kb1, .int)]) [1] rfl
        refine va_calli (va_runV (As := [.int (nI k)]) (rest := []) ⟨hx, hb, hml, hown, hts⟩ (c_hasRow l dC dI H.size p1 (w0) b1 (w2) (.ref b3) (w4) (w5) cn bb kb1 fle k hc hle (by omega)) (cwV 1 hts (gV mw_3_10 mw_3_11 mw_3_12 mw_1_2 mw_3_13) rfl rfl rfl (by decide +kernel) ⟨Nat.le_of_ble_eq_true rfl, Nat.le_of_ble_eq_true rfl⟩) ⟨pcW_blind, va_recv hKc hPc (ci := 1) (q0 := 0) rfl rfl, pcW_at hPc hKc hDc hN⟩ rfl rfl hl.1 rfl (lv_room (Nat.le_of_ble_eq_true rfl)) dX7_fill_17 ⟨Nat.le_of_ble_eq_true rfl, Nat.le_of_ble_eq_true rfl⟩) hS (fun q h1 h2 => absurd h2 (Nat.not_le.mpr h1)) (fun q h => hA q (Nat.le_trans hS.1 h)) (fun r_6 u t H1 locs ht hvm hw_6 hB hz1 hk1 hS => ?_)
        have hP := keepP hP hk1
        clear hz1 hk1 hB ht hvm hPc hDc hKc
        generalize H1 = H at hP hS ⊢
        rcases fx_bool hw_6 with ⟨rfl, b_7⟩ | ⟨rfl, b_7⟩
        · skip
          refine lv_if_ne (tgt := 26) hx hb dX7_fill_20 (by decide) (fun _ => ?_) (fun h => absurd h (by decide))
          have kb9 := lenN_pos b_7.1
          rw [nI_toInt (by omega)] at kb9
          refine lv_iconst (v := 0) hx hb dX7_fill_26 (by decide) ?_
          refine lv_istore (lv' := [(4, .int 0), (3, .int (nI k)), (0, .ref h0), (1, .ref p1), (2, .ref p3)]) hx hb dX7_fill_27 hl (by decide) rfl (fun ls hl => ?_)
          have key_8 : ∀ (fu : Nat) (j : Nat) (fry : Nat → Int32), (j ≤ 8) → (fry = upd frx k (bitsF (fun n => decide (¬ ansF fle fli cn k (fo n) 0 = -6)) j)) → 8 - j < fu → ∀ (H : Heap) (locs : List Loc), va_P (dC, dI) vwCl [(h0, .inr (6, [.ref t0, t1, t2, t3, t4])), (t0, .inl (kt0, 10, .inl fry)), (p1, .inr (1, [w0, .ref b1, w2, .ref b3, w4, w5, .int (nI cn), .int bb])), (b1, .inl (kb1, 10, .inl fle)), (b3, .inl (kb3, 100, .inl fli)), (p3, .inr (0, [.ref e0, z1, z2])), (e0, .inl (ke0, 8, .inl fo))] H → va_D A [(h0, .inr (6, [.ref t0, t1, t2, t3, t4])), (t0, .inl (kt0, 10, .inl fry)), (p1, .inr (1, [w0, .ref b1, w2, .ref b3, w4, w5, .int (nI cn), .int bb])), (b1, .inl (kb1, 10, .inl fle)), (b3, .inl (kb3, 100, .inl fli)), (p3, .inr (0, [.ref e0, z1, z2])), (e0, .inl (ke0, 8, .inl fo))] → va_S A s.heap H locs → ∀ (ls : Array Slot), lv_has ls 5 [(4, .int (nI j)), (3, .int (nI k)), (0, .ref h0), (1, .ref p1), (2, .ref p3)] → W p l e (headSpec (wq yX7_fill cX7_fill 5 none) ({ frames := 4, cells := 0, slots := 0, locals := 90 })).room s m (([.ref h0, .ref p1, .ref p3] : List Value)).toArray below meth c H locs 0 0 (MQ below (va_Qv (fun _ : Unit => True) (fun _ t => ∃ (fr2 : Nat → Int32), (∀ k, k < 10 → fr2 k = (rowC fle fli fo cn bb) k) ∧ va_P (dC, dI) vwCl [(h0, .inr (6, [.ref t0, t1, t2, t3, t4])), (t0, .inl (kt0, 10, .inl fr2)), (p1, .inr (1, [w0, .ref b1, w2, .ref b3, w4, w5, .int (nI cn), .int bb])), (b1, .inl (kb1, 10, .inl fle)), (b3, .inl (kb3, 100, .inl fli)), (p3, .inr (0, [.ref e0, z1, z2])), (e0, .inl (ke0, 8, .inl fo))] t.heap ∧ va_K (dC, dI) vwCl [(kt0, .int), (kb1, .int), (kb3, .int), (ke0, .int)] t ∧ va_D A [(h0, .inr (6, [.ref t0, t1, t2, t3, t4])), (t0, .inl (kt0, 10, .inl fr2)), (p1, .inr (1, [w0, .ref b1, w2, .ref b3, w4, w5, .int (nI cn), .int bb])), (b1, .inl (kb1, 10, .inl fle)), (b3, .inl (kb3, 100, .inl fli)), (p3, .inr (0, [.ref e0, z1, z2])), (e0, .inl (ke0, 8, .inl fo))]) A) (([.ref h0, .ref p1, .ref p3] : List Value)).toArray s 0 0 A) (F0 m 29 ls []) := by
            intro fu
            induction fu with
            | zero => intro j fry hj hrk hme; exact absurd hme (Nat.not_lt_zero _)
            | succ fu ih_9 =>
              intro j fry hj hrk hme H locs hP hD hS ls hl
              refine lv_iload hx hb dX7_fill_29 (lv_at hl 0 rfl) ?_
              refine lv_bipush (v := 8) hx hb dX7_fill_31 (by decide) ?_
              refine lv_icmp_ge (tgt := 72) hx hb dX7_fill_33 (by decide) (fun c_10 => ?_) (fun c_10 => ?_)
              · have b_11 := gx_ge (X := ((j : Nat) : Int)) (C := 8) (nI_toInt (by omega)) (by decide) c_10
                refine lv_iinc (v := (nI (k + 1))) (lv' := [(3, .int (nI (k + 1))), (4, .int (nI j)), (0, .ref h0), (1, .ref p1), (2, .ref p3)]) hx hb dX7_fill_72 hl (k := 1) rfl (nI_add k 1) (by decide) rfl (fun ls hl => ?_)
                refine lv_goto (tgt := 2) hx hb dX7_fill_75 (by decide) ?_
                exact ih_2 (k + 1) fry (by omega) (ro_set hro hrk (by rw [show j = 8 from (by omega)]; exact (if_pos b_7).symm)) (by omega) _ _ hP hD hS ls (lv_sub hl [0, 2, 3, 4] rfl)
              · have b_11 := gn_ge (X := ((j : Nat) : Int)) (C := 8) (nI_toInt (by omega)) (by decide) c_10
                refine lv_aload_n hx hb dX7_fill_36 rfl (lv_at hl 3 rfl) ?_
                refine lv_iload_n hx hb dX7_fill_37 rfl (lv_at hl 1 rfl) ?_
                refine lv_aload_n hx hb dX7_fill_38 rfl (lv_at hl 4 rfl) ?_
                refine lv_iload hx hb dX7_fill_39 (lv_at hl 0 rfl) ?_
                have hPc := hP.sub (ws' := [(p3, .inr (0, [.ref e0, z1, z2])), (e0, .inl (ke0, 8, .inl fo))]) [5, 6] rfl
                have hDc := hD.sub (ws' := [(p3, .inr (0, [.ref e0, z1, z2])), (e0, .inl (ke0, 8, .inl fo))]) [5, 6] (by decide) rfl
                have hKc := hK.sub (tys' := [(ke0, .int)]) [3] rfl
                refine va_calli (va_runV (As := [.int (nI j)]) (rest := [.int (nI k), .ref p1]) ⟨hx, hb, hml, hown, hts⟩ (c_own l dC dI H.size p3 e0 (z1) (z2) ke0 fo j (by omega)) (cwV 1 hts (gV mw_3_15 mw_2_105 mw_2_106 mw_1_5 mw_2_107) rfl rfl rfl (by decide +kernel) ⟨Nat.le_of_ble_eq_true rfl, Nat.le_of_ble_eq_true rfl⟩) ⟨pcW_blind, va_recv hKc hPc (ci := 0) (q0 := 0) rfl rfl, pcW_at hPc hKc hDc hN⟩ rfl rfl hl.1 rfl (lv_room (Nat.le_of_ble_eq_true rfl)) dX7_fill_41 ⟨Nat.le_of_ble_eq_true rfl, Nat.le_of_ble_eq_true rfl⟩) hS (fun q h1 h2 => absurd h2 (Nat.not_le.mpr h1)) (fun q h => hA q (Nat.le_trans hS.1 h)) (fun r_12 u t H1 locs ht hvm hw_12 hB hz1 hk1 hS => ?_)
                have hP := keepP hP hk1
                clear hz1 hk1 hB ht hvm hPc hDc hKc
                generalize H1 = H at hP hS ⊢
                obtain rfl : r_12 = (fo j) := hw_12
                refine lv_iconst (v := 0) hx hb dX7_fill_44 (by decide) ?_
                have hPc := hP.sub (ws' := [(p1, .inr (1, [w0, .ref b1, w2, .ref b3, w4, w5, .int (nI cn), .int bb])), (b1, .inl (kb1, 10, .inl fle)), (b3, .inl (kb3, 100, .inl fli))]) [2, 3, 4] rfl
                have hDc := hD.sub (ws' := [(p1, .inr (1, [w0, .ref b1, w2, .ref b3, w4, w5, .int (nI cn), .int bb])), (b1, .inl (kb1, 10, .inl fle)), (b3, .inl (kb3, 100, .inl fli))]) [2, 3, 4] (by decide) rfl
                have hKc := hK.sub (tys' := [(kb1, .int), (kb3, .int)]) [1, 2] rfl
                refine va_calli (va_runV (As := [.int (nI k), .int (fo j), .int 0]) (rest := []) ⟨hx, hb, hml, hown, hts⟩ (c_firstOf l dC dI H.size p1 (w0) b1 (w2) b3 (w4) (w5) cn (.int bb) kb1 fle kb3 fli k (fo j) 0 hc hle hlk (by omega) (by omega)) (cwV 3 hts (gV mw_3_16 mw_2_142 mw_2_143 mw_1_2 mw_2_144) rfl rfl rfl (by decide +kernel) ⟨Nat.le_of_ble_eq_true rfl, Nat.le_of_ble_eq_true rfl⟩) ⟨pcW_blind, va_recv hKc hPc (ci := 1) (q0 := 0) rfl rfl, pcW_at hPc hKc hDc hN⟩ rfl rfl hl.1 rfl (lv_room (Nat.le_of_ble_eq_true rfl)) dX7_fill_45 ⟨Nat.le_of_ble_eq_true rfl, Nat.le_of_ble_eq_true rfl⟩) hS (fun q h1 h2 => absurd h2 (Nat.not_le.mpr h1)) (fun q h => hA q (Nat.le_trans hS.1 h)) (fun r_13 u t H1 locs ht hvm hw_13 hB hz1 hk1 hS => ?_)
                have hP := keepP hP hk1
                clear hz1 hk1 hB ht hvm hPc hDc hKc
                generalize H1 = H at hP hS ⊢
                refine lv_bipush (v := (-6)) hx hb dX7_fill_48 (by decide) ?_
                refine lv_icmp_eq (tgt := 66) hx hb dX7_fill_50 (by decide) (fun c_14 => ?_) (fun c_14 => ?_)
                · have b_15 := gx_eq (X := (Int32.toInt r_13)) (C := (-6)) rfl (by decide) c_14
                  refine lv_iinc (v := (nI (j + 1))) (lv' := [(4, .int (nI (j + 1))), (3, .int (nI k)), (0, .ref h0), (1, .ref p1), (2, .ref p3)]) hx hb dX7_fill_66 hl (k := 0) rfl (nI_add j 1) (by decide) rfl (fun ls hl => ?_)
                  refine lv_goto (tgt := 29) hx hb dX7_fill_69 (by decide) ?_
                  exact ih_9 (j + 1) fry (by omega) (row_no hrk (decide_eq_false (fun q => q (by rw [← hw_13]; exact c_14)))) (by omega) _ _ hP hD hS ls (lv_sub hl [0, 1, 2, 3, 4] rfl)
                · have b_15 := gn_eq (X := (Int32.toInt r_13)) (C := (-6)) rfl (by decide) c_14
                  refine lv_aload_n hx hb dX7_fill_53 rfl (lv_at hl 2 rfl) ?_
                  refine va_get (D := (dC, dI)) (ci := 6) (v := .ref t0) (C := RX7) (T := TX7) (N := 5) hx hb hts inB_7 hown hK hP 0 rfl rfl 0 (by decide) (hts _ mw_1_127) (fun _ h9 => h9) rfl dX7_fill_54 ?_
                  refine lv_iload_n hx hb dX7_fill_57 rfl (lv_at hl 1 rfl) ?_
                  refine lv_dup2_11 hx hb dX7_fill_58 rfl rfl ?_
                  refine va_iald hx hb hK hP 1 0 rfl rfl (show vp_in (nI k) 10 from vp_in_nI (by omega) (by omega)) dX7_fill_59 ?_
                  refine hx_top (y := (fry k)) (congrArg _ (nI_clamp (by omega))) ?_
                  refine lv_iconst (v := 1) hx hb dX7_fill_60 (by decide) ?_
                  refine lv_iload hx hb dX7_fill_61 (lv_at hl 0 rfl) ?_
                  refine lv_ishl hx hb dX7_fill_63 ?_
                  refine lv_ior hx hb dX7_fill_64 ?_
                  refine va_iast hx hb hK hP hD hS 1 0 rfl rfl (show vp_in (nI k) 10 from vp_in_nI (by omega) (by omega)) dX7_fill_65 (fun H locs hP hD hS => ?_)
                  obtain ⟨f_16, ef_16⟩ : ∃ g : Nat → Int32, g = upd fry (Int32.toNatClampNeg (nI k)) ((fry k) ||| (1 <<< ((nI j) &&& 31))) := ⟨_, rfl⟩
                  rw [← ef_16] at hP hD
                  have ef_16 : f_16 = upd fry k ((fry k) ||| (1 <<< ((nI j) &&& 31))) := by rw [ef_16, nI_clamp (by omega)]
                  have hP : va_P (dC, dI) vwCl [(h0, .inr (6, [.ref t0, t1, t2, t3, t4])), (t0, .inl (kt0, 10, .inl f_16)), (p1, .inr (1, [w0, .ref b1, w2, .ref b3, w4, w5, .int (nI cn), .int bb])), (b1, .inl (kb1, 10, .inl fle)), (b3, .inl (kb3, 100, .inl fli)), (p3, .inr (0, [.ref e0, z1, z2])), (e0, .inl (ke0, 8, .inl fo))] H := hP
                  have hD : va_D A [(h0, .inr (6, [.ref t0, t1, t2, t3, t4])), (t0, .inl (kt0, 10, .inl f_16)), (p1, .inr (1, [w0, .ref b1, w2, .ref b3, w4, w5, .int (nI cn), .int bb])), (b1, .inl (kb1, 10, .inl fle)), (b3, .inl (kb3, 100, .inl fli)), (p3, .inr (0, [.ref e0, z1, z2])), (e0, .inl (ke0, 8, .inl fo))] := hD
                  refine lv_iinc (v := (nI (j + 1))) (lv' := [(4, .int (nI (j + 1))), (3, .int (nI k)), (0, .ref h0), (1, .ref p1), (2, .ref p3)]) hx hb dX7_fill_66 hl (k := 0) rfl (nI_add j 1) (by decide) rfl (fun ls hl => ?_)
                  refine lv_goto (tgt := 29) hx hb dX7_fill_69 (by decide) ?_
                  exact ih_9 (j + 1) f_16 (by omega) (row_bit hrk (decide_eq_true (by rw [← hw_13]; exact c_14)) ef_16) (by omega) _ _ hP hD hS ls (lv_sub hl [0, 1, 2, 3, 4] rfl)
          exact key_8 ((8 - 0) + 1) 0 f_5 (by omega) ef_5 (Nat.lt_succ_self _) _ _ hP hD hS ls (lv_sub hl [0, 1, 2, 3, 4] rfl)
        · skip
          refine lv_if_ne (tgt := 26) hx hb dX7_fill_20 (by decide) (fun h => absurd h (by decide)) (fun _ => ?_)
          refine lv_goto (tgt := 72) hx hb dX7_fill_23 (by decide) ?_
          refine lv_iinc (v := (nI (k + 1))) (lv' := [(3, .int (nI (k + 1))), (0, .ref h0), (1, .ref p1), (2, .ref p3)]) hx hb dX7_fill_72 hl (k := 0) rfl (nI_add k 1) (by decide) rfl (fun ls hl => ?_)
          refine lv_goto (tgt := 2) hx hb dX7_fill_75 (by decide) ?_
          exact ih_2 (k + 1) f_5 (by omega) (ro_set hro ef_5 (if_neg b_7).symm) (by omega) _ _ hP hD hS ls (lv_sub hl [0, 1, 2, 3] rfl)
  exact key_1 ((10 - 0) + 1) 0 fr (by omega) (fun i h => absurd h (Nat.not_lt_zero i)) (Nat.lt_succ_self _) _ _ hP hD hS ls (lv_sub hl [0, 1, 2, 3] rfl)
set_option maxHeartbeats 4000000 in
set_option maxRecDepth 100000 in
theorem c_findT (l : Launch) (dC : Nat → ClassId) (dI : Nat → Nat → Nat) (sz : Nat) (h0 : Nat) (t0 : Nat) (t1 : Nat) (t2 : Value) (t3 : Value) (t4 : Value) (kt0 : ClassId) (fr : Nat → Int32) (kt1 : ClassId) (ft : Nat → Int32)  : Met l yX7_findTogether (wq yX7_findTogether cX7_findTogether 3 none) ({ frames := 1, cells := 0, slots := 0, locals := 21 }) (va_Pc [.ref h0] (pcW dC dI [(kt0, .int), (kt1, .int)] [(h0, .inr (6, [.ref t0, .ref t1, t2, t3, t4])), (t0, .inl (kt0, 10, .inl fr)), (t1, .inl (kt1, 8, .inl ft))] sz)) (va_Qv (fun _ : Unit => True) (fun _ t => ∃ (ft2 : Nat → Int32), (∀ i, i < 8 → ft2 i = tgF fr i 10) ∧ va_P (dC, dI) vwCl [(h0, .inr (6, [.ref t0, .ref t1, t2, t3, t4])), (t0, .inl (kt0, 10, .inl fr)), (t1, .inl (kt1, 8, .inl ft2))] t.heap ∧ va_K (dC, dI) vwCl [(kt0, .int), (kt1, .int)] t ∧ va_D (va_A [(h0, .inr (6, [.ref t0, .ref t1, t2, t3, t4])), (t0, .inl (kt0, 10, .inl fr)), (t1, .inl (kt1, 8, .inl ft))] sz) [(h0, .inr (6, [.ref t0, .ref t1, t2, t3, t4])), (t0, .inl (kt0, 10, .inl fr)), (t1, .inl (kt1, 8, .inl ft2))]) (va_A [(h0, .inr (6, [.ref t0, .ref t1, t2, t3, t4])), (t0, .inl (kt0, 10, .inl fr)), (t1, .inl (kt1, 8, .inl ft))] sz)) 0 0 (va_A [(h0, .inr (6, [.ref t0, .ref t1, t2, t3, t4])), (t0, .inl (kt0, 10, .inl fr)), (t1, .inl (kt1, 8, .inl ft))] sz) := by
  refine Met.ofW (cc := cX7_findTogether) (maxL := 3) (ret := none) (by decide) rfl ?_
  intro p e s m args below meth c s₁ B hml hv
  obtain ⟨rfl, hsz, hN, hP, hK, hD0⟩ := hv
  have hx := B.exec
  have hb := B.bytes
  have hr := B.returns
  have hts0 := atoms_spec (ws := (wq yX7_findTogether cX7_findTogether 3 none)) B.pre
  have hts : ∀ w ∈ BG, w.before _ s = true := fun w h => hts0 w (List.mem_cons_of_mem _ h)
  have hown : s.vm.findClass RX7 = some m.cls := findClass_of_methodNamed B.named
  have hlocks := B.notSynchronized
  subst hsz
  have hD := hD0.self (sz := s.heap.size)
  generalize hAe : va_A [(h0, .inr (6, [.ref t0, .ref t1, t2, t3, t4])), (t0, .inl (kt0, 10, .inl fr)), (t1, .inl (kt1, 8, .inl ft))] s.heap.size = A at hD ⊢
  have hA : ∀ q : Nat, s.heap.size ≤ q → A q := fun q h => by rw [← hAe]; exact Or.inr h
  have hS : va_S A s.heap s.heap [] := va_S.rf
  clear hAe hD0
  have hP : va_P (dC, dI) vwCl [(h0, .inr (6, [.ref t0, .ref t1, t2, t3, t4])), (t0, .inl (kt0, 10, .inl fr)), (t1, .inl (kt1, 8, .inl ft))] s.heap := hP
  have hl := lv_entry ([.ref h0]) (n := 3) (Nat.le_of_ble_eq_true rfl)
  rw [lg_entry_eq]
  generalize (lg_sl ([.ref h0]) ++ List.replicate (3 - (lg_sl ([.ref h0])).length) Slot.unset).toArray = ls at hl ⊢
  have hl : lv_has ls 3 [(0, .ref h0)] := hl
  refine lv_iconst (v := 0) hx hb dX7_findTogether_0 (by decide) ?_
  refine lv_istore_n (lv' := [(1, .int 0), (0, .ref h0)]) hx hb dX7_findTogether_1 rfl hl (by decide) rfl (fun ls hl => ?_)
  have key_1 : ∀ (fu : Nat) (k : Nat) (ftx : Nat → Int32), (k ≤ 8) → (∀ i, i < k → ftx i = tgF fr i 10) → 8 - k < fu → ∀ (H : Heap) (locs : List Loc), va_P (dC, dI) vwCl [(h0, .inr (6, [.ref t0, .ref t1, t2, t3, t4])), (t0, .inl (kt0, 10, .inl fr)), (t1, .inl (kt1, 8, .inl ftx))] H → va_D A [(h0, .inr (6, [.ref t0, .ref t1, t2, t3, t4])), (t0, .inl (kt0, 10, .inl fr)), (t1, .inl (kt1, 8, .inl ftx))] → va_S A s.heap H locs → ∀ (ls : Array Slot), lv_has ls 3 [(1, .int (nI k)), (0, .ref h0)] → W p l e (headSpec (wq yX7_findTogether cX7_findTogether 3 none) ({ frames := 1, cells := 0, slots := 0, locals := 21 })).room s m (([.ref h0] : List Value)).toArray below meth c H locs 0 0 (MQ below (va_Qv (fun _ : Unit => True) (fun _ t => ∃ (ft2 : Nat → Int32), (∀ i, i < 8 → ft2 i = tgF fr i 10) ∧ va_P (dC, dI) vwCl [(h0, .inr (6, [.ref t0, .ref t1, t2, t3, t4])), (t0, .inl (kt0, 10, .inl fr)), (t1, .inl (kt1, 8, .inl ft2))] t.heap ∧ va_K (dC, dI) vwCl [(kt0, .int), (kt1, .int)] t ∧ va_D A [(h0, .inr (6, [.ref t0, .ref t1, t2, t3, t4])), (t0, .inl (kt0, 10, .inl fr)), (t1, .inl (kt1, 8, .inl ft2))]) A) (([.ref h0] : List Value)).toArray s 0 0 A) (F0 m 2 ls []) := by
    intro fu
    induction fu with
    | zero => intro k ftx hk htg hme; exact absurd hme (Nat.not_lt_zero _)
    | succ fu ih_2 =>
      intro k ftx hk htg hme H locs hP hD hS ls hl
      refine lv_iload_n hx hb dX7_findTogether_2 rfl (lv_at hl 0 rfl) ?_
      refine lv_bipush (v := 8) hx hb dX7_findTogether_3 (by decide) ?_
      refine lv_icmp_ge (tgt := 63) hx hb dX7_findTogether_5 (by decide) (fun c_3 => ?_) (fun c_3 => ?_)
      · have b_4 := gx_ge (X := ((k : Nat) : Int)) (C := 8) (nI_toInt (by omega)) (by decide) c_3
        have hP9 := hP.sub (ws' := [(h0, .inr (6, [.ref t0, .ref t1, t2, t3, t4])), (t0, .inl (kt0, 10, .inl fr)), (t1, .inl (kt1, 8, .inl ftx))]) [0, 1, 2] rfl
        have hD9 := hD.sub (ws' := [(h0, .inr (6, [.ref t0, .ref t1, t2, t3, t4])), (t0, .inl (kt0, 10, .inl fr)), (t1, .inl (kt1, 8, .inl ftx))]) [0, 1, 2] (by decide) rfl
        have hK9 := hK.sub (tys' := [(kt0, .int), (kt1, .int)]) [0, 1] rfl
        exact W.vret hx hb hr (fun t ht hW => ⟨⟨(), rfl, trivial, ftx, (fun i9 h9 => htg i9 (by omega)), by rw [ht]; exact hP9, va_K.moved hW.alike hK9, hD9⟩, hS.F ht⟩) hS.2.2 dX7_findTogether_63
      · have b_4 := gn_ge (X := ((k : Nat) : Int)) (C := 8) (nI_toInt (by omega)) (by decide) c_3
        refine lv_aload_n hx hb dX7_findTogether_8 rfl (lv_at hl 1 rfl) ?_
        refine va_get (D := (dC, dI)) (ci := 6) (v := .ref t1) (C := RX7) (T := TX7) (N := 5) hx hb hts inB_7 hown hK hP 0 rfl rfl 1 (by decide) (hts _ mw_1_128) (fun _ h9 => h9) rfl dX7_findTogether_9 ?_
        refine lv_iload_n hx hb dX7_findTogether_12 rfl (lv_at hl 0 rfl) ?_
        refine lv_iconst (v := 0) hx hb dX7_findTogether_13 (by decide) ?_
        refine va_iast hx hb hK hP hD hS 2 1 rfl rfl (show vp_in (nI k) 8 from vp_in_nI (by omega) (by omega)) dX7_findTogether_14 (fun H locs hP hD hS => ?_)
        obtain ⟨f_5, ef_5⟩ : ∃ g : Nat → Int32, g = upd ftx (Int32.toNatClampNeg (nI k)) 0 := ⟨_, rfl⟩
        rw [← ef_5] at hP hD
        have ef_5 : f_5 = upd ftx k 0 := by rw [ef_5, nI_clamp (by omega)]
        have hP : va_P (dC, dI) vwCl [(h0, .inr (6, [.ref t0, .ref t1, t2, t3, t4])), (t0, .inl (kt0, 10, .inl fr)), (t1, .inl (kt1, 8, .inl f_5))] H := hP
        have hD : va_D A [(h0, .inr (6, [.ref t0, .ref t1, t2, t3, t4])), (t0, .inl (kt0, 10, .inl fr)), (t1, .inl (kt1, 8, .inl f_5))] := hD
        refine lv_iconst (v := 0) hx hb dX7_findTogether_15 (by decide) ?_
        refine lv_istore_n (lv' := [(2, .int 0), (1, .int (nI k)), (0, .ref h0)]) hx hb dX7_findTogether_16 rfl hl (by decide) rfl (fun ls hl => ?_)
        have key_6 : ∀ (fu : Nat) (j : Nat) (fty : Nat → Int32), (j ≤ 10) → (fty = upd ftx k (tgF fr k j)) → 10 - j < fu → ∀ (H : Heap) (locs : List Loc), va_P (dC, dI) vwCl [(h0, .inr (6, [.ref t0, .ref t1, t2, t3, t4])), (t0, .inl (kt0, 10, .inl fr)), (t1, .inl (kt1, 8, .inl fty))] H → va_D A [(h0, .inr (6, [.ref t0, .ref t1, t2, t3, t4])), (t0, .inl (kt0, 10, .inl fr)), (t1, .inl (kt1, 8, .inl fty))] → va_S A s.heap H locs → ∀ (ls : Array Slot), lv_has ls 3 [(2, .int (nI j)), (1, .int (nI k)), (0, .ref h0)] → W p l e (headSpec (wq yX7_findTogether cX7_findTogether 3 none) ({ frames := 1, cells := 0, slots := 0, locals := 21 })).room s m (([.ref h0] : List Value)).toArray below meth c H locs 0 0 (MQ below (va_Qv (fun _ : Unit => True) (fun _ t => ∃ (ft2 : Nat → Int32), (∀ i, i < 8 → ft2 i = tgF fr i 10) ∧ va_P (dC, dI) vwCl [(h0, .inr (6, [.ref t0, .ref t1, t2, t3, t4])), (t0, .inl (kt0, 10, .inl fr)), (t1, .inl (kt1, 8, .inl ft2))] t.heap ∧ va_K (dC, dI) vwCl [(kt0, .int), (kt1, .int)] t ∧ va_D A [(h0, .inr (6, [.ref t0, .ref t1, t2, t3, t4])), (t0, .inl (kt0, 10, .inl fr)), (t1, .inl (kt1, 8, .inl ft2))]) A) (([.ref h0] : List Value)).toArray s 0 0 A) (F0 m 17 ls []) := by
          intro fu
          induction fu with
          | zero => intro j fty hj hty hme; exact absurd hme (Nat.not_lt_zero _)
          | succ fu ih_7 =>
            intro j fty hj hty hme H locs hP hD hS ls hl
            refine lv_iload_n hx hb dX7_findTogether_17 rfl (lv_at hl 0 rfl) ?_
            refine lv_bipush (v := 10) hx hb dX7_findTogether_18 (by decide) ?_
            refine lv_icmp_ge (tgt := 57) hx hb dX7_findTogether_20 (by decide) (fun c_8 => ?_) (fun c_8 => ?_)
            · have b_9 := gx_ge (X := ((j : Nat) : Int)) (C := 10) (nI_toInt (by omega)) (by decide) c_8
              refine lv_iinc (v := (nI (k + 1))) (lv' := [(1, .int (nI (k + 1))), (2, .int (nI j)), (0, .ref h0)]) hx hb dX7_findTogether_57 hl (k := 1) rfl (nI_add k 1) (by decide) rfl (fun ls hl => ?_)
              refine lv_goto (tgt := 2) hx hb dX7_findTogether_60 (by decide) ?_
              exact ih_2 (k + 1) fty (by omega) (tg_set htg hty (by omega)) (by omega) _ _ hP hD hS ls (lv_sub hl [0, 2] rfl)
            · have b_9 := gn_ge (X := ((j : Nat) : Int)) (C := 10) (nI_toInt (by omega)) (by decide) c_8
              refine lv_iload_n hx hb dX7_findTogether_23 rfl (lv_at hl 1 rfl) ?_
              refine lv_aload_n hx hb dX7_findTogether_24 rfl (lv_at hl 2 rfl) ?_
              refine va_get (D := (dC, dI)) (ci := 6) (v := .ref t0) (C := RX7) (T := TX7) (N := 5) hx hb hts inB_7 hown hK hP 0 rfl rfl 0 (by decide) (hts _ mw_1_127) (fun _ h9 => h9) rfl dX7_findTogether_25 ?_
              refine lv_iload_n hx hb dX7_findTogether_28 rfl (lv_at hl 0 rfl) ?_
              refine va_iald hx hb hK hP 1 0 rfl rfl (show vp_in (nI j) 10 from vp_in_nI (by omega) (by omega)) dX7_findTogether_29 ?_
              refine hx_top (y := (fr j)) (congrArg _ (nI_clamp (by omega))) ?_
              have hPc := hP.sub (ws' := []) [] rfl
              have hDc := hD.sub (ws' := []) [] (by decide) rfl
              have hKc := hK.sub (tys' := []) [] rfl
              refine va_calli (va_runSN (As := [.int (nI k), .int (fr j)]) (rest := []) ⟨hx, hb, hml, hown, hts⟩ (c_isIn l dC dI H.size (nI k) (fr j) ) ⟨va_cnB 2 hts (gN mw_2_15) rfl rfl rfl (hN (RX7, 62, yX8_isIn, RX8) (List.mem_of_getElem? (i := 11) rfl)) (hts _ mw_1_1) (by decide +kernel) ⟨Nat.le_of_ble_eq_true rfl, Nat.le_of_ble_eq_true rfl⟩, (hts _ mw_2_14), trivial⟩ ⟨pcW_blind, pcW_at hPc hKc hDc hN⟩ rfl rfl hl.1 rfl (lv_room (Nat.le_of_ble_eq_true rfl)) dX7_findTogether_30 ⟨Nat.le_of_ble_eq_true rfl, Nat.le_of_ble_eq_true rfl⟩) hS (fun q h1 h2 => absurd h2 (Nat.not_le.mpr h1)) (fun q h => hA q (Nat.le_trans hS.1 h)) (fun r_10 u t H1 locs ht hvm hw_10 hB hz1 hk1 hS => ?_)
              have hP := keepP hP hk1
              clear hz1 hk1 hB ht hvm hPc hDc hKc
              generalize H1 = H at hP hS ⊢
              rcases fx_bool hw_10 with ⟨rfl, b_11⟩ | ⟨rfl, b_11⟩
              · skip
                refine lv_if_eq (tgt := 51) hx hb dX7_findTogether_33 (by decide) (fun h => absurd h (by decide)) (fun _ => ?_)
                refine lv_aload_n hx hb dX7_findTogether_36 rfl (lv_at hl 2 rfl) ?_
                refine va_get (D := (dC, dI)) (ci := 6) (v := .ref t1) (C := RX7) (T := TX7) (N := 5) hx hb hts inB_7 hown hK hP 0 rfl rfl 1 (by decide) (hts _ mw_1_128) (fun _ h9 => h9) rfl dX7_findTogether_37 ?_
                refine lv_iload_n hx hb dX7_findTogether_40 rfl (lv_at hl 1 rfl) ?_
                refine lv_dup2_11 hx hb dX7_findTogether_41 rfl rfl ?_
                refine va_iald hx hb hK hP 2 1 rfl rfl (show vp_in (nI k) 8 from vp_in_nI (by omega) (by omega)) dX7_findTogether_42 ?_
                refine hx_top (y := (fty k)) (congrArg _ (nI_clamp (by omega))) ?_
                refine lv_aload_n hx hb dX7_findTogether_43 rfl (lv_at hl 2 rfl) ?_
                refine va_get (D := (dC, dI)) (ci := 6) (v := .ref t0) (C := RX7) (T := TX7) (N := 5) hx hb hts inB_7 hown hK hP 0 rfl rfl 0 (by decide) (hts _ mw_1_127) (fun _ h9 => h9) rfl dX7_findTogether_44 ?_
                refine lv_iload_n hx hb dX7_findTogether_47 rfl (lv_at hl 0 rfl) ?_
                refine va_iald hx hb hK hP 1 0 rfl rfl (show vp_in (nI j) 10 from vp_in_nI (by omega) (by omega)) dX7_findTogether_48 ?_
                refine hx_top (y := (fr j)) (congrArg _ (nI_clamp (by omega))) ?_
                refine lv_ior hx hb dX7_findTogether_49 ?_
                refine va_iast hx hb hK hP hD hS 2 1 rfl rfl (show vp_in (nI k) 8 from vp_in_nI (by omega) (by omega)) dX7_findTogether_50 (fun H locs hP hD hS => ?_)
                obtain ⟨f_12, ef_12⟩ : ∃ g : Nat → Int32, g = upd fty (Int32.toNatClampNeg (nI k)) ((fty k) ||| (fr j)) := ⟨_, rfl⟩
                rw [← ef_12] at hP hD
                have ef_12 : f_12 = upd fty k ((fty k) ||| (fr j)) := by rw [ef_12, nI_clamp (by omega)]
                have hP : va_P (dC, dI) vwCl [(h0, .inr (6, [.ref t0, .ref t1, t2, t3, t4])), (t0, .inl (kt0, 10, .inl fr)), (t1, .inl (kt1, 8, .inl f_12))] H := hP
                have hD : va_D A [(h0, .inr (6, [.ref t0, .ref t1, t2, t3, t4])), (t0, .inl (kt0, 10, .inl fr)), (t1, .inl (kt1, 8, .inl f_12))] := hD
                refine lv_iinc (v := (nI (j + 1))) (lv' := [(2, .int (nI (j + 1))), (1, .int (nI k)), (0, .ref h0)]) hx hb dX7_findTogether_51 hl (k := 0) rfl (nI_add j 1) (by decide) rfl (fun ls hl => ?_)
                refine lv_goto (tgt := 17) hx hb dX7_findTogether_54 (by decide) ?_
                exact ih_7 (j + 1) f_12 (by omega) (tg_yes hty (t_yes (by omega) b_11) ef_12) (by omega) _ _ hP hD hS ls (lv_sub hl [0, 1, 2] rfl)
              · skip
                refine lv_if_eq (tgt := 51) hx hb dX7_findTogether_33 (by decide) (fun _ => ?_) (fun h => absurd (by decide) h)
                refine lv_iinc (v := (nI (j + 1))) (lv' := [(2, .int (nI (j + 1))), (1, .int (nI k)), (0, .ref h0)]) hx hb dX7_findTogether_51 hl (k := 0) rfl (nI_add j 1) (by decide) rfl (fun ls hl => ?_)
                refine lv_goto (tgt := 17) hx hb dX7_findTogether_54 (by decide) ?_
                exact ih_7 (j + 1) fty (by omega) (tg_no hty (t_no (by omega) b_11)) (by omega) _ _ hP hD hS ls (lv_sub hl [0, 1, 2] rfl)
        exact key_6 ((10 - 0) + 1) 0 f_5 (by omega) ef_5 (Nat.lt_succ_self _) _ _ hP hD hS ls (lv_sub hl [0, 1, 2] rfl)
  exact key_1 ((8 - 0) + 1) 0 ft (by omega) (fun i h => absurd h (Nat.not_lt_zero i)) (Nat.lt_succ_self _) _ _ hP hD hS ls (lv_sub hl [0, 1] rfl)
set_option maxHeartbeats 4000000 in
set_option maxRecDepth 100000 in
theorem c_isFree (l : Launch) (dC : Nat → ClassId) (dI : Nat → Nat → Nat) (sz : Nat) (h0 : Nat) (t0 : Value) (t1 : Nat) (t2 : Nat) (t3 : Value) (t4 : Value) (kt1 : ClassId) (ft : Nat → Int32) (kt2 : ClassId) (fcl : Nat → Int32) (n : Int32) (nm : Nat) (hnm : nm < 8) : Met l yX7_isFree (wq yX7_isFree cX7_isFree 4 (some .boolean)) ({ frames := 1, cells := 0, slots := 0, locals := 21 }) (va_Pc [.ref h0, .int n, .int (nI nm)] (pcW dC dI [(kt1, .int), (kt2, .int)] [(h0, .inr (6, [t0, .ref t1, .ref t2, t3, t4])), (t1, .inl (kt1, 8, .inl ft)), (t2, .inl (kt2, 8, .inl fcl))] sz)) (va_Qi (fun (r : Int32) (_ : Unit) => (r = 1 ∧ ∀ o, o < nm → bt (ft nm) o = true → ¬ fcl o = n) ∨ (r = 0 ∧ ∃ o, o < nm ∧ bt (ft nm) o = true ∧ fcl o = n)) (fun _ _ => True) (fun q : Nat => sz ≤ q)) 0 0 (fun q : Nat => sz ≤ q) := by
  refine Met.ofW (cc := cX7_isFree) (maxL := 4) (ret := (some .boolean)) (by decide) rfl ?_
  intro p e s m args below meth c s₁ B hml hv
  obtain ⟨rfl, hsz, hN, hP, hK, hD0⟩ := hv
  have hx := B.exec
  have hb := B.bytes
  have hr := B.returns
  have hts0 := atoms_spec (ws := (wq yX7_isFree cX7_isFree 4 (some .boolean))) B.pre
  have hts : ∀ w ∈ BG, w.before _ s = true := fun w h => hts0 w (List.mem_cons_of_mem _ h)
  have hown : s.vm.findClass RX7 = some m.cls := findClass_of_methodNamed B.named
  have hlocks := B.notSynchronized
  subst hsz
  have hA : ∀ q : Nat, s.heap.size ≤ q → (fun q : Nat => s.heap.size ≤ q) q := fun _ h => h
  have hD := hD0
  have hS : va_S (fun q : Nat => s.heap.size ≤ q) s.heap s.heap [] := va_S.rf
  have hP : va_P (dC, dI) vwCl [(h0, .inr (6, [t0, .ref t1, .ref t2, t3, t4])), (t1, .inl (kt1, 8, .inl ft)), (t2, .inl (kt2, 8, .inl fcl))] s.heap := hP
  have hl := lv_entry ([.ref h0, .int n, .int (nI nm)]) (n := 4) (Nat.le_of_ble_eq_true rfl)
  rw [lg_entry_eq]
  generalize (lg_sl ([.ref h0, .int n, .int (nI nm)]) ++ List.replicate (4 - (lg_sl ([.ref h0, .int n, .int (nI nm)])).length) Slot.unset).toArray = ls at hl ⊢
  have hl : lv_has ls 4 [(0, .ref h0), (1, .int n), (2, .int (nI nm))] := hl
  refine lv_iconst (v := 0) hx hb dX7_isFree_0 (by decide) ?_
  refine lv_istore_n (lv' := [(3, .int 0), (0, .ref h0), (1, .int n), (2, .int (nI nm))]) hx hb dX7_isFree_1 rfl hl (by decide) rfl (fun ls hl => ?_)
  have key_1 : ∀ (fu : Nat) (k : Nat), (k ≤ 8) → (∀ o, o < k → bt (ft nm) o = true → ¬ fcl o = n) → 8 - k < fu → ∀ (H : Heap) (locs : List Loc), va_P (dC, dI) vwCl [(h0, .inr (6, [t0, .ref t1, .ref t2, t3, t4])), (t1, .inl (kt1, 8, .inl ft)), (t2, .inl (kt2, 8, .inl fcl))] H → va_S (fun q : Nat => s.heap.size ≤ q) s.heap H locs → ∀ (ls : Array Slot), lv_has ls 4 [(3, .int (nI k)), (0, .ref h0), (1, .int n), (2, .int (nI nm))] → W p l e (headSpec (wq yX7_isFree cX7_isFree 4 (some .boolean)) ({ frames := 1, cells := 0, slots := 0, locals := 21 })).room s m (([.ref h0, .int n, .int (nI nm)] : List Value)).toArray below meth c H locs 0 0 (MQ below (va_Qi (fun (r : Int32) (_ : Unit) => (r = 1 ∧ ∀ o, o < nm → bt (ft nm) o = true → ¬ fcl o = n) ∨ (r = 0 ∧ ∃ o, o < nm ∧ bt (ft nm) o = true ∧ fcl o = n)) (fun _ _ => True) (fun q : Nat => s.heap.size ≤ q)) (([.ref h0, .int n, .int (nI nm)] : List Value)).toArray s 0 0 (fun q : Nat => s.heap.size ≤ q)) (F0 m 2 ls []) := by
    intro fu
    induction fu with
    | zero => intro k hk hfr hme; exact absurd hme (Nat.not_lt_zero _)
    | succ fu ih_2 =>
      intro k hk hfr hme H locs hP hS ls hl
      refine lv_iload_n hx hb dX7_isFree_2 rfl (lv_at hl 0 rfl) ?_
      refine lv_iload_n hx hb dX7_isFree_3 rfl (lv_at hl 3 rfl) ?_
      refine lv_icmp_ge (tgt := 44) hx hb dX7_isFree_4 (by decide) (fun c_3 => ?_) (fun c_3 => ?_)
      · have b_4 := gx_ge (X := ((k : Nat) : Int)) (C := ((nm : Nat) : Int)) (nI_toInt (by omega)) (nI_toInt (by omega)) c_3
        refine lv_iconst (v := 1) hx hb dX7_isFree_44 (by decide) ?_
        exact W.zret (v := 1) hx hb hr (by decide) (fun t ht hW => ⟨⟨1, (), rfl, (Or.inl ⟨rfl, fun o9 h9 => hfr o9 (by omega)⟩), trivial⟩, hS.F ht⟩) hS.2.2 dX7_isFree_45
      · have b_4 := gn_ge (X := ((k : Nat) : Int)) (C := ((nm : Nat) : Int)) (nI_toInt (by omega)) (nI_toInt (by omega)) c_3
        refine lv_iload_n hx hb dX7_isFree_7 rfl (lv_at hl 0 rfl) ?_
        refine lv_bipush (v := 8) hx hb dX7_isFree_8 (by decide) ?_
        refine lv_icmp_ge (tgt := 44) hx hb dX7_isFree_10 (by decide) (fun c_5 => ?_) (fun c_5 => ?_)
        · have b_6 := gx_ge (X := ((k : Nat) : Int)) (C := 8) (nI_toInt (by omega)) (by decide) c_5
          refine lv_iconst (v := 1) hx hb dX7_isFree_44 (by decide) ?_
          exact W.zret (v := 1) hx hb hr (by decide) (fun t ht hW => ⟨⟨1, (), rfl, (Or.inl ⟨rfl, fun o9 h9 => hfr o9 (by omega)⟩), trivial⟩, hS.F ht⟩) hS.2.2 dX7_isFree_45
        · have b_6 := gn_ge (X := ((k : Nat) : Int)) (C := 8) (nI_toInt (by omega)) (by decide) c_5
          refine lv_aload_n hx hb dX7_isFree_13 rfl (lv_at hl 1 rfl) ?_
          refine va_get (D := (dC, dI)) (ci := 6) (v := .ref t2) (C := RX7) (T := TX7) (N := 5) hx hb hts inB_7 hown hK hP 0 rfl rfl 2 (by decide) (hts _ mw_1_129) (fun _ h9 => h9) rfl dX7_isFree_14 ?_
          refine lv_iload_n hx hb dX7_isFree_17 rfl (lv_at hl 0 rfl) ?_
          refine va_iald hx hb hK hP 2 1 rfl rfl (show vp_in (nI k) 8 from vp_in_nI (by omega) (by omega)) dX7_isFree_18 ?_
          refine hx_top (y := (fcl k)) (congrArg _ (nI_clamp (by omega))) ?_
          refine lv_iload_n hx hb dX7_isFree_19 rfl (lv_at hl 2 rfl) ?_
          refine lv_icmp_ne (tgt := 38) hx hb dX7_isFree_20 (by decide) (fun c_7 => ?_) (fun c_7 => ?_)
          · have b_8 := gx_ne (X := (Int32.toInt (fcl k))) (C := (Int32.toInt n)) rfl rfl c_7
            refine lv_iinc (v := (nI (k + 1))) (lv' := [(3, .int (nI (k + 1))), (0, .ref h0), (1, .int n), (2, .int (nI nm))]) hx hb dX7_isFree_38 hl (k := 0) rfl (nI_add k 1) (by decide) rfl (fun ls hl => ?_)
            refine lv_goto (tgt := 2) hx hb dX7_isFree_41 (by decide) ?_
            exact ih_2 (k + 1) (by omega) (fe_ne hfr c_7) (by omega) _ _ hP hS ls (lv_sub hl [0, 1, 2, 3] rfl)
          · have b_8 := gn_ne (X := (Int32.toInt (fcl k))) (C := (Int32.toInt n)) rfl rfl c_7
            refine lv_iload_n hx hb dX7_isFree_23 rfl (lv_at hl 0 rfl) ?_
            refine lv_aload_n hx hb dX7_isFree_24 rfl (lv_at hl 1 rfl) ?_
            refine va_get (D := (dC, dI)) (ci := 6) (v := .ref t1) (C := RX7) (T := TX7) (N := 5) hx hb hts inB_7 hown hK hP 0 rfl rfl 1 (by decide) (hts _ mw_1_128) (fun _ h9 => h9) rfl dX7_isFree_25 ?_
            refine lv_iload_n hx hb dX7_isFree_28 rfl (lv_at hl 3 rfl) ?_
            refine va_iald hx hb hK hP 1 0 rfl rfl (show vp_in (nI nm) 8 from vp_in_nI (by omega) (by omega)) dX7_isFree_29 ?_
            refine hx_top (y := (ft nm)) (congrArg _ (nI_clamp (by omega))) ?_
            have hPc := hP.sub (ws' := []) [] rfl
            have hDc := hD.sub (ws' := []) [] (by decide) rfl
            have hKc := hK.sub (tys' := []) [] rfl
            refine va_calli (va_runSN (As := [.int (nI k), .int (ft nm)]) (rest := []) ⟨hx, hb, hml, hown, hts⟩ (c_isIn l dC dI H.size (nI k) (ft nm) ) ⟨va_cnB 2 hts (gN mw_2_15) rfl rfl rfl (hN (RX7, 62, yX8_isIn, RX8) (List.mem_of_getElem? (i := 11) rfl)) (hts _ mw_1_1) (by decide +kernel) ⟨Nat.le_of_ble_eq_true rfl, Nat.le_of_ble_eq_true rfl⟩, (hts _ mw_2_14), trivial⟩ ⟨pcW_blind, pcW_at hPc hKc hDc hN⟩ rfl rfl hl.1 rfl (lv_room (Nat.le_of_ble_eq_true rfl)) dX7_isFree_30 ⟨Nat.le_of_ble_eq_true rfl, Nat.le_of_ble_eq_true rfl⟩) hS (fun q h1 h2 => absurd h2 (Nat.not_le.mpr h1)) (fun q h => hA q (Nat.le_trans hS.1 h)) (fun r_9 u t H1 locs ht hvm hw_9 hB hz1 hk1 hS => ?_)
            have hP := keepP hP hk1
            clear hz1 hk1 hB ht hvm hPc hDc hKc
            generalize H1 = H at hP hS ⊢
            rcases fx_bool hw_9 with ⟨rfl, b_10⟩ | ⟨rfl, b_10⟩
            · skip
              refine lv_if_eq (tgt := 38) hx hb dX7_isFree_33 (by decide) (fun h => absurd h (by decide)) (fun _ => ?_)
              refine lv_iconst (v := 0) hx hb dX7_isFree_36 (by decide) ?_
              exact W.zret (v := 0) hx hb hr (by decide) (fun t ht hW => ⟨⟨0, (), rfl, (Or.inr ⟨rfl, k, by omega, t_yes (by omega) b_10, c_7⟩), trivial⟩, hS.F ht⟩) hS.2.2 dX7_isFree_37
            · skip
              refine lv_if_eq (tgt := 38) hx hb dX7_isFree_33 (by decide) (fun _ => ?_) (fun h => absurd (by decide) h)
              refine lv_iinc (v := (nI (k + 1))) (lv' := [(3, .int (nI (k + 1))), (0, .ref h0), (1, .int n), (2, .int (nI nm))]) hx hb dX7_isFree_38 hl (k := 0) rfl (nI_add k 1) (by decide) rfl (fun ls hl => ?_)
              refine lv_goto (tgt := 2) hx hb dX7_isFree_41 (by decide) ?_
              exact ih_2 (k + 1) (by omega) (fe_no hfr (t_no (by omega) b_10)) (by omega) _ _ hP hS ls (lv_sub hl [0, 1, 2, 3] rfl)
  exact key_1 ((8 - 0) + 1) 0 (by omega) (fun o h => absurd h (Nat.not_lt_zero o)) (Nat.lt_succ_self _) _ _ hP hS ls (lv_sub hl [0, 1, 2, 3] rfl)
set_option maxHeartbeats 4000000 in
set_option maxRecDepth 100000 in
theorem c_fit8 (l : Launch) (dC : Nat → ClassId) (dI : Nat → Nat → Nat) (sz : Nat) (h0 : Nat) (t0 : Value) (t1 : Nat) (t2 : Nat) (t3 : Value) (t4 : Value) (kt1 : ClassId) (ft : Nat → Int32) (kt2 : ClassId) (fcl : Nat → Int32) (lm : Nat) (us : Int32) (hlm : lm ≤ 8) : Met l yX7_fitInto (wq yX7_fitInto cX7_fitInto 5 (some .boolean)) ({ frames := 0, cells := 0, slots := 0, locals := 0 }) (va_Pc [.ref h0, .int (nI lm), .int 8, .int us] (pcW dC dI [(kt1, .int), (kt2, .int)] [(h0, .inr (6, [t0, .ref t1, .ref t2, t3, t4])), (t1, .inl (kt1, 8, .inl ft)), (t2, .inl (kt2, 8, .inl fcl))] sz)) (va_Qi (fun (r : Int32) (_ : Unit) => (r = 1 ∧ cEx (uC ft) (kB ft) lm fcl 8) ∨ (r = 0 ∧ ¬ cEx (uC ft) (kB ft) lm fcl 8)) (fun _ t => ∃ (fcl2 : Nat → Int32), (agr fcl2 fcl 8) ∧ (cEx (uC ft) (kB ft) lm fcl 8 → cLs (uC ft) (kB ft) lm fcl 8 fcl2) ∧ va_P (dC, dI) vwCl [(h0, .inr (6, [t0, .ref t1, .ref t2, t3, t4])), (t1, .inl (kt1, 8, .inl ft)), (t2, .inl (kt2, 8, .inl fcl2))] t.heap ∧ va_K (dC, dI) vwCl [(kt1, .int), (kt2, .int)] t ∧ va_D (va_A [(h0, .inr (6, [t0, .ref t1, .ref t2, t3, t4])), (t1, .inl (kt1, 8, .inl ft)), (t2, .inl (kt2, 8, .inl fcl))] sz) [(h0, .inr (6, [t0, .ref t1, .ref t2, t3, t4])), (t1, .inl (kt1, 8, .inl ft)), (t2, .inl (kt2, 8, .inl fcl2))]) (va_A [(h0, .inr (6, [t0, .ref t1, .ref t2, t3, t4])), (t1, .inl (kt1, 8, .inl ft)), (t2, .inl (kt2, 8, .inl fcl))] sz)) 0 0 (va_A [(h0, .inr (6, [t0, .ref t1, .ref t2, t3, t4])), (t1, .inl (kt1, 8, .inl ft)), (t2, .inl (kt2, 8, .inl fcl))] sz) := by
  refine Met.ofW (cc := cX7_fitInto) (maxL := 5) (ret := (some .boolean)) (by decide) rfl ?_
  intro p e s m args below meth c s₁ B hml hv
  obtain ⟨rfl, hsz, hN, hP, hK, hD0⟩ := hv
  have hx := B.exec
  have hb := B.bytes
  have hr := B.returns
  have hts0 := atoms_spec (ws := (wq yX7_fitInto cX7_fitInto 5 (some .boolean))) B.pre
  have hts : ∀ w ∈ BG, w.before _ s = true := fun w h => hts0 w (List.mem_cons_of_mem _ h)
  have hown : s.vm.findClass RX7 = some m.cls := findClass_of_methodNamed B.named
  have hlocks := B.notSynchronized
  subst hsz
  have hD := hD0.self (sz := s.heap.size)
  generalize hAe : va_A [(h0, .inr (6, [t0, .ref t1, .ref t2, t3, t4])), (t1, .inl (kt1, 8, .inl ft)), (t2, .inl (kt2, 8, .inl fcl))] s.heap.size = A at hD ⊢
  have hA : ∀ q : Nat, s.heap.size ≤ q → A q := fun q h => by rw [← hAe]; exact Or.inr h
  have hS : va_S A s.heap s.heap [] := va_S.rf
  clear hAe hD0
  have hP : va_P (dC, dI) vwCl [(h0, .inr (6, [t0, .ref t1, .ref t2, t3, t4])), (t1, .inl (kt1, 8, .inl ft)), (t2, .inl (kt2, 8, .inl fcl))] s.heap := hP
  have hl := lv_entry ([.ref h0, .int (nI lm), .int 8, .int us]) (n := 5) (Nat.le_of_ble_eq_true rfl)
  rw [lg_entry_eq]
  generalize (lg_sl ([.ref h0, .int (nI lm), .int 8, .int us]) ++ List.replicate (5 - (lg_sl ([.ref h0, .int (nI lm), .int 8, .int us])).length) Slot.unset).toArray = ls at hl ⊢
  have hl : lv_has ls 5 [(0, .ref h0), (1, .int (nI lm)), (2, .int 8), (3, .int us)] := hl
  refine lv_iload_n hx hb dX7_fitInto_0 rfl (lv_at hl 2 rfl) ?_
  refine lv_if_lt (tgt := 10) hx hb dX7_fitInto_1 (by decide) (fun h => absurd h (by decide)) (fun _ => ?_)
  refine lv_iload_n hx hb dX7_fitInto_4 rfl (lv_at hl 2 rfl) ?_
  refine lv_bipush (v := 8) hx hb dX7_fitInto_5 (by decide) ?_
  refine lv_icmp_lt (tgt := 12) hx hb dX7_fitInto_7 (by decide) (fun h => absurd h (by decide)) (fun _ => ?_)
  refine lv_iconst (v := 1) hx hb dX7_fitInto_10 (by decide) ?_
  have hP9 := hP.sub (ws' := [(h0, .inr (6, [t0, .ref t1, .ref t2, t3, t4])), (t1, .inl (kt1, 8, .inl ft)), (t2, .inl (kt2, 8, .inl fcl))]) [0, 1, 2] rfl
  have hD9 := hD.sub (ws' := [(h0, .inr (6, [t0, .ref t1, .ref t2, t3, t4])), (t1, .inl (kt1, 8, .inl ft)), (t2, .inl (kt2, 8, .inl fcl))]) [0, 1, 2] (by decide) rfl
  have hK9 := hK.sub (tys' := [(kt1, .int), (kt2, .int)]) [0, 1] rfl
  exact W.zret (v := 1) hx hb hr (by decide) (fun t ht hW => ⟨⟨1, (), rfl, (Or.inl ⟨rfl, fit_8e⟩), fcl, agr_rf, (fun _ => fit_8l), by rw [ht]; exact hP9, va_K.moved hW.alike hK9, hD9⟩, hS.F ht⟩) hS.2.2 dX7_fitInto_11
set_option maxHeartbeats 4000000 in
set_option maxRecDepth 100000 in
theorem c_fit7 (l : Launch) (dC : Nat → ClassId) (dI : Nat → Nat → Nat) (sz : Nat) (h0 : Nat) (t0 : Value) (t1 : Nat) (t2 : Nat) (t3 : Value) (t4 : Value) (kt1 : ClassId) (ft : Nat → Int32) (kt2 : ClassId) (fcl : Nat → Int32) (lm : Nat) (us : Int32) (hlm : lm ≤ 8) (hus : Int32.toInt us = ((uN fcl 7 : Nat) : Int)) : Met l yX7_fitInto (wq yX7_fitInto cX7_fitInto 5 (some .boolean)) ({ frames := 2, cells := 0, slots := 0, locals := 44 }) (va_Pc [.ref h0, .int (nI lm), .int 7, .int us] (pcW dC dI [(kt1, .int), (kt2, .int)] [(h0, .inr (6, [t0, .ref t1, .ref t2, t3, t4])), (t1, .inl (kt1, 8, .inl ft)), (t2, .inl (kt2, 8, .inl fcl))] sz)) (va_Qi (fun (r : Int32) (_ : Unit) => (r = 1 ∧ cEx (uC ft) (kB ft) lm fcl 7) ∨ (r = 0 ∧ ¬ cEx (uC ft) (kB ft) lm fcl 7)) (fun _ t => ∃ (fcl2 : Nat → Int32), (agr fcl2 fcl 7) ∧ (cEx (uC ft) (kB ft) lm fcl 7 → cLs (uC ft) (kB ft) lm fcl 7 fcl2) ∧ va_P (dC, dI) vwCl [(h0, .inr (6, [t0, .ref t1, .ref t2, t3, t4])), (t1, .inl (kt1, 8, .inl ft)), (t2, .inl (kt2, 8, .inl fcl2))] t.heap ∧ va_K (dC, dI) vwCl [(kt1, .int), (kt2, .int)] t ∧ va_D (va_A [(h0, .inr (6, [t0, .ref t1, .ref t2, t3, t4])), (t1, .inl (kt1, 8, .inl ft)), (t2, .inl (kt2, 8, .inl fcl))] sz) [(h0, .inr (6, [t0, .ref t1, .ref t2, t3, t4])), (t1, .inl (kt1, 8, .inl ft)), (t2, .inl (kt2, 8, .inl fcl2))]) (va_A [(h0, .inr (6, [t0, .ref t1, .ref t2, t3, t4])), (t1, .inl (kt1, 8, .inl ft)), (t2, .inl (kt2, 8, .inl fcl))] sz)) 0 0 (va_A [(h0, .inr (6, [t0, .ref t1, .ref t2, t3, t4])), (t1, .inl (kt1, 8, .inl ft)), (t2, .inl (kt2, 8, .inl fcl))] sz) := by
  refine Met.ofW (cc := cX7_fitInto) (maxL := 5) (ret := (some .boolean)) (by decide) rfl ?_
  intro p e s m args below meth c s₁ B hml hv
  obtain ⟨rfl, hsz, hN, hP, hK, hD0⟩ := hv
  have hx := B.exec
  have hb := B.bytes
  have hr := B.returns
  have hts0 := atoms_spec (ws := (wq yX7_fitInto cX7_fitInto 5 (some .boolean))) B.pre
  have hts : ∀ w ∈ BG, w.before _ s = true := fun w h => hts0 w (List.mem_cons_of_mem _ h)
  have hown : s.vm.findClass RX7 = some m.cls := findClass_of_methodNamed B.named
  have hlocks := B.notSynchronized
  subst hsz
  have hD := hD0.self (sz := s.heap.size)
  generalize hAe : va_A [(h0, .inr (6, [t0, .ref t1, .ref t2, t3, t4])), (t1, .inl (kt1, 8, .inl ft)), (t2, .inl (kt2, 8, .inl fcl))] s.heap.size = A at hD ⊢
  have hA : ∀ q : Nat, s.heap.size ≤ q → A q := fun q h => by rw [← hAe]; exact Or.inr h
  have hS : va_S A s.heap s.heap [] := va_S.rf
  clear hAe hD0
  have hP : va_P (dC, dI) vwCl [(h0, .inr (6, [t0, .ref t1, .ref t2, t3, t4])), (t1, .inl (kt1, 8, .inl ft)), (t2, .inl (kt2, 8, .inl fcl))] s.heap := hP
  have hl := lv_entry ([.ref h0, .int (nI lm), .int 7, .int us]) (n := 5) (Nat.le_of_ble_eq_true rfl)
  rw [lg_entry_eq]
  generalize (lg_sl ([.ref h0, .int (nI lm), .int 7, .int us]) ++ List.replicate (5 - (lg_sl ([.ref h0, .int (nI lm), .int 7, .int us])).length) Slot.unset).toArray = ls at hl ⊢
  have hl : lv_has ls 5 [(0, .ref h0), (1, .int (nI lm)), (2, .int 7), (3, .int us)] := hl
  refine lv_iload_n hx hb dX7_fitInto_0 rfl (lv_at hl 2 rfl) ?_
  refine lv_if_lt (tgt := 10) hx hb dX7_fitInto_1 (by decide) (fun h => absurd h (by decide)) (fun _ => ?_)
  refine lv_iload_n hx hb dX7_fitInto_4 rfl (lv_at hl 2 rfl) ?_
  refine lv_bipush (v := 8) hx hb dX7_fitInto_5 (by decide) ?_
  refine lv_icmp_lt (tgt := 12) hx hb dX7_fitInto_7 (by decide) (fun _ => ?_) (fun h => absurd (by decide) h)
  refine lv_aload_n hx hb dX7_fitInto_12 rfl (lv_at hl 0 rfl) ?_
  refine va_get (D := (dC, dI)) (ci := 6) (v := .ref t2) (C := RX7) (T := TX7) (N := 5) hx hb hts inB_7 hown hK hP 0 rfl rfl 2 (by decide) (hts _ mw_1_129) (fun _ h9 => h9) rfl dX7_fitInto_13 ?_
  refine lv_iload_n hx hb dX7_fitInto_16 rfl (lv_at hl 2 rfl) ?_
  refine lv_bipush (v := (-6)) hx hb dX7_fitInto_17 (by decide) ?_
  refine va_iast hx hb hK hP hD hS 2 1 rfl rfl (show vp_in 7 8 by unfold vp_in; decide) dX7_fitInto_19 (fun H locs hP hD hS => ?_)
  obtain ⟨f_1, ef_1⟩ : ∃ g : Nat → Int32, g = upd fcl (Int32.toNatClampNeg 7) (-6) := ⟨_, rfl⟩
  rw [← ef_1] at hP hD
  have ef_1 : f_1 = upd fcl 7 (-6) := ef_1
  have hP : va_P (dC, dI) vwCl [(h0, .inr (6, [t0, .ref t1, .ref t2, t3, t4])), (t1, .inl (kt1, 8, .inl ft)), (t2, .inl (kt2, 8, .inl f_1))] H := hP
  have hD : va_D A [(h0, .inr (6, [t0, .ref t1, .ref t2, t3, t4])), (t1, .inl (kt1, 8, .inl ft)), (t2, .inl (kt2, 8, .inl f_1))] := hD
  refine lv_aload_n hx hb dX7_fitInto_20 rfl (lv_at hl 0 rfl) ?_
  refine va_get (D := (dC, dI)) (ci := 6) (v := .ref t1) (C := RX7) (T := TX7) (N := 5) hx hb hts inB_7 hown hK hP 0 rfl rfl 1 (by decide) (hts _ mw_1_128) (fun _ h9 => h9) rfl dX7_fitInto_21 ?_
  refine lv_iload_n hx hb dX7_fitInto_24 rfl (lv_at hl 2 rfl) ?_
  refine va_iald hx hb hK hP 1 0 rfl rfl (show vp_in 7 8 by unfold vp_in; decide) dX7_fitInto_25 ?_
  refine hx_top (y := (ft 7)) rfl ?_
  refine lv_if_ne (tgt := 39) hx hb dX7_fitInto_26 (by decide) (fun c_2 => ?_) (fun c_2 => ?_)
  · have b_3 := gx_ne (X := (Int32.toInt (ft 7))) (C := 0) rfl (by decide) c_2
    refine lv_iconst (v := 0) hx hb dX7_fitInto_39 (by decide) ?_
    refine lv_istore (lv' := [(4, .int 0), (0, .ref h0), (1, .int (nI lm)), (2, .int 7), (3, .int us)]) hx hb dX7_fitInto_40 hl (by decide) rfl (fun ls hl => ?_)
    have key_4 : ∀ (fu : Nat) (cq : Nat) (fcx : Nat → Int32), (cq ≤ 8) → (agr fcx fcl 7) → (cNo (uC ft) (kB ft) lm fcl 7 cq) → 8 - cq < fu → ∀ (H : Heap) (locs : List Loc), va_P (dC, dI) vwCl [(h0, .inr (6, [t0, .ref t1, .ref t2, t3, t4])), (t1, .inl (kt1, 8, .inl ft)), (t2, .inl (kt2, 8, .inl fcx))] H → va_D A [(h0, .inr (6, [t0, .ref t1, .ref t2, t3, t4])), (t1, .inl (kt1, 8, .inl ft)), (t2, .inl (kt2, 8, .inl fcx))] → va_S A s.heap H locs → ∀ (ls : Array Slot), lv_has ls 5 [(4, .int (nI cq)), (0, .ref h0), (1, .int (nI lm)), (2, .int 7), (3, .int us)] → W p l e (headSpec (wq yX7_fitInto cX7_fitInto 5 (some .boolean)) ({ frames := 2, cells := 0, slots := 0, locals := 44 })).room s m (([.ref h0, .int (nI lm), .int 7, .int us] : List Value)).toArray below meth c H locs 0 0 (MQ below (va_Qi (fun (r : Int32) (_ : Unit) => (r = 1 ∧ cEx (uC ft) (kB ft) lm fcl 7) ∨ (r = 0 ∧ ¬ cEx (uC ft) (kB ft) lm fcl 7)) (fun _ t => ∃ (fcl2 : Nat → Int32), (agr fcl2 fcl 7) ∧ (cEx (uC ft) (kB ft) lm fcl 7 → cLs (uC ft) (kB ft) lm fcl 7 fcl2) ∧ va_P (dC, dI) vwCl [(h0, .inr (6, [t0, .ref t1, .ref t2, t3, t4])), (t1, .inl (kt1, 8, .inl ft)), (t2, .inl (kt2, 8, .inl fcl2))] t.heap ∧ va_K (dC, dI) vwCl [(kt1, .int), (kt2, .int)] t ∧ va_D A [(h0, .inr (6, [t0, .ref t1, .ref t2, t3, t4])), (t1, .inl (kt1, 8, .inl ft)), (t2, .inl (kt2, 8, .inl fcl2))]) A) (([.ref h0, .int (nI lm), .int 7, .int us] : List Value)).toArray s 0 0 A) (F0 m 42 ls []) := by
      intro fu
      induction fu with
      | zero => intro cq fcx hcq hag hno hme; exact absurd hme (Nat.not_lt_zero _)
      | succ fu ih_5 =>
        intro cq fcx hcq hag hno hme H locs hP hD hS ls hl
        refine lv_iload hx hb dX7_fitInto_42 (lv_at hl 0 rfl) ?_
        refine lv_iload_n hx hb dX7_fitInto_44 rfl (lv_at hl 4 rfl) ?_
        refine lv_icmp_gt (tgt := 102) hx hb dX7_fitInto_45 (by decide) (fun c_6 => ?_) (fun c_6 => ?_)
        · have b_7 := gx_gt (X := ((cq : Nat) : Int)) (C := (Int32.toInt us)) (nI_toInt (by omega)) rfl c_6
          refine lv_iconst (v := 0) hx hb dX7_fitInto_102 (by decide) ?_
          have hP9 := hP.sub (ws' := [(h0, .inr (6, [t0, .ref t1, .ref t2, t3, t4])), (t1, .inl (kt1, 8, .inl ft)), (t2, .inl (kt2, 8, .inl fcx))]) [0, 1, 2] rfl
          have hD9 := hD.sub (ws' := [(h0, .inr (6, [t0, .ref t1, .ref t2, t3, t4])), (t1, .inl (kt1, 8, .inl ft)), (t2, .inl (kt2, 8, .inl fcx))]) [0, 1, 2] (by decide) rfl
          have hK9 := hK.sub (tys' := [(kt1, .int), (kt2, .int)]) [0, 1] rfl
          exact W.zret (v := 0) hx hb hr (by decide) (fun t ht hW => ⟨⟨0, (), rfl, (Or.inr ⟨rfl, cn_end (by omega) (uc_t c_2) hus hno (by omega)⟩), fcx, hag, (fun q9 => absurd q9 (cn_end (by omega) (uc_t c_2) hus hno (by omega))), by rw [ht]; exact hP9, va_K.moved hW.alike hK9, hD9⟩, hS.F ht⟩) hS.2.2 dX7_fitInto_103
        · have b_7 := gn_gt (X := ((cq : Nat) : Int)) (C := (Int32.toInt us)) (nI_toInt (by omega)) rfl c_6
          refine lv_iload hx hb dX7_fitInto_48 (lv_at hl 0 rfl) ?_
          refine lv_iload_n hx hb dX7_fitInto_50 rfl (lv_at hl 2 rfl) ?_
          refine lv_icmp_ge (tgt := 102) hx hb dX7_fitInto_51 (by decide) (fun c_8 => ?_) (fun c_8 => ?_)
          · have b_9 := gx_ge (X := ((cq : Nat) : Int)) (C := ((lm : Nat) : Int)) (nI_toInt (by omega)) (nI_toInt (by omega)) c_8
            refine lv_iconst (v := 0) hx hb dX7_fitInto_102 (by decide) ?_
            have hP9 := hP.sub (ws' := [(h0, .inr (6, [t0, .ref t1, .ref t2, t3, t4])), (t1, .inl (kt1, 8, .inl ft)), (t2, .inl (kt2, 8, .inl fcx))]) [0, 1, 2] rfl
            have hD9 := hD.sub (ws' := [(h0, .inr (6, [t0, .ref t1, .ref t2, t3, t4])), (t1, .inl (kt1, 8, .inl ft)), (t2, .inl (kt2, 8, .inl fcx))]) [0, 1, 2] (by decide) rfl
            have hK9 := hK.sub (tys' := [(kt1, .int), (kt2, .int)]) [0, 1] rfl
            exact W.zret (v := 0) hx hb hr (by decide) (fun t ht hW => ⟨⟨0, (), rfl, (Or.inr ⟨rfl, cn_end (by omega) (uc_t c_2) hus hno (by omega)⟩), fcx, hag, (fun q9 => absurd q9 (cn_end (by omega) (uc_t c_2) hus hno (by omega))), by rw [ht]; exact hP9, va_K.moved hW.alike hK9, hD9⟩, hS.F ht⟩) hS.2.2 dX7_fitInto_103
          · have b_9 := gn_ge (X := ((cq : Nat) : Int)) (C := ((lm : Nat) : Int)) (nI_toInt (by omega)) (nI_toInt (by omega)) c_8
            refine lv_aload_n hx hb dX7_fitInto_54 rfl (lv_at hl 1 rfl) ?_
            refine lv_iload hx hb dX7_fitInto_55 (lv_at hl 0 rfl) ?_
            refine lv_iload_n hx hb dX7_fitInto_57 rfl (lv_at hl 3 rfl) ?_
            have hPc := hP.sub (ws' := [(h0, .inr (6, [t0, .ref t1, .ref t2, t3, t4])), (t1, .inl (kt1, 8, .inl ft)), (t2, .inl (kt2, 8, .inl fcx))]) [0, 1, 2] rfl
            have hDc := hD.sub (ws' := [(h0, .inr (6, [t0, .ref t1, .ref t2, t3, t4])), (t1, .inl (kt1, 8, .inl ft)), (t2, .inl (kt2, 8, .inl fcx))]) [0, 1, 2] (by decide) rfl
            have hKc := hK.sub (tys' := [(kt1, .int), (kt2, .int)]) [0, 1] rfl
            refine va_calli (va_runV (As := [.int (nI cq), .int 7]) (rest := []) ⟨hx, hb, hml, hown, hts⟩ (c_isFree l dC dI H.size h0 (t0) t1 t2 (t3) (t4) kt1 ft kt2 fcx (nI cq) 7 (by omega)) (cwV 2 hts (gV mw_3_30 mw_3_32 mw_0_8 mw_1_7 mw_3_33) rfl rfl rfl (by decide +kernel) ⟨Nat.le_of_ble_eq_true rfl, Nat.le_of_ble_eq_true rfl⟩) ⟨pcW_blind, va_recv hKc hPc (ci := 6) (q0 := 0) rfl rfl, pcW_at hPc hKc hDc hN⟩ rfl rfl hl.1 rfl (lv_room (Nat.le_of_ble_eq_true rfl)) dX7_fitInto_58 ⟨Nat.le_of_ble_eq_true rfl, Nat.le_of_ble_eq_true rfl⟩) hS (fun q h1 h2 => absurd h2 (Nat.not_le.mpr h1)) (fun q h => hA q (Nat.le_trans hS.1 h)) (fun r_10 u t H1 locs ht hvm hw_10 hB hz1 hk1 hS => ?_)
            have hP := keepP hP hk1
            clear hz1 hk1 hB ht hvm hPc hDc hKc
            generalize H1 = H at hP hS ⊢
            rcases hw_10 with ⟨rfl, p_11⟩ | ⟨rfl, p_11⟩
            · skip
              refine lv_if_ne (tgt := 67) hx hb dX7_fitInto_61 (by decide) (fun _ => ?_) (fun h => absurd h (by decide))
              refine lv_aload_n hx hb dX7_fitInto_67 rfl (lv_at hl 1 rfl) ?_
              refine va_get (D := (dC, dI)) (ci := 6) (v := .ref t2) (C := RX7) (T := TX7) (N := 5) hx hb hts inB_7 hown hK hP 0 rfl rfl 2 (by decide) (hts _ mw_1_129) (fun _ h9 => h9) rfl dX7_fitInto_68 ?_
              refine lv_iload_n hx hb dX7_fitInto_71 rfl (lv_at hl 3 rfl) ?_
              refine lv_iload hx hb dX7_fitInto_72 (lv_at hl 0 rfl) ?_
              refine va_iast hx hb hK hP hD hS 2 1 rfl rfl (show vp_in 7 8 by unfold vp_in; decide) dX7_fitInto_74 (fun H locs hP hD hS => ?_)
              obtain ⟨f_12, ef_12⟩ : ∃ g : Nat → Int32, g = upd fcx (Int32.toNatClampNeg 7) (nI cq) := ⟨_, rfl⟩
              rw [← ef_12] at hP hD
              have ef_12 : f_12 = upd fcx 7 (nI cq) := ef_12
              have hP : va_P (dC, dI) vwCl [(h0, .inr (6, [t0, .ref t1, .ref t2, t3, t4])), (t1, .inl (kt1, 8, .inl ft)), (t2, .inl (kt2, 8, .inl f_12))] H := hP
              have hD : va_D A [(h0, .inr (6, [t0, .ref t1, .ref t2, t3, t4])), (t1, .inl (kt1, 8, .inl ft)), (t2, .inl (kt2, 8, .inl f_12))] := hD
              refine lv_aload_n hx hb dX7_fitInto_75 rfl (lv_at hl 1 rfl) ?_
              refine lv_iload_n hx hb dX7_fitInto_76 rfl (lv_at hl 2 rfl) ?_
              refine lv_iload_n hx hb dX7_fitInto_77 rfl (lv_at hl 3 rfl) ?_
              refine lv_iconst (v := 1) hx hb dX7_fitInto_78 (by decide) ?_
              refine lv_iadd hx hb dX7_fitInto_79 ?_
              refine hx_top (y := 8) (by decide) ?_
              refine lv_iload_n hx hb dX7_fitInto_80 rfl (lv_at hl 4 rfl) ?_
              refine lv_iload hx hb dX7_fitInto_81 (lv_at hl 0 rfl) ?_
              refine lv_iconst (v := 1) hx hb dX7_fitInto_83 (by decide) ?_
              refine lv_iadd hx hb dX7_fitInto_84 ?_
              refine hx_top (y := (nI (cq + 1))) (nI_add cq 1) ?_
              refine va_mmax hx hb (by rw [hml]; exact hl.1.symm) hown (hts _ mw_3_34) (hts _ mw_2_150) (hts _ mw_1_10) (hts _ mw_2_151) (Nat.le_of_ble_eq_true rfl) (Nat.le_of_ble_eq_true rfl) (Nat.le_of_ble_eq_true rfl) (Nat.le_of_ble_eq_true rfl) dX7_fitInto_85 ?_
              refine lv_topi (fun z_13 ez_13 => ?_)
              have fz_13 := gx_max (X := (Int32.toInt us)) (C := (((cq + 1) : Nat) : Int)) rfl (nI_toInt (by omega)) ez_13
              have hPc := hP.sub (ws' := [(h0, .inr (6, [t0, .ref t1, .ref t2, t3, t4])), (t1, .inl (kt1, 8, .inl ft)), (t2, .inl (kt2, 8, .inl f_12))]) [0, 1, 2] rfl
              have hDc := hD.sub (ws' := [(h0, .inr (6, [t0, .ref t1, .ref t2, t3, t4])), (t1, .inl (kt1, 8, .inl ft)), (t2, .inl (kt2, 8, .inl f_12))]) [0, 1, 2] (by decide) rfl
              have hKc := hK.sub (tys' := [(kt1, .int), (kt2, .int)]) [0, 1] rfl
              have hFc := va_free (wc := [(h0, .inr (6, [t0, .ref t1, .ref t2, t3, t4])), (t1, .inl (kt1, 8, .inl ft)), (t2, .inl (kt2, 8, .inl f_12))]) hD hS hA [0, 1, 2] rfl
              refine va_calli (va_runV (As := [.int (nI lm), .int 8, .int z_13]) (rest := []) ⟨hx, hb, hml, hown, hts⟩ (c_fit8 l dC dI H.size h0 (t0) t1 t2 (t3) (t4) kt1 ft kt2 f_12 lm z_13 hlm) (cwV 3 hts (gV mw_3_26 mw_3_28 mw_0_7 mw_1_7 mw_3_29) rfl rfl rfl (by decide +kernel) ⟨Nat.le_of_ble_eq_true rfl, Nat.le_of_ble_eq_true rfl⟩) ⟨pcW_blind, va_recv hKc hPc (ci := 6) (q0 := 0) rfl rfl, pcW_at hPc hKc hDc hN⟩ rfl rfl hl.1 rfl (lv_room (Nat.le_of_ble_eq_true rfl)) dX7_fitInto_88 ⟨Nat.le_of_ble_eq_true rfl, Nat.le_of_ble_eq_true rfl⟩) hS (fun q _ h => hFc q h) hFc (fun r_14 u t H1 locs ht hvm hw_14 hB hz1 hk1 hS => ?_)
              obtain ⟨f_15, p_16, p_17, hP1, hK1, hD1⟩ := hB
              rw [ht] at hP1
              have hK1 := va_K.moved hvm.symm hK1
              obtain ⟨hP, hD⟩ := va_join (wr := []) (w1 := [(h0, .inr (6, [t0, .ref t1, .ref t2, t3, t4])), (t1, .inl (kt1, 8, .inl ft)), (t2, .inl (kt2, 8, .inl f_15))]) hP hD [0, 1, 2] [] rfl rfl (by decide) (by decide) hk1 hFc hP1 hD1
              have hK := (hK.sub (tys' := []) [] rfl).app hK1
              clear hz1 hk1 hPc hDc hKc hFc
              generalize H1 = H at hP hS ⊢
              have hK : va_K (dC, dI) vwCl [(kt1, .int), (kt2, .int)] s := hK
              have hP : va_P (dC, dI) vwCl [(h0, .inr (6, [t0, .ref t1, .ref t2, t3, t4])), (t1, .inl (kt1, 8, .inl ft)), (t2, .inl (kt2, 8, .inl f_15))] H := hP
              have hD : va_D A [(h0, .inr (6, [t0, .ref t1, .ref t2, t3, t4])), (t1, .inl (kt1, 8, .inl ft)), (t2, .inl (kt2, 8, .inl f_15))] := hD
              rcases hw_14 with ⟨rfl, p_18⟩ | ⟨rfl, p_18⟩
              · skip
                refine lv_if_eq (tgt := 96) hx hb dX7_fitInto_91 (by decide) (fun h => absurd h (by decide)) (fun _ => ?_)
                refine lv_iconst (v := 1) hx hb dX7_fitInto_94 (by decide) ?_
                have hP9 := hP.sub (ws' := [(h0, .inr (6, [t0, .ref t1, .ref t2, t3, t4])), (t1, .inl (kt1, 8, .inl ft)), (t2, .inl (kt2, 8, .inl f_15))]) [0, 1, 2] rfl
                have hD9 := hD.sub (ws' := [(h0, .inr (6, [t0, .ref t1, .ref t2, t3, t4])), (t1, .inl (kt1, 8, .inl ft)), (t2, .inl (kt2, 8, .inl f_15))]) [0, 1, 2] (by decide) rfl
                have hK9 := hK.sub (tys' := [(kt1, .int), (kt2, .int)]) [0, 1] rfl
                exact W.zret (v := 1) hx hb hr (by decide) (fun t ht hW => ⟨⟨1, (), rfl, (Or.inl ⟨rfl, cn_okE (uc_t c_2) hus (by omega) (by omega) hag ef_12 p_11 p_18⟩), f_15, (agr_3 p_16 ef_12 hag), (fun _ => cn_ok (by omega) hlm (uc_t c_2) hus (by omega) (by omega) hag ef_12 p_11 hno p_16 (p_17 p_18)), by rw [ht]; exact hP9, va_K.moved hW.alike hK9, hD9⟩, hS.F ht⟩) hS.2.2 dX7_fitInto_95
              · skip
                refine lv_if_eq (tgt := 96) hx hb dX7_fitInto_91 (by decide) (fun _ => ?_) (fun h => absurd (by decide) h)
                refine lv_iinc (v := (nI (cq + 1))) (lv' := [(4, .int (nI (cq + 1))), (0, .ref h0), (1, .int (nI lm)), (2, .int 7), (3, .int us)]) hx hb dX7_fitInto_96 hl (k := 0) rfl (nI_add cq 1) (by decide) rfl (fun ls hl => ?_)
                refine lv_goto (tgt := 42) hx hb dX7_fitInto_99 (by decide) ?_
                exact ih_5 (cq + 1) f_15 (by omega) (agr_3 p_16 ef_12 hag) (cn_fail hag ef_12 p_18 hno) (by omega) _ _ hP hD hS ls (lv_sub hl [0, 1, 2, 3, 4] rfl)
            · skip
              refine lv_if_ne (tgt := 67) hx hb dX7_fitInto_61 (by decide) (fun h => absurd h (by decide)) (fun _ => ?_)
              refine lv_goto (tgt := 96) hx hb dX7_fitInto_64 (by decide) ?_
              refine lv_iinc (v := (nI (cq + 1))) (lv' := [(4, .int (nI (cq + 1))), (0, .ref h0), (1, .int (nI lm)), (2, .int 7), (3, .int us)]) hx hb dX7_fitInto_96 hl (k := 0) rfl (nI_add cq 1) (by decide) rfl (fun ls hl => ?_)
              refine lv_goto (tgt := 42) hx hb dX7_fitInto_99 (by decide) ?_
              exact ih_5 (cq + 1) fcx (by omega) hag (cn_busy (by omega) (uc_t c_2) hag p_11 hno) (by omega) _ _ hP hD hS ls (lv_sub hl [0, 1, 2, 3, 4] rfl)
    exact key_4 ((8 - 0) + 1) 0 f_1 (by omega) (agr_up (Nat.le_refl _) ef_1) cn_0 (Nat.lt_succ_self _) _ _ hP hD hS ls (lv_sub hl [0, 1, 2, 3, 4] rfl)
  · have b_3 := gn_ne (X := (Int32.toInt (ft 7))) (C := 0) rfl (by decide) c_2
    refine lv_aload_n hx hb dX7_fitInto_29 rfl (lv_at hl 0 rfl) ?_
    refine lv_iload_n hx hb dX7_fitInto_30 rfl (lv_at hl 1 rfl) ?_
    refine lv_iload_n hx hb dX7_fitInto_31 rfl (lv_at hl 2 rfl) ?_
    refine lv_iconst (v := 1) hx hb dX7_fitInto_32 (by decide) ?_
    refine lv_iadd hx hb dX7_fitInto_33 ?_
    refine hx_top (y := 8) (by decide) ?_
    refine lv_iload_n hx hb dX7_fitInto_34 rfl (lv_at hl 3 rfl) ?_
    have hPc := hP.sub (ws' := [(h0, .inr (6, [t0, .ref t1, .ref t2, t3, t4])), (t1, .inl (kt1, 8, .inl ft)), (t2, .inl (kt2, 8, .inl f_1))]) [0, 1, 2] rfl
    have hDc := hD.sub (ws' := [(h0, .inr (6, [t0, .ref t1, .ref t2, t3, t4])), (t1, .inl (kt1, 8, .inl ft)), (t2, .inl (kt2, 8, .inl f_1))]) [0, 1, 2] (by decide) rfl
    have hKc := hK.sub (tys' := [(kt1, .int), (kt2, .int)]) [0, 1] rfl
    have hFc := va_free (wc := [(h0, .inr (6, [t0, .ref t1, .ref t2, t3, t4])), (t1, .inl (kt1, 8, .inl ft)), (t2, .inl (kt2, 8, .inl f_1))]) hD hS hA [0, 1, 2] rfl
    refine va_calli (va_runV (As := [.int (nI lm), .int 8, .int us]) (rest := []) ⟨hx, hb, hml, hown, hts⟩ (c_fit8 l dC dI H.size h0 (t0) t1 t2 (t3) (t4) kt1 ft kt2 f_1 lm us hlm) (cwV 3 hts (gV mw_3_26 mw_3_28 mw_0_7 mw_1_7 mw_3_29) rfl rfl rfl (by decide +kernel) ⟨Nat.le_of_ble_eq_true rfl, Nat.le_of_ble_eq_true rfl⟩) ⟨pcW_blind, va_recv hKc hPc (ci := 6) (q0 := 0) rfl rfl, pcW_at hPc hKc hDc hN⟩ rfl rfl hl.1 rfl (lv_room (Nat.le_of_ble_eq_true rfl)) dX7_fitInto_35 ⟨Nat.le_of_ble_eq_true rfl, Nat.le_of_ble_eq_true rfl⟩) hS (fun q _ h => hFc q h) hFc (fun r_19 u t H1 locs ht hvm hw_19 hB hz1 hk1 hS => ?_)
    obtain ⟨f_20, p_21, p_22, hP1, hK1, hD1⟩ := hB
    rw [ht] at hP1
    have hK1 := va_K.moved hvm.symm hK1
    obtain ⟨hP, hD⟩ := va_join (wr := []) (w1 := [(h0, .inr (6, [t0, .ref t1, .ref t2, t3, t4])), (t1, .inl (kt1, 8, .inl ft)), (t2, .inl (kt2, 8, .inl f_20))]) hP hD [0, 1, 2] [] rfl rfl (by decide) (by decide) hk1 hFc hP1 hD1
    have hK := (hK.sub (tys' := []) [] rfl).app hK1
    clear hz1 hk1 hPc hDc hKc hFc
    generalize H1 = H at hP hS ⊢
    have hK : va_K (dC, dI) vwCl [(kt1, .int), (kt2, .int)] s := hK
    have hP : va_P (dC, dI) vwCl [(h0, .inr (6, [t0, .ref t1, .ref t2, t3, t4])), (t1, .inl (kt1, 8, .inl ft)), (t2, .inl (kt2, 8, .inl f_20))] H := hP
    have hD : va_D A [(h0, .inr (6, [t0, .ref t1, .ref t2, t3, t4])), (t1, .inl (kt1, 8, .inl ft)), (t2, .inl (kt2, 8, .inl f_20))] := hD
    rcases hw_19 with ⟨rfl, p_23⟩ | ⟨rfl, p_23⟩
    · skip
      have hP9 := hP.sub (ws' := [(h0, .inr (6, [t0, .ref t1, .ref t2, t3, t4])), (t1, .inl (kt1, 8, .inl ft)), (t2, .inl (kt2, 8, .inl f_20))]) [0, 1, 2] rfl
      have hD9 := hD.sub (ws' := [(h0, .inr (6, [t0, .ref t1, .ref t2, t3, t4])), (t1, .inl (kt1, 8, .inl ft)), (t2, .inl (kt2, 8, .inl f_20))]) [0, 1, 2] (by decide) rfl
      have hK9 := hK.sub (tys' := [(kt1, .int), (kt2, .int)]) [0, 1] rfl
      exact W.zret (v := 1) hx hb hr (by decide) (fun t ht hW => ⟨⟨1, (), rfl, (Or.inl ⟨rfl, un_ex (uc_f c_2) ef_1 p_23⟩), f_20, (agr_2 p_21 ef_1), (fun _ => un_ls (by omega) (uc_f c_2) ef_1 p_21 (p_22 p_23)), by rw [ht]; exact hP9, va_K.moved hW.alike hK9, hD9⟩, hS.F ht⟩) hS.2.2 dX7_fitInto_38
    · skip
      have hP9 := hP.sub (ws' := [(h0, .inr (6, [t0, .ref t1, .ref t2, t3, t4])), (t1, .inl (kt1, 8, .inl ft)), (t2, .inl (kt2, 8, .inl f_20))]) [0, 1, 2] rfl
      have hD9 := hD.sub (ws' := [(h0, .inr (6, [t0, .ref t1, .ref t2, t3, t4])), (t1, .inl (kt1, 8, .inl ft)), (t2, .inl (kt2, 8, .inl f_20))]) [0, 1, 2] (by decide) rfl
      have hK9 := hK.sub (tys' := [(kt1, .int), (kt2, .int)]) [0, 1] rfl
      exact W.zret (v := 0) hx hb hr (by decide) (fun t ht hW => ⟨⟨0, (), rfl, (Or.inr ⟨rfl, un_no (by omega) (uc_f c_2) ef_1 p_23⟩), f_20, (agr_2 p_21 ef_1), (fun q9 => absurd q9 (un_no (by omega) (uc_f c_2) ef_1 p_23)), by rw [ht]; exact hP9, va_K.moved hW.alike hK9, hD9⟩, hS.F ht⟩) hS.2.2 dX7_fitInto_38
set_option maxHeartbeats 4000000 in
set_option maxRecDepth 100000 in
theorem c_fit6 (l : Launch) (dC : Nat → ClassId) (dI : Nat → Nat → Nat) (sz : Nat) (h0 : Nat) (t0 : Value) (t1 : Nat) (t2 : Nat) (t3 : Value) (t4 : Value) (kt1 : ClassId) (ft : Nat → Int32) (kt2 : ClassId) (fcl : Nat → Int32) (lm : Nat) (us : Int32) (hlm : lm ≤ 8) (hus : Int32.toInt us = ((uN fcl 6 : Nat) : Int)) : Met l yX7_fitInto (wq yX7_fitInto cX7_fitInto 5 (some .boolean)) ({ frames := 3, cells := 0, slots := 0, locals := 68 }) (va_Pc [.ref h0, .int (nI lm), .int 6, .int us] (pcW dC dI [(kt1, .int), (kt2, .int)] [(h0, .inr (6, [t0, .ref t1, .ref t2, t3, t4])), (t1, .inl (kt1, 8, .inl ft)), (t2, .inl (kt2, 8, .inl fcl))] sz)) (va_Qi (fun (r : Int32) (_ : Unit) => (r = 1 ∧ cEx (uC ft) (kB ft) lm fcl 6) ∨ (r = 0 ∧ ¬ cEx (uC ft) (kB ft) lm fcl 6)) (fun _ t => ∃ (fcl2 : Nat → Int32), (agr fcl2 fcl 6) ∧ (cEx (uC ft) (kB ft) lm fcl 6 → cLs (uC ft) (kB ft) lm fcl 6 fcl2) ∧ va_P (dC, dI) vwCl [(h0, .inr (6, [t0, .ref t1, .ref t2, t3, t4])), (t1, .inl (kt1, 8, .inl ft)), (t2, .inl (kt2, 8, .inl fcl2))] t.heap ∧ va_K (dC, dI) vwCl [(kt1, .int), (kt2, .int)] t ∧ va_D (va_A [(h0, .inr (6, [t0, .ref t1, .ref t2, t3, t4])), (t1, .inl (kt1, 8, .inl ft)), (t2, .inl (kt2, 8, .inl fcl))] sz) [(h0, .inr (6, [t0, .ref t1, .ref t2, t3, t4])), (t1, .inl (kt1, 8, .inl ft)), (t2, .inl (kt2, 8, .inl fcl2))]) (va_A [(h0, .inr (6, [t0, .ref t1, .ref t2, t3, t4])), (t1, .inl (kt1, 8, .inl ft)), (t2, .inl (kt2, 8, .inl fcl))] sz)) 0 0 (va_A [(h0, .inr (6, [t0, .ref t1, .ref t2, t3, t4])), (t1, .inl (kt1, 8, .inl ft)), (t2, .inl (kt2, 8, .inl fcl))] sz) := by
  refine Met.ofW (cc := cX7_fitInto) (maxL := 5) (ret := (some .boolean)) (by decide) rfl ?_
  intro p e s m args below meth c s₁ B hml hv
  obtain ⟨rfl, hsz, hN, hP, hK, hD0⟩ := hv
  have hx := B.exec
  have hb := B.bytes
  have hr := B.returns
  have hts0 := atoms_spec (ws := (wq yX7_fitInto cX7_fitInto 5 (some .boolean))) B.pre
  have hts : ∀ w ∈ BG, w.before _ s = true := fun w h => hts0 w (List.mem_cons_of_mem _ h)
  have hown : s.vm.findClass RX7 = some m.cls := findClass_of_methodNamed B.named
  have hlocks := B.notSynchronized
  subst hsz
  have hD := hD0.self (sz := s.heap.size)
  generalize hAe : va_A [(h0, .inr (6, [t0, .ref t1, .ref t2, t3, t4])), (t1, .inl (kt1, 8, .inl ft)), (t2, .inl (kt2, 8, .inl fcl))] s.heap.size = A at hD ⊢
  have hA : ∀ q : Nat, s.heap.size ≤ q → A q := fun q h => by rw [← hAe]; exact Or.inr h
  have hS : va_S A s.heap s.heap [] := va_S.rf
  clear hAe hD0
  have hP : va_P (dC, dI) vwCl [(h0, .inr (6, [t0, .ref t1, .ref t2, t3, t4])), (t1, .inl (kt1, 8, .inl ft)), (t2, .inl (kt2, 8, .inl fcl))] s.heap := hP
  have hl := lv_entry ([.ref h0, .int (nI lm), .int 6, .int us]) (n := 5) (Nat.le_of_ble_eq_true rfl)
  rw [lg_entry_eq]
  generalize (lg_sl ([.ref h0, .int (nI lm), .int 6, .int us]) ++ List.replicate (5 - (lg_sl ([.ref h0, .int (nI lm), .int 6, .int us])).length) Slot.unset).toArray = ls at hl ⊢
  have hl : lv_has ls 5 [(0, .ref h0), (1, .int (nI lm)), (2, .int 6), (3, .int us)] := hl
  refine lv_iload_n hx hb dX7_fitInto_0 rfl (lv_at hl 2 rfl) ?_
  refine lv_if_lt (tgt := 10) hx hb dX7_fitInto_1 (by decide) (fun h => absurd h (by decide)) (fun _ => ?_)
  refine lv_iload_n hx hb dX7_fitInto_4 rfl (lv_at hl 2 rfl) ?_
  refine lv_bipush (v := 8) hx hb dX7_fitInto_5 (by decide) ?_
  refine lv_icmp_lt (tgt := 12) hx hb dX7_fitInto_7 (by decide) (fun _ => ?_) (fun h => absurd (by decide) h)
  refine lv_aload_n hx hb dX7_fitInto_12 rfl (lv_at hl 0 rfl) ?_
  refine va_get (D := (dC, dI)) (ci := 6) (v := .ref t2) (C := RX7) (T := TX7) (N := 5) hx hb hts inB_7 hown hK hP 0 rfl rfl 2 (by decide) (hts _ mw_1_129) (fun _ h9 => h9) rfl dX7_fitInto_13 ?_
  refine lv_iload_n hx hb dX7_fitInto_16 rfl (lv_at hl 2 rfl) ?_
  refine lv_bipush (v := (-6)) hx hb dX7_fitInto_17 (by decide) ?_
  refine va_iast hx hb hK hP hD hS 2 1 rfl rfl (show vp_in 6 8 by unfold vp_in; decide) dX7_fitInto_19 (fun H locs hP hD hS => ?_)
  obtain ⟨f_1, ef_1⟩ : ∃ g : Nat → Int32, g = upd fcl (Int32.toNatClampNeg 6) (-6) := ⟨_, rfl⟩
  rw [← ef_1] at hP hD
  have ef_1 : f_1 = upd fcl 6 (-6) := ef_1
  have hP : va_P (dC, dI) vwCl [(h0, .inr (6, [t0, .ref t1, .ref t2, t3, t4])), (t1, .inl (kt1, 8, .inl ft)), (t2, .inl (kt2, 8, .inl f_1))] H := hP
  have hD : va_D A [(h0, .inr (6, [t0, .ref t1, .ref t2, t3, t4])), (t1, .inl (kt1, 8, .inl ft)), (t2, .inl (kt2, 8, .inl f_1))] := hD
  refine lv_aload_n hx hb dX7_fitInto_20 rfl (lv_at hl 0 rfl) ?_
  refine va_get (D := (dC, dI)) (ci := 6) (v := .ref t1) (C := RX7) (T := TX7) (N := 5) hx hb hts inB_7 hown hK hP 0 rfl rfl 1 (by decide) (hts _ mw_1_128) (fun _ h9 => h9) rfl dX7_fitInto_21 ?_
  refine lv_iload_n hx hb dX7_fitInto_24 rfl (lv_at hl 2 rfl) ?_
  refine va_iald hx hb hK hP 1 0 rfl rfl (show vp_in 6 8 by unfold vp_in; decide) dX7_fitInto_25 ?_
  refine hx_top (y := (ft 6)) rfl ?_
  refine lv_if_ne (tgt := 39) hx hb dX7_fitInto_26 (by decide) (fun c_2 => ?_) (fun c_2 => ?_)
  · have b_3 := gx_ne (X := (Int32.toInt (ft 6))) (C := 0) rfl (by decide) c_2
    refine lv_iconst (v := 0) hx hb dX7_fitInto_39 (by decide) ?_
    refine lv_istore (lv' := [(4, .int 0), (0, .ref h0), (1, .int (nI lm)), (2, .int 6), (3, .int us)]) hx hb dX7_fitInto_40 hl (by decide) rfl (fun ls hl => ?_)
    have key_4 : ∀ (fu : Nat) (cq : Nat) (fcx : Nat → Int32), (cq ≤ 8) → (agr fcx fcl 6) → (cNo (uC ft) (kB ft) lm fcl 6 cq) → 8 - cq < fu → ∀ (H : Heap) (locs : List Loc), va_P (dC, dI) vwCl [(h0, .inr (6, [t0, .ref t1, .ref t2, t3, t4])), (t1, .inl (kt1, 8, .inl ft)), (t2, .inl (kt2, 8, .inl fcx))] H → va_D A [(h0, .inr (6, [t0, .ref t1, .ref t2, t3, t4])), (t1, .inl (kt1, 8, .inl ft)), (t2, .inl (kt2, 8, .inl fcx))] → va_S A s.heap H locs → ∀ (ls : Array Slot), lv_has ls 5 [(4, .int (nI cq)), (0, .ref h0), (1, .int (nI lm)), (2, .int 6), (3, .int us)] → W p l e (headSpec (wq yX7_fitInto cX7_fitInto 5 (some .boolean)) ({ frames := 3, cells := 0, slots := 0, locals := 68 })).room s m (([.ref h0, .int (nI lm), .int 6, .int us] : List Value)).toArray below meth c H locs 0 0 (MQ below (va_Qi (fun (r : Int32) (_ : Unit) => (r = 1 ∧ cEx (uC ft) (kB ft) lm fcl 6) ∨ (r = 0 ∧ ¬ cEx (uC ft) (kB ft) lm fcl 6)) (fun _ t => ∃ (fcl2 : Nat → Int32), (agr fcl2 fcl 6) ∧ (cEx (uC ft) (kB ft) lm fcl 6 → cLs (uC ft) (kB ft) lm fcl 6 fcl2) ∧ va_P (dC, dI) vwCl [(h0, .inr (6, [t0, .ref t1, .ref t2, t3, t4])), (t1, .inl (kt1, 8, .inl ft)), (t2, .inl (kt2, 8, .inl fcl2))] t.heap ∧ va_K (dC, dI) vwCl [(kt1, .int), (kt2, .int)] t ∧ va_D A [(h0, .inr (6, [t0, .ref t1, .ref t2, t3, t4])), (t1, .inl (kt1, 8, .inl ft)), (t2, .inl (kt2, 8, .inl fcl2))]) A) (([.ref h0, .int (nI lm), .int 6, .int us] : List Value)).toArray s 0 0 A) (F0 m 42 ls []) := by
      intro fu
      induction fu with
      | zero => intro cq fcx hcq hag hno hme; exact absurd hme (Nat.not_lt_zero _)
      | succ fu ih_5 =>
        intro cq fcx hcq hag hno hme H locs hP hD hS ls hl
        refine lv_iload hx hb dX7_fitInto_42 (lv_at hl 0 rfl) ?_
        refine lv_iload_n hx hb dX7_fitInto_44 rfl (lv_at hl 4 rfl) ?_
        refine lv_icmp_gt (tgt := 102) hx hb dX7_fitInto_45 (by decide) (fun c_6 => ?_) (fun c_6 => ?_)
        · have b_7 := gx_gt (X := ((cq : Nat) : Int)) (C := (Int32.toInt us)) (nI_toInt (by omega)) rfl c_6
          refine lv_iconst (v := 0) hx hb dX7_fitInto_102 (by decide) ?_
          have hP9 := hP.sub (ws' := [(h0, .inr (6, [t0, .ref t1, .ref t2, t3, t4])), (t1, .inl (kt1, 8, .inl ft)), (t2, .inl (kt2, 8, .inl fcx))]) [0, 1, 2] rfl
          have hD9 := hD.sub (ws' := [(h0, .inr (6, [t0, .ref t1, .ref t2, t3, t4])), (t1, .inl (kt1, 8, .inl ft)), (t2, .inl (kt2, 8, .inl fcx))]) [0, 1, 2] (by decide) rfl
          have hK9 := hK.sub (tys' := [(kt1, .int), (kt2, .int)]) [0, 1] rfl
          exact W.zret (v := 0) hx hb hr (by decide) (fun t ht hW => ⟨⟨0, (), rfl, (Or.inr ⟨rfl, cn_end (by omega) (uc_t c_2) hus hno (by omega)⟩), fcx, hag, (fun q9 => absurd q9 (cn_end (by omega) (uc_t c_2) hus hno (by omega))), by rw [ht]; exact hP9, va_K.moved hW.alike hK9, hD9⟩, hS.F ht⟩) hS.2.2 dX7_fitInto_103
        · have b_7 := gn_gt (X := ((cq : Nat) : Int)) (C := (Int32.toInt us)) (nI_toInt (by omega)) rfl c_6
          refine lv_iload hx hb dX7_fitInto_48 (lv_at hl 0 rfl) ?_
          refine lv_iload_n hx hb dX7_fitInto_50 rfl (lv_at hl 2 rfl) ?_
          refine lv_icmp_ge (tgt := 102) hx hb dX7_fitInto_51 (by decide) (fun c_8 => ?_) (fun c_8 => ?_)
          · have b_9 := gx_ge (X := ((cq : Nat) : Int)) (C := ((lm : Nat) : Int)) (nI_toInt (by omega)) (nI_toInt (by omega)) c_8
            refine lv_iconst (v := 0) hx hb dX7_fitInto_102 (by decide) ?_
            have hP9 := hP.sub (ws' := [(h0, .inr (6, [t0, .ref t1, .ref t2, t3, t4])), (t1, .inl (kt1, 8, .inl ft)), (t2, .inl (kt2, 8, .inl fcx))]) [0, 1, 2] rfl
            have hD9 := hD.sub (ws' := [(h0, .inr (6, [t0, .ref t1, .ref t2, t3, t4])), (t1, .inl (kt1, 8, .inl ft)), (t2, .inl (kt2, 8, .inl fcx))]) [0, 1, 2] (by decide) rfl
            have hK9 := hK.sub (tys' := [(kt1, .int), (kt2, .int)]) [0, 1] rfl
            exact W.zret (v := 0) hx hb hr (by decide) (fun t ht hW => ⟨⟨0, (), rfl, (Or.inr ⟨rfl, cn_end (by omega) (uc_t c_2) hus hno (by omega)⟩), fcx, hag, (fun q9 => absurd q9 (cn_end (by omega) (uc_t c_2) hus hno (by omega))), by rw [ht]; exact hP9, va_K.moved hW.alike hK9, hD9⟩, hS.F ht⟩) hS.2.2 dX7_fitInto_103
          · have b_9 := gn_ge (X := ((cq : Nat) : Int)) (C := ((lm : Nat) : Int)) (nI_toInt (by omega)) (nI_toInt (by omega)) c_8
            refine lv_aload_n hx hb dX7_fitInto_54 rfl (lv_at hl 1 rfl) ?_
            refine lv_iload hx hb dX7_fitInto_55 (lv_at hl 0 rfl) ?_
            refine lv_iload_n hx hb dX7_fitInto_57 rfl (lv_at hl 3 rfl) ?_
            have hPc := hP.sub (ws' := [(h0, .inr (6, [t0, .ref t1, .ref t2, t3, t4])), (t1, .inl (kt1, 8, .inl ft)), (t2, .inl (kt2, 8, .inl fcx))]) [0, 1, 2] rfl
            have hDc := hD.sub (ws' := [(h0, .inr (6, [t0, .ref t1, .ref t2, t3, t4])), (t1, .inl (kt1, 8, .inl ft)), (t2, .inl (kt2, 8, .inl fcx))]) [0, 1, 2] (by decide) rfl
            have hKc := hK.sub (tys' := [(kt1, .int), (kt2, .int)]) [0, 1] rfl
            refine va_calli (va_runV (As := [.int (nI cq), .int 6]) (rest := []) ⟨hx, hb, hml, hown, hts⟩ (c_isFree l dC dI H.size h0 (t0) t1 t2 (t3) (t4) kt1 ft kt2 fcx (nI cq) 6 (by omega)) (cwV 2 hts (gV mw_3_30 mw_3_32 mw_0_8 mw_1_7 mw_3_33) rfl rfl rfl (by decide +kernel) ⟨Nat.le_of_ble_eq_true rfl, Nat.le_of_ble_eq_true rfl⟩) ⟨pcW_blind, va_recv hKc hPc (ci := 6) (q0 := 0) rfl rfl, pcW_at hPc hKc hDc hN⟩ rfl rfl hl.1 rfl (lv_room (Nat.le_of_ble_eq_true rfl)) dX7_fitInto_58 ⟨Nat.le_of_ble_eq_true rfl, Nat.le_of_ble_eq_true rfl⟩) hS (fun q h1 h2 => absurd h2 (Nat.not_le.mpr h1)) (fun q h => hA q (Nat.le_trans hS.1 h)) (fun r_10 u t H1 locs ht hvm hw_10 hB hz1 hk1 hS => ?_)
            have hP := keepP hP hk1
            clear hz1 hk1 hB ht hvm hPc hDc hKc
            generalize H1 = H at hP hS ⊢
            rcases hw_10 with ⟨rfl, p_11⟩ | ⟨rfl, p_11⟩
            · skip
              refine lv_if_ne (tgt := 67) hx hb dX7_fitInto_61 (by decide) (fun _ => ?_) (fun h => absurd h (by decide))
              refine lv_aload_n hx hb dX7_fitInto_67 rfl (lv_at hl 1 rfl) ?_
              refine va_get (D := (dC, dI)) (ci := 6) (v := .ref t2) (C := RX7) (T := TX7) (N := 5) hx hb hts inB_7 hown hK hP 0 rfl rfl 2 (by decide) (hts _ mw_1_129) (fun _ h9 => h9) rfl dX7_fitInto_68 ?_
              refine lv_iload_n hx hb dX7_fitInto_71 rfl (lv_at hl 3 rfl) ?_
              refine lv_iload hx hb dX7_fitInto_72 (lv_at hl 0 rfl) ?_
              refine va_iast hx hb hK hP hD hS 2 1 rfl rfl (show vp_in 6 8 by unfold vp_in; decide) dX7_fitInto_74 (fun H locs hP hD hS => ?_)
              obtain ⟨f_12, ef_12⟩ : ∃ g : Nat → Int32, g = upd fcx (Int32.toNatClampNeg 6) (nI cq) := ⟨_, rfl⟩
              rw [← ef_12] at hP hD
              have ef_12 : f_12 = upd fcx 6 (nI cq) := ef_12
              have hP : va_P (dC, dI) vwCl [(h0, .inr (6, [t0, .ref t1, .ref t2, t3, t4])), (t1, .inl (kt1, 8, .inl ft)), (t2, .inl (kt2, 8, .inl f_12))] H := hP
              have hD : va_D A [(h0, .inr (6, [t0, .ref t1, .ref t2, t3, t4])), (t1, .inl (kt1, 8, .inl ft)), (t2, .inl (kt2, 8, .inl f_12))] := hD
              refine lv_aload_n hx hb dX7_fitInto_75 rfl (lv_at hl 1 rfl) ?_
              refine lv_iload_n hx hb dX7_fitInto_76 rfl (lv_at hl 2 rfl) ?_
              refine lv_iload_n hx hb dX7_fitInto_77 rfl (lv_at hl 3 rfl) ?_
              refine lv_iconst (v := 1) hx hb dX7_fitInto_78 (by decide) ?_
              refine lv_iadd hx hb dX7_fitInto_79 ?_
              refine hx_top (y := 7) (by decide) ?_
              refine lv_iload_n hx hb dX7_fitInto_80 rfl (lv_at hl 4 rfl) ?_
              refine lv_iload hx hb dX7_fitInto_81 (lv_at hl 0 rfl) ?_
              refine lv_iconst (v := 1) hx hb dX7_fitInto_83 (by decide) ?_
              refine lv_iadd hx hb dX7_fitInto_84 ?_
              refine hx_top (y := (nI (cq + 1))) (nI_add cq 1) ?_
              refine va_mmax hx hb (by rw [hml]; exact hl.1.symm) hown (hts _ mw_3_34) (hts _ mw_2_150) (hts _ mw_1_10) (hts _ mw_2_151) (Nat.le_of_ble_eq_true rfl) (Nat.le_of_ble_eq_true rfl) (Nat.le_of_ble_eq_true rfl) (Nat.le_of_ble_eq_true rfl) dX7_fitInto_85 ?_
              refine lv_topi (fun z_13 ez_13 => ?_)
              have fz_13 := gx_max (X := (Int32.toInt us)) (C := (((cq + 1) : Nat) : Int)) rfl (nI_toInt (by omega)) ez_13
              have hPc := hP.sub (ws' := [(h0, .inr (6, [t0, .ref t1, .ref t2, t3, t4])), (t1, .inl (kt1, 8, .inl ft)), (t2, .inl (kt2, 8, .inl f_12))]) [0, 1, 2] rfl
              have hDc := hD.sub (ws' := [(h0, .inr (6, [t0, .ref t1, .ref t2, t3, t4])), (t1, .inl (kt1, 8, .inl ft)), (t2, .inl (kt2, 8, .inl f_12))]) [0, 1, 2] (by decide) rfl
              have hKc := hK.sub (tys' := [(kt1, .int), (kt2, .int)]) [0, 1] rfl
              have hFc := va_free (wc := [(h0, .inr (6, [t0, .ref t1, .ref t2, t3, t4])), (t1, .inl (kt1, 8, .inl ft)), (t2, .inl (kt2, 8, .inl f_12))]) hD hS hA [0, 1, 2] rfl
              refine va_calli (va_runV (As := [.int (nI lm), .int 7, .int z_13]) (rest := []) ⟨hx, hb, hml, hown, hts⟩ (c_fit7 l dC dI H.size h0 (t0) t1 t2 (t3) (t4) kt1 ft kt2 f_12 lm z_13 hlm (uN_max hus hag ef_12 (by omega) fz_13)) (cwV 3 hts (gV mw_3_26 mw_3_28 mw_0_7 mw_1_7 mw_3_29) rfl rfl rfl (by decide +kernel) ⟨Nat.le_of_ble_eq_true rfl, Nat.le_of_ble_eq_true rfl⟩) ⟨pcW_blind, va_recv hKc hPc (ci := 6) (q0 := 0) rfl rfl, pcW_at hPc hKc hDc hN⟩ rfl rfl hl.1 rfl (lv_room (Nat.le_of_ble_eq_true rfl)) dX7_fitInto_88 ⟨Nat.le_of_ble_eq_true rfl, Nat.le_of_ble_eq_true rfl⟩) hS (fun q _ h => hFc q h) hFc (fun r_14 u t H1 locs ht hvm hw_14 hB hz1 hk1 hS => ?_)
              obtain ⟨f_15, p_16, p_17, hP1, hK1, hD1⟩ := hB
              rw [ht] at hP1
              have hK1 := va_K.moved hvm.symm hK1
              obtain ⟨hP, hD⟩ := va_join (wr := []) (w1 := [(h0, .inr (6, [t0, .ref t1, .ref t2, t3, t4])), (t1, .inl (kt1, 8, .inl ft)), (t2, .inl (kt2, 8, .inl f_15))]) hP hD [0, 1, 2] [] rfl rfl (by decide) (by decide) hk1 hFc hP1 hD1
              have hK := (hK.sub (tys' := []) [] rfl).app hK1
              clear hz1 hk1 hPc hDc hKc hFc
              generalize H1 = H at hP hS ⊢
              have hK : va_K (dC, dI) vwCl [(kt1, .int), (kt2, .int)] s := hK
              have hP : va_P (dC, dI) vwCl [(h0, .inr (6, [t0, .ref t1, .ref t2, t3, t4])), (t1, .inl (kt1, 8, .inl ft)), (t2, .inl (kt2, 8, .inl f_15))] H := hP
              have hD : va_D A [(h0, .inr (6, [t0, .ref t1, .ref t2, t3, t4])), (t1, .inl (kt1, 8, .inl ft)), (t2, .inl (kt2, 8, .inl f_15))] := hD
              rcases hw_14 with ⟨rfl, p_18⟩ | ⟨rfl, p_18⟩
              · skip
                refine lv_if_eq (tgt := 96) hx hb dX7_fitInto_91 (by decide) (fun h => absurd h (by decide)) (fun _ => ?_)
                refine lv_iconst (v := 1) hx hb dX7_fitInto_94 (by decide) ?_
                have hP9 := hP.sub (ws' := [(h0, .inr (6, [t0, .ref t1, .ref t2, t3, t4])), (t1, .inl (kt1, 8, .inl ft)), (t2, .inl (kt2, 8, .inl f_15))]) [0, 1, 2] rfl
                have hD9 := hD.sub (ws' := [(h0, .inr (6, [t0, .ref t1, .ref t2, t3, t4])), (t1, .inl (kt1, 8, .inl ft)), (t2, .inl (kt2, 8, .inl f_15))]) [0, 1, 2] (by decide) rfl
                have hK9 := hK.sub (tys' := [(kt1, .int), (kt2, .int)]) [0, 1] rfl
                exact W.zret (v := 1) hx hb hr (by decide) (fun t ht hW => ⟨⟨1, (), rfl, (Or.inl ⟨rfl, cn_okE (uc_t c_2) hus (by omega) (by omega) hag ef_12 p_11 p_18⟩), f_15, (agr_3 p_16 ef_12 hag), (fun _ => cn_ok (by omega) hlm (uc_t c_2) hus (by omega) (by omega) hag ef_12 p_11 hno p_16 (p_17 p_18)), by rw [ht]; exact hP9, va_K.moved hW.alike hK9, hD9⟩, hS.F ht⟩) hS.2.2 dX7_fitInto_95
              · skip
                refine lv_if_eq (tgt := 96) hx hb dX7_fitInto_91 (by decide) (fun _ => ?_) (fun h => absurd (by decide) h)
                refine lv_iinc (v := (nI (cq + 1))) (lv' := [(4, .int (nI (cq + 1))), (0, .ref h0), (1, .int (nI lm)), (2, .int 6), (3, .int us)]) hx hb dX7_fitInto_96 hl (k := 0) rfl (nI_add cq 1) (by decide) rfl (fun ls hl => ?_)
                refine lv_goto (tgt := 42) hx hb dX7_fitInto_99 (by decide) ?_
                exact ih_5 (cq + 1) f_15 (by omega) (agr_3 p_16 ef_12 hag) (cn_fail hag ef_12 p_18 hno) (by omega) _ _ hP hD hS ls (lv_sub hl [0, 1, 2, 3, 4] rfl)
            · skip
              refine lv_if_ne (tgt := 67) hx hb dX7_fitInto_61 (by decide) (fun h => absurd h (by decide)) (fun _ => ?_)
              refine lv_goto (tgt := 96) hx hb dX7_fitInto_64 (by decide) ?_
              refine lv_iinc (v := (nI (cq + 1))) (lv' := [(4, .int (nI (cq + 1))), (0, .ref h0), (1, .int (nI lm)), (2, .int 6), (3, .int us)]) hx hb dX7_fitInto_96 hl (k := 0) rfl (nI_add cq 1) (by decide) rfl (fun ls hl => ?_)
              refine lv_goto (tgt := 42) hx hb dX7_fitInto_99 (by decide) ?_
              exact ih_5 (cq + 1) fcx (by omega) hag (cn_busy (by omega) (uc_t c_2) hag p_11 hno) (by omega) _ _ hP hD hS ls (lv_sub hl [0, 1, 2, 3, 4] rfl)
    exact key_4 ((8 - 0) + 1) 0 f_1 (by omega) (agr_up (Nat.le_refl _) ef_1) cn_0 (Nat.lt_succ_self _) _ _ hP hD hS ls (lv_sub hl [0, 1, 2, 3, 4] rfl)
  · have b_3 := gn_ne (X := (Int32.toInt (ft 6))) (C := 0) rfl (by decide) c_2
    refine lv_aload_n hx hb dX7_fitInto_29 rfl (lv_at hl 0 rfl) ?_
    refine lv_iload_n hx hb dX7_fitInto_30 rfl (lv_at hl 1 rfl) ?_
    refine lv_iload_n hx hb dX7_fitInto_31 rfl (lv_at hl 2 rfl) ?_
    refine lv_iconst (v := 1) hx hb dX7_fitInto_32 (by decide) ?_
    refine lv_iadd hx hb dX7_fitInto_33 ?_
    refine hx_top (y := 7) (by decide) ?_
    refine lv_iload_n hx hb dX7_fitInto_34 rfl (lv_at hl 3 rfl) ?_
    have hPc := hP.sub (ws' := [(h0, .inr (6, [t0, .ref t1, .ref t2, t3, t4])), (t1, .inl (kt1, 8, .inl ft)), (t2, .inl (kt2, 8, .inl f_1))]) [0, 1, 2] rfl
    have hDc := hD.sub (ws' := [(h0, .inr (6, [t0, .ref t1, .ref t2, t3, t4])), (t1, .inl (kt1, 8, .inl ft)), (t2, .inl (kt2, 8, .inl f_1))]) [0, 1, 2] (by decide) rfl
    have hKc := hK.sub (tys' := [(kt1, .int), (kt2, .int)]) [0, 1] rfl
    have hFc := va_free (wc := [(h0, .inr (6, [t0, .ref t1, .ref t2, t3, t4])), (t1, .inl (kt1, 8, .inl ft)), (t2, .inl (kt2, 8, .inl f_1))]) hD hS hA [0, 1, 2] rfl
    refine va_calli (va_runV (As := [.int (nI lm), .int 7, .int us]) (rest := []) ⟨hx, hb, hml, hown, hts⟩ (c_fit7 l dC dI H.size h0 (t0) t1 t2 (t3) (t4) kt1 ft kt2 f_1 lm us hlm (uN_un hus ef_1)) (cwV 3 hts (gV mw_3_26 mw_3_28 mw_0_7 mw_1_7 mw_3_29) rfl rfl rfl (by decide +kernel) ⟨Nat.le_of_ble_eq_true rfl, Nat.le_of_ble_eq_true rfl⟩) ⟨pcW_blind, va_recv hKc hPc (ci := 6) (q0 := 0) rfl rfl, pcW_at hPc hKc hDc hN⟩ rfl rfl hl.1 rfl (lv_room (Nat.le_of_ble_eq_true rfl)) dX7_fitInto_35 ⟨Nat.le_of_ble_eq_true rfl, Nat.le_of_ble_eq_true rfl⟩) hS (fun q _ h => hFc q h) hFc (fun r_19 u t H1 locs ht hvm hw_19 hB hz1 hk1 hS => ?_)
    obtain ⟨f_20, p_21, p_22, hP1, hK1, hD1⟩ := hB
    rw [ht] at hP1
    have hK1 := va_K.moved hvm.symm hK1
    obtain ⟨hP, hD⟩ := va_join (wr := []) (w1 := [(h0, .inr (6, [t0, .ref t1, .ref t2, t3, t4])), (t1, .inl (kt1, 8, .inl ft)), (t2, .inl (kt2, 8, .inl f_20))]) hP hD [0, 1, 2] [] rfl rfl (by decide) (by decide) hk1 hFc hP1 hD1
    have hK := (hK.sub (tys' := []) [] rfl).app hK1
    clear hz1 hk1 hPc hDc hKc hFc
    generalize H1 = H at hP hS ⊢
    have hK : va_K (dC, dI) vwCl [(kt1, .int), (kt2, .int)] s := hK
    have hP : va_P (dC, dI) vwCl [(h0, .inr (6, [t0, .ref t1, .ref t2, t3, t4])), (t1, .inl (kt1, 8, .inl ft)), (t2, .inl (kt2, 8, .inl f_20))] H := hP
    have hD : va_D A [(h0, .inr (6, [t0, .ref t1, .ref t2, t3, t4])), (t1, .inl (kt1, 8, .inl ft)), (t2, .inl (kt2, 8, .inl f_20))] := hD
    rcases hw_19 with ⟨rfl, p_23⟩ | ⟨rfl, p_23⟩
    · skip
      have hP9 := hP.sub (ws' := [(h0, .inr (6, [t0, .ref t1, .ref t2, t3, t4])), (t1, .inl (kt1, 8, .inl ft)), (t2, .inl (kt2, 8, .inl f_20))]) [0, 1, 2] rfl
      have hD9 := hD.sub (ws' := [(h0, .inr (6, [t0, .ref t1, .ref t2, t3, t4])), (t1, .inl (kt1, 8, .inl ft)), (t2, .inl (kt2, 8, .inl f_20))]) [0, 1, 2] (by decide) rfl
      have hK9 := hK.sub (tys' := [(kt1, .int), (kt2, .int)]) [0, 1] rfl
      exact W.zret (v := 1) hx hb hr (by decide) (fun t ht hW => ⟨⟨1, (), rfl, (Or.inl ⟨rfl, un_ex (uc_f c_2) ef_1 p_23⟩), f_20, (agr_2 p_21 ef_1), (fun _ => un_ls (by omega) (uc_f c_2) ef_1 p_21 (p_22 p_23)), by rw [ht]; exact hP9, va_K.moved hW.alike hK9, hD9⟩, hS.F ht⟩) hS.2.2 dX7_fitInto_38
    · skip
      have hP9 := hP.sub (ws' := [(h0, .inr (6, [t0, .ref t1, .ref t2, t3, t4])), (t1, .inl (kt1, 8, .inl ft)), (t2, .inl (kt2, 8, .inl f_20))]) [0, 1, 2] rfl
      have hD9 := hD.sub (ws' := [(h0, .inr (6, [t0, .ref t1, .ref t2, t3, t4])), (t1, .inl (kt1, 8, .inl ft)), (t2, .inl (kt2, 8, .inl f_20))]) [0, 1, 2] (by decide) rfl
      have hK9 := hK.sub (tys' := [(kt1, .int), (kt2, .int)]) [0, 1] rfl
      exact W.zret (v := 0) hx hb hr (by decide) (fun t ht hW => ⟨⟨0, (), rfl, (Or.inr ⟨rfl, un_no (by omega) (uc_f c_2) ef_1 p_23⟩), f_20, (agr_2 p_21 ef_1), (fun q9 => absurd q9 (un_no (by omega) (uc_f c_2) ef_1 p_23)), by rw [ht]; exact hP9, va_K.moved hW.alike hK9, hD9⟩, hS.F ht⟩) hS.2.2 dX7_fitInto_38
set_option maxHeartbeats 4000000 in
set_option maxRecDepth 100000 in
theorem c_fit5 (l : Launch) (dC : Nat → ClassId) (dI : Nat → Nat → Nat) (sz : Nat) (h0 : Nat) (t0 : Value) (t1 : Nat) (t2 : Nat) (t3 : Value) (t4 : Value) (kt1 : ClassId) (ft : Nat → Int32) (kt2 : ClassId) (fcl : Nat → Int32) (lm : Nat) (us : Int32) (hlm : lm ≤ 8) (hus : Int32.toInt us = ((uN fcl 5 : Nat) : Int)) : Met l yX7_fitInto (wq yX7_fitInto cX7_fitInto 5 (some .boolean)) ({ frames := 4, cells := 0, slots := 0, locals := 92 }) (va_Pc [.ref h0, .int (nI lm), .int 5, .int us] (pcW dC dI [(kt1, .int), (kt2, .int)] [(h0, .inr (6, [t0, .ref t1, .ref t2, t3, t4])), (t1, .inl (kt1, 8, .inl ft)), (t2, .inl (kt2, 8, .inl fcl))] sz)) (va_Qi (fun (r : Int32) (_ : Unit) => (r = 1 ∧ cEx (uC ft) (kB ft) lm fcl 5) ∨ (r = 0 ∧ ¬ cEx (uC ft) (kB ft) lm fcl 5)) (fun _ t => ∃ (fcl2 : Nat → Int32), (agr fcl2 fcl 5) ∧ (cEx (uC ft) (kB ft) lm fcl 5 → cLs (uC ft) (kB ft) lm fcl 5 fcl2) ∧ va_P (dC, dI) vwCl [(h0, .inr (6, [t0, .ref t1, .ref t2, t3, t4])), (t1, .inl (kt1, 8, .inl ft)), (t2, .inl (kt2, 8, .inl fcl2))] t.heap ∧ va_K (dC, dI) vwCl [(kt1, .int), (kt2, .int)] t ∧ va_D (va_A [(h0, .inr (6, [t0, .ref t1, .ref t2, t3, t4])), (t1, .inl (kt1, 8, .inl ft)), (t2, .inl (kt2, 8, .inl fcl))] sz) [(h0, .inr (6, [t0, .ref t1, .ref t2, t3, t4])), (t1, .inl (kt1, 8, .inl ft)), (t2, .inl (kt2, 8, .inl fcl2))]) (va_A [(h0, .inr (6, [t0, .ref t1, .ref t2, t3, t4])), (t1, .inl (kt1, 8, .inl ft)), (t2, .inl (kt2, 8, .inl fcl))] sz)) 0 0 (va_A [(h0, .inr (6, [t0, .ref t1, .ref t2, t3, t4])), (t1, .inl (kt1, 8, .inl ft)), (t2, .inl (kt2, 8, .inl fcl))] sz) := by
  refine Met.ofW (cc := cX7_fitInto) (maxL := 5) (ret := (some .boolean)) (by decide) rfl ?_
  intro p e s m args below meth c s₁ B hml hv
  obtain ⟨rfl, hsz, hN, hP, hK, hD0⟩ := hv
  have hx := B.exec
  have hb := B.bytes
  have hr := B.returns
  have hts0 := atoms_spec (ws := (wq yX7_fitInto cX7_fitInto 5 (some .boolean))) B.pre
  have hts : ∀ w ∈ BG, w.before _ s = true := fun w h => hts0 w (List.mem_cons_of_mem _ h)
  have hown : s.vm.findClass RX7 = some m.cls := findClass_of_methodNamed B.named
  have hlocks := B.notSynchronized
  subst hsz
  have hD := hD0.self (sz := s.heap.size)
  generalize hAe : va_A [(h0, .inr (6, [t0, .ref t1, .ref t2, t3, t4])), (t1, .inl (kt1, 8, .inl ft)), (t2, .inl (kt2, 8, .inl fcl))] s.heap.size = A at hD ⊢
  have hA : ∀ q : Nat, s.heap.size ≤ q → A q := fun q h => by rw [← hAe]; exact Or.inr h
  have hS : va_S A s.heap s.heap [] := va_S.rf
  clear hAe hD0
  have hP : va_P (dC, dI) vwCl [(h0, .inr (6, [t0, .ref t1, .ref t2, t3, t4])), (t1, .inl (kt1, 8, .inl ft)), (t2, .inl (kt2, 8, .inl fcl))] s.heap := hP
  have hl := lv_entry ([.ref h0, .int (nI lm), .int 5, .int us]) (n := 5) (Nat.le_of_ble_eq_true rfl)
  rw [lg_entry_eq]
  generalize (lg_sl ([.ref h0, .int (nI lm), .int 5, .int us]) ++ List.replicate (5 - (lg_sl ([.ref h0, .int (nI lm), .int 5, .int us])).length) Slot.unset).toArray = ls at hl ⊢
  have hl : lv_has ls 5 [(0, .ref h0), (1, .int (nI lm)), (2, .int 5), (3, .int us)] := hl
  refine lv_iload_n hx hb dX7_fitInto_0 rfl (lv_at hl 2 rfl) ?_
  refine lv_if_lt (tgt := 10) hx hb dX7_fitInto_1 (by decide) (fun h => absurd h (by decide)) (fun _ => ?_)
  refine lv_iload_n hx hb dX7_fitInto_4 rfl (lv_at hl 2 rfl) ?_
  refine lv_bipush (v := 8) hx hb dX7_fitInto_5 (by decide) ?_
  refine lv_icmp_lt (tgt := 12) hx hb dX7_fitInto_7 (by decide) (fun _ => ?_) (fun h => absurd (by decide) h)
  refine lv_aload_n hx hb dX7_fitInto_12 rfl (lv_at hl 0 rfl) ?_
  refine va_get (D := (dC, dI)) (ci := 6) (v := .ref t2) (C := RX7) (T := TX7) (N := 5) hx hb hts inB_7 hown hK hP 0 rfl rfl 2 (by decide) (hts _ mw_1_129) (fun _ h9 => h9) rfl dX7_fitInto_13 ?_
  refine lv_iload_n hx hb dX7_fitInto_16 rfl (lv_at hl 2 rfl) ?_
  refine lv_bipush (v := (-6)) hx hb dX7_fitInto_17 (by decide) ?_
  refine va_iast hx hb hK hP hD hS 2 1 rfl rfl (show vp_in 5 8 by unfold vp_in; decide) dX7_fitInto_19 (fun H locs hP hD hS => ?_)
  obtain ⟨f_1, ef_1⟩ : ∃ g : Nat → Int32, g = upd fcl (Int32.toNatClampNeg 5) (-6) := ⟨_, rfl⟩
  rw [← ef_1] at hP hD
  have ef_1 : f_1 = upd fcl 5 (-6) := ef_1
  have hP : va_P (dC, dI) vwCl [(h0, .inr (6, [t0, .ref t1, .ref t2, t3, t4])), (t1, .inl (kt1, 8, .inl ft)), (t2, .inl (kt2, 8, .inl f_1))] H := hP
  have hD : va_D A [(h0, .inr (6, [t0, .ref t1, .ref t2, t3, t4])), (t1, .inl (kt1, 8, .inl ft)), (t2, .inl (kt2, 8, .inl f_1))] := hD
  refine lv_aload_n hx hb dX7_fitInto_20 rfl (lv_at hl 0 rfl) ?_
  refine va_get (D := (dC, dI)) (ci := 6) (v := .ref t1) (C := RX7) (T := TX7) (N := 5) hx hb hts inB_7 hown hK hP 0 rfl rfl 1 (by decide) (hts _ mw_1_128) (fun _ h9 => h9) rfl dX7_fitInto_21 ?_
  refine lv_iload_n hx hb dX7_fitInto_24 rfl (lv_at hl 2 rfl) ?_
  refine va_iald hx hb hK hP 1 0 rfl rfl (show vp_in 5 8 by unfold vp_in; decide) dX7_fitInto_25 ?_
  refine hx_top (y := (ft 5)) rfl ?_
  refine lv_if_ne (tgt := 39) hx hb dX7_fitInto_26 (by decide) (fun c_2 => ?_) (fun c_2 => ?_)
  · have b_3 := gx_ne (X := (Int32.toInt (ft 5))) (C := 0) rfl (by decide) c_2
    refine lv_iconst (v := 0) hx hb dX7_fitInto_39 (by decide) ?_
    refine lv_istore (lv' := [(4, .int 0), (0, .ref h0), (1, .int (nI lm)), (2, .int 5), (3, .int us)]) hx hb dX7_fitInto_40 hl (by decide) rfl (fun ls hl => ?_)
    have key_4 : ∀ (fu : Nat) (cq : Nat) (fcx : Nat → Int32), (cq ≤ 8) → (agr fcx fcl 5) → (cNo (uC ft) (kB ft) lm fcl 5 cq) → 8 - cq < fu → ∀ (H : Heap) (locs : List Loc), va_P (dC, dI) vwCl [(h0, .inr (6, [t0, .ref t1, .ref t2, t3, t4])), (t1, .inl (kt1, 8, .inl ft)), (t2, .inl (kt2, 8, .inl fcx))] H → va_D A [(h0, .inr (6, [t0, .ref t1, .ref t2, t3, t4])), (t1, .inl (kt1, 8, .inl ft)), (t2, .inl (kt2, 8, .inl fcx))] → va_S A s.heap H locs → ∀ (ls : Array Slot), lv_has ls 5 [(4, .int (nI cq)), (0, .ref h0), (1, .int (nI lm)), (2, .int 5), (3, .int us)] → W p l e (headSpec (wq yX7_fitInto cX7_fitInto 5 (some .boolean)) ({ frames := 4, cells := 0, slots := 0, locals := 92 })).room s m (([.ref h0, .int (nI lm), .int 5, .int us] : List Value)).toArray below meth c H locs 0 0 (MQ below (va_Qi (fun (r : Int32) (_ : Unit) => (r = 1 ∧ cEx (uC ft) (kB ft) lm fcl 5) ∨ (r = 0 ∧ ¬ cEx (uC ft) (kB ft) lm fcl 5)) (fun _ t => ∃ (fcl2 : Nat → Int32), (agr fcl2 fcl 5) ∧ (cEx (uC ft) (kB ft) lm fcl 5 → cLs (uC ft) (kB ft) lm fcl 5 fcl2) ∧ va_P (dC, dI) vwCl [(h0, .inr (6, [t0, .ref t1, .ref t2, t3, t4])), (t1, .inl (kt1, 8, .inl ft)), (t2, .inl (kt2, 8, .inl fcl2))] t.heap ∧ va_K (dC, dI) vwCl [(kt1, .int), (kt2, .int)] t ∧ va_D A [(h0, .inr (6, [t0, .ref t1, .ref t2, t3, t4])), (t1, .inl (kt1, 8, .inl ft)), (t2, .inl (kt2, 8, .inl fcl2))]) A) (([.ref h0, .int (nI lm), .int 5, .int us] : List Value)).toArray s 0 0 A) (F0 m 42 ls []) := by
      intro fu
      induction fu with
      | zero => intro cq fcx hcq hag hno hme; exact absurd hme (Nat.not_lt_zero _)
      | succ fu ih_5 =>
        intro cq fcx hcq hag hno hme H locs hP hD hS ls hl
        refine lv_iload hx hb dX7_fitInto_42 (lv_at hl 0 rfl) ?_
        refine lv_iload_n hx hb dX7_fitInto_44 rfl (lv_at hl 4 rfl) ?_
        refine lv_icmp_gt (tgt := 102) hx hb dX7_fitInto_45 (by decide) (fun c_6 => ?_) (fun c_6 => ?_)
        · have b_7 := gx_gt (X := ((cq : Nat) : Int)) (C := (Int32.toInt us)) (nI_toInt (by omega)) rfl c_6
          refine lv_iconst (v := 0) hx hb dX7_fitInto_102 (by decide) ?_
          have hP9 := hP.sub (ws' := [(h0, .inr (6, [t0, .ref t1, .ref t2, t3, t4])), (t1, .inl (kt1, 8, .inl ft)), (t2, .inl (kt2, 8, .inl fcx))]) [0, 1, 2] rfl
          have hD9 := hD.sub (ws' := [(h0, .inr (6, [t0, .ref t1, .ref t2, t3, t4])), (t1, .inl (kt1, 8, .inl ft)), (t2, .inl (kt2, 8, .inl fcx))]) [0, 1, 2] (by decide) rfl
          have hK9 := hK.sub (tys' := [(kt1, .int), (kt2, .int)]) [0, 1] rfl
          exact W.zret (v := 0) hx hb hr (by decide) (fun t ht hW => ⟨⟨0, (), rfl, (Or.inr ⟨rfl, cn_end (by omega) (uc_t c_2) hus hno (by omega)⟩), fcx, hag, (fun q9 => absurd q9 (cn_end (by omega) (uc_t c_2) hus hno (by omega))), by rw [ht]; exact hP9, va_K.moved hW.alike hK9, hD9⟩, hS.F ht⟩) hS.2.2 dX7_fitInto_103
        · have b_7 := gn_gt (X := ((cq : Nat) : Int)) (C := (Int32.toInt us)) (nI_toInt (by omega)) rfl c_6
          refine lv_iload hx hb dX7_fitInto_48 (lv_at hl 0 rfl) ?_
          refine lv_iload_n hx hb dX7_fitInto_50 rfl (lv_at hl 2 rfl) ?_
          refine lv_icmp_ge (tgt := 102) hx hb dX7_fitInto_51 (by decide) (fun c_8 => ?_) (fun c_8 => ?_)
          · have b_9 := gx_ge (X := ((cq : Nat) : Int)) (C := ((lm : Nat) : Int)) (nI_toInt (by omega)) (nI_toInt (by omega)) c_8
            refine lv_iconst (v := 0) hx hb dX7_fitInto_102 (by decide) ?_
            have hP9 := hP.sub (ws' := [(h0, .inr (6, [t0, .ref t1, .ref t2, t3, t4])), (t1, .inl (kt1, 8, .inl ft)), (t2, .inl (kt2, 8, .inl fcx))]) [0, 1, 2] rfl
            have hD9 := hD.sub (ws' := [(h0, .inr (6, [t0, .ref t1, .ref t2, t3, t4])), (t1, .inl (kt1, 8, .inl ft)), (t2, .inl (kt2, 8, .inl fcx))]) [0, 1, 2] (by decide) rfl
            have hK9 := hK.sub (tys' := [(kt1, .int), (kt2, .int)]) [0, 1] rfl
            exact W.zret (v := 0) hx hb hr (by decide) (fun t ht hW => ⟨⟨0, (), rfl, (Or.inr ⟨rfl, cn_end (by omega) (uc_t c_2) hus hno (by omega)⟩), fcx, hag, (fun q9 => absurd q9 (cn_end (by omega) (uc_t c_2) hus hno (by omega))), by rw [ht]; exact hP9, va_K.moved hW.alike hK9, hD9⟩, hS.F ht⟩) hS.2.2 dX7_fitInto_103
          · have b_9 := gn_ge (X := ((cq : Nat) : Int)) (C := ((lm : Nat) : Int)) (nI_toInt (by omega)) (nI_toInt (by omega)) c_8
            refine lv_aload_n hx hb dX7_fitInto_54 rfl (lv_at hl 1 rfl) ?_
            refine lv_iload hx hb dX7_fitInto_55 (lv_at hl 0 rfl) ?_
            refine lv_iload_n hx hb dX7_fitInto_57 rfl (lv_at hl 3 rfl) ?_
            have hPc := hP.sub (ws' := [(h0, .inr (6, [t0, .ref t1, .ref t2, t3, t4])), (t1, .inl (kt1, 8, .inl ft)), (t2, .inl (kt2, 8, .inl fcx))]) [0, 1, 2] rfl
            have hDc := hD.sub (ws' := [(h0, .inr (6, [t0, .ref t1, .ref t2, t3, t4])), (t1, .inl (kt1, 8, .inl ft)), (t2, .inl (kt2, 8, .inl fcx))]) [0, 1, 2] (by decide) rfl
            have hKc := hK.sub (tys' := [(kt1, .int), (kt2, .int)]) [0, 1] rfl
            refine va_calli (va_runV (As := [.int (nI cq), .int 5]) (rest := []) ⟨hx, hb, hml, hown, hts⟩ (c_isFree l dC dI H.size h0 (t0) t1 t2 (t3) (t4) kt1 ft kt2 fcx (nI cq) 5 (by omega)) (cwV 2 hts (gV mw_3_30 mw_3_32 mw_0_8 mw_1_7 mw_3_33) rfl rfl rfl (by decide +kernel) ⟨Nat.le_of_ble_eq_true rfl, Nat.le_of_ble_eq_true rfl⟩) ⟨pcW_blind, va_recv hKc hPc (ci := 6) (q0 := 0) rfl rfl, pcW_at hPc hKc hDc hN⟩ rfl rfl hl.1 rfl (lv_room (Nat.le_of_ble_eq_true rfl)) dX7_fitInto_58 ⟨Nat.le_of_ble_eq_true rfl, Nat.le_of_ble_eq_true rfl⟩) hS (fun q h1 h2 => absurd h2 (Nat.not_le.mpr h1)) (fun q h => hA q (Nat.le_trans hS.1 h)) (fun r_10 u t H1 locs ht hvm hw_10 hB hz1 hk1 hS => ?_)
            have hP := keepP hP hk1
            clear hz1 hk1 hB ht hvm hPc hDc hKc
            generalize H1 = H at hP hS ⊢
            rcases hw_10 with ⟨rfl, p_11⟩ | ⟨rfl, p_11⟩
            · skip
              refine lv_if_ne (tgt := 67) hx hb dX7_fitInto_61 (by decide) (fun _ => ?_) (fun h => absurd h (by decide))
              refine lv_aload_n hx hb dX7_fitInto_67 rfl (lv_at hl 1 rfl) ?_
              refine va_get (D := (dC, dI)) (ci := 6) (v := .ref t2) (C := RX7) (T := TX7) (N := 5) hx hb hts inB_7 hown hK hP 0 rfl rfl 2 (by decide) (hts _ mw_1_129) (fun _ h9 => h9) rfl dX7_fitInto_68 ?_
              refine lv_iload_n hx hb dX7_fitInto_71 rfl (lv_at hl 3 rfl) ?_
              refine lv_iload hx hb dX7_fitInto_72 (lv_at hl 0 rfl) ?_
              refine va_iast hx hb hK hP hD hS 2 1 rfl rfl (show vp_in 5 8 by unfold vp_in; decide) dX7_fitInto_74 (fun H locs hP hD hS => ?_)
              obtain ⟨f_12, ef_12⟩ : ∃ g : Nat → Int32, g = upd fcx (Int32.toNatClampNeg 5) (nI cq) := ⟨_, rfl⟩
              rw [← ef_12] at hP hD
              have ef_12 : f_12 = upd fcx 5 (nI cq) := ef_12
              have hP : va_P (dC, dI) vwCl [(h0, .inr (6, [t0, .ref t1, .ref t2, t3, t4])), (t1, .inl (kt1, 8, .inl ft)), (t2, .inl (kt2, 8, .inl f_12))] H := hP
              have hD : va_D A [(h0, .inr (6, [t0, .ref t1, .ref t2, t3, t4])), (t1, .inl (kt1, 8, .inl ft)), (t2, .inl (kt2, 8, .inl f_12))] := hD
              refine lv_aload_n hx hb dX7_fitInto_75 rfl (lv_at hl 1 rfl) ?_
              refine lv_iload_n hx hb dX7_fitInto_76 rfl (lv_at hl 2 rfl) ?_
              refine lv_iload_n hx hb dX7_fitInto_77 rfl (lv_at hl 3 rfl) ?_
              refine lv_iconst (v := 1) hx hb dX7_fitInto_78 (by decide) ?_
              refine lv_iadd hx hb dX7_fitInto_79 ?_
              refine hx_top (y := 6) (by decide) ?_
              refine lv_iload_n hx hb dX7_fitInto_80 rfl (lv_at hl 4 rfl) ?_
              refine lv_iload hx hb dX7_fitInto_81 (lv_at hl 0 rfl) ?_
              refine lv_iconst (v := 1) hx hb dX7_fitInto_83 (by decide) ?_
              refine lv_iadd hx hb dX7_fitInto_84 ?_
              refine hx_top (y := (nI (cq + 1))) (nI_add cq 1) ?_
              refine va_mmax hx hb (by rw [hml]; exact hl.1.symm) hown (hts _ mw_3_34) (hts _ mw_2_150) (hts _ mw_1_10) (hts _ mw_2_151) (Nat.le_of_ble_eq_true rfl) (Nat.le_of_ble_eq_true rfl) (Nat.le_of_ble_eq_true rfl) (Nat.le_of_ble_eq_true rfl) dX7_fitInto_85 ?_
              refine lv_topi (fun z_13 ez_13 => ?_)
              have fz_13 := gx_max (X := (Int32.toInt us)) (C := (((cq + 1) : Nat) : Int)) rfl (nI_toInt (by omega)) ez_13
              have hPc := hP.sub (ws' := [(h0, .inr (6, [t0, .ref t1, .ref t2, t3, t4])), (t1, .inl (kt1, 8, .inl ft)), (t2, .inl (kt2, 8, .inl f_12))]) [0, 1, 2] rfl
              have hDc := hD.sub (ws' := [(h0, .inr (6, [t0, .ref t1, .ref t2, t3, t4])), (t1, .inl (kt1, 8, .inl ft)), (t2, .inl (kt2, 8, .inl f_12))]) [0, 1, 2] (by decide) rfl
              have hKc := hK.sub (tys' := [(kt1, .int), (kt2, .int)]) [0, 1] rfl
              have hFc := va_free (wc := [(h0, .inr (6, [t0, .ref t1, .ref t2, t3, t4])), (t1, .inl (kt1, 8, .inl ft)), (t2, .inl (kt2, 8, .inl f_12))]) hD hS hA [0, 1, 2] rfl
              refine va_calli (va_runV (As := [.int (nI lm), .int 6, .int z_13]) (rest := []) ⟨hx, hb, hml, hown, hts⟩ (c_fit6 l dC dI H.size h0 (t0) t1 t2 (t3) (t4) kt1 ft kt2 f_12 lm z_13 hlm (uN_max hus hag ef_12 (by omega) fz_13)) (cwV 3 hts (gV mw_3_26 mw_3_28 mw_0_7 mw_1_7 mw_3_29) rfl rfl rfl (by decide +kernel) ⟨Nat.le_of_ble_eq_true rfl, Nat.le_of_ble_eq_true rfl⟩) ⟨pcW_blind, va_recv hKc hPc (ci := 6) (q0 := 0) rfl rfl, pcW_at hPc hKc hDc hN⟩ rfl rfl hl.1 rfl (lv_room (Nat.le_of_ble_eq_true rfl)) dX7_fitInto_88 ⟨Nat.le_of_ble_eq_true rfl, Nat.le_of_ble_eq_true rfl⟩) hS (fun q _ h => hFc q h) hFc (fun r_14 u t H1 locs ht hvm hw_14 hB hz1 hk1 hS => ?_)
              obtain ⟨f_15, p_16, p_17, hP1, hK1, hD1⟩ := hB
              rw [ht] at hP1
              have hK1 := va_K.moved hvm.symm hK1
              obtain ⟨hP, hD⟩ := va_join (wr := []) (w1 := [(h0, .inr (6, [t0, .ref t1, .ref t2, t3, t4])), (t1, .inl (kt1, 8, .inl ft)), (t2, .inl (kt2, 8, .inl f_15))]) hP hD [0, 1, 2] [] rfl rfl (by decide) (by decide) hk1 hFc hP1 hD1
              have hK := (hK.sub (tys' := []) [] rfl).app hK1
              clear hz1 hk1 hPc hDc hKc hFc
              generalize H1 = H at hP hS ⊢
              have hK : va_K (dC, dI) vwCl [(kt1, .int), (kt2, .int)] s := hK
              have hP : va_P (dC, dI) vwCl [(h0, .inr (6, [t0, .ref t1, .ref t2, t3, t4])), (t1, .inl (kt1, 8, .inl ft)), (t2, .inl (kt2, 8, .inl f_15))] H := hP
              have hD : va_D A [(h0, .inr (6, [t0, .ref t1, .ref t2, t3, t4])), (t1, .inl (kt1, 8, .inl ft)), (t2, .inl (kt2, 8, .inl f_15))] := hD
              rcases hw_14 with ⟨rfl, p_18⟩ | ⟨rfl, p_18⟩
              · skip
                refine lv_if_eq (tgt := 96) hx hb dX7_fitInto_91 (by decide) (fun h => absurd h (by decide)) (fun _ => ?_)
                refine lv_iconst (v := 1) hx hb dX7_fitInto_94 (by decide) ?_
                have hP9 := hP.sub (ws' := [(h0, .inr (6, [t0, .ref t1, .ref t2, t3, t4])), (t1, .inl (kt1, 8, .inl ft)), (t2, .inl (kt2, 8, .inl f_15))]) [0, 1, 2] rfl
                have hD9 := hD.sub (ws' := [(h0, .inr (6, [t0, .ref t1, .ref t2, t3, t4])), (t1, .inl (kt1, 8, .inl ft)), (t2, .inl (kt2, 8, .inl f_15))]) [0, 1, 2] (by decide) rfl
                have hK9 := hK.sub (tys' := [(kt1, .int), (kt2, .int)]) [0, 1] rfl
                exact W.zret (v := 1) hx hb hr (by decide) (fun t ht hW => ⟨⟨1, (), rfl, (Or.inl ⟨rfl, cn_okE (uc_t c_2) hus (by omega) (by omega) hag ef_12 p_11 p_18⟩), f_15, (agr_3 p_16 ef_12 hag), (fun _ => cn_ok (by omega) hlm (uc_t c_2) hus (by omega) (by omega) hag ef_12 p_11 hno p_16 (p_17 p_18)), by rw [ht]; exact hP9, va_K.moved hW.alike hK9, hD9⟩, hS.F ht⟩) hS.2.2 dX7_fitInto_95
              · skip
                refine lv_if_eq (tgt := 96) hx hb dX7_fitInto_91 (by decide) (fun _ => ?_) (fun h => absurd (by decide) h)
                refine lv_iinc (v := (nI (cq + 1))) (lv' := [(4, .int (nI (cq + 1))), (0, .ref h0), (1, .int (nI lm)), (2, .int 5), (3, .int us)]) hx hb dX7_fitInto_96 hl (k := 0) rfl (nI_add cq 1) (by decide) rfl (fun ls hl => ?_)
                refine lv_goto (tgt := 42) hx hb dX7_fitInto_99 (by decide) ?_
                exact ih_5 (cq + 1) f_15 (by omega) (agr_3 p_16 ef_12 hag) (cn_fail hag ef_12 p_18 hno) (by omega) _ _ hP hD hS ls (lv_sub hl [0, 1, 2, 3, 4] rfl)
            · skip
              refine lv_if_ne (tgt := 67) hx hb dX7_fitInto_61 (by decide) (fun h => absurd h (by decide)) (fun _ => ?_)
              refine lv_goto (tgt := 96) hx hb dX7_fitInto_64 (by decide) ?_
              refine lv_iinc (v := (nI (cq + 1))) (lv' := [(4, .int (nI (cq + 1))), (0, .ref h0), (1, .int (nI lm)), (2, .int 5), (3, .int us)]) hx hb dX7_fitInto_96 hl (k := 0) rfl (nI_add cq 1) (by decide) rfl (fun ls hl => ?_)
              refine lv_goto (tgt := 42) hx hb dX7_fitInto_99 (by decide) ?_
              exact ih_5 (cq + 1) fcx (by omega) hag (cn_busy (by omega) (uc_t c_2) hag p_11 hno) (by omega) _ _ hP hD hS ls (lv_sub hl [0, 1, 2, 3, 4] rfl)
    exact key_4 ((8 - 0) + 1) 0 f_1 (by omega) (agr_up (Nat.le_refl _) ef_1) cn_0 (Nat.lt_succ_self _) _ _ hP hD hS ls (lv_sub hl [0, 1, 2, 3, 4] rfl)
  · have b_3 := gn_ne (X := (Int32.toInt (ft 5))) (C := 0) rfl (by decide) c_2
    refine lv_aload_n hx hb dX7_fitInto_29 rfl (lv_at hl 0 rfl) ?_
    refine lv_iload_n hx hb dX7_fitInto_30 rfl (lv_at hl 1 rfl) ?_
    refine lv_iload_n hx hb dX7_fitInto_31 rfl (lv_at hl 2 rfl) ?_
    refine lv_iconst (v := 1) hx hb dX7_fitInto_32 (by decide) ?_
    refine lv_iadd hx hb dX7_fitInto_33 ?_
    refine hx_top (y := 6) (by decide) ?_
    refine lv_iload_n hx hb dX7_fitInto_34 rfl (lv_at hl 3 rfl) ?_
    have hPc := hP.sub (ws' := [(h0, .inr (6, [t0, .ref t1, .ref t2, t3, t4])), (t1, .inl (kt1, 8, .inl ft)), (t2, .inl (kt2, 8, .inl f_1))]) [0, 1, 2] rfl
    have hDc := hD.sub (ws' := [(h0, .inr (6, [t0, .ref t1, .ref t2, t3, t4])), (t1, .inl (kt1, 8, .inl ft)), (t2, .inl (kt2, 8, .inl f_1))]) [0, 1, 2] (by decide) rfl
    have hKc := hK.sub (tys' := [(kt1, .int), (kt2, .int)]) [0, 1] rfl
    have hFc := va_free (wc := [(h0, .inr (6, [t0, .ref t1, .ref t2, t3, t4])), (t1, .inl (kt1, 8, .inl ft)), (t2, .inl (kt2, 8, .inl f_1))]) hD hS hA [0, 1, 2] rfl
    refine va_calli (va_runV (As := [.int (nI lm), .int 6, .int us]) (rest := []) ⟨hx, hb, hml, hown, hts⟩ (c_fit6 l dC dI H.size h0 (t0) t1 t2 (t3) (t4) kt1 ft kt2 f_1 lm us hlm (uN_un hus ef_1)) (cwV 3 hts (gV mw_3_26 mw_3_28 mw_0_7 mw_1_7 mw_3_29) rfl rfl rfl (by decide +kernel) ⟨Nat.le_of_ble_eq_true rfl, Nat.le_of_ble_eq_true rfl⟩) ⟨pcW_blind, va_recv hKc hPc (ci := 6) (q0 := 0) rfl rfl, pcW_at hPc hKc hDc hN⟩ rfl rfl hl.1 rfl (lv_room (Nat.le_of_ble_eq_true rfl)) dX7_fitInto_35 ⟨Nat.le_of_ble_eq_true rfl, Nat.le_of_ble_eq_true rfl⟩) hS (fun q _ h => hFc q h) hFc (fun r_19 u t H1 locs ht hvm hw_19 hB hz1 hk1 hS => ?_)
    obtain ⟨f_20, p_21, p_22, hP1, hK1, hD1⟩ := hB
    rw [ht] at hP1
    have hK1 := va_K.moved hvm.symm hK1
    obtain ⟨hP, hD⟩ := va_join (wr := []) (w1 := [(h0, .inr (6, [t0, .ref t1, .ref t2, t3, t4])), (t1, .inl (kt1, 8, .inl ft)), (t2, .inl (kt2, 8, .inl f_20))]) hP hD [0, 1, 2] [] rfl rfl (by decide) (by decide) hk1 hFc hP1 hD1
    have hK := (hK.sub (tys' := []) [] rfl).app hK1
    clear hz1 hk1 hPc hDc hKc hFc
    generalize H1 = H at hP hS ⊢
    have hK : va_K (dC, dI) vwCl [(kt1, .int), (kt2, .int)] s := hK
    have hP : va_P (dC, dI) vwCl [(h0, .inr (6, [t0, .ref t1, .ref t2, t3, t4])), (t1, .inl (kt1, 8, .inl ft)), (t2, .inl (kt2, 8, .inl f_20))] H := hP
    have hD : va_D A [(h0, .inr (6, [t0, .ref t1, .ref t2, t3, t4])), (t1, .inl (kt1, 8, .inl ft)), (t2, .inl (kt2, 8, .inl f_20))] := hD
    rcases hw_19 with ⟨rfl, p_23⟩ | ⟨rfl, p_23⟩
    · skip
      have hP9 := hP.sub (ws' := [(h0, .inr (6, [t0, .ref t1, .ref t2, t3, t4])), (t1, .inl (kt1, 8, .inl ft)), (t2, .inl (kt2, 8, .inl f_20))]) [0, 1, 2] rfl
      have hD9 := hD.sub (ws' := [(h0, .inr (6, [t0, .ref t1, .ref t2, t3, t4])), (t1, .inl (kt1, 8, .inl ft)), (t2, .inl (kt2, 8, .inl f_20))]) [0, 1, 2] (by decide) rfl
      have hK9 := hK.sub (tys' := [(kt1, .int), (kt2, .int)]) [0, 1] rfl
      exact W.zret (v := 1) hx hb hr (by decide) (fun t ht hW => ⟨⟨1, (), rfl, (Or.inl ⟨rfl, un_ex (uc_f c_2) ef_1 p_23⟩), f_20, (agr_2 p_21 ef_1), (fun _ => un_ls (by omega) (uc_f c_2) ef_1 p_21 (p_22 p_23)), by rw [ht]; exact hP9, va_K.moved hW.alike hK9, hD9⟩, hS.F ht⟩) hS.2.2 dX7_fitInto_38
    · skip
      have hP9 := hP.sub (ws' := [(h0, .inr (6, [t0, .ref t1, .ref t2, t3, t4])), (t1, .inl (kt1, 8, .inl ft)), (t2, .inl (kt2, 8, .inl f_20))]) [0, 1, 2] rfl
      have hD9 := hD.sub (ws' := [(h0, .inr (6, [t0, .ref t1, .ref t2, t3, t4])), (t1, .inl (kt1, 8, .inl ft)), (t2, .inl (kt2, 8, .inl f_20))]) [0, 1, 2] (by decide) rfl
      have hK9 := hK.sub (tys' := [(kt1, .int), (kt2, .int)]) [0, 1] rfl
      exact W.zret (v := 0) hx hb hr (by decide) (fun t ht hW => ⟨⟨0, (), rfl, (Or.inr ⟨rfl, un_no (by omega) (uc_f c_2) ef_1 p_23⟩), f_20, (agr_2 p_21 ef_1), (fun q9 => absurd q9 (un_no (by omega) (uc_f c_2) ef_1 p_23)), by rw [ht]; exact hP9, va_K.moved hW.alike hK9, hD9⟩, hS.F ht⟩) hS.2.2 dX7_fitInto_38
set_option maxHeartbeats 4000000 in
set_option maxRecDepth 100000 in
theorem c_fit4 (l : Launch) (dC : Nat → ClassId) (dI : Nat → Nat → Nat) (sz : Nat) (h0 : Nat) (t0 : Value) (t1 : Nat) (t2 : Nat) (t3 : Value) (t4 : Value) (kt1 : ClassId) (ft : Nat → Int32) (kt2 : ClassId) (fcl : Nat → Int32) (lm : Nat) (us : Int32) (hlm : lm ≤ 8) (hus : Int32.toInt us = ((uN fcl 4 : Nat) : Int)) : Met l yX7_fitInto (wq yX7_fitInto cX7_fitInto 5 (some .boolean)) ({ frames := 5, cells := 0, slots := 0, locals := 116 }) (va_Pc [.ref h0, .int (nI lm), .int 4, .int us] (pcW dC dI [(kt1, .int), (kt2, .int)] [(h0, .inr (6, [t0, .ref t1, .ref t2, t3, t4])), (t1, .inl (kt1, 8, .inl ft)), (t2, .inl (kt2, 8, .inl fcl))] sz)) (va_Qi (fun (r : Int32) (_ : Unit) => (r = 1 ∧ cEx (uC ft) (kB ft) lm fcl 4) ∨ (r = 0 ∧ ¬ cEx (uC ft) (kB ft) lm fcl 4)) (fun _ t => ∃ (fcl2 : Nat → Int32), (agr fcl2 fcl 4) ∧ (cEx (uC ft) (kB ft) lm fcl 4 → cLs (uC ft) (kB ft) lm fcl 4 fcl2) ∧ va_P (dC, dI) vwCl [(h0, .inr (6, [t0, .ref t1, .ref t2, t3, t4])), (t1, .inl (kt1, 8, .inl ft)), (t2, .inl (kt2, 8, .inl fcl2))] t.heap ∧ va_K (dC, dI) vwCl [(kt1, .int), (kt2, .int)] t ∧ va_D (va_A [(h0, .inr (6, [t0, .ref t1, .ref t2, t3, t4])), (t1, .inl (kt1, 8, .inl ft)), (t2, .inl (kt2, 8, .inl fcl))] sz) [(h0, .inr (6, [t0, .ref t1, .ref t2, t3, t4])), (t1, .inl (kt1, 8, .inl ft)), (t2, .inl (kt2, 8, .inl fcl2))]) (va_A [(h0, .inr (6, [t0, .ref t1, .ref t2, t3, t4])), (t1, .inl (kt1, 8, .inl ft)), (t2, .inl (kt2, 8, .inl fcl))] sz)) 0 0 (va_A [(h0, .inr (6, [t0, .ref t1, .ref t2, t3, t4])), (t1, .inl (kt1, 8, .inl ft)), (t2, .inl (kt2, 8, .inl fcl))] sz) := by
  refine Met.ofW (cc := cX7_fitInto) (maxL := 5) (ret := (some .boolean)) (by decide) rfl ?_
  intro p e s m args below meth c s₁ B hml hv
  obtain ⟨rfl, hsz, hN, hP, hK, hD0⟩ := hv
  have hx := B.exec
  have hb := B.bytes
  have hr := B.returns
  have hts0 := atoms_spec (ws := (wq yX7_fitInto cX7_fitInto 5 (some .boolean))) B.pre
  have hts : ∀ w ∈ BG, w.before _ s = true := fun w h => hts0 w (List.mem_cons_of_mem _ h)
  have hown : s.vm.findClass RX7 = some m.cls := findClass_of_methodNamed B.named
  have hlocks := B.notSynchronized
  subst hsz
  have hD := hD0.self (sz := s.heap.size)
  generalize hAe : va_A [(h0, .inr (6, [t0, .ref t1, .ref t2, t3, t4])), (t1, .inl (kt1, 8, .inl ft)), (t2, .inl (kt2, 8, .inl fcl))] s.heap.size = A at hD ⊢
  have hA : ∀ q : Nat, s.heap.size ≤ q → A q := fun q h => by rw [← hAe]; exact Or.inr h
  have hS : va_S A s.heap s.heap [] := va_S.rf
  clear hAe hD0
  have hP : va_P (dC, dI) vwCl [(h0, .inr (6, [t0, .ref t1, .ref t2, t3, t4])), (t1, .inl (kt1, 8, .inl ft)), (t2, .inl (kt2, 8, .inl fcl))] s.heap := hP
  have hl := lv_entry ([.ref h0, .int (nI lm), .int 4, .int us]) (n := 5) (Nat.le_of_ble_eq_true rfl)
  rw [lg_entry_eq]
  generalize (lg_sl ([.ref h0, .int (nI lm), .int 4, .int us]) ++ List.replicate (5 - (lg_sl ([.ref h0, .int (nI lm), .int 4, .int us])).length) Slot.unset).toArray = ls at hl ⊢
  have hl : lv_has ls 5 [(0, .ref h0), (1, .int (nI lm)), (2, .int 4), (3, .int us)] := hl
  refine lv_iload_n hx hb dX7_fitInto_0 rfl (lv_at hl 2 rfl) ?_
  refine lv_if_lt (tgt := 10) hx hb dX7_fitInto_1 (by decide) (fun h => absurd h (by decide)) (fun _ => ?_)
  refine lv_iload_n hx hb dX7_fitInto_4 rfl (lv_at hl 2 rfl) ?_
  refine lv_bipush (v := 8) hx hb dX7_fitInto_5 (by decide) ?_
  refine lv_icmp_lt (tgt := 12) hx hb dX7_fitInto_7 (by decide) (fun _ => ?_) (fun h => absurd (by decide) h)
  refine lv_aload_n hx hb dX7_fitInto_12 rfl (lv_at hl 0 rfl) ?_
  refine va_get (D := (dC, dI)) (ci := 6) (v := .ref t2) (C := RX7) (T := TX7) (N := 5) hx hb hts inB_7 hown hK hP 0 rfl rfl 2 (by decide) (hts _ mw_1_129) (fun _ h9 => h9) rfl dX7_fitInto_13 ?_
  refine lv_iload_n hx hb dX7_fitInto_16 rfl (lv_at hl 2 rfl) ?_
  refine lv_bipush (v := (-6)) hx hb dX7_fitInto_17 (by decide) ?_
  refine va_iast hx hb hK hP hD hS 2 1 rfl rfl (show vp_in 4 8 by unfold vp_in; decide) dX7_fitInto_19 (fun H locs hP hD hS => ?_)
  obtain ⟨f_1, ef_1⟩ : ∃ g : Nat → Int32, g = upd fcl (Int32.toNatClampNeg 4) (-6) := ⟨_, rfl⟩
  rw [← ef_1] at hP hD
  have ef_1 : f_1 = upd fcl 4 (-6) := ef_1
  have hP : va_P (dC, dI) vwCl [(h0, .inr (6, [t0, .ref t1, .ref t2, t3, t4])), (t1, .inl (kt1, 8, .inl ft)), (t2, .inl (kt2, 8, .inl f_1))] H := hP
  have hD : va_D A [(h0, .inr (6, [t0, .ref t1, .ref t2, t3, t4])), (t1, .inl (kt1, 8, .inl ft)), (t2, .inl (kt2, 8, .inl f_1))] := hD
  refine lv_aload_n hx hb dX7_fitInto_20 rfl (lv_at hl 0 rfl) ?_
  refine va_get (D := (dC, dI)) (ci := 6) (v := .ref t1) (C := RX7) (T := TX7) (N := 5) hx hb hts inB_7 hown hK hP 0 rfl rfl 1 (by decide) (hts _ mw_1_128) (fun _ h9 => h9) rfl dX7_fitInto_21 ?_
  refine lv_iload_n hx hb dX7_fitInto_24 rfl (lv_at hl 2 rfl) ?_
  refine va_iald hx hb hK hP 1 0 rfl rfl (show vp_in 4 8 by unfold vp_in; decide) dX7_fitInto_25 ?_
  refine hx_top (y := (ft 4)) rfl ?_
  refine lv_if_ne (tgt := 39) hx hb dX7_fitInto_26 (by decide) (fun c_2 => ?_) (fun c_2 => ?_)
  · have b_3 := gx_ne (X := (Int32.toInt (ft 4))) (C := 0) rfl (by decide) c_2
    refine lv_iconst (v := 0) hx hb dX7_fitInto_39 (by decide) ?_
    refine lv_istore (lv' := [(4, .int 0), (0, .ref h0), (1, .int (nI lm)), (2, .int 4), (3, .int us)]) hx hb dX7_fitInto_40 hl (by decide) rfl (fun ls hl => ?_)
    have key_4 : ∀ (fu : Nat) (cq : Nat) (fcx : Nat → Int32), (cq ≤ 8) → (agr fcx fcl 4) → (cNo (uC ft) (kB ft) lm fcl 4 cq) → 8 - cq < fu → ∀ (H : Heap) (locs : List Loc), va_P (dC, dI) vwCl [(h0, .inr (6, [t0, .ref t1, .ref t2, t3, t4])), (t1, .inl (kt1, 8, .inl ft)), (t2, .inl (kt2, 8, .inl fcx))] H → va_D A [(h0, .inr (6, [t0, .ref t1, .ref t2, t3, t4])), (t1, .inl (kt1, 8, .inl ft)), (t2, .inl (kt2, 8, .inl fcx))] → va_S A s.heap H locs → ∀ (ls : Array Slot), lv_has ls 5 [(4, .int (nI cq)), (0, .ref h0), (1, .int (nI lm)), (2, .int 4), (3, .int us)] → W p l e (headSpec (wq yX7_fitInto cX7_fitInto 5 (some .boolean)) ({ frames := 5, cells := 0, slots := 0, locals := 116 })).room s m (([.ref h0, .int (nI lm), .int 4, .int us] : List Value)).toArray below meth c H locs 0 0 (MQ below (va_Qi (fun (r : Int32) (_ : Unit) => (r = 1 ∧ cEx (uC ft) (kB ft) lm fcl 4) ∨ (r = 0 ∧ ¬ cEx (uC ft) (kB ft) lm fcl 4)) (fun _ t => ∃ (fcl2 : Nat → Int32), (agr fcl2 fcl 4) ∧ (cEx (uC ft) (kB ft) lm fcl 4 → cLs (uC ft) (kB ft) lm fcl 4 fcl2) ∧ va_P (dC, dI) vwCl [(h0, .inr (6, [t0, .ref t1, .ref t2, t3, t4])), (t1, .inl (kt1, 8, .inl ft)), (t2, .inl (kt2, 8, .inl fcl2))] t.heap ∧ va_K (dC, dI) vwCl [(kt1, .int), (kt2, .int)] t ∧ va_D A [(h0, .inr (6, [t0, .ref t1, .ref t2, t3, t4])), (t1, .inl (kt1, 8, .inl ft)), (t2, .inl (kt2, 8, .inl fcl2))]) A) (([.ref h0, .int (nI lm), .int 4, .int us] : List Value)).toArray s 0 0 A) (F0 m 42 ls []) := by
      intro fu
      induction fu with
      | zero => intro cq fcx hcq hag hno hme; exact absurd hme (Nat.not_lt_zero _)
      | succ fu ih_5 =>
        intro cq fcx hcq hag hno hme H locs hP hD hS ls hl
        refine lv_iload hx hb dX7_fitInto_42 (lv_at hl 0 rfl) ?_
        refine lv_iload_n hx hb dX7_fitInto_44 rfl (lv_at hl 4 rfl) ?_
        refine lv_icmp_gt (tgt := 102) hx hb dX7_fitInto_45 (by decide) (fun c_6 => ?_) (fun c_6 => ?_)
        · have b_7 := gx_gt (X := ((cq : Nat) : Int)) (C := (Int32.toInt us)) (nI_toInt (by omega)) rfl c_6
          refine lv_iconst (v := 0) hx hb dX7_fitInto_102 (by decide) ?_
          have hP9 := hP.sub (ws' := [(h0, .inr (6, [t0, .ref t1, .ref t2, t3, t4])), (t1, .inl (kt1, 8, .inl ft)), (t2, .inl (kt2, 8, .inl fcx))]) [0, 1, 2] rfl
          have hD9 := hD.sub (ws' := [(h0, .inr (6, [t0, .ref t1, .ref t2, t3, t4])), (t1, .inl (kt1, 8, .inl ft)), (t2, .inl (kt2, 8, .inl fcx))]) [0, 1, 2] (by decide) rfl
          have hK9 := hK.sub (tys' := [(kt1, .int), (kt2, .int)]) [0, 1] rfl
          exact W.zret (v := 0) hx hb hr (by decide) (fun t ht hW => ⟨⟨0, (), rfl, (Or.inr ⟨rfl, cn_end (by omega) (uc_t c_2) hus hno (by omega)⟩), fcx, hag, (fun q9 => absurd q9 (cn_end (by omega) (uc_t c_2) hus hno (by omega))), by rw [ht]; exact hP9, va_K.moved hW.alike hK9, hD9⟩, hS.F ht⟩) hS.2.2 dX7_fitInto_103
        · have b_7 := gn_gt (X := ((cq : Nat) : Int)) (C := (Int32.toInt us)) (nI_toInt (by omega)) rfl c_6
          refine lv_iload hx hb dX7_fitInto_48 (lv_at hl 0 rfl) ?_
          refine lv_iload_n hx hb dX7_fitInto_50 rfl (lv_at hl 2 rfl) ?_
          refine lv_icmp_ge (tgt := 102) hx hb dX7_fitInto_51 (by decide) (fun c_8 => ?_) (fun c_8 => ?_)
          · have b_9 := gx_ge (X := ((cq : Nat) : Int)) (C := ((lm : Nat) : Int)) (nI_toInt (by omega)) (nI_toInt (by omega)) c_8
            refine lv_iconst (v := 0) hx hb dX7_fitInto_102 (by decide) ?_
            have hP9 := hP.sub (ws' := [(h0, .inr (6, [t0, .ref t1, .ref t2, t3, t4])), (t1, .inl (kt1, 8, .inl ft)), (t2, .inl (kt2, 8, .inl fcx))]) [0, 1, 2] rfl
            have hD9 := hD.sub (ws' := [(h0, .inr (6, [t0, .ref t1, .ref t2, t3, t4])), (t1, .inl (kt1, 8, .inl ft)), (t2, .inl (kt2, 8, .inl fcx))]) [0, 1, 2] (by decide) rfl
            have hK9 := hK.sub (tys' := [(kt1, .int), (kt2, .int)]) [0, 1] rfl
            exact W.zret (v := 0) hx hb hr (by decide) (fun t ht hW => ⟨⟨0, (), rfl, (Or.inr ⟨rfl, cn_end (by omega) (uc_t c_2) hus hno (by omega)⟩), fcx, hag, (fun q9 => absurd q9 (cn_end (by omega) (uc_t c_2) hus hno (by omega))), by rw [ht]; exact hP9, va_K.moved hW.alike hK9, hD9⟩, hS.F ht⟩) hS.2.2 dX7_fitInto_103
          · have b_9 := gn_ge (X := ((cq : Nat) : Int)) (C := ((lm : Nat) : Int)) (nI_toInt (by omega)) (nI_toInt (by omega)) c_8
            refine lv_aload_n hx hb dX7_fitInto_54 rfl (lv_at hl 1 rfl) ?_
            refine lv_iload hx hb dX7_fitInto_55 (lv_at hl 0 rfl) ?_
            refine lv_iload_n hx hb dX7_fitInto_57 rfl (lv_at hl 3 rfl) ?_
            have hPc := hP.sub (ws' := [(h0, .inr (6, [t0, .ref t1, .ref t2, t3, t4])), (t1, .inl (kt1, 8, .inl ft)), (t2, .inl (kt2, 8, .inl fcx))]) [0, 1, 2] rfl
            have hDc := hD.sub (ws' := [(h0, .inr (6, [t0, .ref t1, .ref t2, t3, t4])), (t1, .inl (kt1, 8, .inl ft)), (t2, .inl (kt2, 8, .inl fcx))]) [0, 1, 2] (by decide) rfl
            have hKc := hK.sub (tys' := [(kt1, .int), (kt2, .int)]) [0, 1] rfl
            refine va_calli (va_runV (As := [.int (nI cq), .int 4]) (rest := []) ⟨hx, hb, hml, hown, hts⟩ (c_isFree l dC dI H.size h0 (t0) t1 t2 (t3) (t4) kt1 ft kt2 fcx (nI cq) 4 (by omega)) (cwV 2 hts (gV mw_3_30 mw_3_32 mw_0_8 mw_1_7 mw_3_33) rfl rfl rfl (by decide +kernel) ⟨Nat.le_of_ble_eq_true rfl, Nat.le_of_ble_eq_true rfl⟩) ⟨pcW_blind, va_recv hKc hPc (ci := 6) (q0 := 0) rfl rfl, pcW_at hPc hKc hDc hN⟩ rfl rfl hl.1 rfl (lv_room (Nat.le_of_ble_eq_true rfl)) dX7_fitInto_58 ⟨Nat.le_of_ble_eq_true rfl, Nat.le_of_ble_eq_true rfl⟩) hS (fun q h1 h2 => absurd h2 (Nat.not_le.mpr h1)) (fun q h => hA q (Nat.le_trans hS.1 h)) (fun r_10 u t H1 locs ht hvm hw_10 hB hz1 hk1 hS => ?_)
            have hP := keepP hP hk1
            clear hz1 hk1 hB ht hvm hPc hDc hKc
            generalize H1 = H at hP hS ⊢
            rcases hw_10 with ⟨rfl, p_11⟩ | ⟨rfl, p_11⟩
            · skip
              refine lv_if_ne (tgt := 67) hx hb dX7_fitInto_61 (by decide) (fun _ => ?_) (fun h => absurd h (by decide))
              refine lv_aload_n hx hb dX7_fitInto_67 rfl (lv_at hl 1 rfl) ?_
              refine va_get (D := (dC, dI)) (ci := 6) (v := .ref t2) (C := RX7) (T := TX7) (N := 5) hx hb hts inB_7 hown hK hP 0 rfl rfl 2 (by decide) (hts _ mw_1_129) (fun _ h9 => h9) rfl dX7_fitInto_68 ?_
              refine lv_iload_n hx hb dX7_fitInto_71 rfl (lv_at hl 3 rfl) ?_
              refine lv_iload hx hb dX7_fitInto_72 (lv_at hl 0 rfl) ?_
              refine va_iast hx hb hK hP hD hS 2 1 rfl rfl (show vp_in 4 8 by unfold vp_in; decide) dX7_fitInto_74 (fun H locs hP hD hS => ?_)
              obtain ⟨f_12, ef_12⟩ : ∃ g : Nat → Int32, g = upd fcx (Int32.toNatClampNeg 4) (nI cq) := ⟨_, rfl⟩
              rw [← ef_12] at hP hD
              have ef_12 : f_12 = upd fcx 4 (nI cq) := ef_12
              have hP : va_P (dC, dI) vwCl [(h0, .inr (6, [t0, .ref t1, .ref t2, t3, t4])), (t1, .inl (kt1, 8, .inl ft)), (t2, .inl (kt2, 8, .inl f_12))] H := hP
              have hD : va_D A [(h0, .inr (6, [t0, .ref t1, .ref t2, t3, t4])), (t1, .inl (kt1, 8, .inl ft)), (t2, .inl (kt2, 8, .inl f_12))] := hD
              refine lv_aload_n hx hb dX7_fitInto_75 rfl (lv_at hl 1 rfl) ?_
              refine lv_iload_n hx hb dX7_fitInto_76 rfl (lv_at hl 2 rfl) ?_
              refine lv_iload_n hx hb dX7_fitInto_77 rfl (lv_at hl 3 rfl) ?_
              refine lv_iconst (v := 1) hx hb dX7_fitInto_78 (by decide) ?_
              refine lv_iadd hx hb dX7_fitInto_79 ?_
              refine hx_top (y := 5) (by decide) ?_
              refine lv_iload_n hx hb dX7_fitInto_80 rfl (lv_at hl 4 rfl) ?_
              refine lv_iload hx hb dX7_fitInto_81 (lv_at hl 0 rfl) ?_
              refine lv_iconst (v := 1) hx hb dX7_fitInto_83 (by decide) ?_
              refine lv_iadd hx hb dX7_fitInto_84 ?_
              refine hx_top (y := (nI (cq + 1))) (nI_add cq 1) ?_
              refine va_mmax hx hb (by rw [hml]; exact hl.1.symm) hown (hts _ mw_3_34) (hts _ mw_2_150) (hts _ mw_1_10) (hts _ mw_2_151) (Nat.le_of_ble_eq_true rfl) (Nat.le_of_ble_eq_true rfl) (Nat.le_of_ble_eq_true rfl) (Nat.le_of_ble_eq_true rfl) dX7_fitInto_85 ?_
              refine lv_topi (fun z_13 ez_13 => ?_)
              have fz_13 := gx_max (X := (Int32.toInt us)) (C := (((cq + 1) : Nat) : Int)) rfl (nI_toInt (by omega)) ez_13
              have hPc := hP.sub (ws' := [(h0, .inr (6, [t0, .ref t1, .ref t2, t3, t4])), (t1, .inl (kt1, 8, .inl ft)), (t2, .inl (kt2, 8, .inl f_12))]) [0, 1, 2] rfl
              have hDc := hD.sub (ws' := [(h0, .inr (6, [t0, .ref t1, .ref t2, t3, t4])), (t1, .inl (kt1, 8, .inl ft)), (t2, .inl (kt2, 8, .inl f_12))]) [0, 1, 2] (by decide) rfl
              have hKc := hK.sub (tys' := [(kt1, .int), (kt2, .int)]) [0, 1] rfl
              have hFc := va_free (wc := [(h0, .inr (6, [t0, .ref t1, .ref t2, t3, t4])), (t1, .inl (kt1, 8, .inl ft)), (t2, .inl (kt2, 8, .inl f_12))]) hD hS hA [0, 1, 2] rfl
              refine va_calli (va_runV (As := [.int (nI lm), .int 5, .int z_13]) (rest := []) ⟨hx, hb, hml, hown, hts⟩ (c_fit5 l dC dI H.size h0 (t0) t1 t2 (t3) (t4) kt1 ft kt2 f_12 lm z_13 hlm (uN_max hus hag ef_12 (by omega) fz_13)) (cwV 3 hts (gV mw_3_26 mw_3_28 mw_0_7 mw_1_7 mw_3_29) rfl rfl rfl (by decide +kernel) ⟨Nat.le_of_ble_eq_true rfl, Nat.le_of_ble_eq_true rfl⟩) ⟨pcW_blind, va_recv hKc hPc (ci := 6) (q0 := 0) rfl rfl, pcW_at hPc hKc hDc hN⟩ rfl rfl hl.1 rfl (lv_room (Nat.le_of_ble_eq_true rfl)) dX7_fitInto_88 ⟨Nat.le_of_ble_eq_true rfl, Nat.le_of_ble_eq_true rfl⟩) hS (fun q _ h => hFc q h) hFc (fun r_14 u t H1 locs ht hvm hw_14 hB hz1 hk1 hS => ?_)
              obtain ⟨f_15, p_16, p_17, hP1, hK1, hD1⟩ := hB
              rw [ht] at hP1
              have hK1 := va_K.moved hvm.symm hK1
              obtain ⟨hP, hD⟩ := va_join (wr := []) (w1 := [(h0, .inr (6, [t0, .ref t1, .ref t2, t3, t4])), (t1, .inl (kt1, 8, .inl ft)), (t2, .inl (kt2, 8, .inl f_15))]) hP hD [0, 1, 2] [] rfl rfl (by decide) (by decide) hk1 hFc hP1 hD1
              have hK := (hK.sub (tys' := []) [] rfl).app hK1
              clear hz1 hk1 hPc hDc hKc hFc
              generalize H1 = H at hP hS ⊢
              have hK : va_K (dC, dI) vwCl [(kt1, .int), (kt2, .int)] s := hK
              have hP : va_P (dC, dI) vwCl [(h0, .inr (6, [t0, .ref t1, .ref t2, t3, t4])), (t1, .inl (kt1, 8, .inl ft)), (t2, .inl (kt2, 8, .inl f_15))] H := hP
              have hD : va_D A [(h0, .inr (6, [t0, .ref t1, .ref t2, t3, t4])), (t1, .inl (kt1, 8, .inl ft)), (t2, .inl (kt2, 8, .inl f_15))] := hD
              rcases hw_14 with ⟨rfl, p_18⟩ | ⟨rfl, p_18⟩
              · skip
                refine lv_if_eq (tgt := 96) hx hb dX7_fitInto_91 (by decide) (fun h => absurd h (by decide)) (fun _ => ?_)
                refine lv_iconst (v := 1) hx hb dX7_fitInto_94 (by decide) ?_
                have hP9 := hP.sub (ws' := [(h0, .inr (6, [t0, .ref t1, .ref t2, t3, t4])), (t1, .inl (kt1, 8, .inl ft)), (t2, .inl (kt2, 8, .inl f_15))]) [0, 1, 2] rfl
                have hD9 := hD.sub (ws' := [(h0, .inr (6, [t0, .ref t1, .ref t2, t3, t4])), (t1, .inl (kt1, 8, .inl ft)), (t2, .inl (kt2, 8, .inl f_15))]) [0, 1, 2] (by decide) rfl
                have hK9 := hK.sub (tys' := [(kt1, .int), (kt2, .int)]) [0, 1] rfl
                exact W.zret (v := 1) hx hb hr (by decide) (fun t ht hW => ⟨⟨1, (), rfl, (Or.inl ⟨rfl, cn_okE (uc_t c_2) hus (by omega) (by omega) hag ef_12 p_11 p_18⟩), f_15, (agr_3 p_16 ef_12 hag), (fun _ => cn_ok (by omega) hlm (uc_t c_2) hus (by omega) (by omega) hag ef_12 p_11 hno p_16 (p_17 p_18)), by rw [ht]; exact hP9, va_K.moved hW.alike hK9, hD9⟩, hS.F ht⟩) hS.2.2 dX7_fitInto_95
              · skip
                refine lv_if_eq (tgt := 96) hx hb dX7_fitInto_91 (by decide) (fun _ => ?_) (fun h => absurd (by decide) h)
                refine lv_iinc (v := (nI (cq + 1))) (lv' := [(4, .int (nI (cq + 1))), (0, .ref h0), (1, .int (nI lm)), (2, .int 4), (3, .int us)]) hx hb dX7_fitInto_96 hl (k := 0) rfl (nI_add cq 1) (by decide) rfl (fun ls hl => ?_)
                refine lv_goto (tgt := 42) hx hb dX7_fitInto_99 (by decide) ?_
                exact ih_5 (cq + 1) f_15 (by omega) (agr_3 p_16 ef_12 hag) (cn_fail hag ef_12 p_18 hno) (by omega) _ _ hP hD hS ls (lv_sub hl [0, 1, 2, 3, 4] rfl)
            · skip
              refine lv_if_ne (tgt := 67) hx hb dX7_fitInto_61 (by decide) (fun h => absurd h (by decide)) (fun _ => ?_)
              refine lv_goto (tgt := 96) hx hb dX7_fitInto_64 (by decide) ?_
              refine lv_iinc (v := (nI (cq + 1))) (lv' := [(4, .int (nI (cq + 1))), (0, .ref h0), (1, .int (nI lm)), (2, .int 4), (3, .int us)]) hx hb dX7_fitInto_96 hl (k := 0) rfl (nI_add cq 1) (by decide) rfl (fun ls hl => ?_)
              refine lv_goto (tgt := 42) hx hb dX7_fitInto_99 (by decide) ?_
              exact ih_5 (cq + 1) fcx (by omega) hag (cn_busy (by omega) (uc_t c_2) hag p_11 hno) (by omega) _ _ hP hD hS ls (lv_sub hl [0, 1, 2, 3, 4] rfl)
    exact key_4 ((8 - 0) + 1) 0 f_1 (by omega) (agr_up (Nat.le_refl _) ef_1) cn_0 (Nat.lt_succ_self _) _ _ hP hD hS ls (lv_sub hl [0, 1, 2, 3, 4] rfl)
  · have b_3 := gn_ne (X := (Int32.toInt (ft 4))) (C := 0) rfl (by decide) c_2
    refine lv_aload_n hx hb dX7_fitInto_29 rfl (lv_at hl 0 rfl) ?_
    refine lv_iload_n hx hb dX7_fitInto_30 rfl (lv_at hl 1 rfl) ?_
    refine lv_iload_n hx hb dX7_fitInto_31 rfl (lv_at hl 2 rfl) ?_
    refine lv_iconst (v := 1) hx hb dX7_fitInto_32 (by decide) ?_
    refine lv_iadd hx hb dX7_fitInto_33 ?_
    refine hx_top (y := 5) (by decide) ?_
    refine lv_iload_n hx hb dX7_fitInto_34 rfl (lv_at hl 3 rfl) ?_
    have hPc := hP.sub (ws' := [(h0, .inr (6, [t0, .ref t1, .ref t2, t3, t4])), (t1, .inl (kt1, 8, .inl ft)), (t2, .inl (kt2, 8, .inl f_1))]) [0, 1, 2] rfl
    have hDc := hD.sub (ws' := [(h0, .inr (6, [t0, .ref t1, .ref t2, t3, t4])), (t1, .inl (kt1, 8, .inl ft)), (t2, .inl (kt2, 8, .inl f_1))]) [0, 1, 2] (by decide) rfl
    have hKc := hK.sub (tys' := [(kt1, .int), (kt2, .int)]) [0, 1] rfl
    have hFc := va_free (wc := [(h0, .inr (6, [t0, .ref t1, .ref t2, t3, t4])), (t1, .inl (kt1, 8, .inl ft)), (t2, .inl (kt2, 8, .inl f_1))]) hD hS hA [0, 1, 2] rfl
    refine va_calli (va_runV (As := [.int (nI lm), .int 5, .int us]) (rest := []) ⟨hx, hb, hml, hown, hts⟩ (c_fit5 l dC dI H.size h0 (t0) t1 t2 (t3) (t4) kt1 ft kt2 f_1 lm us hlm (uN_un hus ef_1)) (cwV 3 hts (gV mw_3_26 mw_3_28 mw_0_7 mw_1_7 mw_3_29) rfl rfl rfl (by decide +kernel) ⟨Nat.le_of_ble_eq_true rfl, Nat.le_of_ble_eq_true rfl⟩) ⟨pcW_blind, va_recv hKc hPc (ci := 6) (q0 := 0) rfl rfl, pcW_at hPc hKc hDc hN⟩ rfl rfl hl.1 rfl (lv_room (Nat.le_of_ble_eq_true rfl)) dX7_fitInto_35 ⟨Nat.le_of_ble_eq_true rfl, Nat.le_of_ble_eq_true rfl⟩) hS (fun q _ h => hFc q h) hFc (fun r_19 u t H1 locs ht hvm hw_19 hB hz1 hk1 hS => ?_)
    obtain ⟨f_20, p_21, p_22, hP1, hK1, hD1⟩ := hB
    rw [ht] at hP1
    have hK1 := va_K.moved hvm.symm hK1
    obtain ⟨hP, hD⟩ := va_join (wr := []) (w1 := [(h0, .inr (6, [t0, .ref t1, .ref t2, t3, t4])), (t1, .inl (kt1, 8, .inl ft)), (t2, .inl (kt2, 8, .inl f_20))]) hP hD [0, 1, 2] [] rfl rfl (by decide) (by decide) hk1 hFc hP1 hD1
    have hK := (hK.sub (tys' := []) [] rfl).app hK1
    clear hz1 hk1 hPc hDc hKc hFc
    generalize H1 = H at hP hS ⊢
    have hK : va_K (dC, dI) vwCl [(kt1, .int), (kt2, .int)] s := hK
    have hP : va_P (dC, dI) vwCl [(h0, .inr (6, [t0, .ref t1, .ref t2, t3, t4])), (t1, .inl (kt1, 8, .inl ft)), (t2, .inl (kt2, 8, .inl f_20))] H := hP
    have hD : va_D A [(h0, .inr (6, [t0, .ref t1, .ref t2, t3, t4])), (t1, .inl (kt1, 8, .inl ft)), (t2, .inl (kt2, 8, .inl f_20))] := hD
    rcases hw_19 with ⟨rfl, p_23⟩ | ⟨rfl, p_23⟩
    · skip
      have hP9 := hP.sub (ws' := [(h0, .inr (6, [t0, .ref t1, .ref t2, t3, t4])), (t1, .inl (kt1, 8, .inl ft)), (t2, .inl (kt2, 8, .inl f_20))]) [0, 1, 2] rfl
      have hD9 := hD.sub (ws' := [(h0, .inr (6, [t0, .ref t1, .ref t2, t3, t4])), (t1, .inl (kt1, 8, .inl ft)), (t2, .inl (kt2, 8, .inl f_20))]) [0, 1, 2] (by decide) rfl
      have hK9 := hK.sub (tys' := [(kt1, .int), (kt2, .int)]) [0, 1] rfl
      exact W.zret (v := 1) hx hb hr (by decide) (fun t ht hW => ⟨⟨1, (), rfl, (Or.inl ⟨rfl, un_ex (uc_f c_2) ef_1 p_23⟩), f_20, (agr_2 p_21 ef_1), (fun _ => un_ls (by omega) (uc_f c_2) ef_1 p_21 (p_22 p_23)), by rw [ht]; exact hP9, va_K.moved hW.alike hK9, hD9⟩, hS.F ht⟩) hS.2.2 dX7_fitInto_38
    · skip
      have hP9 := hP.sub (ws' := [(h0, .inr (6, [t0, .ref t1, .ref t2, t3, t4])), (t1, .inl (kt1, 8, .inl ft)), (t2, .inl (kt2, 8, .inl f_20))]) [0, 1, 2] rfl
      have hD9 := hD.sub (ws' := [(h0, .inr (6, [t0, .ref t1, .ref t2, t3, t4])), (t1, .inl (kt1, 8, .inl ft)), (t2, .inl (kt2, 8, .inl f_20))]) [0, 1, 2] (by decide) rfl
      have hK9 := hK.sub (tys' := [(kt1, .int), (kt2, .int)]) [0, 1] rfl
      exact W.zret (v := 0) hx hb hr (by decide) (fun t ht hW => ⟨⟨0, (), rfl, (Or.inr ⟨rfl, un_no (by omega) (uc_f c_2) ef_1 p_23⟩), f_20, (agr_2 p_21 ef_1), (fun q9 => absurd q9 (un_no (by omega) (uc_f c_2) ef_1 p_23)), by rw [ht]; exact hP9, va_K.moved hW.alike hK9, hD9⟩, hS.F ht⟩) hS.2.2 dX7_fitInto_38
set_option maxHeartbeats 4000000 in
set_option maxRecDepth 100000 in
theorem c_fit3 (l : Launch) (dC : Nat → ClassId) (dI : Nat → Nat → Nat) (sz : Nat) (h0 : Nat) (t0 : Value) (t1 : Nat) (t2 : Nat) (t3 : Value) (t4 : Value) (kt1 : ClassId) (ft : Nat → Int32) (kt2 : ClassId) (fcl : Nat → Int32) (lm : Nat) (us : Int32) (hlm : lm ≤ 8) (hus : Int32.toInt us = ((uN fcl 3 : Nat) : Int)) : Met l yX7_fitInto (wq yX7_fitInto cX7_fitInto 5 (some .boolean)) ({ frames := 6, cells := 0, slots := 0, locals := 140 }) (va_Pc [.ref h0, .int (nI lm), .int 3, .int us] (pcW dC dI [(kt1, .int), (kt2, .int)] [(h0, .inr (6, [t0, .ref t1, .ref t2, t3, t4])), (t1, .inl (kt1, 8, .inl ft)), (t2, .inl (kt2, 8, .inl fcl))] sz)) (va_Qi (fun (r : Int32) (_ : Unit) => (r = 1 ∧ cEx (uC ft) (kB ft) lm fcl 3) ∨ (r = 0 ∧ ¬ cEx (uC ft) (kB ft) lm fcl 3)) (fun _ t => ∃ (fcl2 : Nat → Int32), (agr fcl2 fcl 3) ∧ (cEx (uC ft) (kB ft) lm fcl 3 → cLs (uC ft) (kB ft) lm fcl 3 fcl2) ∧ va_P (dC, dI) vwCl [(h0, .inr (6, [t0, .ref t1, .ref t2, t3, t4])), (t1, .inl (kt1, 8, .inl ft)), (t2, .inl (kt2, 8, .inl fcl2))] t.heap ∧ va_K (dC, dI) vwCl [(kt1, .int), (kt2, .int)] t ∧ va_D (va_A [(h0, .inr (6, [t0, .ref t1, .ref t2, t3, t4])), (t1, .inl (kt1, 8, .inl ft)), (t2, .inl (kt2, 8, .inl fcl))] sz) [(h0, .inr (6, [t0, .ref t1, .ref t2, t3, t4])), (t1, .inl (kt1, 8, .inl ft)), (t2, .inl (kt2, 8, .inl fcl2))]) (va_A [(h0, .inr (6, [t0, .ref t1, .ref t2, t3, t4])), (t1, .inl (kt1, 8, .inl ft)), (t2, .inl (kt2, 8, .inl fcl))] sz)) 0 0 (va_A [(h0, .inr (6, [t0, .ref t1, .ref t2, t3, t4])), (t1, .inl (kt1, 8, .inl ft)), (t2, .inl (kt2, 8, .inl fcl))] sz) := by
  refine Met.ofW (cc := cX7_fitInto) (maxL := 5) (ret := (some .boolean)) (by decide) rfl ?_
  intro p e s m args below meth c s₁ B hml hv
  obtain ⟨rfl, hsz, hN, hP, hK, hD0⟩ := hv
  have hx := B.exec
  have hb := B.bytes
  have hr := B.returns
  have hts0 := atoms_spec (ws := (wq yX7_fitInto cX7_fitInto 5 (some .boolean))) B.pre
  have hts : ∀ w ∈ BG, w.before _ s = true := fun w h => hts0 w (List.mem_cons_of_mem _ h)
  have hown : s.vm.findClass RX7 = some m.cls := findClass_of_methodNamed B.named
  have hlocks := B.notSynchronized
  subst hsz
  have hD := hD0.self (sz := s.heap.size)
  generalize hAe : va_A [(h0, .inr (6, [t0, .ref t1, .ref t2, t3, t4])), (t1, .inl (kt1, 8, .inl ft)), (t2, .inl (kt2, 8, .inl fcl))] s.heap.size = A at hD ⊢
  have hA : ∀ q : Nat, s.heap.size ≤ q → A q := fun q h => by rw [← hAe]; exact Or.inr h
  have hS : va_S A s.heap s.heap [] := va_S.rf
  clear hAe hD0
  have hP : va_P (dC, dI) vwCl [(h0, .inr (6, [t0, .ref t1, .ref t2, t3, t4])), (t1, .inl (kt1, 8, .inl ft)), (t2, .inl (kt2, 8, .inl fcl))] s.heap := hP
  have hl := lv_entry ([.ref h0, .int (nI lm), .int 3, .int us]) (n := 5) (Nat.le_of_ble_eq_true rfl)
  rw [lg_entry_eq]
  generalize (lg_sl ([.ref h0, .int (nI lm), .int 3, .int us]) ++ List.replicate (5 - (lg_sl ([.ref h0, .int (nI lm), .int 3, .int us])).length) Slot.unset).toArray = ls at hl ⊢
  have hl : lv_has ls 5 [(0, .ref h0), (1, .int (nI lm)), (2, .int 3), (3, .int us)] := hl
  refine lv_iload_n hx hb dX7_fitInto_0 rfl (lv_at hl 2 rfl) ?_
  refine lv_if_lt (tgt := 10) hx hb dX7_fitInto_1 (by decide) (fun h => absurd h (by decide)) (fun _ => ?_)
  refine lv_iload_n hx hb dX7_fitInto_4 rfl (lv_at hl 2 rfl) ?_
  refine lv_bipush (v := 8) hx hb dX7_fitInto_5 (by decide) ?_
  refine lv_icmp_lt (tgt := 12) hx hb dX7_fitInto_7 (by decide) (fun _ => ?_) (fun h => absurd (by decide) h)
  refine lv_aload_n hx hb dX7_fitInto_12 rfl (lv_at hl 0 rfl) ?_
  refine va_get (D := (dC, dI)) (ci := 6) (v := .ref t2) (C := RX7) (T := TX7) (N := 5) hx hb hts inB_7 hown hK hP 0 rfl rfl 2 (by decide) (hts _ mw_1_129) (fun _ h9 => h9) rfl dX7_fitInto_13 ?_
  refine lv_iload_n hx hb dX7_fitInto_16 rfl (lv_at hl 2 rfl) ?_
  refine lv_bipush (v := (-6)) hx hb dX7_fitInto_17 (by decide) ?_
  refine va_iast hx hb hK hP hD hS 2 1 rfl rfl (show vp_in 3 8 by unfold vp_in; decide) dX7_fitInto_19 (fun H locs hP hD hS => ?_)
  obtain ⟨f_1, ef_1⟩ : ∃ g : Nat → Int32, g = upd fcl (Int32.toNatClampNeg 3) (-6) := ⟨_, rfl⟩
  rw [← ef_1] at hP hD
  have ef_1 : f_1 = upd fcl 3 (-6) := ef_1
  have hP : va_P (dC, dI) vwCl [(h0, .inr (6, [t0, .ref t1, .ref t2, t3, t4])), (t1, .inl (kt1, 8, .inl ft)), (t2, .inl (kt2, 8, .inl f_1))] H := hP
  have hD : va_D A [(h0, .inr (6, [t0, .ref t1, .ref t2, t3, t4])), (t1, .inl (kt1, 8, .inl ft)), (t2, .inl (kt2, 8, .inl f_1))] := hD
  refine lv_aload_n hx hb dX7_fitInto_20 rfl (lv_at hl 0 rfl) ?_
  refine va_get (D := (dC, dI)) (ci := 6) (v := .ref t1) (C := RX7) (T := TX7) (N := 5) hx hb hts inB_7 hown hK hP 0 rfl rfl 1 (by decide) (hts _ mw_1_128) (fun _ h9 => h9) rfl dX7_fitInto_21 ?_
  refine lv_iload_n hx hb dX7_fitInto_24 rfl (lv_at hl 2 rfl) ?_
  refine va_iald hx hb hK hP 1 0 rfl rfl (show vp_in 3 8 by unfold vp_in; decide) dX7_fitInto_25 ?_
  refine hx_top (y := (ft 3)) rfl ?_
  refine lv_if_ne (tgt := 39) hx hb dX7_fitInto_26 (by decide) (fun c_2 => ?_) (fun c_2 => ?_)
  · have b_3 := gx_ne (X := (Int32.toInt (ft 3))) (C := 0) rfl (by decide) c_2
    refine lv_iconst (v := 0) hx hb dX7_fitInto_39 (by decide) ?_
    refine lv_istore (lv' := [(4, .int 0), (0, .ref h0), (1, .int (nI lm)), (2, .int 3), (3, .int us)]) hx hb dX7_fitInto_40 hl (by decide) rfl (fun ls hl => ?_)
    have key_4 : ∀ (fu : Nat) (cq : Nat) (fcx : Nat → Int32), (cq ≤ 8) → (agr fcx fcl 3) → (cNo (uC ft) (kB ft) lm fcl 3 cq) → 8 - cq < fu → ∀ (H : Heap) (locs : List Loc), va_P (dC, dI) vwCl [(h0, .inr (6, [t0, .ref t1, .ref t2, t3, t4])), (t1, .inl (kt1, 8, .inl ft)), (t2, .inl (kt2, 8, .inl fcx))] H → va_D A [(h0, .inr (6, [t0, .ref t1, .ref t2, t3, t4])), (t1, .inl (kt1, 8, .inl ft)), (t2, .inl (kt2, 8, .inl fcx))] → va_S A s.heap H locs → ∀ (ls : Array Slot), lv_has ls 5 [(4, .int (nI cq)), (0, .ref h0), (1, .int (nI lm)), (2, .int 3), (3, .int us)] → W p l e (headSpec (wq yX7_fitInto cX7_fitInto 5 (some .boolean)) ({ frames := 6, cells := 0, slots := 0, locals := 140 })).room s m (([.ref h0, .int (nI lm), .int 3, .int us] : List Value)).toArray below meth c H locs 0 0 (MQ below (va_Qi (fun (r : Int32) (_ : Unit) => (r = 1 ∧ cEx (uC ft) (kB ft) lm fcl 3) ∨ (r = 0 ∧ ¬ cEx (uC ft) (kB ft) lm fcl 3)) (fun _ t => ∃ (fcl2 : Nat → Int32), (agr fcl2 fcl 3) ∧ (cEx (uC ft) (kB ft) lm fcl 3 → cLs (uC ft) (kB ft) lm fcl 3 fcl2) ∧ va_P (dC, dI) vwCl [(h0, .inr (6, [t0, .ref t1, .ref t2, t3, t4])), (t1, .inl (kt1, 8, .inl ft)), (t2, .inl (kt2, 8, .inl fcl2))] t.heap ∧ va_K (dC, dI) vwCl [(kt1, .int), (kt2, .int)] t ∧ va_D A [(h0, .inr (6, [t0, .ref t1, .ref t2, t3, t4])), (t1, .inl (kt1, 8, .inl ft)), (t2, .inl (kt2, 8, .inl fcl2))]) A) (([.ref h0, .int (nI lm), .int 3, .int us] : List Value)).toArray s 0 0 A) (F0 m 42 ls []) := by
      intro fu
      induction fu with
      | zero => intro cq fcx hcq hag hno hme; exact absurd hme (Nat.not_lt_zero _)
      | succ fu ih_5 =>
        intro cq fcx hcq hag hno hme H locs hP hD hS ls hl
        refine lv_iload hx hb dX7_fitInto_42 (lv_at hl 0 rfl) ?_
        refine lv_iload_n hx hb dX7_fitInto_44 rfl (lv_at hl 4 rfl) ?_
        refine lv_icmp_gt (tgt := 102) hx hb dX7_fitInto_45 (by decide) (fun c_6 => ?_) (fun c_6 => ?_)
        · have b_7 := gx_gt (X := ((cq : Nat) : Int)) (C := (Int32.toInt us)) (nI_toInt (by omega)) rfl c_6
          refine lv_iconst (v := 0) hx hb dX7_fitInto_102 (by decide) ?_
          have hP9 := hP.sub (ws' := [(h0, .inr (6, [t0, .ref t1, .ref t2, t3, t4])), (t1, .inl (kt1, 8, .inl ft)), (t2, .inl (kt2, 8, .inl fcx))]) [0, 1, 2] rfl
          have hD9 := hD.sub (ws' := [(h0, .inr (6, [t0, .ref t1, .ref t2, t3, t4])), (t1, .inl (kt1, 8, .inl ft)), (t2, .inl (kt2, 8, .inl fcx))]) [0, 1, 2] (by decide) rfl
          have hK9 := hK.sub (tys' := [(kt1, .int), (kt2, .int)]) [0, 1] rfl
          exact W.zret (v := 0) hx hb hr (by decide) (fun t ht hW => ⟨⟨0, (), rfl, (Or.inr ⟨rfl, cn_end (by omega) (uc_t c_2) hus hno (by omega)⟩), fcx, hag, (fun q9 => absurd q9 (cn_end (by omega) (uc_t c_2) hus hno (by omega))), by rw [ht]; exact hP9, va_K.moved hW.alike hK9, hD9⟩, hS.F ht⟩) hS.2.2 dX7_fitInto_103
        · have b_7 := gn_gt (X := ((cq : Nat) : Int)) (C := (Int32.toInt us)) (nI_toInt (by omega)) rfl c_6
          refine lv_iload hx hb dX7_fitInto_48 (lv_at hl 0 rfl) ?_
          refine lv_iload_n hx hb dX7_fitInto_50 rfl (lv_at hl 2 rfl) ?_
          refine lv_icmp_ge (tgt := 102) hx hb dX7_fitInto_51 (by decide) (fun c_8 => ?_) (fun c_8 => ?_)
          · have b_9 := gx_ge (X := ((cq : Nat) : Int)) (C := ((lm : Nat) : Int)) (nI_toInt (by omega)) (nI_toInt (by omega)) c_8
            refine lv_iconst (v := 0) hx hb dX7_fitInto_102 (by decide) ?_
            have hP9 := hP.sub (ws' := [(h0, .inr (6, [t0, .ref t1, .ref t2, t3, t4])), (t1, .inl (kt1, 8, .inl ft)), (t2, .inl (kt2, 8, .inl fcx))]) [0, 1, 2] rfl
            have hD9 := hD.sub (ws' := [(h0, .inr (6, [t0, .ref t1, .ref t2, t3, t4])), (t1, .inl (kt1, 8, .inl ft)), (t2, .inl (kt2, 8, .inl fcx))]) [0, 1, 2] (by decide) rfl
            have hK9 := hK.sub (tys' := [(kt1, .int), (kt2, .int)]) [0, 1] rfl
            exact W.zret (v := 0) hx hb hr (by decide) (fun t ht hW => ⟨⟨0, (), rfl, (Or.inr ⟨rfl, cn_end (by omega) (uc_t c_2) hus hno (by omega)⟩), fcx, hag, (fun q9 => absurd q9 (cn_end (by omega) (uc_t c_2) hus hno (by omega))), by rw [ht]; exact hP9, va_K.moved hW.alike hK9, hD9⟩, hS.F ht⟩) hS.2.2 dX7_fitInto_103
          · have b_9 := gn_ge (X := ((cq : Nat) : Int)) (C := ((lm : Nat) : Int)) (nI_toInt (by omega)) (nI_toInt (by omega)) c_8
            refine lv_aload_n hx hb dX7_fitInto_54 rfl (lv_at hl 1 rfl) ?_
            refine lv_iload hx hb dX7_fitInto_55 (lv_at hl 0 rfl) ?_
            refine lv_iload_n hx hb dX7_fitInto_57 rfl (lv_at hl 3 rfl) ?_
            have hPc := hP.sub (ws' := [(h0, .inr (6, [t0, .ref t1, .ref t2, t3, t4])), (t1, .inl (kt1, 8, .inl ft)), (t2, .inl (kt2, 8, .inl fcx))]) [0, 1, 2] rfl
            have hDc := hD.sub (ws' := [(h0, .inr (6, [t0, .ref t1, .ref t2, t3, t4])), (t1, .inl (kt1, 8, .inl ft)), (t2, .inl (kt2, 8, .inl fcx))]) [0, 1, 2] (by decide) rfl
            have hKc := hK.sub (tys' := [(kt1, .int), (kt2, .int)]) [0, 1] rfl
            refine va_calli (va_runV (As := [.int (nI cq), .int 3]) (rest := []) ⟨hx, hb, hml, hown, hts⟩ (c_isFree l dC dI H.size h0 (t0) t1 t2 (t3) (t4) kt1 ft kt2 fcx (nI cq) 3 (by omega)) (cwV 2 hts (gV mw_3_30 mw_3_32 mw_0_8 mw_1_7 mw_3_33) rfl rfl rfl (by decide +kernel) ⟨Nat.le_of_ble_eq_true rfl, Nat.le_of_ble_eq_true rfl⟩) ⟨pcW_blind, va_recv hKc hPc (ci := 6) (q0 := 0) rfl rfl, pcW_at hPc hKc hDc hN⟩ rfl rfl hl.1 rfl (lv_room (Nat.le_of_ble_eq_true rfl)) dX7_fitInto_58 ⟨Nat.le_of_ble_eq_true rfl, Nat.le_of_ble_eq_true rfl⟩) hS (fun q h1 h2 => absurd h2 (Nat.not_le.mpr h1)) (fun q h => hA q (Nat.le_trans hS.1 h)) (fun r_10 u t H1 locs ht hvm hw_10 hB hz1 hk1 hS => ?_)
            have hP := keepP hP hk1
            clear hz1 hk1 hB ht hvm hPc hDc hKc
            generalize H1 = H at hP hS ⊢
            rcases hw_10 with ⟨rfl, p_11⟩ | ⟨rfl, p_11⟩
            · skip
              refine lv_if_ne (tgt := 67) hx hb dX7_fitInto_61 (by decide) (fun _ => ?_) (fun h => absurd h (by decide))
              refine lv_aload_n hx hb dX7_fitInto_67 rfl (lv_at hl 1 rfl) ?_
              refine va_get (D := (dC, dI)) (ci := 6) (v := .ref t2) (C := RX7) (T := TX7) (N := 5) hx hb hts inB_7 hown hK hP 0 rfl rfl 2 (by decide) (hts _ mw_1_129) (fun _ h9 => h9) rfl dX7_fitInto_68 ?_
              refine lv_iload_n hx hb dX7_fitInto_71 rfl (lv_at hl 3 rfl) ?_
              refine lv_iload hx hb dX7_fitInto_72 (lv_at hl 0 rfl) ?_
              refine va_iast hx hb hK hP hD hS 2 1 rfl rfl (show vp_in 3 8 by unfold vp_in; decide) dX7_fitInto_74 (fun H locs hP hD hS => ?_)
              obtain ⟨f_12, ef_12⟩ : ∃ g : Nat → Int32, g = upd fcx (Int32.toNatClampNeg 3) (nI cq) := ⟨_, rfl⟩
              rw [← ef_12] at hP hD
              have ef_12 : f_12 = upd fcx 3 (nI cq) := ef_12
              have hP : va_P (dC, dI) vwCl [(h0, .inr (6, [t0, .ref t1, .ref t2, t3, t4])), (t1, .inl (kt1, 8, .inl ft)), (t2, .inl (kt2, 8, .inl f_12))] H := hP
              have hD : va_D A [(h0, .inr (6, [t0, .ref t1, .ref t2, t3, t4])), (t1, .inl (kt1, 8, .inl ft)), (t2, .inl (kt2, 8, .inl f_12))] := hD
              refine lv_aload_n hx hb dX7_fitInto_75 rfl (lv_at hl 1 rfl) ?_
              refine lv_iload_n hx hb dX7_fitInto_76 rfl (lv_at hl 2 rfl) ?_
              refine lv_iload_n hx hb dX7_fitInto_77 rfl (lv_at hl 3 rfl) ?_
              refine lv_iconst (v := 1) hx hb dX7_fitInto_78 (by decide) ?_
              refine lv_iadd hx hb dX7_fitInto_79 ?_
              refine hx_top (y := 4) (by decide) ?_
              refine lv_iload_n hx hb dX7_fitInto_80 rfl (lv_at hl 4 rfl) ?_
              refine lv_iload hx hb dX7_fitInto_81 (lv_at hl 0 rfl) ?_
              refine lv_iconst (v := 1) hx hb dX7_fitInto_83 (by decide) ?_
              refine lv_iadd hx hb dX7_fitInto_84 ?_
              refine hx_top (y := (nI (cq + 1))) (nI_add cq 1) ?_
              refine va_mmax hx hb (by rw [hml]; exact hl.1.symm) hown (hts _ mw_3_34) (hts _ mw_2_150) (hts _ mw_1_10) (hts _ mw_2_151) (Nat.le_of_ble_eq_true rfl) (Nat.le_of_ble_eq_true rfl) (Nat.le_of_ble_eq_true rfl) (Nat.le_of_ble_eq_true rfl) dX7_fitInto_85 ?_
              refine lv_topi (fun z_13 ez_13 => ?_)
              have fz_13 := gx_max (X := (Int32.toInt us)) (C := (((cq + 1) : Nat) : Int)) rfl (nI_toInt (by omega)) ez_13
              have hPc := hP.sub (ws' := [(h0, .inr (6, [t0, .ref t1, .ref t2, t3, t4])), (t1, .inl (kt1, 8, .inl ft)), (t2, .inl (kt2, 8, .inl f_12))]) [0, 1, 2] rfl
              have hDc := hD.sub (ws' := [(h0, .inr (6, [t0, .ref t1, .ref t2, t3, t4])), (t1, .inl (kt1, 8, .inl ft)), (t2, .inl (kt2, 8, .inl f_12))]) [0, 1, 2] (by decide) rfl
              have hKc := hK.sub (tys' := [(kt1, .int), (kt2, .int)]) [0, 1] rfl
              have hFc := va_free (wc := [(h0, .inr (6, [t0, .ref t1, .ref t2, t3, t4])), (t1, .inl (kt1, 8, .inl ft)), (t2, .inl (kt2, 8, .inl f_12))]) hD hS hA [0, 1, 2] rfl
              refine va_calli (va_runV (As := [.int (nI lm), .int 4, .int z_13]) (rest := []) ⟨hx, hb, hml, hown, hts⟩ (c_fit4 l dC dI H.size h0 (t0) t1 t2 (t3) (t4) kt1 ft kt2 f_12 lm z_13 hlm (uN_max hus hag ef_12 (by omega) fz_13)) (cwV 3 hts (gV mw_3_26 mw_3_28 mw_0_7 mw_1_7 mw_3_29) rfl rfl rfl (by decide +kernel) ⟨Nat.le_of_ble_eq_true rfl, Nat.le_of_ble_eq_true rfl⟩) ⟨pcW_blind, va_recv hKc hPc (ci := 6) (q0 := 0) rfl rfl, pcW_at hPc hKc hDc hN⟩ rfl rfl hl.1 rfl (lv_room (Nat.le_of_ble_eq_true rfl)) dX7_fitInto_88 ⟨Nat.le_of_ble_eq_true rfl, Nat.le_of_ble_eq_true rfl⟩) hS (fun q _ h => hFc q h) hFc (fun r_14 u t H1 locs ht hvm hw_14 hB hz1 hk1 hS => ?_)
              obtain ⟨f_15, p_16, p_17, hP1, hK1, hD1⟩ := hB
              rw [ht] at hP1
              have hK1 := va_K.moved hvm.symm hK1
              obtain ⟨hP, hD⟩ := va_join (wr := []) (w1 := [(h0, .inr (6, [t0, .ref t1, .ref t2, t3, t4])), (t1, .inl (kt1, 8, .inl ft)), (t2, .inl (kt2, 8, .inl f_15))]) hP hD [0, 1, 2] [] rfl rfl (by decide) (by decide) hk1 hFc hP1 hD1
              have hK := (hK.sub (tys' := []) [] rfl).app hK1
              clear hz1 hk1 hPc hDc hKc hFc
              generalize H1 = H at hP hS ⊢
              have hK : va_K (dC, dI) vwCl [(kt1, .int), (kt2, .int)] s := hK
              have hP : va_P (dC, dI) vwCl [(h0, .inr (6, [t0, .ref t1, .ref t2, t3, t4])), (t1, .inl (kt1, 8, .inl ft)), (t2, .inl (kt2, 8, .inl f_15))] H := hP
              have hD : va_D A [(h0, .inr (6, [t0, .ref t1, .ref t2, t3, t4])), (t1, .inl (kt1, 8, .inl ft)), (t2, .inl (kt2, 8, .inl f_15))] := hD
              rcases hw_14 with ⟨rfl, p_18⟩ | ⟨rfl, p_18⟩
              · skip
                refine lv_if_eq (tgt := 96) hx hb dX7_fitInto_91 (by decide) (fun h => absurd h (by decide)) (fun _ => ?_)
                refine lv_iconst (v := 1) hx hb dX7_fitInto_94 (by decide) ?_
                have hP9 := hP.sub (ws' := [(h0, .inr (6, [t0, .ref t1, .ref t2, t3, t4])), (t1, .inl (kt1, 8, .inl ft)), (t2, .inl (kt2, 8, .inl f_15))]) [0, 1, 2] rfl
                have hD9 := hD.sub (ws' := [(h0, .inr (6, [t0, .ref t1, .ref t2, t3, t4])), (t1, .inl (kt1, 8, .inl ft)), (t2, .inl (kt2, 8, .inl f_15))]) [0, 1, 2] (by decide) rfl
                have hK9 := hK.sub (tys' := [(kt1, .int), (kt2, .int)]) [0, 1] rfl
                exact W.zret (v := 1) hx hb hr (by decide) (fun t ht hW => ⟨⟨1, (), rfl, (Or.inl ⟨rfl, cn_okE (uc_t c_2) hus (by omega) (by omega) hag ef_12 p_11 p_18⟩), f_15, (agr_3 p_16 ef_12 hag), (fun _ => cn_ok (by omega) hlm (uc_t c_2) hus (by omega) (by omega) hag ef_12 p_11 hno p_16 (p_17 p_18)), by rw [ht]; exact hP9, va_K.moved hW.alike hK9, hD9⟩, hS.F ht⟩) hS.2.2 dX7_fitInto_95
              · skip
                refine lv_if_eq (tgt := 96) hx hb dX7_fitInto_91 (by decide) (fun _ => ?_) (fun h => absurd (by decide) h)
                refine lv_iinc (v := (nI (cq + 1))) (lv' := [(4, .int (nI (cq + 1))), (0, .ref h0), (1, .int (nI lm)), (2, .int 3), (3, .int us)]) hx hb dX7_fitInto_96 hl (k := 0) rfl (nI_add cq 1) (by decide) rfl (fun ls hl => ?_)
                refine lv_goto (tgt := 42) hx hb dX7_fitInto_99 (by decide) ?_
                exact ih_5 (cq + 1) f_15 (by omega) (agr_3 p_16 ef_12 hag) (cn_fail hag ef_12 p_18 hno) (by omega) _ _ hP hD hS ls (lv_sub hl [0, 1, 2, 3, 4] rfl)
            · skip
              refine lv_if_ne (tgt := 67) hx hb dX7_fitInto_61 (by decide) (fun h => absurd h (by decide)) (fun _ => ?_)
              refine lv_goto (tgt := 96) hx hb dX7_fitInto_64 (by decide) ?_
              refine lv_iinc (v := (nI (cq + 1))) (lv' := [(4, .int (nI (cq + 1))), (0, .ref h0), (1, .int (nI lm)), (2, .int 3), (3, .int us)]) hx hb dX7_fitInto_96 hl (k := 0) rfl (nI_add cq 1) (by decide) rfl (fun ls hl => ?_)
              refine lv_goto (tgt := 42) hx hb dX7_fitInto_99 (by decide) ?_
              exact ih_5 (cq + 1) fcx (by omega) hag (cn_busy (by omega) (uc_t c_2) hag p_11 hno) (by omega) _ _ hP hD hS ls (lv_sub hl [0, 1, 2, 3, 4] rfl)
    exact key_4 ((8 - 0) + 1) 0 f_1 (by omega) (agr_up (Nat.le_refl _) ef_1) cn_0 (Nat.lt_succ_self _) _ _ hP hD hS ls (lv_sub hl [0, 1, 2, 3, 4] rfl)
  · have b_3 := gn_ne (X := (Int32.toInt (ft 3))) (C := 0) rfl (by decide) c_2
    refine lv_aload_n hx hb dX7_fitInto_29 rfl (lv_at hl 0 rfl) ?_
    refine lv_iload_n hx hb dX7_fitInto_30 rfl (lv_at hl 1 rfl) ?_
    refine lv_iload_n hx hb dX7_fitInto_31 rfl (lv_at hl 2 rfl) ?_
    refine lv_iconst (v := 1) hx hb dX7_fitInto_32 (by decide) ?_
    refine lv_iadd hx hb dX7_fitInto_33 ?_
    refine hx_top (y := 4) (by decide) ?_
    refine lv_iload_n hx hb dX7_fitInto_34 rfl (lv_at hl 3 rfl) ?_
    have hPc := hP.sub (ws' := [(h0, .inr (6, [t0, .ref t1, .ref t2, t3, t4])), (t1, .inl (kt1, 8, .inl ft)), (t2, .inl (kt2, 8, .inl f_1))]) [0, 1, 2] rfl
    have hDc := hD.sub (ws' := [(h0, .inr (6, [t0, .ref t1, .ref t2, t3, t4])), (t1, .inl (kt1, 8, .inl ft)), (t2, .inl (kt2, 8, .inl f_1))]) [0, 1, 2] (by decide) rfl
    have hKc := hK.sub (tys' := [(kt1, .int), (kt2, .int)]) [0, 1] rfl
    have hFc := va_free (wc := [(h0, .inr (6, [t0, .ref t1, .ref t2, t3, t4])), (t1, .inl (kt1, 8, .inl ft)), (t2, .inl (kt2, 8, .inl f_1))]) hD hS hA [0, 1, 2] rfl
    refine va_calli (va_runV (As := [.int (nI lm), .int 4, .int us]) (rest := []) ⟨hx, hb, hml, hown, hts⟩ (c_fit4 l dC dI H.size h0 (t0) t1 t2 (t3) (t4) kt1 ft kt2 f_1 lm us hlm (uN_un hus ef_1)) (cwV 3 hts (gV mw_3_26 mw_3_28 mw_0_7 mw_1_7 mw_3_29) rfl rfl rfl (by decide +kernel) ⟨Nat.le_of_ble_eq_true rfl, Nat.le_of_ble_eq_true rfl⟩) ⟨pcW_blind, va_recv hKc hPc (ci := 6) (q0 := 0) rfl rfl, pcW_at hPc hKc hDc hN⟩ rfl rfl hl.1 rfl (lv_room (Nat.le_of_ble_eq_true rfl)) dX7_fitInto_35 ⟨Nat.le_of_ble_eq_true rfl, Nat.le_of_ble_eq_true rfl⟩) hS (fun q _ h => hFc q h) hFc (fun r_19 u t H1 locs ht hvm hw_19 hB hz1 hk1 hS => ?_)
    obtain ⟨f_20, p_21, p_22, hP1, hK1, hD1⟩ := hB
    rw [ht] at hP1
    have hK1 := va_K.moved hvm.symm hK1
    obtain ⟨hP, hD⟩ := va_join (wr := []) (w1 := [(h0, .inr (6, [t0, .ref t1, .ref t2, t3, t4])), (t1, .inl (kt1, 8, .inl ft)), (t2, .inl (kt2, 8, .inl f_20))]) hP hD [0, 1, 2] [] rfl rfl (by decide) (by decide) hk1 hFc hP1 hD1
    have hK := (hK.sub (tys' := []) [] rfl).app hK1
    clear hz1 hk1 hPc hDc hKc hFc
    generalize H1 = H at hP hS ⊢
    have hK : va_K (dC, dI) vwCl [(kt1, .int), (kt2, .int)] s := hK
    have hP : va_P (dC, dI) vwCl [(h0, .inr (6, [t0, .ref t1, .ref t2, t3, t4])), (t1, .inl (kt1, 8, .inl ft)), (t2, .inl (kt2, 8, .inl f_20))] H := hP
    have hD : va_D A [(h0, .inr (6, [t0, .ref t1, .ref t2, t3, t4])), (t1, .inl (kt1, 8, .inl ft)), (t2, .inl (kt2, 8, .inl f_20))] := hD
    rcases hw_19 with ⟨rfl, p_23⟩ | ⟨rfl, p_23⟩
    · skip
      have hP9 := hP.sub (ws' := [(h0, .inr (6, [t0, .ref t1, .ref t2, t3, t4])), (t1, .inl (kt1, 8, .inl ft)), (t2, .inl (kt2, 8, .inl f_20))]) [0, 1, 2] rfl
      have hD9 := hD.sub (ws' := [(h0, .inr (6, [t0, .ref t1, .ref t2, t3, t4])), (t1, .inl (kt1, 8, .inl ft)), (t2, .inl (kt2, 8, .inl f_20))]) [0, 1, 2] (by decide) rfl
      have hK9 := hK.sub (tys' := [(kt1, .int), (kt2, .int)]) [0, 1] rfl
      exact W.zret (v := 1) hx hb hr (by decide) (fun t ht hW => ⟨⟨1, (), rfl, (Or.inl ⟨rfl, un_ex (uc_f c_2) ef_1 p_23⟩), f_20, (agr_2 p_21 ef_1), (fun _ => un_ls (by omega) (uc_f c_2) ef_1 p_21 (p_22 p_23)), by rw [ht]; exact hP9, va_K.moved hW.alike hK9, hD9⟩, hS.F ht⟩) hS.2.2 dX7_fitInto_38
    · skip
      have hP9 := hP.sub (ws' := [(h0, .inr (6, [t0, .ref t1, .ref t2, t3, t4])), (t1, .inl (kt1, 8, .inl ft)), (t2, .inl (kt2, 8, .inl f_20))]) [0, 1, 2] rfl
      have hD9 := hD.sub (ws' := [(h0, .inr (6, [t0, .ref t1, .ref t2, t3, t4])), (t1, .inl (kt1, 8, .inl ft)), (t2, .inl (kt2, 8, .inl f_20))]) [0, 1, 2] (by decide) rfl
      have hK9 := hK.sub (tys' := [(kt1, .int), (kt2, .int)]) [0, 1] rfl
      exact W.zret (v := 0) hx hb hr (by decide) (fun t ht hW => ⟨⟨0, (), rfl, (Or.inr ⟨rfl, un_no (by omega) (uc_f c_2) ef_1 p_23⟩), f_20, (agr_2 p_21 ef_1), (fun q9 => absurd q9 (un_no (by omega) (uc_f c_2) ef_1 p_23)), by rw [ht]; exact hP9, va_K.moved hW.alike hK9, hD9⟩, hS.F ht⟩) hS.2.2 dX7_fitInto_38
set_option maxHeartbeats 4000000 in
set_option maxRecDepth 100000 in
theorem c_fit2 (l : Launch) (dC : Nat → ClassId) (dI : Nat → Nat → Nat) (sz : Nat) (h0 : Nat) (t0 : Value) (t1 : Nat) (t2 : Nat) (t3 : Value) (t4 : Value) (kt1 : ClassId) (ft : Nat → Int32) (kt2 : ClassId) (fcl : Nat → Int32) (lm : Nat) (us : Int32) (hlm : lm ≤ 8) (hus : Int32.toInt us = ((uN fcl 2 : Nat) : Int)) : Met l yX7_fitInto (wq yX7_fitInto cX7_fitInto 5 (some .boolean)) ({ frames := 7, cells := 0, slots := 0, locals := 164 }) (va_Pc [.ref h0, .int (nI lm), .int 2, .int us] (pcW dC dI [(kt1, .int), (kt2, .int)] [(h0, .inr (6, [t0, .ref t1, .ref t2, t3, t4])), (t1, .inl (kt1, 8, .inl ft)), (t2, .inl (kt2, 8, .inl fcl))] sz)) (va_Qi (fun (r : Int32) (_ : Unit) => (r = 1 ∧ cEx (uC ft) (kB ft) lm fcl 2) ∨ (r = 0 ∧ ¬ cEx (uC ft) (kB ft) lm fcl 2)) (fun _ t => ∃ (fcl2 : Nat → Int32), (agr fcl2 fcl 2) ∧ (cEx (uC ft) (kB ft) lm fcl 2 → cLs (uC ft) (kB ft) lm fcl 2 fcl2) ∧ va_P (dC, dI) vwCl [(h0, .inr (6, [t0, .ref t1, .ref t2, t3, t4])), (t1, .inl (kt1, 8, .inl ft)), (t2, .inl (kt2, 8, .inl fcl2))] t.heap ∧ va_K (dC, dI) vwCl [(kt1, .int), (kt2, .int)] t ∧ va_D (va_A [(h0, .inr (6, [t0, .ref t1, .ref t2, t3, t4])), (t1, .inl (kt1, 8, .inl ft)), (t2, .inl (kt2, 8, .inl fcl))] sz) [(h0, .inr (6, [t0, .ref t1, .ref t2, t3, t4])), (t1, .inl (kt1, 8, .inl ft)), (t2, .inl (kt2, 8, .inl fcl2))]) (va_A [(h0, .inr (6, [t0, .ref t1, .ref t2, t3, t4])), (t1, .inl (kt1, 8, .inl ft)), (t2, .inl (kt2, 8, .inl fcl))] sz)) 0 0 (va_A [(h0, .inr (6, [t0, .ref t1, .ref t2, t3, t4])), (t1, .inl (kt1, 8, .inl ft)), (t2, .inl (kt2, 8, .inl fcl))] sz) := by
  refine Met.ofW (cc := cX7_fitInto) (maxL := 5) (ret := (some .boolean)) (by decide) rfl ?_
  intro p e s m args below meth c s₁ B hml hv
  obtain ⟨rfl, hsz, hN, hP, hK, hD0⟩ := hv
  have hx := B.exec
  have hb := B.bytes
  have hr := B.returns
  have hts0 := atoms_spec (ws := (wq yX7_fitInto cX7_fitInto 5 (some .boolean))) B.pre
  have hts : ∀ w ∈ BG, w.before _ s = true := fun w h => hts0 w (List.mem_cons_of_mem _ h)
  have hown : s.vm.findClass RX7 = some m.cls := findClass_of_methodNamed B.named
  have hlocks := B.notSynchronized
  subst hsz
  have hD := hD0.self (sz := s.heap.size)
  generalize hAe : va_A [(h0, .inr (6, [t0, .ref t1, .ref t2, t3, t4])), (t1, .inl (kt1, 8, .inl ft)), (t2, .inl (kt2, 8, .inl fcl))] s.heap.size = A at hD ⊢
  have hA : ∀ q : Nat, s.heap.size ≤ q → A q := fun q h => by rw [← hAe]; exact Or.inr h
  have hS : va_S A s.heap s.heap [] := va_S.rf
  clear hAe hD0
  have hP : va_P (dC, dI) vwCl [(h0, .inr (6, [t0, .ref t1, .ref t2, t3, t4])), (t1, .inl (kt1, 8, .inl ft)), (t2, .inl (kt2, 8, .inl fcl))] s.heap := hP
  have hl := lv_entry ([.ref h0, .int (nI lm), .int 2, .int us]) (n := 5) (Nat.le_of_ble_eq_true rfl)
  rw [lg_entry_eq]
  generalize (lg_sl ([.ref h0, .int (nI lm), .int 2, .int us]) ++ List.replicate (5 - (lg_sl ([.ref h0, .int (nI lm), .int 2, .int us])).length) Slot.unset).toArray = ls at hl ⊢
  have hl : lv_has ls 5 [(0, .ref h0), (1, .int (nI lm)), (2, .int 2), (3, .int us)] := hl
  refine lv_iload_n hx hb dX7_fitInto_0 rfl (lv_at hl 2 rfl) ?_
  refine lv_if_lt (tgt := 10) hx hb dX7_fitInto_1 (by decide) (fun h => absurd h (by decide)) (fun _ => ?_)
  refine lv_iload_n hx hb dX7_fitInto_4 rfl (lv_at hl 2 rfl) ?_
  refine lv_bipush (v := 8) hx hb dX7_fitInto_5 (by decide) ?_
  refine lv_icmp_lt (tgt := 12) hx hb dX7_fitInto_7 (by decide) (fun _ => ?_) (fun h => absurd (by decide) h)
  refine lv_aload_n hx hb dX7_fitInto_12 rfl (lv_at hl 0 rfl) ?_
  refine va_get (D := (dC, dI)) (ci := 6) (v := .ref t2) (C := RX7) (T := TX7) (N := 5) hx hb hts inB_7 hown hK hP 0 rfl rfl 2 (by decide) (hts _ mw_1_129) (fun _ h9 => h9) rfl dX7_fitInto_13 ?_
  refine lv_iload_n hx hb dX7_fitInto_16 rfl (lv_at hl 2 rfl) ?_
  refine lv_bipush (v := (-6)) hx hb dX7_fitInto_17 (by decide) ?_
  refine va_iast hx hb hK hP hD hS 2 1 rfl rfl (show vp_in 2 8 by unfold vp_in; decide) dX7_fitInto_19 (fun H locs hP hD hS => ?_)
  obtain ⟨f_1, ef_1⟩ : ∃ g : Nat → Int32, g = upd fcl (Int32.toNatClampNeg 2) (-6) := ⟨_, rfl⟩
  rw [← ef_1] at hP hD
  have ef_1 : f_1 = upd fcl 2 (-6) := ef_1
  have hP : va_P (dC, dI) vwCl [(h0, .inr (6, [t0, .ref t1, .ref t2, t3, t4])), (t1, .inl (kt1, 8, .inl ft)), (t2, .inl (kt2, 8, .inl f_1))] H := hP
  have hD : va_D A [(h0, .inr (6, [t0, .ref t1, .ref t2, t3, t4])), (t1, .inl (kt1, 8, .inl ft)), (t2, .inl (kt2, 8, .inl f_1))] := hD
  refine lv_aload_n hx hb dX7_fitInto_20 rfl (lv_at hl 0 rfl) ?_
  refine va_get (D := (dC, dI)) (ci := 6) (v := .ref t1) (C := RX7) (T := TX7) (N := 5) hx hb hts inB_7 hown hK hP 0 rfl rfl 1 (by decide) (hts _ mw_1_128) (fun _ h9 => h9) rfl dX7_fitInto_21 ?_
  refine lv_iload_n hx hb dX7_fitInto_24 rfl (lv_at hl 2 rfl) ?_
  refine va_iald hx hb hK hP 1 0 rfl rfl (show vp_in 2 8 by unfold vp_in; decide) dX7_fitInto_25 ?_
  refine hx_top (y := (ft 2)) rfl ?_
  refine lv_if_ne (tgt := 39) hx hb dX7_fitInto_26 (by decide) (fun c_2 => ?_) (fun c_2 => ?_)
  · have b_3 := gx_ne (X := (Int32.toInt (ft 2))) (C := 0) rfl (by decide) c_2
    refine lv_iconst (v := 0) hx hb dX7_fitInto_39 (by decide) ?_
    refine lv_istore (lv' := [(4, .int 0), (0, .ref h0), (1, .int (nI lm)), (2, .int 2), (3, .int us)]) hx hb dX7_fitInto_40 hl (by decide) rfl (fun ls hl => ?_)
    have key_4 : ∀ (fu : Nat) (cq : Nat) (fcx : Nat → Int32), (cq ≤ 8) → (agr fcx fcl 2) → (cNo (uC ft) (kB ft) lm fcl 2 cq) → 8 - cq < fu → ∀ (H : Heap) (locs : List Loc), va_P (dC, dI) vwCl [(h0, .inr (6, [t0, .ref t1, .ref t2, t3, t4])), (t1, .inl (kt1, 8, .inl ft)), (t2, .inl (kt2, 8, .inl fcx))] H → va_D A [(h0, .inr (6, [t0, .ref t1, .ref t2, t3, t4])), (t1, .inl (kt1, 8, .inl ft)), (t2, .inl (kt2, 8, .inl fcx))] → va_S A s.heap H locs → ∀ (ls : Array Slot), lv_has ls 5 [(4, .int (nI cq)), (0, .ref h0), (1, .int (nI lm)), (2, .int 2), (3, .int us)] → W p l e (headSpec (wq yX7_fitInto cX7_fitInto 5 (some .boolean)) ({ frames := 7, cells := 0, slots := 0, locals := 164 })).room s m (([.ref h0, .int (nI lm), .int 2, .int us] : List Value)).toArray below meth c H locs 0 0 (MQ below (va_Qi (fun (r : Int32) (_ : Unit) => (r = 1 ∧ cEx (uC ft) (kB ft) lm fcl 2) ∨ (r = 0 ∧ ¬ cEx (uC ft) (kB ft) lm fcl 2)) (fun _ t => ∃ (fcl2 : Nat → Int32), (agr fcl2 fcl 2) ∧ (cEx (uC ft) (kB ft) lm fcl 2 → cLs (uC ft) (kB ft) lm fcl 2 fcl2) ∧ va_P (dC, dI) vwCl [(h0, .inr (6, [t0, .ref t1, .ref t2, t3, t4])), (t1, .inl (kt1, 8, .inl ft)), (t2, .inl (kt2, 8, .inl fcl2))] t.heap ∧ va_K (dC, dI) vwCl [(kt1, .int), (kt2, .int)] t ∧ va_D A [(h0, .inr (6, [t0, .ref t1, .ref t2, t3, t4])), (t1, .inl (kt1, 8, .inl ft)), (t2, .inl (kt2, 8, .inl fcl2))]) A) (([.ref h0, .int (nI lm), .int 2, .int us] : List Value)).toArray s 0 0 A) (F0 m 42 ls []) := by
      intro fu
      induction fu with
      | zero => intro cq fcx hcq hag hno hme; exact absurd hme (Nat.not_lt_zero _)
      | succ fu ih_5 =>
        intro cq fcx hcq hag hno hme H locs hP hD hS ls hl
        refine lv_iload hx hb dX7_fitInto_42 (lv_at hl 0 rfl) ?_
        refine lv_iload_n hx hb dX7_fitInto_44 rfl (lv_at hl 4 rfl) ?_
        refine lv_icmp_gt (tgt := 102) hx hb dX7_fitInto_45 (by decide) (fun c_6 => ?_) (fun c_6 => ?_)
        · have b_7 := gx_gt (X := ((cq : Nat) : Int)) (C := (Int32.toInt us)) (nI_toInt (by omega)) rfl c_6
          refine lv_iconst (v := 0) hx hb dX7_fitInto_102 (by decide) ?_
          have hP9 := hP.sub (ws' := [(h0, .inr (6, [t0, .ref t1, .ref t2, t3, t4])), (t1, .inl (kt1, 8, .inl ft)), (t2, .inl (kt2, 8, .inl fcx))]) [0, 1, 2] rfl
          have hD9 := hD.sub (ws' := [(h0, .inr (6, [t0, .ref t1, .ref t2, t3, t4])), (t1, .inl (kt1, 8, .inl ft)), (t2, .inl (kt2, 8, .inl fcx))]) [0, 1, 2] (by decide) rfl
          have hK9 := hK.sub (tys' := [(kt1, .int), (kt2, .int)]) [0, 1] rfl
          exact W.zret (v := 0) hx hb hr (by decide) (fun t ht hW => ⟨⟨0, (), rfl, (Or.inr ⟨rfl, cn_end (by omega) (uc_t c_2) hus hno (by omega)⟩), fcx, hag, (fun q9 => absurd q9 (cn_end (by omega) (uc_t c_2) hus hno (by omega))), by rw [ht]; exact hP9, va_K.moved hW.alike hK9, hD9⟩, hS.F ht⟩) hS.2.2 dX7_fitInto_103
        · have b_7 := gn_gt (X := ((cq : Nat) : Int)) (C := (Int32.toInt us)) (nI_toInt (by omega)) rfl c_6
          refine lv_iload hx hb dX7_fitInto_48 (lv_at hl 0 rfl) ?_
          refine lv_iload_n hx hb dX7_fitInto_50 rfl (lv_at hl 2 rfl) ?_
          refine lv_icmp_ge (tgt := 102) hx hb dX7_fitInto_51 (by decide) (fun c_8 => ?_) (fun c_8 => ?_)
          · have b_9 := gx_ge (X := ((cq : Nat) : Int)) (C := ((lm : Nat) : Int)) (nI_toInt (by omega)) (nI_toInt (by omega)) c_8
            refine lv_iconst (v := 0) hx hb dX7_fitInto_102 (by decide) ?_
            have hP9 := hP.sub (ws' := [(h0, .inr (6, [t0, .ref t1, .ref t2, t3, t4])), (t1, .inl (kt1, 8, .inl ft)), (t2, .inl (kt2, 8, .inl fcx))]) [0, 1, 2] rfl
            have hD9 := hD.sub (ws' := [(h0, .inr (6, [t0, .ref t1, .ref t2, t3, t4])), (t1, .inl (kt1, 8, .inl ft)), (t2, .inl (kt2, 8, .inl fcx))]) [0, 1, 2] (by decide) rfl
            have hK9 := hK.sub (tys' := [(kt1, .int), (kt2, .int)]) [0, 1] rfl
            exact W.zret (v := 0) hx hb hr (by decide) (fun t ht hW => ⟨⟨0, (), rfl, (Or.inr ⟨rfl, cn_end (by omega) (uc_t c_2) hus hno (by omega)⟩), fcx, hag, (fun q9 => absurd q9 (cn_end (by omega) (uc_t c_2) hus hno (by omega))), by rw [ht]; exact hP9, va_K.moved hW.alike hK9, hD9⟩, hS.F ht⟩) hS.2.2 dX7_fitInto_103
          · have b_9 := gn_ge (X := ((cq : Nat) : Int)) (C := ((lm : Nat) : Int)) (nI_toInt (by omega)) (nI_toInt (by omega)) c_8
            refine lv_aload_n hx hb dX7_fitInto_54 rfl (lv_at hl 1 rfl) ?_
            refine lv_iload hx hb dX7_fitInto_55 (lv_at hl 0 rfl) ?_
            refine lv_iload_n hx hb dX7_fitInto_57 rfl (lv_at hl 3 rfl) ?_
            have hPc := hP.sub (ws' := [(h0, .inr (6, [t0, .ref t1, .ref t2, t3, t4])), (t1, .inl (kt1, 8, .inl ft)), (t2, .inl (kt2, 8, .inl fcx))]) [0, 1, 2] rfl
            have hDc := hD.sub (ws' := [(h0, .inr (6, [t0, .ref t1, .ref t2, t3, t4])), (t1, .inl (kt1, 8, .inl ft)), (t2, .inl (kt2, 8, .inl fcx))]) [0, 1, 2] (by decide) rfl
            have hKc := hK.sub (tys' := [(kt1, .int), (kt2, .int)]) [0, 1] rfl
            refine va_calli (va_runV (As := [.int (nI cq), .int 2]) (rest := []) ⟨hx, hb, hml, hown, hts⟩ (c_isFree l dC dI H.size h0 (t0) t1 t2 (t3) (t4) kt1 ft kt2 fcx (nI cq) 2 (by omega)) (cwV 2 hts (gV mw_3_30 mw_3_32 mw_0_8 mw_1_7 mw_3_33) rfl rfl rfl (by decide +kernel) ⟨Nat.le_of_ble_eq_true rfl, Nat.le_of_ble_eq_true rfl⟩) ⟨pcW_blind, va_recv hKc hPc (ci := 6) (q0 := 0) rfl rfl, pcW_at hPc hKc hDc hN⟩ rfl rfl hl.1 rfl (lv_room (Nat.le_of_ble_eq_true rfl)) dX7_fitInto_58 ⟨Nat.le_of_ble_eq_true rfl, Nat.le_of_ble_eq_true rfl⟩) hS (fun q h1 h2 => absurd h2 (Nat.not_le.mpr h1)) (fun q h => hA q (Nat.le_trans hS.1 h)) (fun r_10 u t H1 locs ht hvm hw_10 hB hz1 hk1 hS => ?_)
            have hP := keepP hP hk1
            clear hz1 hk1 hB ht hvm hPc hDc hKc
            generalize H1 = H at hP hS ⊢
            rcases hw_10 with ⟨rfl, p_11⟩ | ⟨rfl, p_11⟩
            · skip
              refine lv_if_ne (tgt := 67) hx hb dX7_fitInto_61 (by decide) (fun _ => ?_) (fun h => absurd h (by decide))
              refine lv_aload_n hx hb dX7_fitInto_67 rfl (lv_at hl 1 rfl) ?_
              refine va_get (D := (dC, dI)) (ci := 6) (v := .ref t2) (C := RX7) (T := TX7) (N := 5) hx hb hts inB_7 hown hK hP 0 rfl rfl 2 (by decide) (hts _ mw_1_129) (fun _ h9 => h9) rfl dX7_fitInto_68 ?_
              refine lv_iload_n hx hb dX7_fitInto_71 rfl (lv_at hl 3 rfl) ?_
              refine lv_iload hx hb dX7_fitInto_72 (lv_at hl 0 rfl) ?_
              refine va_iast hx hb hK hP hD hS 2 1 rfl rfl (show vp_in 2 8 by unfold vp_in; decide) dX7_fitInto_74 (fun H locs hP hD hS => ?_)
              obtain ⟨f_12, ef_12⟩ : ∃ g : Nat → Int32, g = upd fcx (Int32.toNatClampNeg 2) (nI cq) := ⟨_, rfl⟩
              rw [← ef_12] at hP hD
              have ef_12 : f_12 = upd fcx 2 (nI cq) := ef_12
              have hP : va_P (dC, dI) vwCl [(h0, .inr (6, [t0, .ref t1, .ref t2, t3, t4])), (t1, .inl (kt1, 8, .inl ft)), (t2, .inl (kt2, 8, .inl f_12))] H := hP
              have hD : va_D A [(h0, .inr (6, [t0, .ref t1, .ref t2, t3, t4])), (t1, .inl (kt1, 8, .inl ft)), (t2, .inl (kt2, 8, .inl f_12))] := hD
              refine lv_aload_n hx hb dX7_fitInto_75 rfl (lv_at hl 1 rfl) ?_
              refine lv_iload_n hx hb dX7_fitInto_76 rfl (lv_at hl 2 rfl) ?_
              refine lv_iload_n hx hb dX7_fitInto_77 rfl (lv_at hl 3 rfl) ?_
              refine lv_iconst (v := 1) hx hb dX7_fitInto_78 (by decide) ?_
              refine lv_iadd hx hb dX7_fitInto_79 ?_
              refine hx_top (y := 3) (by decide) ?_
              refine lv_iload_n hx hb dX7_fitInto_80 rfl (lv_at hl 4 rfl) ?_
              refine lv_iload hx hb dX7_fitInto_81 (lv_at hl 0 rfl) ?_
              refine lv_iconst (v := 1) hx hb dX7_fitInto_83 (by decide) ?_
              refine lv_iadd hx hb dX7_fitInto_84 ?_
              refine hx_top (y := (nI (cq + 1))) (nI_add cq 1) ?_
              refine va_mmax hx hb (by rw [hml]; exact hl.1.symm) hown (hts _ mw_3_34) (hts _ mw_2_150) (hts _ mw_1_10) (hts _ mw_2_151) (Nat.le_of_ble_eq_true rfl) (Nat.le_of_ble_eq_true rfl) (Nat.le_of_ble_eq_true rfl) (Nat.le_of_ble_eq_true rfl) dX7_fitInto_85 ?_
              refine lv_topi (fun z_13 ez_13 => ?_)
              have fz_13 := gx_max (X := (Int32.toInt us)) (C := (((cq + 1) : Nat) : Int)) rfl (nI_toInt (by omega)) ez_13
              have hPc := hP.sub (ws' := [(h0, .inr (6, [t0, .ref t1, .ref t2, t3, t4])), (t1, .inl (kt1, 8, .inl ft)), (t2, .inl (kt2, 8, .inl f_12))]) [0, 1, 2] rfl
              have hDc := hD.sub (ws' := [(h0, .inr (6, [t0, .ref t1, .ref t2, t3, t4])), (t1, .inl (kt1, 8, .inl ft)), (t2, .inl (kt2, 8, .inl f_12))]) [0, 1, 2] (by decide) rfl
              have hKc := hK.sub (tys' := [(kt1, .int), (kt2, .int)]) [0, 1] rfl
              have hFc := va_free (wc := [(h0, .inr (6, [t0, .ref t1, .ref t2, t3, t4])), (t1, .inl (kt1, 8, .inl ft)), (t2, .inl (kt2, 8, .inl f_12))]) hD hS hA [0, 1, 2] rfl
              refine va_calli (va_runV (As := [.int (nI lm), .int 3, .int z_13]) (rest := []) ⟨hx, hb, hml, hown, hts⟩ (c_fit3 l dC dI H.size h0 (t0) t1 t2 (t3) (t4) kt1 ft kt2 f_12 lm z_13 hlm (uN_max hus hag ef_12 (by omega) fz_13)) (cwV 3 hts (gV mw_3_26 mw_3_28 mw_0_7 mw_1_7 mw_3_29) rfl rfl rfl (by decide +kernel) ⟨Nat.le_of_ble_eq_true rfl, Nat.le_of_ble_eq_true rfl⟩) ⟨pcW_blind, va_recv hKc hPc (ci := 6) (q0 := 0) rfl rfl, pcW_at hPc hKc hDc hN⟩ rfl rfl hl.1 rfl (lv_room (Nat.le_of_ble_eq_true rfl)) dX7_fitInto_88 ⟨Nat.le_of_ble_eq_true rfl, Nat.le_of_ble_eq_true rfl⟩) hS (fun q _ h => hFc q h) hFc (fun r_14 u t H1 locs ht hvm hw_14 hB hz1 hk1 hS => ?_)
              obtain ⟨f_15, p_16, p_17, hP1, hK1, hD1⟩ := hB
              rw [ht] at hP1
              have hK1 := va_K.moved hvm.symm hK1
              obtain ⟨hP, hD⟩ := va_join (wr := []) (w1 := [(h0, .inr (6, [t0, .ref t1, .ref t2, t3, t4])), (t1, .inl (kt1, 8, .inl ft)), (t2, .inl (kt2, 8, .inl f_15))]) hP hD [0, 1, 2] [] rfl rfl (by decide) (by decide) hk1 hFc hP1 hD1
              have hK := (hK.sub (tys' := []) [] rfl).app hK1
              clear hz1 hk1 hPc hDc hKc hFc
              generalize H1 = H at hP hS ⊢
              have hK : va_K (dC, dI) vwCl [(kt1, .int), (kt2, .int)] s := hK
              have hP : va_P (dC, dI) vwCl [(h0, .inr (6, [t0, .ref t1, .ref t2, t3, t4])), (t1, .inl (kt1, 8, .inl ft)), (t2, .inl (kt2, 8, .inl f_15))] H := hP
              have hD : va_D A [(h0, .inr (6, [t0, .ref t1, .ref t2, t3, t4])), (t1, .inl (kt1, 8, .inl ft)), (t2, .inl (kt2, 8, .inl f_15))] := hD
              rcases hw_14 with ⟨rfl, p_18⟩ | ⟨rfl, p_18⟩
              · skip
                refine lv_if_eq (tgt := 96) hx hb dX7_fitInto_91 (by decide) (fun h => absurd h (by decide)) (fun _ => ?_)
                refine lv_iconst (v := 1) hx hb dX7_fitInto_94 (by decide) ?_
                have hP9 := hP.sub (ws' := [(h0, .inr (6, [t0, .ref t1, .ref t2, t3, t4])), (t1, .inl (kt1, 8, .inl ft)), (t2, .inl (kt2, 8, .inl f_15))]) [0, 1, 2] rfl
                have hD9 := hD.sub (ws' := [(h0, .inr (6, [t0, .ref t1, .ref t2, t3, t4])), (t1, .inl (kt1, 8, .inl ft)), (t2, .inl (kt2, 8, .inl f_15))]) [0, 1, 2] (by decide) rfl
                have hK9 := hK.sub (tys' := [(kt1, .int), (kt2, .int)]) [0, 1] rfl
                exact W.zret (v := 1) hx hb hr (by decide) (fun t ht hW => ⟨⟨1, (), rfl, (Or.inl ⟨rfl, cn_okE (uc_t c_2) hus (by omega) (by omega) hag ef_12 p_11 p_18⟩), f_15, (agr_3 p_16 ef_12 hag), (fun _ => cn_ok (by omega) hlm (uc_t c_2) hus (by omega) (by omega) hag ef_12 p_11 hno p_16 (p_17 p_18)), by rw [ht]; exact hP9, va_K.moved hW.alike hK9, hD9⟩, hS.F ht⟩) hS.2.2 dX7_fitInto_95
              · skip
                refine lv_if_eq (tgt := 96) hx hb dX7_fitInto_91 (by decide) (fun _ => ?_) (fun h => absurd (by decide) h)
                refine lv_iinc (v := (nI (cq + 1))) (lv' := [(4, .int (nI (cq + 1))), (0, .ref h0), (1, .int (nI lm)), (2, .int 2), (3, .int us)]) hx hb dX7_fitInto_96 hl (k := 0) rfl (nI_add cq 1) (by decide) rfl (fun ls hl => ?_)
                refine lv_goto (tgt := 42) hx hb dX7_fitInto_99 (by decide) ?_
                exact ih_5 (cq + 1) f_15 (by omega) (agr_3 p_16 ef_12 hag) (cn_fail hag ef_12 p_18 hno) (by omega) _ _ hP hD hS ls (lv_sub hl [0, 1, 2, 3, 4] rfl)
            · skip
              refine lv_if_ne (tgt := 67) hx hb dX7_fitInto_61 (by decide) (fun h => absurd h (by decide)) (fun _ => ?_)
              refine lv_goto (tgt := 96) hx hb dX7_fitInto_64 (by decide) ?_
              refine lv_iinc (v := (nI (cq + 1))) (lv' := [(4, .int (nI (cq + 1))), (0, .ref h0), (1, .int (nI lm)), (2, .int 2), (3, .int us)]) hx hb dX7_fitInto_96 hl (k := 0) rfl (nI_add cq 1) (by decide) rfl (fun ls hl => ?_)
              refine lv_goto (tgt := 42) hx hb dX7_fitInto_99 (by decide) ?_
              exact ih_5 (cq + 1) fcx (by omega) hag (cn_busy (by omega) (uc_t c_2) hag p_11 hno) (by omega) _ _ hP hD hS ls (lv_sub hl [0, 1, 2, 3, 4] rfl)
    exact key_4 ((8 - 0) + 1) 0 f_1 (by omega) (agr_up (Nat.le_refl _) ef_1) cn_0 (Nat.lt_succ_self _) _ _ hP hD hS ls (lv_sub hl [0, 1, 2, 3, 4] rfl)
  · have b_3 := gn_ne (X := (Int32.toInt (ft 2))) (C := 0) rfl (by decide) c_2
    refine lv_aload_n hx hb dX7_fitInto_29 rfl (lv_at hl 0 rfl) ?_
    refine lv_iload_n hx hb dX7_fitInto_30 rfl (lv_at hl 1 rfl) ?_
    refine lv_iload_n hx hb dX7_fitInto_31 rfl (lv_at hl 2 rfl) ?_
    refine lv_iconst (v := 1) hx hb dX7_fitInto_32 (by decide) ?_
    refine lv_iadd hx hb dX7_fitInto_33 ?_
    refine hx_top (y := 3) (by decide) ?_
    refine lv_iload_n hx hb dX7_fitInto_34 rfl (lv_at hl 3 rfl) ?_
    have hPc := hP.sub (ws' := [(h0, .inr (6, [t0, .ref t1, .ref t2, t3, t4])), (t1, .inl (kt1, 8, .inl ft)), (t2, .inl (kt2, 8, .inl f_1))]) [0, 1, 2] rfl
    have hDc := hD.sub (ws' := [(h0, .inr (6, [t0, .ref t1, .ref t2, t3, t4])), (t1, .inl (kt1, 8, .inl ft)), (t2, .inl (kt2, 8, .inl f_1))]) [0, 1, 2] (by decide) rfl
    have hKc := hK.sub (tys' := [(kt1, .int), (kt2, .int)]) [0, 1] rfl
    have hFc := va_free (wc := [(h0, .inr (6, [t0, .ref t1, .ref t2, t3, t4])), (t1, .inl (kt1, 8, .inl ft)), (t2, .inl (kt2, 8, .inl f_1))]) hD hS hA [0, 1, 2] rfl
    refine va_calli (va_runV (As := [.int (nI lm), .int 3, .int us]) (rest := []) ⟨hx, hb, hml, hown, hts⟩ (c_fit3 l dC dI H.size h0 (t0) t1 t2 (t3) (t4) kt1 ft kt2 f_1 lm us hlm (uN_un hus ef_1)) (cwV 3 hts (gV mw_3_26 mw_3_28 mw_0_7 mw_1_7 mw_3_29) rfl rfl rfl (by decide +kernel) ⟨Nat.le_of_ble_eq_true rfl, Nat.le_of_ble_eq_true rfl⟩) ⟨pcW_blind, va_recv hKc hPc (ci := 6) (q0 := 0) rfl rfl, pcW_at hPc hKc hDc hN⟩ rfl rfl hl.1 rfl (lv_room (Nat.le_of_ble_eq_true rfl)) dX7_fitInto_35 ⟨Nat.le_of_ble_eq_true rfl, Nat.le_of_ble_eq_true rfl⟩) hS (fun q _ h => hFc q h) hFc (fun r_19 u t H1 locs ht hvm hw_19 hB hz1 hk1 hS => ?_)
    obtain ⟨f_20, p_21, p_22, hP1, hK1, hD1⟩ := hB
    rw [ht] at hP1
    have hK1 := va_K.moved hvm.symm hK1
    obtain ⟨hP, hD⟩ := va_join (wr := []) (w1 := [(h0, .inr (6, [t0, .ref t1, .ref t2, t3, t4])), (t1, .inl (kt1, 8, .inl ft)), (t2, .inl (kt2, 8, .inl f_20))]) hP hD [0, 1, 2] [] rfl rfl (by decide) (by decide) hk1 hFc hP1 hD1
    have hK := (hK.sub (tys' := []) [] rfl).app hK1
    clear hz1 hk1 hPc hDc hKc hFc
    generalize H1 = H at hP hS ⊢
    have hK : va_K (dC, dI) vwCl [(kt1, .int), (kt2, .int)] s := hK
    have hP : va_P (dC, dI) vwCl [(h0, .inr (6, [t0, .ref t1, .ref t2, t3, t4])), (t1, .inl (kt1, 8, .inl ft)), (t2, .inl (kt2, 8, .inl f_20))] H := hP
    have hD : va_D A [(h0, .inr (6, [t0, .ref t1, .ref t2, t3, t4])), (t1, .inl (kt1, 8, .inl ft)), (t2, .inl (kt2, 8, .inl f_20))] := hD
    rcases hw_19 with ⟨rfl, p_23⟩ | ⟨rfl, p_23⟩
    · skip
      have hP9 := hP.sub (ws' := [(h0, .inr (6, [t0, .ref t1, .ref t2, t3, t4])), (t1, .inl (kt1, 8, .inl ft)), (t2, .inl (kt2, 8, .inl f_20))]) [0, 1, 2] rfl
      have hD9 := hD.sub (ws' := [(h0, .inr (6, [t0, .ref t1, .ref t2, t3, t4])), (t1, .inl (kt1, 8, .inl ft)), (t2, .inl (kt2, 8, .inl f_20))]) [0, 1, 2] (by decide) rfl
      have hK9 := hK.sub (tys' := [(kt1, .int), (kt2, .int)]) [0, 1] rfl
      exact W.zret (v := 1) hx hb hr (by decide) (fun t ht hW => ⟨⟨1, (), rfl, (Or.inl ⟨rfl, un_ex (uc_f c_2) ef_1 p_23⟩), f_20, (agr_2 p_21 ef_1), (fun _ => un_ls (by omega) (uc_f c_2) ef_1 p_21 (p_22 p_23)), by rw [ht]; exact hP9, va_K.moved hW.alike hK9, hD9⟩, hS.F ht⟩) hS.2.2 dX7_fitInto_38
    · skip
      have hP9 := hP.sub (ws' := [(h0, .inr (6, [t0, .ref t1, .ref t2, t3, t4])), (t1, .inl (kt1, 8, .inl ft)), (t2, .inl (kt2, 8, .inl f_20))]) [0, 1, 2] rfl
      have hD9 := hD.sub (ws' := [(h0, .inr (6, [t0, .ref t1, .ref t2, t3, t4])), (t1, .inl (kt1, 8, .inl ft)), (t2, .inl (kt2, 8, .inl f_20))]) [0, 1, 2] (by decide) rfl
      have hK9 := hK.sub (tys' := [(kt1, .int), (kt2, .int)]) [0, 1] rfl
      exact W.zret (v := 0) hx hb hr (by decide) (fun t ht hW => ⟨⟨0, (), rfl, (Or.inr ⟨rfl, un_no (by omega) (uc_f c_2) ef_1 p_23⟩), f_20, (agr_2 p_21 ef_1), (fun q9 => absurd q9 (un_no (by omega) (uc_f c_2) ef_1 p_23)), by rw [ht]; exact hP9, va_K.moved hW.alike hK9, hD9⟩, hS.F ht⟩) hS.2.2 dX7_fitInto_38
set_option maxHeartbeats 4000000 in
set_option maxRecDepth 100000 in
theorem c_fit1 (l : Launch) (dC : Nat → ClassId) (dI : Nat → Nat → Nat) (sz : Nat) (h0 : Nat) (t0 : Value) (t1 : Nat) (t2 : Nat) (t3 : Value) (t4 : Value) (kt1 : ClassId) (ft : Nat → Int32) (kt2 : ClassId) (fcl : Nat → Int32) (lm : Nat) (us : Int32) (hlm : lm ≤ 8) (hus : Int32.toInt us = ((uN fcl 1 : Nat) : Int)) : Met l yX7_fitInto (wq yX7_fitInto cX7_fitInto 5 (some .boolean)) ({ frames := 8, cells := 0, slots := 0, locals := 188 }) (va_Pc [.ref h0, .int (nI lm), .int 1, .int us] (pcW dC dI [(kt1, .int), (kt2, .int)] [(h0, .inr (6, [t0, .ref t1, .ref t2, t3, t4])), (t1, .inl (kt1, 8, .inl ft)), (t2, .inl (kt2, 8, .inl fcl))] sz)) (va_Qi (fun (r : Int32) (_ : Unit) => (r = 1 ∧ cEx (uC ft) (kB ft) lm fcl 1) ∨ (r = 0 ∧ ¬ cEx (uC ft) (kB ft) lm fcl 1)) (fun _ t => ∃ (fcl2 : Nat → Int32), (agr fcl2 fcl 1) ∧ (cEx (uC ft) (kB ft) lm fcl 1 → cLs (uC ft) (kB ft) lm fcl 1 fcl2) ∧ va_P (dC, dI) vwCl [(h0, .inr (6, [t0, .ref t1, .ref t2, t3, t4])), (t1, .inl (kt1, 8, .inl ft)), (t2, .inl (kt2, 8, .inl fcl2))] t.heap ∧ va_K (dC, dI) vwCl [(kt1, .int), (kt2, .int)] t ∧ va_D (va_A [(h0, .inr (6, [t0, .ref t1, .ref t2, t3, t4])), (t1, .inl (kt1, 8, .inl ft)), (t2, .inl (kt2, 8, .inl fcl))] sz) [(h0, .inr (6, [t0, .ref t1, .ref t2, t3, t4])), (t1, .inl (kt1, 8, .inl ft)), (t2, .inl (kt2, 8, .inl fcl2))]) (va_A [(h0, .inr (6, [t0, .ref t1, .ref t2, t3, t4])), (t1, .inl (kt1, 8, .inl ft)), (t2, .inl (kt2, 8, .inl fcl))] sz)) 0 0 (va_A [(h0, .inr (6, [t0, .ref t1, .ref t2, t3, t4])), (t1, .inl (kt1, 8, .inl ft)), (t2, .inl (kt2, 8, .inl fcl))] sz) := by
  refine Met.ofW (cc := cX7_fitInto) (maxL := 5) (ret := (some .boolean)) (by decide) rfl ?_
  intro p e s m args below meth c s₁ B hml hv
  obtain ⟨rfl, hsz, hN, hP, hK, hD0⟩ := hv
  have hx := B.exec
  have hb := B.bytes
  have hr := B.returns
  have hts0 := atoms_spec (ws := (wq yX7_fitInto cX7_fitInto 5 (some .boolean))) B.pre
  have hts : ∀ w ∈ BG, w.before _ s = true := fun w h => hts0 w (List.mem_cons_of_mem _ h)
  have hown : s.vm.findClass RX7 = some m.cls := findClass_of_methodNamed B.named
  have hlocks := B.notSynchronized
  subst hsz
  have hD := hD0.self (sz := s.heap.size)
  generalize hAe : va_A [(h0, .inr (6, [t0, .ref t1, .ref t2, t3, t4])), (t1, .inl (kt1, 8, .inl ft)), (t2, .inl (kt2, 8, .inl fcl))] s.heap.size = A at hD ⊢
  have hA : ∀ q : Nat, s.heap.size ≤ q → A q := fun q h => by rw [← hAe]; exact Or.inr h
  have hS : va_S A s.heap s.heap [] := va_S.rf
  clear hAe hD0
  have hP : va_P (dC, dI) vwCl [(h0, .inr (6, [t0, .ref t1, .ref t2, t3, t4])), (t1, .inl (kt1, 8, .inl ft)), (t2, .inl (kt2, 8, .inl fcl))] s.heap := hP
  have hl := lv_entry ([.ref h0, .int (nI lm), .int 1, .int us]) (n := 5) (Nat.le_of_ble_eq_true rfl)
  rw [lg_entry_eq]
  generalize (lg_sl ([.ref h0, .int (nI lm), .int 1, .int us]) ++ List.replicate (5 - (lg_sl ([.ref h0, .int (nI lm), .int 1, .int us])).length) Slot.unset).toArray = ls at hl ⊢
  have hl : lv_has ls 5 [(0, .ref h0), (1, .int (nI lm)), (2, .int 1), (3, .int us)] := hl
  refine lv_iload_n hx hb dX7_fitInto_0 rfl (lv_at hl 2 rfl) ?_
  refine lv_if_lt (tgt := 10) hx hb dX7_fitInto_1 (by decide) (fun h => absurd h (by decide)) (fun _ => ?_)
  refine lv_iload_n hx hb dX7_fitInto_4 rfl (lv_at hl 2 rfl) ?_
  refine lv_bipush (v := 8) hx hb dX7_fitInto_5 (by decide) ?_
  refine lv_icmp_lt (tgt := 12) hx hb dX7_fitInto_7 (by decide) (fun _ => ?_) (fun h => absurd (by decide) h)
  refine lv_aload_n hx hb dX7_fitInto_12 rfl (lv_at hl 0 rfl) ?_
  refine va_get (D := (dC, dI)) (ci := 6) (v := .ref t2) (C := RX7) (T := TX7) (N := 5) hx hb hts inB_7 hown hK hP 0 rfl rfl 2 (by decide) (hts _ mw_1_129) (fun _ h9 => h9) rfl dX7_fitInto_13 ?_
  refine lv_iload_n hx hb dX7_fitInto_16 rfl (lv_at hl 2 rfl) ?_
  refine lv_bipush (v := (-6)) hx hb dX7_fitInto_17 (by decide) ?_
  refine va_iast hx hb hK hP hD hS 2 1 rfl rfl (show vp_in 1 8 by unfold vp_in; decide) dX7_fitInto_19 (fun H locs hP hD hS => ?_)
  obtain ⟨f_1, ef_1⟩ : ∃ g : Nat → Int32, g = upd fcl (Int32.toNatClampNeg 1) (-6) := ⟨_, rfl⟩
  rw [← ef_1] at hP hD
  have ef_1 : f_1 = upd fcl 1 (-6) := ef_1
  have hP : va_P (dC, dI) vwCl [(h0, .inr (6, [t0, .ref t1, .ref t2, t3, t4])), (t1, .inl (kt1, 8, .inl ft)), (t2, .inl (kt2, 8, .inl f_1))] H := hP
  have hD : va_D A [(h0, .inr (6, [t0, .ref t1, .ref t2, t3, t4])), (t1, .inl (kt1, 8, .inl ft)), (t2, .inl (kt2, 8, .inl f_1))] := hD
  refine lv_aload_n hx hb dX7_fitInto_20 rfl (lv_at hl 0 rfl) ?_
  refine va_get (D := (dC, dI)) (ci := 6) (v := .ref t1) (C := RX7) (T := TX7) (N := 5) hx hb hts inB_7 hown hK hP 0 rfl rfl 1 (by decide) (hts _ mw_1_128) (fun _ h9 => h9) rfl dX7_fitInto_21 ?_
  refine lv_iload_n hx hb dX7_fitInto_24 rfl (lv_at hl 2 rfl) ?_
  refine va_iald hx hb hK hP 1 0 rfl rfl (show vp_in 1 8 by unfold vp_in; decide) dX7_fitInto_25 ?_
  refine hx_top (y := (ft 1)) rfl ?_
  refine lv_if_ne (tgt := 39) hx hb dX7_fitInto_26 (by decide) (fun c_2 => ?_) (fun c_2 => ?_)
  · have b_3 := gx_ne (X := (Int32.toInt (ft 1))) (C := 0) rfl (by decide) c_2
    refine lv_iconst (v := 0) hx hb dX7_fitInto_39 (by decide) ?_
    refine lv_istore (lv' := [(4, .int 0), (0, .ref h0), (1, .int (nI lm)), (2, .int 1), (3, .int us)]) hx hb dX7_fitInto_40 hl (by decide) rfl (fun ls hl => ?_)
    have key_4 : ∀ (fu : Nat) (cq : Nat) (fcx : Nat → Int32), (cq ≤ 8) → (agr fcx fcl 1) → (cNo (uC ft) (kB ft) lm fcl 1 cq) → 8 - cq < fu → ∀ (H : Heap) (locs : List Loc), va_P (dC, dI) vwCl [(h0, .inr (6, [t0, .ref t1, .ref t2, t3, t4])), (t1, .inl (kt1, 8, .inl ft)), (t2, .inl (kt2, 8, .inl fcx))] H → va_D A [(h0, .inr (6, [t0, .ref t1, .ref t2, t3, t4])), (t1, .inl (kt1, 8, .inl ft)), (t2, .inl (kt2, 8, .inl fcx))] → va_S A s.heap H locs → ∀ (ls : Array Slot), lv_has ls 5 [(4, .int (nI cq)), (0, .ref h0), (1, .int (nI lm)), (2, .int 1), (3, .int us)] → W p l e (headSpec (wq yX7_fitInto cX7_fitInto 5 (some .boolean)) ({ frames := 8, cells := 0, slots := 0, locals := 188 })).room s m (([.ref h0, .int (nI lm), .int 1, .int us] : List Value)).toArray below meth c H locs 0 0 (MQ below (va_Qi (fun (r : Int32) (_ : Unit) => (r = 1 ∧ cEx (uC ft) (kB ft) lm fcl 1) ∨ (r = 0 ∧ ¬ cEx (uC ft) (kB ft) lm fcl 1)) (fun _ t => ∃ (fcl2 : Nat → Int32), (agr fcl2 fcl 1) ∧ (cEx (uC ft) (kB ft) lm fcl 1 → cLs (uC ft) (kB ft) lm fcl 1 fcl2) ∧ va_P (dC, dI) vwCl [(h0, .inr (6, [t0, .ref t1, .ref t2, t3, t4])), (t1, .inl (kt1, 8, .inl ft)), (t2, .inl (kt2, 8, .inl fcl2))] t.heap ∧ va_K (dC, dI) vwCl [(kt1, .int), (kt2, .int)] t ∧ va_D A [(h0, .inr (6, [t0, .ref t1, .ref t2, t3, t4])), (t1, .inl (kt1, 8, .inl ft)), (t2, .inl (kt2, 8, .inl fcl2))]) A) (([.ref h0, .int (nI lm), .int 1, .int us] : List Value)).toArray s 0 0 A) (F0 m 42 ls []) := by
      intro fu
      induction fu with
      | zero => intro cq fcx hcq hag hno hme; exact absurd hme (Nat.not_lt_zero _)
      | succ fu ih_5 =>
        intro cq fcx hcq hag hno hme H locs hP hD hS ls hl
        refine lv_iload hx hb dX7_fitInto_42 (lv_at hl 0 rfl) ?_
        refine lv_iload_n hx hb dX7_fitInto_44 rfl (lv_at hl 4 rfl) ?_
        refine lv_icmp_gt (tgt := 102) hx hb dX7_fitInto_45 (by decide) (fun c_6 => ?_) (fun c_6 => ?_)
        · have b_7 := gx_gt (X := ((cq : Nat) : Int)) (C := (Int32.toInt us)) (nI_toInt (by omega)) rfl c_6
          refine lv_iconst (v := 0) hx hb dX7_fitInto_102 (by decide) ?_
          have hP9 := hP.sub (ws' := [(h0, .inr (6, [t0, .ref t1, .ref t2, t3, t4])), (t1, .inl (kt1, 8, .inl ft)), (t2, .inl (kt2, 8, .inl fcx))]) [0, 1, 2] rfl
          have hD9 := hD.sub (ws' := [(h0, .inr (6, [t0, .ref t1, .ref t2, t3, t4])), (t1, .inl (kt1, 8, .inl ft)), (t2, .inl (kt2, 8, .inl fcx))]) [0, 1, 2] (by decide) rfl
          have hK9 := hK.sub (tys' := [(kt1, .int), (kt2, .int)]) [0, 1] rfl
          exact W.zret (v := 0) hx hb hr (by decide) (fun t ht hW => ⟨⟨0, (), rfl, (Or.inr ⟨rfl, cn_end (by omega) (uc_t c_2) hus hno (by omega)⟩), fcx, hag, (fun q9 => absurd q9 (cn_end (by omega) (uc_t c_2) hus hno (by omega))), by rw [ht]; exact hP9, va_K.moved hW.alike hK9, hD9⟩, hS.F ht⟩) hS.2.2 dX7_fitInto_103
        · have b_7 := gn_gt (X := ((cq : Nat) : Int)) (C := (Int32.toInt us)) (nI_toInt (by omega)) rfl c_6
          refine lv_iload hx hb dX7_fitInto_48 (lv_at hl 0 rfl) ?_
          refine lv_iload_n hx hb dX7_fitInto_50 rfl (lv_at hl 2 rfl) ?_
          refine lv_icmp_ge (tgt := 102) hx hb dX7_fitInto_51 (by decide) (fun c_8 => ?_) (fun c_8 => ?_)
          · have b_9 := gx_ge (X := ((cq : Nat) : Int)) (C := ((lm : Nat) : Int)) (nI_toInt (by omega)) (nI_toInt (by omega)) c_8
            refine lv_iconst (v := 0) hx hb dX7_fitInto_102 (by decide) ?_
            have hP9 := hP.sub (ws' := [(h0, .inr (6, [t0, .ref t1, .ref t2, t3, t4])), (t1, .inl (kt1, 8, .inl ft)), (t2, .inl (kt2, 8, .inl fcx))]) [0, 1, 2] rfl
            have hD9 := hD.sub (ws' := [(h0, .inr (6, [t0, .ref t1, .ref t2, t3, t4])), (t1, .inl (kt1, 8, .inl ft)), (t2, .inl (kt2, 8, .inl fcx))]) [0, 1, 2] (by decide) rfl
            have hK9 := hK.sub (tys' := [(kt1, .int), (kt2, .int)]) [0, 1] rfl
            exact W.zret (v := 0) hx hb hr (by decide) (fun t ht hW => ⟨⟨0, (), rfl, (Or.inr ⟨rfl, cn_end (by omega) (uc_t c_2) hus hno (by omega)⟩), fcx, hag, (fun q9 => absurd q9 (cn_end (by omega) (uc_t c_2) hus hno (by omega))), by rw [ht]; exact hP9, va_K.moved hW.alike hK9, hD9⟩, hS.F ht⟩) hS.2.2 dX7_fitInto_103
          · have b_9 := gn_ge (X := ((cq : Nat) : Int)) (C := ((lm : Nat) : Int)) (nI_toInt (by omega)) (nI_toInt (by omega)) c_8
            refine lv_aload_n hx hb dX7_fitInto_54 rfl (lv_at hl 1 rfl) ?_
            refine lv_iload hx hb dX7_fitInto_55 (lv_at hl 0 rfl) ?_
            refine lv_iload_n hx hb dX7_fitInto_57 rfl (lv_at hl 3 rfl) ?_
            have hPc := hP.sub (ws' := [(h0, .inr (6, [t0, .ref t1, .ref t2, t3, t4])), (t1, .inl (kt1, 8, .inl ft)), (t2, .inl (kt2, 8, .inl fcx))]) [0, 1, 2] rfl
            have hDc := hD.sub (ws' := [(h0, .inr (6, [t0, .ref t1, .ref t2, t3, t4])), (t1, .inl (kt1, 8, .inl ft)), (t2, .inl (kt2, 8, .inl fcx))]) [0, 1, 2] (by decide) rfl
            have hKc := hK.sub (tys' := [(kt1, .int), (kt2, .int)]) [0, 1] rfl
            refine va_calli (va_runV (As := [.int (nI cq), .int 1]) (rest := []) ⟨hx, hb, hml, hown, hts⟩ (c_isFree l dC dI H.size h0 (t0) t1 t2 (t3) (t4) kt1 ft kt2 fcx (nI cq) 1 (by omega)) (cwV 2 hts (gV mw_3_30 mw_3_32 mw_0_8 mw_1_7 mw_3_33) rfl rfl rfl (by decide +kernel) ⟨Nat.le_of_ble_eq_true rfl, Nat.le_of_ble_eq_true rfl⟩) ⟨pcW_blind, va_recv hKc hPc (ci := 6) (q0 := 0) rfl rfl, pcW_at hPc hKc hDc hN⟩ rfl rfl hl.1 rfl (lv_room (Nat.le_of_ble_eq_true rfl)) dX7_fitInto_58 ⟨Nat.le_of_ble_eq_true rfl, Nat.le_of_ble_eq_true rfl⟩) hS (fun q h1 h2 => absurd h2 (Nat.not_le.mpr h1)) (fun q h => hA q (Nat.le_trans hS.1 h)) (fun r_10 u t H1 locs ht hvm hw_10 hB hz1 hk1 hS => ?_)
            have hP := keepP hP hk1
            clear hz1 hk1 hB ht hvm hPc hDc hKc
            generalize H1 = H at hP hS ⊢
            rcases hw_10 with ⟨rfl, p_11⟩ | ⟨rfl, p_11⟩
            · skip
              refine lv_if_ne (tgt := 67) hx hb dX7_fitInto_61 (by decide) (fun _ => ?_) (fun h => absurd h (by decide))
              refine lv_aload_n hx hb dX7_fitInto_67 rfl (lv_at hl 1 rfl) ?_
              refine va_get (D := (dC, dI)) (ci := 6) (v := .ref t2) (C := RX7) (T := TX7) (N := 5) hx hb hts inB_7 hown hK hP 0 rfl rfl 2 (by decide) (hts _ mw_1_129) (fun _ h9 => h9) rfl dX7_fitInto_68 ?_
              refine lv_iload_n hx hb dX7_fitInto_71 rfl (lv_at hl 3 rfl) ?_
              refine lv_iload hx hb dX7_fitInto_72 (lv_at hl 0 rfl) ?_
              refine va_iast hx hb hK hP hD hS 2 1 rfl rfl (show vp_in 1 8 by unfold vp_in; decide) dX7_fitInto_74 (fun H locs hP hD hS => ?_)
              obtain ⟨f_12, ef_12⟩ : ∃ g : Nat → Int32, g = upd fcx (Int32.toNatClampNeg 1) (nI cq) := ⟨_, rfl⟩
              rw [← ef_12] at hP hD
              have ef_12 : f_12 = upd fcx 1 (nI cq) := ef_12
              have hP : va_P (dC, dI) vwCl [(h0, .inr (6, [t0, .ref t1, .ref t2, t3, t4])), (t1, .inl (kt1, 8, .inl ft)), (t2, .inl (kt2, 8, .inl f_12))] H := hP
              have hD : va_D A [(h0, .inr (6, [t0, .ref t1, .ref t2, t3, t4])), (t1, .inl (kt1, 8, .inl ft)), (t2, .inl (kt2, 8, .inl f_12))] := hD
              refine lv_aload_n hx hb dX7_fitInto_75 rfl (lv_at hl 1 rfl) ?_
              refine lv_iload_n hx hb dX7_fitInto_76 rfl (lv_at hl 2 rfl) ?_
              refine lv_iload_n hx hb dX7_fitInto_77 rfl (lv_at hl 3 rfl) ?_
              refine lv_iconst (v := 1) hx hb dX7_fitInto_78 (by decide) ?_
              refine lv_iadd hx hb dX7_fitInto_79 ?_
              refine hx_top (y := 2) (by decide) ?_
              refine lv_iload_n hx hb dX7_fitInto_80 rfl (lv_at hl 4 rfl) ?_
              refine lv_iload hx hb dX7_fitInto_81 (lv_at hl 0 rfl) ?_
              refine lv_iconst (v := 1) hx hb dX7_fitInto_83 (by decide) ?_
              refine lv_iadd hx hb dX7_fitInto_84 ?_
              refine hx_top (y := (nI (cq + 1))) (nI_add cq 1) ?_
              refine va_mmax hx hb (by rw [hml]; exact hl.1.symm) hown (hts _ mw_3_34) (hts _ mw_2_150) (hts _ mw_1_10) (hts _ mw_2_151) (Nat.le_of_ble_eq_true rfl) (Nat.le_of_ble_eq_true rfl) (Nat.le_of_ble_eq_true rfl) (Nat.le_of_ble_eq_true rfl) dX7_fitInto_85 ?_
              refine lv_topi (fun z_13 ez_13 => ?_)
              have fz_13 := gx_max (X := (Int32.toInt us)) (C := (((cq + 1) : Nat) : Int)) rfl (nI_toInt (by omega)) ez_13
              have hPc := hP.sub (ws' := [(h0, .inr (6, [t0, .ref t1, .ref t2, t3, t4])), (t1, .inl (kt1, 8, .inl ft)), (t2, .inl (kt2, 8, .inl f_12))]) [0, 1, 2] rfl
              have hDc := hD.sub (ws' := [(h0, .inr (6, [t0, .ref t1, .ref t2, t3, t4])), (t1, .inl (kt1, 8, .inl ft)), (t2, .inl (kt2, 8, .inl f_12))]) [0, 1, 2] (by decide) rfl
              have hKc := hK.sub (tys' := [(kt1, .int), (kt2, .int)]) [0, 1] rfl
              have hFc := va_free (wc := [(h0, .inr (6, [t0, .ref t1, .ref t2, t3, t4])), (t1, .inl (kt1, 8, .inl ft)), (t2, .inl (kt2, 8, .inl f_12))]) hD hS hA [0, 1, 2] rfl
              refine va_calli (va_runV (As := [.int (nI lm), .int 2, .int z_13]) (rest := []) ⟨hx, hb, hml, hown, hts⟩ (c_fit2 l dC dI H.size h0 (t0) t1 t2 (t3) (t4) kt1 ft kt2 f_12 lm z_13 hlm (uN_max hus hag ef_12 (by omega) fz_13)) (cwV 3 hts (gV mw_3_26 mw_3_28 mw_0_7 mw_1_7 mw_3_29) rfl rfl rfl (by decide +kernel) ⟨Nat.le_of_ble_eq_true rfl, Nat.le_of_ble_eq_true rfl⟩) ⟨pcW_blind, va_recv hKc hPc (ci := 6) (q0 := 0) rfl rfl, pcW_at hPc hKc hDc hN⟩ rfl rfl hl.1 rfl (lv_room (Nat.le_of_ble_eq_true rfl)) dX7_fitInto_88 ⟨Nat.le_of_ble_eq_true rfl, Nat.le_of_ble_eq_true rfl⟩) hS (fun q _ h => hFc q h) hFc (fun r_14 u t H1 locs ht hvm hw_14 hB hz1 hk1 hS => ?_)
              obtain ⟨f_15, p_16, p_17, hP1, hK1, hD1⟩ := hB
              rw [ht] at hP1
              have hK1 := va_K.moved hvm.symm hK1
              obtain ⟨hP, hD⟩ := va_join (wr := []) (w1 := [(h0, .inr (6, [t0, .ref t1, .ref t2, t3, t4])), (t1, .inl (kt1, 8, .inl ft)), (t2, .inl (kt2, 8, .inl f_15))]) hP hD [0, 1, 2] [] rfl rfl (by decide) (by decide) hk1 hFc hP1 hD1
              have hK := (hK.sub (tys' := []) [] rfl).app hK1
              clear hz1 hk1 hPc hDc hKc hFc
              generalize H1 = H at hP hS ⊢
              have hK : va_K (dC, dI) vwCl [(kt1, .int), (kt2, .int)] s := hK
              have hP : va_P (dC, dI) vwCl [(h0, .inr (6, [t0, .ref t1, .ref t2, t3, t4])), (t1, .inl (kt1, 8, .inl ft)), (t2, .inl (kt2, 8, .inl f_15))] H := hP
              have hD : va_D A [(h0, .inr (6, [t0, .ref t1, .ref t2, t3, t4])), (t1, .inl (kt1, 8, .inl ft)), (t2, .inl (kt2, 8, .inl f_15))] := hD
              rcases hw_14 with ⟨rfl, p_18⟩ | ⟨rfl, p_18⟩
              · skip
                refine lv_if_eq (tgt := 96) hx hb dX7_fitInto_91 (by decide) (fun h => absurd h (by decide)) (fun _ => ?_)
                refine lv_iconst (v := 1) hx hb dX7_fitInto_94 (by decide) ?_
                have hP9 := hP.sub (ws' := [(h0, .inr (6, [t0, .ref t1, .ref t2, t3, t4])), (t1, .inl (kt1, 8, .inl ft)), (t2, .inl (kt2, 8, .inl f_15))]) [0, 1, 2] rfl
                have hD9 := hD.sub (ws' := [(h0, .inr (6, [t0, .ref t1, .ref t2, t3, t4])), (t1, .inl (kt1, 8, .inl ft)), (t2, .inl (kt2, 8, .inl f_15))]) [0, 1, 2] (by decide) rfl
                have hK9 := hK.sub (tys' := [(kt1, .int), (kt2, .int)]) [0, 1] rfl
                exact W.zret (v := 1) hx hb hr (by decide) (fun t ht hW => ⟨⟨1, (), rfl, (Or.inl ⟨rfl, cn_okE (uc_t c_2) hus (by omega) (by omega) hag ef_12 p_11 p_18⟩), f_15, (agr_3 p_16 ef_12 hag), (fun _ => cn_ok (by omega) hlm (uc_t c_2) hus (by omega) (by omega) hag ef_12 p_11 hno p_16 (p_17 p_18)), by rw [ht]; exact hP9, va_K.moved hW.alike hK9, hD9⟩, hS.F ht⟩) hS.2.2 dX7_fitInto_95
              · skip
                refine lv_if_eq (tgt := 96) hx hb dX7_fitInto_91 (by decide) (fun _ => ?_) (fun h => absurd (by decide) h)
                refine lv_iinc (v := (nI (cq + 1))) (lv' := [(4, .int (nI (cq + 1))), (0, .ref h0), (1, .int (nI lm)), (2, .int 1), (3, .int us)]) hx hb dX7_fitInto_96 hl (k := 0) rfl (nI_add cq 1) (by decide) rfl (fun ls hl => ?_)
                refine lv_goto (tgt := 42) hx hb dX7_fitInto_99 (by decide) ?_
                exact ih_5 (cq + 1) f_15 (by omega) (agr_3 p_16 ef_12 hag) (cn_fail hag ef_12 p_18 hno) (by omega) _ _ hP hD hS ls (lv_sub hl [0, 1, 2, 3, 4] rfl)
            · skip
              refine lv_if_ne (tgt := 67) hx hb dX7_fitInto_61 (by decide) (fun h => absurd h (by decide)) (fun _ => ?_)
              refine lv_goto (tgt := 96) hx hb dX7_fitInto_64 (by decide) ?_
              refine lv_iinc (v := (nI (cq + 1))) (lv' := [(4, .int (nI (cq + 1))), (0, .ref h0), (1, .int (nI lm)), (2, .int 1), (3, .int us)]) hx hb dX7_fitInto_96 hl (k := 0) rfl (nI_add cq 1) (by decide) rfl (fun ls hl => ?_)
              refine lv_goto (tgt := 42) hx hb dX7_fitInto_99 (by decide) ?_
              exact ih_5 (cq + 1) fcx (by omega) hag (cn_busy (by omega) (uc_t c_2) hag p_11 hno) (by omega) _ _ hP hD hS ls (lv_sub hl [0, 1, 2, 3, 4] rfl)
    exact key_4 ((8 - 0) + 1) 0 f_1 (by omega) (agr_up (Nat.le_refl _) ef_1) cn_0 (Nat.lt_succ_self _) _ _ hP hD hS ls (lv_sub hl [0, 1, 2, 3, 4] rfl)
  · have b_3 := gn_ne (X := (Int32.toInt (ft 1))) (C := 0) rfl (by decide) c_2
    refine lv_aload_n hx hb dX7_fitInto_29 rfl (lv_at hl 0 rfl) ?_
    refine lv_iload_n hx hb dX7_fitInto_30 rfl (lv_at hl 1 rfl) ?_
    refine lv_iload_n hx hb dX7_fitInto_31 rfl (lv_at hl 2 rfl) ?_
    refine lv_iconst (v := 1) hx hb dX7_fitInto_32 (by decide) ?_
    refine lv_iadd hx hb dX7_fitInto_33 ?_
    refine hx_top (y := 2) (by decide) ?_
    refine lv_iload_n hx hb dX7_fitInto_34 rfl (lv_at hl 3 rfl) ?_
    have hPc := hP.sub (ws' := [(h0, .inr (6, [t0, .ref t1, .ref t2, t3, t4])), (t1, .inl (kt1, 8, .inl ft)), (t2, .inl (kt2, 8, .inl f_1))]) [0, 1, 2] rfl
    have hDc := hD.sub (ws' := [(h0, .inr (6, [t0, .ref t1, .ref t2, t3, t4])), (t1, .inl (kt1, 8, .inl ft)), (t2, .inl (kt2, 8, .inl f_1))]) [0, 1, 2] (by decide) rfl
    have hKc := hK.sub (tys' := [(kt1, .int), (kt2, .int)]) [0, 1] rfl
    have hFc := va_free (wc := [(h0, .inr (6, [t0, .ref t1, .ref t2, t3, t4])), (t1, .inl (kt1, 8, .inl ft)), (t2, .inl (kt2, 8, .inl f_1))]) hD hS hA [0, 1, 2] rfl
    refine va_calli (va_runV (As := [.int (nI lm), .int 2, .int us]) (rest := []) ⟨hx, hb, hml, hown, hts⟩ (c_fit2 l dC dI H.size h0 (t0) t1 t2 (t3) (t4) kt1 ft kt2 f_1 lm us hlm (uN_un hus ef_1)) (cwV 3 hts (gV mw_3_26 mw_3_28 mw_0_7 mw_1_7 mw_3_29) rfl rfl rfl (by decide +kernel) ⟨Nat.le_of_ble_eq_true rfl, Nat.le_of_ble_eq_true rfl⟩) ⟨pcW_blind, va_recv hKc hPc (ci := 6) (q0 := 0) rfl rfl, pcW_at hPc hKc hDc hN⟩ rfl rfl hl.1 rfl (lv_room (Nat.le_of_ble_eq_true rfl)) dX7_fitInto_35 ⟨Nat.le_of_ble_eq_true rfl, Nat.le_of_ble_eq_true rfl⟩) hS (fun q _ h => hFc q h) hFc (fun r_19 u t H1 locs ht hvm hw_19 hB hz1 hk1 hS => ?_)
    obtain ⟨f_20, p_21, p_22, hP1, hK1, hD1⟩ := hB
    rw [ht] at hP1
    have hK1 := va_K.moved hvm.symm hK1
    obtain ⟨hP, hD⟩ := va_join (wr := []) (w1 := [(h0, .inr (6, [t0, .ref t1, .ref t2, t3, t4])), (t1, .inl (kt1, 8, .inl ft)), (t2, .inl (kt2, 8, .inl f_20))]) hP hD [0, 1, 2] [] rfl rfl (by decide) (by decide) hk1 hFc hP1 hD1
    have hK := (hK.sub (tys' := []) [] rfl).app hK1
    clear hz1 hk1 hPc hDc hKc hFc
    generalize H1 = H at hP hS ⊢
    have hK : va_K (dC, dI) vwCl [(kt1, .int), (kt2, .int)] s := hK
    have hP : va_P (dC, dI) vwCl [(h0, .inr (6, [t0, .ref t1, .ref t2, t3, t4])), (t1, .inl (kt1, 8, .inl ft)), (t2, .inl (kt2, 8, .inl f_20))] H := hP
    have hD : va_D A [(h0, .inr (6, [t0, .ref t1, .ref t2, t3, t4])), (t1, .inl (kt1, 8, .inl ft)), (t2, .inl (kt2, 8, .inl f_20))] := hD
    rcases hw_19 with ⟨rfl, p_23⟩ | ⟨rfl, p_23⟩
    · skip
      have hP9 := hP.sub (ws' := [(h0, .inr (6, [t0, .ref t1, .ref t2, t3, t4])), (t1, .inl (kt1, 8, .inl ft)), (t2, .inl (kt2, 8, .inl f_20))]) [0, 1, 2] rfl
      have hD9 := hD.sub (ws' := [(h0, .inr (6, [t0, .ref t1, .ref t2, t3, t4])), (t1, .inl (kt1, 8, .inl ft)), (t2, .inl (kt2, 8, .inl f_20))]) [0, 1, 2] (by decide) rfl
      have hK9 := hK.sub (tys' := [(kt1, .int), (kt2, .int)]) [0, 1] rfl
      exact W.zret (v := 1) hx hb hr (by decide) (fun t ht hW => ⟨⟨1, (), rfl, (Or.inl ⟨rfl, un_ex (uc_f c_2) ef_1 p_23⟩), f_20, (agr_2 p_21 ef_1), (fun _ => un_ls (by omega) (uc_f c_2) ef_1 p_21 (p_22 p_23)), by rw [ht]; exact hP9, va_K.moved hW.alike hK9, hD9⟩, hS.F ht⟩) hS.2.2 dX7_fitInto_38
    · skip
      have hP9 := hP.sub (ws' := [(h0, .inr (6, [t0, .ref t1, .ref t2, t3, t4])), (t1, .inl (kt1, 8, .inl ft)), (t2, .inl (kt2, 8, .inl f_20))]) [0, 1, 2] rfl
      have hD9 := hD.sub (ws' := [(h0, .inr (6, [t0, .ref t1, .ref t2, t3, t4])), (t1, .inl (kt1, 8, .inl ft)), (t2, .inl (kt2, 8, .inl f_20))]) [0, 1, 2] (by decide) rfl
      have hK9 := hK.sub (tys' := [(kt1, .int), (kt2, .int)]) [0, 1] rfl
      exact W.zret (v := 0) hx hb hr (by decide) (fun t ht hW => ⟨⟨0, (), rfl, (Or.inr ⟨rfl, un_no (by omega) (uc_f c_2) ef_1 p_23⟩), f_20, (agr_2 p_21 ef_1), (fun q9 => absurd q9 (un_no (by omega) (uc_f c_2) ef_1 p_23)), by rw [ht]; exact hP9, va_K.moved hW.alike hK9, hD9⟩, hS.F ht⟩) hS.2.2 dX7_fitInto_38
set_option maxHeartbeats 4000000 in
set_option maxRecDepth 100000 in
theorem c_fit0 (l : Launch) (dC : Nat → ClassId) (dI : Nat → Nat → Nat) (sz : Nat) (h0 : Nat) (t0 : Value) (t1 : Nat) (t2 : Nat) (t3 : Value) (t4 : Value) (kt1 : ClassId) (ft : Nat → Int32) (kt2 : ClassId) (fcl : Nat → Int32) (lm : Nat) (us : Int32) (hlm : lm ≤ 8) (hus : Int32.toInt us = ((uN fcl 0 : Nat) : Int)) : Met l yX7_fitInto (wq yX7_fitInto cX7_fitInto 5 (some .boolean)) ({ frames := 9, cells := 0, slots := 0, locals := 212 }) (va_Pc [.ref h0, .int (nI lm), .int 0, .int us] (pcW dC dI [(kt1, .int), (kt2, .int)] [(h0, .inr (6, [t0, .ref t1, .ref t2, t3, t4])), (t1, .inl (kt1, 8, .inl ft)), (t2, .inl (kt2, 8, .inl fcl))] sz)) (va_Qi (fun (r : Int32) (_ : Unit) => (r = 1 ∧ cEx (uC ft) (kB ft) lm fcl 0) ∨ (r = 0 ∧ ¬ cEx (uC ft) (kB ft) lm fcl 0)) (fun _ t => ∃ (fcl2 : Nat → Int32), (agr fcl2 fcl 0) ∧ (cEx (uC ft) (kB ft) lm fcl 0 → cLs (uC ft) (kB ft) lm fcl 0 fcl2) ∧ va_P (dC, dI) vwCl [(h0, .inr (6, [t0, .ref t1, .ref t2, t3, t4])), (t1, .inl (kt1, 8, .inl ft)), (t2, .inl (kt2, 8, .inl fcl2))] t.heap ∧ va_K (dC, dI) vwCl [(kt1, .int), (kt2, .int)] t ∧ va_D (va_A [(h0, .inr (6, [t0, .ref t1, .ref t2, t3, t4])), (t1, .inl (kt1, 8, .inl ft)), (t2, .inl (kt2, 8, .inl fcl))] sz) [(h0, .inr (6, [t0, .ref t1, .ref t2, t3, t4])), (t1, .inl (kt1, 8, .inl ft)), (t2, .inl (kt2, 8, .inl fcl2))]) (va_A [(h0, .inr (6, [t0, .ref t1, .ref t2, t3, t4])), (t1, .inl (kt1, 8, .inl ft)), (t2, .inl (kt2, 8, .inl fcl))] sz)) 0 0 (va_A [(h0, .inr (6, [t0, .ref t1, .ref t2, t3, t4])), (t1, .inl (kt1, 8, .inl ft)), (t2, .inl (kt2, 8, .inl fcl))] sz) := by
  refine Met.ofW (cc := cX7_fitInto) (maxL := 5) (ret := (some .boolean)) (by decide) rfl ?_
  intro p e s m args below meth c s₁ B hml hv
  obtain ⟨rfl, hsz, hN, hP, hK, hD0⟩ := hv
  have hx := B.exec
  have hb := B.bytes
  have hr := B.returns
  have hts0 := atoms_spec (ws := (wq yX7_fitInto cX7_fitInto 5 (some .boolean))) B.pre
  have hts : ∀ w ∈ BG, w.before _ s = true := fun w h => hts0 w (List.mem_cons_of_mem _ h)
  have hown : s.vm.findClass RX7 = some m.cls := findClass_of_methodNamed B.named
  have hlocks := B.notSynchronized
  subst hsz
  have hD := hD0.self (sz := s.heap.size)
  generalize hAe : va_A [(h0, .inr (6, [t0, .ref t1, .ref t2, t3, t4])), (t1, .inl (kt1, 8, .inl ft)), (t2, .inl (kt2, 8, .inl fcl))] s.heap.size = A at hD ⊢
  have hA : ∀ q : Nat, s.heap.size ≤ q → A q := fun q h => by rw [← hAe]; exact Or.inr h
  have hS : va_S A s.heap s.heap [] := va_S.rf
  clear hAe hD0
  have hP : va_P (dC, dI) vwCl [(h0, .inr (6, [t0, .ref t1, .ref t2, t3, t4])), (t1, .inl (kt1, 8, .inl ft)), (t2, .inl (kt2, 8, .inl fcl))] s.heap := hP
  have hl := lv_entry ([.ref h0, .int (nI lm), .int 0, .int us]) (n := 5) (Nat.le_of_ble_eq_true rfl)
  rw [lg_entry_eq]
  generalize (lg_sl ([.ref h0, .int (nI lm), .int 0, .int us]) ++ List.replicate (5 - (lg_sl ([.ref h0, .int (nI lm), .int 0, .int us])).length) Slot.unset).toArray = ls at hl ⊢
  have hl : lv_has ls 5 [(0, .ref h0), (1, .int (nI lm)), (2, .int 0), (3, .int us)] := hl
  refine lv_iload_n hx hb dX7_fitInto_0 rfl (lv_at hl 2 rfl) ?_
  refine lv_if_lt (tgt := 10) hx hb dX7_fitInto_1 (by decide) (fun h => absurd h (by decide)) (fun _ => ?_)
  refine lv_iload_n hx hb dX7_fitInto_4 rfl (lv_at hl 2 rfl) ?_
  refine lv_bipush (v := 8) hx hb dX7_fitInto_5 (by decide) ?_
  refine lv_icmp_lt (tgt := 12) hx hb dX7_fitInto_7 (by decide) (fun _ => ?_) (fun h => absurd (by decide) h)
  refine lv_aload_n hx hb dX7_fitInto_12 rfl (lv_at hl 0 rfl) ?_
  refine va_get (D := (dC, dI)) (ci := 6) (v := .ref t2) (C := RX7) (T := TX7) (N := 5) hx hb hts inB_7 hown hK hP 0 rfl rfl 2 (by decide) (hts _ mw_1_129) (fun _ h9 => h9) rfl dX7_fitInto_13 ?_
  refine lv_iload_n hx hb dX7_fitInto_16 rfl (lv_at hl 2 rfl) ?_
  refine lv_bipush (v := (-6)) hx hb dX7_fitInto_17 (by decide) ?_
  refine va_iast hx hb hK hP hD hS 2 1 rfl rfl (show vp_in 0 8 by unfold vp_in; decide) dX7_fitInto_19 (fun H locs hP hD hS => ?_)
  obtain ⟨f_1, ef_1⟩ : ∃ g : Nat → Int32, g = upd fcl (Int32.toNatClampNeg 0) (-6) := ⟨_, rfl⟩
  rw [← ef_1] at hP hD
  have ef_1 : f_1 = upd fcl 0 (-6) := ef_1
  have hP : va_P (dC, dI) vwCl [(h0, .inr (6, [t0, .ref t1, .ref t2, t3, t4])), (t1, .inl (kt1, 8, .inl ft)), (t2, .inl (kt2, 8, .inl f_1))] H := hP
  have hD : va_D A [(h0, .inr (6, [t0, .ref t1, .ref t2, t3, t4])), (t1, .inl (kt1, 8, .inl ft)), (t2, .inl (kt2, 8, .inl f_1))] := hD
  refine lv_aload_n hx hb dX7_fitInto_20 rfl (lv_at hl 0 rfl) ?_
  refine va_get (D := (dC, dI)) (ci := 6) (v := .ref t1) (C := RX7) (T := TX7) (N := 5) hx hb hts inB_7 hown hK hP 0 rfl rfl 1 (by decide) (hts _ mw_1_128) (fun _ h9 => h9) rfl dX7_fitInto_21 ?_
  refine lv_iload_n hx hb dX7_fitInto_24 rfl (lv_at hl 2 rfl) ?_
  refine va_iald hx hb hK hP 1 0 rfl rfl (show vp_in 0 8 by unfold vp_in; decide) dX7_fitInto_25 ?_
  refine hx_top (y := (ft 0)) rfl ?_
  refine lv_if_ne (tgt := 39) hx hb dX7_fitInto_26 (by decide) (fun c_2 => ?_) (fun c_2 => ?_)
  · have b_3 := gx_ne (X := (Int32.toInt (ft 0))) (C := 0) rfl (by decide) c_2
    refine lv_iconst (v := 0) hx hb dX7_fitInto_39 (by decide) ?_
    refine lv_istore (lv' := [(4, .int 0), (0, .ref h0), (1, .int (nI lm)), (2, .int 0), (3, .int us)]) hx hb dX7_fitInto_40 hl (by decide) rfl (fun ls hl => ?_)
    have key_4 : ∀ (fu : Nat) (cq : Nat) (fcx : Nat → Int32), (cq ≤ 8) → (agr fcx fcl 0) → (cNo (uC ft) (kB ft) lm fcl 0 cq) → 8 - cq < fu → ∀ (H : Heap) (locs : List Loc), va_P (dC, dI) vwCl [(h0, .inr (6, [t0, .ref t1, .ref t2, t3, t4])), (t1, .inl (kt1, 8, .inl ft)), (t2, .inl (kt2, 8, .inl fcx))] H → va_D A [(h0, .inr (6, [t0, .ref t1, .ref t2, t3, t4])), (t1, .inl (kt1, 8, .inl ft)), (t2, .inl (kt2, 8, .inl fcx))] → va_S A s.heap H locs → ∀ (ls : Array Slot), lv_has ls 5 [(4, .int (nI cq)), (0, .ref h0), (1, .int (nI lm)), (2, .int 0), (3, .int us)] → W p l e (headSpec (wq yX7_fitInto cX7_fitInto 5 (some .boolean)) ({ frames := 9, cells := 0, slots := 0, locals := 212 })).room s m (([.ref h0, .int (nI lm), .int 0, .int us] : List Value)).toArray below meth c H locs 0 0 (MQ below (va_Qi (fun (r : Int32) (_ : Unit) => (r = 1 ∧ cEx (uC ft) (kB ft) lm fcl 0) ∨ (r = 0 ∧ ¬ cEx (uC ft) (kB ft) lm fcl 0)) (fun _ t => ∃ (fcl2 : Nat → Int32), (agr fcl2 fcl 0) ∧ (cEx (uC ft) (kB ft) lm fcl 0 → cLs (uC ft) (kB ft) lm fcl 0 fcl2) ∧ va_P (dC, dI) vwCl [(h0, .inr (6, [t0, .ref t1, .ref t2, t3, t4])), (t1, .inl (kt1, 8, .inl ft)), (t2, .inl (kt2, 8, .inl fcl2))] t.heap ∧ va_K (dC, dI) vwCl [(kt1, .int), (kt2, .int)] t ∧ va_D A [(h0, .inr (6, [t0, .ref t1, .ref t2, t3, t4])), (t1, .inl (kt1, 8, .inl ft)), (t2, .inl (kt2, 8, .inl fcl2))]) A) (([.ref h0, .int (nI lm), .int 0, .int us] : List Value)).toArray s 0 0 A) (F0 m 42 ls []) := by
      intro fu
      induction fu with
      | zero => intro cq fcx hcq hag hno hme; exact absurd hme (Nat.not_lt_zero _)
      | succ fu ih_5 =>
        intro cq fcx hcq hag hno hme H locs hP hD hS ls hl
        refine lv_iload hx hb dX7_fitInto_42 (lv_at hl 0 rfl) ?_
        refine lv_iload_n hx hb dX7_fitInto_44 rfl (lv_at hl 4 rfl) ?_
        refine lv_icmp_gt (tgt := 102) hx hb dX7_fitInto_45 (by decide) (fun c_6 => ?_) (fun c_6 => ?_)
        · have b_7 := gx_gt (X := ((cq : Nat) : Int)) (C := (Int32.toInt us)) (nI_toInt (by omega)) rfl c_6
          refine lv_iconst (v := 0) hx hb dX7_fitInto_102 (by decide) ?_
          have hP9 := hP.sub (ws' := [(h0, .inr (6, [t0, .ref t1, .ref t2, t3, t4])), (t1, .inl (kt1, 8, .inl ft)), (t2, .inl (kt2, 8, .inl fcx))]) [0, 1, 2] rfl
          have hD9 := hD.sub (ws' := [(h0, .inr (6, [t0, .ref t1, .ref t2, t3, t4])), (t1, .inl (kt1, 8, .inl ft)), (t2, .inl (kt2, 8, .inl fcx))]) [0, 1, 2] (by decide) rfl
          have hK9 := hK.sub (tys' := [(kt1, .int), (kt2, .int)]) [0, 1] rfl
          exact W.zret (v := 0) hx hb hr (by decide) (fun t ht hW => ⟨⟨0, (), rfl, (Or.inr ⟨rfl, cn_end (by omega) (uc_t c_2) hus hno (by omega)⟩), fcx, hag, (fun q9 => absurd q9 (cn_end (by omega) (uc_t c_2) hus hno (by omega))), by rw [ht]; exact hP9, va_K.moved hW.alike hK9, hD9⟩, hS.F ht⟩) hS.2.2 dX7_fitInto_103
        · have b_7 := gn_gt (X := ((cq : Nat) : Int)) (C := (Int32.toInt us)) (nI_toInt (by omega)) rfl c_6
          refine lv_iload hx hb dX7_fitInto_48 (lv_at hl 0 rfl) ?_
          refine lv_iload_n hx hb dX7_fitInto_50 rfl (lv_at hl 2 rfl) ?_
          refine lv_icmp_ge (tgt := 102) hx hb dX7_fitInto_51 (by decide) (fun c_8 => ?_) (fun c_8 => ?_)
          · have b_9 := gx_ge (X := ((cq : Nat) : Int)) (C := ((lm : Nat) : Int)) (nI_toInt (by omega)) (nI_toInt (by omega)) c_8
            refine lv_iconst (v := 0) hx hb dX7_fitInto_102 (by decide) ?_
            have hP9 := hP.sub (ws' := [(h0, .inr (6, [t0, .ref t1, .ref t2, t3, t4])), (t1, .inl (kt1, 8, .inl ft)), (t2, .inl (kt2, 8, .inl fcx))]) [0, 1, 2] rfl
            have hD9 := hD.sub (ws' := [(h0, .inr (6, [t0, .ref t1, .ref t2, t3, t4])), (t1, .inl (kt1, 8, .inl ft)), (t2, .inl (kt2, 8, .inl fcx))]) [0, 1, 2] (by decide) rfl
            have hK9 := hK.sub (tys' := [(kt1, .int), (kt2, .int)]) [0, 1] rfl
            exact W.zret (v := 0) hx hb hr (by decide) (fun t ht hW => ⟨⟨0, (), rfl, (Or.inr ⟨rfl, cn_end (by omega) (uc_t c_2) hus hno (by omega)⟩), fcx, hag, (fun q9 => absurd q9 (cn_end (by omega) (uc_t c_2) hus hno (by omega))), by rw [ht]; exact hP9, va_K.moved hW.alike hK9, hD9⟩, hS.F ht⟩) hS.2.2 dX7_fitInto_103
          · have b_9 := gn_ge (X := ((cq : Nat) : Int)) (C := ((lm : Nat) : Int)) (nI_toInt (by omega)) (nI_toInt (by omega)) c_8
            refine lv_aload_n hx hb dX7_fitInto_54 rfl (lv_at hl 1 rfl) ?_
            refine lv_iload hx hb dX7_fitInto_55 (lv_at hl 0 rfl) ?_
            refine lv_iload_n hx hb dX7_fitInto_57 rfl (lv_at hl 3 rfl) ?_
            have hPc := hP.sub (ws' := [(h0, .inr (6, [t0, .ref t1, .ref t2, t3, t4])), (t1, .inl (kt1, 8, .inl ft)), (t2, .inl (kt2, 8, .inl fcx))]) [0, 1, 2] rfl
            have hDc := hD.sub (ws' := [(h0, .inr (6, [t0, .ref t1, .ref t2, t3, t4])), (t1, .inl (kt1, 8, .inl ft)), (t2, .inl (kt2, 8, .inl fcx))]) [0, 1, 2] (by decide) rfl
            have hKc := hK.sub (tys' := [(kt1, .int), (kt2, .int)]) [0, 1] rfl
            refine va_calli (va_runV (As := [.int (nI cq), .int 0]) (rest := []) ⟨hx, hb, hml, hown, hts⟩ (c_isFree l dC dI H.size h0 (t0) t1 t2 (t3) (t4) kt1 ft kt2 fcx (nI cq) 0 (by omega)) (cwV 2 hts (gV mw_3_30 mw_3_32 mw_0_8 mw_1_7 mw_3_33) rfl rfl rfl (by decide +kernel) ⟨Nat.le_of_ble_eq_true rfl, Nat.le_of_ble_eq_true rfl⟩) ⟨pcW_blind, va_recv hKc hPc (ci := 6) (q0 := 0) rfl rfl, pcW_at hPc hKc hDc hN⟩ rfl rfl hl.1 rfl (lv_room (Nat.le_of_ble_eq_true rfl)) dX7_fitInto_58 ⟨Nat.le_of_ble_eq_true rfl, Nat.le_of_ble_eq_true rfl⟩) hS (fun q h1 h2 => absurd h2 (Nat.not_le.mpr h1)) (fun q h => hA q (Nat.le_trans hS.1 h)) (fun r_10 u t H1 locs ht hvm hw_10 hB hz1 hk1 hS => ?_)
            have hP := keepP hP hk1
            clear hz1 hk1 hB ht hvm hPc hDc hKc
            generalize H1 = H at hP hS ⊢
            rcases hw_10 with ⟨rfl, p_11⟩ | ⟨rfl, p_11⟩
            · skip
              refine lv_if_ne (tgt := 67) hx hb dX7_fitInto_61 (by decide) (fun _ => ?_) (fun h => absurd h (by decide))
              refine lv_aload_n hx hb dX7_fitInto_67 rfl (lv_at hl 1 rfl) ?_
              refine va_get (D := (dC, dI)) (ci := 6) (v := .ref t2) (C := RX7) (T := TX7) (N := 5) hx hb hts inB_7 hown hK hP 0 rfl rfl 2 (by decide) (hts _ mw_1_129) (fun _ h9 => h9) rfl dX7_fitInto_68 ?_
              refine lv_iload_n hx hb dX7_fitInto_71 rfl (lv_at hl 3 rfl) ?_
              refine lv_iload hx hb dX7_fitInto_72 (lv_at hl 0 rfl) ?_
              refine va_iast hx hb hK hP hD hS 2 1 rfl rfl (show vp_in 0 8 by unfold vp_in; decide) dX7_fitInto_74 (fun H locs hP hD hS => ?_)
              obtain ⟨f_12, ef_12⟩ : ∃ g : Nat → Int32, g = upd fcx (Int32.toNatClampNeg 0) (nI cq) := ⟨_, rfl⟩
              rw [← ef_12] at hP hD
              have ef_12 : f_12 = upd fcx 0 (nI cq) := ef_12
              have hP : va_P (dC, dI) vwCl [(h0, .inr (6, [t0, .ref t1, .ref t2, t3, t4])), (t1, .inl (kt1, 8, .inl ft)), (t2, .inl (kt2, 8, .inl f_12))] H := hP
              have hD : va_D A [(h0, .inr (6, [t0, .ref t1, .ref t2, t3, t4])), (t1, .inl (kt1, 8, .inl ft)), (t2, .inl (kt2, 8, .inl f_12))] := hD
              refine lv_aload_n hx hb dX7_fitInto_75 rfl (lv_at hl 1 rfl) ?_
              refine lv_iload_n hx hb dX7_fitInto_76 rfl (lv_at hl 2 rfl) ?_
              refine lv_iload_n hx hb dX7_fitInto_77 rfl (lv_at hl 3 rfl) ?_
              refine lv_iconst (v := 1) hx hb dX7_fitInto_78 (by decide) ?_
              refine lv_iadd hx hb dX7_fitInto_79 ?_
              refine hx_top (y := 1) (by decide) ?_
              refine lv_iload_n hx hb dX7_fitInto_80 rfl (lv_at hl 4 rfl) ?_
              refine lv_iload hx hb dX7_fitInto_81 (lv_at hl 0 rfl) ?_
              refine lv_iconst (v := 1) hx hb dX7_fitInto_83 (by decide) ?_
              refine lv_iadd hx hb dX7_fitInto_84 ?_
              refine hx_top (y := (nI (cq + 1))) (nI_add cq 1) ?_
              refine va_mmax hx hb (by rw [hml]; exact hl.1.symm) hown (hts _ mw_3_34) (hts _ mw_2_150) (hts _ mw_1_10) (hts _ mw_2_151) (Nat.le_of_ble_eq_true rfl) (Nat.le_of_ble_eq_true rfl) (Nat.le_of_ble_eq_true rfl) (Nat.le_of_ble_eq_true rfl) dX7_fitInto_85 ?_
              refine lv_topi (fun z_13 ez_13 => ?_)
              have fz_13 := gx_max (X := (Int32.toInt us)) (C := (((cq + 1) : Nat) : Int)) rfl (nI_toInt (by omega)) ez_13
              have hPc := hP.sub (ws' := [(h0, .inr (6, [t0, .ref t1, .ref t2, t3, t4])), (t1, .inl (kt1, 8, .inl ft)), (t2, .inl (kt2, 8, .inl f_12))]) [0, 1, 2] rfl
              have hDc := hD.sub (ws' := [(h0, .inr (6, [t0, .ref t1, .ref t2, t3, t4])), (t1, .inl (kt1, 8, .inl ft)), (t2, .inl (kt2, 8, .inl f_12))]) [0, 1, 2] (by decide) rfl
              have hKc := hK.sub (tys' := [(kt1, .int), (kt2, .int)]) [0, 1] rfl
              have hFc := va_free (wc := [(h0, .inr (6, [t0, .ref t1, .ref t2, t3, t4])), (t1, .inl (kt1, 8, .inl ft)), (t2, .inl (kt2, 8, .inl f_12))]) hD hS hA [0, 1, 2] rfl
              refine va_calli (va_runV (As := [.int (nI lm), .int 1, .int z_13]) (rest := []) ⟨hx, hb, hml, hown, hts⟩ (c_fit1 l dC dI H.size h0 (t0) t1 t2 (t3) (t4) kt1 ft kt2 f_12 lm z_13 hlm (uN_max hus hag ef_12 (by omega) fz_13)) (cwV 3 hts (gV mw_3_26 mw_3_28 mw_0_7 mw_1_7 mw_3_29) rfl rfl rfl (by decide +kernel) ⟨Nat.le_of_ble_eq_true rfl, Nat.le_of_ble_eq_true rfl⟩) ⟨pcW_blind, va_recv hKc hPc (ci := 6) (q0 := 0) rfl rfl, pcW_at hPc hKc hDc hN⟩ rfl rfl hl.1 rfl (lv_room (Nat.le_of_ble_eq_true rfl)) dX7_fitInto_88 ⟨Nat.le_of_ble_eq_true rfl, Nat.le_of_ble_eq_true rfl⟩) hS (fun q _ h => hFc q h) hFc (fun r_14 u t H1 locs ht hvm hw_14 hB hz1 hk1 hS => ?_)
              obtain ⟨f_15, p_16, p_17, hP1, hK1, hD1⟩ := hB
              rw [ht] at hP1
              have hK1 := va_K.moved hvm.symm hK1
              obtain ⟨hP, hD⟩ := va_join (wr := []) (w1 := [(h0, .inr (6, [t0, .ref t1, .ref t2, t3, t4])), (t1, .inl (kt1, 8, .inl ft)), (t2, .inl (kt2, 8, .inl f_15))]) hP hD [0, 1, 2] [] rfl rfl (by decide) (by decide) hk1 hFc hP1 hD1
              have hK := (hK.sub (tys' := []) [] rfl).app hK1
              clear hz1 hk1 hPc hDc hKc hFc
              generalize H1 = H at hP hS ⊢
              have hK : va_K (dC, dI) vwCl [(kt1, .int), (kt2, .int)] s := hK
              have hP : va_P (dC, dI) vwCl [(h0, .inr (6, [t0, .ref t1, .ref t2, t3, t4])), (t1, .inl (kt1, 8, .inl ft)), (t2, .inl (kt2, 8, .inl f_15))] H := hP
              have hD : va_D A [(h0, .inr (6, [t0, .ref t1, .ref t2, t3, t4])), (t1, .inl (kt1, 8, .inl ft)), (t2, .inl (kt2, 8, .inl f_15))] := hD
              rcases hw_14 with ⟨rfl, p_18⟩ | ⟨rfl, p_18⟩
              · skip
                refine lv_if_eq (tgt := 96) hx hb dX7_fitInto_91 (by decide) (fun h => absurd h (by decide)) (fun _ => ?_)
                refine lv_iconst (v := 1) hx hb dX7_fitInto_94 (by decide) ?_
                have hP9 := hP.sub (ws' := [(h0, .inr (6, [t0, .ref t1, .ref t2, t3, t4])), (t1, .inl (kt1, 8, .inl ft)), (t2, .inl (kt2, 8, .inl f_15))]) [0, 1, 2] rfl
                have hD9 := hD.sub (ws' := [(h0, .inr (6, [t0, .ref t1, .ref t2, t3, t4])), (t1, .inl (kt1, 8, .inl ft)), (t2, .inl (kt2, 8, .inl f_15))]) [0, 1, 2] (by decide) rfl
                have hK9 := hK.sub (tys' := [(kt1, .int), (kt2, .int)]) [0, 1] rfl
                exact W.zret (v := 1) hx hb hr (by decide) (fun t ht hW => ⟨⟨1, (), rfl, (Or.inl ⟨rfl, cn_okE (uc_t c_2) hus (by omega) (by omega) hag ef_12 p_11 p_18⟩), f_15, (agr_3 p_16 ef_12 hag), (fun _ => cn_ok (by omega) hlm (uc_t c_2) hus (by omega) (by omega) hag ef_12 p_11 hno p_16 (p_17 p_18)), by rw [ht]; exact hP9, va_K.moved hW.alike hK9, hD9⟩, hS.F ht⟩) hS.2.2 dX7_fitInto_95
              · skip
                refine lv_if_eq (tgt := 96) hx hb dX7_fitInto_91 (by decide) (fun _ => ?_) (fun h => absurd (by decide) h)
                refine lv_iinc (v := (nI (cq + 1))) (lv' := [(4, .int (nI (cq + 1))), (0, .ref h0), (1, .int (nI lm)), (2, .int 0), (3, .int us)]) hx hb dX7_fitInto_96 hl (k := 0) rfl (nI_add cq 1) (by decide) rfl (fun ls hl => ?_)
                refine lv_goto (tgt := 42) hx hb dX7_fitInto_99 (by decide) ?_
                exact ih_5 (cq + 1) f_15 (by omega) (agr_3 p_16 ef_12 hag) (cn_fail hag ef_12 p_18 hno) (by omega) _ _ hP hD hS ls (lv_sub hl [0, 1, 2, 3, 4] rfl)
            · skip
              refine lv_if_ne (tgt := 67) hx hb dX7_fitInto_61 (by decide) (fun h => absurd h (by decide)) (fun _ => ?_)
              refine lv_goto (tgt := 96) hx hb dX7_fitInto_64 (by decide) ?_
              refine lv_iinc (v := (nI (cq + 1))) (lv' := [(4, .int (nI (cq + 1))), (0, .ref h0), (1, .int (nI lm)), (2, .int 0), (3, .int us)]) hx hb dX7_fitInto_96 hl (k := 0) rfl (nI_add cq 1) (by decide) rfl (fun ls hl => ?_)
              refine lv_goto (tgt := 42) hx hb dX7_fitInto_99 (by decide) ?_
              exact ih_5 (cq + 1) fcx (by omega) hag (cn_busy (by omega) (uc_t c_2) hag p_11 hno) (by omega) _ _ hP hD hS ls (lv_sub hl [0, 1, 2, 3, 4] rfl)
    exact key_4 ((8 - 0) + 1) 0 f_1 (by omega) (agr_up (Nat.le_refl _) ef_1) cn_0 (Nat.lt_succ_self _) _ _ hP hD hS ls (lv_sub hl [0, 1, 2, 3, 4] rfl)
  · have b_3 := gn_ne (X := (Int32.toInt (ft 0))) (C := 0) rfl (by decide) c_2
    refine lv_aload_n hx hb dX7_fitInto_29 rfl (lv_at hl 0 rfl) ?_
    refine lv_iload_n hx hb dX7_fitInto_30 rfl (lv_at hl 1 rfl) ?_
    refine lv_iload_n hx hb dX7_fitInto_31 rfl (lv_at hl 2 rfl) ?_
    refine lv_iconst (v := 1) hx hb dX7_fitInto_32 (by decide) ?_
    refine lv_iadd hx hb dX7_fitInto_33 ?_
    refine hx_top (y := 1) (by decide) ?_
    refine lv_iload_n hx hb dX7_fitInto_34 rfl (lv_at hl 3 rfl) ?_
    have hPc := hP.sub (ws' := [(h0, .inr (6, [t0, .ref t1, .ref t2, t3, t4])), (t1, .inl (kt1, 8, .inl ft)), (t2, .inl (kt2, 8, .inl f_1))]) [0, 1, 2] rfl
    have hDc := hD.sub (ws' := [(h0, .inr (6, [t0, .ref t1, .ref t2, t3, t4])), (t1, .inl (kt1, 8, .inl ft)), (t2, .inl (kt2, 8, .inl f_1))]) [0, 1, 2] (by decide) rfl
    have hKc := hK.sub (tys' := [(kt1, .int), (kt2, .int)]) [0, 1] rfl
    have hFc := va_free (wc := [(h0, .inr (6, [t0, .ref t1, .ref t2, t3, t4])), (t1, .inl (kt1, 8, .inl ft)), (t2, .inl (kt2, 8, .inl f_1))]) hD hS hA [0, 1, 2] rfl
    refine va_calli (va_runV (As := [.int (nI lm), .int 1, .int us]) (rest := []) ⟨hx, hb, hml, hown, hts⟩ (c_fit1 l dC dI H.size h0 (t0) t1 t2 (t3) (t4) kt1 ft kt2 f_1 lm us hlm (uN_un hus ef_1)) (cwV 3 hts (gV mw_3_26 mw_3_28 mw_0_7 mw_1_7 mw_3_29) rfl rfl rfl (by decide +kernel) ⟨Nat.le_of_ble_eq_true rfl, Nat.le_of_ble_eq_true rfl⟩) ⟨pcW_blind, va_recv hKc hPc (ci := 6) (q0 := 0) rfl rfl, pcW_at hPc hKc hDc hN⟩ rfl rfl hl.1 rfl (lv_room (Nat.le_of_ble_eq_true rfl)) dX7_fitInto_35 ⟨Nat.le_of_ble_eq_true rfl, Nat.le_of_ble_eq_true rfl⟩) hS (fun q _ h => hFc q h) hFc (fun r_19 u t H1 locs ht hvm hw_19 hB hz1 hk1 hS => ?_)
    obtain ⟨f_20, p_21, p_22, hP1, hK1, hD1⟩ := hB
    rw [ht] at hP1
    have hK1 := va_K.moved hvm.symm hK1
    obtain ⟨hP, hD⟩ := va_join (wr := []) (w1 := [(h0, .inr (6, [t0, .ref t1, .ref t2, t3, t4])), (t1, .inl (kt1, 8, .inl ft)), (t2, .inl (kt2, 8, .inl f_20))]) hP hD [0, 1, 2] [] rfl rfl (by decide) (by decide) hk1 hFc hP1 hD1
    have hK := (hK.sub (tys' := []) [] rfl).app hK1
    clear hz1 hk1 hPc hDc hKc hFc
    generalize H1 = H at hP hS ⊢
    have hK : va_K (dC, dI) vwCl [(kt1, .int), (kt2, .int)] s := hK
    have hP : va_P (dC, dI) vwCl [(h0, .inr (6, [t0, .ref t1, .ref t2, t3, t4])), (t1, .inl (kt1, 8, .inl ft)), (t2, .inl (kt2, 8, .inl f_20))] H := hP
    have hD : va_D A [(h0, .inr (6, [t0, .ref t1, .ref t2, t3, t4])), (t1, .inl (kt1, 8, .inl ft)), (t2, .inl (kt2, 8, .inl f_20))] := hD
    rcases hw_19 with ⟨rfl, p_23⟩ | ⟨rfl, p_23⟩
    · skip
      have hP9 := hP.sub (ws' := [(h0, .inr (6, [t0, .ref t1, .ref t2, t3, t4])), (t1, .inl (kt1, 8, .inl ft)), (t2, .inl (kt2, 8, .inl f_20))]) [0, 1, 2] rfl
      have hD9 := hD.sub (ws' := [(h0, .inr (6, [t0, .ref t1, .ref t2, t3, t4])), (t1, .inl (kt1, 8, .inl ft)), (t2, .inl (kt2, 8, .inl f_20))]) [0, 1, 2] (by decide) rfl
      have hK9 := hK.sub (tys' := [(kt1, .int), (kt2, .int)]) [0, 1] rfl
      exact W.zret (v := 1) hx hb hr (by decide) (fun t ht hW => ⟨⟨1, (), rfl, (Or.inl ⟨rfl, un_ex (uc_f c_2) ef_1 p_23⟩), f_20, (agr_2 p_21 ef_1), (fun _ => un_ls (by omega) (uc_f c_2) ef_1 p_21 (p_22 p_23)), by rw [ht]; exact hP9, va_K.moved hW.alike hK9, hD9⟩, hS.F ht⟩) hS.2.2 dX7_fitInto_38
    · skip
      have hP9 := hP.sub (ws' := [(h0, .inr (6, [t0, .ref t1, .ref t2, t3, t4])), (t1, .inl (kt1, 8, .inl ft)), (t2, .inl (kt2, 8, .inl f_20))]) [0, 1, 2] rfl
      have hD9 := hD.sub (ws' := [(h0, .inr (6, [t0, .ref t1, .ref t2, t3, t4])), (t1, .inl (kt1, 8, .inl ft)), (t2, .inl (kt2, 8, .inl f_20))]) [0, 1, 2] (by decide) rfl
      have hK9 := hK.sub (tys' := [(kt1, .int), (kt2, .int)]) [0, 1] rfl
      exact W.zret (v := 0) hx hb hr (by decide) (fun t ht hW => ⟨⟨0, (), rfl, (Or.inr ⟨rfl, un_no (by omega) (uc_f c_2) ef_1 p_23⟩), f_20, (agr_2 p_21 ef_1), (fun q9 => absurd q9 (un_no (by omega) (uc_f c_2) ef_1 p_23)), by rw [ht]; exact hP9, va_K.moved hW.alike hK9, hD9⟩, hS.F ht⟩) hS.2.2 dX7_fitInto_38
set_option maxHeartbeats 4000000 in
set_option maxRecDepth 100000 in
theorem c_spread (l : Launch) (dC : Nat → ClassId) (dI : Nat → Nat → Nat) (sz : Nat) (h0 : Nat) (t0 : Nat) (t1 : Nat) (t2 : Nat) (t3 : Value) (t4 : Value) (kt0 : ClassId) (fr : Nat → Int32) (kt1 : ClassId) (ft : Nat → Int32) (kt2 : ClassId) (fcl : Nat → Int32)  : Met l yX7_spread (wq yX7_spread cX7_spread 2 (some .int)) ({ frames := 10, cells := 0, slots := 0, locals := 236 }) (va_Pc [.ref h0] (pcW dC dI [(kt0, .int), (kt1, .int), (kt2, .int)] [(h0, .inr (6, [.ref t0, .ref t1, .ref t2, t3, t4])), (t0, .inl (kt0, 10, .inl fr)), (t1, .inl (kt1, 8, .inl ft)), (t2, .inl (kt2, 8, .inl fcl))] sz)) (va_Qi (fun (r : Int32) (_ : Unit) => r = nI (clN (UR fr 10) (KR fr 10))) (fun _ t => ∃ (ft2 : Nat → Int32) (fcl2 : Nat → Int32), (∀ i, i < 8 → fcl2 i = clC (UR fr 10) (KR fr 10) i) ∧ va_P (dC, dI) vwCl [(h0, .inr (6, [.ref t0, .ref t1, .ref t2, t3, t4])), (t0, .inl (kt0, 10, .inl fr)), (t1, .inl (kt1, 8, .inl ft2)), (t2, .inl (kt2, 8, .inl fcl2))] t.heap ∧ va_K (dC, dI) vwCl [(kt0, .int), (kt1, .int), (kt2, .int)] t ∧ va_D (va_A [(h0, .inr (6, [.ref t0, .ref t1, .ref t2, t3, t4])), (t0, .inl (kt0, 10, .inl fr)), (t1, .inl (kt1, 8, .inl ft)), (t2, .inl (kt2, 8, .inl fcl))] sz) [(h0, .inr (6, [.ref t0, .ref t1, .ref t2, t3, t4])), (t0, .inl (kt0, 10, .inl fr)), (t1, .inl (kt1, 8, .inl ft2)), (t2, .inl (kt2, 8, .inl fcl2))]) (va_A [(h0, .inr (6, [.ref t0, .ref t1, .ref t2, t3, t4])), (t0, .inl (kt0, 10, .inl fr)), (t1, .inl (kt1, 8, .inl ft)), (t2, .inl (kt2, 8, .inl fcl))] sz)) 0 0 (va_A [(h0, .inr (6, [.ref t0, .ref t1, .ref t2, t3, t4])), (t0, .inl (kt0, 10, .inl fr)), (t1, .inl (kt1, 8, .inl ft)), (t2, .inl (kt2, 8, .inl fcl))] sz) := by
  refine Met.ofW (cc := cX7_spread) (maxL := 2) (ret := (some .int)) (by decide) rfl ?_
  intro p e s m args below meth c s₁ B hml hv
  obtain ⟨rfl, hsz, hN, hP, hK, hD0⟩ := hv
  have hx := B.exec
  have hb := B.bytes
  have hr := B.returns
  have hts0 := atoms_spec (ws := (wq yX7_spread cX7_spread 2 (some .int))) B.pre
  have hts : ∀ w ∈ BG, w.before _ s = true := fun w h => hts0 w (List.mem_cons_of_mem _ h)
  have hown : s.vm.findClass RX7 = some m.cls := findClass_of_methodNamed B.named
  have hlocks := B.notSynchronized
  subst hsz
  have hD := hD0.self (sz := s.heap.size)
  generalize hAe : va_A [(h0, .inr (6, [.ref t0, .ref t1, .ref t2, t3, t4])), (t0, .inl (kt0, 10, .inl fr)), (t1, .inl (kt1, 8, .inl ft)), (t2, .inl (kt2, 8, .inl fcl))] s.heap.size = A at hD ⊢
  have hA : ∀ q : Nat, s.heap.size ≤ q → A q := fun q h => by rw [← hAe]; exact Or.inr h
  have hS : va_S A s.heap s.heap [] := va_S.rf
  clear hAe hD0
  have hP : va_P (dC, dI) vwCl [(h0, .inr (6, [.ref t0, .ref t1, .ref t2, t3, t4])), (t0, .inl (kt0, 10, .inl fr)), (t1, .inl (kt1, 8, .inl ft)), (t2, .inl (kt2, 8, .inl fcl))] s.heap := hP
  have hl := lv_entry ([.ref h0]) (n := 2) (Nat.le_of_ble_eq_true rfl)
  rw [lg_entry_eq]
  generalize (lg_sl ([.ref h0]) ++ List.replicate (2 - (lg_sl ([.ref h0])).length) Slot.unset).toArray = ls at hl ⊢
  have hl : lv_has ls 2 [(0, .ref h0)] := hl
  refine lv_aload_n hx hb dX7_spread_0 rfl (lv_at hl 0 rfl) ?_
  have hPc := hP.sub (ws' := [(h0, .inr (6, [.ref t0, .ref t1, .ref t2, t3, t4])), (t0, .inl (kt0, 10, .inl fr)), (t1, .inl (kt1, 8, .inl ft))]) [0, 1, 2] rfl
  have hDc := hD.sub (ws' := [(h0, .inr (6, [.ref t0, .ref t1, .ref t2, t3, t4])), (t0, .inl (kt0, 10, .inl fr)), (t1, .inl (kt1, 8, .inl ft))]) [0, 1, 2] (by decide) rfl
  have hKc := hK.sub (tys' := [(kt0, .int), (kt1, .int)]) [0, 1] rfl
  have hFc := va_free (wc := [(h0, .inr (6, [.ref t0, .ref t1, .ref t2, t3, t4])), (t0, .inl (kt0, 10, .inl fr)), (t1, .inl (kt1, 8, .inl ft))]) hD hS hA [0, 1, 2] rfl
  refine va_callv (va_runV (As := []) (rest := []) ⟨hx, hb, hml, hown, hts⟩ (c_findT l dC dI s.heap.size h0 t0 t1 (.ref t2) (t3) (t4) kt0 fr kt1 ft ) (cwV 0 hts (gV mw_3_21 mw_3_23 mw_0_6 mw_1_7 mw_3_24) rfl rfl rfl (by decide +kernel) ⟨Nat.le_of_ble_eq_true rfl, Nat.le_of_ble_eq_true rfl⟩) ⟨pcW_blind, va_recv hKc hPc (ci := 6) (q0 := 0) rfl rfl, pcW_at hPc hKc hDc hN⟩ rfl rfl hl.1 rfl (lv_room (Nat.le_of_ble_eq_true rfl)) dX7_spread_1 ⟨Nat.le_of_ble_eq_true rfl, Nat.le_of_ble_eq_true rfl⟩) hS (fun q _ h => hFc q h) hFc (fun u t H1 locs ht hvm hw_1 hB hz1 hk1 hS => ?_)
  obtain ⟨f_2, p_3, hP1, hK1, hD1⟩ := hB
  rw [ht] at hP1
  have hK1 := va_K.moved hvm.symm hK1
  obtain ⟨hP, hD⟩ := va_join (wr := [(t2, .inl (kt2, 8, .inl fcl))]) (w1 := [(h0, .inr (6, [.ref t0, .ref t1, .ref t2, t3, t4])), (t0, .inl (kt0, 10, .inl fr)), (t1, .inl (kt1, 8, .inl f_2))]) hP hD [0, 1, 2] [3] rfl rfl (by decide) (by decide) hk1 hFc hP1 hD1
  have hK := (hK.sub (tys' := [(kt2, .int)]) [2] rfl).app hK1
  clear hz1 hk1 hPc hDc hKc hFc
  generalize H1 = H at hP hS ⊢
  have hK : va_K (dC, dI) vwCl [(kt2, .int), (kt0, .int), (kt1, .int)] s := hK
  have hP : va_P (dC, dI) vwCl [(t2, .inl (kt2, 8, .inl fcl)), (h0, .inr (6, [.ref t0, .ref t1, .ref t2, t3, t4])), (t0, .inl (kt0, 10, .inl fr)), (t1, .inl (kt1, 8, .inl f_2))] H := hP
  have hD : va_D A [(t2, .inl (kt2, 8, .inl fcl)), (h0, .inr (6, [.ref t0, .ref t1, .ref t2, t3, t4])), (t0, .inl (kt0, 10, .inl fr)), (t1, .inl (kt1, 8, .inl f_2))] := hD
  refine lv_iconst (v := 0) hx hb dX7_spread_4 (by decide) ?_
  refine lv_istore_n (lv' := [(1, .int 0), (0, .ref h0)]) hx hb dX7_spread_5 rfl hl (by decide) rfl (fun ls hl => ?_)
  have key_4 : ∀ (fu : Nat) (k : Nat) (fcx : Nat → Int32), (k ≤ 9) → (∀ p, p < k → ¬ cE0 (uC f_2) (kB f_2) p) → 9 - k < fu → ∀ (H : Heap) (locs : List Loc), va_P (dC, dI) vwCl [(t2, .inl (kt2, 8, .inl fcx)), (h0, .inr (6, [.ref t0, .ref t1, .ref t2, t3, t4])), (t0, .inl (kt0, 10, .inl fr)), (t1, .inl (kt1, 8, .inl f_2))] H → va_D A [(t2, .inl (kt2, 8, .inl fcx)), (h0, .inr (6, [.ref t0, .ref t1, .ref t2, t3, t4])), (t0, .inl (kt0, 10, .inl fr)), (t1, .inl (kt1, 8, .inl f_2))] → va_S A s.heap H locs → ∀ (ls : Array Slot), lv_has ls 2 [(1, .int (nI k)), (0, .ref h0)] → W p l e (headSpec (wq yX7_spread cX7_spread 2 (some .int)) ({ frames := 10, cells := 0, slots := 0, locals := 236 })).room s m (([.ref h0] : List Value)).toArray below meth c H locs 0 0 (MQ below (va_Qi (fun (r : Int32) (_ : Unit) => r = nI (clN (UR fr 10) (KR fr 10))) (fun _ t => ∃ (ft2 : Nat → Int32) (fcl2 : Nat → Int32), (∀ i, i < 8 → fcl2 i = clC (UR fr 10) (KR fr 10) i) ∧ va_P (dC, dI) vwCl [(h0, .inr (6, [.ref t0, .ref t1, .ref t2, t3, t4])), (t0, .inl (kt0, 10, .inl fr)), (t1, .inl (kt1, 8, .inl ft2)), (t2, .inl (kt2, 8, .inl fcl2))] t.heap ∧ va_K (dC, dI) vwCl [(kt0, .int), (kt1, .int), (kt2, .int)] t ∧ va_D A [(h0, .inr (6, [.ref t0, .ref t1, .ref t2, t3, t4])), (t0, .inl (kt0, 10, .inl fr)), (t1, .inl (kt1, 8, .inl ft2)), (t2, .inl (kt2, 8, .inl fcl2))]) A) (([.ref h0] : List Value)).toArray s 0 0 A) (F0 m 6 ls []) := by
    intro fu
    induction fu with
    | zero => intro k fcx hk hnol hme; exact absurd hme (Nat.not_lt_zero _)
    | succ fu ih_5 =>
      intro k fcx hk hnol hme H locs hP hD hS ls hl
      refine lv_iload_n hx hb dX7_spread_6 rfl (lv_at hl 0 rfl) ?_
      refine lv_bipush (v := 8) hx hb dX7_spread_7 (by decide) ?_
      refine lv_icmp_gt (tgt := 30) hx hb dX7_spread_9 (by decide) (fun c_6 => ?_) (fun c_6 => ?_)
      · have b_7 := gx_gt (X := ((k : Nat) : Int)) (C := 8) (nI_toInt (by omega)) (by decide) c_6
        refine lv_bipush (v := 8) hx hb dX7_spread_30 (by decide) ?_
        have hP9 := hP.sub (ws' := [(h0, .inr (6, [.ref t0, .ref t1, .ref t2, t3, t4])), (t0, .inl (kt0, 10, .inl fr)), (t1, .inl (kt1, 8, .inl f_2)), (t2, .inl (kt2, 8, .inl fcx))]) [1, 2, 3, 0] rfl
        have hD9 := hD.sub (ws' := [(h0, .inr (6, [.ref t0, .ref t1, .ref t2, t3, t4])), (t0, .inl (kt0, 10, .inl fr)), (t1, .inl (kt1, 8, .inl f_2)), (t2, .inl (kt2, 8, .inl fcx))]) [1, 2, 3, 0] (by decide) rfl
        have hK9 := hK.sub (tys' := [(kt0, .int), (kt1, .int), (kt2, .int)]) [1, 2, 0] rfl
        exact W.iret (v := 8) hx hb hr (fun t ht hW => ⟨⟨8, (), rfl, (absurd e0_8 (hnol 8 (by omega))), f_2, fcx, (absurd e0_8 (hnol 8 (by omega))), by rw [ht]; exact hP9, va_K.moved hW.alike hK9, hD9⟩, hS.F ht⟩) hS.2.2 dX7_spread_32
      · have b_7 := gn_gt (X := ((k : Nat) : Int)) (C := 8) (nI_toInt (by omega)) (by decide) c_6
        refine lv_aload_n hx hb dX7_spread_12 rfl (lv_at hl 1 rfl) ?_
        refine lv_iload_n hx hb dX7_spread_13 rfl (lv_at hl 0 rfl) ?_
        refine lv_iconst (v := 0) hx hb dX7_spread_14 (by decide) ?_
        refine lv_iconst (v := 0) hx hb dX7_spread_15 (by decide) ?_
        have hPc := hP.sub (ws' := [(h0, .inr (6, [.ref t0, .ref t1, .ref t2, t3, t4])), (t1, .inl (kt1, 8, .inl f_2)), (t2, .inl (kt2, 8, .inl fcx))]) [1, 3, 0] rfl
        have hDc := hD.sub (ws' := [(h0, .inr (6, [.ref t0, .ref t1, .ref t2, t3, t4])), (t1, .inl (kt1, 8, .inl f_2)), (t2, .inl (kt2, 8, .inl fcx))]) [1, 3, 0] (by decide) rfl
        have hKc := hK.sub (tys' := [(kt1, .int), (kt2, .int)]) [2, 0] rfl
        have hFc := va_free (wc := [(h0, .inr (6, [.ref t0, .ref t1, .ref t2, t3, t4])), (t1, .inl (kt1, 8, .inl f_2)), (t2, .inl (kt2, 8, .inl fcx))]) hD hS hA [1, 3, 0] rfl
        refine va_calli (va_runV (As := [.int (nI k), .int 0, .int 0]) (rest := []) ⟨hx, hb, hml, hown, hts⟩ (c_fit0 l dC dI H.size h0 (.ref t0) t1 t2 (t3) (t4) kt1 f_2 kt2 fcx k 0 (by omega) (show Int32.toInt 0 = ((0 : Nat) : Int) from by decide)) (cwV 3 hts (gV mw_3_26 mw_3_28 mw_0_7 mw_1_7 mw_3_29) rfl rfl rfl (by decide +kernel) ⟨Nat.le_of_ble_eq_true rfl, Nat.le_of_ble_eq_true rfl⟩) ⟨pcW_blind, va_recv hKc hPc (ci := 6) (q0 := 0) rfl rfl, pcW_at hPc hKc hDc hN⟩ rfl rfl hl.1 rfl (lv_room (Nat.le_of_ble_eq_true rfl)) dX7_spread_16 ⟨Nat.le_of_ble_eq_true rfl, Nat.le_of_ble_eq_true rfl⟩) hS (fun q _ h => hFc q h) hFc (fun r_8 u t H1 locs ht hvm hw_8 hB hz1 hk1 hS => ?_)
        obtain ⟨f_9, p_10, p_11, hP1, hK1, hD1⟩ := hB
        rw [ht] at hP1
        have hK1 := va_K.moved hvm.symm hK1
        obtain ⟨hP, hD⟩ := va_join (wr := [(t0, .inl (kt0, 10, .inl fr))]) (w1 := [(h0, .inr (6, [.ref t0, .ref t1, .ref t2, t3, t4])), (t1, .inl (kt1, 8, .inl f_2)), (t2, .inl (kt2, 8, .inl f_9))]) hP hD [1, 3, 0] [2] rfl rfl (by decide) (by decide) hk1 hFc hP1 hD1
        have hK := (hK.sub (tys' := [(kt0, .int)]) [1] rfl).app hK1
        clear hz1 hk1 hPc hDc hKc hFc
        generalize H1 = H at hP hS ⊢
        have hK : va_K (dC, dI) vwCl [(kt0, .int), (kt1, .int), (kt2, .int)] s := hK
        have hP : va_P (dC, dI) vwCl [(t0, .inl (kt0, 10, .inl fr)), (h0, .inr (6, [.ref t0, .ref t1, .ref t2, t3, t4])), (t1, .inl (kt1, 8, .inl f_2)), (t2, .inl (kt2, 8, .inl f_9))] H := hP
        have hD : va_D A [(t0, .inl (kt0, 10, .inl fr)), (h0, .inr (6, [.ref t0, .ref t1, .ref t2, t3, t4])), (t1, .inl (kt1, 8, .inl f_2)), (t2, .inl (kt2, 8, .inl f_9))] := hD
        rcases hw_8 with ⟨rfl, p_12⟩ | ⟨rfl, p_12⟩
        · skip
          refine lv_if_eq (tgt := 24) hx hb dX7_spread_19 (by decide) (fun h => absurd h (by decide)) (fun _ => ?_)
          refine lv_iload_n hx hb dX7_spread_22 rfl (lv_at hl 0 rfl) ?_
          have hP9 := hP.sub (ws' := [(h0, .inr (6, [.ref t0, .ref t1, .ref t2, t3, t4])), (t0, .inl (kt0, 10, .inl fr)), (t1, .inl (kt1, 8, .inl f_2)), (t2, .inl (kt2, 8, .inl f_9))]) [1, 0, 2, 3] rfl
          have hD9 := hD.sub (ws' := [(h0, .inr (6, [.ref t0, .ref t1, .ref t2, t3, t4])), (t0, .inl (kt0, 10, .inl fr)), (t1, .inl (kt1, 8, .inl f_2)), (t2, .inl (kt2, 8, .inl f_9))]) [1, 0, 2, 3] (by decide) rfl
          have hK9 := hK.sub (tys' := [(kt0, .int), (kt1, .int), (kt2, .int)]) [0, 1, 2] rfl
          exact W.iret (v := (nI k)) hx hb hr (fun t ht hW => ⟨⟨(nI k), (), rfl, (congrArg nI (tg_end p_3 hnol (e0_of p_12) (l0_of (p_11 p_12))).1), f_2, f_9, (tg_end p_3 hnol (e0_of p_12) (l0_of (p_11 p_12))).2, by rw [ht]; exact hP9, va_K.moved hW.alike hK9, hD9⟩, hS.F ht⟩) hS.2.2 dX7_spread_23
        · skip
          refine lv_if_eq (tgt := 24) hx hb dX7_spread_19 (by decide) (fun _ => ?_) (fun h => absurd (by decide) h)
          refine lv_iinc (v := (nI (k + 1))) (lv' := [(1, .int (nI (k + 1))), (0, .ref h0)]) hx hb dX7_spread_24 hl (k := 0) rfl (nI_add k 1) (by decide) rfl (fun ls hl => ?_)
          refine lv_goto (tgt := 6) hx hb dX7_spread_27 (by decide) ?_
          exact ih_5 (k + 1) f_9 (by omega) (nol_st (A := cE0 (uC f_2) (kB f_2)) hnol (fun q => p_12 (e0_to q))) (by omega) _ _ (hP.sub (ws' := [(t2, .inl (kt2, 8, .inl f_9)), (h0, .inr (6, [.ref t0, .ref t1, .ref t2, t3, t4])), (t0, .inl (kt0, 10, .inl fr)), (t1, .inl (kt1, 8, .inl f_2))]) [3, 1, 0, 2] rfl) (hD.sub (ws' := [(t2, .inl (kt2, 8, .inl f_9)), (h0, .inr (6, [.ref t0, .ref t1, .ref t2, t3, t4])), (t0, .inl (kt0, 10, .inl fr)), (t1, .inl (kt1, 8, .inl f_2))]) [3, 1, 0, 2] (by decide) rfl) hS ls (lv_sub hl [0, 1] rfl)
  exact key_4 ((9 - 0) + 1) 0 fcl (by omega) (fun p h => absurd h (Nat.not_lt_zero p)) (Nat.lt_succ_self _) _ _ hP hD hS ls (lv_sub hl [0, 1] rfl)
set_option maxHeartbeats 4000000 in
set_option maxRecDepth 100000 in
theorem c_colOf (l : Launch) (dC : Nat → ClassId) (dI : Nat → Nat → Nat) (sz : Nat) (h0 : Nat) (t0 : Value) (t1 : Value) (t2 : Nat) (t3 : Value) (t4 : Value) (kt2 : ClassId) (fcl : Nat → Int32) (kq : Nat) (hkq : kq < 8) : Met l yX7_columnOf (wq yX7_columnOf cX7_columnOf 2 (some .int)) ({ frames := 1, cells := 0, slots := 0, locals := 20 }) (va_Pc [.ref h0, .int (nI kq)] (pcW dC dI [(kt2, .int)] [(h0, .inr (6, [t0, t1, .ref t2, t3, t4])), (t2, .inl (kt2, 8, .inl fcl))] sz)) (va_Qi (fun (r : Int32) (_ : Unit) => r = (fcl kq)) (fun _ _ => True) (fun q : Nat => sz ≤ q)) 0 0 (fun q : Nat => sz ≤ q) := by
  refine Met.ofW (cc := cX7_columnOf) (maxL := 2) (ret := (some .int)) (by decide) rfl ?_
  intro p e s m args below meth c s₁ B hml hv
  obtain ⟨rfl, hsz, hN, hP, hK, hD0⟩ := hv
  have hx := B.exec
  have hb := B.bytes
  have hr := B.returns
  have hts0 := atoms_spec (ws := (wq yX7_columnOf cX7_columnOf 2 (some .int))) B.pre
  have hts : ∀ w ∈ BG, w.before _ s = true := fun w h => hts0 w (List.mem_cons_of_mem _ h)
  have hown : s.vm.findClass RX7 = some m.cls := findClass_of_methodNamed B.named
  have hlocks := B.notSynchronized
  subst hsz
  have hA : ∀ q : Nat, s.heap.size ≤ q → (fun q : Nat => s.heap.size ≤ q) q := fun _ h => h
  have hD := hD0
  have hS : va_S (fun q : Nat => s.heap.size ≤ q) s.heap s.heap [] := va_S.rf
  have hP : va_P (dC, dI) vwCl [(h0, .inr (6, [t0, t1, .ref t2, t3, t4])), (t2, .inl (kt2, 8, .inl fcl))] s.heap := hP
  have hl := lv_entry ([.ref h0, .int (nI kq)]) (n := 2) (Nat.le_of_ble_eq_true rfl)
  rw [lg_entry_eq]
  generalize (lg_sl ([.ref h0, .int (nI kq)]) ++ List.replicate (2 - (lg_sl ([.ref h0, .int (nI kq)])).length) Slot.unset).toArray = ls at hl ⊢
  have hl : lv_has ls 2 [(0, .ref h0), (1, .int (nI kq))] := hl
  have ykq : Int32.toInt (nI kq) = ((kq : Nat) : Int) := nI_toInt (by omega)
  refine lv_iload_n hx hb dX7_columnOf_0 rfl (lv_at hl 1 rfl) ?_
  have hPc := hP.sub (ws' := []) [] rfl
  have hDc := hD.sub (ws' := []) [] (by decide) rfl
  have hKc := hK.sub (tys' := []) [] rfl
  refine va_calli (va_runSN (As := [.int (nI kq)]) (rest := []) ⟨hx, hb, hml, hown, hts⟩ (c_isName l dC dI s.heap.size (nI kq) ) ⟨va_cnB 1 hts (gN mw_2_99) rfl rfl rfl (hN (RX7, 50, yX8_isName, RX8) (List.mem_of_getElem? (i := 12) rfl)) (hts _ mw_1_1) (by decide +kernel) ⟨Nat.le_of_ble_eq_true rfl, Nat.le_of_ble_eq_true rfl⟩, (hts _ mw_2_98), trivial⟩ ⟨pcW_blind, pcW_at hPc hKc hDc hN⟩ rfl rfl hl.1 rfl (lv_room (Nat.le_of_ble_eq_true rfl)) dX7_columnOf_1 ⟨Nat.le_of_ble_eq_true rfl, Nat.le_of_ble_eq_true rfl⟩) hS (fun q h1 h2 => absurd h2 (Nat.not_le.mpr h1)) (fun q h => hA q (Nat.le_trans hS.1 h)) (fun r_1 u t H1 locs ht hvm hw_1 hB hz1 hk1 hS => ?_)
  have hP := keepP hP hk1
  clear hz1 hk1 hB ht hvm hPc hDc hKc
  generalize H1 = H at hP hS ⊢
  obtain rfl : r_1 = 1 := hw_1.trans (if_pos (by omega))
  refine lv_if_eq (tgt := 16) hx hb dX7_columnOf_4 (by decide) (fun h => absurd h (by decide)) (fun _ => ?_)
  refine lv_aload_n hx hb dX7_columnOf_7 rfl (lv_at hl 0 rfl) ?_
  refine va_get (D := (dC, dI)) (ci := 6) (v := .ref t2) (C := RX7) (T := TX7) (N := 5) hx hb hts inB_7 hown hK hP 0 rfl rfl 2 (by decide) (hts _ mw_1_129) (fun _ h9 => h9) rfl dX7_columnOf_8 ?_
  refine lv_iload_n hx hb dX7_columnOf_11 rfl (lv_at hl 1 rfl) ?_
  refine va_iald hx hb hK hP 1 0 rfl rfl (show vp_in (nI kq) 8 from vp_in_nI (by omega) (by omega)) dX7_columnOf_12 ?_
  refine hx_top (y := (fcl kq)) (congrArg _ (nI_clamp (by omega))) ?_
  refine lv_goto (tgt := 18) hx hb dX7_columnOf_13 (by decide) ?_
  exact W.iret (v := (fcl kq)) hx hb hr (fun t ht hW => ⟨⟨(fcl kq), (), rfl, rfl, trivial⟩, hS.F ht⟩) hS.2.2 dX7_columnOf_18
