theorem mw_1_37 : Cond.laysFinal RX4 "AnswerLines$Rows" "cells" "[I" ∈ BG := mB (t1 (i := 37) (by decide +kernel)) (by decide +kernel)
theorem mw_1_39 : Cond.laysFinal RX4 "AnswerLines$Rows" "heads" "[I" ∈ BG := mB (t1 (i := 39) (by decide +kernel)) (by decide +kernel)
theorem mw_1_41 : Cond.laysFinal RX4 "AnswerLines$Rows" "lengths" "[I" ∈ BG := mB (t1 (i := 41) (by decide +kernel)) (by decide +kernel)
theorem mw_1_43 : Cond.lays RX4 "AnswerLines$Rows" "count" "I" ∈ BG := mB (t1 (i := 43) (by decide +kernel)) (by decide +kernel)
theorem inB_4 : ∀ w ∈ u_ws RX4 TX4 4, w ∈ BG := fun w hw => by
  obtain ⟨k, hk, rfl⟩ := List.mem_map.mp hw
  have hk := List.mem_range.mp hk
  rcases (by omega : k = 0 ∨ k = 1 ∨ k = 2 ∨ k = 3) with rfl | rfl | rfl | rfl
  · exact mw_1_37
  · exact mw_1_39
  · exact mw_1_41
  · exact mw_1_43
theorem mw_1_36 : Cond.fieldLink RX4 21 "AnswerLines$Rows" "count" "I" ∈ BG := mB (t1 (i := 36) (by decide +kernel)) (by decide +kernel)
theorem mw_1_34 : Cond.fieldLink RX4 15 "AnswerLines$Rows" "heads" "[I" ∈ BG := mB (t1 (i := 34) (by decide +kernel)) (by decide +kernel)
theorem mw_1_35 : Cond.fieldLink RX4 18 "AnswerLines$Rows" "lengths" "[I" ∈ BG := mB (t1 (i := 35) (by decide +kernel)) (by decide +kernel)
theorem mw_2_8 : Cond.code yX4_tail cX4_tail 4 (some .int) ∈ BG := mB (t2 (i := 8) rfl) (by decide +kernel)
theorem mw_2_5 : Cond.methodLink RX4 29 yX4_tail ∈ BG := mB (t2 (i := 5) (by decide +kernel)) (by decide +kernel)
theorem mw_2_7 : Cond.instanceMethod yX4_tail ∈ BG := mB (t2 (i := 7) (by decide +kernel)) (by decide +kernel)
theorem mw_0_2 : Cond.selects RX4 yX4_tail yX4_tail ∈ BG := mB (t0 (i := 2) (by decide +kernel)) (by decide +kernel)
theorem mw_1_3 : Cond.initialized RX4 ∈ BG := mB (t1 (i := 3) (by decide +kernel)) (by decide +kernel)
theorem mw_2_12 : Cond.code yX4_head cX4_head 2 (some .int) ∈ BG := mB (t2 (i := 12) rfl) (by decide +kernel)
theorem mw_2_9 : Cond.methodLink RX4 25 yX4_head ∈ BG := mB (t2 (i := 9) (by decide +kernel)) (by decide +kernel)
theorem mw_2_11 : Cond.instanceMethod yX4_head ∈ BG := mB (t2 (i := 11) (by decide +kernel)) (by decide +kernel)
theorem mw_0_3 : Cond.selects RX4 yX4_head yX4_head ∈ BG := mB (t0 (i := 3) (by decide +kernel)) (by decide +kernel)
theorem mw_1_52 : Cond.fieldLink RX1 30 "AnswerLines$Kinds" "rows" "LAnswerLines$Rows;" ∈ BG := mB (t1 (i := 52) (by decide +kernel)) (by decide +kernel)
theorem mw_1_228 : Cond.code yX4_clear cX4_clear 1 none ∈ BG := mB (t1 (i := 228) rfl) (by decide +kernel)
theorem mw_1_225 : Cond.methodLink RX1 97 yX4_clear ∈ BG := mB (t1 (i := 225) (by decide +kernel)) (by decide +kernel)
theorem mw_1_226 : Cond.instanceMethod yX4_clear ∈ BG := mB (t1 (i := 226) (by decide +kernel)) (by decide +kernel)
theorem mw_1_227 : Cond.selects RX4 yX4_clear yX4_clear ∈ BG := mB (t1 (i := 227) (by decide +kernel)) (by decide +kernel)
theorem mw_1_232 : Cond.code yX4_begin cX4_begin 1 none ∈ BG := mB (t1 (i := 232) rfl) (by decide +kernel)
theorem mw_1_229 : Cond.methodLink RX1 100 yX4_begin ∈ BG := mB (t1 (i := 229) (by decide +kernel)) (by decide +kernel)
theorem mw_1_230 : Cond.instanceMethod yX4_begin ∈ BG := mB (t1 (i := 230) (by decide +kernel)) (by decide +kernel)
theorem mw_1_231 : Cond.selects RX4 yX4_begin yX4_begin ∈ BG := mB (t1 (i := 231) (by decide +kernel)) (by decide +kernel)
theorem mw_1_224 : Cond.code yX1_layRows cX1_layRows 5 none ∈ BG := mB (t1 (i := 224) rfl) (by decide +kernel)
theorem mw_1_221 : Cond.methodLink RX1 83 yX1_layRows ∈ BG := mB (t1 (i := 221) (by decide +kernel)) (by decide +kernel)
theorem mw_1_223 : Cond.instanceMethod yX1_layRows ∈ BG := mB (t1 (i := 223) (by decide +kernel)) (by decide +kernel)
theorem mw_0_1 : Cond.selects RX1 yX1_layRows yX1_layRows ∈ BG := mB (t0 (i := 1) (by decide +kernel)) (by decide +kernel)
theorem mw_1_50 : Cond.fieldLink RX1 21 "AnswerLines$Kinds" "lines" "[I" ∈ BG := mB (t1 (i := 50) (by decide +kernel)) (by decide +kernel)
theorem mw_2_4 : Cond.code yX4_firstFree cX4_firstFree 4 (some .int) ∈ BG := mB (t2 (i := 4) rfl) (by decide +kernel)
theorem mw_2_1 : Cond.methodLink RX1 87 yX4_firstFree ∈ BG := mB (t2 (i := 1) (by decide +kernel)) (by decide +kernel)
theorem mw_2_2 : Cond.instanceMethod yX4_firstFree ∈ BG := mB (t2 (i := 2) (by decide +kernel)) (by decide +kernel)
theorem mw_2_3 : Cond.selects RX4 yX4_firstFree yX4_firstFree ∈ BG := mB (t2 (i := 3) (by decide +kernel)) (by decide +kernel)
theorem mw_2_23 : Cond.code yX4_beginnings cX4_beginnings 4 (some .int) ∈ BG := mB (t2 (i := 23) rfl) (by decide +kernel)
theorem mw_2_20 : Cond.methodLink RX1 94 yX4_beginnings ∈ BG := mB (t2 (i := 20) (by decide +kernel)) (by decide +kernel)
theorem mw_2_21 : Cond.instanceMethod yX4_beginnings ∈ BG := mB (t2 (i := 21) (by decide +kernel)) (by decide +kernel)
theorem mw_2_22 : Cond.selects RX4 yX4_beginnings yX4_beginnings ∈ BG := mB (t2 (i := 22) (by decide +kernel)) (by decide +kernel)
theorem mw_1_49 : Cond.fieldLink RX1 18 "AnswerLines$Kinds" "quarrels" "[I" ∈ BG := mB (t1 (i := 49) (by decide +kernel)) (by decide +kernel)
theorem mw_1_48 : Cond.fieldLink RX1 15 "AnswerLines$Kinds" "lengths" "[I" ∈ BG := mB (t1 (i := 48) (by decide +kernel)) (by decide +kernel)
theorem mw_1_198 : Cond.code yX1_isFull cX1_isFull 1 (some .boolean) ∈ BG := mB (t1 (i := 198) rfl) (by decide +kernel)
theorem mw_1_203 : Cond.methodLink RX1 72 yX1_isFull ∈ BG := mB (t1 (i := 203) (by decide +kernel)) (by decide +kernel)
theorem mw_1_196 : Cond.instanceMethod yX1_isFull ∈ BG := mB (t1 (i := 196) (by decide +kernel)) (by decide +kernel)
theorem mw_1_197 : Cond.selects RX1 yX1_isFull yX1_isFull ∈ BG := mB (t1 (i := 197) (by decide +kernel)) (by decide +kernel)
theorem mw_1_51 : Cond.fieldLink RX1 24 "AnswerLines$Kinds" "parents" "[I" ∈ BG := mB (t1 (i := 51) (by decide +kernel)) (by decide +kernel)
theorem mw_1_47 : Cond.fieldLink RX1 9 "AnswerLines$Kinds" "above" "[I" ∈ BG := mB (t1 (i := 47) (by decide +kernel)) (by decide +kernel)
theorem mw_1_220 : Cond.code yX1_layLine cX1_layLine 6 none ∈ BG := mB (t1 (i := 220) rfl) (by decide +kernel)
theorem mw_1_217 : Cond.methodLink RX1 79 yX1_layLine ∈ BG := mB (t1 (i := 217) (by decide +kernel)) (by decide +kernel)
theorem mw_1_219 : Cond.instanceMethod yX1_layLine ∈ BG := mB (t1 (i := 219) (by decide +kernel)) (by decide +kernel)
theorem mw_0_0 : Cond.selects RX1 yX1_layLine yX1_layLine ∈ BG := mB (t0 (i := 0) (by decide +kernel)) (by decide +kernel)
theorem dX4_clear_0 : decode cX4_clear 0 = .ok (.aload_n 0, 1) := by decide +kernel
theorem dX4_clear_1 : decode cX4_clear 1 = .ok (.iconst 0, 1) := by decide +kernel
theorem dX4_clear_2 : decode cX4_clear 2 = .ok (.putfield 21, 3) := by decide +kernel
theorem dX4_clear_5 : decode cX4_clear 5 = .ok (.return_, 1) := by decide +kernel
theorem dX4_begin_0 : decode cX4_begin 0 = .ok (.aload_n 0, 1) := by decide +kernel
theorem dX4_begin_1 : decode cX4_begin 1 = .ok (.getfield 21, 3) := by decide +kernel
theorem dX4_begin_4 : decode cX4_begin 4 = .ok (.iconst 4, 1) := by decide +kernel
theorem dX4_begin_5 : decode cX4_begin 5 = .ok (.if_icmp .lt 4, 3) := by decide +kernel
theorem dX4_begin_9 : decode cX4_begin 9 = .ok (.aload_n 0, 1) := by decide +kernel
theorem dX4_begin_10 : decode cX4_begin 10 = .ok (.getfield 15, 3) := by decide +kernel
theorem dX4_begin_13 : decode cX4_begin 13 = .ok (.aload_n 0, 1) := by decide +kernel
theorem dX4_begin_14 : decode cX4_begin 14 = .ok (.getfield 21, 3) := by decide +kernel
theorem dX4_begin_17 : decode cX4_begin 17 = .ok (.iconst 0, 1) := by decide +kernel
theorem dX4_begin_18 : decode cX4_begin 18 = .ok (.iastore, 1) := by decide +kernel
theorem dX4_begin_19 : decode cX4_begin 19 = .ok (.aload_n 0, 1) := by decide +kernel
theorem dX4_begin_20 : decode cX4_begin 20 = .ok (.getfield 18, 3) := by decide +kernel
theorem dX4_begin_23 : decode cX4_begin 23 = .ok (.aload_n 0, 1) := by decide +kernel
theorem dX4_begin_24 : decode cX4_begin 24 = .ok (.getfield 21, 3) := by decide +kernel
theorem dX4_begin_27 : decode cX4_begin 27 = .ok (.iconst 0, 1) := by decide +kernel
theorem dX4_begin_28 : decode cX4_begin 28 = .ok (.iastore, 1) := by decide +kernel
theorem dX4_begin_29 : decode cX4_begin 29 = .ok (.aload_n 0, 1) := by decide +kernel
theorem dX4_begin_30 : decode cX4_begin 30 = .ok (.dup, 1) := by decide +kernel
theorem dX4_begin_31 : decode cX4_begin 31 = .ok (.getfield 21, 3) := by decide +kernel
theorem dX4_begin_34 : decode cX4_begin 34 = .ok (.iconst 1, 1) := by decide +kernel
theorem dX4_begin_35 : decode cX4_begin 35 = .ok (.iadd, 1) := by decide +kernel
theorem dX4_begin_36 : decode cX4_begin 36 = .ok (.putfield 21, 3) := by decide +kernel
theorem dX4_begin_39 : decode cX4_begin 39 = .ok (.return_, 1) := by decide +kernel
theorem dX4_head_0 : decode cX4_head 0 = .ok (.aload_n 0, 1) := by decide +kernel
theorem dX4_head_1 : decode cX4_head 1 = .ok (.getfield 15, 3) := by decide +kernel
theorem dX4_head_4 : decode cX4_head 4 = .ok (.iload_n 1, 1) := by decide +kernel
theorem dX4_head_5 : decode cX4_head 5 = .ok (.iaload, 1) := by decide +kernel
theorem dX4_head_6 : decode cX4_head 6 = .ok (.aload_n 0, 1) := by decide +kernel
theorem dX4_head_7 : decode cX4_head 7 = .ok (.getfield 18, 3) := by decide +kernel
theorem dX4_head_10 : decode cX4_head 10 = .ok (.iload_n 1, 1) := by decide +kernel
theorem dX4_head_11 : decode cX4_head 11 = .ok (.iaload, 1) := by decide +kernel
theorem dX4_head_12 : decode cX4_head 12 = .ok (.if_icmp .ge 22, 3) := by decide +kernel
theorem dX4_head_34 : decode cX4_head 34 = .ok (.bipush (-6), 2) := by decide +kernel
theorem dX4_head_36 : decode cX4_head 36 = .ok (.ireturn, 1) := by decide +kernel
theorem dX4_tail_0 : decode cX4_tail 0 = .ok (.iconst 0, 1) := by decide +kernel
theorem dX4_tail_1 : decode cX4_tail 1 = .ok (.istore_n 2, 1) := by decide +kernel
theorem dX4_tail_2 : decode cX4_tail 2 = .ok (.aload_n 0, 1) := by decide +kernel
theorem dX4_tail_3 : decode cX4_tail 3 = .ok (.getfield 15, 3) := by decide +kernel
theorem dX4_tail_6 : decode cX4_tail 6 = .ok (.iload_n 1, 1) := by decide +kernel
theorem dX4_tail_7 : decode cX4_tail 7 = .ok (.iaload, 1) := by decide +kernel
theorem dX4_tail_8 : decode cX4_tail 8 = .ok (.iconst 1, 1) := by decide +kernel
theorem dX4_tail_9 : decode cX4_tail 9 = .ok (.iadd, 1) := by decide +kernel
theorem dX4_tail_10 : decode cX4_tail 10 = .ok (.istore_n 3, 1) := by decide +kernel
theorem dX4_tail_11 : decode cX4_tail 11 = .ok (.iload_n 3, 1) := by decide +kernel
theorem dX4_tail_12 : decode cX4_tail 12 = .ok (.aload_n 0, 1) := by decide +kernel
theorem dX4_tail_13 : decode cX4_tail 13 = .ok (.getfield 18, 3) := by decide +kernel
theorem dX4_tail_16 : decode cX4_tail 16 = .ok (.iload_n 1, 1) := by decide +kernel
theorem dX4_tail_17 : decode cX4_tail 17 = .ok (.iaload, 1) := by decide +kernel
theorem dX4_tail_18 : decode cX4_tail 18 = .ok (.if_icmp .ge 25, 3) := by decide +kernel
theorem dX4_tail_43 : decode cX4_tail 43 = .ok (.iload_n 2, 1) := by decide +kernel
theorem dX4_tail_44 : decode cX4_tail 44 = .ok (.ireturn, 1) := by decide +kernel
theorem dX4_firstFree_0 : decode cX4_firstFree 0 = .ok (.iconst 0, 1) := by decide +kernel
theorem dX4_firstFree_1 : decode cX4_firstFree 1 = .ok (.istore_n 1, 1) := by decide +kernel
theorem dX4_firstFree_2 : decode cX4_firstFree 2 = .ok (.iconst 0, 1) := by decide +kernel
theorem dX4_firstFree_3 : decode cX4_firstFree 3 = .ok (.istore_n 2, 1) := by decide +kernel
theorem dX4_firstFree_4 : decode cX4_firstFree 4 = .ok (.iload_n 2, 1) := by decide +kernel
theorem dX4_firstFree_5 : decode cX4_firstFree 5 = .ok (.aload_n 0, 1) := by decide +kernel
theorem dX4_firstFree_6 : decode cX4_firstFree 6 = .ok (.getfield 21, 3) := by decide +kernel
theorem dX4_firstFree_9 : decode cX4_firstFree 9 = .ok (.if_icmp .ge 17, 3) := by decide +kernel
theorem dX4_firstFree_12 : decode cX4_firstFree 12 = .ok (.iload_n 1, 1) := by decide +kernel
theorem dX4_firstFree_13 : decode cX4_firstFree 13 = .ok (.aload_n 0, 1) := by decide +kernel
theorem dX4_firstFree_14 : decode cX4_firstFree 14 = .ok (.iload_n 2, 1) := by decide +kernel
theorem dX4_firstFree_15 : decode cX4_firstFree 15 = .ok (.invokevirtual 29, 3) := by decide +kernel
theorem dX4_firstFree_18 : decode cX4_firstFree 18 = .ok (.ior, 1) := by decide +kernel
theorem dX4_firstFree_19 : decode cX4_firstFree 19 = .ok (.istore_n 1, 1) := by decide +kernel
theorem dX4_firstFree_20 : decode cX4_firstFree 20 = .ok (.iinc 2 1, 3) := by decide +kernel
theorem dX4_firstFree_23 : decode cX4_firstFree 23 = .ok (.goto (-19), 3) := by decide +kernel
theorem dX4_firstFree_26 : decode cX4_firstFree 26 = .ok (.iconst 0, 1) := by decide +kernel
theorem dX4_firstFree_27 : decode cX4_firstFree 27 = .ok (.istore_n 2, 1) := by decide +kernel
theorem dX4_firstFree_28 : decode cX4_firstFree 28 = .ok (.iload_n 2, 1) := by decide +kernel
theorem dX4_firstFree_29 : decode cX4_firstFree 29 = .ok (.aload_n 0, 1) := by decide +kernel
theorem dX4_firstFree_30 : decode cX4_firstFree 30 = .ok (.getfield 21, 3) := by decide +kernel
theorem dX4_firstFree_33 : decode cX4_firstFree 33 = .ok (.if_icmp .ge 31, 3) := by decide +kernel
theorem dX4_firstFree_36 : decode cX4_firstFree 36 = .ok (.aload_n 0, 1) := by decide +kernel
theorem dX4_firstFree_37 : decode cX4_firstFree 37 = .ok (.iload_n 2, 1) := by decide +kernel
theorem dX4_firstFree_38 : decode cX4_firstFree 38 = .ok (.invokevirtual 25, 3) := by decide +kernel
theorem dX4_firstFree_41 : decode cX4_firstFree 41 = .ok (.istore_n 3, 1) := by decide +kernel
theorem dX4_firstFree_42 : decode cX4_firstFree 42 = .ok (.iload_n 3, 1) := by decide +kernel
theorem dX4_firstFree_43 : decode cX4_firstFree 43 = .ok (.bipush (-6), 2) := by decide +kernel
theorem dX4_firstFree_45 : decode cX4_firstFree 45 = .ok (.if_icmp .eq 13, 3) := by decide +kernel
theorem dX4_firstFree_58 : decode cX4_firstFree 58 = .ok (.iinc 2 1, 3) := by decide +kernel
theorem dX4_firstFree_61 : decode cX4_firstFree 61 = .ok (.goto (-33), 3) := by decide +kernel
theorem dX4_firstFree_64 : decode cX4_firstFree 64 = .ok (.bipush (-6), 2) := by decide +kernel
theorem dX4_firstFree_66 : decode cX4_firstFree 66 = .ok (.ireturn, 1) := by decide +kernel
theorem dX4_beginnings_0 : decode cX4_beginnings 0 = .ok (.iconst 0, 1) := by decide +kernel
theorem dX4_beginnings_1 : decode cX4_beginnings 1 = .ok (.istore_n 1, 1) := by decide +kernel
theorem dX4_beginnings_2 : decode cX4_beginnings 2 = .ok (.iconst 0, 1) := by decide +kernel
theorem dX4_beginnings_3 : decode cX4_beginnings 3 = .ok (.istore_n 2, 1) := by decide +kernel
theorem dX4_beginnings_4 : decode cX4_beginnings 4 = .ok (.iload_n 2, 1) := by decide +kernel
theorem dX4_beginnings_5 : decode cX4_beginnings 5 = .ok (.aload_n 0, 1) := by decide +kernel
theorem dX4_beginnings_6 : decode cX4_beginnings 6 = .ok (.getfield 21, 3) := by decide +kernel
theorem dX4_beginnings_9 : decode cX4_beginnings 9 = .ok (.if_icmp .ge 27, 3) := by decide +kernel
theorem dX4_beginnings_12 : decode cX4_beginnings 12 = .ok (.aload_n 0, 1) := by decide +kernel
theorem dX4_beginnings_13 : decode cX4_beginnings 13 = .ok (.iload_n 2, 1) := by decide +kernel
theorem dX4_beginnings_14 : decode cX4_beginnings 14 = .ok (.invokevirtual 25, 3) := by decide +kernel
theorem dX4_beginnings_17 : decode cX4_beginnings 17 = .ok (.istore_n 3, 1) := by decide +kernel
theorem dX4_beginnings_18 : decode cX4_beginnings 18 = .ok (.iload_n 3, 1) := by decide +kernel
theorem dX4_beginnings_19 : decode cX4_beginnings 19 = .ok (.bipush (-6), 2) := by decide +kernel
theorem dX4_beginnings_21 : decode cX4_beginnings 21 = .ok (.if_icmp .eq 9, 3) := by decide +kernel
theorem dX4_beginnings_30 : decode cX4_beginnings 30 = .ok (.iinc 2 1, 3) := by decide +kernel
theorem dX4_beginnings_33 : decode cX4_beginnings 33 = .ok (.goto (-29), 3) := by decide +kernel
theorem dX4_beginnings_36 : decode cX4_beginnings 36 = .ok (.iload_n 1, 1) := by decide +kernel
theorem dX4_beginnings_37 : decode cX4_beginnings 37 = .ok (.ireturn, 1) := by decide +kernel
theorem dX1_layRows_0 : decode cX1_layRows 0 = .ok (.aload_n 0, 1) := by decide +kernel
theorem dX1_layRows_1 : decode cX1_layRows 1 = .ok (.getfield 30, 3) := by decide +kernel
theorem dX1_layRows_4 : decode cX1_layRows 4 = .ok (.invokevirtual 97, 3) := by decide +kernel
theorem dX1_layRows_7 : decode cX1_layRows 7 = .ok (.iconst 0, 1) := by decide +kernel
theorem dX1_layRows_8 : decode cX1_layRows 8 = .ok (.istore_n 2, 1) := by decide +kernel
theorem dX1_layRows_9 : decode cX1_layRows 9 = .ok (.iload_n 2, 1) := by decide +kernel
theorem dX1_layRows_10 : decode cX1_layRows 10 = .ok (.iload_n 1, 1) := by decide +kernel
theorem dX1_layRows_11 : decode cX1_layRows 11 = .ok (.if_icmp .ge 61, 3) := by decide +kernel
theorem dX1_layRows_72 : decode cX1_layRows 72 = .ok (.aload_n 0, 1) := by decide +kernel
theorem dX1_layRows_73 : decode cX1_layRows 73 = .ok (.getfield 30, 3) := by decide +kernel
theorem dX1_layRows_76 : decode cX1_layRows 76 = .ok (.invokevirtual 100, 3) := by decide +kernel
theorem dX1_layRows_79 : decode cX1_layRows 79 = .ok (.iconst 0, 1) := by decide +kernel
theorem dX1_layRows_80 : decode cX1_layRows 80 = .ok (.istore_n 2, 1) := by decide +kernel
theorem dX1_layRows_81 : decode cX1_layRows 81 = .ok (.iload_n 2, 1) := by decide +kernel
theorem dX1_layRows_82 : decode cX1_layRows 82 = .ok (.iload_n 1, 1) := by decide +kernel
theorem dX1_layRows_83 : decode cX1_layRows 83 = .ok (.if_icmp .ge 22, 3) := by decide +kernel
theorem dX1_layRows_105 : decode cX1_layRows 105 = .ok (.return_, 1) := by decide +kernel
theorem dX1_layLine_0 : decode cX1_layLine 0 = .ok (.aload_n 0, 1) := by decide +kernel
theorem dX1_layLine_1 : decode cX1_layLine 1 = .ok (.iload_n 2, 1) := by decide +kernel
theorem dX1_layLine_2 : decode cX1_layLine 2 = .ok (.invokevirtual 83, 3) := by decide +kernel
theorem dX1_layLine_5 : decode cX1_layLine 5 = .ok (.aload_n 0, 1) := by decide +kernel
theorem dX1_layLine_6 : decode cX1_layLine 6 = .ok (.getfield 21, 3) := by decide +kernel
theorem dX1_layLine_9 : decode cX1_layLine 9 = .ok (.iload_n 1, 1) := by decide +kernel
theorem dX1_layLine_10 : decode cX1_layLine 10 = .ok (.bipush 10, 2) := by decide +kernel
theorem dX1_layLine_12 : decode cX1_layLine 12 = .ok (.imul, 1) := by decide +kernel
theorem dX1_layLine_13 : decode cX1_layLine 13 = .ok (.iload_n 1, 1) := by decide +kernel
theorem dX1_layLine_14 : decode cX1_layLine 14 = .ok (.iastore, 1) := by decide +kernel
theorem dX1_layLine_15 : decode cX1_layLine 15 = .ok (.iconst 1, 1) := by decide +kernel
theorem dX1_layLine_16 : decode cX1_layLine 16 = .ok (.istore_n 3, 1) := by decide +kernel
theorem dX1_layLine_17 : decode cX1_layLine 17 = .ok (.aload_n 0, 1) := by decide +kernel
theorem dX1_layLine_18 : decode cX1_layLine 18 = .ok (.getfield 30, 3) := by decide +kernel
theorem dX1_layLine_21 : decode cX1_layLine 21 = .ok (.invokevirtual 87, 3) := by decide +kernel
theorem dX1_layLine_24 : decode cX1_layLine 24 = .ok (.istore 4, 2) := by decide +kernel
theorem dX1_layLine_26 : decode cX1_layLine 26 = .ok (.iload 4, 2) := by decide +kernel
theorem dX1_layLine_28 : decode cX1_layLine 28 = .ok (.bipush (-6), 2) := by decide +kernel
theorem dX1_layLine_30 : decode cX1_layLine 30 = .ok (.if_icmp .eq 46, 3) := by decide +kernel
theorem dX1_layLine_76 : decode cX1_layLine 76 = .ok (.aload_n 0, 1) := by decide +kernel
theorem dX1_layLine_77 : decode cX1_layLine 77 = .ok (.getfield 30, 3) := by decide +kernel
theorem dX1_layLine_80 : decode cX1_layLine 80 = .ok (.invokevirtual 94, 3) := by decide +kernel
theorem dX1_layLine_83 : decode cX1_layLine 83 = .ok (.istore 5, 2) := by decide +kernel
theorem dX1_layLine_85 : decode cX1_layLine 85 = .ok (.aload_n 0, 1) := by decide +kernel
theorem dX1_layLine_86 : decode cX1_layLine 86 = .ok (.getfield 18, 3) := by decide +kernel
theorem dX1_layLine_89 : decode cX1_layLine 89 = .ok (.iload_n 1, 1) := by decide +kernel
theorem dX1_layLine_90 : decode cX1_layLine 90 = .ok (.iload 5, 2) := by decide +kernel
theorem dX1_layLine_92 : decode cX1_layLine 92 = .ok (.ifCond .ne 8, 3) := by decide +kernel
theorem dX1_layLine_95 : decode cX1_layLine 95 = .ok (.bipush (-6), 2) := by decide +kernel
theorem dX1_layLine_97 : decode cX1_layLine 97 = .ok (.goto 5, 3) := by decide +kernel
theorem dX1_layLine_102 : decode cX1_layLine 102 = .ok (.iastore, 1) := by decide +kernel
theorem dX1_layLine_103 : decode cX1_layLine 103 = .ok (.aload_n 0, 1) := by decide +kernel
theorem dX1_layLine_104 : decode cX1_layLine 104 = .ok (.getfield 15, 3) := by decide +kernel
theorem dX1_layLine_107 : decode cX1_layLine 107 = .ok (.iload_n 1, 1) := by decide +kernel
theorem dX1_layLine_108 : decode cX1_layLine 108 = .ok (.iload 5, 2) := by decide +kernel
theorem dX1_layLine_110 : decode cX1_layLine 110 = .ok (.ifCond .ne 7, 3) := by decide +kernel
theorem dX1_layLine_113 : decode cX1_layLine 113 = .ok (.iload_n 3, 1) := by decide +kernel
theorem dX1_layLine_114 : decode cX1_layLine 114 = .ok (.goto 4, 3) := by decide +kernel
theorem dX1_layLine_118 : decode cX1_layLine 118 = .ok (.iastore, 1) := by decide +kernel
theorem dX1_layLine_119 : decode cX1_layLine 119 = .ok (.return_, 1) := by decide +kernel
theorem dX1_add_0 : decode cX1_add 0 = .ok (.aload_n 0, 1) := by decide +kernel
theorem dX1_add_1 : decode cX1_add 1 = .ok (.invokevirtual 72, 3) := by decide +kernel
theorem dX1_add_4 : decode cX1_add 4 = .ok (.ifCond .ne 12, 3) := by decide +kernel
theorem dX1_add_7 : decode cX1_add 7 = .ok (.iload_n 1, 1) := by decide +kernel
theorem dX1_add_8 : decode cX1_add 8 = .ok (.ifCond .lt 8, 3) := by decide +kernel
theorem dX1_add_11 : decode cX1_add 11 = .ok (.iload_n 1, 1) := by decide +kernel
theorem dX1_add_12 : decode cX1_add 12 = .ok (.iconst 3, 1) := by decide +kernel
theorem dX1_add_13 : decode cX1_add 13 = .ok (.if_icmp .le 6, 3) := by decide +kernel
theorem dX1_add_19 : decode cX1_add 19 = .ok (.aload_n 0, 1) := by decide +kernel
theorem dX1_add_20 : decode cX1_add 20 = .ok (.getfield 34, 3) := by decide +kernel
theorem dX1_add_23 : decode cX1_add 23 = .ok (.istore 5, 2) := by decide +kernel
theorem dX1_add_25 : decode cX1_add 25 = .ok (.aload_n 0, 1) := by decide +kernel
theorem dX1_add_26 : decode cX1_add 26 = .ok (.getfield 24, 3) := by decide +kernel
theorem dX1_add_29 : decode cX1_add 29 = .ok (.iconst 0, 1) := by decide +kernel
theorem dX1_add_30 : decode cX1_add 30 = .ok (.iload_n 2, 1) := by decide +kernel
theorem dX1_add_31 : decode cX1_add 31 = .ok (.iastore, 1) := by decide +kernel
theorem dX1_add_32 : decode cX1_add 32 = .ok (.aload_n 0, 1) := by decide +kernel
theorem dX1_add_33 : decode cX1_add 33 = .ok (.getfield 24, 3) := by decide +kernel
theorem dX1_add_36 : decode cX1_add 36 = .ok (.iconst 1, 1) := by decide +kernel
theorem dX1_add_37 : decode cX1_add 37 = .ok (.iload_n 3, 1) := by decide +kernel
theorem dX1_add_38 : decode cX1_add 38 = .ok (.iastore, 1) := by decide +kernel
theorem dX1_add_39 : decode cX1_add 39 = .ok (.aload_n 0, 1) := by decide +kernel
theorem dX1_add_40 : decode cX1_add 40 = .ok (.getfield 24, 3) := by decide +kernel
theorem dX1_add_43 : decode cX1_add 43 = .ok (.iconst 2, 1) := by decide +kernel
theorem dX1_add_44 : decode cX1_add 44 = .ok (.iload 4, 2) := by decide +kernel
theorem dX1_add_46 : decode cX1_add 46 = .ok (.iastore, 1) := by decide +kernel
theorem dX1_add_47 : decode cX1_add 47 = .ok (.aload_n 0, 1) := by decide +kernel
theorem dX1_add_48 : decode cX1_add 48 = .ok (.getfield 9, 3) := by decide +kernel
theorem dX1_add_51 : decode cX1_add 51 = .ok (.iload 5, 2) := by decide +kernel
theorem dX1_add_53 : decode cX1_add 53 = .ok (.iconst 0, 1) := by decide +kernel
theorem dX1_add_54 : decode cX1_add 54 = .ok (.iastore, 1) := by decide +kernel
theorem dX1_add_55 : decode cX1_add 55 = .ok (.iconst 1, 1) := by decide +kernel
theorem dX1_add_56 : decode cX1_add 56 = .ok (.istore 6, 2) := by decide +kernel
theorem dX1_add_58 : decode cX1_add 58 = .ok (.iconst 0, 1) := by decide +kernel
theorem dX1_add_59 : decode cX1_add 59 = .ok (.istore 7, 2) := by decide +kernel
theorem dX1_add_61 : decode cX1_add 61 = .ok (.iload 7, 2) := by decide +kernel
theorem dX1_add_63 : decode cX1_add 63 = .ok (.iload_n 1, 1) := by decide +kernel
theorem dX1_add_64 : decode cX1_add 64 = .ok (.if_icmp .ge 57, 3) := by decide +kernel
theorem dX1_add_121 : decode cX1_add 121 = .ok (.aload_n 0, 1) := by decide +kernel
theorem dX1_add_122 : decode cX1_add 122 = .ok (.getfield 15, 3) := by decide +kernel
theorem dX1_add_125 : decode cX1_add 125 = .ok (.iload 5, 2) := by decide +kernel
theorem dX1_add_127 : decode cX1_add 127 = .ok (.iconst 0, 1) := by decide +kernel
theorem dX1_add_128 : decode cX1_add 128 = .ok (.iastore, 1) := by decide +kernel
theorem dX1_add_129 : decode cX1_add 129 = .ok (.aload_n 0, 1) := by decide +kernel
theorem dX1_add_130 : decode cX1_add 130 = .ok (.getfield 18, 3) := by decide +kernel
theorem dX1_add_133 : decode cX1_add 133 = .ok (.iload 5, 2) := by decide +kernel
theorem dX1_add_135 : decode cX1_add 135 = .ok (.bipush (-5), 2) := by decide +kernel
theorem dX1_add_137 : decode cX1_add 137 = .ok (.iastore, 1) := by decide +kernel
theorem dX1_add_138 : decode cX1_add 138 = .ok (.iload 6, 2) := by decide +kernel
theorem dX1_add_140 : decode cX1_add 140 = .ok (.ifCond .eq 10, 3) := by decide +kernel
theorem dX1_add_143 : decode cX1_add 143 = .ok (.aload_n 0, 1) := by decide +kernel
theorem dX1_add_144 : decode cX1_add 144 = .ok (.iload 5, 2) := by decide +kernel
theorem dX1_add_146 : decode cX1_add 146 = .ok (.iload_n 1, 1) := by decide +kernel
theorem dX1_add_147 : decode cX1_add 147 = .ok (.invokevirtual 79, 3) := by decide +kernel
theorem dX1_add_150 : decode cX1_add 150 = .ok (.aload_n 0, 1) := by decide +kernel
theorem dX1_add_151 : decode cX1_add 151 = .ok (.dup, 1) := by decide +kernel
theorem dX1_add_152 : decode cX1_add 152 = .ok (.getfield 34, 3) := by decide +kernel
theorem dX1_add_155 : decode cX1_add 155 = .ok (.iconst 1, 1) := by decide +kernel
theorem dX1_add_156 : decode cX1_add 156 = .ok (.iadd, 1) := by decide +kernel
theorem dX1_add_157 : decode cX1_add 157 = .ok (.putfield 34, 3) := by decide +kernel
theorem dX1_add_160 : decode cX1_add 160 = .ok (.iload 5, 2) := by decide +kernel
theorem dX1_add_162 : decode cX1_add 162 = .ok (.ireturn, 1) := by decide +kernel
set_option maxHeartbeats 4000000 in
set_option maxRecDepth 100000 in
theorem c_rClear (l : Launch) (dC : Nat → ClassId) (dI : Nat → Nat → Nat) (sz : Nat) (h0 : Nat) (w0 : Value) (w1 : Value) (w2 : Value)  : Met l yX4_clear (wq yX4_clear cX4_clear 1 none) ({ frames := 0, cells := 0, slots := 0, locals := 0 }) (va_Pc [.ref h0] (pcW dC dI [] [(h0, .inr (4, [w0, w1, w2, .int 0]))] sz)) (va_Qv (fun _ : Unit => True) (fun _ t => va_P (dC, dI) vwCl [(h0, .inr (4, [w0, w1, w2, .int 0]))] t.heap ∧ va_K (dC, dI) vwCl [] t ∧ va_D (va_A [(h0, .inr (4, [w0, w1, w2, .int 0]))] sz) [(h0, .inr (4, [w0, w1, w2, .int 0]))]) (va_A [(h0, .inr (4, [w0, w1, w2, .int 0]))] sz)) 0 0 (va_A [(h0, .inr (4, [w0, w1, w2, .int 0]))] sz) := by
  refine Met.ofW (cc := cX4_clear) (maxL := 1) (ret := none) (by decide) rfl ?_
  intro p e s m args below meth c s₁ B hml hv
  obtain ⟨rfl, hsz, hN, hP, hK, hD0⟩ := hv
  have hx := B.exec
  have hb := B.bytes
  have hr := B.returns
  have hts0 := atoms_spec (ws := (wq yX4_clear cX4_clear 1 none)) B.pre
  have hts : ∀ w ∈ BG, w.before _ s = true := fun w h => hts0 w (List.mem_cons_of_mem _ h)
  have hown : s.vm.findClass RX4 = some m.cls := findClass_of_methodNamed B.named
  have hlocks := B.notSynchronized
  subst hsz
  have hD := hD0.self (sz := s.heap.size)
  generalize hAe : va_A [(h0, .inr (4, [w0, w1, w2, .int 0]))] s.heap.size = A at hD ⊢
  have hA : ∀ q : Nat, s.heap.size ≤ q → A q := fun q h => by rw [← hAe]; exact Or.inr h
  have hS : va_S A s.heap s.heap [] := va_S.rf
  have hP : va_P (dC, dI) vwCl [(h0, .inr (4, [w0, w1, w2, .int 0]))] s.heap := hP
  have hl := lv_entry ([.ref h0]) (n := 1) (Nat.le_of_ble_eq_true rfl)
  rw [lg_entry_eq]
  generalize (lg_sl ([.ref h0]) ++ List.replicate (1 - (lg_sl ([.ref h0])).length) Slot.unset).toArray = ls at hl ⊢
  have hl : lv_has ls 1 [(0, .ref h0)] := hl
  skip
  refine lv_aload_n hx hb dX4_clear_0 rfl (lv_at hl 0 rfl) ?_
  refine lv_iconst (v := 0) hx hb dX4_clear_1 (by decide) ?_
  refine va_put (D := (dC, dI)) (ci := 4) (v := .int 0) (ty := .int) (C := RX4) (T := TX4) (N := 4) hx hb hts inB_4 tyX4 tyX4_ok nmX4 hown hK hP hD hS 0 rfl rfl 3 (by decide) (hts _ mw_1_36) (fun _ h9 => h9) rfl (by decide +kernel) rfl rfl (Nat.le_of_ble_eq_true rfl) dX4_clear_2 (fun H locs hP hD hS => ?_)
  have hP : va_P (dC, dI) vwCl [(h0, .inr (4, [w0, w1, w2, .int 0]))] H := hP
  have hD : va_D A [(h0, .inr (4, [w0, w1, w2, .int 0]))] := hD
  exact W.vret hx hb hr (fun t ht hW => ⟨⟨(), rfl, trivial, by rw [ht]; exact hP, va_K.moved hW.alike hK, hD⟩, hS.F ht⟩) hS.2.2 dX4_clear_5
set_option maxHeartbeats 4000000 in
set_option maxRecDepth 100000 in
theorem c_rBegin (l : Launch) (dC : Nat → ClassId) (dI : Nat → Nat → Nat) (sz : Nat) (h0 : Nat) (w0 : Value) (a1 : Nat) (a2 : Nat) (ka1 : ClassId) (ka2 : ClassId)  : Met l yX4_begin (wq yX4_begin cX4_begin 1 none) ({ frames := 0, cells := 0, slots := 0, locals := 0 }) (va_Pc [.ref h0] (pcW dC dI [(ka1, .int), (ka2, .int)] [(h0, .inr (4, [w0, .ref a1, .ref a2, .int 0])), (a1, .inl (ka1, 4, .inl (fun _ => 0))), (a2, .inl (ka2, 4, .inl (fun _ => 0)))] sz)) (va_Qv (fun _ : Unit => True) (fun _ t => va_P (dC, dI) vwCl [(h0, .inr (4, [w0, .ref a1, .ref a2, .int 1])), (a1, .inl (ka1, 4, .inl (fun _ => 0))), (a2, .inl (ka2, 4, .inl (fun _ => 0)))] t.heap ∧ va_K (dC, dI) vwCl [(ka1, .int), (ka2, .int)] t ∧ va_D (va_A [(h0, .inr (4, [w0, .ref a1, .ref a2, .int 0])), (a1, .inl (ka1, 4, .inl (fun _ => 0))), (a2, .inl (ka2, 4, .inl (fun _ => 0)))] sz) [(h0, .inr (4, [w0, .ref a1, .ref a2, .int 1])), (a1, .inl (ka1, 4, .inl (fun _ => 0))), (a2, .inl (ka2, 4, .inl (fun _ => 0)))]) (va_A [(h0, .inr (4, [w0, .ref a1, .ref a2, .int 0])), (a1, .inl (ka1, 4, .inl (fun _ => 0))), (a2, .inl (ka2, 4, .inl (fun _ => 0)))] sz)) 0 0 (va_A [(h0, .inr (4, [w0, .ref a1, .ref a2, .int 0])), (a1, .inl (ka1, 4, .inl (fun _ => 0))), (a2, .inl (ka2, 4, .inl (fun _ => 0)))] sz) := by
  refine Met.ofW (cc := cX4_begin) (maxL := 1) (ret := none) (by decide) rfl ?_
  intro p e s m args below meth c s₁ B hml hv
  obtain ⟨rfl, hsz, hN, hP, hK, hD0⟩ := hv
  have hx := B.exec
  have hb := B.bytes
  have hr := B.returns
  have hts0 := atoms_spec (ws := (wq yX4_begin cX4_begin 1 none)) B.pre
  have hts : ∀ w ∈ BG, w.before _ s = true := fun w h => hts0 w (List.mem_cons_of_mem _ h)
  have hown : s.vm.findClass RX4 = some m.cls := findClass_of_methodNamed B.named
  have hlocks := B.notSynchronized
  subst hsz
  have hD := hD0.self (sz := s.heap.size)
  generalize hAe : va_A [(h0, .inr (4, [w0, .ref a1, .ref a2, .int 0])), (a1, .inl (ka1, 4, .inl (fun _ => 0))), (a2, .inl (ka2, 4, .inl (fun _ => 0)))] s.heap.size = A at hD ⊢
  have hA : ∀ q : Nat, s.heap.size ≤ q → A q := fun q h => by rw [← hAe]; exact Or.inr h
  have hS : va_S A s.heap s.heap [] := va_S.rf
  have hP : va_P (dC, dI) vwCl [(h0, .inr (4, [w0, .ref a1, .ref a2, .int 0])), (a1, .inl (ka1, 4, .inl (fun _ => 0))), (a2, .inl (ka2, 4, .inl (fun _ => 0)))] s.heap := hP
  have hl := lv_entry ([.ref h0]) (n := 1) (Nat.le_of_ble_eq_true rfl)
  rw [lg_entry_eq]
  generalize (lg_sl ([.ref h0]) ++ List.replicate (1 - (lg_sl ([.ref h0])).length) Slot.unset).toArray = ls at hl ⊢
  have hl : lv_has ls 1 [(0, .ref h0)] := hl
  skip
  refine lv_aload_n hx hb dX4_begin_0 rfl (lv_at hl 0 rfl) ?_
  refine va_get (D := (dC, dI)) (ci := 4) (v := .int 0) (C := RX4) (T := TX4) (N := 4) hx hb hts inB_4 hown hK hP 0 rfl rfl 3 (by decide) (hts _ mw_1_36) (fun _ h9 => h9) rfl dX4_begin_1 ?_
  refine lv_iconst (v := 4) hx hb dX4_begin_4 (by decide) ?_
  refine lv_icmp_lt (tgt := 9) hx hb dX4_begin_5 (by decide) (fun _ => ?_) (fun h => absurd (by decide) h)
  refine lv_aload_n hx hb dX4_begin_9 rfl (lv_at hl 0 rfl) ?_
  refine va_get (D := (dC, dI)) (ci := 4) (v := .ref a1) (C := RX4) (T := TX4) (N := 4) hx hb hts inB_4 hown hK hP 0 rfl rfl 1 (by decide) (hts _ mw_1_34) (fun _ h9 => h9) rfl dX4_begin_10 ?_
  refine lv_aload_n hx hb dX4_begin_13 rfl (lv_at hl 0 rfl) ?_
  refine va_get (D := (dC, dI)) (ci := 4) (v := .int 0) (C := RX4) (T := TX4) (N := 4) hx hb hts inB_4 hown hK hP 0 rfl rfl 3 (by decide) (hts _ mw_1_36) (fun _ h9 => h9) rfl dX4_begin_14 ?_
  refine lv_iconst (v := 0) hx hb dX4_begin_17 (by decide) ?_
  refine va_iast hx hb hK hP hD hS 1 0 rfl rfl (show vp_in 0 4 by unfold vp_in; decide) dX4_begin_18 (fun H locs hP hD hS => ?_)
  rw [show upd (fun _ => 0) (Int32.toNatClampNeg 0) 0 = (fun _ => 0) from upd_const _ _] at hP hD
  have hP : va_P (dC, dI) vwCl [(h0, .inr (4, [w0, .ref a1, .ref a2, .int 0])), (a1, .inl (ka1, 4, .inl (fun _ => 0))), (a2, .inl (ka2, 4, .inl (fun _ => 0)))] H := hP
  have hD : va_D A [(h0, .inr (4, [w0, .ref a1, .ref a2, .int 0])), (a1, .inl (ka1, 4, .inl (fun _ => 0))), (a2, .inl (ka2, 4, .inl (fun _ => 0)))] := hD
  refine lv_aload_n hx hb dX4_begin_19 rfl (lv_at hl 0 rfl) ?_
  refine va_get (D := (dC, dI)) (ci := 4) (v := .ref a2) (C := RX4) (T := TX4) (N := 4) hx hb hts inB_4 hown hK hP 0 rfl rfl 2 (by decide) (hts _ mw_1_35) (fun _ h9 => h9) rfl dX4_begin_20 ?_
  refine lv_aload_n hx hb dX4_begin_23 rfl (lv_at hl 0 rfl) ?_
  refine va_get (D := (dC, dI)) (ci := 4) (v := .int 0) (C := RX4) (T := TX4) (N := 4) hx hb hts inB_4 hown hK hP 0 rfl rfl 3 (by decide) (hts _ mw_1_36) (fun _ h9 => h9) rfl dX4_begin_24 ?_
  refine lv_iconst (v := 0) hx hb dX4_begin_27 (by decide) ?_
  refine va_iast hx hb hK hP hD hS 2 1 rfl rfl (show vp_in 0 4 by unfold vp_in; decide) dX4_begin_28 (fun H locs hP hD hS => ?_)
  rw [show upd (fun _ => 0) (Int32.toNatClampNeg 0) 0 = (fun _ => 0) from upd_const _ _] at hP hD
  have hP : va_P (dC, dI) vwCl [(h0, .inr (4, [w0, .ref a1, .ref a2, .int 0])), (a1, .inl (ka1, 4, .inl (fun _ => 0))), (a2, .inl (ka2, 4, .inl (fun _ => 0)))] H := hP
  have hD : va_D A [(h0, .inr (4, [w0, .ref a1, .ref a2, .int 0])), (a1, .inl (ka1, 4, .inl (fun _ => 0))), (a2, .inl (ka2, 4, .inl (fun _ => 0)))] := hD
  refine lv_aload_n hx hb dX4_begin_29 rfl (lv_at hl 0 rfl) ?_
  refine lv_dup hx hb dX4_begin_30 rfl ?_
  refine va_get (D := (dC, dI)) (ci := 4) (v := .int 0) (C := RX4) (T := TX4) (N := 4) hx hb hts inB_4 hown hK hP 0 rfl rfl 3 (by decide) (hts _ mw_1_36) (fun _ h9 => h9) rfl dX4_begin_31 ?_
  refine lv_iconst (v := 1) hx hb dX4_begin_34 (by decide) ?_
  refine lv_iadd hx hb dX4_begin_35 ?_
  refine hx_top (y := 1) (by decide) ?_
  refine va_put (D := (dC, dI)) (ci := 4) (v := .int 1) (ty := .int) (C := RX4) (T := TX4) (N := 4) hx hb hts inB_4 tyX4 tyX4_ok nmX4 hown hK hP hD hS 0 rfl rfl 3 (by decide) (hts _ mw_1_36) (fun _ h9 => h9) rfl (by decide +kernel) rfl rfl (Nat.le_of_ble_eq_true rfl) dX4_begin_36 (fun H locs hP hD hS => ?_)
  have hP : va_P (dC, dI) vwCl [(h0, .inr (4, [w0, .ref a1, .ref a2, .int 1])), (a1, .inl (ka1, 4, .inl (fun _ => 0))), (a2, .inl (ka2, 4, .inl (fun _ => 0)))] H := hP
  have hD : va_D A [(h0, .inr (4, [w0, .ref a1, .ref a2, .int 1])), (a1, .inl (ka1, 4, .inl (fun _ => 0))), (a2, .inl (ka2, 4, .inl (fun _ => 0)))] := hD
  exact W.vret hx hb hr (fun t ht hW => ⟨⟨(), rfl, trivial, by rw [ht]; exact hP, va_K.moved hW.alike hK, hD⟩, hS.F ht⟩) hS.2.2 dX4_begin_39
set_option maxHeartbeats 4000000 in
set_option maxRecDepth 100000 in
theorem c_rHead (l : Launch) (dC : Nat → ClassId) (dI : Nat → Nat → Nat) (sz : Nat) (h0 : Nat) (w0 : Value) (a1 : Nat) (a2 : Nat) (c1 : Int32) (ka1 : ClassId) (ka2 : ClassId)  : Met l yX4_head (wq yX4_head cX4_head 2 (some .int)) ({ frames := 0, cells := 0, slots := 0, locals := 0 }) (va_Pc [.ref h0, .int 0] (pcW dC dI [(ka1, .int), (ka2, .int)] [(h0, .inr (4, [w0, .ref a1, .ref a2, .int c1])), (a1, .inl (ka1, 4, .inl (fun _ => 0))), (a2, .inl (ka2, 4, .inl (fun _ => 0)))] sz)) (va_Qi (fun (r : Int32) (_ : Unit) => r = (-6)) (fun _ _ => True) (fun q : Nat => sz ≤ q)) 0 0 (fun q : Nat => sz ≤ q) := by
  refine Met.ofW (cc := cX4_head) (maxL := 2) (ret := (some .int)) (by decide) rfl ?_
  intro p e s m args below meth c s₁ B hml hv
  obtain ⟨rfl, hsz, hN, hP, hK, hD0⟩ := hv
  have hx := B.exec
  have hb := B.bytes
  have hr := B.returns
  have hts0 := atoms_spec (ws := (wq yX4_head cX4_head 2 (some .int))) B.pre
  have hts : ∀ w ∈ BG, w.before _ s = true := fun w h => hts0 w (List.mem_cons_of_mem _ h)
  have hown : s.vm.findClass RX4 = some m.cls := findClass_of_methodNamed B.named
  have hlocks := B.notSynchronized
  subst hsz
  have hA : ∀ q : Nat, s.heap.size ≤ q → (fun q : Nat => s.heap.size ≤ q) q := fun _ h => h
  have hD := hD0
  have hS : va_S (fun q : Nat => s.heap.size ≤ q) s.heap s.heap [] := va_S.rf
  have hP : va_P (dC, dI) vwCl [(h0, .inr (4, [w0, .ref a1, .ref a2, .int c1])), (a1, .inl (ka1, 4, .inl (fun _ => 0))), (a2, .inl (ka2, 4, .inl (fun _ => 0)))] s.heap := hP
  have hl := lv_entry ([.ref h0, .int 0]) (n := 2) (Nat.le_of_ble_eq_true rfl)
  rw [lg_entry_eq]
  generalize (lg_sl ([.ref h0, .int 0]) ++ List.replicate (2 - (lg_sl ([.ref h0, .int 0])).length) Slot.unset).toArray = ls at hl ⊢
  have hl : lv_has ls 2 [(0, .ref h0), (1, .int 0)] := hl
  skip
  refine lv_aload_n hx hb dX4_head_0 rfl (lv_at hl 0 rfl) ?_
  refine va_get (D := (dC, dI)) (ci := 4) (v := .ref a1) (C := RX4) (T := TX4) (N := 4) hx hb hts inB_4 hown hK hP 0 rfl rfl 1 (by decide) (hts _ mw_1_34) (fun _ h9 => h9) rfl dX4_head_1 ?_
  refine lv_iload_n hx hb dX4_head_4 rfl (lv_at hl 1 rfl) ?_
  refine va_iald hx hb hK hP 1 0 rfl rfl (show vp_in 0 4 by unfold vp_in; decide) dX4_head_5 ?_
  refine hx_top (y := 0) rfl ?_
  refine lv_aload_n hx hb dX4_head_6 rfl (lv_at hl 0 rfl) ?_
  refine va_get (D := (dC, dI)) (ci := 4) (v := .ref a2) (C := RX4) (T := TX4) (N := 4) hx hb hts inB_4 hown hK hP 0 rfl rfl 2 (by decide) (hts _ mw_1_35) (fun _ h9 => h9) rfl dX4_head_7 ?_
  refine lv_iload_n hx hb dX4_head_10 rfl (lv_at hl 1 rfl) ?_
  refine va_iald hx hb hK hP 2 1 rfl rfl (show vp_in 0 4 by unfold vp_in; decide) dX4_head_11 ?_
  refine hx_top (y := 0) rfl ?_
  refine lv_icmp_ge (tgt := 34) hx hb dX4_head_12 (by decide) (fun _ => ?_) (fun h => absurd (by decide) h)
  refine lv_bipush (v := (-6)) hx hb dX4_head_34 (by decide) ?_
  exact W.iret (v := (-6)) hx hb hr (fun t ht hW => ⟨⟨(-6), (), rfl, rfl, trivial⟩, hS.F ht⟩) hS.2.2 dX4_head_36
set_option maxHeartbeats 4000000 in
set_option maxRecDepth 100000 in
theorem c_rTail (l : Launch) (dC : Nat → ClassId) (dI : Nat → Nat → Nat) (sz : Nat) (h0 : Nat) (w0 : Value) (a1 : Nat) (a2 : Nat) (c1 : Int32) (ka1 : ClassId) (ka2 : ClassId)  : Met l yX4_tail (wq yX4_tail cX4_tail 4 (some .int)) ({ frames := 0, cells := 0, slots := 0, locals := 0 }) (va_Pc [.ref h0, .int 0] (pcW dC dI [(ka1, .int), (ka2, .int)] [(h0, .inr (4, [w0, .ref a1, .ref a2, .int c1])), (a1, .inl (ka1, 4, .inl (fun _ => 0))), (a2, .inl (ka2, 4, .inl (fun _ => 0)))] sz)) (va_Qi (fun (r : Int32) (_ : Unit) => r = 0) (fun _ _ => True) (fun q : Nat => sz ≤ q)) 0 0 (fun q : Nat => sz ≤ q) := by
  refine Met.ofW (cc := cX4_tail) (maxL := 4) (ret := (some .int)) (by decide) rfl ?_
  intro p e s m args below meth c s₁ B hml hv
  obtain ⟨rfl, hsz, hN, hP, hK, hD0⟩ := hv
  have hx := B.exec
  have hb := B.bytes
  have hr := B.returns
  have hts0 := atoms_spec (ws := (wq yX4_tail cX4_tail 4 (some .int))) B.pre
  have hts : ∀ w ∈ BG, w.before _ s = true := fun w h => hts0 w (List.mem_cons_of_mem _ h)
  have hown : s.vm.findClass RX4 = some m.cls := findClass_of_methodNamed B.named
  have hlocks := B.notSynchronized
  subst hsz
  have hA : ∀ q : Nat, s.heap.size ≤ q → (fun q : Nat => s.heap.size ≤ q) q := fun _ h => h
  have hD := hD0
  have hS : va_S (fun q : Nat => s.heap.size ≤ q) s.heap s.heap [] := va_S.rf
  have hP : va_P (dC, dI) vwCl [(h0, .inr (4, [w0, .ref a1, .ref a2, .int c1])), (a1, .inl (ka1, 4, .inl (fun _ => 0))), (a2, .inl (ka2, 4, .inl (fun _ => 0)))] s.heap := hP
  have hl := lv_entry ([.ref h0, .int 0]) (n := 4) (Nat.le_of_ble_eq_true rfl)
  rw [lg_entry_eq]
  generalize (lg_sl ([.ref h0, .int 0]) ++ List.replicate (4 - (lg_sl ([.ref h0, .int 0])).length) Slot.unset).toArray = ls at hl ⊢
  have hl : lv_has ls 4 [(0, .ref h0), (1, .int 0)] := hl
  skip
  refine lv_iconst (v := 0) hx hb dX4_tail_0 (by decide) ?_
  refine lv_istore_n (lv' := [(2, .int 0), (0, .ref h0), (1, .int 0)]) hx hb dX4_tail_1 rfl hl (by decide) rfl (fun ls hl => ?_)
  refine lv_aload_n hx hb dX4_tail_2 rfl (lv_at hl 1 rfl) ?_
  refine va_get (D := (dC, dI)) (ci := 4) (v := .ref a1) (C := RX4) (T := TX4) (N := 4) hx hb hts inB_4 hown hK hP 0 rfl rfl 1 (by decide) (hts _ mw_1_34) (fun _ h9 => h9) rfl dX4_tail_3 ?_
  refine lv_iload_n hx hb dX4_tail_6 rfl (lv_at hl 2 rfl) ?_
  refine va_iald hx hb hK hP 1 0 rfl rfl (show vp_in 0 4 by unfold vp_in; decide) dX4_tail_7 ?_
  refine hx_top (y := 0) rfl ?_
  refine lv_iconst (v := 1) hx hb dX4_tail_8 (by decide) ?_
  refine lv_iadd hx hb dX4_tail_9 ?_
  refine hx_top (y := 1) (by decide) ?_
  refine lv_istore_n (lv' := [(3, .int 1), (2, .int 0), (0, .ref h0), (1, .int 0)]) hx hb dX4_tail_10 rfl hl (by decide) rfl (fun ls hl => ?_)
  refine lv_iload_n hx hb dX4_tail_11 rfl (lv_at hl 0 rfl) ?_
  refine lv_aload_n hx hb dX4_tail_12 rfl (lv_at hl 2 rfl) ?_
  refine va_get (D := (dC, dI)) (ci := 4) (v := .ref a2) (C := RX4) (T := TX4) (N := 4) hx hb hts inB_4 hown hK hP 0 rfl rfl 2 (by decide) (hts _ mw_1_35) (fun _ h9 => h9) rfl dX4_tail_13 ?_
  refine lv_iload_n hx hb dX4_tail_16 rfl (lv_at hl 3 rfl) ?_
  refine va_iald hx hb hK hP 2 1 rfl rfl (show vp_in 0 4 by unfold vp_in; decide) dX4_tail_17 ?_
  refine hx_top (y := 0) rfl ?_
  refine lv_icmp_ge (tgt := 43) hx hb dX4_tail_18 (by decide) (fun _ => ?_) (fun h => absurd (by decide) h)
  refine lv_iload_n hx hb dX4_tail_43 rfl (lv_at hl 1 rfl) ?_
  exact W.iret (v := 0) hx hb hr (fun t ht hW => ⟨⟨0, (), rfl, rfl, trivial⟩, hS.F ht⟩) hS.2.2 dX4_tail_44
set_option maxHeartbeats 4000000 in
set_option maxRecDepth 100000 in
theorem c_rFree (l : Launch) (dC : Nat → ClassId) (dI : Nat → Nat → Nat) (sz : Nat) (h0 : Nat) (w0 : Value) (a1 : Nat) (a2 : Nat) (ka1 : ClassId) (ka2 : ClassId)  : Met l yX4_firstFree (wq yX4_firstFree cX4_firstFree 4 (some .int)) ({ frames := 1, cells := 0, slots := 0, locals := 23 }) (va_Pc [.ref h0] (pcW dC dI [(ka1, .int), (ka2, .int)] [(h0, .inr (4, [w0, .ref a1, .ref a2, .int 1])), (a1, .inl (ka1, 4, .inl (fun _ => 0))), (a2, .inl (ka2, 4, .inl (fun _ => 0)))] sz)) (va_Qi (fun (r : Int32) (_ : Unit) => r = (-6)) (fun _ _ => True) (fun q : Nat => sz ≤ q)) 0 0 (fun q : Nat => sz ≤ q) := by
  refine Met.ofW (cc := cX4_firstFree) (maxL := 4) (ret := (some .int)) (by decide) rfl ?_
  intro p e s m args below meth c s₁ B hml hv
  obtain ⟨rfl, hsz, hN, hP, hK, hD0⟩ := hv
  have hx := B.exec
  have hb := B.bytes
  have hr := B.returns
  have hts0 := atoms_spec (ws := (wq yX4_firstFree cX4_firstFree 4 (some .int))) B.pre
  have hts : ∀ w ∈ BG, w.before _ s = true := fun w h => hts0 w (List.mem_cons_of_mem _ h)
  have hown : s.vm.findClass RX4 = some m.cls := findClass_of_methodNamed B.named
  have hlocks := B.notSynchronized
  subst hsz
  have hA : ∀ q : Nat, s.heap.size ≤ q → (fun q : Nat => s.heap.size ≤ q) q := fun _ h => h
  have hD := hD0
  have hS : va_S (fun q : Nat => s.heap.size ≤ q) s.heap s.heap [] := va_S.rf
  have hP : va_P (dC, dI) vwCl [(h0, .inr (4, [w0, .ref a1, .ref a2, .int 1])), (a1, .inl (ka1, 4, .inl (fun _ => 0))), (a2, .inl (ka2, 4, .inl (fun _ => 0)))] s.heap := hP
  have hl := lv_entry ([.ref h0]) (n := 4) (Nat.le_of_ble_eq_true rfl)
  rw [lg_entry_eq]
  generalize (lg_sl ([.ref h0]) ++ List.replicate (4 - (lg_sl ([.ref h0])).length) Slot.unset).toArray = ls at hl ⊢
  have hl : lv_has ls 4 [(0, .ref h0)] := hl
  skip
  refine lv_iconst (v := 0) hx hb dX4_firstFree_0 (by decide) ?_
  refine lv_istore_n (lv' := [(1, .int 0), (0, .ref h0)]) hx hb dX4_firstFree_1 rfl hl (by decide) rfl (fun ls hl => ?_)
  refine lv_iconst (v := 0) hx hb dX4_firstFree_2 (by decide) ?_
  refine lv_istore_n (lv' := [(2, .int 0), (1, .int 0), (0, .ref h0)]) hx hb dX4_firstFree_3 rfl hl (by decide) rfl (fun ls hl => ?_)
  refine lv_iload_n hx hb dX4_firstFree_4 rfl (lv_at hl 0 rfl) ?_
  refine lv_aload_n hx hb dX4_firstFree_5 rfl (lv_at hl 2 rfl) ?_
  refine va_get (D := (dC, dI)) (ci := 4) (v := .int 1) (C := RX4) (T := TX4) (N := 4) hx hb hts inB_4 hown hK hP 0 rfl rfl 3 (by decide) (hts _ mw_1_36) (fun _ h9 => h9) rfl dX4_firstFree_6 ?_
  refine lv_icmp_ge (tgt := 26) hx hb dX4_firstFree_9 (by decide) (fun h => absurd h (by decide)) (fun _ => ?_)
  refine lv_iload_n hx hb dX4_firstFree_12 rfl (lv_at hl 1 rfl) ?_
  refine lv_aload_n hx hb dX4_firstFree_13 rfl (lv_at hl 2 rfl) ?_
  refine lv_iload_n hx hb dX4_firstFree_14 rfl (lv_at hl 0 rfl) ?_
  have hPc := hP.sub (ws' := [(h0, .inr (4, [w0, .ref a1, .ref a2, .int 1])), (a1, .inl (ka1, 4, .inl (fun _ => 0))), (a2, .inl (ka2, 4, .inl (fun _ => 0)))]) [0, 1, 2] rfl
  have hDc := hD.sub (ws' := [(h0, .inr (4, [w0, .ref a1, .ref a2, .int 1])), (a1, .inl (ka1, 4, .inl (fun _ => 0))), (a2, .inl (ka2, 4, .inl (fun _ => 0)))]) [0, 1, 2] (by decide) rfl
  have hKc := hK.sub (tys' := [(ka1, .int), (ka2, .int)]) [0, 1] rfl
  refine va_calli (va_runV (As := [.int 0]) (rest := [.int 0]) ⟨hx, hb, hml, hown, hts⟩ (c_rTail l dC dI s.heap.size h0 (w0) a1 a2 1 ka1 ka2) (cwV 1 hts (gV mw_2_5 mw_2_7 mw_0_2 mw_1_3 mw_2_8) rfl rfl rfl (by decide +kernel) ⟨Nat.le_of_ble_eq_true rfl, Nat.le_of_ble_eq_true rfl⟩) ⟨pcW_blind, va_recv hKc hPc (ci := 4) (q0 := 0) rfl rfl, pcW_at hPc hKc hDc hN⟩ rfl rfl hl.1 rfl (lv_room (Nat.le_of_ble_eq_true rfl)) dX4_firstFree_15 ⟨Nat.le_of_ble_eq_true rfl, Nat.le_of_ble_eq_true rfl⟩) hS (fun q h1 h2 => absurd h2 (Nat.not_le.mpr h1)) (fun q h => hA q (Nat.le_trans hS.1 h)) (fun r_1 u t H1 locs ht hvm hw_1 hB hz1 hk1 hS => ?_)
  have hP := keepP hP hk1
  clear hz1 hk1 hB ht hvm hPc hDc hKc
  generalize H1 = H at hP hS ⊢
  obtain rfl : r_1 = 0 := hw_1
  refine lv_ior hx hb dX4_firstFree_18 ?_
  refine hx_top (y := 0) (by decide) ?_
  refine lv_istore_n (lv' := [(1, .int 0), (2, .int 0), (0, .ref h0)]) hx hb dX4_firstFree_19 rfl hl (by decide) rfl (fun ls hl => ?_)
  refine lv_iinc (v := 1) (lv' := [(2, .int 1), (1, .int 0), (0, .ref h0)]) hx hb dX4_firstFree_20 hl (k := 1) rfl (by decide) (by decide) rfl (fun ls hl => ?_)
  refine lv_goto (tgt := 4) hx hb dX4_firstFree_23 (by decide) ?_
  refine lv_iload_n hx hb dX4_firstFree_4 rfl (lv_at hl 0 rfl) ?_
  refine lv_aload_n hx hb dX4_firstFree_5 rfl (lv_at hl 2 rfl) ?_
  refine va_get (D := (dC, dI)) (ci := 4) (v := .int 1) (C := RX4) (T := TX4) (N := 4) hx hb hts inB_4 hown hK hP 0 rfl rfl 3 (by decide) (hts _ mw_1_36) (fun _ h9 => h9) rfl dX4_firstFree_6 ?_
  refine lv_icmp_ge (tgt := 26) hx hb dX4_firstFree_9 (by decide) (fun _ => ?_) (fun h => absurd (by decide) h)
  refine lv_iconst (v := 0) hx hb dX4_firstFree_26 (by decide) ?_
  refine lv_istore_n (lv' := [(2, .int 0), (1, .int 0), (0, .ref h0)]) hx hb dX4_firstFree_27 rfl hl (by decide) rfl (fun ls hl => ?_)
  refine lv_iload_n hx hb dX4_firstFree_28 rfl (lv_at hl 0 rfl) ?_
  refine lv_aload_n hx hb dX4_firstFree_29 rfl (lv_at hl 2 rfl) ?_
  refine va_get (D := (dC, dI)) (ci := 4) (v := .int 1) (C := RX4) (T := TX4) (N := 4) hx hb hts inB_4 hown hK hP 0 rfl rfl 3 (by decide) (hts _ mw_1_36) (fun _ h9 => h9) rfl dX4_firstFree_30 ?_
  refine lv_icmp_ge (tgt := 64) hx hb dX4_firstFree_33 (by decide) (fun h => absurd h (by decide)) (fun _ => ?_)
  refine lv_aload_n hx hb dX4_firstFree_36 rfl (lv_at hl 2 rfl) ?_
  refine lv_iload_n hx hb dX4_firstFree_37 rfl (lv_at hl 0 rfl) ?_
  have hPc := hP.sub (ws' := [(h0, .inr (4, [w0, .ref a1, .ref a2, .int 1])), (a1, .inl (ka1, 4, .inl (fun _ => 0))), (a2, .inl (ka2, 4, .inl (fun _ => 0)))]) [0, 1, 2] rfl
  have hDc := hD.sub (ws' := [(h0, .inr (4, [w0, .ref a1, .ref a2, .int 1])), (a1, .inl (ka1, 4, .inl (fun _ => 0))), (a2, .inl (ka2, 4, .inl (fun _ => 0)))]) [0, 1, 2] (by decide) rfl
  have hKc := hK.sub (tys' := [(ka1, .int), (ka2, .int)]) [0, 1] rfl
  refine va_calli (va_runV (As := [.int 0]) (rest := []) ⟨hx, hb, hml, hown, hts⟩ (c_rHead l dC dI H.size h0 (w0) a1 a2 1 ka1 ka2) (cwV 1 hts (gV mw_2_9 mw_2_11 mw_0_3 mw_1_3 mw_2_12) rfl rfl rfl (by decide +kernel) ⟨Nat.le_of_ble_eq_true rfl, Nat.le_of_ble_eq_true rfl⟩) ⟨pcW_blind, va_recv hKc hPc (ci := 4) (q0 := 0) rfl rfl, pcW_at hPc hKc hDc hN⟩ rfl rfl hl.1 rfl (lv_room (Nat.le_of_ble_eq_true rfl)) dX4_firstFree_38 ⟨Nat.le_of_ble_eq_true rfl, Nat.le_of_ble_eq_true rfl⟩) hS (fun q h1 h2 => absurd h2 (Nat.not_le.mpr h1)) (fun q h => hA q (Nat.le_trans hS.1 h)) (fun r_2 u t H1 locs ht hvm hw_2 hB hz1 hk1 hS => ?_)
  have hP := keepP hP hk1
  clear hz1 hk1 hB ht hvm hPc hDc hKc
  generalize H1 = H at hP hS ⊢
  obtain rfl : r_2 = (-6) := hw_2
  refine lv_istore_n (lv' := [(3, .int (-6)), (2, .int 0), (1, .int 0), (0, .ref h0)]) hx hb dX4_firstFree_41 rfl hl (by decide) rfl (fun ls hl => ?_)
  refine lv_iload_n hx hb dX4_firstFree_42 rfl (lv_at hl 0 rfl) ?_
  refine lv_bipush (v := (-6)) hx hb dX4_firstFree_43 (by decide) ?_
  refine lv_icmp_eq (tgt := 58) hx hb dX4_firstFree_45 (by decide) (fun _ => ?_) (fun h => absurd (by decide) h)
  refine lv_iinc (v := 1) (lv' := [(2, .int 1), (3, .int (-6)), (1, .int 0), (0, .ref h0)]) hx hb dX4_firstFree_58 hl (k := 1) rfl (by decide) (by decide) rfl (fun ls hl => ?_)
  refine lv_goto (tgt := 28) hx hb dX4_firstFree_61 (by decide) ?_
  refine lv_iload_n hx hb dX4_firstFree_28 rfl (lv_at hl 0 rfl) ?_
  refine lv_aload_n hx hb dX4_firstFree_29 rfl (lv_at hl 3 rfl) ?_
  refine va_get (D := (dC, dI)) (ci := 4) (v := .int 1) (C := RX4) (T := TX4) (N := 4) hx hb hts inB_4 hown hK hP 0 rfl rfl 3 (by decide) (hts _ mw_1_36) (fun _ h9 => h9) rfl dX4_firstFree_30 ?_
  refine lv_icmp_ge (tgt := 64) hx hb dX4_firstFree_33 (by decide) (fun _ => ?_) (fun h => absurd (by decide) h)
  refine lv_bipush (v := (-6)) hx hb dX4_firstFree_64 (by decide) ?_
  exact W.iret (v := (-6)) hx hb hr (fun t ht hW => ⟨⟨(-6), (), rfl, rfl, trivial⟩, hS.F ht⟩) hS.2.2 dX4_firstFree_66
set_option maxHeartbeats 4000000 in
set_option maxRecDepth 100000 in
theorem c_rBegs (l : Launch) (dC : Nat → ClassId) (dI : Nat → Nat → Nat) (sz : Nat) (h0 : Nat) (w0 : Value) (a1 : Nat) (a2 : Nat) (ka1 : ClassId) (ka2 : ClassId)  : Met l yX4_beginnings (wq yX4_beginnings cX4_beginnings 4 (some .int)) ({ frames := 1, cells := 0, slots := 0, locals := 21 }) (va_Pc [.ref h0] (pcW dC dI [(ka1, .int), (ka2, .int)] [(h0, .inr (4, [w0, .ref a1, .ref a2, .int 1])), (a1, .inl (ka1, 4, .inl (fun _ => 0))), (a2, .inl (ka2, 4, .inl (fun _ => 0)))] sz)) (va_Qi (fun (r : Int32) (_ : Unit) => r = 0) (fun _ _ => True) (fun q : Nat => sz ≤ q)) 0 0 (fun q : Nat => sz ≤ q) := by
  refine Met.ofW (cc := cX4_beginnings) (maxL := 4) (ret := (some .int)) (by decide) rfl ?_
  intro p e s m args below meth c s₁ B hml hv
  obtain ⟨rfl, hsz, hN, hP, hK, hD0⟩ := hv
  have hx := B.exec
  have hb := B.bytes
  have hr := B.returns
  have hts0 := atoms_spec (ws := (wq yX4_beginnings cX4_beginnings 4 (some .int))) B.pre
  have hts : ∀ w ∈ BG, w.before _ s = true := fun w h => hts0 w (List.mem_cons_of_mem _ h)
  have hown : s.vm.findClass RX4 = some m.cls := findClass_of_methodNamed B.named
  have hlocks := B.notSynchronized
  subst hsz
  have hA : ∀ q : Nat, s.heap.size ≤ q → (fun q : Nat => s.heap.size ≤ q) q := fun _ h => h
  have hD := hD0
  have hS : va_S (fun q : Nat => s.heap.size ≤ q) s.heap s.heap [] := va_S.rf
  have hP : va_P (dC, dI) vwCl [(h0, .inr (4, [w0, .ref a1, .ref a2, .int 1])), (a1, .inl (ka1, 4, .inl (fun _ => 0))), (a2, .inl (ka2, 4, .inl (fun _ => 0)))] s.heap := hP
  have hl := lv_entry ([.ref h0]) (n := 4) (Nat.le_of_ble_eq_true rfl)
  rw [lg_entry_eq]
  generalize (lg_sl ([.ref h0]) ++ List.replicate (4 - (lg_sl ([.ref h0])).length) Slot.unset).toArray = ls at hl ⊢
  have hl : lv_has ls 4 [(0, .ref h0)] := hl
  skip
  refine lv_iconst (v := 0) hx hb dX4_beginnings_0 (by decide) ?_
  refine lv_istore_n (lv' := [(1, .int 0), (0, .ref h0)]) hx hb dX4_beginnings_1 rfl hl (by decide) rfl (fun ls hl => ?_)
  refine lv_iconst (v := 0) hx hb dX4_beginnings_2 (by decide) ?_
  refine lv_istore_n (lv' := [(2, .int 0), (1, .int 0), (0, .ref h0)]) hx hb dX4_beginnings_3 rfl hl (by decide) rfl (fun ls hl => ?_)
  refine lv_iload_n hx hb dX4_beginnings_4 rfl (lv_at hl 0 rfl) ?_
  refine lv_aload_n hx hb dX4_beginnings_5 rfl (lv_at hl 2 rfl) ?_
  refine va_get (D := (dC, dI)) (ci := 4) (v := .int 1) (C := RX4) (T := TX4) (N := 4) hx hb hts inB_4 hown hK hP 0 rfl rfl 3 (by decide) (hts _ mw_1_36) (fun _ h9 => h9) rfl dX4_beginnings_6 ?_
  refine lv_icmp_ge (tgt := 36) hx hb dX4_beginnings_9 (by decide) (fun h => absurd h (by decide)) (fun _ => ?_)
  refine lv_aload_n hx hb dX4_beginnings_12 rfl (lv_at hl 2 rfl) ?_
  refine lv_iload_n hx hb dX4_beginnings_13 rfl (lv_at hl 0 rfl) ?_
  have hPc := hP.sub (ws' := [(h0, .inr (4, [w0, .ref a1, .ref a2, .int 1])), (a1, .inl (ka1, 4, .inl (fun _ => 0))), (a2, .inl (ka2, 4, .inl (fun _ => 0)))]) [0, 1, 2] rfl
  have hDc := hD.sub (ws' := [(h0, .inr (4, [w0, .ref a1, .ref a2, .int 1])), (a1, .inl (ka1, 4, .inl (fun _ => 0))), (a2, .inl (ka2, 4, .inl (fun _ => 0)))]) [0, 1, 2] (by decide) rfl
  have hKc := hK.sub (tys' := [(ka1, .int), (ka2, .int)]) [0, 1] rfl
  refine va_calli (va_runV (As := [.int 0]) (rest := []) ⟨hx, hb, hml, hown, hts⟩ (c_rHead l dC dI s.heap.size h0 (w0) a1 a2 1 ka1 ka2) (cwV 1 hts (gV mw_2_9 mw_2_11 mw_0_3 mw_1_3 mw_2_12) rfl rfl rfl (by decide +kernel) ⟨Nat.le_of_ble_eq_true rfl, Nat.le_of_ble_eq_true rfl⟩) ⟨pcW_blind, va_recv hKc hPc (ci := 4) (q0 := 0) rfl rfl, pcW_at hPc hKc hDc hN⟩ rfl rfl hl.1 rfl (lv_room (Nat.le_of_ble_eq_true rfl)) dX4_beginnings_14 ⟨Nat.le_of_ble_eq_true rfl, Nat.le_of_ble_eq_true rfl⟩) hS (fun q h1 h2 => absurd h2 (Nat.not_le.mpr h1)) (fun q h => hA q (Nat.le_trans hS.1 h)) (fun r_1 u t H1 locs ht hvm hw_1 hB hz1 hk1 hS => ?_)
  have hP := keepP hP hk1
  clear hz1 hk1 hB ht hvm hPc hDc hKc
  generalize H1 = H at hP hS ⊢
  obtain rfl : r_1 = (-6) := hw_1
  refine lv_istore_n (lv' := [(3, .int (-6)), (2, .int 0), (1, .int 0), (0, .ref h0)]) hx hb dX4_beginnings_17 rfl hl (by decide) rfl (fun ls hl => ?_)
  refine lv_iload_n hx hb dX4_beginnings_18 rfl (lv_at hl 0 rfl) ?_
  refine lv_bipush (v := (-6)) hx hb dX4_beginnings_19 (by decide) ?_
  refine lv_icmp_eq (tgt := 30) hx hb dX4_beginnings_21 (by decide) (fun _ => ?_) (fun h => absurd (by decide) h)
  refine lv_iinc (v := 1) (lv' := [(2, .int 1), (3, .int (-6)), (1, .int 0), (0, .ref h0)]) hx hb dX4_beginnings_30 hl (k := 1) rfl (by decide) (by decide) rfl (fun ls hl => ?_)
  refine lv_goto (tgt := 4) hx hb dX4_beginnings_33 (by decide) ?_
  refine lv_iload_n hx hb dX4_beginnings_4 rfl (lv_at hl 0 rfl) ?_
  refine lv_aload_n hx hb dX4_beginnings_5 rfl (lv_at hl 3 rfl) ?_
  refine va_get (D := (dC, dI)) (ci := 4) (v := .int 1) (C := RX4) (T := TX4) (N := 4) hx hb hts inB_4 hown hK hP 0 rfl rfl 3 (by decide) (hts _ mw_1_36) (fun _ h9 => h9) rfl dX4_beginnings_6 ?_
  refine lv_icmp_ge (tgt := 36) hx hb dX4_beginnings_9 (by decide) (fun _ => ?_) (fun h => absurd (by decide) h)
  refine lv_iload_n hx hb dX4_beginnings_36 rfl (lv_at hl 2 rfl) ?_
  exact W.iret (v := 0) hx hb hr (fun t ht hW => ⟨⟨0, (), rfl, rfl, trivial⟩, hS.F ht⟩) hS.2.2 dX4_beginnings_37
set_option maxHeartbeats 4000000 in
set_option maxRecDepth 100000 in
theorem c_layRows (l : Launch) (dC : Nat → ClassId) (dI : Nat → Nat → Nat) (sz : Nat) (h0 : Nat) (w0 : Value) (w1 : Value) (w2 : Value) (w3 : Value) (w4 : Value) (r0 : Nat) (w6 : Value) (w7 : Value) (y0 : Value) (a1 : Nat) (a2 : Nat) (ka1 : ClassId) (ka2 : ClassId)  : Met l yX1_layRows (wq yX1_layRows cX1_layRows 5 none) ({ frames := 1, cells := 0, slots := 0, locals := 20 }) (va_Pc [.ref h0, .int 0] (pcW dC dI [(ka1, .int), (ka2, .int)] [(h0, .inr (1, [w0, w1, w2, w3, w4, .ref r0, w6, w7])), (r0, .inr (4, [y0, .ref a1, .ref a2, .int 0])), (a1, .inl (ka1, 4, .inl (fun _ => 0))), (a2, .inl (ka2, 4, .inl (fun _ => 0)))] sz)) (va_Qv (fun _ : Unit => True) (fun _ t => va_P (dC, dI) vwCl [(h0, .inr (1, [w0, w1, w2, w3, w4, .ref r0, w6, w7])), (r0, .inr (4, [y0, .ref a1, .ref a2, .int 1])), (a1, .inl (ka1, 4, .inl (fun _ => 0))), (a2, .inl (ka2, 4, .inl (fun _ => 0)))] t.heap ∧ va_K (dC, dI) vwCl [(ka1, .int), (ka2, .int)] t ∧ va_D (va_A [(h0, .inr (1, [w0, w1, w2, w3, w4, .ref r0, w6, w7])), (r0, .inr (4, [y0, .ref a1, .ref a2, .int 0])), (a1, .inl (ka1, 4, .inl (fun _ => 0))), (a2, .inl (ka2, 4, .inl (fun _ => 0)))] sz) [(h0, .inr (1, [w0, w1, w2, w3, w4, .ref r0, w6, w7])), (r0, .inr (4, [y0, .ref a1, .ref a2, .int 1])), (a1, .inl (ka1, 4, .inl (fun _ => 0))), (a2, .inl (ka2, 4, .inl (fun _ => 0)))]) (va_A [(h0, .inr (1, [w0, w1, w2, w3, w4, .ref r0, w6, w7])), (r0, .inr (4, [y0, .ref a1, .ref a2, .int 0])), (a1, .inl (ka1, 4, .inl (fun _ => 0))), (a2, .inl (ka2, 4, .inl (fun _ => 0)))] sz)) 0 0 (va_A [(h0, .inr (1, [w0, w1, w2, w3, w4, .ref r0, w6, w7])), (r0, .inr (4, [y0, .ref a1, .ref a2, .int 0])), (a1, .inl (ka1, 4, .inl (fun _ => 0))), (a2, .inl (ka2, 4, .inl (fun _ => 0)))] sz) := by
  refine Met.ofW (cc := cX1_layRows) (maxL := 5) (ret := none) (by decide) rfl ?_
  intro p e s m args below meth c s₁ B hml hv
  obtain ⟨rfl, hsz, hN, hP, hK, hD0⟩ := hv
  have hx := B.exec
  have hb := B.bytes
  have hr := B.returns
  have hts0 := atoms_spec (ws := (wq yX1_layRows cX1_layRows 5 none)) B.pre
  have hts : ∀ w ∈ BG, w.before _ s = true := fun w h => hts0 w (List.mem_cons_of_mem _ h)
  have hown : s.vm.findClass RX1 = some m.cls := findClass_of_methodNamed B.named
  have hlocks := B.notSynchronized
  subst hsz
  have hD := hD0.self (sz := s.heap.size)
  generalize hAe : va_A [(h0, .inr (1, [w0, w1, w2, w3, w4, .ref r0, w6, w7])), (r0, .inr (4, [y0, .ref a1, .ref a2, .int 0])), (a1, .inl (ka1, 4, .inl (fun _ => 0))), (a2, .inl (ka2, 4, .inl (fun _ => 0)))] s.heap.size = A at hD ⊢
  have hA : ∀ q : Nat, s.heap.size ≤ q → A q := fun q h => by rw [← hAe]; exact Or.inr h
  have hS : va_S A s.heap s.heap [] := va_S.rf
  have hP : va_P (dC, dI) vwCl [(h0, .inr (1, [w0, w1, w2, w3, w4, .ref r0, w6, w7])), (r0, .inr (4, [y0, .ref a1, .ref a2, .int 0])), (a1, .inl (ka1, 4, .inl (fun _ => 0))), (a2, .inl (ka2, 4, .inl (fun _ => 0)))] s.heap := hP
  have hl := lv_entry ([.ref h0, .int 0]) (n := 5) (Nat.le_of_ble_eq_true rfl)
  rw [lg_entry_eq]
  generalize (lg_sl ([.ref h0, .int 0]) ++ List.replicate (5 - (lg_sl ([.ref h0, .int 0])).length) Slot.unset).toArray = ls at hl ⊢
  have hl : lv_has ls 5 [(0, .ref h0), (1, .int 0)] := hl
  skip
  refine lv_aload_n hx hb dX1_layRows_0 rfl (lv_at hl 0 rfl) ?_
  refine va_get (D := (dC, dI)) (ci := 1) (v := .ref r0) (C := RX1) (T := TX1) (N := 8) hx hb hts inB_1 hown hK hP 0 rfl rfl 5 (by decide) (hts _ mw_1_52) (fun _ h9 => h9) rfl dX1_layRows_1 ?_
  have hPc := hP.sub (ws' := [(r0, .inr (4, [y0, .ref a1, .ref a2, .int 0]))]) [1] rfl
  have hDc := hD.sub (ws' := [(r0, .inr (4, [y0, .ref a1, .ref a2, .int 0]))]) [1] (by decide) rfl
  have hKc := hK.sub (tys' := []) [] rfl
  have hFc := va_free (wc := [(r0, .inr (4, [y0, .ref a1, .ref a2, .int 0]))]) hD hS hA [1] rfl
  refine va_callv (va_runV (As := []) (rest := []) ⟨hx, hb, hml, hown, hts⟩ (c_rClear l dC dI s.heap.size r0 (y0) (.ref a1) (.ref a2)) (cwV 0 hts (gV mw_1_225 mw_1_226 mw_1_227 mw_1_3 mw_1_228) rfl rfl rfl (by decide +kernel) ⟨Nat.le_of_ble_eq_true rfl, Nat.le_of_ble_eq_true rfl⟩) ⟨pcW_blind, va_recv hKc hPc (ci := 4) (q0 := 0) rfl rfl, pcW_at hPc hKc hDc hN⟩ rfl rfl hl.1 rfl (lv_room (Nat.le_of_ble_eq_true rfl)) dX1_layRows_4 ⟨Nat.le_of_ble_eq_true rfl, Nat.le_of_ble_eq_true rfl⟩) hS (fun q _ h => hFc q h) hFc (fun u t H1 locs ht hvm hw_1 hB hz1 hk1 hS => ?_)
  obtain ⟨hP1, hK1, hD1⟩ := hB
  rw [ht] at hP1
  have hK1 := va_K.moved hvm.symm hK1
  obtain ⟨hP, hD⟩ := va_join (wr := [(h0, .inr (1, [w0, w1, w2, w3, w4, .ref r0, w6, w7])), (a1, .inl (ka1, 4, .inl (fun _ => 0))), (a2, .inl (ka2, 4, .inl (fun _ => 0)))]) (w1 := [(r0, .inr (4, [y0, .ref a1, .ref a2, .int 0]))]) hP hD [1] [0, 2, 3] rfl rfl (by decide) (by decide) hk1 hFc hP1 hD1
  have hK := (hK.sub (tys' := [(ka1, .int), (ka2, .int)]) [0, 1] rfl).app hK1
  clear hz1 hk1 hPc hDc hKc hFc
  generalize H1 = H at hP hS ⊢
  have hK : va_K (dC, dI) vwCl [(ka1, .int), (ka2, .int)] s := hK
  have hP : va_P (dC, dI) vwCl [(h0, .inr (1, [w0, w1, w2, w3, w4, .ref r0, w6, w7])), (a1, .inl (ka1, 4, .inl (fun _ => 0))), (a2, .inl (ka2, 4, .inl (fun _ => 0))), (r0, .inr (4, [y0, .ref a1, .ref a2, .int 0]))] H := hP
  have hD : va_D A [(h0, .inr (1, [w0, w1, w2, w3, w4, .ref r0, w6, w7])), (a1, .inl (ka1, 4, .inl (fun _ => 0))), (a2, .inl (ka2, 4, .inl (fun _ => 0))), (r0, .inr (4, [y0, .ref a1, .ref a2, .int 0]))] := hD
  refine lv_iconst (v := 0) hx hb dX1_layRows_7 (by decide) ?_
  refine lv_istore_n (lv' := [(2, .int 0), (0, .ref h0), (1, .int 0)]) hx hb dX1_layRows_8 rfl hl (by decide) rfl (fun ls hl => ?_)
  refine lv_iload_n hx hb dX1_layRows_9 rfl (lv_at hl 0 rfl) ?_
  refine lv_iload_n hx hb dX1_layRows_10 rfl (lv_at hl 2 rfl) ?_
  refine lv_icmp_ge (tgt := 72) hx hb dX1_layRows_11 (by decide) (fun _ => ?_) (fun h => absurd (by decide) h)
  refine lv_aload_n hx hb dX1_layRows_72 rfl (lv_at hl 1 rfl) ?_
  refine va_get (D := (dC, dI)) (ci := 1) (v := .ref r0) (C := RX1) (T := TX1) (N := 8) hx hb hts inB_1 hown hK hP 0 rfl rfl 5 (by decide) (hts _ mw_1_52) (fun _ h9 => h9) rfl dX1_layRows_73 ?_
  have hPc := hP.sub (ws' := [(r0, .inr (4, [y0, .ref a1, .ref a2, .int 0])), (a1, .inl (ka1, 4, .inl (fun _ => 0))), (a2, .inl (ka2, 4, .inl (fun _ => 0)))]) [3, 1, 2] rfl
  have hDc := hD.sub (ws' := [(r0, .inr (4, [y0, .ref a1, .ref a2, .int 0])), (a1, .inl (ka1, 4, .inl (fun _ => 0))), (a2, .inl (ka2, 4, .inl (fun _ => 0)))]) [3, 1, 2] (by decide) rfl
  have hKc := hK.sub (tys' := [(ka1, .int), (ka2, .int)]) [0, 1] rfl
  have hFc := va_free (wc := [(r0, .inr (4, [y0, .ref a1, .ref a2, .int 0])), (a1, .inl (ka1, 4, .inl (fun _ => 0))), (a2, .inl (ka2, 4, .inl (fun _ => 0)))]) hD hS hA [3, 1, 2] rfl
  refine va_callv (va_runV (As := []) (rest := []) ⟨hx, hb, hml, hown, hts⟩ (c_rBegin l dC dI H.size r0 (y0) a1 a2 ka1 ka2) (cwV 0 hts (gV mw_1_229 mw_1_230 mw_1_231 mw_1_3 mw_1_232) rfl rfl rfl (by decide +kernel) ⟨Nat.le_of_ble_eq_true rfl, Nat.le_of_ble_eq_true rfl⟩) ⟨pcW_blind, va_recv hKc hPc (ci := 4) (q0 := 0) rfl rfl, pcW_at hPc hKc hDc hN⟩ rfl rfl hl.1 rfl (lv_room (Nat.le_of_ble_eq_true rfl)) dX1_layRows_76 ⟨Nat.le_of_ble_eq_true rfl, Nat.le_of_ble_eq_true rfl⟩) hS (fun q _ h => hFc q h) hFc (fun u t H1 locs ht hvm hw_2 hB hz1 hk1 hS => ?_)
  obtain ⟨hP1, hK1, hD1⟩ := hB
  rw [ht] at hP1
  have hK1 := va_K.moved hvm.symm hK1
  obtain ⟨hP, hD⟩ := va_join (wr := [(h0, .inr (1, [w0, w1, w2, w3, w4, .ref r0, w6, w7]))]) (w1 := [(r0, .inr (4, [y0, .ref a1, .ref a2, .int 1])), (a1, .inl (ka1, 4, .inl (fun _ => 0))), (a2, .inl (ka2, 4, .inl (fun _ => 0)))]) hP hD [3, 1, 2] [0] rfl rfl (by decide) (by decide) hk1 hFc hP1 hD1
  have hK := (hK.sub (tys' := []) [] rfl).app hK1
  clear hz1 hk1 hPc hDc hKc hFc
  generalize H1 = H at hP hS ⊢
  have hK : va_K (dC, dI) vwCl [(ka1, .int), (ka2, .int)] s := hK
  have hP : va_P (dC, dI) vwCl [(h0, .inr (1, [w0, w1, w2, w3, w4, .ref r0, w6, w7])), (r0, .inr (4, [y0, .ref a1, .ref a2, .int 1])), (a1, .inl (ka1, 4, .inl (fun _ => 0))), (a2, .inl (ka2, 4, .inl (fun _ => 0)))] H := hP
  have hD : va_D A [(h0, .inr (1, [w0, w1, w2, w3, w4, .ref r0, w6, w7])), (r0, .inr (4, [y0, .ref a1, .ref a2, .int 1])), (a1, .inl (ka1, 4, .inl (fun _ => 0))), (a2, .inl (ka2, 4, .inl (fun _ => 0)))] := hD
  refine lv_iconst (v := 0) hx hb dX1_layRows_79 (by decide) ?_
  refine lv_istore_n (lv' := [(2, .int 0), (0, .ref h0), (1, .int 0)]) hx hb dX1_layRows_80 rfl hl (by decide) rfl (fun ls hl => ?_)
  refine lv_iload_n hx hb dX1_layRows_81 rfl (lv_at hl 0 rfl) ?_
  refine lv_iload_n hx hb dX1_layRows_82 rfl (lv_at hl 2 rfl) ?_
  refine lv_icmp_ge (tgt := 105) hx hb dX1_layRows_83 (by decide) (fun _ => ?_) (fun h => absurd (by decide) h)
  exact W.vret hx hb hr (fun t ht hW => ⟨⟨(), rfl, trivial, by rw [ht]; exact hP, va_K.moved hW.alike hK, hD⟩, hS.F ht⟩) hS.2.2 dX1_layRows_105
set_option maxHeartbeats 4000000 in
set_option maxRecDepth 100000 in
theorem c_layLine (l : Launch) (dC : Nat → ClassId) (dI : Nat → Nat → Nat) (sz : Nat) (h0 : Nat) (w0 : Value) (b1 : Nat) (b2 : Nat) (b3 : Nat) (w4 : Value) (r0 : Nat) (w6 : Value) (w7 : Value) (kb1 : ClassId) (kb2 : ClassId) (fq : Nat → Int32) (kb3 : ClassId) (y0 : Value) (a1 : Nat) (a2 : Nat) (ka1 : ClassId) (ka2 : ClassId)  : Met l yX1_layLine (wq yX1_layLine cX1_layLine 6 none) ({ frames := 2, cells := 0, slots := 0, locals := 46 }) (va_Pc [.ref h0, .int 0, .int 0] (pcW dC dI [(kb1, .int), (kb2, .int), (kb3, .int), (ka1, .int), (ka2, .int)] [(h0, .inr (1, [w0, .ref b1, .ref b2, .ref b3, w4, .ref r0, w6, w7])), (b1, .inl (kb1, 10, .inl (fun _ => 0))), (b2, .inl (kb2, 10, .inl fq)), (b3, .inl (kb3, 100, .inl (fun _ => 0))), (r0, .inr (4, [y0, .ref a1, .ref a2, .int 0])), (a1, .inl (ka1, 4, .inl (fun _ => 0))), (a2, .inl (ka2, 4, .inl (fun _ => 0)))] sz)) (va_Qv (fun _ : Unit => True) (fun _ t => va_P (dC, dI) vwCl [(b1, .inl (kb1, 10, .inl (slF 1 0 1))), (b2, .inl (kb2, 10, .inl (upd fq 0 (-6)))), (b3, .inl (kb3, 100, .inl (fun _ => 0))), (h0, .inr (1, [w0, .ref b1, .ref b2, .ref b3, w4, .ref r0, w6, w7])), (r0, .inr (4, [y0, .ref a1, .ref a2, .int 1])), (a1, .inl (ka1, 4, .inl (fun _ => 0))), (a2, .inl (ka2, 4, .inl (fun _ => 0)))] t.heap ∧ va_K (dC, dI) vwCl [(kb1, .int), (kb2, .int), (kb3, .int), (ka1, .int), (ka2, .int)] t ∧ va_D (va_A [(h0, .inr (1, [w0, .ref b1, .ref b2, .ref b3, w4, .ref r0, w6, w7])), (b1, .inl (kb1, 10, .inl (fun _ => 0))), (b2, .inl (kb2, 10, .inl fq)), (b3, .inl (kb3, 100, .inl (fun _ => 0))), (r0, .inr (4, [y0, .ref a1, .ref a2, .int 0])), (a1, .inl (ka1, 4, .inl (fun _ => 0))), (a2, .inl (ka2, 4, .inl (fun _ => 0)))] sz) [(b1, .inl (kb1, 10, .inl (slF 1 0 1))), (b2, .inl (kb2, 10, .inl (upd fq 0 (-6)))), (b3, .inl (kb3, 100, .inl (fun _ => 0))), (h0, .inr (1, [w0, .ref b1, .ref b2, .ref b3, w4, .ref r0, w6, w7])), (r0, .inr (4, [y0, .ref a1, .ref a2, .int 1])), (a1, .inl (ka1, 4, .inl (fun _ => 0))), (a2, .inl (ka2, 4, .inl (fun _ => 0)))]) (va_A [(h0, .inr (1, [w0, .ref b1, .ref b2, .ref b3, w4, .ref r0, w6, w7])), (b1, .inl (kb1, 10, .inl (fun _ => 0))), (b2, .inl (kb2, 10, .inl fq)), (b3, .inl (kb3, 100, .inl (fun _ => 0))), (r0, .inr (4, [y0, .ref a1, .ref a2, .int 0])), (a1, .inl (ka1, 4, .inl (fun _ => 0))), (a2, .inl (ka2, 4, .inl (fun _ => 0)))] sz)) 0 0 (va_A [(h0, .inr (1, [w0, .ref b1, .ref b2, .ref b3, w4, .ref r0, w6, w7])), (b1, .inl (kb1, 10, .inl (fun _ => 0))), (b2, .inl (kb2, 10, .inl fq)), (b3, .inl (kb3, 100, .inl (fun _ => 0))), (r0, .inr (4, [y0, .ref a1, .ref a2, .int 0])), (a1, .inl (ka1, 4, .inl (fun _ => 0))), (a2, .inl (ka2, 4, .inl (fun _ => 0)))] sz) := by
  refine Met.ofW (cc := cX1_layLine) (maxL := 6) (ret := none) (by decide) rfl ?_
  intro p e s m args below meth c s₁ B hml hv
  obtain ⟨rfl, hsz, hN, hP, hK, hD0⟩ := hv
  have hx := B.exec
  have hb := B.bytes
  have hr := B.returns
  have hts0 := atoms_spec (ws := (wq yX1_layLine cX1_layLine 6 none)) B.pre
  have hts : ∀ w ∈ BG, w.before _ s = true := fun w h => hts0 w (List.mem_cons_of_mem _ h)
  have hown : s.vm.findClass RX1 = some m.cls := findClass_of_methodNamed B.named
  have hlocks := B.notSynchronized
  subst hsz
  have hD := hD0.self (sz := s.heap.size)
  generalize hAe : va_A [(h0, .inr (1, [w0, .ref b1, .ref b2, .ref b3, w4, .ref r0, w6, w7])), (b1, .inl (kb1, 10, .inl (fun _ => 0))), (b2, .inl (kb2, 10, .inl fq)), (b3, .inl (kb3, 100, .inl (fun _ => 0))), (r0, .inr (4, [y0, .ref a1, .ref a2, .int 0])), (a1, .inl (ka1, 4, .inl (fun _ => 0))), (a2, .inl (ka2, 4, .inl (fun _ => 0)))] s.heap.size = A at hD ⊢
  have hA : ∀ q : Nat, s.heap.size ≤ q → A q := fun q h => by rw [← hAe]; exact Or.inr h
  have hS : va_S A s.heap s.heap [] := va_S.rf
  have hP : va_P (dC, dI) vwCl [(h0, .inr (1, [w0, .ref b1, .ref b2, .ref b3, w4, .ref r0, w6, w7])), (b1, .inl (kb1, 10, .inl (fun _ => 0))), (b2, .inl (kb2, 10, .inl fq)), (b3, .inl (kb3, 100, .inl (fun _ => 0))), (r0, .inr (4, [y0, .ref a1, .ref a2, .int 0])), (a1, .inl (ka1, 4, .inl (fun _ => 0))), (a2, .inl (ka2, 4, .inl (fun _ => 0)))] s.heap := hP
  have hl := lv_entry ([.ref h0, .int 0, .int 0]) (n := 6) (Nat.le_of_ble_eq_true rfl)
  rw [lg_entry_eq]
  generalize (lg_sl ([.ref h0, .int 0, .int 0]) ++ List.replicate (6 - (lg_sl ([.ref h0, .int 0, .int 0])).length) Slot.unset).toArray = ls at hl ⊢
  have hl : lv_has ls 6 [(0, .ref h0), (1, .int 0), (2, .int 0)] := hl
  skip
  refine lv_aload_n hx hb dX1_layLine_0 rfl (lv_at hl 0 rfl) ?_
  refine lv_iload_n hx hb dX1_layLine_1 rfl (lv_at hl 2 rfl) ?_
  have hPc := hP.sub (ws' := [(h0, .inr (1, [w0, .ref b1, .ref b2, .ref b3, w4, .ref r0, w6, w7])), (r0, .inr (4, [y0, .ref a1, .ref a2, .int 0])), (a1, .inl (ka1, 4, .inl (fun _ => 0))), (a2, .inl (ka2, 4, .inl (fun _ => 0)))]) [0, 4, 5, 6] rfl
  have hDc := hD.sub (ws' := [(h0, .inr (1, [w0, .ref b1, .ref b2, .ref b3, w4, .ref r0, w6, w7])), (r0, .inr (4, [y0, .ref a1, .ref a2, .int 0])), (a1, .inl (ka1, 4, .inl (fun _ => 0))), (a2, .inl (ka2, 4, .inl (fun _ => 0)))]) [0, 4, 5, 6] (by decide) rfl
  have hKc := hK.sub (tys' := [(ka1, .int), (ka2, .int)]) [3, 4] rfl
  have hFc := va_free (wc := [(h0, .inr (1, [w0, .ref b1, .ref b2, .ref b3, w4, .ref r0, w6, w7])), (r0, .inr (4, [y0, .ref a1, .ref a2, .int 0])), (a1, .inl (ka1, 4, .inl (fun _ => 0))), (a2, .inl (ka2, 4, .inl (fun _ => 0)))]) hD hS hA [0, 4, 5, 6] rfl
  refine va_callv (va_runV (As := [.int 0]) (rest := []) ⟨hx, hb, hml, hown, hts⟩ (c_layRows l dC dI s.heap.size h0 (w0) (.ref b1) (.ref b2) (.ref b3) (w4) r0 (w6) (w7) (y0) a1 a2 ka1 ka2) (cwV 1 hts (gV mw_1_221 mw_1_223 mw_0_1 mw_1_2 mw_1_224) rfl rfl rfl (by decide +kernel) ⟨Nat.le_of_ble_eq_true rfl, Nat.le_of_ble_eq_true rfl⟩) ⟨pcW_blind, va_recv hKc hPc (ci := 1) (q0 := 0) rfl rfl, pcW_at hPc hKc hDc hN⟩ rfl rfl hl.1 rfl (lv_room (Nat.le_of_ble_eq_true rfl)) dX1_layLine_2 ⟨Nat.le_of_ble_eq_true rfl, Nat.le_of_ble_eq_true rfl⟩) hS (fun q _ h => hFc q h) hFc (fun u t H1 locs ht hvm hw_1 hB hz1 hk1 hS => ?_)
  obtain ⟨hP1, hK1, hD1⟩ := hB
  rw [ht] at hP1
  have hK1 := va_K.moved hvm.symm hK1
  obtain ⟨hP, hD⟩ := va_join (wr := [(b1, .inl (kb1, 10, .inl (fun _ => 0))), (b2, .inl (kb2, 10, .inl fq)), (b3, .inl (kb3, 100, .inl (fun _ => 0)))]) (w1 := [(h0, .inr (1, [w0, .ref b1, .ref b2, .ref b3, w4, .ref r0, w6, w7])), (r0, .inr (4, [y0, .ref a1, .ref a2, .int 1])), (a1, .inl (ka1, 4, .inl (fun _ => 0))), (a2, .inl (ka2, 4, .inl (fun _ => 0)))]) hP hD [0, 4, 5, 6] [1, 2, 3] rfl rfl (by decide) (by decide) hk1 hFc hP1 hD1
  have hK := (hK.sub (tys' := [(kb1, .int), (kb2, .int), (kb3, .int)]) [0, 1, 2] rfl).app hK1
  clear hz1 hk1 hPc hDc hKc hFc
  generalize H1 = H at hP hS ⊢
  have hK : va_K (dC, dI) vwCl [(kb1, .int), (kb2, .int), (kb3, .int), (ka1, .int), (ka2, .int)] s := hK
  have hP : va_P (dC, dI) vwCl [(b1, .inl (kb1, 10, .inl (fun _ => 0))), (b2, .inl (kb2, 10, .inl fq)), (b3, .inl (kb3, 100, .inl (fun _ => 0))), (h0, .inr (1, [w0, .ref b1, .ref b2, .ref b3, w4, .ref r0, w6, w7])), (r0, .inr (4, [y0, .ref a1, .ref a2, .int 1])), (a1, .inl (ka1, 4, .inl (fun _ => 0))), (a2, .inl (ka2, 4, .inl (fun _ => 0)))] H := hP
  have hD : va_D A [(b1, .inl (kb1, 10, .inl (fun _ => 0))), (b2, .inl (kb2, 10, .inl fq)), (b3, .inl (kb3, 100, .inl (fun _ => 0))), (h0, .inr (1, [w0, .ref b1, .ref b2, .ref b3, w4, .ref r0, w6, w7])), (r0, .inr (4, [y0, .ref a1, .ref a2, .int 1])), (a1, .inl (ka1, 4, .inl (fun _ => 0))), (a2, .inl (ka2, 4, .inl (fun _ => 0)))] := hD
  refine lv_aload_n hx hb dX1_layLine_5 rfl (lv_at hl 0 rfl) ?_
  refine va_get (D := (dC, dI)) (ci := 1) (v := .ref b3) (C := RX1) (T := TX1) (N := 8) hx hb hts inB_1 hown hK hP 3 rfl rfl 3 (by decide) (hts _ mw_1_50) (fun _ h9 => h9) rfl dX1_layLine_6 ?_
  refine lv_iload_n hx hb dX1_layLine_9 rfl (lv_at hl 1 rfl) ?_
  refine lv_bipush (v := 10) hx hb dX1_layLine_10 (by decide) ?_
  refine lv_imul hx hb dX1_layLine_12 ?_
  refine hx_top (y := 0) (by decide) ?_
  refine lv_iload_n hx hb dX1_layLine_13 rfl (lv_at hl 1 rfl) ?_
  refine va_iast hx hb hK hP hD hS 2 2 rfl rfl (show vp_in 0 100 by unfold vp_in; decide) dX1_layLine_14 (fun H locs hP hD hS => ?_)
  rw [show upd (fun _ => 0) (Int32.toNatClampNeg 0) 0 = (fun _ => 0) from upd_const _ _] at hP hD
  have hP : va_P (dC, dI) vwCl [(b1, .inl (kb1, 10, .inl (fun _ => 0))), (b2, .inl (kb2, 10, .inl fq)), (b3, .inl (kb3, 100, .inl (fun _ => 0))), (h0, .inr (1, [w0, .ref b1, .ref b2, .ref b3, w4, .ref r0, w6, w7])), (r0, .inr (4, [y0, .ref a1, .ref a2, .int 1])), (a1, .inl (ka1, 4, .inl (fun _ => 0))), (a2, .inl (ka2, 4, .inl (fun _ => 0)))] H := hP
  have hD : va_D A [(b1, .inl (kb1, 10, .inl (fun _ => 0))), (b2, .inl (kb2, 10, .inl fq)), (b3, .inl (kb3, 100, .inl (fun _ => 0))), (h0, .inr (1, [w0, .ref b1, .ref b2, .ref b3, w4, .ref r0, w6, w7])), (r0, .inr (4, [y0, .ref a1, .ref a2, .int 1])), (a1, .inl (ka1, 4, .inl (fun _ => 0))), (a2, .inl (ka2, 4, .inl (fun _ => 0)))] := hD
  refine lv_iconst (v := 1) hx hb dX1_layLine_15 (by decide) ?_
  refine lv_istore_n (lv' := [(3, .int 1), (0, .ref h0), (1, .int 0), (2, .int 0)]) hx hb dX1_layLine_16 rfl hl (by decide) rfl (fun ls hl => ?_)
  refine lv_aload_n hx hb dX1_layLine_17 rfl (lv_at hl 1 rfl) ?_
  refine va_get (D := (dC, dI)) (ci := 1) (v := .ref r0) (C := RX1) (T := TX1) (N := 8) hx hb hts inB_1 hown hK hP 3 rfl rfl 5 (by decide) (hts _ mw_1_52) (fun _ h9 => h9) rfl dX1_layLine_18 ?_
  have hPc := hP.sub (ws' := [(r0, .inr (4, [y0, .ref a1, .ref a2, .int 1])), (a1, .inl (ka1, 4, .inl (fun _ => 0))), (a2, .inl (ka2, 4, .inl (fun _ => 0)))]) [4, 5, 6] rfl
  have hDc := hD.sub (ws' := [(r0, .inr (4, [y0, .ref a1, .ref a2, .int 1])), (a1, .inl (ka1, 4, .inl (fun _ => 0))), (a2, .inl (ka2, 4, .inl (fun _ => 0)))]) [4, 5, 6] (by decide) rfl
  have hKc := hK.sub (tys' := [(ka1, .int), (ka2, .int)]) [3, 4] rfl
  refine va_calli (va_runV (As := []) (rest := []) ⟨hx, hb, hml, hown, hts⟩ (c_rFree l dC dI H.size r0 (y0) a1 a2 ka1 ka2) (cwV 0 hts (gV mw_2_1 mw_2_2 mw_2_3 mw_1_3 mw_2_4) rfl rfl rfl (by decide +kernel) ⟨Nat.le_of_ble_eq_true rfl, Nat.le_of_ble_eq_true rfl⟩) ⟨pcW_blind, va_recv hKc hPc (ci := 4) (q0 := 0) rfl rfl, pcW_at hPc hKc hDc hN⟩ rfl rfl hl.1 rfl (lv_room (Nat.le_of_ble_eq_true rfl)) dX1_layLine_21 ⟨Nat.le_of_ble_eq_true rfl, Nat.le_of_ble_eq_true rfl⟩) hS (fun q h1 h2 => absurd h2 (Nat.not_le.mpr h1)) (fun q h => hA q (Nat.le_trans hS.1 h)) (fun r_2 u t H1 locs ht hvm hw_2 hB hz1 hk1 hS => ?_)
  have hP := keepP hP hk1
  clear hz1 hk1 hB ht hvm hPc hDc hKc
  generalize H1 = H at hP hS ⊢
  obtain rfl : r_2 = (-6) := hw_2
  refine lv_istore (lv' := [(4, .int (-6)), (3, .int 1), (0, .ref h0), (1, .int 0), (2, .int 0)]) hx hb dX1_layLine_24 hl (by decide) rfl (fun ls hl => ?_)
  refine lv_iload hx hb dX1_layLine_26 (lv_at hl 0 rfl) ?_
  refine lv_bipush (v := (-6)) hx hb dX1_layLine_28 (by decide) ?_
  refine lv_icmp_eq (tgt := 76) hx hb dX1_layLine_30 (by decide) (fun _ => ?_) (fun h => absurd (by decide) h)
  refine lv_aload_n hx hb dX1_layLine_76 rfl (lv_at hl 2 rfl) ?_
  refine va_get (D := (dC, dI)) (ci := 1) (v := .ref r0) (C := RX1) (T := TX1) (N := 8) hx hb hts inB_1 hown hK hP 3 rfl rfl 5 (by decide) (hts _ mw_1_52) (fun _ h9 => h9) rfl dX1_layLine_77 ?_
  have hPc := hP.sub (ws' := [(r0, .inr (4, [y0, .ref a1, .ref a2, .int 1])), (a1, .inl (ka1, 4, .inl (fun _ => 0))), (a2, .inl (ka2, 4, .inl (fun _ => 0)))]) [4, 5, 6] rfl
  have hDc := hD.sub (ws' := [(r0, .inr (4, [y0, .ref a1, .ref a2, .int 1])), (a1, .inl (ka1, 4, .inl (fun _ => 0))), (a2, .inl (ka2, 4, .inl (fun _ => 0)))]) [4, 5, 6] (by decide) rfl
  have hKc := hK.sub (tys' := [(ka1, .int), (ka2, .int)]) [3, 4] rfl
  refine va_calli (va_runV (As := []) (rest := []) ⟨hx, hb, hml, hown, hts⟩ (c_rBegs l dC dI H.size r0 (y0) a1 a2 ka1 ka2) (cwV 0 hts (gV mw_2_20 mw_2_21 mw_2_22 mw_1_3 mw_2_23) rfl rfl rfl (by decide +kernel) ⟨Nat.le_of_ble_eq_true rfl, Nat.le_of_ble_eq_true rfl⟩) ⟨pcW_blind, va_recv hKc hPc (ci := 4) (q0 := 0) rfl rfl, pcW_at hPc hKc hDc hN⟩ rfl rfl hl.1 rfl (lv_room (Nat.le_of_ble_eq_true rfl)) dX1_layLine_80 ⟨Nat.le_of_ble_eq_true rfl, Nat.le_of_ble_eq_true rfl⟩) hS (fun q h1 h2 => absurd h2 (Nat.not_le.mpr h1)) (fun q h => hA q (Nat.le_trans hS.1 h)) (fun r_3 u t H1 locs ht hvm hw_3 hB hz1 hk1 hS => ?_)
  have hP := keepP hP hk1
  clear hz1 hk1 hB ht hvm hPc hDc hKc
  generalize H1 = H at hP hS ⊢
  obtain rfl : r_3 = 0 := hw_3
  refine lv_istore (lv' := [(5, .int 0), (4, .int (-6)), (3, .int 1), (0, .ref h0), (1, .int 0), (2, .int 0)]) hx hb dX1_layLine_83 hl (by decide) rfl (fun ls hl => ?_)
  refine lv_aload_n hx hb dX1_layLine_85 rfl (lv_at hl 3 rfl) ?_
  refine va_get (D := (dC, dI)) (ci := 1) (v := .ref b2) (C := RX1) (T := TX1) (N := 8) hx hb hts inB_1 hown hK hP 3 rfl rfl 2 (by decide) (hts _ mw_1_49) (fun _ h9 => h9) rfl dX1_layLine_86 ?_
  refine lv_iload_n hx hb dX1_layLine_89 rfl (lv_at hl 4 rfl) ?_
  refine lv_iload hx hb dX1_layLine_90 (lv_at hl 0 rfl) ?_
  refine lv_if_ne (tgt := 100) hx hb dX1_layLine_92 (by decide) (fun h => absurd h (by decide)) (fun _ => ?_)
  refine lv_bipush (v := (-6)) hx hb dX1_layLine_95 (by decide) ?_
  refine lv_goto (tgt := 102) hx hb dX1_layLine_97 (by decide) ?_
  refine va_iast hx hb hK hP hD hS 1 1 rfl rfl (show vp_in 0 10 by unfold vp_in; decide) dX1_layLine_102 (fun H locs hP hD hS => ?_)
  have hP : va_P (dC, dI) vwCl [(b1, .inl (kb1, 10, .inl (fun _ => 0))), (b2, .inl (kb2, 10, .inl (upd fq 0 (-6)))), (b3, .inl (kb3, 100, .inl (fun _ => 0))), (h0, .inr (1, [w0, .ref b1, .ref b2, .ref b3, w4, .ref r0, w6, w7])), (r0, .inr (4, [y0, .ref a1, .ref a2, .int 1])), (a1, .inl (ka1, 4, .inl (fun _ => 0))), (a2, .inl (ka2, 4, .inl (fun _ => 0)))] H := hP
  have hD : va_D A [(b1, .inl (kb1, 10, .inl (fun _ => 0))), (b2, .inl (kb2, 10, .inl (upd fq 0 (-6)))), (b3, .inl (kb3, 100, .inl (fun _ => 0))), (h0, .inr (1, [w0, .ref b1, .ref b2, .ref b3, w4, .ref r0, w6, w7])), (r0, .inr (4, [y0, .ref a1, .ref a2, .int 1])), (a1, .inl (ka1, 4, .inl (fun _ => 0))), (a2, .inl (ka2, 4, .inl (fun _ => 0)))] := hD
  refine lv_aload_n hx hb dX1_layLine_103 rfl (lv_at hl 3 rfl) ?_
  refine va_get (D := (dC, dI)) (ci := 1) (v := .ref b1) (C := RX1) (T := TX1) (N := 8) hx hb hts inB_1 hown hK hP 3 rfl rfl 1 (by decide) (hts _ mw_1_48) (fun _ h9 => h9) rfl dX1_layLine_104 ?_
  refine lv_iload_n hx hb dX1_layLine_107 rfl (lv_at hl 4 rfl) ?_
  refine lv_iload hx hb dX1_layLine_108 (lv_at hl 0 rfl) ?_
  refine lv_if_ne (tgt := 117) hx hb dX1_layLine_110 (by decide) (fun h => absurd h (by decide)) (fun _ => ?_)
  refine lv_iload_n hx hb dX1_layLine_113 rfl (lv_at hl 2 rfl) ?_
  refine lv_goto (tgt := 118) hx hb dX1_layLine_114 (by decide) ?_
  refine va_iast hx hb hK hP hD hS 0 0 rfl rfl (show vp_in 0 10 by unfold vp_in; decide) dX1_layLine_118 (fun H locs hP hD hS => ?_)
  rw [show upd (fun _ => 0) (Int32.toNatClampNeg 0) 1 = (slF 1 0 1) from slF_u0 _ _] at hP hD
  have hP : va_P (dC, dI) vwCl [(b1, .inl (kb1, 10, .inl (slF 1 0 1))), (b2, .inl (kb2, 10, .inl (upd fq 0 (-6)))), (b3, .inl (kb3, 100, .inl (fun _ => 0))), (h0, .inr (1, [w0, .ref b1, .ref b2, .ref b3, w4, .ref r0, w6, w7])), (r0, .inr (4, [y0, .ref a1, .ref a2, .int 1])), (a1, .inl (ka1, 4, .inl (fun _ => 0))), (a2, .inl (ka2, 4, .inl (fun _ => 0)))] H := hP
  have hD : va_D A [(b1, .inl (kb1, 10, .inl (slF 1 0 1))), (b2, .inl (kb2, 10, .inl (upd fq 0 (-6)))), (b3, .inl (kb3, 100, .inl (fun _ => 0))), (h0, .inr (1, [w0, .ref b1, .ref b2, .ref b3, w4, .ref r0, w6, w7])), (r0, .inr (4, [y0, .ref a1, .ref a2, .int 1])), (a1, .inl (ka1, 4, .inl (fun _ => 0))), (a2, .inl (ka2, 4, .inl (fun _ => 0)))] := hD
  exact W.vret hx hb hr (fun t ht hW => ⟨⟨(), rfl, trivial, by rw [ht]; exact hP, va_K.moved hW.alike hK, hD⟩, hS.F ht⟩) hS.2.2 dX1_layLine_119
set_option maxHeartbeats 4000000 in
set_option maxRecDepth 100000 in
theorem c_add (l : Launch) (dC : Nat → ClassId) (dI : Nat → Nat → Nat) (sz : Nat) (h0 : Nat) (b0 : Nat) (b1 : Nat) (b2 : Nat) (b3 : Nat) (b4 : Nat) (r0 : Nat) (w7 : Value) (kb0 : ClassId) (kb1 : ClassId) (kb2 : ClassId) (kb3 : ClassId) (kb4 : ClassId) (y0 : Value) (a1 : Nat) (a2 : Nat) (ka1 : ClassId) (ka2 : ClassId) (n1 : Int32) (n2 : Int32) (n3 : Int32)  : Met l yX1_add (wq yX1_add cX1_add 8 (some .int)) ({ frames := 3, cells := 0, slots := 0, locals := 71 }) (va_Pc [.ref h0, .int 0, .int n1, .int n2, .int n3] (pcW dC dI [(kb0, .int), (kb1, .int), (kb2, .int), (kb3, .int), (kb4, .int), (ka1, .int), (ka2, .int)] [(h0, .inr (1, [.ref b0, .ref b1, .ref b2, .ref b3, .ref b4, .ref r0, .int 0, w7])), (b0, .inl (kb0, 10, .inl (fun _ => 0))), (b1, .inl (kb1, 10, .inl (fun _ => 0))), (b2, .inl (kb2, 10, .inl (fun _ => 0))), (b3, .inl (kb3, 100, .inl (fun _ => 0))), (b4, .inl (kb4, 3, .inl (fun _ => 0))), (r0, .inr (4, [y0, .ref a1, .ref a2, .int 0])), (a1, .inl (ka1, 4, .inl (fun _ => 0))), (a2, .inl (ka2, 4, .inl (fun _ => 0)))] sz)) (va_Qi (fun (r : Int32) (_ : Unit) => r = 0) (fun _ _ => True) (va_A [(h0, .inr (1, [.ref b0, .ref b1, .ref b2, .ref b3, .ref b4, .ref r0, .int 0, w7])), (b0, .inl (kb0, 10, .inl (fun _ => 0))), (b1, .inl (kb1, 10, .inl (fun _ => 0))), (b2, .inl (kb2, 10, .inl (fun _ => 0))), (b3, .inl (kb3, 100, .inl (fun _ => 0))), (b4, .inl (kb4, 3, .inl (fun _ => 0))), (r0, .inr (4, [y0, .ref a1, .ref a2, .int 0])), (a1, .inl (ka1, 4, .inl (fun _ => 0))), (a2, .inl (ka2, 4, .inl (fun _ => 0)))] sz)) 0 0 (va_A [(h0, .inr (1, [.ref b0, .ref b1, .ref b2, .ref b3, .ref b4, .ref r0, .int 0, w7])), (b0, .inl (kb0, 10, .inl (fun _ => 0))), (b1, .inl (kb1, 10, .inl (fun _ => 0))), (b2, .inl (kb2, 10, .inl (fun _ => 0))), (b3, .inl (kb3, 100, .inl (fun _ => 0))), (b4, .inl (kb4, 3, .inl (fun _ => 0))), (r0, .inr (4, [y0, .ref a1, .ref a2, .int 0])), (a1, .inl (ka1, 4, .inl (fun _ => 0))), (a2, .inl (ka2, 4, .inl (fun _ => 0)))] sz) := by
  refine Met.ofW (cc := cX1_add) (maxL := 8) (ret := (some .int)) (by decide) rfl ?_
  intro p e s m args below meth c s₁ B hml hv
  obtain ⟨rfl, hsz, hN, hP, hK, hD0⟩ := hv
  have hx := B.exec
  have hb := B.bytes
  have hr := B.returns
  have hts0 := atoms_spec (ws := (wq yX1_add cX1_add 8 (some .int))) B.pre
  have hts : ∀ w ∈ BG, w.before _ s = true := fun w h => hts0 w (List.mem_cons_of_mem _ h)
  have hown : s.vm.findClass RX1 = some m.cls := findClass_of_methodNamed B.named
  have hlocks := B.notSynchronized
  subst hsz
  have hD := hD0.self (sz := s.heap.size)
  generalize hAe : va_A [(h0, .inr (1, [.ref b0, .ref b1, .ref b2, .ref b3, .ref b4, .ref r0, .int 0, w7])), (b0, .inl (kb0, 10, .inl (fun _ => 0))), (b1, .inl (kb1, 10, .inl (fun _ => 0))), (b2, .inl (kb2, 10, .inl (fun _ => 0))), (b3, .inl (kb3, 100, .inl (fun _ => 0))), (b4, .inl (kb4, 3, .inl (fun _ => 0))), (r0, .inr (4, [y0, .ref a1, .ref a2, .int 0])), (a1, .inl (ka1, 4, .inl (fun _ => 0))), (a2, .inl (ka2, 4, .inl (fun _ => 0)))] s.heap.size = A at hD ⊢
  have hA : ∀ q : Nat, s.heap.size ≤ q → A q := fun q h => by rw [← hAe]; exact Or.inr h
  have hS : va_S A s.heap s.heap [] := va_S.rf
  have hP : va_P (dC, dI) vwCl [(h0, .inr (1, [.ref b0, .ref b1, .ref b2, .ref b3, .ref b4, .ref r0, .int 0, w7])), (b0, .inl (kb0, 10, .inl (fun _ => 0))), (b1, .inl (kb1, 10, .inl (fun _ => 0))), (b2, .inl (kb2, 10, .inl (fun _ => 0))), (b3, .inl (kb3, 100, .inl (fun _ => 0))), (b4, .inl (kb4, 3, .inl (fun _ => 0))), (r0, .inr (4, [y0, .ref a1, .ref a2, .int 0])), (a1, .inl (ka1, 4, .inl (fun _ => 0))), (a2, .inl (ka2, 4, .inl (fun _ => 0)))] s.heap := hP
  have hl := lv_entry ([.ref h0, .int 0, .int n1, .int n2, .int n3]) (n := 8) (Nat.le_of_ble_eq_true rfl)
  rw [lg_entry_eq]
  generalize (lg_sl ([.ref h0, .int 0, .int n1, .int n2, .int n3]) ++ List.replicate (8 - (lg_sl ([.ref h0, .int 0, .int n1, .int n2, .int n3])).length) Slot.unset).toArray = ls at hl ⊢
  have hl : lv_has ls 8 [(0, .ref h0), (1, .int 0), (2, .int n1), (3, .int n2), (4, .int n3)] := hl
  skip
  refine lv_aload_n hx hb dX1_add_0 rfl (lv_at hl 0 rfl) ?_
  have hPc := hP.sub (ws' := [(h0, .inr (1, [.ref b0, .ref b1, .ref b2, .ref b3, .ref b4, .ref r0, .int 0, w7]))]) [0] rfl
  have hDc := hD.sub (ws' := [(h0, .inr (1, [.ref b0, .ref b1, .ref b2, .ref b3, .ref b4, .ref r0, .int 0, w7]))]) [0] (by decide) rfl
  have hKc := hK.sub (tys' := []) [] rfl
  refine va_calli (va_runV (As := []) (rest := []) ⟨hx, hb, hml, hown, hts⟩ (c_isFull l dC dI s.heap.size h0 (.ref b0) (.ref b1) (.ref b2) (.ref b3) (.ref b4) (.ref r0) (w7)) (cwV 0 hts (gV mw_1_203 mw_1_196 mw_1_197 mw_1_2 mw_1_198) rfl rfl rfl (by decide +kernel) ⟨Nat.le_of_ble_eq_true rfl, Nat.le_of_ble_eq_true rfl⟩) ⟨pcW_blind, va_recv hKc hPc (ci := 1) (q0 := 0) rfl rfl, pcW_at hPc hKc hDc hN⟩ rfl rfl hl.1 rfl (lv_room (Nat.le_of_ble_eq_true rfl)) dX1_add_1 ⟨Nat.le_of_ble_eq_true rfl, Nat.le_of_ble_eq_true rfl⟩) hS (fun q h1 h2 => absurd h2 (Nat.not_le.mpr h1)) (fun q h => hA q (Nat.le_trans hS.1 h)) (fun r_1 u t H1 locs ht hvm hw_1 hB hz1 hk1 hS => ?_)
  have hP := keepP hP hk1
  clear hz1 hk1 hB ht hvm hPc hDc hKc
  generalize H1 = H at hP hS ⊢
  obtain rfl : r_1 = 0 := hw_1
  refine lv_if_ne (tgt := 16) hx hb dX1_add_4 (by decide) (fun h => absurd h (by decide)) (fun _ => ?_)
  refine lv_iload_n hx hb dX1_add_7 rfl (lv_at hl 1 rfl) ?_
  refine lv_if_lt (tgt := 16) hx hb dX1_add_8 (by decide) (fun h => absurd h (by decide)) (fun _ => ?_)
  refine lv_iload_n hx hb dX1_add_11 rfl (lv_at hl 1 rfl) ?_
  refine lv_iconst (v := 3) hx hb dX1_add_12 (by decide) ?_
  refine lv_icmp_le (tgt := 19) hx hb dX1_add_13 (by decide) (fun _ => ?_) (fun h => absurd (by decide) h)
  refine lv_aload_n hx hb dX1_add_19 rfl (lv_at hl 0 rfl) ?_
  refine va_get (D := (dC, dI)) (ci := 1) (v := .int 0) (C := RX1) (T := TX1) (N := 8) hx hb hts inB_1 hown hK hP 0 rfl rfl 6 (by decide) (hts _ mw_1_53) (fun _ h9 => h9) rfl dX1_add_20 ?_
  refine lv_istore (lv' := [(5, .int 0), (0, .ref h0), (1, .int 0), (2, .int n1), (3, .int n2), (4, .int n3)]) hx hb dX1_add_23 hl (by decide) rfl (fun ls hl => ?_)
  refine lv_aload_n hx hb dX1_add_25 rfl (lv_at hl 1 rfl) ?_
  refine va_get (D := (dC, dI)) (ci := 1) (v := .ref b4) (C := RX1) (T := TX1) (N := 8) hx hb hts inB_1 hown hK hP 0 rfl rfl 4 (by decide) (hts _ mw_1_51) (fun _ h9 => h9) rfl dX1_add_26 ?_
  refine lv_iconst (v := 0) hx hb dX1_add_29 (by decide) ?_
  refine lv_iload_n hx hb dX1_add_30 rfl (lv_at hl 3 rfl) ?_
  refine va_iast hx hb hK hP hD hS 5 4 rfl rfl (show vp_in 0 3 by unfold vp_in; decide) dX1_add_31 (fun H locs hP hD hS => ?_)
  have hP : va_P (dC, dI) vwCl [(h0, .inr (1, [.ref b0, .ref b1, .ref b2, .ref b3, .ref b4, .ref r0, .int 0, w7])), (b0, .inl (kb0, 10, .inl (fun _ => 0))), (b1, .inl (kb1, 10, .inl (fun _ => 0))), (b2, .inl (kb2, 10, .inl (fun _ => 0))), (b3, .inl (kb3, 100, .inl (fun _ => 0))), (b4, .inl (kb4, 3, .inl (upd (fun _ => 0) 0 n1))), (r0, .inr (4, [y0, .ref a1, .ref a2, .int 0])), (a1, .inl (ka1, 4, .inl (fun _ => 0))), (a2, .inl (ka2, 4, .inl (fun _ => 0)))] H := hP
  have hD : va_D A [(h0, .inr (1, [.ref b0, .ref b1, .ref b2, .ref b3, .ref b4, .ref r0, .int 0, w7])), (b0, .inl (kb0, 10, .inl (fun _ => 0))), (b1, .inl (kb1, 10, .inl (fun _ => 0))), (b2, .inl (kb2, 10, .inl (fun _ => 0))), (b3, .inl (kb3, 100, .inl (fun _ => 0))), (b4, .inl (kb4, 3, .inl (upd (fun _ => 0) 0 n1))), (r0, .inr (4, [y0, .ref a1, .ref a2, .int 0])), (a1, .inl (ka1, 4, .inl (fun _ => 0))), (a2, .inl (ka2, 4, .inl (fun _ => 0)))] := hD
  refine lv_aload_n hx hb dX1_add_32 rfl (lv_at hl 1 rfl) ?_
  refine va_get (D := (dC, dI)) (ci := 1) (v := .ref b4) (C := RX1) (T := TX1) (N := 8) hx hb hts inB_1 hown hK hP 0 rfl rfl 4 (by decide) (hts _ mw_1_51) (fun _ h9 => h9) rfl dX1_add_33 ?_
  refine lv_iconst (v := 1) hx hb dX1_add_36 (by decide) ?_
  refine lv_iload_n hx hb dX1_add_37 rfl (lv_at hl 4 rfl) ?_
  refine va_iast hx hb hK hP hD hS 5 4 rfl rfl (show vp_in 1 3 by unfold vp_in; decide) dX1_add_38 (fun H locs hP hD hS => ?_)
  have hP : va_P (dC, dI) vwCl [(h0, .inr (1, [.ref b0, .ref b1, .ref b2, .ref b3, .ref b4, .ref r0, .int 0, w7])), (b0, .inl (kb0, 10, .inl (fun _ => 0))), (b1, .inl (kb1, 10, .inl (fun _ => 0))), (b2, .inl (kb2, 10, .inl (fun _ => 0))), (b3, .inl (kb3, 100, .inl (fun _ => 0))), (b4, .inl (kb4, 3, .inl (upd (upd (fun _ => 0) 0 n1) 1 n2))), (r0, .inr (4, [y0, .ref a1, .ref a2, .int 0])), (a1, .inl (ka1, 4, .inl (fun _ => 0))), (a2, .inl (ka2, 4, .inl (fun _ => 0)))] H := hP
  have hD : va_D A [(h0, .inr (1, [.ref b0, .ref b1, .ref b2, .ref b3, .ref b4, .ref r0, .int 0, w7])), (b0, .inl (kb0, 10, .inl (fun _ => 0))), (b1, .inl (kb1, 10, .inl (fun _ => 0))), (b2, .inl (kb2, 10, .inl (fun _ => 0))), (b3, .inl (kb3, 100, .inl (fun _ => 0))), (b4, .inl (kb4, 3, .inl (upd (upd (fun _ => 0) 0 n1) 1 n2))), (r0, .inr (4, [y0, .ref a1, .ref a2, .int 0])), (a1, .inl (ka1, 4, .inl (fun _ => 0))), (a2, .inl (ka2, 4, .inl (fun _ => 0)))] := hD
  refine lv_aload_n hx hb dX1_add_39 rfl (lv_at hl 1 rfl) ?_
  refine va_get (D := (dC, dI)) (ci := 1) (v := .ref b4) (C := RX1) (T := TX1) (N := 8) hx hb hts inB_1 hown hK hP 0 rfl rfl 4 (by decide) (hts _ mw_1_51) (fun _ h9 => h9) rfl dX1_add_40 ?_
  refine lv_iconst (v := 2) hx hb dX1_add_43 (by decide) ?_
  refine lv_iload hx hb dX1_add_44 (lv_at hl 5 rfl) ?_
  refine va_iast hx hb hK hP hD hS 5 4 rfl rfl (show vp_in 2 3 by unfold vp_in; decide) dX1_add_46 (fun H locs hP hD hS => ?_)
  have hP : va_P (dC, dI) vwCl [(h0, .inr (1, [.ref b0, .ref b1, .ref b2, .ref b3, .ref b4, .ref r0, .int 0, w7])), (b0, .inl (kb0, 10, .inl (fun _ => 0))), (b1, .inl (kb1, 10, .inl (fun _ => 0))), (b2, .inl (kb2, 10, .inl (fun _ => 0))), (b3, .inl (kb3, 100, .inl (fun _ => 0))), (b4, .inl (kb4, 3, .inl (upd (upd (upd (fun _ => 0) 0 n1) 1 n2) 2 n3))), (r0, .inr (4, [y0, .ref a1, .ref a2, .int 0])), (a1, .inl (ka1, 4, .inl (fun _ => 0))), (a2, .inl (ka2, 4, .inl (fun _ => 0)))] H := hP
  have hD : va_D A [(h0, .inr (1, [.ref b0, .ref b1, .ref b2, .ref b3, .ref b4, .ref r0, .int 0, w7])), (b0, .inl (kb0, 10, .inl (fun _ => 0))), (b1, .inl (kb1, 10, .inl (fun _ => 0))), (b2, .inl (kb2, 10, .inl (fun _ => 0))), (b3, .inl (kb3, 100, .inl (fun _ => 0))), (b4, .inl (kb4, 3, .inl (upd (upd (upd (fun _ => 0) 0 n1) 1 n2) 2 n3))), (r0, .inr (4, [y0, .ref a1, .ref a2, .int 0])), (a1, .inl (ka1, 4, .inl (fun _ => 0))), (a2, .inl (ka2, 4, .inl (fun _ => 0)))] := hD
  refine lv_aload_n hx hb dX1_add_47 rfl (lv_at hl 1 rfl) ?_
  refine va_get (D := (dC, dI)) (ci := 1) (v := .ref b0) (C := RX1) (T := TX1) (N := 8) hx hb hts inB_1 hown hK hP 0 rfl rfl 0 (by decide) (hts _ mw_1_47) (fun _ h9 => h9) rfl dX1_add_48 ?_
  refine lv_iload hx hb dX1_add_51 (lv_at hl 0 rfl) ?_
  refine lv_iconst (v := 0) hx hb dX1_add_53 (by decide) ?_
  refine va_iast hx hb hK hP hD hS 1 0 rfl rfl (show vp_in 0 10 by unfold vp_in; decide) dX1_add_54 (fun H locs hP hD hS => ?_)
  rw [show upd (fun _ => 0) (Int32.toNatClampNeg 0) 0 = (fun _ => 0) from upd_const _ _] at hP hD
  have hP : va_P (dC, dI) vwCl [(h0, .inr (1, [.ref b0, .ref b1, .ref b2, .ref b3, .ref b4, .ref r0, .int 0, w7])), (b0, .inl (kb0, 10, .inl (fun _ => 0))), (b1, .inl (kb1, 10, .inl (fun _ => 0))), (b2, .inl (kb2, 10, .inl (fun _ => 0))), (b3, .inl (kb3, 100, .inl (fun _ => 0))), (b4, .inl (kb4, 3, .inl (upd (upd (upd (fun _ => 0) 0 n1) 1 n2) 2 n3))), (r0, .inr (4, [y0, .ref a1, .ref a2, .int 0])), (a1, .inl (ka1, 4, .inl (fun _ => 0))), (a2, .inl (ka2, 4, .inl (fun _ => 0)))] H := hP
  have hD : va_D A [(h0, .inr (1, [.ref b0, .ref b1, .ref b2, .ref b3, .ref b4, .ref r0, .int 0, w7])), (b0, .inl (kb0, 10, .inl (fun _ => 0))), (b1, .inl (kb1, 10, .inl (fun _ => 0))), (b2, .inl (kb2, 10, .inl (fun _ => 0))), (b3, .inl (kb3, 100, .inl (fun _ => 0))), (b4, .inl (kb4, 3, .inl (upd (upd (upd (fun _ => 0) 0 n1) 1 n2) 2 n3))), (r0, .inr (4, [y0, .ref a1, .ref a2, .int 0])), (a1, .inl (ka1, 4, .inl (fun _ => 0))), (a2, .inl (ka2, 4, .inl (fun _ => 0)))] := hD
  refine lv_iconst (v := 1) hx hb dX1_add_55 (by decide) ?_
  refine lv_istore (lv' := [(6, .int 1), (5, .int 0), (0, .ref h0), (1, .int 0), (2, .int n1), (3, .int n2), (4, .int n3)]) hx hb dX1_add_56 hl (by decide) rfl (fun ls hl => ?_)
  refine lv_iconst (v := 0) hx hb dX1_add_58 (by decide) ?_
  refine lv_istore (lv' := [(7, .int 0), (6, .int 1), (5, .int 0), (0, .ref h0), (1, .int 0), (2, .int n1), (3, .int n2), (4, .int n3)]) hx hb dX1_add_59 hl (by decide) rfl (fun ls hl => ?_)
  refine lv_iload hx hb dX1_add_61 (lv_at hl 0 rfl) ?_
  refine lv_iload_n hx hb dX1_add_63 rfl (lv_at hl 4 rfl) ?_
  refine lv_icmp_ge (tgt := 121) hx hb dX1_add_64 (by decide) (fun _ => ?_) (fun h => absurd (by decide) h)
  refine lv_aload_n hx hb dX1_add_121 rfl (lv_at hl 3 rfl) ?_
  refine va_get (D := (dC, dI)) (ci := 1) (v := .ref b1) (C := RX1) (T := TX1) (N := 8) hx hb hts inB_1 hown hK hP 0 rfl rfl 1 (by decide) (hts _ mw_1_48) (fun _ h9 => h9) rfl dX1_add_122 ?_
  refine lv_iload hx hb dX1_add_125 (lv_at hl 2 rfl) ?_
  refine lv_iconst (v := 0) hx hb dX1_add_127 (by decide) ?_
  refine va_iast hx hb hK hP hD hS 2 1 rfl rfl (show vp_in 0 10 by unfold vp_in; decide) dX1_add_128 (fun H locs hP hD hS => ?_)
  rw [show upd (fun _ => 0) (Int32.toNatClampNeg 0) 0 = (fun _ => 0) from upd_const _ _] at hP hD
  have hP : va_P (dC, dI) vwCl [(h0, .inr (1, [.ref b0, .ref b1, .ref b2, .ref b3, .ref b4, .ref r0, .int 0, w7])), (b0, .inl (kb0, 10, .inl (fun _ => 0))), (b1, .inl (kb1, 10, .inl (fun _ => 0))), (b2, .inl (kb2, 10, .inl (fun _ => 0))), (b3, .inl (kb3, 100, .inl (fun _ => 0))), (b4, .inl (kb4, 3, .inl (upd (upd (upd (fun _ => 0) 0 n1) 1 n2) 2 n3))), (r0, .inr (4, [y0, .ref a1, .ref a2, .int 0])), (a1, .inl (ka1, 4, .inl (fun _ => 0))), (a2, .inl (ka2, 4, .inl (fun _ => 0)))] H := hP
  have hD : va_D A [(h0, .inr (1, [.ref b0, .ref b1, .ref b2, .ref b3, .ref b4, .ref r0, .int 0, w7])), (b0, .inl (kb0, 10, .inl (fun _ => 0))), (b1, .inl (kb1, 10, .inl (fun _ => 0))), (b2, .inl (kb2, 10, .inl (fun _ => 0))), (b3, .inl (kb3, 100, .inl (fun _ => 0))), (b4, .inl (kb4, 3, .inl (upd (upd (upd (fun _ => 0) 0 n1) 1 n2) 2 n3))), (r0, .inr (4, [y0, .ref a1, .ref a2, .int 0])), (a1, .inl (ka1, 4, .inl (fun _ => 0))), (a2, .inl (ka2, 4, .inl (fun _ => 0)))] := hD
  refine lv_aload_n hx hb dX1_add_129 rfl (lv_at hl 3 rfl) ?_
  refine va_get (D := (dC, dI)) (ci := 1) (v := .ref b2) (C := RX1) (T := TX1) (N := 8) hx hb hts inB_1 hown hK hP 0 rfl rfl 2 (by decide) (hts _ mw_1_49) (fun _ h9 => h9) rfl dX1_add_130 ?_
  refine lv_iload hx hb dX1_add_133 (lv_at hl 2 rfl) ?_
  refine lv_bipush (v := (-5)) hx hb dX1_add_135 (by decide) ?_
  refine va_iast hx hb hK hP hD hS 3 2 rfl rfl (show vp_in 0 10 by unfold vp_in; decide) dX1_add_137 (fun H locs hP hD hS => ?_)
  rw [show upd (fun _ => 0) (Int32.toNatClampNeg 0) (-5) = (slF (-5) 0 1) from slF_u0 _ _] at hP hD
  have hP : va_P (dC, dI) vwCl [(h0, .inr (1, [.ref b0, .ref b1, .ref b2, .ref b3, .ref b4, .ref r0, .int 0, w7])), (b0, .inl (kb0, 10, .inl (fun _ => 0))), (b1, .inl (kb1, 10, .inl (fun _ => 0))), (b2, .inl (kb2, 10, .inl (slF (-5) 0 1))), (b3, .inl (kb3, 100, .inl (fun _ => 0))), (b4, .inl (kb4, 3, .inl (upd (upd (upd (fun _ => 0) 0 n1) 1 n2) 2 n3))), (r0, .inr (4, [y0, .ref a1, .ref a2, .int 0])), (a1, .inl (ka1, 4, .inl (fun _ => 0))), (a2, .inl (ka2, 4, .inl (fun _ => 0)))] H := hP
  have hD : va_D A [(h0, .inr (1, [.ref b0, .ref b1, .ref b2, .ref b3, .ref b4, .ref r0, .int 0, w7])), (b0, .inl (kb0, 10, .inl (fun _ => 0))), (b1, .inl (kb1, 10, .inl (fun _ => 0))), (b2, .inl (kb2, 10, .inl (slF (-5) 0 1))), (b3, .inl (kb3, 100, .inl (fun _ => 0))), (b4, .inl (kb4, 3, .inl (upd (upd (upd (fun _ => 0) 0 n1) 1 n2) 2 n3))), (r0, .inr (4, [y0, .ref a1, .ref a2, .int 0])), (a1, .inl (ka1, 4, .inl (fun _ => 0))), (a2, .inl (ka2, 4, .inl (fun _ => 0)))] := hD
  refine lv_iload hx hb dX1_add_138 (lv_at hl 1 rfl) ?_
  refine lv_if_eq (tgt := 150) hx hb dX1_add_140 (by decide) (fun h => absurd h (by decide)) (fun _ => ?_)
  refine lv_aload_n hx hb dX1_add_143 rfl (lv_at hl 3 rfl) ?_
  refine lv_iload hx hb dX1_add_144 (lv_at hl 2 rfl) ?_
  refine lv_iload_n hx hb dX1_add_146 rfl (lv_at hl 4 rfl) ?_
  have hPc := hP.sub (ws' := [(h0, .inr (1, [.ref b0, .ref b1, .ref b2, .ref b3, .ref b4, .ref r0, .int 0, w7])), (b1, .inl (kb1, 10, .inl (fun _ => 0))), (b2, .inl (kb2, 10, .inl (slF (-5) 0 1))), (b3, .inl (kb3, 100, .inl (fun _ => 0))), (r0, .inr (4, [y0, .ref a1, .ref a2, .int 0])), (a1, .inl (ka1, 4, .inl (fun _ => 0))), (a2, .inl (ka2, 4, .inl (fun _ => 0)))]) [0, 2, 3, 4, 6, 7, 8] rfl
  have hDc := hD.sub (ws' := [(h0, .inr (1, [.ref b0, .ref b1, .ref b2, .ref b3, .ref b4, .ref r0, .int 0, w7])), (b1, .inl (kb1, 10, .inl (fun _ => 0))), (b2, .inl (kb2, 10, .inl (slF (-5) 0 1))), (b3, .inl (kb3, 100, .inl (fun _ => 0))), (r0, .inr (4, [y0, .ref a1, .ref a2, .int 0])), (a1, .inl (ka1, 4, .inl (fun _ => 0))), (a2, .inl (ka2, 4, .inl (fun _ => 0)))]) [0, 2, 3, 4, 6, 7, 8] (by decide) rfl
  have hKc := hK.sub (tys' := [(kb1, .int), (kb2, .int), (kb3, .int), (ka1, .int), (ka2, .int)]) [1, 2, 3, 5, 6] rfl
  have hFc := va_free (wc := [(h0, .inr (1, [.ref b0, .ref b1, .ref b2, .ref b3, .ref b4, .ref r0, .int 0, w7])), (b1, .inl (kb1, 10, .inl (fun _ => 0))), (b2, .inl (kb2, 10, .inl (slF (-5) 0 1))), (b3, .inl (kb3, 100, .inl (fun _ => 0))), (r0, .inr (4, [y0, .ref a1, .ref a2, .int 0])), (a1, .inl (ka1, 4, .inl (fun _ => 0))), (a2, .inl (ka2, 4, .inl (fun _ => 0)))]) hD hS hA [0, 2, 3, 4, 6, 7, 8] rfl
  refine va_callv (va_runV (As := [.int 0, .int 0]) (rest := []) ⟨hx, hb, hml, hown, hts⟩ (c_layLine l dC dI H.size h0 (.ref b0) b1 b2 b3 (.ref b4) r0 (.int 0) (w7) kb1 kb2 (slF (-5) 0 1) kb3 (y0) a1 a2 ka1 ka2) (cwV 2 hts (gV mw_1_217 mw_1_219 mw_0_0 mw_1_2 mw_1_220) rfl rfl rfl (by decide +kernel) ⟨Nat.le_of_ble_eq_true rfl, Nat.le_of_ble_eq_true rfl⟩) ⟨pcW_blind, va_recv hKc hPc (ci := 1) (q0 := 0) rfl rfl, pcW_at hPc hKc hDc hN⟩ rfl rfl hl.1 rfl (lv_room (Nat.le_of_ble_eq_true rfl)) dX1_add_147 ⟨Nat.le_of_ble_eq_true rfl, Nat.le_of_ble_eq_true rfl⟩) hS (fun q _ h => hFc q h) hFc (fun u t H1 locs ht hvm hw_2 hB hz1 hk1 hS => ?_)
  obtain ⟨hP1, hK1, hD1⟩ := hB
  rw [ht] at hP1
  have hK1 := va_K.moved hvm.symm hK1
  obtain ⟨hP, hD⟩ := va_join (wr := [(b0, .inl (kb0, 10, .inl (fun _ => 0))), (b4, .inl (kb4, 3, .inl (upd (upd (upd (fun _ => 0) 0 n1) 1 n2) 2 n3)))]) (w1 := [(b1, .inl (kb1, 10, .inl (slF 1 0 1))), (b2, .inl (kb2, 10, .inl (upd (slF (-5) 0 1) 0 (-6)))), (b3, .inl (kb3, 100, .inl (fun _ => 0))), (h0, .inr (1, [.ref b0, .ref b1, .ref b2, .ref b3, .ref b4, .ref r0, .int 0, w7])), (r0, .inr (4, [y0, .ref a1, .ref a2, .int 1])), (a1, .inl (ka1, 4, .inl (fun _ => 0))), (a2, .inl (ka2, 4, .inl (fun _ => 0)))]) hP hD [0, 2, 3, 4, 6, 7, 8] [1, 5] rfl rfl (by decide) (by decide) hk1 hFc hP1 hD1
  have hK := (hK.sub (tys' := [(kb0, .int), (kb4, .int)]) [0, 4] rfl).app hK1
  clear hz1 hk1 hPc hDc hKc hFc
  generalize H1 = H at hP hS ⊢
  have hK : va_K (dC, dI) vwCl [(kb0, .int), (kb4, .int), (kb1, .int), (kb2, .int), (kb3, .int), (ka1, .int), (ka2, .int)] s := hK
  have hP : va_P (dC, dI) vwCl [(b0, .inl (kb0, 10, .inl (fun _ => 0))), (b4, .inl (kb4, 3, .inl (upd (upd (upd (fun _ => 0) 0 n1) 1 n2) 2 n3))), (b1, .inl (kb1, 10, .inl (slF 1 0 1))), (b2, .inl (kb2, 10, .inl (upd (slF (-5) 0 1) 0 (-6)))), (b3, .inl (kb3, 100, .inl (fun _ => 0))), (h0, .inr (1, [.ref b0, .ref b1, .ref b2, .ref b3, .ref b4, .ref r0, .int 0, w7])), (r0, .inr (4, [y0, .ref a1, .ref a2, .int 1])), (a1, .inl (ka1, 4, .inl (fun _ => 0))), (a2, .inl (ka2, 4, .inl (fun _ => 0)))] H := hP
  have hD : va_D A [(b0, .inl (kb0, 10, .inl (fun _ => 0))), (b4, .inl (kb4, 3, .inl (upd (upd (upd (fun _ => 0) 0 n1) 1 n2) 2 n3))), (b1, .inl (kb1, 10, .inl (slF 1 0 1))), (b2, .inl (kb2, 10, .inl (upd (slF (-5) 0 1) 0 (-6)))), (b3, .inl (kb3, 100, .inl (fun _ => 0))), (h0, .inr (1, [.ref b0, .ref b1, .ref b2, .ref b3, .ref b4, .ref r0, .int 0, w7])), (r0, .inr (4, [y0, .ref a1, .ref a2, .int 1])), (a1, .inl (ka1, 4, .inl (fun _ => 0))), (a2, .inl (ka2, 4, .inl (fun _ => 0)))] := hD
  refine lv_aload_n hx hb dX1_add_150 rfl (lv_at hl 3 rfl) ?_
  refine lv_dup hx hb dX1_add_151 rfl ?_
  refine va_get (D := (dC, dI)) (ci := 1) (v := .int 0) (C := RX1) (T := TX1) (N := 8) hx hb hts inB_1 hown hK hP 5 rfl rfl 6 (by decide) (hts _ mw_1_53) (fun _ h9 => h9) rfl dX1_add_152 ?_
  refine lv_iconst (v := 1) hx hb dX1_add_155 (by decide) ?_
  refine lv_iadd hx hb dX1_add_156 ?_
  refine hx_top (y := 1) (by decide) ?_
  refine va_put (D := (dC, dI)) (ci := 1) (v := .int 1) (ty := .int) (C := RX1) (T := TX1) (N := 8) hx hb hts inB_1 tyX1 tyX1_ok nmX1 hown hK hP hD hS 5 rfl rfl 6 (by decide) (hts _ mw_1_53) (fun _ h9 => h9) rfl (by decide +kernel) rfl rfl (Nat.le_of_ble_eq_true rfl) dX1_add_157 (fun H locs hP hD hS => ?_)
  have hP : va_P (dC, dI) vwCl [(b0, .inl (kb0, 10, .inl (fun _ => 0))), (b4, .inl (kb4, 3, .inl (upd (upd (upd (fun _ => 0) 0 n1) 1 n2) 2 n3))), (b1, .inl (kb1, 10, .inl (slF 1 0 1))), (b2, .inl (kb2, 10, .inl (upd (slF (-5) 0 1) 0 (-6)))), (b3, .inl (kb3, 100, .inl (fun _ => 0))), (h0, .inr (1, [.ref b0, .ref b1, .ref b2, .ref b3, .ref b4, .ref r0, .int 1, w7])), (r0, .inr (4, [y0, .ref a1, .ref a2, .int 1])), (a1, .inl (ka1, 4, .inl (fun _ => 0))), (a2, .inl (ka2, 4, .inl (fun _ => 0)))] H := hP
  have hD : va_D A [(b0, .inl (kb0, 10, .inl (fun _ => 0))), (b4, .inl (kb4, 3, .inl (upd (upd (upd (fun _ => 0) 0 n1) 1 n2) 2 n3))), (b1, .inl (kb1, 10, .inl (slF 1 0 1))), (b2, .inl (kb2, 10, .inl (upd (slF (-5) 0 1) 0 (-6)))), (b3, .inl (kb3, 100, .inl (fun _ => 0))), (h0, .inr (1, [.ref b0, .ref b1, .ref b2, .ref b3, .ref b4, .ref r0, .int 1, w7])), (r0, .inr (4, [y0, .ref a1, .ref a2, .int 1])), (a1, .inl (ka1, 4, .inl (fun _ => 0))), (a2, .inl (ka2, 4, .inl (fun _ => 0)))] := hD
  refine lv_iload hx hb dX1_add_160 (lv_at hl 2 rfl) ?_
  exact W.iret (v := 0) hx hb hr (fun t ht hW => ⟨⟨0, (), rfl, rfl, trivial⟩, hS.F ht⟩) hS.2.2 dX1_add_162
