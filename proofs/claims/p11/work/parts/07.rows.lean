theorem mw_1_37 : Cond.laysFinal RX4 "AnswerLines$Rows" "cells" "[I" ∈ BG := mB (t1 (i := 37) (by decide +kernel)) (by decide +kernel)
theorem mw_1_39 : Cond.laysFinal RX4 "AnswerLines$Rows" "heads" "[I" ∈ BG := mB (t1 (i := 39) (by decide +kernel)) (by decide +kernel)
theorem mw_1_41 : Cond.laysFinal RX4 "AnswerLines$Rows" "lengths" "[I" ∈ BG := mB (t1 (i := 41) (by decide +kernel)) (by decide +kernel)
theorem mw_1_43 : Cond.lays RX4 "AnswerLines$Rows" "count" "I" ∈ BG := mB (t1 (i := 43) (by decide +kernel)) (by decide +kernel)
theorem inB_4 : ∀ w ∈ u_ws RX4 TX4 4, w ∈ BG := fun w hw => by
  obtain ⟨k, hk, rfl⟩ := List.mem_map.mp hw
  have hk := List.mem_range.mp hk
  rcases (by omega : k = 0 ∨ k = 1 ∨ k = 2 ∨ k = 3) with rfl | rfl | rfl | rfl
  · exact mw_1_37
  · exact mw_1_39
  · exact mw_1_41
  · exact mw_1_43
theorem mw_1_36 : Cond.fieldLink RX4 21 "AnswerLines$Rows" "count" "I" ∈ BG := mB (t1 (i := 36) (by decide +kernel)) (by decide +kernel)
theorem mw_1_34 : Cond.fieldLink RX4 15 "AnswerLines$Rows" "heads" "[I" ∈ BG := mB (t1 (i := 34) (by decide +kernel)) (by decide +kernel)
theorem mw_1_35 : Cond.fieldLink RX4 18 "AnswerLines$Rows" "lengths" "[I" ∈ BG := mB (t1 (i := 35) (by decide +kernel)) (by decide +kernel)
theorem mw_1_33 : Cond.fieldLink RX4 11 "AnswerLines$Rows" "cells" "[I" ∈ BG := mB (t1 (i := 33) (by decide +kernel)) (by decide +kernel)
theorem mw_2_12 : Cond.code yX4_head cX4_head 2 (some .int) ∈ BG := mB (t2 (i := 12) rfl) (by decide +kernel)
theorem mw_2_9 : Cond.methodLink RX4 25 yX4_head ∈ BG := mB (t2 (i := 9) (by decide +kernel)) (by decide +kernel)
theorem mw_2_11 : Cond.instanceMethod yX4_head ∈ BG := mB (t2 (i := 11) (by decide +kernel)) (by decide +kernel)
theorem mw_0_3 : Cond.selects RX4 yX4_head yX4_head ∈ BG := mB (t0 (i := 3) (by decide +kernel)) (by decide +kernel)
theorem mw_1_3 : Cond.initialized RX4 ∈ BG := mB (t1 (i := 3) (by decide +kernel)) (by decide +kernel)
theorem mw_2_8 : Cond.code yX4_tail cX4_tail 4 (some .int) ∈ BG := mB (t2 (i := 8) rfl) (by decide +kernel)
theorem mw_2_5 : Cond.methodLink RX4 29 yX4_tail ∈ BG := mB (t2 (i := 5) (by decide +kernel)) (by decide +kernel)
theorem mw_2_7 : Cond.instanceMethod yX4_tail ∈ BG := mB (t2 (i := 7) (by decide +kernel)) (by decide +kernel)
theorem mw_0_2 : Cond.selects RX4 yX4_tail yX4_tail ∈ BG := mB (t0 (i := 2) (by decide +kernel)) (by decide +kernel)
theorem dX4_clear_0 : decode cX4_clear 0 = .ok (.aload_n 0, 1) := by decide +kernel
theorem dX4_clear_1 : decode cX4_clear 1 = .ok (.iconst 0, 1) := by decide +kernel
theorem dX4_clear_2 : decode cX4_clear 2 = .ok (.putfield 21, 3) := by decide +kernel
theorem dX4_clear_5 : decode cX4_clear 5 = .ok (.return_, 1) := by decide +kernel
theorem dX4_begin_0 : decode cX4_begin 0 = .ok (.aload_n 0, 1) := by decide +kernel
theorem dX4_begin_1 : decode cX4_begin 1 = .ok (.getfield 21, 3) := by decide +kernel
theorem dX4_begin_4 : decode cX4_begin 4 = .ok (.iconst 4, 1) := by decide +kernel
theorem dX4_begin_5 : decode cX4_begin 5 = .ok (.if_icmp .lt 4, 3) := by decide +kernel
theorem dX4_begin_9 : decode cX4_begin 9 = .ok (.aload_n 0, 1) := by decide +kernel
theorem dX4_begin_10 : decode cX4_begin 10 = .ok (.getfield 15, 3) := by decide +kernel
theorem dX4_begin_13 : decode cX4_begin 13 = .ok (.aload_n 0, 1) := by decide +kernel
theorem dX4_begin_14 : decode cX4_begin 14 = .ok (.getfield 21, 3) := by decide +kernel
theorem dX4_begin_17 : decode cX4_begin 17 = .ok (.iconst 0, 1) := by decide +kernel
theorem dX4_begin_18 : decode cX4_begin 18 = .ok (.iastore, 1) := by decide +kernel
theorem dX4_begin_19 : decode cX4_begin 19 = .ok (.aload_n 0, 1) := by decide +kernel
theorem dX4_begin_20 : decode cX4_begin 20 = .ok (.getfield 18, 3) := by decide +kernel
theorem dX4_begin_23 : decode cX4_begin 23 = .ok (.aload_n 0, 1) := by decide +kernel
theorem dX4_begin_24 : decode cX4_begin 24 = .ok (.getfield 21, 3) := by decide +kernel
theorem dX4_begin_27 : decode cX4_begin 27 = .ok (.iconst 0, 1) := by decide +kernel
theorem dX4_begin_28 : decode cX4_begin 28 = .ok (.iastore, 1) := by decide +kernel
theorem dX4_begin_29 : decode cX4_begin 29 = .ok (.aload_n 0, 1) := by decide +kernel
theorem dX4_begin_30 : decode cX4_begin 30 = .ok (.dup, 1) := by decide +kernel
theorem dX4_begin_31 : decode cX4_begin 31 = .ok (.getfield 21, 3) := by decide +kernel
theorem dX4_begin_34 : decode cX4_begin 34 = .ok (.iconst 1, 1) := by decide +kernel
theorem dX4_begin_35 : decode cX4_begin 35 = .ok (.iadd, 1) := by decide +kernel
theorem dX4_begin_36 : decode cX4_begin 36 = .ok (.putfield 21, 3) := by decide +kernel
theorem dX4_begin_39 : decode cX4_begin 39 = .ok (.return_, 1) := by decide +kernel
theorem dX4_put_0 : decode cX4_put 0 = .ok (.aload_n 0, 1) := by decide +kernel
theorem dX4_put_1 : decode cX4_put 1 = .ok (.getfield 21, 3) := by decide +kernel
theorem dX4_put_4 : decode cX4_put 4 = .ok (.iconst 1, 1) := by decide +kernel
theorem dX4_put_5 : decode cX4_put 5 = .ok (.isub, 1) := by decide +kernel
theorem dX4_put_6 : decode cX4_put 6 = .ok (.istore_n 2, 1) := by decide +kernel
theorem dX4_put_7 : decode cX4_put 7 = .ok (.iload_n 2, 1) := by decide +kernel
theorem dX4_put_8 : decode cX4_put 8 = .ok (.ifCond .lt 14, 3) := by decide +kernel
theorem dX4_put_11 : decode cX4_put 11 = .ok (.aload_n 0, 1) := by decide +kernel
theorem dX4_put_12 : decode cX4_put 12 = .ok (.getfield 18, 3) := by decide +kernel
theorem dX4_put_15 : decode cX4_put 15 = .ok (.iload_n 2, 1) := by decide +kernel
theorem dX4_put_16 : decode cX4_put 16 = .ok (.iaload, 1) := by decide +kernel
theorem dX4_put_17 : decode cX4_put 17 = .ok (.bipush 10, 2) := by decide +kernel
theorem dX4_put_19 : decode cX4_put 19 = .ok (.if_icmp .lt 4, 3) := by decide +kernel
theorem dX4_put_23 : decode cX4_put 23 = .ok (.aload_n 0, 1) := by decide +kernel
theorem dX4_put_24 : decode cX4_put 24 = .ok (.getfield 11, 3) := by decide +kernel
theorem dX4_put_27 : decode cX4_put 27 = .ok (.iload_n 2, 1) := by decide +kernel
theorem dX4_put_28 : decode cX4_put 28 = .ok (.bipush 10, 2) := by decide +kernel
theorem dX4_put_30 : decode cX4_put 30 = .ok (.imul, 1) := by decide +kernel
theorem dX4_put_31 : decode cX4_put 31 = .ok (.aload_n 0, 1) := by decide +kernel
theorem dX4_put_32 : decode cX4_put 32 = .ok (.getfield 18, 3) := by decide +kernel
theorem dX4_put_35 : decode cX4_put 35 = .ok (.iload_n 2, 1) := by decide +kernel
theorem dX4_put_36 : decode cX4_put 36 = .ok (.iaload, 1) := by decide +kernel
theorem dX4_put_37 : decode cX4_put 37 = .ok (.iadd, 1) := by decide +kernel
theorem dX4_put_38 : decode cX4_put 38 = .ok (.iload_n 1, 1) := by decide +kernel
theorem dX4_put_39 : decode cX4_put 39 = .ok (.iastore, 1) := by decide +kernel
theorem dX4_put_40 : decode cX4_put 40 = .ok (.aload_n 0, 1) := by decide +kernel
theorem dX4_put_41 : decode cX4_put 41 = .ok (.getfield 18, 3) := by decide +kernel
theorem dX4_put_44 : decode cX4_put 44 = .ok (.iload_n 2, 1) := by decide +kernel
theorem dX4_put_45 : decode cX4_put 45 = .ok (.dup2, 1) := by decide +kernel
theorem dX4_put_46 : decode cX4_put 46 = .ok (.iaload, 1) := by decide +kernel
theorem dX4_put_47 : decode cX4_put 47 = .ok (.iconst 1, 1) := by decide +kernel
theorem dX4_put_48 : decode cX4_put 48 = .ok (.iadd, 1) := by decide +kernel
theorem dX4_put_49 : decode cX4_put 49 = .ok (.iastore, 1) := by decide +kernel
theorem dX4_put_50 : decode cX4_put 50 = .ok (.return_, 1) := by decide +kernel
theorem dX4_head_0 : decode cX4_head 0 = .ok (.aload_n 0, 1) := by decide +kernel
theorem dX4_head_1 : decode cX4_head 1 = .ok (.getfield 15, 3) := by decide +kernel
theorem dX4_head_4 : decode cX4_head 4 = .ok (.iload_n 1, 1) := by decide +kernel
theorem dX4_head_5 : decode cX4_head 5 = .ok (.iaload, 1) := by decide +kernel
theorem dX4_head_6 : decode cX4_head 6 = .ok (.aload_n 0, 1) := by decide +kernel
theorem dX4_head_7 : decode cX4_head 7 = .ok (.getfield 18, 3) := by decide +kernel
theorem dX4_head_10 : decode cX4_head 10 = .ok (.iload_n 1, 1) := by decide +kernel
theorem dX4_head_11 : decode cX4_head 11 = .ok (.iaload, 1) := by decide +kernel
theorem dX4_head_12 : decode cX4_head 12 = .ok (.if_icmp .ge 22, 3) := by decide +kernel
theorem dX4_head_34 : decode cX4_head 34 = .ok (.bipush (-6), 2) := by decide +kernel
theorem dX4_head_36 : decode cX4_head 36 = .ok (.ireturn, 1) := by decide +kernel
theorem dX4_head_15 : decode cX4_head 15 = .ok (.aload_n 0, 1) := by decide +kernel
theorem dX4_head_16 : decode cX4_head 16 = .ok (.getfield 11, 3) := by decide +kernel
theorem dX4_head_19 : decode cX4_head 19 = .ok (.iload_n 1, 1) := by decide +kernel
theorem dX4_head_20 : decode cX4_head 20 = .ok (.bipush 10, 2) := by decide +kernel
theorem dX4_head_22 : decode cX4_head 22 = .ok (.imul, 1) := by decide +kernel
theorem dX4_head_23 : decode cX4_head 23 = .ok (.aload_n 0, 1) := by decide +kernel
theorem dX4_head_24 : decode cX4_head 24 = .ok (.getfield 15, 3) := by decide +kernel
theorem dX4_head_27 : decode cX4_head 27 = .ok (.iload_n 1, 1) := by decide +kernel
theorem dX4_head_28 : decode cX4_head 28 = .ok (.iaload, 1) := by decide +kernel
theorem dX4_head_29 : decode cX4_head 29 = .ok (.iadd, 1) := by decide +kernel
theorem dX4_head_30 : decode cX4_head 30 = .ok (.iaload, 1) := by decide +kernel
theorem dX4_head_31 : decode cX4_head 31 = .ok (.goto 5, 3) := by decide +kernel
theorem dX4_tail_0 : decode cX4_tail 0 = .ok (.iconst 0, 1) := by decide +kernel
theorem dX4_tail_1 : decode cX4_tail 1 = .ok (.istore_n 2, 1) := by decide +kernel
theorem dX4_tail_2 : decode cX4_tail 2 = .ok (.aload_n 0, 1) := by decide +kernel
theorem dX4_tail_3 : decode cX4_tail 3 = .ok (.getfield 15, 3) := by decide +kernel
theorem dX4_tail_6 : decode cX4_tail 6 = .ok (.iload_n 1, 1) := by decide +kernel
theorem dX4_tail_7 : decode cX4_tail 7 = .ok (.iaload, 1) := by decide +kernel
theorem dX4_tail_8 : decode cX4_tail 8 = .ok (.iconst 1, 1) := by decide +kernel
theorem dX4_tail_9 : decode cX4_tail 9 = .ok (.iadd, 1) := by decide +kernel
theorem dX4_tail_10 : decode cX4_tail 10 = .ok (.istore_n 3, 1) := by decide +kernel
theorem dX4_tail_11 : decode cX4_tail 11 = .ok (.iload_n 3, 1) := by decide +kernel
theorem dX4_tail_12 : decode cX4_tail 12 = .ok (.aload_n 0, 1) := by decide +kernel
theorem dX4_tail_13 : decode cX4_tail 13 = .ok (.getfield 18, 3) := by decide +kernel
theorem dX4_tail_16 : decode cX4_tail 16 = .ok (.iload_n 1, 1) := by decide +kernel
theorem dX4_tail_17 : decode cX4_tail 17 = .ok (.iaload, 1) := by decide +kernel
theorem dX4_tail_18 : decode cX4_tail 18 = .ok (.if_icmp .ge 25, 3) := by decide +kernel
theorem dX4_tail_43 : decode cX4_tail 43 = .ok (.iload_n 2, 1) := by decide +kernel
theorem dX4_tail_44 : decode cX4_tail 44 = .ok (.ireturn, 1) := by decide +kernel
theorem dX4_tail_21 : decode cX4_tail 21 = .ok (.iload_n 2, 1) := by decide +kernel
theorem dX4_tail_22 : decode cX4_tail 22 = .ok (.iconst 1, 1) := by decide +kernel
theorem dX4_tail_23 : decode cX4_tail 23 = .ok (.aload_n 0, 1) := by decide +kernel
theorem dX4_tail_24 : decode cX4_tail 24 = .ok (.getfield 11, 3) := by decide +kernel
theorem dX4_tail_27 : decode cX4_tail 27 = .ok (.iload_n 1, 1) := by decide +kernel
theorem dX4_tail_28 : decode cX4_tail 28 = .ok (.bipush 10, 2) := by decide +kernel
theorem dX4_tail_30 : decode cX4_tail 30 = .ok (.imul, 1) := by decide +kernel
theorem dX4_tail_31 : decode cX4_tail 31 = .ok (.iload_n 3, 1) := by decide +kernel
theorem dX4_tail_32 : decode cX4_tail 32 = .ok (.iadd, 1) := by decide +kernel
theorem dX4_tail_33 : decode cX4_tail 33 = .ok (.iaload, 1) := by decide +kernel
theorem dX4_tail_34 : decode cX4_tail 34 = .ok (.ishl, 1) := by decide +kernel
theorem dX4_tail_35 : decode cX4_tail 35 = .ok (.ior, 1) := by decide +kernel
theorem dX4_tail_36 : decode cX4_tail 36 = .ok (.istore_n 2, 1) := by decide +kernel
theorem dX4_tail_37 : decode cX4_tail 37 = .ok (.iinc 3 1, 3) := by decide +kernel
theorem dX4_tail_40 : decode cX4_tail 40 = .ok (.goto (-29), 3) := by decide +kernel
theorem dX4_beginnings_0 : decode cX4_beginnings 0 = .ok (.iconst 0, 1) := by decide +kernel
theorem dX4_beginnings_1 : decode cX4_beginnings 1 = .ok (.istore_n 1, 1) := by decide +kernel
theorem dX4_beginnings_2 : decode cX4_beginnings 2 = .ok (.iconst 0, 1) := by decide +kernel
theorem dX4_beginnings_3 : decode cX4_beginnings 3 = .ok (.istore_n 2, 1) := by decide +kernel
theorem dX4_beginnings_4 : decode cX4_beginnings 4 = .ok (.iload_n 2, 1) := by decide +kernel
theorem dX4_beginnings_5 : decode cX4_beginnings 5 = .ok (.aload_n 0, 1) := by decide +kernel
theorem dX4_beginnings_6 : decode cX4_beginnings 6 = .ok (.getfield 21, 3) := by decide +kernel
theorem dX4_beginnings_9 : decode cX4_beginnings 9 = .ok (.if_icmp .ge 27, 3) := by decide +kernel
theorem dX4_beginnings_36 : decode cX4_beginnings 36 = .ok (.iload_n 1, 1) := by decide +kernel
theorem dX4_beginnings_37 : decode cX4_beginnings 37 = .ok (.ireturn, 1) := by decide +kernel
theorem dX4_beginnings_12 : decode cX4_beginnings 12 = .ok (.aload_n 0, 1) := by decide +kernel
theorem dX4_beginnings_13 : decode cX4_beginnings 13 = .ok (.iload_n 2, 1) := by decide +kernel
theorem dX4_beginnings_14 : decode cX4_beginnings 14 = .ok (.invokevirtual 25, 3) := by decide +kernel
theorem dX4_beginnings_17 : decode cX4_beginnings 17 = .ok (.istore_n 3, 1) := by decide +kernel
theorem dX4_beginnings_18 : decode cX4_beginnings 18 = .ok (.iload_n 3, 1) := by decide +kernel
theorem dX4_beginnings_19 : decode cX4_beginnings 19 = .ok (.bipush (-6), 2) := by decide +kernel
theorem dX4_beginnings_21 : decode cX4_beginnings 21 = .ok (.if_icmp .eq 9, 3) := by decide +kernel
theorem dX4_beginnings_30 : decode cX4_beginnings 30 = .ok (.iinc 2 1, 3) := by decide +kernel
theorem dX4_beginnings_33 : decode cX4_beginnings 33 = .ok (.goto (-29), 3) := by decide +kernel
theorem dX4_beginnings_24 : decode cX4_beginnings 24 = .ok (.iload_n 1, 1) := by decide +kernel
theorem dX4_beginnings_25 : decode cX4_beginnings 25 = .ok (.iconst 1, 1) := by decide +kernel
theorem dX4_beginnings_26 : decode cX4_beginnings 26 = .ok (.iload_n 3, 1) := by decide +kernel
theorem dX4_beginnings_27 : decode cX4_beginnings 27 = .ok (.ishl, 1) := by decide +kernel
theorem dX4_beginnings_28 : decode cX4_beginnings 28 = .ok (.ior, 1) := by decide +kernel
theorem dX4_beginnings_29 : decode cX4_beginnings 29 = .ok (.istore_n 1, 1) := by decide +kernel
theorem dX4_firstFree_0 : decode cX4_firstFree 0 = .ok (.iconst 0, 1) := by decide +kernel
theorem dX4_firstFree_1 : decode cX4_firstFree 1 = .ok (.istore_n 1, 1) := by decide +kernel
theorem dX4_firstFree_2 : decode cX4_firstFree 2 = .ok (.iconst 0, 1) := by decide +kernel
theorem dX4_firstFree_3 : decode cX4_firstFree 3 = .ok (.istore_n 2, 1) := by decide +kernel
theorem dX4_firstFree_4 : decode cX4_firstFree 4 = .ok (.iload_n 2, 1) := by decide +kernel
theorem dX4_firstFree_5 : decode cX4_firstFree 5 = .ok (.aload_n 0, 1) := by decide +kernel
theorem dX4_firstFree_6 : decode cX4_firstFree 6 = .ok (.getfield 21, 3) := by decide +kernel
theorem dX4_firstFree_9 : decode cX4_firstFree 9 = .ok (.if_icmp .ge 17, 3) := by decide +kernel
theorem dX4_firstFree_26 : decode cX4_firstFree 26 = .ok (.iconst 0, 1) := by decide +kernel
theorem dX4_firstFree_27 : decode cX4_firstFree 27 = .ok (.istore_n 2, 1) := by decide +kernel
theorem dX4_firstFree_28 : decode cX4_firstFree 28 = .ok (.iload_n 2, 1) := by decide +kernel
theorem dX4_firstFree_29 : decode cX4_firstFree 29 = .ok (.aload_n 0, 1) := by decide +kernel
theorem dX4_firstFree_30 : decode cX4_firstFree 30 = .ok (.getfield 21, 3) := by decide +kernel
theorem dX4_firstFree_33 : decode cX4_firstFree 33 = .ok (.if_icmp .ge 31, 3) := by decide +kernel
theorem dX4_firstFree_64 : decode cX4_firstFree 64 = .ok (.bipush (-6), 2) := by decide +kernel
theorem dX4_firstFree_66 : decode cX4_firstFree 66 = .ok (.ireturn, 1) := by decide +kernel
theorem dX4_firstFree_36 : decode cX4_firstFree 36 = .ok (.aload_n 0, 1) := by decide +kernel
theorem dX4_firstFree_37 : decode cX4_firstFree 37 = .ok (.iload_n 2, 1) := by decide +kernel
theorem dX4_firstFree_38 : decode cX4_firstFree 38 = .ok (.invokevirtual 25, 3) := by decide +kernel
theorem dX4_firstFree_41 : decode cX4_firstFree 41 = .ok (.istore_n 3, 1) := by decide +kernel
theorem dX4_firstFree_42 : decode cX4_firstFree 42 = .ok (.iload_n 3, 1) := by decide +kernel
theorem dX4_firstFree_43 : decode cX4_firstFree 43 = .ok (.bipush (-6), 2) := by decide +kernel
theorem dX4_firstFree_45 : decode cX4_firstFree 45 = .ok (.if_icmp .eq 13, 3) := by decide +kernel
theorem dX4_firstFree_58 : decode cX4_firstFree 58 = .ok (.iinc 2 1, 3) := by decide +kernel
theorem dX4_firstFree_61 : decode cX4_firstFree 61 = .ok (.goto (-33), 3) := by decide +kernel
theorem dX4_firstFree_48 : decode cX4_firstFree 48 = .ok (.iload_n 3, 1) := by decide +kernel
theorem dX4_firstFree_49 : decode cX4_firstFree 49 = .ok (.iload_n 1, 1) := by decide +kernel
theorem dX4_firstFree_50 : decode cX4_firstFree 50 = .ok (.invokestatic 32, 3) := by decide +kernel
theorem dX4_firstFree_53 : decode cX4_firstFree 53 = .ok (.ifCond .ne 5, 3) := by decide +kernel
theorem dX4_firstFree_56 : decode cX4_firstFree 56 = .ok (.iload_n 3, 1) := by decide +kernel
theorem dX4_firstFree_57 : decode cX4_firstFree 57 = .ok (.ireturn, 1) := by decide +kernel
theorem dX4_firstFree_12 : decode cX4_firstFree 12 = .ok (.iload_n 1, 1) := by decide +kernel
theorem dX4_firstFree_13 : decode cX4_firstFree 13 = .ok (.aload_n 0, 1) := by decide +kernel
theorem dX4_firstFree_14 : decode cX4_firstFree 14 = .ok (.iload_n 2, 1) := by decide +kernel
theorem dX4_firstFree_15 : decode cX4_firstFree 15 = .ok (.invokevirtual 29, 3) := by decide +kernel
theorem dX4_firstFree_18 : decode cX4_firstFree 18 = .ok (.ior, 1) := by decide +kernel
theorem dX4_firstFree_19 : decode cX4_firstFree 19 = .ok (.istore_n 1, 1) := by decide +kernel
theorem dX4_firstFree_20 : decode cX4_firstFree 20 = .ok (.iinc 2 1, 3) := by decide +kernel
theorem dX4_firstFree_23 : decode cX4_firstFree 23 = .ok (.goto (-19), 3) := by decide +kernel
theorem dX4_take_0 : decode cX4_take 0 = .ok (.iconst 0, 1) := by decide +kernel
theorem dX4_take_1 : decode cX4_take 1 = .ok (.istore_n 2, 1) := by decide +kernel
theorem dX4_take_2 : decode cX4_take 2 = .ok (.iload_n 2, 1) := by decide +kernel
theorem dX4_take_3 : decode cX4_take 3 = .ok (.aload_n 0, 1) := by decide +kernel
theorem dX4_take_4 : decode cX4_take 4 = .ok (.getfield 21, 3) := by decide +kernel
theorem dX4_take_7 : decode cX4_take 7 = .ok (.if_icmp .ge 28, 3) := by decide +kernel
theorem dX4_take_35 : decode cX4_take 35 = .ok (.return_, 1) := by decide +kernel
theorem dX4_take_10 : decode cX4_take 10 = .ok (.aload_n 0, 1) := by decide +kernel
theorem dX4_take_11 : decode cX4_take 11 = .ok (.iload_n 2, 1) := by decide +kernel
theorem dX4_take_12 : decode cX4_take 12 = .ok (.invokevirtual 25, 3) := by decide +kernel
theorem dX4_take_15 : decode cX4_take 15 = .ok (.iload_n 1, 1) := by decide +kernel
theorem dX4_take_16 : decode cX4_take 16 = .ok (.if_icmp .ne 13, 3) := by decide +kernel
theorem dX4_take_29 : decode cX4_take 29 = .ok (.iinc 2 1, 3) := by decide +kernel
theorem dX4_take_32 : decode cX4_take 32 = .ok (.goto (-30), 3) := by decide +kernel
theorem dX4_take_19 : decode cX4_take 19 = .ok (.aload_n 0, 1) := by decide +kernel
theorem dX4_take_20 : decode cX4_take 20 = .ok (.getfield 15, 3) := by decide +kernel
theorem dX4_take_23 : decode cX4_take 23 = .ok (.iload_n 2, 1) := by decide +kernel
theorem dX4_take_24 : decode cX4_take 24 = .ok (.dup2, 1) := by decide +kernel
theorem dX4_take_25 : decode cX4_take 25 = .ok (.iaload, 1) := by decide +kernel
theorem dX4_take_26 : decode cX4_take 26 = .ok (.iconst 1, 1) := by decide +kernel
theorem dX4_take_27 : decode cX4_take 27 = .ok (.iadd, 1) := by decide +kernel
theorem dX4_take_28 : decode cX4_take 28 = .ok (.iastore, 1) := by decide +kernel
set_option maxHeartbeats 4000000 in
set_option maxRecDepth 100000 in
theorem c_rClear (l : Launch) (dC : Nat → ClassId) (dI : Nat → Nat → Nat) (sz : Nat) (h0 : Nat) (y0 : Value) (y1 : Value) (y2 : Value) (rc : Int32)  : Met l yX4_clear (wq yX4_clear cX4_clear 1 none) ({ frames := 0, cells := 0, slots := 0, locals := 0 }) (va_Pc [.ref h0] (pcW dC dI [] [(h0, .inr (4, [y0, y1, y2, .int rc]))] sz)) (va_Qv (fun _ : Unit => True) (fun _ t => va_P (dC, dI) vwCl [(h0, .inr (4, [y0, y1, y2, .int 0]))] t.heap ∧ va_K (dC, dI) vwCl [] t ∧ va_D (va_A [(h0, .inr (4, [y0, y1, y2, .int rc]))] sz) [(h0, .inr (4, [y0, y1, y2, .int 0]))]) (va_A [(h0, .inr (4, [y0, y1, y2, .int rc]))] sz)) 0 0 (va_A [(h0, .inr (4, [y0, y1, y2, .int rc]))] sz) := by
  refine Met.ofW (cc := cX4_clear) (maxL := 1) (ret := none) (by decide) rfl ?_
  intro p e s m args below meth c s₁ B hml hv
  obtain ⟨rfl, hsz, hN, hP, hK, hD0⟩ := hv
  have hx := B.exec
  have hb := B.bytes
  have hr := B.returns
  have hts0 := atoms_spec (ws := (wq yX4_clear cX4_clear 1 none)) B.pre
  have hts : ∀ w ∈ BG, w.before _ s = true := fun w h => hts0 w (List.mem_cons_of_mem _ h)
  have hown : s.vm.findClass RX4 = some m.cls := findClass_of_methodNamed B.named
  have hlocks := B.notSynchronized
  subst hsz
  have hD := hD0.self (sz := s.heap.size)
  generalize hAe : va_A [(h0, .inr (4, [y0, y1, y2, .int rc]))] s.heap.size = A at hD ⊢
  have hA : ∀ q : Nat, s.heap.size ≤ q → A q := fun q h => by rw [← hAe]; exact Or.inr h
  have hS : va_S A s.heap s.heap [] := va_S.rf
  clear hAe hD0
  have hP : va_P (dC, dI) vwCl [(h0, .inr (4, [y0, y1, y2, .int rc]))] s.heap := hP
  have hl := lv_entry ([.ref h0]) (n := 1) (Nat.le_of_ble_eq_true rfl)
  rw [lg_entry_eq]
  generalize (lg_sl ([.ref h0]) ++ List.replicate (1 - (lg_sl ([.ref h0])).length) Slot.unset).toArray = ls at hl ⊢
  have hl : lv_has ls 1 [(0, .ref h0)] := hl
  refine lv_aload_n hx hb dX4_clear_0 rfl (lv_at hl 0 rfl) ?_
  refine lv_iconst (v := 0) hx hb dX4_clear_1 (by decide) ?_
  refine va_put (D := (dC, dI)) (ci := 4) (v := .int 0) (ty := .int) (C := RX4) (T := TX4) (N := 4) hx hb hts inB_4 tyX4 tyX4_ok nmX4 hown hK hP hD hS 0 rfl rfl 3 (by decide) (hts _ mw_1_36) (fun _ h9 => h9) rfl (by decide +kernel) rfl rfl (Nat.le_of_ble_eq_true rfl) dX4_clear_2 (fun H locs hP hD hS => ?_)
  have hP : va_P (dC, dI) vwCl [(h0, .inr (4, [y0, y1, y2, .int 0]))] H := hP
  have hD : va_D A [(h0, .inr (4, [y0, y1, y2, .int 0]))] := hD
  have hP9 := hP.sub (ws' := [(h0, .inr (4, [y0, y1, y2, .int 0]))]) [0] rfl
  have hD9 := hD.sub (ws' := [(h0, .inr (4, [y0, y1, y2, .int 0]))]) [0] (by decide) rfl
  have hK9 := hK.sub (tys' := []) [] rfl
  exact W.vret hx hb hr (fun t ht hW => ⟨⟨(), rfl, trivial, by rw [ht]; exact hP9, va_K.moved hW.alike hK9, hD9⟩, hS.F ht⟩) hS.2.2 dX4_clear_5
set_option maxHeartbeats 4000000 in
set_option maxRecDepth 100000 in
theorem c_rBegin (l : Launch) (dC : Nat → ClassId) (dI : Nat → Nat → Nat) (sz : Nat) (h0 : Nat) (g0 : Nat) (g1 : Nat) (g2 : Nat) (rc : Nat) (kg0 : ClassId) (fc : Nat → Int32) (kg1 : ClassId) (fh : Nat → Int32) (kg2 : ClassId) (fl : Nat → Int32) (hr4 : rc < 4) (hfh : BdOk 4 10 fh) (hfl : BdOk 4 10 fl) : Met l yX4_begin (wq yX4_begin cX4_begin 1 none) ({ frames := 0, cells := 0, slots := 0, locals := 0 }) (va_Pc [.ref h0] (pcW dC dI [(kg0, .int), (kg1, .int), (kg2, .int)] [(h0, .inr (4, [.ref g0, .ref g1, .ref g2, .int (nI rc)])), (g0, .inl (kg0, 40, .inl fc)), (g1, .inl (kg1, 4, .inl fh)), (g2, .inl (kg2, 4, .inl fl))] sz)) (va_Qv (fun _ : Unit => True) (fun _ t => ∃ (fh2 : Nat → Int32) (fl2 : Nat → Int32), (BdOk 4 10 fh2) ∧ (BdOk 4 10 fl2) ∧ (fh2 = upd fh rc 0) ∧ (fl2 = upd fl rc 0) ∧ va_P (dC, dI) vwCl [(h0, .inr (4, [.ref g0, .ref g1, .ref g2, .int (nI (rc + 1))])), (g0, .inl (kg0, 40, .inl fc)), (g1, .inl (kg1, 4, .inl fh2)), (g2, .inl (kg2, 4, .inl fl2))] t.heap ∧ va_K (dC, dI) vwCl [(kg0, .int), (kg1, .int), (kg2, .int)] t ∧ va_D (va_A [(h0, .inr (4, [.ref g0, .ref g1, .ref g2, .int (nI rc)])), (g0, .inl (kg0, 40, .inl fc)), (g1, .inl (kg1, 4, .inl fh)), (g2, .inl (kg2, 4, .inl fl))] sz) [(h0, .inr (4, [.ref g0, .ref g1, .ref g2, .int (nI (rc + 1))])), (g0, .inl (kg0, 40, .inl fc)), (g1, .inl (kg1, 4, .inl fh2)), (g2, .inl (kg2, 4, .inl fl2))]) (va_A [(h0, .inr (4, [.ref g0, .ref g1, .ref g2, .int (nI rc)])), (g0, .inl (kg0, 40, .inl fc)), (g1, .inl (kg1, 4, .inl fh)), (g2, .inl (kg2, 4, .inl fl))] sz)) 0 0 (va_A [(h0, .inr (4, [.ref g0, .ref g1, .ref g2, .int (nI rc)])), (g0, .inl (kg0, 40, .inl fc)), (g1, .inl (kg1, 4, .inl fh)), (g2, .inl (kg2, 4, .inl fl))] sz) := by
  refine Met.ofW (cc := cX4_begin) (maxL := 1) (ret := none) (by decide) rfl ?_
  intro p e s m args below meth c s₁ B hml hv
  obtain ⟨rfl, hsz, hN, hP, hK, hD0⟩ := hv
  have hx := B.exec
  have hb := B.bytes
  have hr := B.returns
  have hts0 := atoms_spec (ws := (wq yX4_begin cX4_begin 1 none)) B.pre
  have hts : ∀ w ∈ BG, w.before _ s = true := fun w h => hts0 w (List.mem_cons_of_mem _ h)
  have hown : s.vm.findClass RX4 = some m.cls := findClass_of_methodNamed B.named
  have hlocks := B.notSynchronized
  subst hsz
  have hD := hD0.self (sz := s.heap.size)
  generalize hAe : va_A [(h0, .inr (4, [.ref g0, .ref g1, .ref g2, .int (nI rc)])), (g0, .inl (kg0, 40, .inl fc)), (g1, .inl (kg1, 4, .inl fh)), (g2, .inl (kg2, 4, .inl fl))] s.heap.size = A at hD ⊢
  have hA : ∀ q : Nat, s.heap.size ≤ q → A q := fun q h => by rw [← hAe]; exact Or.inr h
  have hS : va_S A s.heap s.heap [] := va_S.rf
  clear hAe hD0
  have hP : va_P (dC, dI) vwCl [(h0, .inr (4, [.ref g0, .ref g1, .ref g2, .int (nI rc)])), (g0, .inl (kg0, 40, .inl fc)), (g1, .inl (kg1, 4, .inl fh)), (g2, .inl (kg2, 4, .inl fl))] s.heap := hP
  have hl := lv_entry ([.ref h0]) (n := 1) (Nat.le_of_ble_eq_true rfl)
  rw [lg_entry_eq]
  generalize (lg_sl ([.ref h0]) ++ List.replicate (1 - (lg_sl ([.ref h0])).length) Slot.unset).toArray = ls at hl ⊢
  have hl : lv_has ls 1 [(0, .ref h0)] := hl
  refine lv_aload_n hx hb dX4_begin_0 rfl (lv_at hl 0 rfl) ?_
  refine va_get (D := (dC, dI)) (ci := 4) (v := .int (nI rc)) (C := RX4) (T := TX4) (N := 4) hx hb hts inB_4 hown hK hP 0 rfl rfl 3 (by decide) (hts _ mw_1_36) (fun _ h9 => h9) rfl dX4_begin_1 ?_
  refine lv_iconst (v := 4) hx hb dX4_begin_4 (by decide) ?_
  refine lv_icmp_lt (tgt := 9) hx hb dX4_begin_5 (by decide) (fun c_1 => ?_) (fun h => absurd (gn_lt (X := ((rc : Nat) : Int)) (C := 4) (nI_toInt (by omega)) (by decide) h) (by omega))
  have b_2 := gx_lt (X := ((rc : Nat) : Int)) (C := 4) (nI_toInt (by omega)) (by decide) c_1
  refine lv_aload_n hx hb dX4_begin_9 rfl (lv_at hl 0 rfl) ?_
  refine va_get (D := (dC, dI)) (ci := 4) (v := .ref g1) (C := RX4) (T := TX4) (N := 4) hx hb hts inB_4 hown hK hP 0 rfl rfl 1 (by decide) (hts _ mw_1_34) (fun _ h9 => h9) rfl dX4_begin_10 ?_
  refine lv_aload_n hx hb dX4_begin_13 rfl (lv_at hl 0 rfl) ?_
  refine va_get (D := (dC, dI)) (ci := 4) (v := .int (nI rc)) (C := RX4) (T := TX4) (N := 4) hx hb hts inB_4 hown hK hP 0 rfl rfl 3 (by decide) (hts _ mw_1_36) (fun _ h9 => h9) rfl dX4_begin_14 ?_
  refine lv_iconst (v := 0) hx hb dX4_begin_17 (by decide) ?_
  refine va_iast hx hb hK hP hD hS 2 1 rfl rfl (show vp_in (nI rc) 4 from vp_in_nI (by omega) (by omega)) dX4_begin_18 (fun H locs hP hD hS => ?_)
  obtain ⟨f_3, ef_3⟩ : ∃ g : Nat → Int32, g = upd fh (Int32.toNatClampNeg (nI rc)) 0 := ⟨_, rfl⟩
  rw [← ef_3] at hP hD
  have ef_3 : f_3 = upd fh rc 0 := by rw [ef_3, nI_clamp (by omega)]
  have pf_3 : BdOk 4 10 f_3 := by rw [ef_3]; exact bd_upd (z := 0) hfh (by omega)
  have hP : va_P (dC, dI) vwCl [(h0, .inr (4, [.ref g0, .ref g1, .ref g2, .int (nI rc)])), (g0, .inl (kg0, 40, .inl fc)), (g1, .inl (kg1, 4, .inl f_3)), (g2, .inl (kg2, 4, .inl fl))] H := hP
  have hD : va_D A [(h0, .inr (4, [.ref g0, .ref g1, .ref g2, .int (nI rc)])), (g0, .inl (kg0, 40, .inl fc)), (g1, .inl (kg1, 4, .inl f_3)), (g2, .inl (kg2, 4, .inl fl))] := hD
  refine lv_aload_n hx hb dX4_begin_19 rfl (lv_at hl 0 rfl) ?_
  refine va_get (D := (dC, dI)) (ci := 4) (v := .ref g2) (C := RX4) (T := TX4) (N := 4) hx hb hts inB_4 hown hK hP 0 rfl rfl 2 (by decide) (hts _ mw_1_35) (fun _ h9 => h9) rfl dX4_begin_20 ?_
  refine lv_aload_n hx hb dX4_begin_23 rfl (lv_at hl 0 rfl) ?_
  refine va_get (D := (dC, dI)) (ci := 4) (v := .int (nI rc)) (C := RX4) (T := TX4) (N := 4) hx hb hts inB_4 hown hK hP 0 rfl rfl 3 (by decide) (hts _ mw_1_36) (fun _ h9 => h9) rfl dX4_begin_24 ?_
  refine lv_iconst (v := 0) hx hb dX4_begin_27 (by decide) ?_
  refine va_iast hx hb hK hP hD hS 3 2 rfl rfl (show vp_in (nI rc) 4 from vp_in_nI (by omega) (by omega)) dX4_begin_28 (fun H locs hP hD hS => ?_)
  obtain ⟨f_4, ef_4⟩ : ∃ g : Nat → Int32, g = upd fl (Int32.toNatClampNeg (nI rc)) 0 := ⟨_, rfl⟩
  rw [← ef_4] at hP hD
  have ef_4 : f_4 = upd fl rc 0 := by rw [ef_4, nI_clamp (by omega)]
  have pf_4 : BdOk 4 10 f_4 := by rw [ef_4]; exact bd_upd (z := 0) hfl (by omega)
  have hP : va_P (dC, dI) vwCl [(h0, .inr (4, [.ref g0, .ref g1, .ref g2, .int (nI rc)])), (g0, .inl (kg0, 40, .inl fc)), (g1, .inl (kg1, 4, .inl f_3)), (g2, .inl (kg2, 4, .inl f_4))] H := hP
  have hD : va_D A [(h0, .inr (4, [.ref g0, .ref g1, .ref g2, .int (nI rc)])), (g0, .inl (kg0, 40, .inl fc)), (g1, .inl (kg1, 4, .inl f_3)), (g2, .inl (kg2, 4, .inl f_4))] := hD
  refine lv_aload_n hx hb dX4_begin_29 rfl (lv_at hl 0 rfl) ?_
  refine lv_dup hx hb dX4_begin_30 rfl ?_
  refine va_get (D := (dC, dI)) (ci := 4) (v := .int (nI rc)) (C := RX4) (T := TX4) (N := 4) hx hb hts inB_4 hown hK hP 0 rfl rfl 3 (by decide) (hts _ mw_1_36) (fun _ h9 => h9) rfl dX4_begin_31 ?_
  refine lv_iconst (v := 1) hx hb dX4_begin_34 (by decide) ?_
  refine lv_iadd hx hb dX4_begin_35 ?_
  refine hx_top (y := (nI (rc + 1))) (nI_add rc 1) ?_
  refine va_put (D := (dC, dI)) (ci := 4) (v := .int (nI (rc + 1))) (ty := .int) (C := RX4) (T := TX4) (N := 4) hx hb hts inB_4 tyX4 tyX4_ok nmX4 hown hK hP hD hS 0 rfl rfl 3 (by decide) (hts _ mw_1_36) (fun _ h9 => h9) rfl (by decide +kernel) rfl rfl (Nat.le_of_ble_eq_true rfl) dX4_begin_36 (fun H locs hP hD hS => ?_)
  have hP : va_P (dC, dI) vwCl [(h0, .inr (4, [.ref g0, .ref g1, .ref g2, .int (nI (rc + 1))])), (g0, .inl (kg0, 40, .inl fc)), (g1, .inl (kg1, 4, .inl f_3)), (g2, .inl (kg2, 4, .inl f_4))] H := hP
  have hD : va_D A [(h0, .inr (4, [.ref g0, .ref g1, .ref g2, .int (nI (rc + 1))])), (g0, .inl (kg0, 40, .inl fc)), (g1, .inl (kg1, 4, .inl f_3)), (g2, .inl (kg2, 4, .inl f_4))] := hD
  have hP9 := hP.sub (ws' := [(h0, .inr (4, [.ref g0, .ref g1, .ref g2, .int (nI (rc + 1))])), (g0, .inl (kg0, 40, .inl fc)), (g1, .inl (kg1, 4, .inl f_3)), (g2, .inl (kg2, 4, .inl f_4))]) [0, 1, 2, 3] rfl
  have hD9 := hD.sub (ws' := [(h0, .inr (4, [.ref g0, .ref g1, .ref g2, .int (nI (rc + 1))])), (g0, .inl (kg0, 40, .inl fc)), (g1, .inl (kg1, 4, .inl f_3)), (g2, .inl (kg2, 4, .inl f_4))]) [0, 1, 2, 3] (by decide) rfl
  have hK9 := hK.sub (tys' := [(kg0, .int), (kg1, .int), (kg2, .int)]) [0, 1, 2] rfl
  exact W.vret hx hb hr (fun t ht hW => ⟨⟨(), rfl, trivial, f_3, f_4, pf_3, pf_4, ef_3, ef_4, by rw [ht]; exact hP9, va_K.moved hW.alike hK9, hD9⟩, hS.F ht⟩) hS.2.2 dX4_begin_39
set_option maxHeartbeats 4000000 in
set_option maxRecDepth 100000 in
theorem c_rPut (l : Launch) (dC : Nat → ClassId) (dI : Nat → Nat → Nat) (sz : Nat) (h0 : Nat) (g0 : Nat) (g1 : Nat) (g2 : Nat) (rc : Nat) (kg0 : ClassId) (fc : Nat → Int32) (kg1 : ClassId) (fh : Nat → Int32) (kg2 : ClassId) (fl : Nat → Int32) (n : Int32) (hrc : rc ≤ 4) (hfl : BdOk 4 10 fl) (hr1 : 1 ≤ rc) (hz9 : (fl (rc - 1)).toNatClampNeg < 10) : Met l yX4_put (wq yX4_put cX4_put 3 none) ({ frames := 0, cells := 0, slots := 0, locals := 0 }) (va_Pc [.ref h0, .int n] (pcW dC dI [(kg0, .int), (kg1, .int), (kg2, .int)] [(h0, .inr (4, [.ref g0, .ref g1, .ref g2, .int (nI rc)])), (g0, .inl (kg0, 40, .inl fc)), (g1, .inl (kg1, 4, .inl fh)), (g2, .inl (kg2, 4, .inl fl))] sz)) (va_Qv (fun _ : Unit => True) (fun _ t => ∃ (fc2 : Nat → Int32) (fl2 : Nat → Int32), (BdOk 4 10 fl2) ∧ (fc2 = upd fc (10 * (rc - 1) + (fl (rc - 1)).toNatClampNeg) n) ∧ (fl2 = upd fl (rc - 1) (nI ((fl (rc - 1)).toNatClampNeg + 1))) ∧ va_P (dC, dI) vwCl [(h0, .inr (4, [.ref g0, .ref g1, .ref g2, .int (nI rc)])), (g0, .inl (kg0, 40, .inl fc2)), (g1, .inl (kg1, 4, .inl fh)), (g2, .inl (kg2, 4, .inl fl2))] t.heap ∧ va_K (dC, dI) vwCl [(kg0, .int), (kg1, .int), (kg2, .int)] t ∧ va_D (va_A [(h0, .inr (4, [.ref g0, .ref g1, .ref g2, .int (nI rc)])), (g0, .inl (kg0, 40, .inl fc)), (g1, .inl (kg1, 4, .inl fh)), (g2, .inl (kg2, 4, .inl fl))] sz) [(h0, .inr (4, [.ref g0, .ref g1, .ref g2, .int (nI rc)])), (g0, .inl (kg0, 40, .inl fc2)), (g1, .inl (kg1, 4, .inl fh)), (g2, .inl (kg2, 4, .inl fl2))]) (va_A [(h0, .inr (4, [.ref g0, .ref g1, .ref g2, .int (nI rc)])), (g0, .inl (kg0, 40, .inl fc)), (g1, .inl (kg1, 4, .inl fh)), (g2, .inl (kg2, 4, .inl fl))] sz)) 0 0 (va_A [(h0, .inr (4, [.ref g0, .ref g1, .ref g2, .int (nI rc)])), (g0, .inl (kg0, 40, .inl fc)), (g1, .inl (kg1, 4, .inl fh)), (g2, .inl (kg2, 4, .inl fl))] sz) := by
  refine Met.ofW (cc := cX4_put) (maxL := 3) (ret := none) (by decide) rfl ?_
  intro p e s m args below meth c s₁ B hml hv
  obtain ⟨rfl, hsz, hN, hP, hK, hD0⟩ := hv
  have hx := B.exec
  have hb := B.bytes
  have hr := B.returns
  have hts0 := atoms_spec (ws := (wq yX4_put cX4_put 3 none)) B.pre
  have hts : ∀ w ∈ BG, w.before _ s = true := fun w h => hts0 w (List.mem_cons_of_mem _ h)
  have hown : s.vm.findClass RX4 = some m.cls := findClass_of_methodNamed B.named
  have hlocks := B.notSynchronized
  subst hsz
  have hD := hD0.self (sz := s.heap.size)
  generalize hAe : va_A [(h0, .inr (4, [.ref g0, .ref g1, .ref g2, .int (nI rc)])), (g0, .inl (kg0, 40, .inl fc)), (g1, .inl (kg1, 4, .inl fh)), (g2, .inl (kg2, 4, .inl fl))] s.heap.size = A at hD ⊢
  have hA : ∀ q : Nat, s.heap.size ≤ q → A q := fun q h => by rw [← hAe]; exact Or.inr h
  have hS : va_S A s.heap s.heap [] := va_S.rf
  clear hAe hD0
  have hP : va_P (dC, dI) vwCl [(h0, .inr (4, [.ref g0, .ref g1, .ref g2, .int (nI rc)])), (g0, .inl (kg0, 40, .inl fc)), (g1, .inl (kg1, 4, .inl fh)), (g2, .inl (kg2, 4, .inl fl))] s.heap := hP
  have hl := lv_entry ([.ref h0, .int n]) (n := 3) (Nat.le_of_ble_eq_true rfl)
  rw [lg_entry_eq]
  generalize (lg_sl ([.ref h0, .int n]) ++ List.replicate (3 - (lg_sl ([.ref h0, .int n])).length) Slot.unset).toArray = ls at hl ⊢
  have hl : lv_has ls 3 [(0, .ref h0), (1, .int n)] := hl
  refine lv_aload_n hx hb dX4_put_0 rfl (lv_at hl 0 rfl) ?_
  refine va_get (D := (dC, dI)) (ci := 4) (v := .int (nI rc)) (C := RX4) (T := TX4) (N := 4) hx hb hts inB_4 hown hK hP 0 rfl rfl 3 (by decide) (hts _ mw_1_36) (fun _ h9 => h9) rfl dX4_put_1 ?_
  refine lv_iconst (v := 1) hx hb dX4_put_4 (by decide) ?_
  refine lv_isub hx hb dX4_put_5 ?_
  refine hx_top (y := (nI (rc - 1))) (pk_sub (a := rc) (b := 1) (by omega)) ?_
  refine lv_istore_n (lv' := [(2, .int (nI (rc - 1))), (0, .ref h0), (1, .int n)]) hx hb dX4_put_6 rfl hl (by decide) rfl (fun ls hl => ?_)
  refine lv_iload_n hx hb dX4_put_7 rfl (lv_at hl 0 rfl) ?_
  refine lv_if_lt (tgt := 22) hx hb dX4_put_8 (by decide) (fun h => absurd (gx_lt (X := (((rc - 1) : Nat) : Int)) (C := 0) (nI_toInt (by omega)) (by decide) h) (by omega)) (fun c_1 => ?_)
  have b_2 := gn_lt (X := (((rc - 1) : Nat) : Int)) (C := 0) (nI_toInt (by omega)) (by decide) c_1
  refine lv_aload_n hx hb dX4_put_11 rfl (lv_at hl 1 rfl) ?_
  refine va_get (D := (dC, dI)) (ci := 4) (v := .ref g2) (C := RX4) (T := TX4) (N := 4) hx hb hts inB_4 hown hK hP 0 rfl rfl 2 (by decide) (hts _ mw_1_35) (fun _ h9 => h9) rfl dX4_put_12 ?_
  refine lv_iload_n hx hb dX4_put_15 rfl (lv_at hl 0 rfl) ?_
  refine va_iald hx hb hK hP 3 2 rfl rfl (show vp_in (nI (rc - 1)) 4 from vp_in_nI (by omega) (by omega)) dX4_put_16 ?_
  refine hx_top (y := (fl (rc - 1))) (congrArg _ (nI_clamp (by omega))) ?_
  obtain ⟨n_3, hn_3, en_3⟩ := hfl (rc - 1) (by omega)
  refine hx_top (y := (nI n_3)) en_3 ?_
  have hz8 : n_3 < 10 := (by have q := hz9; rw [en_3, nI_clamp (by omega)] at q; exact q)
  refine lv_bipush (v := 10) hx hb dX4_put_17 (by decide) ?_
  refine lv_icmp_lt (tgt := 23) hx hb dX4_put_19 (by decide) (fun c_4 => ?_) (fun h => absurd (gn_lt (X := ((n_3 : Nat) : Int)) (C := 10) (nI_toInt (by omega)) (by decide) h) (by omega))
  have b_5 := gx_lt (X := ((n_3 : Nat) : Int)) (C := 10) (nI_toInt (by omega)) (by decide) c_4
  refine lv_aload_n hx hb dX4_put_23 rfl (lv_at hl 1 rfl) ?_
  refine va_get (D := (dC, dI)) (ci := 4) (v := .ref g0) (C := RX4) (T := TX4) (N := 4) hx hb hts inB_4 hown hK hP 0 rfl rfl 0 (by decide) (hts _ mw_1_33) (fun _ h9 => h9) rfl dX4_put_24 ?_
  refine lv_iload_n hx hb dX4_put_27 rfl (lv_at hl 0 rfl) ?_
  refine lv_bipush (v := 10) hx hb dX4_put_28 (by decide) ?_
  refine lv_imul hx hb dX4_put_30 ?_
  refine hx_top (y := (nI ((rc - 1) * 10))) (pk_mul (rc - 1) 10) ?_
  refine lv_aload_n hx hb dX4_put_31 rfl (lv_at hl 1 rfl) ?_
  refine va_get (D := (dC, dI)) (ci := 4) (v := .ref g2) (C := RX4) (T := TX4) (N := 4) hx hb hts inB_4 hown hK hP 0 rfl rfl 2 (by decide) (hts _ mw_1_35) (fun _ h9 => h9) rfl dX4_put_32 ?_
  refine lv_iload_n hx hb dX4_put_35 rfl (lv_at hl 0 rfl) ?_
  refine va_iald hx hb hK hP 3 2 rfl rfl (show vp_in (nI (rc - 1)) 4 from vp_in_nI (by omega) (by omega)) dX4_put_36 ?_
  refine hx_top (y := (fl (rc - 1))) (congrArg _ (nI_clamp (by omega))) ?_
  refine hx_top (y := (nI n_3)) en_3 ?_
  refine lv_iadd hx hb dX4_put_37 ?_
  refine hx_top (y := (nI (((rc - 1) * 10) + n_3))) (nI_add ((rc - 1) * 10) n_3) ?_
  refine lv_iload_n hx hb dX4_put_38 rfl (lv_at hl 2 rfl) ?_
  refine va_iast hx hb hK hP hD hS 1 0 rfl rfl (show vp_in (nI (((rc - 1) * 10) + n_3)) 40 from vp_in_nI (by omega) (by omega)) dX4_put_39 (fun H locs hP hD hS => ?_)
  obtain ⟨f_6, ef_6⟩ : ∃ g : Nat → Int32, g = upd fc (Int32.toNatClampNeg (nI (((rc - 1) * 10) + n_3))) n := ⟨_, rfl⟩
  rw [← ef_6] at hP hD
  have ef_6 : f_6 = upd fc (((rc - 1) * 10) + n_3) n := by rw [ef_6, nI_clamp (by omega)]
  have hP : va_P (dC, dI) vwCl [(h0, .inr (4, [.ref g0, .ref g1, .ref g2, .int (nI rc)])), (g0, .inl (kg0, 40, .inl f_6)), (g1, .inl (kg1, 4, .inl fh)), (g2, .inl (kg2, 4, .inl fl))] H := hP
  have hD : va_D A [(h0, .inr (4, [.ref g0, .ref g1, .ref g2, .int (nI rc)])), (g0, .inl (kg0, 40, .inl f_6)), (g1, .inl (kg1, 4, .inl fh)), (g2, .inl (kg2, 4, .inl fl))] := hD
  refine lv_aload_n hx hb dX4_put_40 rfl (lv_at hl 1 rfl) ?_
  refine va_get (D := (dC, dI)) (ci := 4) (v := .ref g2) (C := RX4) (T := TX4) (N := 4) hx hb hts inB_4 hown hK hP 0 rfl rfl 2 (by decide) (hts _ mw_1_35) (fun _ h9 => h9) rfl dX4_put_41 ?_
  refine lv_iload_n hx hb dX4_put_44 rfl (lv_at hl 0 rfl) ?_
  refine lv_dup2_11 hx hb dX4_put_45 rfl rfl ?_
  refine va_iald hx hb hK hP 3 2 rfl rfl (show vp_in (nI (rc - 1)) 4 from vp_in_nI (by omega) (by omega)) dX4_put_46 ?_
  refine hx_top (y := (fl (rc - 1))) (congrArg _ (nI_clamp (by omega))) ?_
  refine hx_top (y := (nI n_3)) en_3 ?_
  refine lv_iconst (v := 1) hx hb dX4_put_47 (by decide) ?_
  refine lv_iadd hx hb dX4_put_48 ?_
  refine hx_top (y := (nI (n_3 + 1))) (nI_add n_3 1) ?_
  refine va_iast hx hb hK hP hD hS 3 2 rfl rfl (show vp_in (nI (rc - 1)) 4 from vp_in_nI (by omega) (by omega)) dX4_put_49 (fun H locs hP hD hS => ?_)
  obtain ⟨f_7, ef_7⟩ : ∃ g : Nat → Int32, g = upd fl (Int32.toNatClampNeg (nI (rc - 1))) (nI (n_3 + 1)) := ⟨_, rfl⟩
  rw [← ef_7] at hP hD
  have ef_7 : f_7 = upd fl (rc - 1) (nI (n_3 + 1)) := by rw [ef_7, nI_clamp (by omega)]
  have pf_7 : BdOk 4 10 f_7 := by rw [ef_7]; exact bd_upd (z := (n_3 + 1)) hfl (by omega)
  have hP : va_P (dC, dI) vwCl [(h0, .inr (4, [.ref g0, .ref g1, .ref g2, .int (nI rc)])), (g0, .inl (kg0, 40, .inl f_6)), (g1, .inl (kg1, 4, .inl fh)), (g2, .inl (kg2, 4, .inl f_7))] H := hP
  have hD : va_D A [(h0, .inr (4, [.ref g0, .ref g1, .ref g2, .int (nI rc)])), (g0, .inl (kg0, 40, .inl f_6)), (g1, .inl (kg1, 4, .inl fh)), (g2, .inl (kg2, 4, .inl f_7))] := hD
  have hP9 := hP.sub (ws' := [(h0, .inr (4, [.ref g0, .ref g1, .ref g2, .int (nI rc)])), (g0, .inl (kg0, 40, .inl f_6)), (g1, .inl (kg1, 4, .inl fh)), (g2, .inl (kg2, 4, .inl f_7))]) [0, 1, 2, 3] rfl
  have hD9 := hD.sub (ws' := [(h0, .inr (4, [.ref g0, .ref g1, .ref g2, .int (nI rc)])), (g0, .inl (kg0, 40, .inl f_6)), (g1, .inl (kg1, 4, .inl fh)), (g2, .inl (kg2, 4, .inl f_7))]) [0, 1, 2, 3] (by decide) rfl
  have hK9 := hK.sub (tys' := [(kg0, .int), (kg1, .int), (kg2, .int)]) [0, 1, 2] rfl
  exact W.vret hx hb hr (fun t ht hW => ⟨⟨(), rfl, trivial, f_6, f_7, pf_7, (by rw [ef_6, en_3, nI_clamp (by omega), Nat.mul_comm 10 (rc - 1)]), (by rw [ef_7, en_3, nI_clamp (by omega)]), by rw [ht]; exact hP9, va_K.moved hW.alike hK9, hD9⟩, hS.F ht⟩) hS.2.2 dX4_put_50
set_option maxHeartbeats 4000000 in
set_option maxRecDepth 100000 in
theorem c_rHead (l : Launch) (dC : Nat → ClassId) (dI : Nat → Nat → Nat) (sz : Nat) (h0 : Nat) (g0 : Nat) (g1 : Nat) (g2 : Nat) (rc : Int32) (kg0 : ClassId) (fc : Nat → Int32) (kg1 : ClassId) (fh : Nat → Int32) (kg2 : ClassId) (fl : Nat → Int32) (k : Nat) (hk4 : k < 4) (hfh : BdOk 4 10 fh) (hfl : BdOk 4 10 fl) : Met l yX4_head (wq yX4_head cX4_head 2 (some .int)) ({ frames := 0, cells := 0, slots := 0, locals := 0 }) (va_Pc [.ref h0, .int (nI k)] (pcW dC dI [(kg0, .int), (kg1, .int), (kg2, .int)] [(h0, .inr (4, [.ref g0, .ref g1, .ref g2, .int rc])), (g0, .inl (kg0, 40, .inl fc)), (g1, .inl (kg1, 4, .inl fh)), (g2, .inl (kg2, 4, .inl fl))] sz)) (va_Qi (fun (r : Int32) (_ : Unit) => r = hdF fc fh fl k) (fun _ _ => True) (fun q : Nat => sz ≤ q)) 0 0 (fun q : Nat => sz ≤ q) := by
  refine Met.ofW (cc := cX4_head) (maxL := 2) (ret := (some .int)) (by decide) rfl ?_
  intro p e s m args below meth c s₁ B hml hv
  obtain ⟨rfl, hsz, hN, hP, hK, hD0⟩ := hv
  have hx := B.exec
  have hb := B.bytes
  have hr := B.returns
  have hts0 := atoms_spec (ws := (wq yX4_head cX4_head 2 (some .int))) B.pre
  have hts : ∀ w ∈ BG, w.before _ s = true := fun w h => hts0 w (List.mem_cons_of_mem _ h)
  have hown : s.vm.findClass RX4 = some m.cls := findClass_of_methodNamed B.named
  have hlocks := B.notSynchronized
  subst hsz
  have hA : ∀ q : Nat, s.heap.size ≤ q → (fun q : Nat => s.heap.size ≤ q) q := fun _ h => h
  have hD := hD0
  have hS : va_S (fun q : Nat => s.heap.size ≤ q) s.heap s.heap [] := va_S.rf
  have hP : va_P (dC, dI) vwCl [(h0, .inr (4, [.ref g0, .ref g1, .ref g2, .int rc])), (g0, .inl (kg0, 40, .inl fc)), (g1, .inl (kg1, 4, .inl fh)), (g2, .inl (kg2, 4, .inl fl))] s.heap := hP
  have hl := lv_entry ([.ref h0, .int (nI k)]) (n := 2) (Nat.le_of_ble_eq_true rfl)
  rw [lg_entry_eq]
  generalize (lg_sl ([.ref h0, .int (nI k)]) ++ List.replicate (2 - (lg_sl ([.ref h0, .int (nI k)])).length) Slot.unset).toArray = ls at hl ⊢
  have hl : lv_has ls 2 [(0, .ref h0), (1, .int (nI k))] := hl
  refine lv_aload_n hx hb dX4_head_0 rfl (lv_at hl 0 rfl) ?_
  refine va_get (D := (dC, dI)) (ci := 4) (v := .ref g1) (C := RX4) (T := TX4) (N := 4) hx hb hts inB_4 hown hK hP 0 rfl rfl 1 (by decide) (hts _ mw_1_34) (fun _ h9 => h9) rfl dX4_head_1 ?_
  refine lv_iload_n hx hb dX4_head_4 rfl (lv_at hl 1 rfl) ?_
  refine va_iald hx hb hK hP 2 1 rfl rfl (show vp_in (nI k) 4 from vp_in_nI (by omega) (by omega)) dX4_head_5 ?_
  refine hx_top (y := (fh k)) (congrArg _ (nI_clamp (by omega))) ?_
  obtain ⟨n_1, hn_1, en_1⟩ := hfh k (by omega)
  refine hx_top (y := (nI n_1)) en_1 ?_
  refine lv_aload_n hx hb dX4_head_6 rfl (lv_at hl 0 rfl) ?_
  refine va_get (D := (dC, dI)) (ci := 4) (v := .ref g2) (C := RX4) (T := TX4) (N := 4) hx hb hts inB_4 hown hK hP 0 rfl rfl 2 (by decide) (hts _ mw_1_35) (fun _ h9 => h9) rfl dX4_head_7 ?_
  refine lv_iload_n hx hb dX4_head_10 rfl (lv_at hl 1 rfl) ?_
  refine va_iald hx hb hK hP 3 2 rfl rfl (show vp_in (nI k) 4 from vp_in_nI (by omega) (by omega)) dX4_head_11 ?_
  refine hx_top (y := (fl k)) (congrArg _ (nI_clamp (by omega))) ?_
  obtain ⟨n_2, hn_2, en_2⟩ := hfl k (by omega)
  refine hx_top (y := (nI n_2)) en_2 ?_
  refine lv_icmp_ge (tgt := 34) hx hb dX4_head_12 (by decide) (fun c_3 => ?_) (fun c_3 => ?_)
  · have b_4 := gx_ge (X := ((n_1 : Nat) : Int)) (C := ((n_2 : Nat) : Int)) (nI_toInt (by omega)) (nI_toInt (by omega)) c_3
    refine lv_bipush (v := (-6)) hx hb dX4_head_34 (by decide) ?_
    exact W.iret (v := (-6)) hx hb hr (fun t ht hW => ⟨⟨(-6), (), rfl, (by unfold hdF; rw [en_1, en_2, nI_clamp (by omega), nI_clamp (by omega), if_neg (by omega)]), trivial⟩, hS.F ht⟩) hS.2.2 dX4_head_36
  · have b_4 := gn_ge (X := ((n_1 : Nat) : Int)) (C := ((n_2 : Nat) : Int)) (nI_toInt (by omega)) (nI_toInt (by omega)) c_3
    refine lv_aload_n hx hb dX4_head_15 rfl (lv_at hl 0 rfl) ?_
    refine va_get (D := (dC, dI)) (ci := 4) (v := .ref g0) (C := RX4) (T := TX4) (N := 4) hx hb hts inB_4 hown hK hP 0 rfl rfl 0 (by decide) (hts _ mw_1_33) (fun _ h9 => h9) rfl dX4_head_16 ?_
    refine lv_iload_n hx hb dX4_head_19 rfl (lv_at hl 1 rfl) ?_
    refine lv_bipush (v := 10) hx hb dX4_head_20 (by decide) ?_
    refine lv_imul hx hb dX4_head_22 ?_
    refine hx_top (y := (nI (k * 10))) (pk_mul k 10) ?_
    refine lv_aload_n hx hb dX4_head_23 rfl (lv_at hl 0 rfl) ?_
    refine va_get (D := (dC, dI)) (ci := 4) (v := .ref g1) (C := RX4) (T := TX4) (N := 4) hx hb hts inB_4 hown hK hP 0 rfl rfl 1 (by decide) (hts _ mw_1_34) (fun _ h9 => h9) rfl dX4_head_24 ?_
    refine lv_iload_n hx hb dX4_head_27 rfl (lv_at hl 1 rfl) ?_
    refine va_iald hx hb hK hP 2 1 rfl rfl (show vp_in (nI k) 4 from vp_in_nI (by omega) (by omega)) dX4_head_28 ?_
    refine hx_top (y := (fh k)) (congrArg _ (nI_clamp (by omega))) ?_
    refine hx_top (y := (nI n_1)) en_1 ?_
    refine lv_iadd hx hb dX4_head_29 ?_
    refine hx_top (y := (nI ((k * 10) + n_1))) (nI_add (k * 10) n_1) ?_
    refine va_iald hx hb hK hP 1 0 rfl rfl (show vp_in (nI ((k * 10) + n_1)) 40 from vp_in_nI (by omega) (by omega)) dX4_head_30 ?_
    refine hx_top (y := (fc ((k * 10) + n_1))) (congrArg _ (nI_clamp (by omega))) ?_
    refine lv_goto (tgt := 36) hx hb dX4_head_31 (by decide) ?_
    exact W.iret (v := (fc ((k * 10) + n_1))) hx hb hr (fun t ht hW => ⟨⟨(fc ((k * 10) + n_1)), (), rfl, (by unfold hdF; rw [en_1, en_2, nI_clamp (by omega), nI_clamp (by omega), if_pos (by omega), Nat.mul_comm 10 k]), trivial⟩, hS.F ht⟩) hS.2.2 dX4_head_36
set_option maxHeartbeats 4000000 in
set_option maxRecDepth 100000 in
theorem c_rTail (l : Launch) (dC : Nat → ClassId) (dI : Nat → Nat → Nat) (sz : Nat) (h0 : Nat) (g0 : Nat) (g1 : Nat) (g2 : Nat) (rc : Int32) (kg0 : ClassId) (fc : Nat → Int32) (kg1 : ClassId) (fh : Nat → Int32) (kg2 : ClassId) (fl : Nat → Int32) (k : Nat) (R : Nat) (hk4 : k < 4) (hfh : BdOk 4 10 fh) (hfl : BdOk 4 10 fl) (hrw : RwOk fc fl R 10) (hkR : k < R) : Met l yX4_tail (wq yX4_tail cX4_tail 4 (some .int)) ({ frames := 0, cells := 0, slots := 0, locals := 0 }) (va_Pc [.ref h0, .int (nI k)] (pcW dC dI [(kg0, .int), (kg1, .int), (kg2, .int)] [(h0, .inr (4, [.ref g0, .ref g1, .ref g2, .int rc])), (g0, .inl (kg0, 40, .inl fc)), (g1, .inl (kg1, 4, .inl fh)), (g2, .inl (kg2, 4, .inl fl))] sz)) (va_Qi (fun (r : Int32) (_ : Unit) => TlI fc k (fh k).toNatClampNeg (fl k).toNatClampNeg r) (fun _ _ => True) (fun q : Nat => sz ≤ q)) 0 0 (fun q : Nat => sz ≤ q) := by
  refine Met.ofW (cc := cX4_tail) (maxL := 4) (ret := (some .int)) (by decide) rfl ?_
  intro p e s m args below meth c s₁ B hml hv
  obtain ⟨rfl, hsz, hN, hP, hK, hD0⟩ := hv
  have hx := B.exec
  have hb := B.bytes
  have hr := B.returns
  have hts0 := atoms_spec (ws := (wq yX4_tail cX4_tail 4 (some .int))) B.pre
  have hts : ∀ w ∈ BG, w.before _ s = true := fun w h => hts0 w (List.mem_cons_of_mem _ h)
  have hown : s.vm.findClass RX4 = some m.cls := findClass_of_methodNamed B.named
  have hlocks := B.notSynchronized
  subst hsz
  have hA : ∀ q : Nat, s.heap.size ≤ q → (fun q : Nat => s.heap.size ≤ q) q := fun _ h => h
  have hD := hD0
  have hS : va_S (fun q : Nat => s.heap.size ≤ q) s.heap s.heap [] := va_S.rf
  have hP : va_P (dC, dI) vwCl [(h0, .inr (4, [.ref g0, .ref g1, .ref g2, .int rc])), (g0, .inl (kg0, 40, .inl fc)), (g1, .inl (kg1, 4, .inl fh)), (g2, .inl (kg2, 4, .inl fl))] s.heap := hP
  have hl := lv_entry ([.ref h0, .int (nI k)]) (n := 4) (Nat.le_of_ble_eq_true rfl)
  rw [lg_entry_eq]
  generalize (lg_sl ([.ref h0, .int (nI k)]) ++ List.replicate (4 - (lg_sl ([.ref h0, .int (nI k)])).length) Slot.unset).toArray = ls at hl ⊢
  have hl : lv_has ls 4 [(0, .ref h0), (1, .int (nI k))] := hl
  refine lv_iconst (v := 0) hx hb dX4_tail_0 (by decide) ?_
  refine lv_istore_n (lv' := [(2, .int 0), (0, .ref h0), (1, .int (nI k))]) hx hb dX4_tail_1 rfl hl (by decide) rfl (fun ls hl => ?_)
  refine lv_aload_n hx hb dX4_tail_2 rfl (lv_at hl 1 rfl) ?_
  refine va_get (D := (dC, dI)) (ci := 4) (v := .ref g1) (C := RX4) (T := TX4) (N := 4) hx hb hts inB_4 hown hK hP 0 rfl rfl 1 (by decide) (hts _ mw_1_34) (fun _ h9 => h9) rfl dX4_tail_3 ?_
  refine lv_iload_n hx hb dX4_tail_6 rfl (lv_at hl 2 rfl) ?_
  refine va_iald hx hb hK hP 2 1 rfl rfl (show vp_in (nI k) 4 from vp_in_nI (by omega) (by omega)) dX4_tail_7 ?_
  refine hx_top (y := (fh k)) (congrArg _ (nI_clamp (by omega))) ?_
  obtain ⟨n_1, hn_1, en_1⟩ := hfh k (by omega)
  refine hx_top (y := (nI n_1)) en_1 ?_
  refine lv_iconst (v := 1) hx hb dX4_tail_8 (by decide) ?_
  refine lv_iadd hx hb dX4_tail_9 ?_
  refine hx_top (y := (nI (n_1 + 1))) (nI_add n_1 1) ?_
  refine lv_istore_n (lv' := [(3, .int (nI (n_1 + 1))), (2, .int 0), (0, .ref h0), (1, .int (nI k))]) hx hb dX4_tail_10 rfl hl (by decide) rfl (fun ls hl => ?_)
  have key_2 : ∀ (fu : Nat) (i9 : Nat) (ac : Int32), (i9 ≤ 11) → ((fh k).toNatClampNeg < i9) → (i9 ≤ (fl k).toNatClampNeg ∨ i9 = (fh k).toNatClampNeg + 1) → (TlI fc k (fh k).toNatClampNeg i9 ac) → 11 - i9 < fu → ∀ (H : Heap) (locs : List Loc), va_P (dC, dI) vwCl [(h0, .inr (4, [.ref g0, .ref g1, .ref g2, .int rc])), (g0, .inl (kg0, 40, .inl fc)), (g1, .inl (kg1, 4, .inl fh)), (g2, .inl (kg2, 4, .inl fl))] H → va_S (fun q : Nat => s.heap.size ≤ q) s.heap H locs → ∀ (ls : Array Slot), lv_has ls 4 [(3, .int (nI i9)), (2, .int ac), (0, .ref h0), (1, .int (nI k))] → W p l e (headSpec (wq yX4_tail cX4_tail 4 (some .int)) ({ frames := 0, cells := 0, slots := 0, locals := 0 })).room s m (([.ref h0, .int (nI k)] : List Value)).toArray below meth c H locs 0 0 (MQ below (va_Qi (fun (r : Int32) (_ : Unit) => TlI fc k (fh k).toNatClampNeg (fl k).toNatClampNeg r) (fun _ _ => True) (fun q : Nat => s.heap.size ≤ q)) (([.ref h0, .int (nI k)] : List Value)).toArray s 0 0 (fun q : Nat => s.heap.size ≤ q)) (F0 m 11 ls []) := by
    intro fu
    induction fu with
    | zero => intro i9 ac hi hlo hm htl hme; exact absurd hme (Nat.not_lt_zero _)
    | succ fu ih_3 =>
      intro i9 ac hi hlo hm htl hme H locs hP hS ls hl
      refine lv_iload_n hx hb dX4_tail_11 rfl (lv_at hl 0 rfl) ?_
      refine lv_aload_n hx hb dX4_tail_12 rfl (lv_at hl 2 rfl) ?_
      refine va_get (D := (dC, dI)) (ci := 4) (v := .ref g2) (C := RX4) (T := TX4) (N := 4) hx hb hts inB_4 hown hK hP 0 rfl rfl 2 (by decide) (hts _ mw_1_35) (fun _ h9 => h9) rfl dX4_tail_13 ?_
      refine lv_iload_n hx hb dX4_tail_16 rfl (lv_at hl 3 rfl) ?_
      refine va_iald hx hb hK hP 3 2 rfl rfl (show vp_in (nI k) 4 from vp_in_nI (by omega) (by omega)) dX4_tail_17 ?_
      refine hx_top (y := (fl k)) (congrArg _ (nI_clamp (by omega))) ?_
      obtain ⟨n_4, hn_4, en_4⟩ := hfl k (by omega)
      refine hx_top (y := (nI n_4)) en_4 ?_
      refine lv_icmp_ge (tgt := 43) hx hb dX4_tail_18 (by decide) (fun c_5 => ?_) (fun c_5 => ?_)
      · have b_6 := gx_ge (X := ((i9 : Nat) : Int)) (C := ((n_4 : Nat) : Int)) (nI_toInt (by omega)) (nI_toInt (by omega)) c_5
        refine lv_iload_n hx hb dX4_tail_43 rfl (lv_at hl 1 rfl) ?_
        exact W.iret (v := ac) hx hb hr (fun t ht hW => ⟨⟨ac, (), rfl, (tl_done htl (by rw [en_4, nI_clamp (by omega)]; omega) hm), trivial⟩, hS.F ht⟩) hS.2.2 dX4_tail_44
      · have b_6 := gn_ge (X := ((i9 : Nat) : Int)) (C := ((n_4 : Nat) : Int)) (nI_toInt (by omega)) (nI_toInt (by omega)) c_5
        refine lv_iload_n hx hb dX4_tail_21 rfl (lv_at hl 1 rfl) ?_
        refine lv_iconst (v := 1) hx hb dX4_tail_22 (by decide) ?_
        refine lv_aload_n hx hb dX4_tail_23 rfl (lv_at hl 2 rfl) ?_
        refine va_get (D := (dC, dI)) (ci := 4) (v := .ref g0) (C := RX4) (T := TX4) (N := 4) hx hb hts inB_4 hown hK hP 0 rfl rfl 0 (by decide) (hts _ mw_1_33) (fun _ h9 => h9) rfl dX4_tail_24 ?_
        refine lv_iload_n hx hb dX4_tail_27 rfl (lv_at hl 3 rfl) ?_
        refine lv_bipush (v := 10) hx hb dX4_tail_28 (by decide) ?_
        refine lv_imul hx hb dX4_tail_30 ?_
        refine hx_top (y := (nI (k * 10))) (pk_mul k 10) ?_
        refine lv_iload_n hx hb dX4_tail_31 rfl (lv_at hl 0 rfl) ?_
        refine lv_iadd hx hb dX4_tail_32 ?_
        refine hx_top (y := (nI ((k * 10) + i9))) (nI_add (k * 10) i9) ?_
        refine va_iald hx hb hK hP 1 0 rfl rfl (show vp_in (nI ((k * 10) + i9)) 40 from vp_in_nI (by omega) (by omega)) dX4_tail_33 ?_
        refine hx_top (y := (fc ((k * 10) + i9))) (congrArg _ (nI_clamp (by omega))) ?_
        obtain ⟨n_7, hn_7, un_7⟩ := hrw k (by omega) i9 (by rw [en_4, nI_clamp (by omega)]; omega)
        refine hx_top (y := (nI n_7)) (by rw [Nat.mul_comm k 10]; exact un_7) ?_
        refine lv_ishl hx hb dX4_tail_34 ?_
        refine lv_ior hx hb dX4_tail_35 ?_
        refine lv_istore_n (lv' := [(2, .int (ac ||| (1 <<< ((nI n_7) &&& 31)))), (3, .int (nI i9)), (0, .ref h0), (1, .int (nI k))]) hx hb dX4_tail_36 rfl hl (by decide) rfl (fun ls hl => ?_)
        refine lv_iinc (v := (nI (i9 + 1))) (lv' := [(3, .int (nI (i9 + 1))), (2, .int (ac ||| (1 <<< ((nI n_7) &&& 31)))), (0, .ref h0), (1, .int (nI k))]) hx hb dX4_tail_37 hl (k := 1) rfl (nI_add i9 1) (by decide) rfl (fun ls hl => ?_)
        refine lv_goto (tgt := 11) hx hb dX4_tail_40 (by decide) ?_
        exact ih_3 (i9 + 1) (ac ||| (1 <<< ((nI n_7) &&& 31))) (by omega) (by omega) (Or.inl (by rw [en_4, nI_clamp (by omega)]; omega)) (by exact tl_step htl un_7 (by omega) hlo) (by omega) _ _ hP hS ls (lv_sub hl [0, 1, 2, 3] rfl)
  exact key_2 ((11 - (n_1 + 1)) + 1) (n_1 + 1) 0 (by omega) (by rw [en_1, nI_clamp (by omega)]; omega) (Or.inr (by rw [en_1, nI_clamp (by omega)])) (by rw [en_1, nI_clamp (by omega)]; exact tl_0) (Nat.lt_succ_self _) _ _ hP hS ls (lv_sub hl [0, 1, 2, 3] rfl)
set_option maxHeartbeats 4000000 in
set_option maxRecDepth 100000 in
theorem c_rBegs (l : Launch) (dC : Nat → ClassId) (dI : Nat → Nat → Nat) (sz : Nat) (h0 : Nat) (g0 : Nat) (g1 : Nat) (g2 : Nat) (rc : Nat) (kg0 : ClassId) (fc : Nat → Int32) (kg1 : ClassId) (fh : Nat → Int32) (kg2 : ClassId) (fl : Nat → Int32) (hrc : rc ≤ 4) (hfh : BdOk 4 10 fh) (hfl : BdOk 4 10 fl) (hrw : RwOk fc fl rc 10) : Met l yX4_beginnings (wq yX4_beginnings cX4_beginnings 4 (some .int)) ({ frames := 1, cells := 0, slots := 0, locals := 21 }) (va_Pc [.ref h0] (pcW dC dI [(kg0, .int), (kg1, .int), (kg2, .int)] [(h0, .inr (4, [.ref g0, .ref g1, .ref g2, .int (nI rc)])), (g0, .inl (kg0, 40, .inl fc)), (g1, .inl (kg1, 4, .inl fh)), (g2, .inl (kg2, 4, .inl fl))] sz)) (va_Qi (fun (r : Int32) (_ : Unit) => r = begF fc fh fl rc) (fun _ _ => True) (fun q : Nat => sz ≤ q)) 0 0 (fun q : Nat => sz ≤ q) := by
  refine Met.ofW (cc := cX4_beginnings) (maxL := 4) (ret := (some .int)) (by decide) rfl ?_
  intro p e s m args below meth c s₁ B hml hv
  obtain ⟨rfl, hsz, hN, hP, hK, hD0⟩ := hv
  have hx := B.exec
  have hb := B.bytes
  have hr := B.returns
  have hts0 := atoms_spec (ws := (wq yX4_beginnings cX4_beginnings 4 (some .int))) B.pre
  have hts : ∀ w ∈ BG, w.before _ s = true := fun w h => hts0 w (List.mem_cons_of_mem _ h)
  have hown : s.vm.findClass RX4 = some m.cls := findClass_of_methodNamed B.named
  have hlocks := B.notSynchronized
  subst hsz
  have hA : ∀ q : Nat, s.heap.size ≤ q → (fun q : Nat => s.heap.size ≤ q) q := fun _ h => h
  have hD := hD0
  have hS : va_S (fun q : Nat => s.heap.size ≤ q) s.heap s.heap [] := va_S.rf
  have hP : va_P (dC, dI) vwCl [(h0, .inr (4, [.ref g0, .ref g1, .ref g2, .int (nI rc)])), (g0, .inl (kg0, 40, .inl fc)), (g1, .inl (kg1, 4, .inl fh)), (g2, .inl (kg2, 4, .inl fl))] s.heap := hP
  have hl := lv_entry ([.ref h0]) (n := 4) (Nat.le_of_ble_eq_true rfl)
  rw [lg_entry_eq]
  generalize (lg_sl ([.ref h0]) ++ List.replicate (4 - (lg_sl ([.ref h0])).length) Slot.unset).toArray = ls at hl ⊢
  have hl : lv_has ls 4 [(0, .ref h0)] := hl
  refine lv_iconst (v := 0) hx hb dX4_beginnings_0 (by decide) ?_
  refine lv_istore_n (lv' := [(1, .int 0), (0, .ref h0)]) hx hb dX4_beginnings_1 rfl hl (by decide) rfl (fun ls hl => ?_)
  refine lv_iconst (v := 0) hx hb dX4_beginnings_2 (by decide) ?_
  refine lv_istore_n (lv' := [(2, .int 0), (1, .int 0), (0, .ref h0)]) hx hb dX4_beginnings_3 rfl hl (by decide) rfl (fun ls hl => ?_)
  have key_1 : ∀ (fu : Nat) (k9 : Nat) (ac : Int32), (k9 ≤ rc) → (ac = begF fc fh fl k9) → rc - k9 < fu → ∀ (H : Heap) (locs : List Loc), va_P (dC, dI) vwCl [(h0, .inr (4, [.ref g0, .ref g1, .ref g2, .int (nI rc)])), (g0, .inl (kg0, 40, .inl fc)), (g1, .inl (kg1, 4, .inl fh)), (g2, .inl (kg2, 4, .inl fl))] H → va_S (fun q : Nat => s.heap.size ≤ q) s.heap H locs → ∀ (ls : Array Slot), lv_has ls 4 [(2, .int (nI k9)), (1, .int ac), (0, .ref h0)] → W p l e (headSpec (wq yX4_beginnings cX4_beginnings 4 (some .int)) ({ frames := 1, cells := 0, slots := 0, locals := 21 })).room s m (([.ref h0] : List Value)).toArray below meth c H locs 0 0 (MQ below (va_Qi (fun (r : Int32) (_ : Unit) => r = begF fc fh fl rc) (fun _ _ => True) (fun q : Nat => s.heap.size ≤ q)) (([.ref h0] : List Value)).toArray s 0 0 (fun q : Nat => s.heap.size ≤ q)) (F0 m 4 ls []) := by
    intro fu
    induction fu with
    | zero => intro k9 ac hk hac hme; exact absurd hme (Nat.not_lt_zero _)
    | succ fu ih_2 =>
      intro k9 ac hk hac hme H locs hP hS ls hl
      refine lv_iload_n hx hb dX4_beginnings_4 rfl (lv_at hl 0 rfl) ?_
      refine lv_aload_n hx hb dX4_beginnings_5 rfl (lv_at hl 2 rfl) ?_
      refine va_get (D := (dC, dI)) (ci := 4) (v := .int (nI rc)) (C := RX4) (T := TX4) (N := 4) hx hb hts inB_4 hown hK hP 0 rfl rfl 3 (by decide) (hts _ mw_1_36) (fun _ h9 => h9) rfl dX4_beginnings_6 ?_
      refine lv_icmp_ge (tgt := 36) hx hb dX4_beginnings_9 (by decide) (fun c_3 => ?_) (fun c_3 => ?_)
      · have b_4 := gx_ge (X := ((k9 : Nat) : Int)) (C := ((rc : Nat) : Int)) (nI_toInt (by omega)) (nI_toInt (by omega)) c_3
        refine lv_iload_n hx hb dX4_beginnings_36 rfl (lv_at hl 1 rfl) ?_
        exact W.iret (v := ac) hx hb hr (fun t ht hW => ⟨⟨ac, (), rfl, (by rw [hac, show k9 = rc from (by omega)]), trivial⟩, hS.F ht⟩) hS.2.2 dX4_beginnings_37
      · have b_4 := gn_ge (X := ((k9 : Nat) : Int)) (C := ((rc : Nat) : Int)) (nI_toInt (by omega)) (nI_toInt (by omega)) c_3
        refine lv_aload_n hx hb dX4_beginnings_12 rfl (lv_at hl 2 rfl) ?_
        refine lv_iload_n hx hb dX4_beginnings_13 rfl (lv_at hl 0 rfl) ?_
        have hPc := hP.sub (ws' := [(h0, .inr (4, [.ref g0, .ref g1, .ref g2, .int (nI rc)])), (g0, .inl (kg0, 40, .inl fc)), (g1, .inl (kg1, 4, .inl fh)), (g2, .inl (kg2, 4, .inl fl))]) [0, 1, 2, 3] rfl
        have hDc := hD.sub (ws' := [(h0, .inr (4, [.ref g0, .ref g1, .ref g2, .int (nI rc)])), (g0, .inl (kg0, 40, .inl fc)), (g1, .inl (kg1, 4, .inl fh)), (g2, .inl (kg2, 4, .inl fl))]) [0, 1, 2, 3] (by decide) rfl
        have hKc := hK.sub (tys' := [(kg0, .int), (kg1, .int), (kg2, .int)]) [0, 1, 2] rfl
        refine va_calli (va_runV (As := [.int (nI k9)]) (rest := []) ⟨hx, hb, hml, hown, hts⟩ (c_rHead l dC dI H.size h0 g0 g1 g2 (nI rc) kg0 fc kg1 fh kg2 fl k9 (by omega) hfh hfl) (cwV 1 hts (gV mw_2_9 mw_2_11 mw_0_3 mw_1_3 mw_2_12) rfl rfl rfl (by decide +kernel) ⟨Nat.le_of_ble_eq_true rfl, Nat.le_of_ble_eq_true rfl⟩) ⟨pcW_blind, va_recv hKc hPc (ci := 4) (q0 := 0) rfl rfl, pcW_at hPc hKc hDc hN⟩ rfl rfl hl.1 rfl (lv_room (Nat.le_of_ble_eq_true rfl)) dX4_beginnings_14 ⟨Nat.le_of_ble_eq_true rfl, Nat.le_of_ble_eq_true rfl⟩) hS (fun q h1 h2 => absurd h2 (Nat.not_le.mpr h1)) (fun q h => hA q (Nat.le_trans hS.1 h)) (fun r_5 u t H1 locs ht hvm hw_5 hB hz1 hk1 hS => ?_)
        have hP := keepP hP hk1
        clear hz1 hk1 hB ht hvm hPc hDc hKc
        generalize H1 = H at hP hS ⊢
        refine lv_istore_n (lv' := [(3, .int r_5), (2, .int (nI k9)), (1, .int ac), (0, .ref h0)]) hx hb dX4_beginnings_17 rfl hl (by decide) rfl (fun ls hl => ?_)
        refine lv_iload_n hx hb dX4_beginnings_18 rfl (lv_at hl 0 rfl) ?_
        refine lv_bipush (v := (-6)) hx hb dX4_beginnings_19 (by decide) ?_
        refine lv_icmp_eq (tgt := 30) hx hb dX4_beginnings_21 (by decide) (fun c_6 => ?_) (fun c_6 => ?_)
        · have b_7 := gx_eq (X := (Int32.toInt r_5)) (C := (-6)) rfl (by decide) c_6
          refine lv_iinc (v := (nI (k9 + 1))) (lv' := [(2, .int (nI (k9 + 1))), (3, .int r_5), (1, .int ac), (0, .ref h0)]) hx hb dX4_beginnings_30 hl (k := 1) rfl (nI_add k9 1) (by decide) rfl (fun ls hl => ?_)
          refine lv_goto (tgt := 4) hx hb dX4_beginnings_33 (by decide) ?_
          exact ih_2 (k9 + 1) ac (by omega) (beg_f hac (hd_no hrw (by omega) (by decide) hw_5 (by omega))) (by omega) _ _ hP hS ls (lv_sub hl [0, 2, 3] rfl)
        · have b_7 := gn_eq (X := (Int32.toInt r_5)) (C := (-6)) rfl (by decide) c_6
          refine lv_iload_n hx hb dX4_beginnings_24 rfl (lv_at hl 2 rfl) ?_
          refine lv_iconst (v := 1) hx hb dX4_beginnings_25 (by decide) ?_
          refine lv_iload_n hx hb dX4_beginnings_26 rfl (lv_at hl 0 rfl) ?_
          refine lv_ishl hx hb dX4_beginnings_27 ?_
          refine lv_ior hx hb dX4_beginnings_28 ?_
          refine lv_istore_n (lv' := [(1, .int (ac ||| (1 <<< (r_5 &&& 31)))), (3, .int r_5), (2, .int (nI k9)), (0, .ref h0)]) hx hb dX4_beginnings_29 rfl hl (by decide) rfl (fun ls hl => ?_)
          refine lv_iinc (v := (nI (k9 + 1))) (lv' := [(2, .int (nI (k9 + 1))), (1, .int (ac ||| (1 <<< (r_5 &&& 31)))), (3, .int r_5), (0, .ref h0)]) hx hb dX4_beginnings_30 hl (k := 2) rfl (nI_add k9 1) (by decide) rfl (fun ls hl => ?_)
          refine lv_goto (tgt := 4) hx hb dX4_beginnings_33 (by decide) ?_
          exact ih_2 (k9 + 1) (ac ||| (1 <<< (r_5 &&& 31))) (by omega) (by exact beg_t hac hw_5 (by omega)) (by omega) _ _ hP hS ls (lv_sub hl [0, 1, 3] rfl)
  exact key_1 ((rc - 0) + 1) 0 0 (by omega) rfl (Nat.lt_succ_self _) _ _ hP hS ls (lv_sub hl [0, 1, 2] rfl)
set_option maxHeartbeats 4000000 in
set_option maxRecDepth 100000 in
theorem c_rFree (l : Launch) (dC : Nat → ClassId) (dI : Nat → Nat → Nat) (sz : Nat) (h0 : Nat) (g0 : Nat) (g1 : Nat) (g2 : Nat) (rc : Nat) (kg0 : ClassId) (fc : Nat → Int32) (kg1 : ClassId) (fh : Nat → Int32) (kg2 : ClassId) (fl : Nat → Int32) (hrc : rc ≤ 4) (hfh : BdOk 4 10 fh) (hfl : BdOk 4 10 fl) (hrw : RwOk fc fl rc 10) : Met l yX4_firstFree (wq yX4_firstFree cX4_firstFree 4 (some .int)) ({ frames := 1, cells := 0, slots := 0, locals := 23 }) (va_Pc [.ref h0] (pcW dC dI [(kg0, .int), (kg1, .int), (kg2, .int)] [(h0, .inr (4, [.ref g0, .ref g1, .ref g2, .int (nI rc)])), (g0, .inl (kg0, 40, .inl fc)), (g1, .inl (kg1, 4, .inl fh)), (g2, .inl (kg2, 4, .inl fl))] sz)) (va_Qi (fun (r : Int32) (_ : Unit) => r = nhF fc fh fl rc 0 rc) (fun _ _ => True) (fun q : Nat => sz ≤ q)) 0 0 (fun q : Nat => sz ≤ q) := by
  refine Met.ofW (cc := cX4_firstFree) (maxL := 4) (ret := (some .int)) (by decide) rfl ?_
  intro p e s m args below meth c s₁ B hml hv
  obtain ⟨rfl, hsz, hN, hP, hK, hD0⟩ := hv
  have hx := B.exec
  have hb := B.bytes
  have hr := B.returns
  have hts0 := atoms_spec (ws := (wq yX4_firstFree cX4_firstFree 4 (some .int))) B.pre
  have hts : ∀ w ∈ BG, w.before _ s = true := fun w h => hts0 w (List.mem_cons_of_mem _ h)
  have hown : s.vm.findClass RX4 = some m.cls := findClass_of_methodNamed B.named
  have hlocks := B.notSynchronized
  subst hsz
  have hA : ∀ q : Nat, s.heap.size ≤ q → (fun q : Nat => s.heap.size ≤ q) q := fun _ h => h
  have hD := hD0
  have hS : va_S (fun q : Nat => s.heap.size ≤ q) s.heap s.heap [] := va_S.rf
  have hP : va_P (dC, dI) vwCl [(h0, .inr (4, [.ref g0, .ref g1, .ref g2, .int (nI rc)])), (g0, .inl (kg0, 40, .inl fc)), (g1, .inl (kg1, 4, .inl fh)), (g2, .inl (kg2, 4, .inl fl))] s.heap := hP
  have hl := lv_entry ([.ref h0]) (n := 4) (Nat.le_of_ble_eq_true rfl)
  rw [lg_entry_eq]
  generalize (lg_sl ([.ref h0]) ++ List.replicate (4 - (lg_sl ([.ref h0])).length) Slot.unset).toArray = ls at hl ⊢
  have hl : lv_has ls 4 [(0, .ref h0)] := hl
  refine lv_iconst (v := 0) hx hb dX4_firstFree_0 (by decide) ?_
  refine lv_istore_n (lv' := [(1, .int 0), (0, .ref h0)]) hx hb dX4_firstFree_1 rfl hl (by decide) rfl (fun ls hl => ?_)
  refine lv_iconst (v := 0) hx hb dX4_firstFree_2 (by decide) ?_
  refine lv_istore_n (lv' := [(2, .int 0), (1, .int 0), (0, .ref h0)]) hx hb dX4_firstFree_3 rfl hl (by decide) rfl (fun ls hl => ?_)
  have key_1 : ∀ (fu : Nat) (k9 : Nat) (ac : Int32), (k9 ≤ rc) → (HlI fc fh fl k9 ac) → rc - k9 < fu → ∀ (H : Heap) (locs : List Loc), va_P (dC, dI) vwCl [(h0, .inr (4, [.ref g0, .ref g1, .ref g2, .int (nI rc)])), (g0, .inl (kg0, 40, .inl fc)), (g1, .inl (kg1, 4, .inl fh)), (g2, .inl (kg2, 4, .inl fl))] H → va_S (fun q : Nat => s.heap.size ≤ q) s.heap H locs → ∀ (ls : Array Slot), lv_has ls 4 [(2, .int (nI k9)), (1, .int ac), (0, .ref h0)] → W p l e (headSpec (wq yX4_firstFree cX4_firstFree 4 (some .int)) ({ frames := 1, cells := 0, slots := 0, locals := 23 })).room s m (([.ref h0] : List Value)).toArray below meth c H locs 0 0 (MQ below (va_Qi (fun (r : Int32) (_ : Unit) => r = nhF fc fh fl rc 0 rc) (fun _ _ => True) (fun q : Nat => s.heap.size ≤ q)) (([.ref h0] : List Value)).toArray s 0 0 (fun q : Nat => s.heap.size ≤ q)) (F0 m 4 ls []) := by
    intro fu
    induction fu with
    | zero => intro k9 ac hk hhl hme; exact absurd hme (Nat.not_lt_zero _)
    | succ fu ih_2 =>
      intro k9 ac hk hhl hme H locs hP hS ls hl
      refine lv_iload_n hx hb dX4_firstFree_4 rfl (lv_at hl 0 rfl) ?_
      refine lv_aload_n hx hb dX4_firstFree_5 rfl (lv_at hl 2 rfl) ?_
      refine va_get (D := (dC, dI)) (ci := 4) (v := .int (nI rc)) (C := RX4) (T := TX4) (N := 4) hx hb hts inB_4 hown hK hP 0 rfl rfl 3 (by decide) (hts _ mw_1_36) (fun _ h9 => h9) rfl dX4_firstFree_6 ?_
      refine lv_icmp_ge (tgt := 26) hx hb dX4_firstFree_9 (by decide) (fun c_3 => ?_) (fun c_3 => ?_)
      · have b_4 := gx_ge (X := ((k9 : Nat) : Int)) (C := ((rc : Nat) : Int)) (nI_toInt (by omega)) (nI_toInt (by omega)) c_3
        have hhl9 : HlI fc fh fl rc ac := (by have q : k9 = rc := (by omega); rw [q] at hhl; exact hhl)
        refine lv_iconst (v := 0) hx hb dX4_firstFree_26 (by decide) ?_
        refine lv_istore_n (lv' := [(2, .int 0), (1, .int ac), (0, .ref h0)]) hx hb dX4_firstFree_27 rfl hl (by decide) rfl (fun ls hl => ?_)
        have key_5 : ∀ (fu : Nat) (k8 : Nat), (k8 ≤ rc) → (nhF fc fh fl rc k8 (rc - k8) = nhF fc fh fl rc 0 rc) → rc - k8 < fu → ∀ (H : Heap) (locs : List Loc), va_P (dC, dI) vwCl [(h0, .inr (4, [.ref g0, .ref g1, .ref g2, .int (nI rc)])), (g0, .inl (kg0, 40, .inl fc)), (g1, .inl (kg1, 4, .inl fh)), (g2, .inl (kg2, 4, .inl fl))] H → va_S (fun q : Nat => s.heap.size ≤ q) s.heap H locs → ∀ (ls : Array Slot), lv_has ls 4 [(2, .int (nI k8)), (1, .int ac), (0, .ref h0)] → W p l e (headSpec (wq yX4_firstFree cX4_firstFree 4 (some .int)) ({ frames := 1, cells := 0, slots := 0, locals := 23 })).room s m (([.ref h0] : List Value)).toArray below meth c H locs 0 0 (MQ below (va_Qi (fun (r : Int32) (_ : Unit) => r = nhF fc fh fl rc 0 rc) (fun _ _ => True) (fun q : Nat => s.heap.size ≤ q)) (([.ref h0] : List Value)).toArray s 0 0 (fun q : Nat => s.heap.size ≤ q)) (F0 m 28 ls []) := by
          intro fu
          induction fu with
          | zero => intro k8 hk hn hme; exact absurd hme (Nat.not_lt_zero _)
          | succ fu ih_6 =>
            intro k8 hk hn hme H locs hP hS ls hl
            refine lv_iload_n hx hb dX4_firstFree_28 rfl (lv_at hl 0 rfl) ?_
            refine lv_aload_n hx hb dX4_firstFree_29 rfl (lv_at hl 2 rfl) ?_
            refine va_get (D := (dC, dI)) (ci := 4) (v := .int (nI rc)) (C := RX4) (T := TX4) (N := 4) hx hb hts inB_4 hown hK hP 0 rfl rfl 3 (by decide) (hts _ mw_1_36) (fun _ h9 => h9) rfl dX4_firstFree_30 ?_
            refine lv_icmp_ge (tgt := 64) hx hb dX4_firstFree_33 (by decide) (fun c_7 => ?_) (fun c_7 => ?_)
            · have b_8 := gx_ge (X := ((k8 : Nat) : Int)) (C := ((rc : Nat) : Int)) (nI_toInt (by omega)) (nI_toInt (by omega)) c_7
              refine lv_bipush (v := (-6)) hx hb dX4_firstFree_64 (by decide) ?_
              exact W.iret (v := (-6)) hx hb hr (fun t ht hW => ⟨⟨(-6), (), rfl, (by rw [← hn]; exact (nh_end (by omega)).symm), trivial⟩, hS.F ht⟩) hS.2.2 dX4_firstFree_66
            · have b_8 := gn_ge (X := ((k8 : Nat) : Int)) (C := ((rc : Nat) : Int)) (nI_toInt (by omega)) (nI_toInt (by omega)) c_7
              refine lv_aload_n hx hb dX4_firstFree_36 rfl (lv_at hl 2 rfl) ?_
              refine lv_iload_n hx hb dX4_firstFree_37 rfl (lv_at hl 0 rfl) ?_
              have hPc := hP.sub (ws' := [(h0, .inr (4, [.ref g0, .ref g1, .ref g2, .int (nI rc)])), (g0, .inl (kg0, 40, .inl fc)), (g1, .inl (kg1, 4, .inl fh)), (g2, .inl (kg2, 4, .inl fl))]) [0, 1, 2, 3] rfl
              have hDc := hD.sub (ws' := [(h0, .inr (4, [.ref g0, .ref g1, .ref g2, .int (nI rc)])), (g0, .inl (kg0, 40, .inl fc)), (g1, .inl (kg1, 4, .inl fh)), (g2, .inl (kg2, 4, .inl fl))]) [0, 1, 2, 3] (by decide) rfl
              have hKc := hK.sub (tys' := [(kg0, .int), (kg1, .int), (kg2, .int)]) [0, 1, 2] rfl
              refine va_calli (va_runV (As := [.int (nI k8)]) (rest := []) ⟨hx, hb, hml, hown, hts⟩ (c_rHead l dC dI H.size h0 g0 g1 g2 (nI rc) kg0 fc kg1 fh kg2 fl k8 (by omega) hfh hfl) (cwV 1 hts (gV mw_2_9 mw_2_11 mw_0_3 mw_1_3 mw_2_12) rfl rfl rfl (by decide +kernel) ⟨Nat.le_of_ble_eq_true rfl, Nat.le_of_ble_eq_true rfl⟩) ⟨pcW_blind, va_recv hKc hPc (ci := 4) (q0 := 0) rfl rfl, pcW_at hPc hKc hDc hN⟩ rfl rfl hl.1 rfl (lv_room (Nat.le_of_ble_eq_true rfl)) dX4_firstFree_38 ⟨Nat.le_of_ble_eq_true rfl, Nat.le_of_ble_eq_true rfl⟩) hS (fun q h1 h2 => absurd h2 (Nat.not_le.mpr h1)) (fun q h => hA q (Nat.le_trans hS.1 h)) (fun r_9 u t H1 locs ht hvm hw_9 hB hz1 hk1 hS => ?_)
              have hP := keepP hP hk1
              clear hz1 hk1 hB ht hvm hPc hDc hKc
              generalize H1 = H at hP hS ⊢
              refine lv_istore_n (lv' := [(3, .int r_9), (2, .int (nI k8)), (1, .int ac), (0, .ref h0)]) hx hb dX4_firstFree_41 rfl hl (by decide) rfl (fun ls hl => ?_)
              refine lv_iload_n hx hb dX4_firstFree_42 rfl (lv_at hl 0 rfl) ?_
              refine lv_bipush (v := (-6)) hx hb dX4_firstFree_43 (by decide) ?_
              refine lv_icmp_eq (tgt := 58) hx hb dX4_firstFree_45 (by decide) (fun c_10 => ?_) (fun c_10 => ?_)
              · have b_11 := gx_eq (X := (Int32.toInt r_9)) (C := (-6)) rfl (by decide) c_10
                refine lv_iinc (v := (nI (k8 + 1))) (lv' := [(2, .int (nI (k8 + 1))), (3, .int r_9), (1, .int ac), (0, .ref h0)]) hx hb dX4_firstFree_58 hl (k := 1) rfl (nI_add k8 1) (by decide) rfl (fun ls hl => ?_)
                refine lv_goto (tgt := 28) hx hb dX4_firstFree_61 (by decide) ?_
                exact ih_6 (k8 + 1) (by omega) (nh_no hn (by omega) (hd_no hrw (by omega) (by decide) hw_9 (by omega))) (by omega) _ _ hP hS ls (lv_sub hl [0, 2, 3] rfl)
              · have b_11 := gn_eq (X := (Int32.toInt r_9)) (C := (-6)) rfl (by decide) c_10
                obtain ⟨q9, hq9, eq9⟩ := hd_nat hrw (by omega) hw_9 (by omega)
                subst eq9
                refine lv_iload_n hx hb dX4_firstFree_48 rfl (lv_at hl 0 rfl) ?_
                refine lv_iload_n hx hb dX4_firstFree_49 rfl (lv_at hl 2 rfl) ?_
                have hPc := hP.sub (ws' := []) [] rfl
                have hDc := hD.sub (ws' := []) [] (by decide) rfl
                have hKc := hK.sub (tys' := []) [] rfl
                refine va_calli (va_runSN (As := [.int (nI q9), .int ac]) (rest := []) ⟨hx, hb, hml, hown, hts⟩ (c_isIn l dC dI H.size (nI q9) ac ) ⟨va_cnB 2 hts (gN mw_2_15) rfl rfl rfl (hN (RX4, 32, yX8_isIn, RX8) (List.mem_of_getElem? (i := 6) rfl)) (hts _ mw_1_1) (by decide +kernel) ⟨Nat.le_of_ble_eq_true rfl, Nat.le_of_ble_eq_true rfl⟩, (hts _ mw_2_14), trivial⟩ ⟨pcW_blind, pcW_at hPc hKc hDc hN⟩ rfl rfl hl.1 rfl (lv_room (Nat.le_of_ble_eq_true rfl)) dX4_firstFree_50 ⟨Nat.le_of_ble_eq_true rfl, Nat.le_of_ble_eq_true rfl⟩) hS (fun q h1 h2 => absurd h2 (Nat.not_le.mpr h1)) (fun q h => hA q (Nat.le_trans hS.1 h)) (fun r_12 u t H1 locs ht hvm hw_12 hB hz1 hk1 hS => ?_)
                have hP := keepP hP hk1
                clear hz1 hk1 hB ht hvm hPc hDc hKc
                generalize H1 = H at hP hS ⊢
                rcases fx_bool hw_12 with ⟨rfl, b_13⟩ | ⟨rfl, b_13⟩
                · skip
                  refine lv_if_ne (tgt := 58) hx hb dX4_firstFree_53 (by decide) (fun _ => ?_) (fun h => absurd h (by decide))
                  refine lv_iinc (v := (nI (k8 + 1))) (lv' := [(2, .int (nI (k8 + 1))), (3, .int (nI q9)), (1, .int ac), (0, .ref h0)]) hx hb dX4_firstFree_58 hl (k := 1) rfl (nI_add k8 1) (by decide) rfl (fun ls hl => ?_)
                  refine lv_goto (tgt := 28) hx hb dX4_firstFree_61 (by decide) ?_
                  exact ih_6 (k8 + 1) (by omega) (nh_held hn (by omega) hw_9 (by omega) hhl9 (t_yes (by omega) b_13)) (by omega) _ _ hP hS ls (lv_sub hl [0, 2, 3] rfl)
                · skip
                  refine lv_if_ne (tgt := 58) hx hb dX4_firstFree_53 (by decide) (fun h => absurd h (by decide)) (fun _ => ?_)
                  refine lv_iload_n hx hb dX4_firstFree_56 rfl (lv_at hl 0 rfl) ?_
                  exact W.iret (v := (nI q9)) hx hb hr (fun t ht hW => ⟨⟨(nI q9), (), rfl, (nh_ret hn (by omega) hw_9 (by omega) hhl9 (t_no (by omega) b_13)), trivial⟩, hS.F ht⟩) hS.2.2 dX4_firstFree_57
        exact key_5 ((rc - 0) + 1) 0 (by omega) rfl (Nat.lt_succ_self _) _ _ hP hS ls (lv_sub hl [0, 1, 2] rfl)
      · have b_4 := gn_ge (X := ((k9 : Nat) : Int)) (C := ((rc : Nat) : Int)) (nI_toInt (by omega)) (nI_toInt (by omega)) c_3
        refine lv_iload_n hx hb dX4_firstFree_12 rfl (lv_at hl 1 rfl) ?_
        refine lv_aload_n hx hb dX4_firstFree_13 rfl (lv_at hl 2 rfl) ?_
        refine lv_iload_n hx hb dX4_firstFree_14 rfl (lv_at hl 0 rfl) ?_
        have hPc := hP.sub (ws' := [(h0, .inr (4, [.ref g0, .ref g1, .ref g2, .int (nI rc)])), (g0, .inl (kg0, 40, .inl fc)), (g1, .inl (kg1, 4, .inl fh)), (g2, .inl (kg2, 4, .inl fl))]) [0, 1, 2, 3] rfl
        have hDc := hD.sub (ws' := [(h0, .inr (4, [.ref g0, .ref g1, .ref g2, .int (nI rc)])), (g0, .inl (kg0, 40, .inl fc)), (g1, .inl (kg1, 4, .inl fh)), (g2, .inl (kg2, 4, .inl fl))]) [0, 1, 2, 3] (by decide) rfl
        have hKc := hK.sub (tys' := [(kg0, .int), (kg1, .int), (kg2, .int)]) [0, 1, 2] rfl
        refine va_calli (va_runV (As := [.int (nI k9)]) (rest := [.int ac]) ⟨hx, hb, hml, hown, hts⟩ (c_rTail l dC dI H.size h0 g0 g1 g2 (nI rc) kg0 fc kg1 fh kg2 fl k9 rc (by omega) hfh hfl hrw (by omega)) (cwV 1 hts (gV mw_2_5 mw_2_7 mw_0_2 mw_1_3 mw_2_8) rfl rfl rfl (by decide +kernel) ⟨Nat.le_of_ble_eq_true rfl, Nat.le_of_ble_eq_true rfl⟩) ⟨pcW_blind, va_recv hKc hPc (ci := 4) (q0 := 0) rfl rfl, pcW_at hPc hKc hDc hN⟩ rfl rfl hl.1 rfl (lv_room (Nat.le_of_ble_eq_true rfl)) dX4_firstFree_15 ⟨Nat.le_of_ble_eq_true rfl, Nat.le_of_ble_eq_true rfl⟩) hS (fun q h1 h2 => absurd h2 (Nat.not_le.mpr h1)) (fun q h => hA q (Nat.le_trans hS.1 h)) (fun r_14 u t H1 locs ht hvm hw_14 hB hz1 hk1 hS => ?_)
        have hP := keepP hP hk1
        clear hz1 hk1 hB ht hvm hPc hDc hKc
        generalize H1 = H at hP hS ⊢
        refine lv_ior hx hb dX4_firstFree_18 ?_
        refine lv_istore_n (lv' := [(1, .int (ac ||| r_14)), (2, .int (nI k9)), (0, .ref h0)]) hx hb dX4_firstFree_19 rfl hl (by decide) rfl (fun ls hl => ?_)
        refine lv_iinc (v := (nI (k9 + 1))) (lv' := [(2, .int (nI (k9 + 1))), (1, .int (ac ||| r_14)), (0, .ref h0)]) hx hb dX4_firstFree_20 hl (k := 1) rfl (nI_add k9 1) (by decide) rfl (fun ls hl => ?_)
        refine lv_goto (tgt := 4) hx hb dX4_firstFree_23 (by decide) ?_
        exact ih_2 (k9 + 1) (ac ||| r_14) (by omega) (hl_step hhl hw_14) (by omega) _ _ hP hS ls (lv_sub hl [0, 1, 2] rfl)
  exact key_1 ((rc - 0) + 1) 0 0 (by omega) hl_0 (Nat.lt_succ_self _) _ _ hP hS ls (lv_sub hl [0, 1, 2] rfl)
set_option maxHeartbeats 4000000 in
set_option maxRecDepth 100000 in
theorem c_rTake (l : Launch) (dC : Nat → ClassId) (dI : Nat → Nat → Nat) (sz : Nat) (h0 : Nat) (g0 : Nat) (g1 : Nat) (g2 : Nat) (rc : Nat) (kg0 : ClassId) (fc : Nat → Int32) (kg1 : ClassId) (fh : Nat → Int32) (kg2 : ClassId) (fl : Nat → Int32) (n : Int32) (hrc : rc ≤ 4) (hfh : BdOk 4 10 fh) (hfl : BdOk 4 10 fl) (hne : Int32.toInt n ≠ -6) : Met l yX4_take (wq yX4_take cX4_take 3 none) ({ frames := 1, cells := 0, slots := 0, locals := 21 }) (va_Pc [.ref h0, .int n] (pcW dC dI [(kg0, .int), (kg1, .int), (kg2, .int)] [(h0, .inr (4, [.ref g0, .ref g1, .ref g2, .int (nI rc)])), (g0, .inl (kg0, 40, .inl fc)), (g1, .inl (kg1, 4, .inl fh)), (g2, .inl (kg2, 4, .inl fl))] sz)) (va_Qv (fun _ : Unit => True) (fun _ t => ∃ (fh2 : Nat → Int32), (BdOk 4 10 fh2) ∧ (AdvI fc fh fh2 fl n rc) ∧ va_P (dC, dI) vwCl [(h0, .inr (4, [.ref g0, .ref g1, .ref g2, .int (nI rc)])), (g0, .inl (kg0, 40, .inl fc)), (g1, .inl (kg1, 4, .inl fh2)), (g2, .inl (kg2, 4, .inl fl))] t.heap ∧ va_K (dC, dI) vwCl [(kg0, .int), (kg1, .int), (kg2, .int)] t ∧ va_D (va_A [(h0, .inr (4, [.ref g0, .ref g1, .ref g2, .int (nI rc)])), (g0, .inl (kg0, 40, .inl fc)), (g1, .inl (kg1, 4, .inl fh)), (g2, .inl (kg2, 4, .inl fl))] sz) [(h0, .inr (4, [.ref g0, .ref g1, .ref g2, .int (nI rc)])), (g0, .inl (kg0, 40, .inl fc)), (g1, .inl (kg1, 4, .inl fh2)), (g2, .inl (kg2, 4, .inl fl))]) (va_A [(h0, .inr (4, [.ref g0, .ref g1, .ref g2, .int (nI rc)])), (g0, .inl (kg0, 40, .inl fc)), (g1, .inl (kg1, 4, .inl fh)), (g2, .inl (kg2, 4, .inl fl))] sz)) 0 0 (va_A [(h0, .inr (4, [.ref g0, .ref g1, .ref g2, .int (nI rc)])), (g0, .inl (kg0, 40, .inl fc)), (g1, .inl (kg1, 4, .inl fh)), (g2, .inl (kg2, 4, .inl fl))] sz) := by
  refine Met.ofW (cc := cX4_take) (maxL := 3) (ret := none) (by decide) rfl ?_
  intro p e s m args below meth c s₁ B hml hv
  obtain ⟨rfl, hsz, hN, hP, hK, hD0⟩ := hv
  have hx := B.exec
  have hb := B.bytes
  have hr := B.returns
  have hts0 := atoms_spec (ws := (wq yX4_take cX4_take 3 none)) B.pre
  have hts : ∀ w ∈ BG, w.before _ s = true := fun w h => hts0 w (List.mem_cons_of_mem _ h)
  have hown : s.vm.findClass RX4 = some m.cls := findClass_of_methodNamed B.named
  have hlocks := B.notSynchronized
  subst hsz
  have hD := hD0.self (sz := s.heap.size)
  generalize hAe : va_A [(h0, .inr (4, [.ref g0, .ref g1, .ref g2, .int (nI rc)])), (g0, .inl (kg0, 40, .inl fc)), (g1, .inl (kg1, 4, .inl fh)), (g2, .inl (kg2, 4, .inl fl))] s.heap.size = A at hD ⊢
  have hA : ∀ q : Nat, s.heap.size ≤ q → A q := fun q h => by rw [← hAe]; exact Or.inr h
  have hS : va_S A s.heap s.heap [] := va_S.rf
  clear hAe hD0
  have hP : va_P (dC, dI) vwCl [(h0, .inr (4, [.ref g0, .ref g1, .ref g2, .int (nI rc)])), (g0, .inl (kg0, 40, .inl fc)), (g1, .inl (kg1, 4, .inl fh)), (g2, .inl (kg2, 4, .inl fl))] s.heap := hP
  have hl := lv_entry ([.ref h0, .int n]) (n := 3) (Nat.le_of_ble_eq_true rfl)
  rw [lg_entry_eq]
  generalize (lg_sl ([.ref h0, .int n]) ++ List.replicate (3 - (lg_sl ([.ref h0, .int n])).length) Slot.unset).toArray = ls at hl ⊢
  have hl : lv_has ls 3 [(0, .ref h0), (1, .int n)] := hl
  refine lv_iconst (v := 0) hx hb dX4_take_0 (by decide) ?_
  refine lv_istore_n (lv' := [(2, .int 0), (0, .ref h0), (1, .int n)]) hx hb dX4_take_1 rfl hl (by decide) rfl (fun ls hl => ?_)
  have key_1 : ∀ (fu : Nat) (k9 : Nat) (fh9 : Nat → Int32), (k9 ≤ rc) → (BdOk 4 10 fh9) → (AdvI fc fh fh9 fl n k9) → rc - k9 < fu → ∀ (H : Heap) (locs : List Loc), va_P (dC, dI) vwCl [(h0, .inr (4, [.ref g0, .ref g1, .ref g2, .int (nI rc)])), (g0, .inl (kg0, 40, .inl fc)), (g1, .inl (kg1, 4, .inl fh9)), (g2, .inl (kg2, 4, .inl fl))] H → va_D A [(h0, .inr (4, [.ref g0, .ref g1, .ref g2, .int (nI rc)])), (g0, .inl (kg0, 40, .inl fc)), (g1, .inl (kg1, 4, .inl fh9)), (g2, .inl (kg2, 4, .inl fl))] → va_S A s.heap H locs → ∀ (ls : Array Slot), lv_has ls 3 [(2, .int (nI k9)), (0, .ref h0), (1, .int n)] → W p l e (headSpec (wq yX4_take cX4_take 3 none) ({ frames := 1, cells := 0, slots := 0, locals := 21 })).room s m (([.ref h0, .int n] : List Value)).toArray below meth c H locs 0 0 (MQ below (va_Qv (fun _ : Unit => True) (fun _ t => ∃ (fh2 : Nat → Int32), (BdOk 4 10 fh2) ∧ (AdvI fc fh fh2 fl n rc) ∧ va_P (dC, dI) vwCl [(h0, .inr (4, [.ref g0, .ref g1, .ref g2, .int (nI rc)])), (g0, .inl (kg0, 40, .inl fc)), (g1, .inl (kg1, 4, .inl fh2)), (g2, .inl (kg2, 4, .inl fl))] t.heap ∧ va_K (dC, dI) vwCl [(kg0, .int), (kg1, .int), (kg2, .int)] t ∧ va_D A [(h0, .inr (4, [.ref g0, .ref g1, .ref g2, .int (nI rc)])), (g0, .inl (kg0, 40, .inl fc)), (g1, .inl (kg1, 4, .inl fh2)), (g2, .inl (kg2, 4, .inl fl))]) A) (([.ref h0, .int n] : List Value)).toArray s 0 0 A) (F0 m 2 ls []) := by
    intro fu
    induction fu with
    | zero => intro k9 fh9 hk hh9 hadv hme; exact absurd hme (Nat.not_lt_zero _)
    | succ fu ih_2 =>
      intro k9 fh9 hk hh9 hadv hme H locs hP hD hS ls hl
      refine lv_iload_n hx hb dX4_take_2 rfl (lv_at hl 0 rfl) ?_
      refine lv_aload_n hx hb dX4_take_3 rfl (lv_at hl 1 rfl) ?_
      refine va_get (D := (dC, dI)) (ci := 4) (v := .int (nI rc)) (C := RX4) (T := TX4) (N := 4) hx hb hts inB_4 hown hK hP 0 rfl rfl 3 (by decide) (hts _ mw_1_36) (fun _ h9 => h9) rfl dX4_take_4 ?_
      refine lv_icmp_ge (tgt := 35) hx hb dX4_take_7 (by decide) (fun c_3 => ?_) (fun c_3 => ?_)
      · have b_4 := gx_ge (X := ((k9 : Nat) : Int)) (C := ((rc : Nat) : Int)) (nI_toInt (by omega)) (nI_toInt (by omega)) c_3
        have hP9 := hP.sub (ws' := [(h0, .inr (4, [.ref g0, .ref g1, .ref g2, .int (nI rc)])), (g0, .inl (kg0, 40, .inl fc)), (g1, .inl (kg1, 4, .inl fh9)), (g2, .inl (kg2, 4, .inl fl))]) [0, 1, 2, 3] rfl
        have hD9 := hD.sub (ws' := [(h0, .inr (4, [.ref g0, .ref g1, .ref g2, .int (nI rc)])), (g0, .inl (kg0, 40, .inl fc)), (g1, .inl (kg1, 4, .inl fh9)), (g2, .inl (kg2, 4, .inl fl))]) [0, 1, 2, 3] (by decide) rfl
        have hK9 := hK.sub (tys' := [(kg0, .int), (kg1, .int), (kg2, .int)]) [0, 1, 2] rfl
        exact W.vret hx hb hr (fun t ht hW => ⟨⟨(), rfl, trivial, fh9, hh9, (by have q : k9 = rc := (by omega); rw [q] at hadv; exact hadv), by rw [ht]; exact hP9, va_K.moved hW.alike hK9, hD9⟩, hS.F ht⟩) hS.2.2 dX4_take_35
      · have b_4 := gn_ge (X := ((k9 : Nat) : Int)) (C := ((rc : Nat) : Int)) (nI_toInt (by omega)) (nI_toInt (by omega)) c_3
        refine lv_aload_n hx hb dX4_take_10 rfl (lv_at hl 1 rfl) ?_
        refine lv_iload_n hx hb dX4_take_11 rfl (lv_at hl 0 rfl) ?_
        have hPc := hP.sub (ws' := [(h0, .inr (4, [.ref g0, .ref g1, .ref g2, .int (nI rc)])), (g0, .inl (kg0, 40, .inl fc)), (g1, .inl (kg1, 4, .inl fh9)), (g2, .inl (kg2, 4, .inl fl))]) [0, 1, 2, 3] rfl
        have hDc := hD.sub (ws' := [(h0, .inr (4, [.ref g0, .ref g1, .ref g2, .int (nI rc)])), (g0, .inl (kg0, 40, .inl fc)), (g1, .inl (kg1, 4, .inl fh9)), (g2, .inl (kg2, 4, .inl fl))]) [0, 1, 2, 3] (by decide) rfl
        have hKc := hK.sub (tys' := [(kg0, .int), (kg1, .int), (kg2, .int)]) [0, 1, 2] rfl
        refine va_calli (va_runV (As := [.int (nI k9)]) (rest := []) ⟨hx, hb, hml, hown, hts⟩ (c_rHead l dC dI H.size h0 g0 g1 g2 (nI rc) kg0 fc kg1 fh9 kg2 fl k9 (by omega) hh9 hfl) (cwV 1 hts (gV mw_2_9 mw_2_11 mw_0_3 mw_1_3 mw_2_12) rfl rfl rfl (by decide +kernel) ⟨Nat.le_of_ble_eq_true rfl, Nat.le_of_ble_eq_true rfl⟩) ⟨pcW_blind, va_recv hKc hPc (ci := 4) (q0 := 0) rfl rfl, pcW_at hPc hKc hDc hN⟩ rfl rfl hl.1 rfl (lv_room (Nat.le_of_ble_eq_true rfl)) dX4_take_12 ⟨Nat.le_of_ble_eq_true rfl, Nat.le_of_ble_eq_true rfl⟩) hS (fun q h1 h2 => absurd h2 (Nat.not_le.mpr h1)) (fun q h => hA q (Nat.le_trans hS.1 h)) (fun r_5 u t H1 locs ht hvm hw_5 hB hz1 hk1 hS => ?_)
        have hP := keepP hP hk1
        clear hz1 hk1 hB ht hvm hPc hDc hKc
        generalize H1 = H at hP hS ⊢
        refine lv_iload_n hx hb dX4_take_15 rfl (lv_at hl 2 rfl) ?_
        refine lv_icmp_ne (tgt := 29) hx hb dX4_take_16 (by decide) (fun c_6 => ?_) (fun c_6 => ?_)
        · have b_7 := gx_ne (X := (Int32.toInt r_5)) (C := (Int32.toInt n)) rfl rfl c_6
          refine lv_iinc (v := (nI (k9 + 1))) (lv' := [(2, .int (nI (k9 + 1))), (0, .ref h0), (1, .int n)]) hx hb dX4_take_29 hl (k := 0) rfl (nI_add k9 1) (by decide) rfl (fun ls hl => ?_)
          refine lv_goto (tgt := 2) hx hb dX4_take_32 (by decide) ?_
          exact ih_2 (k9 + 1) fh9 (by omega) hh9 (adv_nohd hadv hw_5 c_6) (by omega) _ _ hP hD hS ls (lv_sub hl [0, 1, 2] rfl)
        · have b_7 := gn_ne (X := (Int32.toInt r_5)) (C := (Int32.toInt n)) rfl rfl c_6
          obtain ⟨a9, ha9, ea9⟩ := hh9 k9 (by omega)
          obtain ⟨b9, hb9, eb9⟩ := hfl k9 (by omega)
          obtain ⟨hlt9, hev9⟩ := hd_yes hw_5 (by rw [c_6]; exact hne)
          rw [ea9, nI_clamp (by omega)] at hlt9 hev9
          rw [eb9, nI_clamp (by omega)] at hlt9
          refine lv_aload_n hx hb dX4_take_19 rfl (lv_at hl 1 rfl) ?_
          refine va_get (D := (dC, dI)) (ci := 4) (v := .ref g1) (C := RX4) (T := TX4) (N := 4) hx hb hts inB_4 hown hK hP 0 rfl rfl 1 (by decide) (hts _ mw_1_34) (fun _ h9 => h9) rfl dX4_take_20 ?_
          refine lv_iload_n hx hb dX4_take_23 rfl (lv_at hl 0 rfl) ?_
          refine lv_dup2_11 hx hb dX4_take_24 rfl rfl ?_
          refine va_iald hx hb hK hP 2 1 rfl rfl (show vp_in (nI k9) 4 from vp_in_nI (by omega) (by omega)) dX4_take_25 ?_
          refine hx_top (y := (fh9 k9)) (congrArg _ (nI_clamp (by omega))) ?_
          refine hx_top (y := (nI a9)) ea9 ?_
          refine lv_iconst (v := 1) hx hb dX4_take_26 (by decide) ?_
          refine lv_iadd hx hb dX4_take_27 ?_
          refine hx_top (y := (nI (a9 + 1))) (nI_add a9 1) ?_
          refine va_iast hx hb hK hP hD hS 2 1 rfl rfl (show vp_in (nI k9) 4 from vp_in_nI (by omega) (by omega)) dX4_take_28 (fun H locs hP hD hS => ?_)
          obtain ⟨f_8, ef_8⟩ : ∃ g : Nat → Int32, g = upd fh9 (Int32.toNatClampNeg (nI k9)) (nI (a9 + 1)) := ⟨_, rfl⟩
          rw [← ef_8] at hP hD
          have ef_8 : f_8 = upd fh9 k9 (nI (a9 + 1)) := by rw [ef_8, nI_clamp (by omega)]
          have pf_8 : BdOk 4 10 f_8 := by rw [ef_8]; exact bd_upd (z := (a9 + 1)) hh9 (by omega)
          have hP : va_P (dC, dI) vwCl [(h0, .inr (4, [.ref g0, .ref g1, .ref g2, .int (nI rc)])), (g0, .inl (kg0, 40, .inl fc)), (g1, .inl (kg1, 4, .inl f_8)), (g2, .inl (kg2, 4, .inl fl))] H := hP
          have hD : va_D A [(h0, .inr (4, [.ref g0, .ref g1, .ref g2, .int (nI rc)])), (g0, .inl (kg0, 40, .inl fc)), (g1, .inl (kg1, 4, .inl f_8)), (g2, .inl (kg2, 4, .inl fl))] := hD
          refine lv_iinc (v := (nI (k9 + 1))) (lv' := [(2, .int (nI (k9 + 1))), (0, .ref h0), (1, .int n)]) hx hb dX4_take_29 hl (k := 0) rfl (nI_add k9 1) (by decide) rfl (fun ls hl => ?_)
          refine lv_goto (tgt := 2) hx hb dX4_take_32 (by decide) ?_
          exact ih_2 (k9 + 1) f_8 (by omega) pf_8 (adv_yes hadv ea9 eb9 hlt9 hb9 (hev9.trans c_6) ef_8) (by omega) _ _ hP hD hS ls (lv_sub hl [0, 1, 2] rfl)
  exact key_1 ((rc - 0) + 1) 0 fh (by omega) hfh adv_0 (Nat.lt_succ_self _) _ _ hP hD hS ls (lv_sub hl [0, 1, 2] rfl)
