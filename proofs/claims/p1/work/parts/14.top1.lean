/-- what a fresh object answers to its first call -/
def F_kind (n : Int32) : Int32 := if 1 ≤ n.toInt then -1 else if n.toInt < 0 then -2 else 0
def F_say (n : Int32) : Int32 := if n.toInt < 33 then -2 else if 126 < n.toInt then -2 else 1
def F_name (n : Int32) : Int32 := if n.toInt < 0 then -1 else if 7 < n.toInt then -1 else 0
def F_settle (n w : Int32) : Int32 := if n.toInt < 0 then -1 else if 7 < n.toInt then -1 else if w.toInt < 0 then -2 else if 1 < w.toInt then -2 else 0
def F_column (n : Int32) : Int32 := if n.toInt = -1 then 0 else if n.toInt < 0 then -1 else if 7 < n.toInt then -1 else -6
def F_packed (n : Int32) : Int32 := if n.toInt = -1 then 0 else -1
def F_slot (n : Int32) : Int32 := if n.toInt < 0 then -2 else if 99 < n.toInt then -2 else -6
def F_size (n v : Int32) : Int32 := if n.toInt < 0 then -1 else if 3 < n.toInt then -1 else if v.toInt < 1 then -2 else if 4 < v.toInt then -2 else 1
def F_hits (n w : Int32) : Int32 := if n.toInt < 0 then -1 else if 3 < n.toInt then -1 else if w.toInt < 0 then -2 else if w.toInt ≤ 2 then 0 else if w.toInt < 10 then -2 else if 13 < w.toInt then -2 else -6
def F_need (n h : Int32) : Int32 := if n.toInt < 0 then -1 else if 3 < n.toInt then -1 else if h.toInt < 0 then -2 else if 40 < h.toInt then -2 else if h.toInt = 0 then 1 else -6
def F_told (w : Int32) : Int32 := if w.toInt < 0 then -2 else if w.toInt ≤ 2 then 0 else if w.toInt < 10 then -2 else if 29 < w.toInt then -2 else 0
theorem mw_1_174 : Cond.laysFinal RX8 "AnswerLines" "kinds" "LAnswerLines$Kinds;" ∈ BG := mB (t1 (i := 174) (by decide +kernel)) (by decide +kernel)
theorem mw_1_176 : Cond.laysFinal RX8 "AnswerLines" "pad" "LAnswerLines$Pad;" ∈ BG := mB (t1 (i := 176) (by decide +kernel)) (by decide +kernel)
theorem mw_1_178 : Cond.laysFinal RX8 "AnswerLines" "bodies" "LAnswerLines$Bodies;" ∈ BG := mB (t1 (i := 178) (by decide +kernel)) (by decide +kernel)
theorem mw_1_180 : Cond.laysFinal RX8 "AnswerLines" "runner" "LAnswerLines$Runner;" ∈ BG := mB (t1 (i := 180) (by decide +kernel)) (by decide +kernel)
theorem mw_1_182 : Cond.laysFinal RX8 "AnswerLines" "table" "LAnswerLines$Table;" ∈ BG := mB (t1 (i := 182) (by decide +kernel)) (by decide +kernel)
theorem mw_1_184 : Cond.laysFinal RX8 "AnswerLines" "places" "LAnswerLines$Places;" ∈ BG := mB (t1 (i := 184) (by decide +kernel)) (by decide +kernel)
theorem inB_8 : ∀ w ∈ u_ws RX8 TX8 6, w ∈ BG := fun w hw => by
  obtain ⟨k, hk, rfl⟩ := List.mem_map.mp hw
  have hk := List.mem_range.mp hk
  rcases (by omega : k = 0 ∨ k = 1 ∨ k = 2 ∨ k = 3 ∨ k = 4 ∨ k = 5) with rfl | rfl | rfl | rfl | rfl | rfl
  · exact mw_1_174
  · exact mw_1_176
  · exact mw_1_178
  · exact mw_1_180
  · exact mw_1_182
  · exact mw_1_184
theorem mw_1_168 : Cond.fieldLink RX8 10 "AnswerLines" "kinds" "LAnswerLines$Kinds;" ∈ BG := mB (t1 (i := 168) (by decide +kernel)) (by decide +kernel)
theorem mw_1_195 : Cond.methodLink RX8 55 yX1_isFull ∈ BG := mB (t1 (i := 195) (by decide +kernel)) (by decide +kernel)
theorem mw_1_202 : Cond.code yX1_add cX1_add 8 (some .int) ∈ BG := mB (t1 (i := 202) rfl) (by decide +kernel)
theorem mw_1_199 : Cond.methodLink RX8 59 yX1_add ∈ BG := mB (t1 (i := 199) (by decide +kernel)) (by decide +kernel)
theorem mw_1_200 : Cond.instanceMethod yX1_add ∈ BG := mB (t1 (i := 200) (by decide +kernel)) (by decide +kernel)
theorem mw_1_201 : Cond.selects RX1 yX1_add yX1_add ∈ BG := mB (t1 (i := 201) (by decide +kernel)) (by decide +kernel)
theorem mw_1_191 : Cond.methodLink RX8 51 yX1_knows ∈ BG := mB (t1 (i := 191) (by decide +kernel)) (by decide +kernel)
theorem mw_1_169 : Cond.fieldLink RX8 19 "AnswerLines" "pad" "LAnswerLines$Pad;" ∈ BG := mB (t1 (i := 169) (by decide +kernel)) (by decide +kernel)
theorem mw_2_65 : Cond.methodLink RX8 90 yX2_isFull ∈ BG := mB (t2 (i := 65) (by decide +kernel)) (by decide +kernel)
theorem mw_2_72 : Cond.code yX2_put cX2_put 2 (some .int) ∈ BG := mB (t2 (i := 72) rfl) (by decide +kernel)
theorem mw_2_69 : Cond.methodLink RX8 91 yX2_put ∈ BG := mB (t2 (i := 69) (by decide +kernel)) (by decide +kernel)
theorem mw_2_70 : Cond.instanceMethod yX2_put ∈ BG := mB (t2 (i := 70) (by decide +kernel)) (by decide +kernel)
theorem mw_2_71 : Cond.selects RX2 yX2_put yX2_put ∈ BG := mB (t2 (i := 71) (by decide +kernel)) (by decide +kernel)
theorem mw_2_81 : Cond.code yX2_empty cX2_empty 2 (some .int) ∈ BG := mB (t2 (i := 81) rfl) (by decide +kernel)
theorem mw_2_78 : Cond.methodLink RX8 94 yX2_empty ∈ BG := mB (t2 (i := 78) (by decide +kernel)) (by decide +kernel)
theorem mw_2_79 : Cond.instanceMethod yX2_empty ∈ BG := mB (t2 (i := 79) (by decide +kernel)) (by decide +kernel)
theorem mw_2_80 : Cond.selects RX2 yX2_empty yX2_empty ∈ BG := mB (t2 (i := 80) (by decide +kernel)) (by decide +kernel)
theorem mw_2_89 : Cond.code yX2_firstFault cX2_firstFault 2 (some .int) ∈ BG := mB (t2 (i := 89) rfl) (by decide +kernel)
theorem mw_2_86 : Cond.methodLink RX8 98 yX2_firstFault ∈ BG := mB (t2 (i := 86) (by decide +kernel)) (by decide +kernel)
theorem mw_2_87 : Cond.instanceMethod yX2_firstFault ∈ BG := mB (t2 (i := 87) (by decide +kernel)) (by decide +kernel)
theorem mw_2_88 : Cond.selects RX2 yX2_firstFault yX2_firstFault ∈ BG := mB (t2 (i := 88) (by decide +kernel)) (by decide +kernel)
theorem dX8_kind_0 : decode cX8_kind 0 = .ok (.iload_n 1, 1) := by decide +kernel
theorem dX8_kind_1 : decode cX8_kind 1 = .ok (.iconst 1, 1) := by decide +kernel
theorem dX8_kind_2 : decode cX8_kind 2 = .ok (.if_icmp .lt 16, 3) := by decide +kernel
theorem dX8_kind_18 : decode cX8_kind 18 = .ok (.iload_n 1, 1) := by decide +kernel
theorem dX8_kind_19 : decode cX8_kind 19 = .ok (.iconst 2, 1) := by decide +kernel
theorem dX8_kind_20 : decode cX8_kind 20 = .ok (.if_icmp .lt 21, 3) := by decide +kernel
theorem dX8_kind_41 : decode cX8_kind 41 = .ok (.iload_n 1, 1) := by decide +kernel
theorem dX8_kind_42 : decode cX8_kind 42 = .ok (.iconst 3, 1) := by decide +kernel
theorem dX8_kind_43 : decode cX8_kind 43 = .ok (.if_icmp .lt 29, 3) := by decide +kernel
theorem dX8_kind_72 : decode cX8_kind 72 = .ok (.iload_n 1, 1) := by decide +kernel
theorem dX8_kind_73 : decode cX8_kind 73 = .ok (.ifCond .lt 8, 3) := by decide +kernel
theorem dX8_kind_81 : decode cX8_kind 81 = .ok (.bipush (-2), 2) := by decide +kernel
theorem dX8_kind_83 : decode cX8_kind 83 = .ok (.ireturn, 1) := by decide +kernel
theorem dX8_kind_76 : decode cX8_kind 76 = .ok (.iload_n 1, 1) := by decide +kernel
theorem dX8_kind_77 : decode cX8_kind 77 = .ok (.iconst 3, 1) := by decide +kernel
theorem dX8_kind_78 : decode cX8_kind 78 = .ok (.if_icmp .le 6, 3) := by decide +kernel
theorem dX8_kind_84 : decode cX8_kind 84 = .ok (.aload_n 0, 1) := by decide +kernel
theorem dX8_kind_85 : decode cX8_kind 85 = .ok (.getfield 10, 3) := by decide +kernel
theorem dX8_kind_88 : decode cX8_kind 88 = .ok (.invokevirtual 55, 3) := by decide +kernel
theorem dX8_kind_91 : decode cX8_kind 91 = .ok (.ifCond .eq 6, 3) := by decide +kernel
theorem dX8_kind_97 : decode cX8_kind 97 = .ok (.aload_n 0, 1) := by decide +kernel
theorem dX8_kind_98 : decode cX8_kind 98 = .ok (.getfield 10, 3) := by decide +kernel
theorem dX8_kind_101 : decode cX8_kind 101 = .ok (.iload_n 1, 1) := by decide +kernel
theorem dX8_kind_102 : decode cX8_kind 102 = .ok (.iload_n 2, 1) := by decide +kernel
theorem dX8_kind_103 : decode cX8_kind 103 = .ok (.iload_n 3, 1) := by decide +kernel
theorem dX8_kind_104 : decode cX8_kind 104 = .ok (.iload 4, 2) := by decide +kernel
theorem dX8_kind_106 : decode cX8_kind 106 = .ok (.invokevirtual 59, 3) := by decide +kernel
theorem dX8_kind_109 : decode cX8_kind 109 = .ok (.ireturn, 1) := by decide +kernel
theorem dX8_kind_5 : decode cX8_kind 5 = .ok (.aload_n 0, 1) := by decide +kernel
theorem dX8_kind_6 : decode cX8_kind 6 = .ok (.getfield 10, 3) := by decide +kernel
theorem dX8_kind_9 : decode cX8_kind 9 = .ok (.iload_n 2, 1) := by decide +kernel
theorem dX8_kind_10 : decode cX8_kind 10 = .ok (.invokevirtual 51, 3) := by decide +kernel
theorem dX8_kind_13 : decode cX8_kind 13 = .ok (.ifCond .ne 5, 3) := by decide +kernel
theorem dX8_kind_16 : decode cX8_kind 16 = .ok (.iconst (-1), 1) := by decide +kernel
theorem dX8_kind_17 : decode cX8_kind 17 = .ok (.ireturn, 1) := by decide +kernel
theorem dX8_bare_0 : decode cX8_bare 0 = .ok (.aload_n 0, 1) := by decide +kernel
theorem dX8_bare_1 : decode cX8_bare 1 = .ok (.getfield 10, 3) := by decide +kernel
theorem dX8_bare_4 : decode cX8_bare 4 = .ok (.iload_n 1, 1) := by decide +kernel
theorem dX8_bare_5 : decode cX8_bare 5 = .ok (.invokevirtual 51, 3) := by decide +kernel
theorem dX8_bare_8 : decode cX8_bare 8 = .ok (.ifCond .ne 5, 3) := by decide +kernel
theorem dX8_bare_11 : decode cX8_bare 11 = .ok (.iconst (-1), 1) := by decide +kernel
theorem dX8_bare_12 : decode cX8_bare 12 = .ok (.ireturn, 1) := by decide +kernel
theorem dX8_of_0 : decode cX8_of 0 = .ok (.aload_n 0, 1) := by decide +kernel
theorem dX8_of_1 : decode cX8_of 1 = .ok (.getfield 10, 3) := by decide +kernel
theorem dX8_of_4 : decode cX8_of 4 = .ok (.iload_n 1, 1) := by decide +kernel
theorem dX8_of_5 : decode cX8_of 5 = .ok (.invokevirtual 51, 3) := by decide +kernel
theorem dX8_of_8 : decode cX8_of 8 = .ok (.ifCond .ne 5, 3) := by decide +kernel
theorem dX8_of_11 : decode cX8_of 11 = .ok (.iconst (-1), 1) := by decide +kernel
theorem dX8_of_12 : decode cX8_of 12 = .ok (.ireturn, 1) := by decide +kernel
theorem dX8_line_0 : decode cX8_line 0 = .ok (.aload_n 0, 1) := by decide +kernel
theorem dX8_line_1 : decode cX8_line 1 = .ok (.getfield 10, 3) := by decide +kernel
theorem dX8_line_4 : decode cX8_line 4 = .ok (.iload_n 1, 1) := by decide +kernel
theorem dX8_line_5 : decode cX8_line 5 = .ok (.invokevirtual 51, 3) := by decide +kernel
theorem dX8_line_8 : decode cX8_line 8 = .ok (.ifCond .ne 5, 3) := by decide +kernel
theorem dX8_line_11 : decode cX8_line 11 = .ok (.iconst (-1), 1) := by decide +kernel
theorem dX8_line_12 : decode cX8_line 12 = .ok (.ireturn, 1) := by decide +kernel
theorem dX8_quarrel_0 : decode cX8_quarrel 0 = .ok (.aload_n 0, 1) := by decide +kernel
theorem dX8_quarrel_1 : decode cX8_quarrel 1 = .ok (.getfield 10, 3) := by decide +kernel
theorem dX8_quarrel_4 : decode cX8_quarrel 4 = .ok (.iload_n 1, 1) := by decide +kernel
theorem dX8_quarrel_5 : decode cX8_quarrel 5 = .ok (.invokevirtual 51, 3) := by decide +kernel
theorem dX8_quarrel_8 : decode cX8_quarrel 8 = .ok (.ifCond .ne 5, 3) := by decide +kernel
theorem dX8_quarrel_11 : decode cX8_quarrel 11 = .ok (.iconst (-1), 1) := by decide +kernel
theorem dX8_quarrel_12 : decode cX8_quarrel 12 = .ok (.ireturn, 1) := by decide +kernel
theorem dX8_say_0 : decode cX8_say 0 = .ok (.iload_n 1, 1) := by decide +kernel
theorem dX8_say_1 : decode cX8_say 1 = .ok (.bipush 33, 2) := by decide +kernel
theorem dX8_say_3 : decode cX8_say 3 = .ok (.if_icmp .lt 9, 3) := by decide +kernel
theorem dX8_say_12 : decode cX8_say 12 = .ok (.bipush (-2), 2) := by decide +kernel
theorem dX8_say_14 : decode cX8_say 14 = .ok (.ireturn, 1) := by decide +kernel
theorem dX8_say_6 : decode cX8_say 6 = .ok (.iload_n 1, 1) := by decide +kernel
theorem dX8_say_7 : decode cX8_say 7 = .ok (.bipush 126, 2) := by decide +kernel
theorem dX8_say_9 : decode cX8_say 9 = .ok (.if_icmp .le 6, 3) := by decide +kernel
theorem dX8_say_15 : decode cX8_say 15 = .ok (.aload_n 0, 1) := by decide +kernel
theorem dX8_say_16 : decode cX8_say 16 = .ok (.getfield 19, 3) := by decide +kernel
theorem dX8_say_19 : decode cX8_say 19 = .ok (.invokevirtual 90, 3) := by decide +kernel
theorem dX8_say_22 : decode cX8_say 22 = .ok (.ifCond .eq 6, 3) := by decide +kernel
theorem dX8_say_28 : decode cX8_say 28 = .ok (.aload_n 0, 1) := by decide +kernel
theorem dX8_say_29 : decode cX8_say 29 = .ok (.getfield 19, 3) := by decide +kernel
theorem dX8_say_32 : decode cX8_say 32 = .ok (.iload_n 1, 1) := by decide +kernel
theorem dX8_say_33 : decode cX8_say 33 = .ok (.invokevirtual 91, 3) := by decide +kernel
theorem dX8_say_36 : decode cX8_say 36 = .ok (.ireturn, 1) := by decide +kernel
theorem dX8_wipe_0 : decode cX8_wipe 0 = .ok (.aload_n 0, 1) := by decide +kernel
theorem dX8_wipe_1 : decode cX8_wipe 1 = .ok (.getfield 19, 3) := by decide +kernel
theorem dX8_wipe_4 : decode cX8_wipe 4 = .ok (.invokevirtual 94, 3) := by decide +kernel
theorem dX8_wipe_7 : decode cX8_wipe 7 = .ok (.ireturn, 1) := by decide +kernel
theorem dX8_fault_0 : decode cX8_fault 0 = .ok (.aload_n 0, 1) := by decide +kernel
theorem dX8_fault_1 : decode cX8_fault 1 = .ok (.getfield 19, 3) := by decide +kernel
theorem dX8_fault_4 : decode cX8_fault 4 = .ok (.invokevirtual 98, 3) := by decide +kernel
theorem dX8_fault_7 : decode cX8_fault 7 = .ok (.ireturn, 1) := by decide +kernel
theorem dX8_has_0 : decode cX8_has 0 = .ok (.aload_n 0, 1) := by decide +kernel
theorem dX8_has_1 : decode cX8_has 1 = .ok (.getfield 10, 3) := by decide +kernel
theorem dX8_has_4 : decode cX8_has 4 = .ok (.iload_n 1, 1) := by decide +kernel
theorem dX8_has_5 : decode cX8_has 5 = .ok (.invokevirtual 51, 3) := by decide +kernel
theorem dX8_has_8 : decode cX8_has 8 = .ok (.ifCond .eq 10, 3) := by decide +kernel
theorem dX8_has_18 : decode cX8_has 18 = .ok (.iconst (-1), 1) := by decide +kernel
theorem dX8_has_19 : decode cX8_has 19 = .ok (.ireturn, 1) := by decide +kernel
theorem dX8_drop_0 : decode cX8_drop 0 = .ok (.aload_n 0, 1) := by decide +kernel
theorem dX8_drop_1 : decode cX8_drop 1 = .ok (.getfield 10, 3) := by decide +kernel
theorem dX8_drop_4 : decode cX8_drop 4 = .ok (.iload_n 1, 1) := by decide +kernel
theorem dX8_drop_5 : decode cX8_drop 5 = .ok (.invokevirtual 51, 3) := by decide +kernel
theorem dX8_drop_8 : decode cX8_drop 8 = .ok (.ifCond .eq 10, 3) := by decide +kernel
theorem dX8_drop_18 : decode cX8_drop 18 = .ok (.iconst (-1), 1) := by decide +kernel
theorem dX8_drop_19 : decode cX8_drop 19 = .ok (.ireturn, 1) := by decide +kernel
theorem dX8_answer_0 : decode cX8_answer 0 = .ok (.aload_n 0, 1) := by decide +kernel
theorem dX8_answer_1 : decode cX8_answer 1 = .ok (.getfield 10, 3) := by decide +kernel
theorem dX8_answer_4 : decode cX8_answer 4 = .ok (.iload_n 1, 1) := by decide +kernel
theorem dX8_answer_5 : decode cX8_answer 5 = .ok (.invokevirtual 51, 3) := by decide +kernel
theorem dX8_answer_8 : decode cX8_answer 8 = .ok (.ifCond .eq 10, 3) := by decide +kernel
theorem dX8_answer_18 : decode cX8_answer 18 = .ok (.iconst (-1), 1) := by decide +kernel
theorem dX8_answer_19 : decode cX8_answer 19 = .ok (.ireturn, 1) := by decide +kernel
theorem dX8_next_0 : decode cX8_next 0 = .ok (.aload_n 0, 1) := by decide +kernel
theorem dX8_next_1 : decode cX8_next 1 = .ok (.getfield 10, 3) := by decide +kernel
theorem dX8_next_4 : decode cX8_next 4 = .ok (.iload_n 1, 1) := by decide +kernel
theorem dX8_next_5 : decode cX8_next 5 = .ok (.invokevirtual 51, 3) := by decide +kernel
theorem dX8_next_8 : decode cX8_next 8 = .ok (.ifCond .eq 21, 3) := by decide +kernel
theorem dX8_next_29 : decode cX8_next 29 = .ok (.iconst (-1), 1) := by decide +kernel
theorem dX8_next_30 : decode cX8_next 30 = .ok (.ireturn, 1) := by decide +kernel
theorem dX8_run_0 : decode cX8_run 0 = .ok (.aload_n 0, 1) := by decide +kernel
theorem dX8_run_1 : decode cX8_run 1 = .ok (.getfield 10, 3) := by decide +kernel
theorem dX8_run_4 : decode cX8_run 4 = .ok (.iload_n 1, 1) := by decide +kernel
theorem dX8_run_5 : decode cX8_run 5 = .ok (.invokevirtual 51, 3) := by decide +kernel
theorem dX8_run_8 : decode cX8_run 8 = .ok (.ifCond .eq 10, 3) := by decide +kernel
theorem dX8_run_18 : decode cX8_run 18 = .ok (.iconst (-1), 1) := by decide +kernel
theorem dX8_run_19 : decode cX8_run 19 = .ok (.ireturn, 1) := by decide +kernel
theorem dX8_nearest_0 : decode cX8_nearest 0 = .ok (.aload_n 0, 1) := by decide +kernel
theorem dX8_nearest_1 : decode cX8_nearest 1 = .ok (.getfield 10, 3) := by decide +kernel
theorem dX8_nearest_4 : decode cX8_nearest 4 = .ok (.iload_n 1, 1) := by decide +kernel
theorem dX8_nearest_5 : decode cX8_nearest 5 = .ok (.invokevirtual 51, 3) := by decide +kernel
theorem dX8_nearest_8 : decode cX8_nearest 8 = .ok (.ifCond .eq 10, 3) := by decide +kernel
theorem dX8_nearest_18 : decode cX8_nearest 18 = .ok (.iconst (-1), 1) := by decide +kernel
theorem dX8_nearest_19 : decode cX8_nearest 19 = .ok (.ireturn, 1) := by decide +kernel
theorem dX8_shift_0 : decode cX8_shift 0 = .ok (.aload_n 0, 1) := by decide +kernel
theorem dX8_shift_1 : decode cX8_shift 1 = .ok (.getfield 10, 3) := by decide +kernel
theorem dX8_shift_4 : decode cX8_shift 4 = .ok (.iload_n 1, 1) := by decide +kernel
theorem dX8_shift_5 : decode cX8_shift 5 = .ok (.invokevirtual 51, 3) := by decide +kernel
theorem dX8_shift_8 : decode cX8_shift 8 = .ok (.ifCond .eq 10, 3) := by decide +kernel
theorem dX8_shift_18 : decode cX8_shift 18 = .ok (.iconst (-1), 1) := by decide +kernel
theorem dX8_shift_19 : decode cX8_shift 19 = .ok (.ireturn, 1) := by decide +kernel
theorem dX8_one_0 : decode cX8_one 0 = .ok (.aload_n 0, 1) := by decide +kernel
theorem dX8_one_1 : decode cX8_one 1 = .ok (.getfield 10, 3) := by decide +kernel
theorem dX8_one_4 : decode cX8_one 4 = .ok (.iload_n 1, 1) := by decide +kernel
theorem dX8_one_5 : decode cX8_one 5 = .ok (.invokevirtual 51, 3) := by decide +kernel
theorem dX8_one_8 : decode cX8_one 8 = .ok (.ifCond .eq 10, 3) := by decide +kernel
theorem dX8_one_18 : decode cX8_one 18 = .ok (.iconst (-1), 1) := by decide +kernel
theorem dX8_one_19 : decode cX8_one 19 = .ok (.ireturn, 1) := by decide +kernel
set_option maxHeartbeats 4000000 in
set_option maxRecDepth 100000 in
theorem x_kind (l : Launch) (dC : Nat → ClassId) (dI : Nat → Nat → Nat) (sz : Nat) (h0 : Nat) (p1 : Nat) (u1 : Value) (u2 : Value) (u3 : Value) (u4 : Value) (u5 : Value) (b0 : Nat) (b1 : Nat) (b2 : Nat) (b3 : Nat) (b4 : Nat) (r0 : Nat) (w7 : Value) (kb0 : ClassId) (kb1 : ClassId) (kb2 : ClassId) (kb3 : ClassId) (kb4 : ClassId) (y0 : Value) (a1 : Nat) (a2 : Nat) (ka1 : ClassId) (ka2 : ClassId) (n1 : Int32) (n2 : Int32) (n3 : Int32) (n4 : Int32)  : Met l yX8_kind (wq yX8_kind cX8_kind 5 (some .int)) ({ frames := 4, cells := 0, slots := 0, locals := 98 }) (va_Pc [.ref h0, .int n1, .int n2, .int n3, .int n4] (pcW dC dI [(kb0, .int), (kb1, .int), (kb2, .int), (kb3, .int), (kb4, .int), (ka1, .int), (ka2, .int)] [(h0, .inr (7, [.ref p1, u1, u2, u3, u4, u5])), (p1, .inr (1, [.ref b0, .ref b1, .ref b2, .ref b3, .ref b4, .ref r0, .int 0, w7])), (b0, .inl (kb0, 10, .inl (fun _ => 0))), (b1, .inl (kb1, 10, .inl (fun _ => 0))), (b2, .inl (kb2, 10, .inl (fun _ => 0))), (b3, .inl (kb3, 100, .inl (fun _ => 0))), (b4, .inl (kb4, 3, .inl (fun _ => 0))), (r0, .inr (4, [y0, .ref a1, .ref a2, .int 0])), (a1, .inl (ka1, 4, .inl (fun _ => 0))), (a2, .inl (ka2, 4, .inl (fun _ => 0)))] sz)) (va_Qi (fun (r : Int32) (_ : Unit) => r = F_kind n1) (fun _ _ => True) (va_A [(h0, .inr (7, [.ref p1, u1, u2, u3, u4, u5])), (p1, .inr (1, [.ref b0, .ref b1, .ref b2, .ref b3, .ref b4, .ref r0, .int 0, w7])), (b0, .inl (kb0, 10, .inl (fun _ => 0))), (b1, .inl (kb1, 10, .inl (fun _ => 0))), (b2, .inl (kb2, 10, .inl (fun _ => 0))), (b3, .inl (kb3, 100, .inl (fun _ => 0))), (b4, .inl (kb4, 3, .inl (fun _ => 0))), (r0, .inr (4, [y0, .ref a1, .ref a2, .int 0])), (a1, .inl (ka1, 4, .inl (fun _ => 0))), (a2, .inl (ka2, 4, .inl (fun _ => 0)))] sz)) 0 0 (va_A [(h0, .inr (7, [.ref p1, u1, u2, u3, u4, u5])), (p1, .inr (1, [.ref b0, .ref b1, .ref b2, .ref b3, .ref b4, .ref r0, .int 0, w7])), (b0, .inl (kb0, 10, .inl (fun _ => 0))), (b1, .inl (kb1, 10, .inl (fun _ => 0))), (b2, .inl (kb2, 10, .inl (fun _ => 0))), (b3, .inl (kb3, 100, .inl (fun _ => 0))), (b4, .inl (kb4, 3, .inl (fun _ => 0))), (r0, .inr (4, [y0, .ref a1, .ref a2, .int 0])), (a1, .inl (ka1, 4, .inl (fun _ => 0))), (a2, .inl (ka2, 4, .inl (fun _ => 0)))] sz) := by
  refine Met.ofW (cc := cX8_kind) (maxL := 5) (ret := (some .int)) (by decide) rfl ?_
  intro p e s m args below meth c s₁ B hml hv
  obtain ⟨rfl, hsz, hN, hP, hK, hD0⟩ := hv
  have hx := B.exec
  have hb := B.bytes
  have hr := B.returns
  have hts0 := atoms_spec (ws := (wq yX8_kind cX8_kind 5 (some .int))) B.pre
  have hts : ∀ w ∈ BG, w.before _ s = true := fun w h => hts0 w (List.mem_cons_of_mem _ h)
  have hown : s.vm.findClass RX8 = some m.cls := findClass_of_methodNamed B.named
  have hlocks := B.notSynchronized
  subst hsz
  have hD := hD0.self (sz := s.heap.size)
  generalize hAe : va_A [(h0, .inr (7, [.ref p1, u1, u2, u3, u4, u5])), (p1, .inr (1, [.ref b0, .ref b1, .ref b2, .ref b3, .ref b4, .ref r0, .int 0, w7])), (b0, .inl (kb0, 10, .inl (fun _ => 0))), (b1, .inl (kb1, 10, .inl (fun _ => 0))), (b2, .inl (kb2, 10, .inl (fun _ => 0))), (b3, .inl (kb3, 100, .inl (fun _ => 0))), (b4, .inl (kb4, 3, .inl (fun _ => 0))), (r0, .inr (4, [y0, .ref a1, .ref a2, .int 0])), (a1, .inl (ka1, 4, .inl (fun _ => 0))), (a2, .inl (ka2, 4, .inl (fun _ => 0)))] s.heap.size = A at hD ⊢
  have hA : ∀ q : Nat, s.heap.size ≤ q → A q := fun q h => by rw [← hAe]; exact Or.inr h
  have hS : va_S A s.heap s.heap [] := va_S.rf
  have hP : va_P (dC, dI) vwCl [(h0, .inr (7, [.ref p1, u1, u2, u3, u4, u5])), (p1, .inr (1, [.ref b0, .ref b1, .ref b2, .ref b3, .ref b4, .ref r0, .int 0, w7])), (b0, .inl (kb0, 10, .inl (fun _ => 0))), (b1, .inl (kb1, 10, .inl (fun _ => 0))), (b2, .inl (kb2, 10, .inl (fun _ => 0))), (b3, .inl (kb3, 100, .inl (fun _ => 0))), (b4, .inl (kb4, 3, .inl (fun _ => 0))), (r0, .inr (4, [y0, .ref a1, .ref a2, .int 0])), (a1, .inl (ka1, 4, .inl (fun _ => 0))), (a2, .inl (ka2, 4, .inl (fun _ => 0)))] s.heap := hP
  have hl := lv_entry ([.ref h0, .int n1, .int n2, .int n3, .int n4]) (n := 5) (Nat.le_of_ble_eq_true rfl)
  rw [lg_entry_eq]
  generalize (lg_sl ([.ref h0, .int n1, .int n2, .int n3, .int n4]) ++ List.replicate (5 - (lg_sl ([.ref h0, .int n1, .int n2, .int n3, .int n4])).length) Slot.unset).toArray = ls at hl ⊢
  have hl : lv_has ls 5 [(0, .ref h0), (1, .int n1), (2, .int n2), (3, .int n3), (4, .int n4)] := hl
  skip
  refine lv_iload_n hx hb dX8_kind_0 rfl (lv_at hl 1 rfl) ?_
  refine lv_iconst (v := 1) hx hb dX8_kind_1 (by decide) ?_
  refine lv_icmp_lt (tgt := 18) hx hb dX8_kind_2 (by decide) (fun c_1 => ?_) (fun c_1 => ?_)
  · have b_2 := fx_lt (x := n1) (C := 1) (by decide) c_1
    refine lv_iload_n hx hb dX8_kind_18 rfl (lv_at hl 1 rfl) ?_
    refine lv_iconst (v := 2) hx hb dX8_kind_19 (by decide) ?_
    refine lv_icmp_lt (tgt := 41) hx hb dX8_kind_20 (by decide) (fun _ => ?_) (fun h => absurd (fn_lt (x := n1) (C := 2) (by decide) h) (by omega))
    refine lv_iload_n hx hb dX8_kind_41 rfl (lv_at hl 1 rfl) ?_
    refine lv_iconst (v := 3) hx hb dX8_kind_42 (by decide) ?_
    refine lv_icmp_lt (tgt := 72) hx hb dX8_kind_43 (by decide) (fun _ => ?_) (fun h => absurd (fn_lt (x := n1) (C := 3) (by decide) h) (by omega))
    refine lv_iload_n hx hb dX8_kind_72 rfl (lv_at hl 1 rfl) ?_
    refine lv_if_lt (tgt := 81) hx hb dX8_kind_73 (by decide) (fun c_3 => ?_) (fun c_3 => ?_)
    · have b_4 := fx_lt (x := n1) (C := 0) (by decide) c_3
      refine lv_bipush (v := (-2)) hx hb dX8_kind_81 (by decide) ?_
      exact W.iret (v := (-2)) hx hb hr (fun t ht hW => ⟨⟨(-2), (), rfl, (by (unfold F_kind; repeat' split) <;> first | rfl | (exfalso; omega)), trivial⟩, hS.F ht⟩) hS.2.2 dX8_kind_83
    · have b_4 := fn_lt (x := n1) (C := 0) (by decide) c_3
      refine lv_iload_n hx hb dX8_kind_76 rfl (lv_at hl 1 rfl) ?_
      refine hx_top (y := 0) (fx_sing (C := 0) (by decide) (by omega)) ?_
      refine lv_iconst (v := 3) hx hb dX8_kind_77 (by decide) ?_
      refine lv_icmp_le (tgt := 84) hx hb dX8_kind_78 (by decide) (fun _ => ?_) (fun h => absurd (by decide) h)
      refine lv_aload_n hx hb dX8_kind_84 rfl (lv_at hl 0 rfl) ?_
      refine va_get (D := (dC, dI)) (ci := 7) (v := .ref p1) (C := RX8) (T := TX8) (N := 6) hx hb hts inB_8 hown hK hP 0 rfl rfl 0 (by decide) (hts _ mw_1_168) (fun _ h9 => h9) rfl dX8_kind_85 ?_
      have hPc := hP.sub (ws' := [(p1, .inr (1, [.ref b0, .ref b1, .ref b2, .ref b3, .ref b4, .ref r0, .int 0, w7]))]) [1] rfl
      have hDc := hD.sub (ws' := [(p1, .inr (1, [.ref b0, .ref b1, .ref b2, .ref b3, .ref b4, .ref r0, .int 0, w7]))]) [1] (by decide) rfl
      have hKc := hK.sub (tys' := []) [] rfl
      refine va_calli (va_runV (As := []) (rest := []) ⟨hx, hb, hml, hown, hts⟩ (c_isFull l dC dI s.heap.size p1 (.ref b0) (.ref b1) (.ref b2) (.ref b3) (.ref b4) (.ref r0) (w7)) (cwV 0 hts (gV mw_1_195 mw_1_196 mw_1_197 mw_1_2 mw_1_198) rfl rfl rfl (by decide +kernel) ⟨Nat.le_of_ble_eq_true rfl, Nat.le_of_ble_eq_true rfl⟩) ⟨pcW_blind, va_recv hKc hPc (ci := 1) (q0 := 0) rfl rfl, pcW_at hPc hKc hDc hN⟩ rfl rfl hl.1 rfl (lv_room (Nat.le_of_ble_eq_true rfl)) dX8_kind_88 ⟨Nat.le_of_ble_eq_true rfl, Nat.le_of_ble_eq_true rfl⟩) hS (fun q h1 h2 => absurd h2 (Nat.not_le.mpr h1)) (fun q h => hA q (Nat.le_trans hS.1 h)) (fun r_5 u t H1 locs ht hvm hw_5 hB hz1 hk1 hS => ?_)
      have hP := keepP hP hk1
      clear hz1 hk1 hB ht hvm hPc hDc hKc
      generalize H1 = H at hP hS ⊢
      obtain rfl : r_5 = 0 := hw_5
      refine lv_if_eq (tgt := 97) hx hb dX8_kind_91 (by decide) (fun _ => ?_) (fun h => absurd (by decide) h)
      refine lv_aload_n hx hb dX8_kind_97 rfl (lv_at hl 0 rfl) ?_
      refine va_get (D := (dC, dI)) (ci := 7) (v := .ref p1) (C := RX8) (T := TX8) (N := 6) hx hb hts inB_8 hown hK hP 0 rfl rfl 0 (by decide) (hts _ mw_1_168) (fun _ h9 => h9) rfl dX8_kind_98 ?_
      refine lv_iload_n hx hb dX8_kind_101 rfl (lv_at hl 1 rfl) ?_
      refine hx_top (y := 0) (fx_sing (C := 0) (by decide) (by omega)) ?_
      refine lv_iload_n hx hb dX8_kind_102 rfl (lv_at hl 2 rfl) ?_
      refine lv_iload_n hx hb dX8_kind_103 rfl (lv_at hl 3 rfl) ?_
      refine lv_iload hx hb dX8_kind_104 (lv_at hl 4 rfl) ?_
      have hPc := hP.sub (ws' := [(p1, .inr (1, [.ref b0, .ref b1, .ref b2, .ref b3, .ref b4, .ref r0, .int 0, w7])), (b0, .inl (kb0, 10, .inl (fun _ => 0))), (b1, .inl (kb1, 10, .inl (fun _ => 0))), (b2, .inl (kb2, 10, .inl (fun _ => 0))), (b3, .inl (kb3, 100, .inl (fun _ => 0))), (b4, .inl (kb4, 3, .inl (fun _ => 0))), (r0, .inr (4, [y0, .ref a1, .ref a2, .int 0])), (a1, .inl (ka1, 4, .inl (fun _ => 0))), (a2, .inl (ka2, 4, .inl (fun _ => 0)))]) [1, 2, 3, 4, 5, 6, 7, 8, 9] rfl
      have hDc := hD.sub (ws' := [(p1, .inr (1, [.ref b0, .ref b1, .ref b2, .ref b3, .ref b4, .ref r0, .int 0, w7])), (b0, .inl (kb0, 10, .inl (fun _ => 0))), (b1, .inl (kb1, 10, .inl (fun _ => 0))), (b2, .inl (kb2, 10, .inl (fun _ => 0))), (b3, .inl (kb3, 100, .inl (fun _ => 0))), (b4, .inl (kb4, 3, .inl (fun _ => 0))), (r0, .inr (4, [y0, .ref a1, .ref a2, .int 0])), (a1, .inl (ka1, 4, .inl (fun _ => 0))), (a2, .inl (ka2, 4, .inl (fun _ => 0)))]) [1, 2, 3, 4, 5, 6, 7, 8, 9] (by decide) rfl
      have hKc := hK.sub (tys' := [(kb0, .int), (kb1, .int), (kb2, .int), (kb3, .int), (kb4, .int), (ka1, .int), (ka2, .int)]) [0, 1, 2, 3, 4, 5, 6] rfl
      have hFc := va_free (wc := [(p1, .inr (1, [.ref b0, .ref b1, .ref b2, .ref b3, .ref b4, .ref r0, .int 0, w7])), (b0, .inl (kb0, 10, .inl (fun _ => 0))), (b1, .inl (kb1, 10, .inl (fun _ => 0))), (b2, .inl (kb2, 10, .inl (fun _ => 0))), (b3, .inl (kb3, 100, .inl (fun _ => 0))), (b4, .inl (kb4, 3, .inl (fun _ => 0))), (r0, .inr (4, [y0, .ref a1, .ref a2, .int 0])), (a1, .inl (ka1, 4, .inl (fun _ => 0))), (a2, .inl (ka2, 4, .inl (fun _ => 0)))]) hD hS hA [1, 2, 3, 4, 5, 6, 7, 8, 9] rfl
      refine va_calli (va_runV (As := [.int 0, .int n2, .int n3, .int n4]) (rest := []) ⟨hx, hb, hml, hown, hts⟩ (c_add l dC dI H.size p1 b0 b1 b2 b3 b4 r0 (w7) kb0 kb1 kb2 kb3 kb4 (y0) a1 a2 ka1 ka2 n2 n3 n4) (cwV 4 hts (gV mw_1_199 mw_1_200 mw_1_201 mw_1_2 mw_1_202) rfl rfl rfl (by decide +kernel) ⟨Nat.le_of_ble_eq_true rfl, Nat.le_of_ble_eq_true rfl⟩) ⟨pcW_blind, va_recv hKc hPc (ci := 1) (q0 := 0) rfl rfl, pcW_at hPc hKc hDc hN⟩ rfl rfl hl.1 rfl (lv_room (Nat.le_of_ble_eq_true rfl)) dX8_kind_106 ⟨Nat.le_of_ble_eq_true rfl, Nat.le_of_ble_eq_true rfl⟩) hS (fun q _ h => hFc q h) hFc (fun r_6 u t H1 locs ht hvm hw_6 hB hz1 hk1 hS => ?_)
      obtain ⟨hP, hD⟩ := va_join (wr := [(h0, .inr (7, [.ref p1, u1, u2, u3, u4, u5]))]) (w1 := []) hP hD [1, 2, 3, 4, 5, 6, 7, 8, 9] [0] rfl rfl (by decide) (by decide) hk1 hFc nilP nilD
      rw [List.append_nil] at hP hD
      clear hz1 hk1 hPc hDc hKc hFc
      generalize H1 = H at hP hS ⊢
      have hK : va_K (dC, dI) vwCl [(kb0, .int), (kb1, .int), (kb2, .int), (kb3, .int), (kb4, .int), (ka1, .int), (ka2, .int)] s := hK
      have hP : va_P (dC, dI) vwCl [(h0, .inr (7, [.ref p1, u1, u2, u3, u4, u5]))] H := hP
      have hD : va_D A [(h0, .inr (7, [.ref p1, u1, u2, u3, u4, u5]))] := hD
      obtain rfl : r_6 = 0 := hw_6
      exact W.iret (v := 0) hx hb hr (fun t ht hW => ⟨⟨0, (), rfl, (by (unfold F_kind; repeat' split) <;> first | rfl | (exfalso; omega)), trivial⟩, hS.F ht⟩) hS.2.2 dX8_kind_109
  · have b_2 := fn_lt (x := n1) (C := 1) (by decide) c_1
    refine lv_aload_n hx hb dX8_kind_5 rfl (lv_at hl 0 rfl) ?_
    refine va_get (D := (dC, dI)) (ci := 7) (v := .ref p1) (C := RX8) (T := TX8) (N := 6) hx hb hts inB_8 hown hK hP 0 rfl rfl 0 (by decide) (hts _ mw_1_168) (fun _ h9 => h9) rfl dX8_kind_6 ?_
    refine lv_iload_n hx hb dX8_kind_9 rfl (lv_at hl 2 rfl) ?_
    have hPc := hP.sub (ws' := [(p1, .inr (1, [.ref b0, .ref b1, .ref b2, .ref b3, .ref b4, .ref r0, .int 0, w7]))]) [1] rfl
    have hDc := hD.sub (ws' := [(p1, .inr (1, [.ref b0, .ref b1, .ref b2, .ref b3, .ref b4, .ref r0, .int 0, w7]))]) [1] (by decide) rfl
    have hKc := hK.sub (tys' := []) [] rfl
    refine va_calli (va_runV (As := [.int n2]) (rest := []) ⟨hx, hb, hml, hown, hts⟩ (c_knows0 l dC dI s.heap.size p1 (.ref b0) (.ref b1) (.ref b2) (.ref b3) (.ref b4) (.ref r0) (w7) n2) (cwV 1 hts (gV mw_1_191 mw_1_192 mw_1_193 mw_1_2 mw_1_194) rfl rfl rfl (by decide +kernel) ⟨Nat.le_of_ble_eq_true rfl, Nat.le_of_ble_eq_true rfl⟩) ⟨pcW_blind, va_recv hKc hPc (ci := 1) (q0 := 0) rfl rfl, pcW_at hPc hKc hDc hN⟩ rfl rfl hl.1 rfl (lv_room (Nat.le_of_ble_eq_true rfl)) dX8_kind_10 ⟨Nat.le_of_ble_eq_true rfl, Nat.le_of_ble_eq_true rfl⟩) hS (fun q h1 h2 => absurd h2 (Nat.not_le.mpr h1)) (fun q h => hA q (Nat.le_trans hS.1 h)) (fun r_7 u t H1 locs ht hvm hw_7 hB hz1 hk1 hS => ?_)
    have hP := keepP hP hk1
    clear hz1 hk1 hB ht hvm hPc hDc hKc
    generalize H1 = H at hP hS ⊢
    obtain rfl : r_7 = 0 := hw_7
    refine lv_if_ne (tgt := 18) hx hb dX8_kind_13 (by decide) (fun h => absurd h (by decide)) (fun _ => ?_)
    refine lv_iconst (v := (-1)) hx hb dX8_kind_16 (by decide) ?_
    exact W.iret (v := (-1)) hx hb hr (fun t ht hW => ⟨⟨(-1), (), rfl, (by (unfold F_kind; repeat' split) <;> first | rfl | (exfalso; omega)), trivial⟩, hS.F ht⟩) hS.2.2 dX8_kind_17
set_option maxHeartbeats 4000000 in
set_option maxRecDepth 100000 in
theorem x_bare (l : Launch) (dC : Nat → ClassId) (dI : Nat → Nat → Nat) (sz : Nat) (h0 : Nat) (p1 : Nat) (u1 : Value) (u2 : Value) (u3 : Value) (u4 : Value) (u5 : Value) (w0 : Value) (w1 : Value) (w2 : Value) (w3 : Value) (w4 : Value) (w5 : Value) (w7 : Value) (n1 : Int32) (n2 : Int32)  : Met l yX8_bare (wq yX8_bare cX8_bare 4 (some .int)) ({ frames := 1, cells := 0, slots := 0, locals := 21 }) (va_Pc [.ref h0, .int n1, .int n2] (pcW dC dI [] [(h0, .inr (7, [.ref p1, u1, u2, u3, u4, u5])), (p1, .inr (1, [w0, w1, w2, w3, w4, w5, .int 0, w7]))] sz)) (va_Qi (fun (r : Int32) (_ : Unit) => r = (-1)) (fun _ _ => True) (fun q : Nat => sz ≤ q)) 0 0 (fun q : Nat => sz ≤ q) := by
  refine Met.ofW (cc := cX8_bare) (maxL := 4) (ret := (some .int)) (by decide) rfl ?_
  intro p e s m args below meth c s₁ B hml hv
  obtain ⟨rfl, hsz, hN, hP, hK, hD0⟩ := hv
  have hx := B.exec
  have hb := B.bytes
  have hr := B.returns
  have hts0 := atoms_spec (ws := (wq yX8_bare cX8_bare 4 (some .int))) B.pre
  have hts : ∀ w ∈ BG, w.before _ s = true := fun w h => hts0 w (List.mem_cons_of_mem _ h)
  have hown : s.vm.findClass RX8 = some m.cls := findClass_of_methodNamed B.named
  have hlocks := B.notSynchronized
  subst hsz
  have hA : ∀ q : Nat, s.heap.size ≤ q → (fun q : Nat => s.heap.size ≤ q) q := fun _ h => h
  have hD := hD0
  have hS : va_S (fun q : Nat => s.heap.size ≤ q) s.heap s.heap [] := va_S.rf
  have hP : va_P (dC, dI) vwCl [(h0, .inr (7, [.ref p1, u1, u2, u3, u4, u5])), (p1, .inr (1, [w0, w1, w2, w3, w4, w5, .int 0, w7]))] s.heap := hP
  have hl := lv_entry ([.ref h0, .int n1, .int n2]) (n := 4) (Nat.le_of_ble_eq_true rfl)
  rw [lg_entry_eq]
  generalize (lg_sl ([.ref h0, .int n1, .int n2]) ++ List.replicate (4 - (lg_sl ([.ref h0, .int n1, .int n2])).length) Slot.unset).toArray = ls at hl ⊢
  have hl : lv_has ls 4 [(0, .ref h0), (1, .int n1), (2, .int n2)] := hl
  skip
  refine lv_aload_n hx hb dX8_bare_0 rfl (lv_at hl 0 rfl) ?_
  refine va_get (D := (dC, dI)) (ci := 7) (v := .ref p1) (C := RX8) (T := TX8) (N := 6) hx hb hts inB_8 hown hK hP 0 rfl rfl 0 (by decide) (hts _ mw_1_168) (fun _ h9 => h9) rfl dX8_bare_1 ?_
  refine lv_iload_n hx hb dX8_bare_4 rfl (lv_at hl 1 rfl) ?_
  have hPc := hP.sub (ws' := [(p1, .inr (1, [w0, w1, w2, w3, w4, w5, .int 0, w7]))]) [1] rfl
  have hDc := hD.sub (ws' := [(p1, .inr (1, [w0, w1, w2, w3, w4, w5, .int 0, w7]))]) [1] (by decide) rfl
  have hKc := hK.sub (tys' := []) [] rfl
  refine va_calli (va_runV (As := [.int n1]) (rest := []) ⟨hx, hb, hml, hown, hts⟩ (c_knows0 l dC dI s.heap.size p1 (w0) (w1) (w2) (w3) (w4) (w5) (w7) n1) (cwV 1 hts (gV mw_1_191 mw_1_192 mw_1_193 mw_1_2 mw_1_194) rfl rfl rfl (by decide +kernel) ⟨Nat.le_of_ble_eq_true rfl, Nat.le_of_ble_eq_true rfl⟩) ⟨pcW_blind, va_recv hKc hPc (ci := 1) (q0 := 0) rfl rfl, pcW_at hPc hKc hDc hN⟩ rfl rfl hl.1 rfl (lv_room (Nat.le_of_ble_eq_true rfl)) dX8_bare_5 ⟨Nat.le_of_ble_eq_true rfl, Nat.le_of_ble_eq_true rfl⟩) hS (fun q h1 h2 => absurd h2 (Nat.not_le.mpr h1)) (fun q h => hA q (Nat.le_trans hS.1 h)) (fun r_1 u t H1 locs ht hvm hw_1 hB hz1 hk1 hS => ?_)
  have hP := keepP hP hk1
  clear hz1 hk1 hB ht hvm hPc hDc hKc
  generalize H1 = H at hP hS ⊢
  obtain rfl : r_1 = 0 := hw_1
  refine lv_if_ne (tgt := 13) hx hb dX8_bare_8 (by decide) (fun h => absurd h (by decide)) (fun _ => ?_)
  refine lv_iconst (v := (-1)) hx hb dX8_bare_11 (by decide) ?_
  exact W.iret (v := (-1)) hx hb hr (fun t ht hW => ⟨⟨(-1), (), rfl, rfl, trivial⟩, hS.F ht⟩) hS.2.2 dX8_bare_12
set_option maxHeartbeats 4000000 in
set_option maxRecDepth 100000 in
theorem x_of (l : Launch) (dC : Nat → ClassId) (dI : Nat → Nat → Nat) (sz : Nat) (h0 : Nat) (p1 : Nat) (u1 : Value) (u2 : Value) (u3 : Value) (u4 : Value) (u5 : Value) (w0 : Value) (w1 : Value) (w2 : Value) (w3 : Value) (w4 : Value) (w5 : Value) (w7 : Value) (n1 : Int32) (n2 : Int32)  : Met l yX8_of (wq yX8_of cX8_of 3 (some .int)) ({ frames := 1, cells := 0, slots := 0, locals := 21 }) (va_Pc [.ref h0, .int n1, .int n2] (pcW dC dI [] [(h0, .inr (7, [.ref p1, u1, u2, u3, u4, u5])), (p1, .inr (1, [w0, w1, w2, w3, w4, w5, .int 0, w7]))] sz)) (va_Qi (fun (r : Int32) (_ : Unit) => r = (-1)) (fun _ _ => True) (fun q : Nat => sz ≤ q)) 0 0 (fun q : Nat => sz ≤ q) := by
  refine Met.ofW (cc := cX8_of) (maxL := 3) (ret := (some .int)) (by decide) rfl ?_
  intro p e s m args below meth c s₁ B hml hv
  obtain ⟨rfl, hsz, hN, hP, hK, hD0⟩ := hv
  have hx := B.exec
  have hb := B.bytes
  have hr := B.returns
  have hts0 := atoms_spec (ws := (wq yX8_of cX8_of 3 (some .int))) B.pre
  have hts : ∀ w ∈ BG, w.before _ s = true := fun w h => hts0 w (List.mem_cons_of_mem _ h)
  have hown : s.vm.findClass RX8 = some m.cls := findClass_of_methodNamed B.named
  have hlocks := B.notSynchronized
  subst hsz
  have hA : ∀ q : Nat, s.heap.size ≤ q → (fun q : Nat => s.heap.size ≤ q) q := fun _ h => h
  have hD := hD0
  have hS : va_S (fun q : Nat => s.heap.size ≤ q) s.heap s.heap [] := va_S.rf
  have hP : va_P (dC, dI) vwCl [(h0, .inr (7, [.ref p1, u1, u2, u3, u4, u5])), (p1, .inr (1, [w0, w1, w2, w3, w4, w5, .int 0, w7]))] s.heap := hP
  have hl := lv_entry ([.ref h0, .int n1, .int n2]) (n := 3) (Nat.le_of_ble_eq_true rfl)
  rw [lg_entry_eq]
  generalize (lg_sl ([.ref h0, .int n1, .int n2]) ++ List.replicate (3 - (lg_sl ([.ref h0, .int n1, .int n2])).length) Slot.unset).toArray = ls at hl ⊢
  have hl : lv_has ls 3 [(0, .ref h0), (1, .int n1), (2, .int n2)] := hl
  skip
  refine lv_aload_n hx hb dX8_of_0 rfl (lv_at hl 0 rfl) ?_
  refine va_get (D := (dC, dI)) (ci := 7) (v := .ref p1) (C := RX8) (T := TX8) (N := 6) hx hb hts inB_8 hown hK hP 0 rfl rfl 0 (by decide) (hts _ mw_1_168) (fun _ h9 => h9) rfl dX8_of_1 ?_
  refine lv_iload_n hx hb dX8_of_4 rfl (lv_at hl 1 rfl) ?_
  have hPc := hP.sub (ws' := [(p1, .inr (1, [w0, w1, w2, w3, w4, w5, .int 0, w7]))]) [1] rfl
  have hDc := hD.sub (ws' := [(p1, .inr (1, [w0, w1, w2, w3, w4, w5, .int 0, w7]))]) [1] (by decide) rfl
  have hKc := hK.sub (tys' := []) [] rfl
  refine va_calli (va_runV (As := [.int n1]) (rest := []) ⟨hx, hb, hml, hown, hts⟩ (c_knows0 l dC dI s.heap.size p1 (w0) (w1) (w2) (w3) (w4) (w5) (w7) n1) (cwV 1 hts (gV mw_1_191 mw_1_192 mw_1_193 mw_1_2 mw_1_194) rfl rfl rfl (by decide +kernel) ⟨Nat.le_of_ble_eq_true rfl, Nat.le_of_ble_eq_true rfl⟩) ⟨pcW_blind, va_recv hKc hPc (ci := 1) (q0 := 0) rfl rfl, pcW_at hPc hKc hDc hN⟩ rfl rfl hl.1 rfl (lv_room (Nat.le_of_ble_eq_true rfl)) dX8_of_5 ⟨Nat.le_of_ble_eq_true rfl, Nat.le_of_ble_eq_true rfl⟩) hS (fun q h1 h2 => absurd h2 (Nat.not_le.mpr h1)) (fun q h => hA q (Nat.le_trans hS.1 h)) (fun r_1 u t H1 locs ht hvm hw_1 hB hz1 hk1 hS => ?_)
  have hP := keepP hP hk1
  clear hz1 hk1 hB ht hvm hPc hDc hKc
  generalize H1 = H at hP hS ⊢
  obtain rfl : r_1 = 0 := hw_1
  refine lv_if_ne (tgt := 13) hx hb dX8_of_8 (by decide) (fun h => absurd h (by decide)) (fun _ => ?_)
  refine lv_iconst (v := (-1)) hx hb dX8_of_11 (by decide) ?_
  exact W.iret (v := (-1)) hx hb hr (fun t ht hW => ⟨⟨(-1), (), rfl, rfl, trivial⟩, hS.F ht⟩) hS.2.2 dX8_of_12
set_option maxHeartbeats 4000000 in
set_option maxRecDepth 100000 in
theorem x_line (l : Launch) (dC : Nat → ClassId) (dI : Nat → Nat → Nat) (sz : Nat) (h0 : Nat) (p1 : Nat) (u1 : Value) (u2 : Value) (u3 : Value) (u4 : Value) (u5 : Value) (w0 : Value) (w1 : Value) (w2 : Value) (w3 : Value) (w4 : Value) (w5 : Value) (w7 : Value) (n1 : Int32) (n2 : Int32)  : Met l yX8_line (wq yX8_line cX8_line 3 (some .int)) ({ frames := 1, cells := 0, slots := 0, locals := 21 }) (va_Pc [.ref h0, .int n1, .int n2] (pcW dC dI [] [(h0, .inr (7, [.ref p1, u1, u2, u3, u4, u5])), (p1, .inr (1, [w0, w1, w2, w3, w4, w5, .int 0, w7]))] sz)) (va_Qi (fun (r : Int32) (_ : Unit) => r = (-1)) (fun _ _ => True) (fun q : Nat => sz ≤ q)) 0 0 (fun q : Nat => sz ≤ q) := by
  refine Met.ofW (cc := cX8_line) (maxL := 3) (ret := (some .int)) (by decide) rfl ?_
  intro p e s m args below meth c s₁ B hml hv
  obtain ⟨rfl, hsz, hN, hP, hK, hD0⟩ := hv
  have hx := B.exec
  have hb := B.bytes
  have hr := B.returns
  have hts0 := atoms_spec (ws := (wq yX8_line cX8_line 3 (some .int))) B.pre
  have hts : ∀ w ∈ BG, w.before _ s = true := fun w h => hts0 w (List.mem_cons_of_mem _ h)
  have hown : s.vm.findClass RX8 = some m.cls := findClass_of_methodNamed B.named
  have hlocks := B.notSynchronized
  subst hsz
  have hA : ∀ q : Nat, s.heap.size ≤ q → (fun q : Nat => s.heap.size ≤ q) q := fun _ h => h
  have hD := hD0
  have hS : va_S (fun q : Nat => s.heap.size ≤ q) s.heap s.heap [] := va_S.rf
  have hP : va_P (dC, dI) vwCl [(h0, .inr (7, [.ref p1, u1, u2, u3, u4, u5])), (p1, .inr (1, [w0, w1, w2, w3, w4, w5, .int 0, w7]))] s.heap := hP
  have hl := lv_entry ([.ref h0, .int n1, .int n2]) (n := 3) (Nat.le_of_ble_eq_true rfl)
  rw [lg_entry_eq]
  generalize (lg_sl ([.ref h0, .int n1, .int n2]) ++ List.replicate (3 - (lg_sl ([.ref h0, .int n1, .int n2])).length) Slot.unset).toArray = ls at hl ⊢
  have hl : lv_has ls 3 [(0, .ref h0), (1, .int n1), (2, .int n2)] := hl
  skip
  refine lv_aload_n hx hb dX8_line_0 rfl (lv_at hl 0 rfl) ?_
  refine va_get (D := (dC, dI)) (ci := 7) (v := .ref p1) (C := RX8) (T := TX8) (N := 6) hx hb hts inB_8 hown hK hP 0 rfl rfl 0 (by decide) (hts _ mw_1_168) (fun _ h9 => h9) rfl dX8_line_1 ?_
  refine lv_iload_n hx hb dX8_line_4 rfl (lv_at hl 1 rfl) ?_
  have hPc := hP.sub (ws' := [(p1, .inr (1, [w0, w1, w2, w3, w4, w5, .int 0, w7]))]) [1] rfl
  have hDc := hD.sub (ws' := [(p1, .inr (1, [w0, w1, w2, w3, w4, w5, .int 0, w7]))]) [1] (by decide) rfl
  have hKc := hK.sub (tys' := []) [] rfl
  refine va_calli (va_runV (As := [.int n1]) (rest := []) ⟨hx, hb, hml, hown, hts⟩ (c_knows0 l dC dI s.heap.size p1 (w0) (w1) (w2) (w3) (w4) (w5) (w7) n1) (cwV 1 hts (gV mw_1_191 mw_1_192 mw_1_193 mw_1_2 mw_1_194) rfl rfl rfl (by decide +kernel) ⟨Nat.le_of_ble_eq_true rfl, Nat.le_of_ble_eq_true rfl⟩) ⟨pcW_blind, va_recv hKc hPc (ci := 1) (q0 := 0) rfl rfl, pcW_at hPc hKc hDc hN⟩ rfl rfl hl.1 rfl (lv_room (Nat.le_of_ble_eq_true rfl)) dX8_line_5 ⟨Nat.le_of_ble_eq_true rfl, Nat.le_of_ble_eq_true rfl⟩) hS (fun q h1 h2 => absurd h2 (Nat.not_le.mpr h1)) (fun q h => hA q (Nat.le_trans hS.1 h)) (fun r_1 u t H1 locs ht hvm hw_1 hB hz1 hk1 hS => ?_)
  have hP := keepP hP hk1
  clear hz1 hk1 hB ht hvm hPc hDc hKc
  generalize H1 = H at hP hS ⊢
  obtain rfl : r_1 = 0 := hw_1
  refine lv_if_ne (tgt := 13) hx hb dX8_line_8 (by decide) (fun h => absurd h (by decide)) (fun _ => ?_)
  refine lv_iconst (v := (-1)) hx hb dX8_line_11 (by decide) ?_
  exact W.iret (v := (-1)) hx hb hr (fun t ht hW => ⟨⟨(-1), (), rfl, rfl, trivial⟩, hS.F ht⟩) hS.2.2 dX8_line_12
set_option maxHeartbeats 4000000 in
set_option maxRecDepth 100000 in
theorem x_quarrel (l : Launch) (dC : Nat → ClassId) (dI : Nat → Nat → Nat) (sz : Nat) (h0 : Nat) (p1 : Nat) (u1 : Value) (u2 : Value) (u3 : Value) (u4 : Value) (u5 : Value) (w0 : Value) (w1 : Value) (w2 : Value) (w3 : Value) (w4 : Value) (w5 : Value) (w7 : Value) (n1 : Int32)  : Met l yX8_quarrel (wq yX8_quarrel cX8_quarrel 2 (some .int)) ({ frames := 1, cells := 0, slots := 0, locals := 21 }) (va_Pc [.ref h0, .int n1] (pcW dC dI [] [(h0, .inr (7, [.ref p1, u1, u2, u3, u4, u5])), (p1, .inr (1, [w0, w1, w2, w3, w4, w5, .int 0, w7]))] sz)) (va_Qi (fun (r : Int32) (_ : Unit) => r = (-1)) (fun _ _ => True) (fun q : Nat => sz ≤ q)) 0 0 (fun q : Nat => sz ≤ q) := by
  refine Met.ofW (cc := cX8_quarrel) (maxL := 2) (ret := (some .int)) (by decide) rfl ?_
  intro p e s m args below meth c s₁ B hml hv
  obtain ⟨rfl, hsz, hN, hP, hK, hD0⟩ := hv
  have hx := B.exec
  have hb := B.bytes
  have hr := B.returns
  have hts0 := atoms_spec (ws := (wq yX8_quarrel cX8_quarrel 2 (some .int))) B.pre
  have hts : ∀ w ∈ BG, w.before _ s = true := fun w h => hts0 w (List.mem_cons_of_mem _ h)
  have hown : s.vm.findClass RX8 = some m.cls := findClass_of_methodNamed B.named
  have hlocks := B.notSynchronized
  subst hsz
  have hA : ∀ q : Nat, s.heap.size ≤ q → (fun q : Nat => s.heap.size ≤ q) q := fun _ h => h
  have hD := hD0
  have hS : va_S (fun q : Nat => s.heap.size ≤ q) s.heap s.heap [] := va_S.rf
  have hP : va_P (dC, dI) vwCl [(h0, .inr (7, [.ref p1, u1, u2, u3, u4, u5])), (p1, .inr (1, [w0, w1, w2, w3, w4, w5, .int 0, w7]))] s.heap := hP
  have hl := lv_entry ([.ref h0, .int n1]) (n := 2) (Nat.le_of_ble_eq_true rfl)
  rw [lg_entry_eq]
  generalize (lg_sl ([.ref h0, .int n1]) ++ List.replicate (2 - (lg_sl ([.ref h0, .int n1])).length) Slot.unset).toArray = ls at hl ⊢
  have hl : lv_has ls 2 [(0, .ref h0), (1, .int n1)] := hl
  skip
  refine lv_aload_n hx hb dX8_quarrel_0 rfl (lv_at hl 0 rfl) ?_
  refine va_get (D := (dC, dI)) (ci := 7) (v := .ref p1) (C := RX8) (T := TX8) (N := 6) hx hb hts inB_8 hown hK hP 0 rfl rfl 0 (by decide) (hts _ mw_1_168) (fun _ h9 => h9) rfl dX8_quarrel_1 ?_
  refine lv_iload_n hx hb dX8_quarrel_4 rfl (lv_at hl 1 rfl) ?_
  have hPc := hP.sub (ws' := [(p1, .inr (1, [w0, w1, w2, w3, w4, w5, .int 0, w7]))]) [1] rfl
  have hDc := hD.sub (ws' := [(p1, .inr (1, [w0, w1, w2, w3, w4, w5, .int 0, w7]))]) [1] (by decide) rfl
  have hKc := hK.sub (tys' := []) [] rfl
  refine va_calli (va_runV (As := [.int n1]) (rest := []) ⟨hx, hb, hml, hown, hts⟩ (c_knows0 l dC dI s.heap.size p1 (w0) (w1) (w2) (w3) (w4) (w5) (w7) n1) (cwV 1 hts (gV mw_1_191 mw_1_192 mw_1_193 mw_1_2 mw_1_194) rfl rfl rfl (by decide +kernel) ⟨Nat.le_of_ble_eq_true rfl, Nat.le_of_ble_eq_true rfl⟩) ⟨pcW_blind, va_recv hKc hPc (ci := 1) (q0 := 0) rfl rfl, pcW_at hPc hKc hDc hN⟩ rfl rfl hl.1 rfl (lv_room (Nat.le_of_ble_eq_true rfl)) dX8_quarrel_5 ⟨Nat.le_of_ble_eq_true rfl, Nat.le_of_ble_eq_true rfl⟩) hS (fun q h1 h2 => absurd h2 (Nat.not_le.mpr h1)) (fun q h => hA q (Nat.le_trans hS.1 h)) (fun r_1 u t H1 locs ht hvm hw_1 hB hz1 hk1 hS => ?_)
  have hP := keepP hP hk1
  clear hz1 hk1 hB ht hvm hPc hDc hKc
  generalize H1 = H at hP hS ⊢
  obtain rfl : r_1 = 0 := hw_1
  refine lv_if_ne (tgt := 13) hx hb dX8_quarrel_8 (by decide) (fun h => absurd h (by decide)) (fun _ => ?_)
  refine lv_iconst (v := (-1)) hx hb dX8_quarrel_11 (by decide) ?_
  exact W.iret (v := (-1)) hx hb hr (fun t ht hW => ⟨⟨(-1), (), rfl, rfl, trivial⟩, hS.F ht⟩) hS.2.2 dX8_quarrel_12
set_option maxHeartbeats 4000000 in
set_option maxRecDepth 100000 in
theorem x_say (l : Launch) (dC : Nat → ClassId) (dI : Nat → Nat → Nat) (sz : Nat) (h0 : Nat) (u0 : Value) (p2 : Nat) (u2 : Value) (u3 : Value) (u4 : Value) (u5 : Value) (d0 : Nat) (kd0 : ClassId) (n1 : Int32)  : Met l yX8_say (wq yX8_say cX8_say 2 (some .int)) ({ frames := 2, cells := 0, slots := 0, locals := 41 }) (va_Pc [.ref h0, .int n1] (pcW dC dI [(kd0, .char)] [(h0, .inr (7, [u0, .ref p2, u2, u3, u4, u5])), (p2, .inr (2, [.ref d0, .int 0])), (d0, .inl (kd0, 12, .inl (fun _ => 0)))] sz)) (va_Qi (fun (r : Int32) (_ : Unit) => r = F_say n1) (fun _ _ => True) (va_A [(h0, .inr (7, [u0, .ref p2, u2, u3, u4, u5])), (p2, .inr (2, [.ref d0, .int 0])), (d0, .inl (kd0, 12, .inl (fun _ => 0)))] sz)) 0 0 (va_A [(h0, .inr (7, [u0, .ref p2, u2, u3, u4, u5])), (p2, .inr (2, [.ref d0, .int 0])), (d0, .inl (kd0, 12, .inl (fun _ => 0)))] sz) := by
  refine Met.ofW (cc := cX8_say) (maxL := 2) (ret := (some .int)) (by decide) rfl ?_
  intro p e s m args below meth c s₁ B hml hv
  obtain ⟨rfl, hsz, hN, hP, hK, hD0⟩ := hv
  have hx := B.exec
  have hb := B.bytes
  have hr := B.returns
  have hts0 := atoms_spec (ws := (wq yX8_say cX8_say 2 (some .int))) B.pre
  have hts : ∀ w ∈ BG, w.before _ s = true := fun w h => hts0 w (List.mem_cons_of_mem _ h)
  have hown : s.vm.findClass RX8 = some m.cls := findClass_of_methodNamed B.named
  have hlocks := B.notSynchronized
  subst hsz
  have hD := hD0.self (sz := s.heap.size)
  generalize hAe : va_A [(h0, .inr (7, [u0, .ref p2, u2, u3, u4, u5])), (p2, .inr (2, [.ref d0, .int 0])), (d0, .inl (kd0, 12, .inl (fun _ => 0)))] s.heap.size = A at hD ⊢
  have hA : ∀ q : Nat, s.heap.size ≤ q → A q := fun q h => by rw [← hAe]; exact Or.inr h
  have hS : va_S A s.heap s.heap [] := va_S.rf
  have hP : va_P (dC, dI) vwCl [(h0, .inr (7, [u0, .ref p2, u2, u3, u4, u5])), (p2, .inr (2, [.ref d0, .int 0])), (d0, .inl (kd0, 12, .inl (fun _ => 0)))] s.heap := hP
  have hl := lv_entry ([.ref h0, .int n1]) (n := 2) (Nat.le_of_ble_eq_true rfl)
  rw [lg_entry_eq]
  generalize (lg_sl ([.ref h0, .int n1]) ++ List.replicate (2 - (lg_sl ([.ref h0, .int n1])).length) Slot.unset).toArray = ls at hl ⊢
  have hl : lv_has ls 2 [(0, .ref h0), (1, .int n1)] := hl
  skip
  refine lv_iload_n hx hb dX8_say_0 rfl (lv_at hl 1 rfl) ?_
  refine lv_bipush (v := 33) hx hb dX8_say_1 (by decide) ?_
  refine lv_icmp_lt (tgt := 12) hx hb dX8_say_3 (by decide) (fun c_1 => ?_) (fun c_1 => ?_)
  · have b_2 := fx_lt (x := n1) (C := 33) (by decide) c_1
    refine lv_bipush (v := (-2)) hx hb dX8_say_12 (by decide) ?_
    exact W.iret (v := (-2)) hx hb hr (fun t ht hW => ⟨⟨(-2), (), rfl, (by (unfold F_say; repeat' split) <;> first | rfl | (exfalso; omega)), trivial⟩, hS.F ht⟩) hS.2.2 dX8_say_14
  · have b_2 := fn_lt (x := n1) (C := 33) (by decide) c_1
    refine lv_iload_n hx hb dX8_say_6 rfl (lv_at hl 1 rfl) ?_
    refine lv_bipush (v := 126) hx hb dX8_say_7 (by decide) ?_
    refine lv_icmp_le (tgt := 15) hx hb dX8_say_9 (by decide) (fun c_3 => ?_) (fun c_3 => ?_)
    · have b_4 := fx_le (x := n1) (C := 126) (by decide) c_3
      refine lv_aload_n hx hb dX8_say_15 rfl (lv_at hl 0 rfl) ?_
      refine va_get (D := (dC, dI)) (ci := 7) (v := .ref p2) (C := RX8) (T := TX8) (N := 6) hx hb hts inB_8 hown hK hP 0 rfl rfl 1 (by decide) (hts _ mw_1_169) (fun _ h9 => h9) rfl dX8_say_16 ?_
      have hPc := hP.sub (ws' := [(p2, .inr (2, [.ref d0, .int 0]))]) [1] rfl
      have hDc := hD.sub (ws' := [(p2, .inr (2, [.ref d0, .int 0]))]) [1] (by decide) rfl
      have hKc := hK.sub (tys' := []) [] rfl
      refine va_calli (va_runV (As := []) (rest := []) ⟨hx, hb, hml, hown, hts⟩ (c_pFull l dC dI s.heap.size p2 (.ref d0)) (cwV 0 hts (gV mw_2_65 mw_2_66 mw_2_67 mw_1_4 mw_2_68) rfl rfl rfl (by decide +kernel) ⟨Nat.le_of_ble_eq_true rfl, Nat.le_of_ble_eq_true rfl⟩) ⟨pcW_blind, va_recv hKc hPc (ci := 2) (q0 := 0) rfl rfl, pcW_at hPc hKc hDc hN⟩ rfl rfl hl.1 rfl (lv_room (Nat.le_of_ble_eq_true rfl)) dX8_say_19 ⟨Nat.le_of_ble_eq_true rfl, Nat.le_of_ble_eq_true rfl⟩) hS (fun q h1 h2 => absurd h2 (Nat.not_le.mpr h1)) (fun q h => hA q (Nat.le_trans hS.1 h)) (fun r_5 u t H1 locs ht hvm hw_5 hB hz1 hk1 hS => ?_)
      have hP := keepP hP hk1
      clear hz1 hk1 hB ht hvm hPc hDc hKc
      generalize H1 = H at hP hS ⊢
      obtain rfl : r_5 = 0 := hw_5
      refine lv_if_eq (tgt := 28) hx hb dX8_say_22 (by decide) (fun _ => ?_) (fun h => absurd (by decide) h)
      refine lv_aload_n hx hb dX8_say_28 rfl (lv_at hl 0 rfl) ?_
      refine va_get (D := (dC, dI)) (ci := 7) (v := .ref p2) (C := RX8) (T := TX8) (N := 6) hx hb hts inB_8 hown hK hP 0 rfl rfl 1 (by decide) (hts _ mw_1_169) (fun _ h9 => h9) rfl dX8_say_29 ?_
      refine lv_iload_n hx hb dX8_say_32 rfl (lv_at hl 1 rfl) ?_
      have hPc := hP.sub (ws' := [(p2, .inr (2, [.ref d0, .int 0])), (d0, .inl (kd0, 12, .inl (fun _ => 0)))]) [1, 2] rfl
      have hDc := hD.sub (ws' := [(p2, .inr (2, [.ref d0, .int 0])), (d0, .inl (kd0, 12, .inl (fun _ => 0)))]) [1, 2] (by decide) rfl
      have hKc := hK.sub (tys' := [(kd0, .char)]) [0] rfl
      have hFc := va_free (wc := [(p2, .inr (2, [.ref d0, .int 0])), (d0, .inl (kd0, 12, .inl (fun _ => 0)))]) hD hS hA [1, 2] rfl
      refine va_calli (va_runV (As := [.int n1]) (rest := []) ⟨hx, hb, hml, hown, hts⟩ (c_pPut l dC dI H.size p2 d0 kd0 n1) (cwV 1 hts (gV mw_2_69 mw_2_70 mw_2_71 mw_1_4 mw_2_72) rfl rfl rfl (by decide +kernel) ⟨Nat.le_of_ble_eq_true rfl, Nat.le_of_ble_eq_true rfl⟩) ⟨pcW_blind, va_recv hKc hPc (ci := 2) (q0 := 0) rfl rfl, pcW_at hPc hKc hDc hN⟩ rfl rfl hl.1 rfl (lv_room (Nat.le_of_ble_eq_true rfl)) dX8_say_33 ⟨Nat.le_of_ble_eq_true rfl, Nat.le_of_ble_eq_true rfl⟩) hS (fun q _ h => hFc q h) hFc (fun r_6 u t H1 locs ht hvm hw_6 hB hz1 hk1 hS => ?_)
      obtain ⟨hP, hD⟩ := va_join (wr := [(h0, .inr (7, [u0, .ref p2, u2, u3, u4, u5]))]) (w1 := []) hP hD [1, 2] [0] rfl rfl (by decide) (by decide) hk1 hFc nilP nilD
      rw [List.append_nil] at hP hD
      clear hz1 hk1 hPc hDc hKc hFc
      generalize H1 = H at hP hS ⊢
      have hK : va_K (dC, dI) vwCl [(kd0, .char)] s := hK
      have hP : va_P (dC, dI) vwCl [(h0, .inr (7, [u0, .ref p2, u2, u3, u4, u5]))] H := hP
      have hD : va_D A [(h0, .inr (7, [u0, .ref p2, u2, u3, u4, u5]))] := hD
      obtain rfl : r_6 = 1 := hw_6
      exact W.iret (v := 1) hx hb hr (fun t ht hW => ⟨⟨1, (), rfl, (by (unfold F_say; repeat' split) <;> first | rfl | (exfalso; omega)), trivial⟩, hS.F ht⟩) hS.2.2 dX8_say_36
    · have b_4 := fn_le (x := n1) (C := 126) (by decide) c_3
      refine lv_bipush (v := (-2)) hx hb dX8_say_12 (by decide) ?_
      exact W.iret (v := (-2)) hx hb hr (fun t ht hW => ⟨⟨(-2), (), rfl, (by (unfold F_say; repeat' split) <;> first | rfl | (exfalso; omega)), trivial⟩, hS.F ht⟩) hS.2.2 dX8_say_14
set_option maxHeartbeats 4000000 in
set_option maxRecDepth 100000 in
theorem x_wipe (l : Launch) (dC : Nat → ClassId) (dI : Nat → Nat → Nat) (sz : Nat) (h0 : Nat) (u0 : Value) (p2 : Nat) (u2 : Value) (u3 : Value) (u4 : Value) (u5 : Value) (w0 : Value)  : Met l yX8_wipe (wq yX8_wipe cX8_wipe 1 (some .int)) ({ frames := 1, cells := 0, slots := 0, locals := 21 }) (va_Pc [.ref h0] (pcW dC dI [] [(h0, .inr (7, [u0, .ref p2, u2, u3, u4, u5])), (p2, .inr (2, [w0, .int 0]))] sz)) (va_Qi (fun (r : Int32) (_ : Unit) => r = 0) (fun _ _ => True) (va_A [(h0, .inr (7, [u0, .ref p2, u2, u3, u4, u5])), (p2, .inr (2, [w0, .int 0]))] sz)) 0 0 (va_A [(h0, .inr (7, [u0, .ref p2, u2, u3, u4, u5])), (p2, .inr (2, [w0, .int 0]))] sz) := by
  refine Met.ofW (cc := cX8_wipe) (maxL := 1) (ret := (some .int)) (by decide) rfl ?_
  intro p e s m args below meth c s₁ B hml hv
  obtain ⟨rfl, hsz, hN, hP, hK, hD0⟩ := hv
  have hx := B.exec
  have hb := B.bytes
  have hr := B.returns
  have hts0 := atoms_spec (ws := (wq yX8_wipe cX8_wipe 1 (some .int))) B.pre
  have hts : ∀ w ∈ BG, w.before _ s = true := fun w h => hts0 w (List.mem_cons_of_mem _ h)
  have hown : s.vm.findClass RX8 = some m.cls := findClass_of_methodNamed B.named
  have hlocks := B.notSynchronized
  subst hsz
  have hD := hD0.self (sz := s.heap.size)
  generalize hAe : va_A [(h0, .inr (7, [u0, .ref p2, u2, u3, u4, u5])), (p2, .inr (2, [w0, .int 0]))] s.heap.size = A at hD ⊢
  have hA : ∀ q : Nat, s.heap.size ≤ q → A q := fun q h => by rw [← hAe]; exact Or.inr h
  have hS : va_S A s.heap s.heap [] := va_S.rf
  have hP : va_P (dC, dI) vwCl [(h0, .inr (7, [u0, .ref p2, u2, u3, u4, u5])), (p2, .inr (2, [w0, .int 0]))] s.heap := hP
  have hl := lv_entry ([.ref h0]) (n := 1) (Nat.le_of_ble_eq_true rfl)
  rw [lg_entry_eq]
  generalize (lg_sl ([.ref h0]) ++ List.replicate (1 - (lg_sl ([.ref h0])).length) Slot.unset).toArray = ls at hl ⊢
  have hl : lv_has ls 1 [(0, .ref h0)] := hl
  skip
  refine lv_aload_n hx hb dX8_wipe_0 rfl (lv_at hl 0 rfl) ?_
  refine va_get (D := (dC, dI)) (ci := 7) (v := .ref p2) (C := RX8) (T := TX8) (N := 6) hx hb hts inB_8 hown hK hP 0 rfl rfl 1 (by decide) (hts _ mw_1_169) (fun _ h9 => h9) rfl dX8_wipe_1 ?_
  have hPc := hP.sub (ws' := [(p2, .inr (2, [w0, .int 0]))]) [1] rfl
  have hDc := hD.sub (ws' := [(p2, .inr (2, [w0, .int 0]))]) [1] (by decide) rfl
  have hKc := hK.sub (tys' := []) [] rfl
  have hFc := va_free (wc := [(p2, .inr (2, [w0, .int 0]))]) hD hS hA [1] rfl
  refine va_calli (va_runV (As := []) (rest := []) ⟨hx, hb, hml, hown, hts⟩ (c_pEmpty l dC dI s.heap.size p2 (w0)) (cwV 0 hts (gV mw_2_78 mw_2_79 mw_2_80 mw_1_4 mw_2_81) rfl rfl rfl (by decide +kernel) ⟨Nat.le_of_ble_eq_true rfl, Nat.le_of_ble_eq_true rfl⟩) ⟨pcW_blind, va_recv hKc hPc (ci := 2) (q0 := 0) rfl rfl, pcW_at hPc hKc hDc hN⟩ rfl rfl hl.1 rfl (lv_room (Nat.le_of_ble_eq_true rfl)) dX8_wipe_4 ⟨Nat.le_of_ble_eq_true rfl, Nat.le_of_ble_eq_true rfl⟩) hS (fun q _ h => hFc q h) hFc (fun r_1 u t H1 locs ht hvm hw_1 hB hz1 hk1 hS => ?_)
  obtain ⟨hP, hD⟩ := va_join (wr := [(h0, .inr (7, [u0, .ref p2, u2, u3, u4, u5]))]) (w1 := []) hP hD [1] [0] rfl rfl (by decide) (by decide) hk1 hFc nilP nilD
  rw [List.append_nil] at hP hD
  clear hz1 hk1 hPc hDc hKc hFc
  generalize H1 = H at hP hS ⊢
  have hK : va_K (dC, dI) vwCl [] s := hK
  have hP : va_P (dC, dI) vwCl [(h0, .inr (7, [u0, .ref p2, u2, u3, u4, u5]))] H := hP
  have hD : va_D A [(h0, .inr (7, [u0, .ref p2, u2, u3, u4, u5]))] := hD
  obtain rfl : r_1 = 0 := hw_1
  exact W.iret (v := 0) hx hb hr (fun t ht hW => ⟨⟨0, (), rfl, rfl, trivial⟩, hS.F ht⟩) hS.2.2 dX8_wipe_7
set_option maxHeartbeats 4000000 in
set_option maxRecDepth 100000 in
theorem x_fault (l : Launch) (dC : Nat → ClassId) (dI : Nat → Nat → Nat) (sz : Nat) (h0 : Nat) (u0 : Value) (p2 : Nat) (u2 : Value) (u3 : Value) (u4 : Value) (u5 : Value) (w0 : Value)  : Met l yX8_fault (wq yX8_fault cX8_fault 1 (some .int)) ({ frames := 1, cells := 0, slots := 0, locals := 21 }) (va_Pc [.ref h0] (pcW dC dI [] [(h0, .inr (7, [u0, .ref p2, u2, u3, u4, u5])), (p2, .inr (2, [w0, .int 0]))] sz)) (va_Qi (fun (r : Int32) (_ : Unit) => r = (-6)) (fun _ _ => True) (fun q : Nat => sz ≤ q)) 0 0 (fun q : Nat => sz ≤ q) := by
  refine Met.ofW (cc := cX8_fault) (maxL := 1) (ret := (some .int)) (by decide) rfl ?_
  intro p e s m args below meth c s₁ B hml hv
  obtain ⟨rfl, hsz, hN, hP, hK, hD0⟩ := hv
  have hx := B.exec
  have hb := B.bytes
  have hr := B.returns
  have hts0 := atoms_spec (ws := (wq yX8_fault cX8_fault 1 (some .int))) B.pre
  have hts : ∀ w ∈ BG, w.before _ s = true := fun w h => hts0 w (List.mem_cons_of_mem _ h)
  have hown : s.vm.findClass RX8 = some m.cls := findClass_of_methodNamed B.named
  have hlocks := B.notSynchronized
  subst hsz
  have hA : ∀ q : Nat, s.heap.size ≤ q → (fun q : Nat => s.heap.size ≤ q) q := fun _ h => h
  have hD := hD0
  have hS : va_S (fun q : Nat => s.heap.size ≤ q) s.heap s.heap [] := va_S.rf
  have hP : va_P (dC, dI) vwCl [(h0, .inr (7, [u0, .ref p2, u2, u3, u4, u5])), (p2, .inr (2, [w0, .int 0]))] s.heap := hP
  have hl := lv_entry ([.ref h0]) (n := 1) (Nat.le_of_ble_eq_true rfl)
  rw [lg_entry_eq]
  generalize (lg_sl ([.ref h0]) ++ List.replicate (1 - (lg_sl ([.ref h0])).length) Slot.unset).toArray = ls at hl ⊢
  have hl : lv_has ls 1 [(0, .ref h0)] := hl
  skip
  refine lv_aload_n hx hb dX8_fault_0 rfl (lv_at hl 0 rfl) ?_
  refine va_get (D := (dC, dI)) (ci := 7) (v := .ref p2) (C := RX8) (T := TX8) (N := 6) hx hb hts inB_8 hown hK hP 0 rfl rfl 1 (by decide) (hts _ mw_1_169) (fun _ h9 => h9) rfl dX8_fault_1 ?_
  have hPc := hP.sub (ws' := [(p2, .inr (2, [w0, .int 0]))]) [1] rfl
  have hDc := hD.sub (ws' := [(p2, .inr (2, [w0, .int 0]))]) [1] (by decide) rfl
  have hKc := hK.sub (tys' := []) [] rfl
  refine va_calli (va_runV (As := []) (rest := []) ⟨hx, hb, hml, hown, hts⟩ (c_pFault l dC dI s.heap.size p2 (w0)) (cwV 0 hts (gV mw_2_86 mw_2_87 mw_2_88 mw_1_4 mw_2_89) rfl rfl rfl (by decide +kernel) ⟨Nat.le_of_ble_eq_true rfl, Nat.le_of_ble_eq_true rfl⟩) ⟨pcW_blind, va_recv hKc hPc (ci := 2) (q0 := 0) rfl rfl, pcW_at hPc hKc hDc hN⟩ rfl rfl hl.1 rfl (lv_room (Nat.le_of_ble_eq_true rfl)) dX8_fault_4 ⟨Nat.le_of_ble_eq_true rfl, Nat.le_of_ble_eq_true rfl⟩) hS (fun q h1 h2 => absurd h2 (Nat.not_le.mpr h1)) (fun q h => hA q (Nat.le_trans hS.1 h)) (fun r_1 u t H1 locs ht hvm hw_1 hB hz1 hk1 hS => ?_)
  have hP := keepP hP hk1
  clear hz1 hk1 hB ht hvm hPc hDc hKc
  generalize H1 = H at hP hS ⊢
  obtain rfl : r_1 = (-6) := hw_1
  exact W.iret (v := (-6)) hx hb hr (fun t ht hW => ⟨⟨(-6), (), rfl, rfl, trivial⟩, hS.F ht⟩) hS.2.2 dX8_fault_7
set_option maxHeartbeats 4000000 in
set_option maxRecDepth 100000 in
theorem x_has (l : Launch) (dC : Nat → ClassId) (dI : Nat → Nat → Nat) (sz : Nat) (h0 : Nat) (p1 : Nat) (u1 : Value) (u2 : Value) (u3 : Value) (u4 : Value) (u5 : Value) (w0 : Value) (w1 : Value) (w2 : Value) (w3 : Value) (w4 : Value) (w5 : Value) (w7 : Value) (n1 : Int32) (n2 : Int32)  : Met l yX8_has (wq yX8_has cX8_has 4 (some .int)) ({ frames := 1, cells := 0, slots := 0, locals := 21 }) (va_Pc [.ref h0, .int n1, .int n2] (pcW dC dI [] [(h0, .inr (7, [.ref p1, u1, u2, u3, u4, u5])), (p1, .inr (1, [w0, w1, w2, w3, w4, w5, .int 0, w7]))] sz)) (va_Qi (fun (r : Int32) (_ : Unit) => r = (-1)) (fun _ _ => True) (fun q : Nat => sz ≤ q)) 0 0 (fun q : Nat => sz ≤ q) := by
  refine Met.ofW (cc := cX8_has) (maxL := 4) (ret := (some .int)) (by decide) rfl ?_
  intro p e s m args below meth c s₁ B hml hv
  obtain ⟨rfl, hsz, hN, hP, hK, hD0⟩ := hv
  have hx := B.exec
  have hb := B.bytes
  have hr := B.returns
  have hts0 := atoms_spec (ws := (wq yX8_has cX8_has 4 (some .int))) B.pre
  have hts : ∀ w ∈ BG, w.before _ s = true := fun w h => hts0 w (List.mem_cons_of_mem _ h)
  have hown : s.vm.findClass RX8 = some m.cls := findClass_of_methodNamed B.named
  have hlocks := B.notSynchronized
  subst hsz
  have hA : ∀ q : Nat, s.heap.size ≤ q → (fun q : Nat => s.heap.size ≤ q) q := fun _ h => h
  have hD := hD0
  have hS : va_S (fun q : Nat => s.heap.size ≤ q) s.heap s.heap [] := va_S.rf
  have hP : va_P (dC, dI) vwCl [(h0, .inr (7, [.ref p1, u1, u2, u3, u4, u5])), (p1, .inr (1, [w0, w1, w2, w3, w4, w5, .int 0, w7]))] s.heap := hP
  have hl := lv_entry ([.ref h0, .int n1, .int n2]) (n := 4) (Nat.le_of_ble_eq_true rfl)
  rw [lg_entry_eq]
  generalize (lg_sl ([.ref h0, .int n1, .int n2]) ++ List.replicate (4 - (lg_sl ([.ref h0, .int n1, .int n2])).length) Slot.unset).toArray = ls at hl ⊢
  have hl : lv_has ls 4 [(0, .ref h0), (1, .int n1), (2, .int n2)] := hl
  skip
  refine lv_aload_n hx hb dX8_has_0 rfl (lv_at hl 0 rfl) ?_
  refine va_get (D := (dC, dI)) (ci := 7) (v := .ref p1) (C := RX8) (T := TX8) (N := 6) hx hb hts inB_8 hown hK hP 0 rfl rfl 0 (by decide) (hts _ mw_1_168) (fun _ h9 => h9) rfl dX8_has_1 ?_
  refine lv_iload_n hx hb dX8_has_4 rfl (lv_at hl 1 rfl) ?_
  have hPc := hP.sub (ws' := [(p1, .inr (1, [w0, w1, w2, w3, w4, w5, .int 0, w7]))]) [1] rfl
  have hDc := hD.sub (ws' := [(p1, .inr (1, [w0, w1, w2, w3, w4, w5, .int 0, w7]))]) [1] (by decide) rfl
  have hKc := hK.sub (tys' := []) [] rfl
  refine va_calli (va_runV (As := [.int n1]) (rest := []) ⟨hx, hb, hml, hown, hts⟩ (c_knows0 l dC dI s.heap.size p1 (w0) (w1) (w2) (w3) (w4) (w5) (w7) n1) (cwV 1 hts (gV mw_1_191 mw_1_192 mw_1_193 mw_1_2 mw_1_194) rfl rfl rfl (by decide +kernel) ⟨Nat.le_of_ble_eq_true rfl, Nat.le_of_ble_eq_true rfl⟩) ⟨pcW_blind, va_recv hKc hPc (ci := 1) (q0 := 0) rfl rfl, pcW_at hPc hKc hDc hN⟩ rfl rfl hl.1 rfl (lv_room (Nat.le_of_ble_eq_true rfl)) dX8_has_5 ⟨Nat.le_of_ble_eq_true rfl, Nat.le_of_ble_eq_true rfl⟩) hS (fun q h1 h2 => absurd h2 (Nat.not_le.mpr h1)) (fun q h => hA q (Nat.le_trans hS.1 h)) (fun r_1 u t H1 locs ht hvm hw_1 hB hz1 hk1 hS => ?_)
  have hP := keepP hP hk1
  clear hz1 hk1 hB ht hvm hPc hDc hKc
  generalize H1 = H at hP hS ⊢
  obtain rfl : r_1 = 0 := hw_1
  refine lv_if_eq (tgt := 18) hx hb dX8_has_8 (by decide) (fun _ => ?_) (fun h => absurd (by decide) h)
  refine lv_iconst (v := (-1)) hx hb dX8_has_18 (by decide) ?_
  exact W.iret (v := (-1)) hx hb hr (fun t ht hW => ⟨⟨(-1), (), rfl, rfl, trivial⟩, hS.F ht⟩) hS.2.2 dX8_has_19
set_option maxHeartbeats 4000000 in
set_option maxRecDepth 100000 in
theorem x_drop (l : Launch) (dC : Nat → ClassId) (dI : Nat → Nat → Nat) (sz : Nat) (h0 : Nat) (p1 : Nat) (u1 : Value) (u2 : Value) (u3 : Value) (u4 : Value) (u5 : Value) (w0 : Value) (w1 : Value) (w2 : Value) (w3 : Value) (w4 : Value) (w5 : Value) (w7 : Value) (n1 : Int32) (n2 : Int32)  : Met l yX8_drop (wq yX8_drop cX8_drop 3 (some .int)) ({ frames := 1, cells := 0, slots := 0, locals := 21 }) (va_Pc [.ref h0, .int n1, .int n2] (pcW dC dI [] [(h0, .inr (7, [.ref p1, u1, u2, u3, u4, u5])), (p1, .inr (1, [w0, w1, w2, w3, w4, w5, .int 0, w7]))] sz)) (va_Qi (fun (r : Int32) (_ : Unit) => r = (-1)) (fun _ _ => True) (fun q : Nat => sz ≤ q)) 0 0 (fun q : Nat => sz ≤ q) := by
  refine Met.ofW (cc := cX8_drop) (maxL := 3) (ret := (some .int)) (by decide) rfl ?_
  intro p e s m args below meth c s₁ B hml hv
  obtain ⟨rfl, hsz, hN, hP, hK, hD0⟩ := hv
  have hx := B.exec
  have hb := B.bytes
  have hr := B.returns
  have hts0 := atoms_spec (ws := (wq yX8_drop cX8_drop 3 (some .int))) B.pre
  have hts : ∀ w ∈ BG, w.before _ s = true := fun w h => hts0 w (List.mem_cons_of_mem _ h)
  have hown : s.vm.findClass RX8 = some m.cls := findClass_of_methodNamed B.named
  have hlocks := B.notSynchronized
  subst hsz
  have hA : ∀ q : Nat, s.heap.size ≤ q → (fun q : Nat => s.heap.size ≤ q) q := fun _ h => h
  have hD := hD0
  have hS : va_S (fun q : Nat => s.heap.size ≤ q) s.heap s.heap [] := va_S.rf
  have hP : va_P (dC, dI) vwCl [(h0, .inr (7, [.ref p1, u1, u2, u3, u4, u5])), (p1, .inr (1, [w0, w1, w2, w3, w4, w5, .int 0, w7]))] s.heap := hP
  have hl := lv_entry ([.ref h0, .int n1, .int n2]) (n := 3) (Nat.le_of_ble_eq_true rfl)
  rw [lg_entry_eq]
  generalize (lg_sl ([.ref h0, .int n1, .int n2]) ++ List.replicate (3 - (lg_sl ([.ref h0, .int n1, .int n2])).length) Slot.unset).toArray = ls at hl ⊢
  have hl : lv_has ls 3 [(0, .ref h0), (1, .int n1), (2, .int n2)] := hl
  skip
  refine lv_aload_n hx hb dX8_drop_0 rfl (lv_at hl 0 rfl) ?_
  refine va_get (D := (dC, dI)) (ci := 7) (v := .ref p1) (C := RX8) (T := TX8) (N := 6) hx hb hts inB_8 hown hK hP 0 rfl rfl 0 (by decide) (hts _ mw_1_168) (fun _ h9 => h9) rfl dX8_drop_1 ?_
  refine lv_iload_n hx hb dX8_drop_4 rfl (lv_at hl 1 rfl) ?_
  have hPc := hP.sub (ws' := [(p1, .inr (1, [w0, w1, w2, w3, w4, w5, .int 0, w7]))]) [1] rfl
  have hDc := hD.sub (ws' := [(p1, .inr (1, [w0, w1, w2, w3, w4, w5, .int 0, w7]))]) [1] (by decide) rfl
  have hKc := hK.sub (tys' := []) [] rfl
  refine va_calli (va_runV (As := [.int n1]) (rest := []) ⟨hx, hb, hml, hown, hts⟩ (c_knows0 l dC dI s.heap.size p1 (w0) (w1) (w2) (w3) (w4) (w5) (w7) n1) (cwV 1 hts (gV mw_1_191 mw_1_192 mw_1_193 mw_1_2 mw_1_194) rfl rfl rfl (by decide +kernel) ⟨Nat.le_of_ble_eq_true rfl, Nat.le_of_ble_eq_true rfl⟩) ⟨pcW_blind, va_recv hKc hPc (ci := 1) (q0 := 0) rfl rfl, pcW_at hPc hKc hDc hN⟩ rfl rfl hl.1 rfl (lv_room (Nat.le_of_ble_eq_true rfl)) dX8_drop_5 ⟨Nat.le_of_ble_eq_true rfl, Nat.le_of_ble_eq_true rfl⟩) hS (fun q h1 h2 => absurd h2 (Nat.not_le.mpr h1)) (fun q h => hA q (Nat.le_trans hS.1 h)) (fun r_1 u t H1 locs ht hvm hw_1 hB hz1 hk1 hS => ?_)
  have hP := keepP hP hk1
  clear hz1 hk1 hB ht hvm hPc hDc hKc
  generalize H1 = H at hP hS ⊢
  obtain rfl : r_1 = 0 := hw_1
  refine lv_if_eq (tgt := 18) hx hb dX8_drop_8 (by decide) (fun _ => ?_) (fun h => absurd (by decide) h)
  refine lv_iconst (v := (-1)) hx hb dX8_drop_18 (by decide) ?_
  exact W.iret (v := (-1)) hx hb hr (fun t ht hW => ⟨⟨(-1), (), rfl, rfl, trivial⟩, hS.F ht⟩) hS.2.2 dX8_drop_19
set_option maxHeartbeats 4000000 in
set_option maxRecDepth 100000 in
theorem x_answer (l : Launch) (dC : Nat → ClassId) (dI : Nat → Nat → Nat) (sz : Nat) (h0 : Nat) (p1 : Nat) (u1 : Value) (u2 : Value) (u3 : Value) (u4 : Value) (u5 : Value) (w0 : Value) (w1 : Value) (w2 : Value) (w3 : Value) (w4 : Value) (w5 : Value) (w7 : Value) (n1 : Int32) (n2 : Int32)  : Met l yX8_answer (wq yX8_answer cX8_answer 3 (some .int)) ({ frames := 1, cells := 0, slots := 0, locals := 21 }) (va_Pc [.ref h0, .int n1, .int n2] (pcW dC dI [] [(h0, .inr (7, [.ref p1, u1, u2, u3, u4, u5])), (p1, .inr (1, [w0, w1, w2, w3, w4, w5, .int 0, w7]))] sz)) (va_Qi (fun (r : Int32) (_ : Unit) => r = (-1)) (fun _ _ => True) (fun q : Nat => sz ≤ q)) 0 0 (fun q : Nat => sz ≤ q) := by
  refine Met.ofW (cc := cX8_answer) (maxL := 3) (ret := (some .int)) (by decide) rfl ?_
  intro p e s m args below meth c s₁ B hml hv
  obtain ⟨rfl, hsz, hN, hP, hK, hD0⟩ := hv
  have hx := B.exec
  have hb := B.bytes
  have hr := B.returns
  have hts0 := atoms_spec (ws := (wq yX8_answer cX8_answer 3 (some .int))) B.pre
  have hts : ∀ w ∈ BG, w.before _ s = true := fun w h => hts0 w (List.mem_cons_of_mem _ h)
  have hown : s.vm.findClass RX8 = some m.cls := findClass_of_methodNamed B.named
  have hlocks := B.notSynchronized
  subst hsz
  have hA : ∀ q : Nat, s.heap.size ≤ q → (fun q : Nat => s.heap.size ≤ q) q := fun _ h => h
  have hD := hD0
  have hS : va_S (fun q : Nat => s.heap.size ≤ q) s.heap s.heap [] := va_S.rf
  have hP : va_P (dC, dI) vwCl [(h0, .inr (7, [.ref p1, u1, u2, u3, u4, u5])), (p1, .inr (1, [w0, w1, w2, w3, w4, w5, .int 0, w7]))] s.heap := hP
  have hl := lv_entry ([.ref h0, .int n1, .int n2]) (n := 3) (Nat.le_of_ble_eq_true rfl)
  rw [lg_entry_eq]
  generalize (lg_sl ([.ref h0, .int n1, .int n2]) ++ List.replicate (3 - (lg_sl ([.ref h0, .int n1, .int n2])).length) Slot.unset).toArray = ls at hl ⊢
  have hl : lv_has ls 3 [(0, .ref h0), (1, .int n1), (2, .int n2)] := hl
  skip
  refine lv_aload_n hx hb dX8_answer_0 rfl (lv_at hl 0 rfl) ?_
  refine va_get (D := (dC, dI)) (ci := 7) (v := .ref p1) (C := RX8) (T := TX8) (N := 6) hx hb hts inB_8 hown hK hP 0 rfl rfl 0 (by decide) (hts _ mw_1_168) (fun _ h9 => h9) rfl dX8_answer_1 ?_
  refine lv_iload_n hx hb dX8_answer_4 rfl (lv_at hl 1 rfl) ?_
  have hPc := hP.sub (ws' := [(p1, .inr (1, [w0, w1, w2, w3, w4, w5, .int 0, w7]))]) [1] rfl
  have hDc := hD.sub (ws' := [(p1, .inr (1, [w0, w1, w2, w3, w4, w5, .int 0, w7]))]) [1] (by decide) rfl
  have hKc := hK.sub (tys' := []) [] rfl
  refine va_calli (va_runV (As := [.int n1]) (rest := []) ⟨hx, hb, hml, hown, hts⟩ (c_knows0 l dC dI s.heap.size p1 (w0) (w1) (w2) (w3) (w4) (w5) (w7) n1) (cwV 1 hts (gV mw_1_191 mw_1_192 mw_1_193 mw_1_2 mw_1_194) rfl rfl rfl (by decide +kernel) ⟨Nat.le_of_ble_eq_true rfl, Nat.le_of_ble_eq_true rfl⟩) ⟨pcW_blind, va_recv hKc hPc (ci := 1) (q0 := 0) rfl rfl, pcW_at hPc hKc hDc hN⟩ rfl rfl hl.1 rfl (lv_room (Nat.le_of_ble_eq_true rfl)) dX8_answer_5 ⟨Nat.le_of_ble_eq_true rfl, Nat.le_of_ble_eq_true rfl⟩) hS (fun q h1 h2 => absurd h2 (Nat.not_le.mpr h1)) (fun q h => hA q (Nat.le_trans hS.1 h)) (fun r_1 u t H1 locs ht hvm hw_1 hB hz1 hk1 hS => ?_)
  have hP := keepP hP hk1
  clear hz1 hk1 hB ht hvm hPc hDc hKc
  generalize H1 = H at hP hS ⊢
  obtain rfl : r_1 = 0 := hw_1
  refine lv_if_eq (tgt := 18) hx hb dX8_answer_8 (by decide) (fun _ => ?_) (fun h => absurd (by decide) h)
  refine lv_iconst (v := (-1)) hx hb dX8_answer_18 (by decide) ?_
  exact W.iret (v := (-1)) hx hb hr (fun t ht hW => ⟨⟨(-1), (), rfl, rfl, trivial⟩, hS.F ht⟩) hS.2.2 dX8_answer_19
set_option maxHeartbeats 4000000 in
set_option maxRecDepth 100000 in
theorem x_next (l : Launch) (dC : Nat → ClassId) (dI : Nat → Nat → Nat) (sz : Nat) (h0 : Nat) (p1 : Nat) (u1 : Value) (u2 : Value) (u3 : Value) (u4 : Value) (u5 : Value) (w0 : Value) (w1 : Value) (w2 : Value) (w3 : Value) (w4 : Value) (w5 : Value) (w7 : Value) (n1 : Int32) (n2 : Int32) (n3 : Int32)  : Met l yX8_next (wq yX8_next cX8_next 5 (some .int)) ({ frames := 1, cells := 0, slots := 0, locals := 21 }) (va_Pc [.ref h0, .int n1, .int n2, .int n3] (pcW dC dI [] [(h0, .inr (7, [.ref p1, u1, u2, u3, u4, u5])), (p1, .inr (1, [w0, w1, w2, w3, w4, w5, .int 0, w7]))] sz)) (va_Qi (fun (r : Int32) (_ : Unit) => r = (-1)) (fun _ _ => True) (fun q : Nat => sz ≤ q)) 0 0 (fun q : Nat => sz ≤ q) := by
  refine Met.ofW (cc := cX8_next) (maxL := 5) (ret := (some .int)) (by decide) rfl ?_
  intro p e s m args below meth c s₁ B hml hv
  obtain ⟨rfl, hsz, hN, hP, hK, hD0⟩ := hv
  have hx := B.exec
  have hb := B.bytes
  have hr := B.returns
  have hts0 := atoms_spec (ws := (wq yX8_next cX8_next 5 (some .int))) B.pre
  have hts : ∀ w ∈ BG, w.before _ s = true := fun w h => hts0 w (List.mem_cons_of_mem _ h)
  have hown : s.vm.findClass RX8 = some m.cls := findClass_of_methodNamed B.named
  have hlocks := B.notSynchronized
  subst hsz
  have hA : ∀ q : Nat, s.heap.size ≤ q → (fun q : Nat => s.heap.size ≤ q) q := fun _ h => h
  have hD := hD0
  have hS : va_S (fun q : Nat => s.heap.size ≤ q) s.heap s.heap [] := va_S.rf
  have hP : va_P (dC, dI) vwCl [(h0, .inr (7, [.ref p1, u1, u2, u3, u4, u5])), (p1, .inr (1, [w0, w1, w2, w3, w4, w5, .int 0, w7]))] s.heap := hP
  have hl := lv_entry ([.ref h0, .int n1, .int n2, .int n3]) (n := 5) (Nat.le_of_ble_eq_true rfl)
  rw [lg_entry_eq]
  generalize (lg_sl ([.ref h0, .int n1, .int n2, .int n3]) ++ List.replicate (5 - (lg_sl ([.ref h0, .int n1, .int n2, .int n3])).length) Slot.unset).toArray = ls at hl ⊢
  have hl : lv_has ls 5 [(0, .ref h0), (1, .int n1), (2, .int n2), (3, .int n3)] := hl
  skip
  refine lv_aload_n hx hb dX8_next_0 rfl (lv_at hl 0 rfl) ?_
  refine va_get (D := (dC, dI)) (ci := 7) (v := .ref p1) (C := RX8) (T := TX8) (N := 6) hx hb hts inB_8 hown hK hP 0 rfl rfl 0 (by decide) (hts _ mw_1_168) (fun _ h9 => h9) rfl dX8_next_1 ?_
  refine lv_iload_n hx hb dX8_next_4 rfl (lv_at hl 1 rfl) ?_
  have hPc := hP.sub (ws' := [(p1, .inr (1, [w0, w1, w2, w3, w4, w5, .int 0, w7]))]) [1] rfl
  have hDc := hD.sub (ws' := [(p1, .inr (1, [w0, w1, w2, w3, w4, w5, .int 0, w7]))]) [1] (by decide) rfl
  have hKc := hK.sub (tys' := []) [] rfl
  refine va_calli (va_runV (As := [.int n1]) (rest := []) ⟨hx, hb, hml, hown, hts⟩ (c_knows0 l dC dI s.heap.size p1 (w0) (w1) (w2) (w3) (w4) (w5) (w7) n1) (cwV 1 hts (gV mw_1_191 mw_1_192 mw_1_193 mw_1_2 mw_1_194) rfl rfl rfl (by decide +kernel) ⟨Nat.le_of_ble_eq_true rfl, Nat.le_of_ble_eq_true rfl⟩) ⟨pcW_blind, va_recv hKc hPc (ci := 1) (q0 := 0) rfl rfl, pcW_at hPc hKc hDc hN⟩ rfl rfl hl.1 rfl (lv_room (Nat.le_of_ble_eq_true rfl)) dX8_next_5 ⟨Nat.le_of_ble_eq_true rfl, Nat.le_of_ble_eq_true rfl⟩) hS (fun q h1 h2 => absurd h2 (Nat.not_le.mpr h1)) (fun q h => hA q (Nat.le_trans hS.1 h)) (fun r_1 u t H1 locs ht hvm hw_1 hB hz1 hk1 hS => ?_)
  have hP := keepP hP hk1
  clear hz1 hk1 hB ht hvm hPc hDc hKc
  generalize H1 = H at hP hS ⊢
  obtain rfl : r_1 = 0 := hw_1
  refine lv_if_eq (tgt := 29) hx hb dX8_next_8 (by decide) (fun _ => ?_) (fun h => absurd (by decide) h)
  refine lv_iconst (v := (-1)) hx hb dX8_next_29 (by decide) ?_
  exact W.iret (v := (-1)) hx hb hr (fun t ht hW => ⟨⟨(-1), (), rfl, rfl, trivial⟩, hS.F ht⟩) hS.2.2 dX8_next_30
set_option maxHeartbeats 4000000 in
set_option maxRecDepth 100000 in
theorem x_run (l : Launch) (dC : Nat → ClassId) (dI : Nat → Nat → Nat) (sz : Nat) (h0 : Nat) (p1 : Nat) (u1 : Value) (u2 : Value) (u3 : Value) (u4 : Value) (u5 : Value) (w0 : Value) (w1 : Value) (w2 : Value) (w3 : Value) (w4 : Value) (w5 : Value) (w7 : Value) (n1 : Int32) (n2 : Int32) (n3 : Int32)  : Met l yX8_run (wq yX8_run cX8_run 5 (some .int)) ({ frames := 1, cells := 0, slots := 0, locals := 21 }) (va_Pc [.ref h0, .int n1, .int n2, .int n3] (pcW dC dI [] [(h0, .inr (7, [.ref p1, u1, u2, u3, u4, u5])), (p1, .inr (1, [w0, w1, w2, w3, w4, w5, .int 0, w7]))] sz)) (va_Qi (fun (r : Int32) (_ : Unit) => r = (-1)) (fun _ _ => True) (fun q : Nat => sz ≤ q)) 0 0 (fun q : Nat => sz ≤ q) := by
  refine Met.ofW (cc := cX8_run) (maxL := 5) (ret := (some .int)) (by decide) rfl ?_
  intro p e s m args below meth c s₁ B hml hv
  obtain ⟨rfl, hsz, hN, hP, hK, hD0⟩ := hv
  have hx := B.exec
  have hb := B.bytes
  have hr := B.returns
  have hts0 := atoms_spec (ws := (wq yX8_run cX8_run 5 (some .int))) B.pre
  have hts : ∀ w ∈ BG, w.before _ s = true := fun w h => hts0 w (List.mem_cons_of_mem _ h)
  have hown : s.vm.findClass RX8 = some m.cls := findClass_of_methodNamed B.named
  have hlocks := B.notSynchronized
  subst hsz
  have hA : ∀ q : Nat, s.heap.size ≤ q → (fun q : Nat => s.heap.size ≤ q) q := fun _ h => h
  have hD := hD0
  have hS : va_S (fun q : Nat => s.heap.size ≤ q) s.heap s.heap [] := va_S.rf
  have hP : va_P (dC, dI) vwCl [(h0, .inr (7, [.ref p1, u1, u2, u3, u4, u5])), (p1, .inr (1, [w0, w1, w2, w3, w4, w5, .int 0, w7]))] s.heap := hP
  have hl := lv_entry ([.ref h0, .int n1, .int n2, .int n3]) (n := 5) (Nat.le_of_ble_eq_true rfl)
  rw [lg_entry_eq]
  generalize (lg_sl ([.ref h0, .int n1, .int n2, .int n3]) ++ List.replicate (5 - (lg_sl ([.ref h0, .int n1, .int n2, .int n3])).length) Slot.unset).toArray = ls at hl ⊢
  have hl : lv_has ls 5 [(0, .ref h0), (1, .int n1), (2, .int n2), (3, .int n3)] := hl
  skip
  refine lv_aload_n hx hb dX8_run_0 rfl (lv_at hl 0 rfl) ?_
  refine va_get (D := (dC, dI)) (ci := 7) (v := .ref p1) (C := RX8) (T := TX8) (N := 6) hx hb hts inB_8 hown hK hP 0 rfl rfl 0 (by decide) (hts _ mw_1_168) (fun _ h9 => h9) rfl dX8_run_1 ?_
  refine lv_iload_n hx hb dX8_run_4 rfl (lv_at hl 1 rfl) ?_
  have hPc := hP.sub (ws' := [(p1, .inr (1, [w0, w1, w2, w3, w4, w5, .int 0, w7]))]) [1] rfl
  have hDc := hD.sub (ws' := [(p1, .inr (1, [w0, w1, w2, w3, w4, w5, .int 0, w7]))]) [1] (by decide) rfl
  have hKc := hK.sub (tys' := []) [] rfl
  refine va_calli (va_runV (As := [.int n1]) (rest := []) ⟨hx, hb, hml, hown, hts⟩ (c_knows0 l dC dI s.heap.size p1 (w0) (w1) (w2) (w3) (w4) (w5) (w7) n1) (cwV 1 hts (gV mw_1_191 mw_1_192 mw_1_193 mw_1_2 mw_1_194) rfl rfl rfl (by decide +kernel) ⟨Nat.le_of_ble_eq_true rfl, Nat.le_of_ble_eq_true rfl⟩) ⟨pcW_blind, va_recv hKc hPc (ci := 1) (q0 := 0) rfl rfl, pcW_at hPc hKc hDc hN⟩ rfl rfl hl.1 rfl (lv_room (Nat.le_of_ble_eq_true rfl)) dX8_run_5 ⟨Nat.le_of_ble_eq_true rfl, Nat.le_of_ble_eq_true rfl⟩) hS (fun q h1 h2 => absurd h2 (Nat.not_le.mpr h1)) (fun q h => hA q (Nat.le_trans hS.1 h)) (fun r_1 u t H1 locs ht hvm hw_1 hB hz1 hk1 hS => ?_)
  have hP := keepP hP hk1
  clear hz1 hk1 hB ht hvm hPc hDc hKc
  generalize H1 = H at hP hS ⊢
  obtain rfl : r_1 = 0 := hw_1
  refine lv_if_eq (tgt := 18) hx hb dX8_run_8 (by decide) (fun _ => ?_) (fun h => absurd (by decide) h)
  refine lv_iconst (v := (-1)) hx hb dX8_run_18 (by decide) ?_
  exact W.iret (v := (-1)) hx hb hr (fun t ht hW => ⟨⟨(-1), (), rfl, rfl, trivial⟩, hS.F ht⟩) hS.2.2 dX8_run_19
set_option maxHeartbeats 4000000 in
set_option maxRecDepth 100000 in
theorem x_nearest (l : Launch) (dC : Nat → ClassId) (dI : Nat → Nat → Nat) (sz : Nat) (h0 : Nat) (p1 : Nat) (u1 : Value) (u2 : Value) (u3 : Value) (u4 : Value) (u5 : Value) (w0 : Value) (w1 : Value) (w2 : Value) (w3 : Value) (w4 : Value) (w5 : Value) (w7 : Value) (n1 : Int32) (n2 : Int32)  : Met l yX8_nearest (wq yX8_nearest cX8_nearest 3 (some .int)) ({ frames := 1, cells := 0, slots := 0, locals := 21 }) (va_Pc [.ref h0, .int n1, .int n2] (pcW dC dI [] [(h0, .inr (7, [.ref p1, u1, u2, u3, u4, u5])), (p1, .inr (1, [w0, w1, w2, w3, w4, w5, .int 0, w7]))] sz)) (va_Qi (fun (r : Int32) (_ : Unit) => r = (-1)) (fun _ _ => True) (fun q : Nat => sz ≤ q)) 0 0 (fun q : Nat => sz ≤ q) := by
  refine Met.ofW (cc := cX8_nearest) (maxL := 3) (ret := (some .int)) (by decide) rfl ?_
  intro p e s m args below meth c s₁ B hml hv
  obtain ⟨rfl, hsz, hN, hP, hK, hD0⟩ := hv
  have hx := B.exec
  have hb := B.bytes
  have hr := B.returns
  have hts0 := atoms_spec (ws := (wq yX8_nearest cX8_nearest 3 (some .int))) B.pre
  have hts : ∀ w ∈ BG, w.before _ s = true := fun w h => hts0 w (List.mem_cons_of_mem _ h)
  have hown : s.vm.findClass RX8 = some m.cls := findClass_of_methodNamed B.named
  have hlocks := B.notSynchronized
  subst hsz
  have hA : ∀ q : Nat, s.heap.size ≤ q → (fun q : Nat => s.heap.size ≤ q) q := fun _ h => h
  have hD := hD0
  have hS : va_S (fun q : Nat => s.heap.size ≤ q) s.heap s.heap [] := va_S.rf
  have hP : va_P (dC, dI) vwCl [(h0, .inr (7, [.ref p1, u1, u2, u3, u4, u5])), (p1, .inr (1, [w0, w1, w2, w3, w4, w5, .int 0, w7]))] s.heap := hP
  have hl := lv_entry ([.ref h0, .int n1, .int n2]) (n := 3) (Nat.le_of_ble_eq_true rfl)
  rw [lg_entry_eq]
  generalize (lg_sl ([.ref h0, .int n1, .int n2]) ++ List.replicate (3 - (lg_sl ([.ref h0, .int n1, .int n2])).length) Slot.unset).toArray = ls at hl ⊢
  have hl : lv_has ls 3 [(0, .ref h0), (1, .int n1), (2, .int n2)] := hl
  skip
  refine lv_aload_n hx hb dX8_nearest_0 rfl (lv_at hl 0 rfl) ?_
  refine va_get (D := (dC, dI)) (ci := 7) (v := .ref p1) (C := RX8) (T := TX8) (N := 6) hx hb hts inB_8 hown hK hP 0 rfl rfl 0 (by decide) (hts _ mw_1_168) (fun _ h9 => h9) rfl dX8_nearest_1 ?_
  refine lv_iload_n hx hb dX8_nearest_4 rfl (lv_at hl 1 rfl) ?_
  have hPc := hP.sub (ws' := [(p1, .inr (1, [w0, w1, w2, w3, w4, w5, .int 0, w7]))]) [1] rfl
  have hDc := hD.sub (ws' := [(p1, .inr (1, [w0, w1, w2, w3, w4, w5, .int 0, w7]))]) [1] (by decide) rfl
  have hKc := hK.sub (tys' := []) [] rfl
  refine va_calli (va_runV (As := [.int n1]) (rest := []) ⟨hx, hb, hml, hown, hts⟩ (c_knows0 l dC dI s.heap.size p1 (w0) (w1) (w2) (w3) (w4) (w5) (w7) n1) (cwV 1 hts (gV mw_1_191 mw_1_192 mw_1_193 mw_1_2 mw_1_194) rfl rfl rfl (by decide +kernel) ⟨Nat.le_of_ble_eq_true rfl, Nat.le_of_ble_eq_true rfl⟩) ⟨pcW_blind, va_recv hKc hPc (ci := 1) (q0 := 0) rfl rfl, pcW_at hPc hKc hDc hN⟩ rfl rfl hl.1 rfl (lv_room (Nat.le_of_ble_eq_true rfl)) dX8_nearest_5 ⟨Nat.le_of_ble_eq_true rfl, Nat.le_of_ble_eq_true rfl⟩) hS (fun q h1 h2 => absurd h2 (Nat.not_le.mpr h1)) (fun q h => hA q (Nat.le_trans hS.1 h)) (fun r_1 u t H1 locs ht hvm hw_1 hB hz1 hk1 hS => ?_)
  have hP := keepP hP hk1
  clear hz1 hk1 hB ht hvm hPc hDc hKc
  generalize H1 = H at hP hS ⊢
  obtain rfl : r_1 = 0 := hw_1
  refine lv_if_eq (tgt := 18) hx hb dX8_nearest_8 (by decide) (fun _ => ?_) (fun h => absurd (by decide) h)
  refine lv_iconst (v := (-1)) hx hb dX8_nearest_18 (by decide) ?_
  exact W.iret (v := (-1)) hx hb hr (fun t ht hW => ⟨⟨(-1), (), rfl, rfl, trivial⟩, hS.F ht⟩) hS.2.2 dX8_nearest_19
set_option maxHeartbeats 4000000 in
set_option maxRecDepth 100000 in
theorem x_shift (l : Launch) (dC : Nat → ClassId) (dI : Nat → Nat → Nat) (sz : Nat) (h0 : Nat) (p1 : Nat) (u1 : Value) (u2 : Value) (u3 : Value) (u4 : Value) (u5 : Value) (w0 : Value) (w1 : Value) (w2 : Value) (w3 : Value) (w4 : Value) (w5 : Value) (w7 : Value) (n1 : Int32) (n2 : Int32)  : Met l yX8_shift (wq yX8_shift cX8_shift 3 (some .int)) ({ frames := 1, cells := 0, slots := 0, locals := 21 }) (va_Pc [.ref h0, .int n1, .int n2] (pcW dC dI [] [(h0, .inr (7, [.ref p1, u1, u2, u3, u4, u5])), (p1, .inr (1, [w0, w1, w2, w3, w4, w5, .int 0, w7]))] sz)) (va_Qi (fun (r : Int32) (_ : Unit) => r = (-1)) (fun _ _ => True) (fun q : Nat => sz ≤ q)) 0 0 (fun q : Nat => sz ≤ q) := by
  refine Met.ofW (cc := cX8_shift) (maxL := 3) (ret := (some .int)) (by decide) rfl ?_
  intro p e s m args below meth c s₁ B hml hv
  obtain ⟨rfl, hsz, hN, hP, hK, hD0⟩ := hv
  have hx := B.exec
  have hb := B.bytes
  have hr := B.returns
  have hts0 := atoms_spec (ws := (wq yX8_shift cX8_shift 3 (some .int))) B.pre
  have hts : ∀ w ∈ BG, w.before _ s = true := fun w h => hts0 w (List.mem_cons_of_mem _ h)
  have hown : s.vm.findClass RX8 = some m.cls := findClass_of_methodNamed B.named
  have hlocks := B.notSynchronized
  subst hsz
  have hA : ∀ q : Nat, s.heap.size ≤ q → (fun q : Nat => s.heap.size ≤ q) q := fun _ h => h
  have hD := hD0
  have hS : va_S (fun q : Nat => s.heap.size ≤ q) s.heap s.heap [] := va_S.rf
  have hP : va_P (dC, dI) vwCl [(h0, .inr (7, [.ref p1, u1, u2, u3, u4, u5])), (p1, .inr (1, [w0, w1, w2, w3, w4, w5, .int 0, w7]))] s.heap := hP
  have hl := lv_entry ([.ref h0, .int n1, .int n2]) (n := 3) (Nat.le_of_ble_eq_true rfl)
  rw [lg_entry_eq]
  generalize (lg_sl ([.ref h0, .int n1, .int n2]) ++ List.replicate (3 - (lg_sl ([.ref h0, .int n1, .int n2])).length) Slot.unset).toArray = ls at hl ⊢
  have hl : lv_has ls 3 [(0, .ref h0), (1, .int n1), (2, .int n2)] := hl
  skip
  refine lv_aload_n hx hb dX8_shift_0 rfl (lv_at hl 0 rfl) ?_
  refine va_get (D := (dC, dI)) (ci := 7) (v := .ref p1) (C := RX8) (T := TX8) (N := 6) hx hb hts inB_8 hown hK hP 0 rfl rfl 0 (by decide) (hts _ mw_1_168) (fun _ h9 => h9) rfl dX8_shift_1 ?_
  refine lv_iload_n hx hb dX8_shift_4 rfl (lv_at hl 1 rfl) ?_
  have hPc := hP.sub (ws' := [(p1, .inr (1, [w0, w1, w2, w3, w4, w5, .int 0, w7]))]) [1] rfl
  have hDc := hD.sub (ws' := [(p1, .inr (1, [w0, w1, w2, w3, w4, w5, .int 0, w7]))]) [1] (by decide) rfl
  have hKc := hK.sub (tys' := []) [] rfl
  refine va_calli (va_runV (As := [.int n1]) (rest := []) ⟨hx, hb, hml, hown, hts⟩ (c_knows0 l dC dI s.heap.size p1 (w0) (w1) (w2) (w3) (w4) (w5) (w7) n1) (cwV 1 hts (gV mw_1_191 mw_1_192 mw_1_193 mw_1_2 mw_1_194) rfl rfl rfl (by decide +kernel) ⟨Nat.le_of_ble_eq_true rfl, Nat.le_of_ble_eq_true rfl⟩) ⟨pcW_blind, va_recv hKc hPc (ci := 1) (q0 := 0) rfl rfl, pcW_at hPc hKc hDc hN⟩ rfl rfl hl.1 rfl (lv_room (Nat.le_of_ble_eq_true rfl)) dX8_shift_5 ⟨Nat.le_of_ble_eq_true rfl, Nat.le_of_ble_eq_true rfl⟩) hS (fun q h1 h2 => absurd h2 (Nat.not_le.mpr h1)) (fun q h => hA q (Nat.le_trans hS.1 h)) (fun r_1 u t H1 locs ht hvm hw_1 hB hz1 hk1 hS => ?_)
  have hP := keepP hP hk1
  clear hz1 hk1 hB ht hvm hPc hDc hKc
  generalize H1 = H at hP hS ⊢
  obtain rfl : r_1 = 0 := hw_1
  refine lv_if_eq (tgt := 18) hx hb dX8_shift_8 (by decide) (fun _ => ?_) (fun h => absurd (by decide) h)
  refine lv_iconst (v := (-1)) hx hb dX8_shift_18 (by decide) ?_
  exact W.iret (v := (-1)) hx hb hr (fun t ht hW => ⟨⟨(-1), (), rfl, rfl, trivial⟩, hS.F ht⟩) hS.2.2 dX8_shift_19
set_option maxHeartbeats 4000000 in
set_option maxRecDepth 100000 in
theorem x_one (l : Launch) (dC : Nat → ClassId) (dI : Nat → Nat → Nat) (sz : Nat) (h0 : Nat) (p1 : Nat) (u1 : Value) (u2 : Value) (u3 : Value) (u4 : Value) (u5 : Value) (w0 : Value) (w1 : Value) (w2 : Value) (w3 : Value) (w4 : Value) (w5 : Value) (w7 : Value) (n1 : Int32) (n2 : Int32) (n3 : Int32)  : Met l yX8_one (wq yX8_one cX8_one 4 (some .int)) ({ frames := 1, cells := 0, slots := 0, locals := 21 }) (va_Pc [.ref h0, .int n1, .int n2, .int n3] (pcW dC dI [] [(h0, .inr (7, [.ref p1, u1, u2, u3, u4, u5])), (p1, .inr (1, [w0, w1, w2, w3, w4, w5, .int 0, w7]))] sz)) (va_Qi (fun (r : Int32) (_ : Unit) => r = (-1)) (fun _ _ => True) (fun q : Nat => sz ≤ q)) 0 0 (fun q : Nat => sz ≤ q) := by
  refine Met.ofW (cc := cX8_one) (maxL := 4) (ret := (some .int)) (by decide) rfl ?_
  intro p e s m args below meth c s₁ B hml hv
  obtain ⟨rfl, hsz, hN, hP, hK, hD0⟩ := hv
  have hx := B.exec
  have hb := B.bytes
  have hr := B.returns
  have hts0 := atoms_spec (ws := (wq yX8_one cX8_one 4 (some .int))) B.pre
  have hts : ∀ w ∈ BG, w.before _ s = true := fun w h => hts0 w (List.mem_cons_of_mem _ h)
  have hown : s.vm.findClass RX8 = some m.cls := findClass_of_methodNamed B.named
  have hlocks := B.notSynchronized
  subst hsz
  have hA : ∀ q : Nat, s.heap.size ≤ q → (fun q : Nat => s.heap.size ≤ q) q := fun _ h => h
  have hD := hD0
  have hS : va_S (fun q : Nat => s.heap.size ≤ q) s.heap s.heap [] := va_S.rf
  have hP : va_P (dC, dI) vwCl [(h0, .inr (7, [.ref p1, u1, u2, u3, u4, u5])), (p1, .inr (1, [w0, w1, w2, w3, w4, w5, .int 0, w7]))] s.heap := hP
  have hl := lv_entry ([.ref h0, .int n1, .int n2, .int n3]) (n := 4) (Nat.le_of_ble_eq_true rfl)
  rw [lg_entry_eq]
  generalize (lg_sl ([.ref h0, .int n1, .int n2, .int n3]) ++ List.replicate (4 - (lg_sl ([.ref h0, .int n1, .int n2, .int n3])).length) Slot.unset).toArray = ls at hl ⊢
  have hl : lv_has ls 4 [(0, .ref h0), (1, .int n1), (2, .int n2), (3, .int n3)] := hl
  skip
  refine lv_aload_n hx hb dX8_one_0 rfl (lv_at hl 0 rfl) ?_
  refine va_get (D := (dC, dI)) (ci := 7) (v := .ref p1) (C := RX8) (T := TX8) (N := 6) hx hb hts inB_8 hown hK hP 0 rfl rfl 0 (by decide) (hts _ mw_1_168) (fun _ h9 => h9) rfl dX8_one_1 ?_
  refine lv_iload_n hx hb dX8_one_4 rfl (lv_at hl 1 rfl) ?_
  have hPc := hP.sub (ws' := [(p1, .inr (1, [w0, w1, w2, w3, w4, w5, .int 0, w7]))]) [1] rfl
  have hDc := hD.sub (ws' := [(p1, .inr (1, [w0, w1, w2, w3, w4, w5, .int 0, w7]))]) [1] (by decide) rfl
  have hKc := hK.sub (tys' := []) [] rfl
  refine va_calli (va_runV (As := [.int n1]) (rest := []) ⟨hx, hb, hml, hown, hts⟩ (c_knows0 l dC dI s.heap.size p1 (w0) (w1) (w2) (w3) (w4) (w5) (w7) n1) (cwV 1 hts (gV mw_1_191 mw_1_192 mw_1_193 mw_1_2 mw_1_194) rfl rfl rfl (by decide +kernel) ⟨Nat.le_of_ble_eq_true rfl, Nat.le_of_ble_eq_true rfl⟩) ⟨pcW_blind, va_recv hKc hPc (ci := 1) (q0 := 0) rfl rfl, pcW_at hPc hKc hDc hN⟩ rfl rfl hl.1 rfl (lv_room (Nat.le_of_ble_eq_true rfl)) dX8_one_5 ⟨Nat.le_of_ble_eq_true rfl, Nat.le_of_ble_eq_true rfl⟩) hS (fun q h1 h2 => absurd h2 (Nat.not_le.mpr h1)) (fun q h => hA q (Nat.le_trans hS.1 h)) (fun r_1 u t H1 locs ht hvm hw_1 hB hz1 hk1 hS => ?_)
  have hP := keepP hP hk1
  clear hz1 hk1 hB ht hvm hPc hDc hKc
  generalize H1 = H at hP hS ⊢
  obtain rfl : r_1 = 0 := hw_1
  refine lv_if_eq (tgt := 18) hx hb dX8_one_8 (by decide) (fun _ => ?_) (fun h => absurd (by decide) h)
  refine lv_iconst (v := (-1)) hx hb dX8_one_18 (by decide) ?_
  exact W.iret (v := (-1)) hx hb hr (fun t ht hW => ⟨⟨(-1), (), rfl, rfl, trivial⟩, hS.F ht⟩) hS.2.2 dX8_one_19
