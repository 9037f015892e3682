/-- the reference's state: LINES hold KINDS, SIZES are 1 to 4 -/
def PlcP (fll : Nat → Int32) (k : Nat) (v : Int32) : Prop := v = -6 ∨ ∃ q : Nat, v = nI q ∧ q < (fll k).toNatClampNeg ∧ q < 10
def WhP (n : Nat) (v : Int32) : Prop := v = -6 ∨ ∃ q : Nat, v = nI q ∧ q < n
theorem sz_next {f : Nat → Int32} {n v : Int32} (h : SzOk f) : SzOk (S_next f n v) := by
  unfold S_next
  split
  · exact h
  · split
    · exact h
    · intro k hk
      by_cases q : k = n.toNatClampNeg
      · subst q
        obtain ⟨j, _, e⟩ := fx_nat (x := v) (by omega)
        have t := nI_toInt (n := j) (by assumption)
        rw [← e] at t
        exact ⟨j, by omega, by rw [pk_us]; exact e⟩
      · obtain ⟨y, h1, h2⟩ := h k hk
        exact ⟨y, h1, (pk_un q).trans h2⟩
theorem shl_ex {k : Nat} (h : k ≤ 10) : ∃ p : Nat, p ≤ 1024 ∧ (1 : Int32) <<< (nI k &&& 31) = nI p := by
  rcases (by omega : k = 0 ∨ k = 1 ∨ k = 2 ∨ k = 3 ∨ k = 4 ∨ k = 5 ∨ k = 6 ∨ k = 7 ∨ k = 8 ∨ k = 9 ∨ k = 10) with rfl | rfl | rfl | rfl | rfl | rfl | rfl | rfl | rfl | rfl | rfl
  · exact ⟨1, by omega, by decide +kernel⟩
  · exact ⟨2, by omega, by decide +kernel⟩
  · exact ⟨4, by omega, by decide +kernel⟩
  · exact ⟨8, by omega, by decide +kernel⟩
  · exact ⟨16, by omega, by decide +kernel⟩
  · exact ⟨32, by omega, by decide +kernel⟩
  · exact ⟨64, by omega, by decide +kernel⟩
  · exact ⟨128, by omega, by decide +kernel⟩
  · exact ⟨256, by omega, by decide +kernel⟩
  · exact ⟨512, by omega, by decide +kernel⟩
  · exact ⟨1024, by omega, by decide +kernel⟩
theorem mw_3_196 : Cond.fieldLink RX9 47 "AnswerLinesModel" "names" "[I" ∈ BG := mB (t3 (i := 196) (by decide +kernel)) (by decide +kernel)
theorem mw_4_126 : Cond.code yX9_hasName cX9_hasName 3 (some .boolean) ∈ BG := mB (t4 (i := 126) rfl) (by decide +kernel)
theorem mw_4_123 : Cond.methodLink RX9 142 yX9_hasName ∈ BG := mB (t4 (i := 123) (by decide +kernel)) (by decide +kernel)
theorem mw_4_125 : Cond.instanceMethod yX9_hasName ∈ BG := mB (t4 (i := 125) (by decide +kernel)) (by decide +kernel)
theorem mw_0_20 : Cond.selects RX9 yX9_hasName yX9_hasName ∈ BG := mB (t0 (i := 20) (by decide +kernel)) (by decide +kernel)
theorem mw_4_142 : Cond.code yX9_placeOf cX9_placeOf 6 (some .int) ∈ BG := mB (t4 (i := 142) rfl) (by decide +kernel)
theorem mw_4_139 : Cond.methodLink RX9 146 yX9_placeOf ∈ BG := mB (t4 (i := 139) (by decide +kernel)) (by decide +kernel)
theorem mw_4_141 : Cond.instanceMethod yX9_placeOf ∈ BG := mB (t4 (i := 141) (by decide +kernel)) (by decide +kernel)
theorem mw_0_22 : Cond.selects RX9 yX9_placeOf yX9_placeOf ∈ BG := mB (t0 (i := 22) (by decide +kernel)) (by decide +kernel)
theorem mw_4_117 : Cond.code yX9_isName cX9_isName 1 (some .boolean) ∈ BG := mB (t4 (i := 117) rfl) (by decide +kernel)
theorem mw_4_115 : Cond.methodLink RX9 132 yX9_isName ∈ BG := mB (t4 (i := 115) (by decide +kernel)) (by decide +kernel)
theorem mw_4_116 : Cond.static yX9_isName ∈ BG := mB (t4 (i := 116) (by decide +kernel)) (by decide +kernel)
theorem mw_4_138 : Cond.code yX9_answerOf cX9_answerOf 5 (some .int) ∈ BG := mB (t4 (i := 138) rfl) (by decide +kernel)
theorem mw_4_135 : Cond.methodLink RX9 150 yX9_answerOf ∈ BG := mB (t4 (i := 135) (by decide +kernel)) (by decide +kernel)
theorem mw_4_137 : Cond.instanceMethod yX9_answerOf ∈ BG := mB (t4 (i := 137) (by decide +kernel)) (by decide +kernel)
theorem mw_0_21 : Cond.selects RX9 yX9_answerOf yX9_answerOf ∈ BG := mB (t0 (i := 21) (by decide +kernel)) (by decide +kernel)
theorem mw_4_209 : Cond.code yX9_isRow cX9_isRow 2 (some .boolean) ∈ BG := mB (t4 (i := 209) rfl) (by decide +kernel)
theorem mw_4_206 : Cond.methodLink RX9 188 yX9_isRow ∈ BG := mB (t4 (i := 206) (by decide +kernel)) (by decide +kernel)
theorem mw_4_208 : Cond.instanceMethod yX9_isRow ∈ BG := mB (t4 (i := 208) (by decide +kernel)) (by decide +kernel)
theorem mw_0_31 : Cond.selects RX9 yX9_isRow yX9_isRow ∈ BG := mB (t0 (i := 31) (by decide +kernel)) (by decide +kernel)
theorem mw_4_174 : Cond.code yX9_nearestOf cX9_nearestOf 6 (some .int) ∈ BG := mB (t4 (i := 174) rfl) (by decide +kernel)
theorem mw_4_171 : Cond.methodLink RX9 179 yX9_nearestOf ∈ BG := mB (t4 (i := 171) (by decide +kernel)) (by decide +kernel)
theorem mw_4_173 : Cond.instanceMethod yX9_nearestOf ∈ BG := mB (t4 (i := 173) (by decide +kernel)) (by decide +kernel)
theorem mw_0_27 : Cond.selects RX9 yX9_nearestOf yX9_nearestOf ∈ BG := mB (t0 (i := 27) (by decide +kernel)) (by decide +kernel)
theorem mw_4_185 : Cond.code yX9_ones cX9_ones 3 (some .int) ∈ BG := mB (t4 (i := 185) rfl) (by decide +kernel)
theorem mw_4_183 : Cond.methodLink RX9 182 yX9_ones ∈ BG := mB (t4 (i := 183) (by decide +kernel)) (by decide +kernel)
theorem mw_4_184 : Cond.static yX9_ones ∈ BG := mB (t4 (i := 184) (by decide +kernel)) (by decide +kernel)
theorem dX9_hasName_0 : decode cX9_hasName 0 = .ok (.aload_n 0, 1) := by decide +kernel
theorem dX9_hasName_1 : decode cX9_hasName 1 = .ok (.getfield 47, 3) := by decide +kernel
theorem dX9_hasName_4 : decode cX9_hasName 4 = .ok (.iload_n 1, 1) := by decide +kernel
theorem dX9_hasName_5 : decode cX9_hasName 5 = .ok (.iaload, 1) := by decide +kernel
theorem dX9_hasName_6 : decode cX9_hasName 6 = .ok (.iload_n 2, 1) := by decide +kernel
theorem dX9_hasName_7 : decode cX9_hasName 7 = .ok (.ishr, 1) := by decide +kernel
theorem dX9_hasName_8 : decode cX9_hasName 8 = .ok (.iconst 1, 1) := by decide +kernel
theorem dX9_hasName_9 : decode cX9_hasName 9 = .ok (.iand, 1) := by decide +kernel
theorem dX9_hasName_10 : decode cX9_hasName 10 = .ok (.iconst 1, 1) := by decide +kernel
theorem dX9_hasName_11 : decode cX9_hasName 11 = .ok (.if_icmp .ne 7, 3) := by decide +kernel
theorem dX9_hasName_18 : decode cX9_hasName 18 = .ok (.iconst 0, 1) := by decide +kernel
theorem dX9_hasName_19 : decode cX9_hasName 19 = .ok (.ireturn, 1) := by decide +kernel
theorem dX9_hasName_14 : decode cX9_hasName 14 = .ok (.iconst 1, 1) := by decide +kernel
theorem dX9_hasName_15 : decode cX9_hasName 15 = .ok (.goto 4, 3) := by decide +kernel
theorem dX9_placeOf_0 : decode cX9_placeOf 0 = .ok (.bipush (-6), 2) := by decide +kernel
theorem dX9_placeOf_2 : decode cX9_placeOf 2 = .ok (.istore 4, 2) := by decide +kernel
theorem dX9_placeOf_4 : decode cX9_placeOf 4 = .ok (.iload_n 3, 1) := by decide +kernel
theorem dX9_placeOf_5 : decode cX9_placeOf 5 = .ok (.istore 5, 2) := by decide +kernel
theorem dX9_placeOf_7 : decode cX9_placeOf 7 = .ok (.iload 5, 2) := by decide +kernel
theorem dX9_placeOf_9 : decode cX9_placeOf 9 = .ok (.aload_n 0, 1) := by decide +kernel
theorem dX9_placeOf_10 : decode cX9_placeOf 10 = .ok (.getfield 26, 3) := by decide +kernel
theorem dX9_placeOf_13 : decode cX9_placeOf 13 = .ok (.iload_n 1, 1) := by decide +kernel
theorem dX9_placeOf_14 : decode cX9_placeOf 14 = .ok (.iaload, 1) := by decide +kernel
theorem dX9_placeOf_15 : decode cX9_placeOf 15 = .ok (.if_icmp .ge 43, 3) := by decide +kernel
theorem dX9_placeOf_58 : decode cX9_placeOf 58 = .ok (.iload 4, 2) := by decide +kernel
theorem dX9_placeOf_60 : decode cX9_placeOf 60 = .ok (.ireturn, 1) := by decide +kernel
theorem dX9_placeOf_18 : decode cX9_placeOf 18 = .ok (.iload 4, 2) := by decide +kernel
theorem dX9_placeOf_20 : decode cX9_placeOf 20 = .ok (.ifCond .ge 38, 3) := by decide +kernel
theorem dX9_placeOf_23 : decode cX9_placeOf 23 = .ok (.aload_n 0, 1) := by decide +kernel
theorem dX9_placeOf_24 : decode cX9_placeOf 24 = .ok (.aload_n 0, 1) := by decide +kernel
theorem dX9_placeOf_25 : decode cX9_placeOf 25 = .ok (.getfield 23, 3) := by decide +kernel
theorem dX9_placeOf_28 : decode cX9_placeOf 28 = .ok (.bipush 10, 2) := by decide +kernel
theorem dX9_placeOf_30 : decode cX9_placeOf 30 = .ok (.iload_n 1, 1) := by decide +kernel
theorem dX9_placeOf_31 : decode cX9_placeOf 31 = .ok (.imul, 1) := by decide +kernel
theorem dX9_placeOf_32 : decode cX9_placeOf 32 = .ok (.iload 5, 2) := by decide +kernel
theorem dX9_placeOf_34 : decode cX9_placeOf 34 = .ok (.iadd, 1) := by decide +kernel
theorem dX9_placeOf_35 : decode cX9_placeOf 35 = .ok (.iaload, 1) := by decide +kernel
theorem dX9_placeOf_36 : decode cX9_placeOf 36 = .ok (.iload_n 2, 1) := by decide +kernel
theorem dX9_placeOf_37 : decode cX9_placeOf 37 = .ok (.invokevirtual 142, 3) := by decide +kernel
theorem dX9_placeOf_40 : decode cX9_placeOf 40 = .ok (.ifCond .eq 8, 3) := by decide +kernel
theorem dX9_placeOf_43 : decode cX9_placeOf 43 = .ok (.iload 5, 2) := by decide +kernel
theorem dX9_placeOf_45 : decode cX9_placeOf 45 = .ok (.goto 5, 3) := by decide +kernel
theorem dX9_placeOf_50 : decode cX9_placeOf 50 = .ok (.istore 4, 2) := by decide +kernel
theorem dX9_placeOf_52 : decode cX9_placeOf 52 = .ok (.iinc 5 1, 3) := by decide +kernel
theorem dX9_placeOf_55 : decode cX9_placeOf 55 = .ok (.goto (-48), 3) := by decide +kernel
theorem dX9_placeOf_48 : decode cX9_placeOf 48 = .ok (.bipush (-6), 2) := by decide +kernel
theorem dX9_answerOf_0 : decode cX9_answerOf 0 = .ok (.aload_n 0, 1) := by decide +kernel
theorem dX9_answerOf_1 : decode cX9_answerOf 1 = .ok (.iload_n 1, 1) := by decide +kernel
theorem dX9_answerOf_2 : decode cX9_answerOf 2 = .ok (.iload_n 2, 1) := by decide +kernel
theorem dX9_answerOf_3 : decode cX9_answerOf 3 = .ok (.iload_n 3, 1) := by decide +kernel
theorem dX9_answerOf_4 : decode cX9_answerOf 4 = .ok (.invokevirtual 146, 3) := by decide +kernel
theorem dX9_answerOf_7 : decode cX9_answerOf 7 = .ok (.istore 4, 2) := by decide +kernel
theorem dX9_answerOf_9 : decode cX9_answerOf 9 = .ok (.iload 4, 2) := by decide +kernel
theorem dX9_answerOf_11 : decode cX9_answerOf 11 = .ok (.ifCond .ge 8, 3) := by decide +kernel
theorem dX9_answerOf_14 : decode cX9_answerOf 14 = .ok (.bipush (-6), 2) := by decide +kernel
theorem dX9_answerOf_16 : decode cX9_answerOf 16 = .ok (.goto 15, 3) := by decide +kernel
theorem dX9_answerOf_31 : decode cX9_answerOf 31 = .ok (.ireturn, 1) := by decide +kernel
theorem dX9_answerOf_19 : decode cX9_answerOf 19 = .ok (.aload_n 0, 1) := by decide +kernel
theorem dX9_answerOf_20 : decode cX9_answerOf 20 = .ok (.getfield 23, 3) := by decide +kernel
theorem dX9_answerOf_23 : decode cX9_answerOf 23 = .ok (.bipush 10, 2) := by decide +kernel
theorem dX9_answerOf_25 : decode cX9_answerOf 25 = .ok (.iload_n 1, 1) := by decide +kernel
theorem dX9_answerOf_26 : decode cX9_answerOf 26 = .ok (.imul, 1) := by decide +kernel
theorem dX9_answerOf_27 : decode cX9_answerOf 27 = .ok (.iload 4, 2) := by decide +kernel
theorem dX9_answerOf_29 : decode cX9_answerOf 29 = .ok (.iadd, 1) := by decide +kernel
theorem dX9_answerOf_30 : decode cX9_answerOf 30 = .ok (.iaload, 1) := by decide +kernel
theorem dX9_answer_0 : decode cX9_answer 0 = .ok (.aload_n 0, 1) := by decide +kernel
theorem dX9_answer_1 : decode cX9_answer 1 = .ok (.iload_n 1, 1) := by decide +kernel
theorem dX9_answer_2 : decode cX9_answer 2 = .ok (.invokevirtual 96, 3) := by decide +kernel
theorem dX9_answer_5 : decode cX9_answer 5 = .ok (.ifCond .eq 10, 3) := by decide +kernel
theorem dX9_answer_8 : decode cX9_answer 8 = .ok (.iload_n 2, 1) := by decide +kernel
theorem dX9_answer_9 : decode cX9_answer 9 = .ok (.invokestatic 132, 3) := by decide +kernel
theorem dX9_answer_12 : decode cX9_answer 12 = .ok (.ifCond .ne 5, 3) := by decide +kernel
theorem dX9_answer_17 : decode cX9_answer 17 = .ok (.aload_n 0, 1) := by decide +kernel
theorem dX9_answer_18 : decode cX9_answer 18 = .ok (.getfield 26, 3) := by decide +kernel
theorem dX9_answer_21 : decode cX9_answer 21 = .ok (.iload_n 1, 1) := by decide +kernel
theorem dX9_answer_22 : decode cX9_answer 22 = .ok (.iaload, 1) := by decide +kernel
theorem dX9_answer_23 : decode cX9_answer 23 = .ok (.ifCond .ne 8, 3) := by decide +kernel
theorem dX9_answer_31 : decode cX9_answer 31 = .ok (.aload_n 0, 1) := by decide +kernel
theorem dX9_answer_32 : decode cX9_answer 32 = .ok (.iload_n 1, 1) := by decide +kernel
theorem dX9_answer_33 : decode cX9_answer 33 = .ok (.iload_n 2, 1) := by decide +kernel
theorem dX9_answer_34 : decode cX9_answer 34 = .ok (.iconst 0, 1) := by decide +kernel
theorem dX9_answer_35 : decode cX9_answer 35 = .ok (.invokevirtual 150, 3) := by decide +kernel
theorem dX9_answer_38 : decode cX9_answer 38 = .ok (.ireturn, 1) := by decide +kernel
theorem dX9_answer_26 : decode cX9_answer 26 = .ok (.bipush (-3), 2) := by decide +kernel
theorem dX9_answer_28 : decode cX9_answer 28 = .ok (.goto 10, 3) := by decide +kernel
theorem dX9_answer_15 : decode cX9_answer 15 = .ok (.iconst (-1), 1) := by decide +kernel
theorem dX9_answer_16 : decode cX9_answer 16 = .ok (.ireturn, 1) := by decide +kernel
theorem dX9_next_0 : decode cX9_next 0 = .ok (.aload_n 0, 1) := by decide +kernel
theorem dX9_next_1 : decode cX9_next 1 = .ok (.iload_n 1, 1) := by decide +kernel
theorem dX9_next_2 : decode cX9_next 2 = .ok (.invokevirtual 96, 3) := by decide +kernel
theorem dX9_next_5 : decode cX9_next 5 = .ok (.ifCond .eq 10, 3) := by decide +kernel
theorem dX9_next_8 : decode cX9_next 8 = .ok (.iload_n 2, 1) := by decide +kernel
theorem dX9_next_9 : decode cX9_next 9 = .ok (.invokestatic 132, 3) := by decide +kernel
theorem dX9_next_12 : decode cX9_next 12 = .ok (.ifCond .ne 5, 3) := by decide +kernel
theorem dX9_next_17 : decode cX9_next 17 = .ok (.aload_n 0, 1) := by decide +kernel
theorem dX9_next_18 : decode cX9_next 18 = .ok (.getfield 26, 3) := by decide +kernel
theorem dX9_next_21 : decode cX9_next 21 = .ok (.iload_n 1, 1) := by decide +kernel
theorem dX9_next_22 : decode cX9_next 22 = .ok (.iaload, 1) := by decide +kernel
theorem dX9_next_23 : decode cX9_next 23 = .ok (.ifCond .ne 6, 3) := by decide +kernel
theorem dX9_next_29 : decode cX9_next 29 = .ok (.iconst 0, 1) := by decide +kernel
theorem dX9_next_30 : decode cX9_next 30 = .ok (.istore 4, 2) := by decide +kernel
theorem dX9_next_32 : decode cX9_next 32 = .ok (.iload 4, 2) := by decide +kernel
theorem dX9_next_34 : decode cX9_next 34 = .ok (.aload_n 0, 1) := by decide +kernel
theorem dX9_next_35 : decode cX9_next 35 = .ok (.getfield 26, 3) := by decide +kernel
theorem dX9_next_38 : decode cX9_next 38 = .ok (.iload_n 1, 1) := by decide +kernel
theorem dX9_next_39 : decode cX9_next 39 = .ok (.iaload, 1) := by decide +kernel
theorem dX9_next_40 : decode cX9_next 40 = .ok (.if_icmp .ge 36, 3) := by decide +kernel
theorem dX9_next_76 : decode cX9_next 76 = .ok (.iconst (-1), 1) := by decide +kernel
theorem dX9_next_77 : decode cX9_next 77 = .ok (.ireturn, 1) := by decide +kernel
theorem dX9_next_43 : decode cX9_next 43 = .ok (.aload_n 0, 1) := by decide +kernel
theorem dX9_next_44 : decode cX9_next 44 = .ok (.getfield 23, 3) := by decide +kernel
theorem dX9_next_47 : decode cX9_next 47 = .ok (.bipush 10, 2) := by decide +kernel
theorem dX9_next_49 : decode cX9_next 49 = .ok (.iload_n 1, 1) := by decide +kernel
theorem dX9_next_50 : decode cX9_next 50 = .ok (.imul, 1) := by decide +kernel
theorem dX9_next_51 : decode cX9_next 51 = .ok (.iload 4, 2) := by decide +kernel
theorem dX9_next_53 : decode cX9_next 53 = .ok (.iadd, 1) := by decide +kernel
theorem dX9_next_54 : decode cX9_next 54 = .ok (.iaload, 1) := by decide +kernel
theorem dX9_next_55 : decode cX9_next 55 = .ok (.iload_n 3, 1) := by decide +kernel
theorem dX9_next_56 : decode cX9_next 56 = .ok (.if_icmp .ne 14, 3) := by decide +kernel
theorem dX9_next_70 : decode cX9_next 70 = .ok (.iinc 4 1, 3) := by decide +kernel
theorem dX9_next_73 : decode cX9_next 73 = .ok (.goto (-41), 3) := by decide +kernel
theorem dX9_next_59 : decode cX9_next 59 = .ok (.aload_n 0, 1) := by decide +kernel
theorem dX9_next_60 : decode cX9_next 60 = .ok (.iload_n 1, 1) := by decide +kernel
theorem dX9_next_61 : decode cX9_next 61 = .ok (.iload_n 2, 1) := by decide +kernel
theorem dX9_next_62 : decode cX9_next 62 = .ok (.iload 4, 2) := by decide +kernel
theorem dX9_next_64 : decode cX9_next 64 = .ok (.iconst 1, 1) := by decide +kernel
theorem dX9_next_65 : decode cX9_next 65 = .ok (.iadd, 1) := by decide +kernel
theorem dX9_next_66 : decode cX9_next 66 = .ok (.invokevirtual 150, 3) := by decide +kernel
theorem dX9_next_69 : decode cX9_next 69 = .ok (.ireturn, 1) := by decide +kernel
theorem dX9_next_26 : decode cX9_next 26 = .ok (.bipush (-3), 2) := by decide +kernel
theorem dX9_next_28 : decode cX9_next 28 = .ok (.ireturn, 1) := by decide +kernel
theorem dX9_next_15 : decode cX9_next 15 = .ok (.iconst (-1), 1) := by decide +kernel
theorem dX9_next_16 : decode cX9_next 16 = .ok (.ireturn, 1) := by decide +kernel
theorem dX9_isRow_0 : decode cX9_isRow 0 = .ok (.aload_n 0, 1) := by decide +kernel
theorem dX9_isRow_1 : decode cX9_isRow 1 = .ok (.getfield 26, 3) := by decide +kernel
theorem dX9_isRow_4 : decode cX9_isRow 4 = .ok (.iload_n 1, 1) := by decide +kernel
theorem dX9_isRow_5 : decode cX9_isRow 5 = .ok (.iaload, 1) := by decide +kernel
theorem dX9_isRow_6 : decode cX9_isRow 6 = .ok (.ifCond .le 16, 3) := by decide +kernel
theorem dX9_isRow_22 : decode cX9_isRow 22 = .ok (.iconst 0, 1) := by decide +kernel
theorem dX9_isRow_23 : decode cX9_isRow 23 = .ok (.ireturn, 1) := by decide +kernel
theorem dX9_isRow_9 : decode cX9_isRow 9 = .ok (.aload_n 0, 1) := by decide +kernel
theorem dX9_isRow_10 : decode cX9_isRow 10 = .ok (.getfield 19, 3) := by decide +kernel
theorem dX9_isRow_13 : decode cX9_isRow 13 = .ok (.iload_n 1, 1) := by decide +kernel
theorem dX9_isRow_14 : decode cX9_isRow 14 = .ok (.baload, 1) := by decide +kernel
theorem dX9_isRow_15 : decode cX9_isRow 15 = .ok (.ifCond .ne 7, 3) := by decide +kernel
theorem dX9_isRow_18 : decode cX9_isRow 18 = .ok (.iconst 1, 1) := by decide +kernel
theorem dX9_isRow_19 : decode cX9_isRow 19 = .ok (.goto 4, 3) := by decide +kernel
theorem dX9_answeredBy_0 : decode cX9_answeredBy 0 = .ok (.iconst 0, 1) := by decide +kernel
theorem dX9_answeredBy_1 : decode cX9_answeredBy 1 = .ok (.istore_n 2, 1) := by decide +kernel
theorem dX9_answeredBy_2 : decode cX9_answeredBy 2 = .ok (.iconst 0, 1) := by decide +kernel
theorem dX9_answeredBy_3 : decode cX9_answeredBy 3 = .ok (.istore_n 3, 1) := by decide +kernel
theorem dX9_answeredBy_4 : decode cX9_answeredBy 4 = .ok (.iload_n 3, 1) := by decide +kernel
theorem dX9_answeredBy_5 : decode cX9_answeredBy 5 = .ok (.bipush 8, 2) := by decide +kernel
theorem dX9_answeredBy_7 : decode cX9_answeredBy 7 = .ok (.if_icmp .ge 37, 3) := by decide +kernel
theorem dX9_answeredBy_44 : decode cX9_answeredBy 44 = .ok (.iload_n 2, 1) := by decide +kernel
theorem dX9_answeredBy_45 : decode cX9_answeredBy 45 = .ok (.ireturn, 1) := by decide +kernel
theorem dX9_answeredBy_10 : decode cX9_answeredBy 10 = .ok (.aload_n 0, 1) := by decide +kernel
theorem dX9_answeredBy_11 : decode cX9_answeredBy 11 = .ok (.iload_n 1, 1) := by decide +kernel
theorem dX9_answeredBy_12 : decode cX9_answeredBy 12 = .ok (.invokevirtual 188, 3) := by decide +kernel
theorem dX9_answeredBy_15 : decode cX9_answeredBy 15 = .ok (.ifCond .eq 29, 3) := by decide +kernel
theorem dX9_answeredBy_18 : decode cX9_answeredBy 18 = .ok (.iload_n 2, 1) := by decide +kernel
theorem dX9_answeredBy_19 : decode cX9_answeredBy 19 = .ok (.aload_n 0, 1) := by decide +kernel
theorem dX9_answeredBy_20 : decode cX9_answeredBy 20 = .ok (.iload_n 1, 1) := by decide +kernel
theorem dX9_answeredBy_21 : decode cX9_answeredBy 21 = .ok (.iload_n 3, 1) := by decide +kernel
theorem dX9_answeredBy_22 : decode cX9_answeredBy 22 = .ok (.iconst 0, 1) := by decide +kernel
theorem dX9_answeredBy_23 : decode cX9_answeredBy 23 = .ok (.invokevirtual 146, 3) := by decide +kernel
theorem dX9_answeredBy_26 : decode cX9_answeredBy 26 = .ok (.ifCond .lt 9, 3) := by decide +kernel
theorem dX9_answeredBy_35 : decode cX9_answeredBy 35 = .ok (.iconst 0, 1) := by decide +kernel
theorem dX9_answeredBy_36 : decode cX9_answeredBy 36 = .ok (.ior, 1) := by decide +kernel
theorem dX9_answeredBy_37 : decode cX9_answeredBy 37 = .ok (.istore_n 2, 1) := by decide +kernel
theorem dX9_answeredBy_38 : decode cX9_answeredBy 38 = .ok (.iinc 3 1, 3) := by decide +kernel
theorem dX9_answeredBy_41 : decode cX9_answeredBy 41 = .ok (.goto (-37), 3) := by decide +kernel
theorem dX9_answeredBy_29 : decode cX9_answeredBy 29 = .ok (.iconst 1, 1) := by decide +kernel
theorem dX9_answeredBy_30 : decode cX9_answeredBy 30 = .ok (.iload_n 3, 1) := by decide +kernel
theorem dX9_answeredBy_31 : decode cX9_answeredBy 31 = .ok (.ishl, 1) := by decide +kernel
theorem dX9_answeredBy_32 : decode cX9_answeredBy 32 = .ok (.goto 4, 3) := by decide +kernel
theorem dX9_nearestOf_0 : decode cX9_nearestOf 0 = .ok (.aload_n 0, 1) := by decide +kernel
theorem dX9_nearestOf_1 : decode cX9_nearestOf 1 = .ok (.getfield 16, 3) := by decide +kernel
theorem dX9_nearestOf_4 : decode cX9_nearestOf 4 = .ok (.iload_n 1, 1) := by decide +kernel
theorem dX9_nearestOf_5 : decode cX9_nearestOf 5 = .ok (.iaload, 1) := by decide +kernel
theorem dX9_nearestOf_6 : decode cX9_nearestOf 6 = .ok (.iconst 1, 1) := by decide +kernel
theorem dX9_nearestOf_7 : decode cX9_nearestOf 7 = .ok (.iload_n 1, 1) := by decide +kernel
theorem dX9_nearestOf_8 : decode cX9_nearestOf 8 = .ok (.ishl, 1) := by decide +kernel
theorem dX9_nearestOf_9 : decode cX9_nearestOf 9 = .ok (.ior, 1) := by decide +kernel
theorem dX9_nearestOf_10 : decode cX9_nearestOf 10 = .ok (.iload_n 2, 1) := by decide +kernel
theorem dX9_nearestOf_11 : decode cX9_nearestOf 11 = .ok (.iand, 1) := by decide +kernel
theorem dX9_nearestOf_12 : decode cX9_nearestOf 12 = .ok (.istore_n 3, 1) := by decide +kernel
theorem dX9_nearestOf_13 : decode cX9_nearestOf 13 = .ok (.iload_n 3, 1) := by decide +kernel
theorem dX9_nearestOf_14 : decode cX9_nearestOf 14 = .ok (.istore 4, 2) := by decide +kernel
theorem dX9_nearestOf_16 : decode cX9_nearestOf 16 = .ok (.iconst 0, 1) := by decide +kernel
theorem dX9_nearestOf_17 : decode cX9_nearestOf 17 = .ok (.istore 5, 2) := by decide +kernel
theorem dX9_nearestOf_19 : decode cX9_nearestOf 19 = .ok (.iload 5, 2) := by decide +kernel
theorem dX9_nearestOf_21 : decode cX9_nearestOf 21 = .ok (.aload_n 0, 1) := by decide +kernel
theorem dX9_nearestOf_22 : decode cX9_nearestOf 22 = .ok (.getfield 86, 3) := by decide +kernel
theorem dX9_nearestOf_25 : decode cX9_nearestOf 25 = .ok (.if_icmp .ge 37, 3) := by decide +kernel
theorem dX9_nearestOf_62 : decode cX9_nearestOf 62 = .ok (.iload 4, 2) := by decide +kernel
theorem dX9_nearestOf_64 : decode cX9_nearestOf 64 = .ok (.ireturn, 1) := by decide +kernel
theorem dX9_nearestOf_28 : decode cX9_nearestOf 28 = .ok (.iload 4, 2) := by decide +kernel
theorem dX9_nearestOf_30 : decode cX9_nearestOf 30 = .ok (.iload_n 3, 1) := by decide +kernel
theorem dX9_nearestOf_31 : decode cX9_nearestOf 31 = .ok (.iload 5, 2) := by decide +kernel
theorem dX9_nearestOf_33 : decode cX9_nearestOf 33 = .ok (.ishr, 1) := by decide +kernel
theorem dX9_nearestOf_34 : decode cX9_nearestOf 34 = .ok (.iconst 1, 1) := by decide +kernel
theorem dX9_nearestOf_35 : decode cX9_nearestOf 35 = .ok (.iand, 1) := by decide +kernel
theorem dX9_nearestOf_36 : decode cX9_nearestOf 36 = .ok (.iconst 1, 1) := by decide +kernel
theorem dX9_nearestOf_37 : decode cX9_nearestOf 37 = .ok (.if_icmp .ne 15, 3) := by decide +kernel
theorem dX9_nearestOf_52 : decode cX9_nearestOf 52 = .ok (.iconst (-1), 1) := by decide +kernel
theorem dX9_nearestOf_53 : decode cX9_nearestOf 53 = .ok (.iand, 1) := by decide +kernel
theorem dX9_nearestOf_54 : decode cX9_nearestOf 54 = .ok (.istore 4, 2) := by decide +kernel
theorem dX9_nearestOf_56 : decode cX9_nearestOf 56 = .ok (.iinc 5 1, 3) := by decide +kernel
theorem dX9_nearestOf_59 : decode cX9_nearestOf 59 = .ok (.goto (-40), 3) := by decide +kernel
theorem dX9_nearestOf_40 : decode cX9_nearestOf 40 = .ok (.aload_n 0, 1) := by decide +kernel
theorem dX9_nearestOf_41 : decode cX9_nearestOf 41 = .ok (.getfield 16, 3) := by decide +kernel
theorem dX9_nearestOf_44 : decode cX9_nearestOf 44 = .ok (.iload 5, 2) := by decide +kernel
theorem dX9_nearestOf_46 : decode cX9_nearestOf 46 = .ok (.iaload, 1) := by decide +kernel
theorem dX9_nearestOf_47 : decode cX9_nearestOf 47 = .ok (.iconst (-1), 1) := by decide +kernel
theorem dX9_nearestOf_48 : decode cX9_nearestOf 48 = .ok (.ixor, 1) := by decide +kernel
theorem dX9_nearestOf_49 : decode cX9_nearestOf 49 = .ok (.goto 4, 3) := by decide +kernel
theorem dX9_havingOf_0 : decode cX9_havingOf 0 = .ok (.iconst 0, 1) := by decide +kernel
theorem dX9_havingOf_1 : decode cX9_havingOf 1 = .ok (.istore_n 2, 1) := by decide +kernel
theorem dX9_havingOf_2 : decode cX9_havingOf 2 = .ok (.iconst 0, 1) := by decide +kernel
theorem dX9_havingOf_3 : decode cX9_havingOf 3 = .ok (.istore_n 3, 1) := by decide +kernel
theorem dX9_havingOf_4 : decode cX9_havingOf 4 = .ok (.iload_n 3, 1) := by decide +kernel
theorem dX9_havingOf_5 : decode cX9_havingOf 5 = .ok (.aload_n 0, 1) := by decide +kernel
theorem dX9_havingOf_6 : decode cX9_havingOf 6 = .ok (.getfield 86, 3) := by decide +kernel
theorem dX9_havingOf_9 : decode cX9_havingOf 9 = .ok (.if_icmp .ge 28, 3) := by decide +kernel
theorem dX9_havingOf_37 : decode cX9_havingOf 37 = .ok (.iload_n 2, 1) := by decide +kernel
theorem dX9_havingOf_38 : decode cX9_havingOf 38 = .ok (.ireturn, 1) := by decide +kernel
theorem dX9_havingOf_12 : decode cX9_havingOf 12 = .ok (.iload_n 2, 1) := by decide +kernel
theorem dX9_havingOf_13 : decode cX9_havingOf 13 = .ok (.aload_n 0, 1) := by decide +kernel
theorem dX9_havingOf_14 : decode cX9_havingOf 14 = .ok (.iload_n 3, 1) := by decide +kernel
theorem dX9_havingOf_15 : decode cX9_havingOf 15 = .ok (.iload_n 1, 1) := by decide +kernel
theorem dX9_havingOf_16 : decode cX9_havingOf 16 = .ok (.invokevirtual 142, 3) := by decide +kernel
theorem dX9_havingOf_19 : decode cX9_havingOf 19 = .ok (.ifCond .eq 9, 3) := by decide +kernel
theorem dX9_havingOf_22 : decode cX9_havingOf 22 = .ok (.iconst 1, 1) := by decide +kernel
theorem dX9_havingOf_23 : decode cX9_havingOf 23 = .ok (.iload_n 3, 1) := by decide +kernel
theorem dX9_havingOf_24 : decode cX9_havingOf 24 = .ok (.ishl, 1) := by decide +kernel
theorem dX9_havingOf_25 : decode cX9_havingOf 25 = .ok (.goto 4, 3) := by decide +kernel
theorem dX9_havingOf_29 : decode cX9_havingOf 29 = .ok (.ior, 1) := by decide +kernel
theorem dX9_havingOf_30 : decode cX9_havingOf 30 = .ok (.istore_n 2, 1) := by decide +kernel
theorem dX9_havingOf_31 : decode cX9_havingOf 31 = .ok (.iinc 3 1, 3) := by decide +kernel
theorem dX9_havingOf_34 : decode cX9_havingOf 34 = .ok (.goto (-30), 3) := by decide +kernel
theorem dX9_havingOf_28 : decode cX9_havingOf 28 = .ok (.iconst 0, 1) := by decide +kernel
theorem dX9_doubtBy_0 : decode cX9_doubtBy 0 = .ok (.iconst 0, 1) := by decide +kernel
theorem dX9_doubtBy_1 : decode cX9_doubtBy 1 = .ok (.istore_n 2, 1) := by decide +kernel
theorem dX9_doubtBy_2 : decode cX9_doubtBy 2 = .ok (.iconst 0, 1) := by decide +kernel
theorem dX9_doubtBy_3 : decode cX9_doubtBy 3 = .ok (.istore_n 3, 1) := by decide +kernel
theorem dX9_doubtBy_4 : decode cX9_doubtBy 4 = .ok (.iload_n 3, 1) := by decide +kernel
theorem dX9_doubtBy_5 : decode cX9_doubtBy 5 = .ok (.aload_n 0, 1) := by decide +kernel
theorem dX9_doubtBy_6 : decode cX9_doubtBy 6 = .ok (.getfield 86, 3) := by decide +kernel
theorem dX9_doubtBy_9 : decode cX9_doubtBy 9 = .ok (.if_icmp .ge 32, 3) := by decide +kernel
theorem dX9_doubtBy_41 : decode cX9_doubtBy 41 = .ok (.iload_n 2, 1) := by decide +kernel
theorem dX9_doubtBy_42 : decode cX9_doubtBy 42 = .ok (.ireturn, 1) := by decide +kernel
theorem dX9_doubtBy_12 : decode cX9_doubtBy 12 = .ok (.iload_n 2, 1) := by decide +kernel
theorem dX9_doubtBy_13 : decode cX9_doubtBy 13 = .ok (.aload_n 0, 1) := by decide +kernel
theorem dX9_doubtBy_14 : decode cX9_doubtBy 14 = .ok (.iload_n 3, 1) := by decide +kernel
theorem dX9_doubtBy_15 : decode cX9_doubtBy 15 = .ok (.iload_n 1, 1) := by decide +kernel
theorem dX9_doubtBy_16 : decode cX9_doubtBy 16 = .ok (.invokevirtual 179, 3) := by decide +kernel
theorem dX9_doubtBy_19 : decode cX9_doubtBy 19 = .ok (.invokestatic 182, 3) := by decide +kernel
theorem dX9_doubtBy_22 : decode cX9_doubtBy 22 = .ok (.iconst 1, 1) := by decide +kernel
theorem dX9_doubtBy_23 : decode cX9_doubtBy 23 = .ok (.if_icmp .le 9, 3) := by decide +kernel
theorem dX9_doubtBy_32 : decode cX9_doubtBy 32 = .ok (.iconst 0, 1) := by decide +kernel
theorem dX9_doubtBy_33 : decode cX9_doubtBy 33 = .ok (.ior, 1) := by decide +kernel
theorem dX9_doubtBy_34 : decode cX9_doubtBy 34 = .ok (.istore_n 2, 1) := by decide +kernel
theorem dX9_doubtBy_35 : decode cX9_doubtBy 35 = .ok (.iinc 3 1, 3) := by decide +kernel
theorem dX9_doubtBy_38 : decode cX9_doubtBy 38 = .ok (.goto (-34), 3) := by decide +kernel
theorem dX9_doubtBy_26 : decode cX9_doubtBy 26 = .ok (.iconst 1, 1) := by decide +kernel
theorem dX9_doubtBy_27 : decode cX9_doubtBy 27 = .ok (.iload_n 3, 1) := by decide +kernel
theorem dX9_doubtBy_28 : decode cX9_doubtBy 28 = .ok (.ishl, 1) := by decide +kernel
theorem dX9_doubtBy_29 : decode cX9_doubtBy 29 = .ok (.goto 4, 3) := by decide +kernel
set_option maxHeartbeats 4000000 in
set_option maxRecDepth 100000 in
theorem m_hasName (l : Launch) (dC : Nat → ClassId) (dI : Nat → Nat → Nat) (sz : Nat) (h0 : Nat) (w0 : Value) (w1 : Value) (w2 : Value) (w3 : Value) (w4 : Value) (w5 : Value) (w6 : Value) (w7 : Value) (w8 : Value) (w9 : Value) (w10 : Value) (w11 : Value) (w12 : Value) (w13 : Value) (nm0 : Nat) (w15 : Value) (w16 : Value) (w17 : Value) (w18 : Value) (w19 : Value) (w20 : Value) (w21 : Value) (w22 : Value) (w23 : Value) (w24 : Value) (w25 : Value) (w26 : Value) (w27 : Value) (w28 : Value) (w29 : Value) (w30 : Value) (w31 : Value) (w32 : Value) (w33 : Value) (w34 : Value) (knm0 : ClassId) (fnm : Nat → Int32) (kq : Nat) (n : Int32) (hk9 : kq < 10) : Met l yX9_hasName (wq yX9_hasName cX9_hasName 3 (some .boolean)) ({ frames := 0, cells := 0, slots := 0, locals := 0 }) (va_Pc [.ref h0, .int (nI kq), .int n] (pcW dC dI [(knm0, .int)] [(h0, .inr (8, [w0, w1, w2, w3, w4, w5, w6, w7, w8, w9, w10, w11, w12, w13, .ref nm0, w15, w16, w17, w18, w19, w20, w21, w22, w23, w24, w25, w26, w27, w28, w29, w30, w31, w32, w33, w34])), (nm0, .inl (knm0, 10, .inl fnm))] sz)) (va_Qi (fun (_ : Int32) (_ : Unit) => True) (fun _ _ => True) (fun q : Nat => sz ≤ q)) 0 0 (fun q : Nat => sz ≤ q) := by
  refine Met.ofW (cc := cX9_hasName) (maxL := 3) (ret := (some .boolean)) (by decide) rfl ?_
  intro p e s m args below meth c s₁ B hml hv
  obtain ⟨rfl, hsz, hN, hP, hK, hD0⟩ := hv
  have hx := B.exec
  have hb := B.bytes
  have hr := B.returns
  have hts0 := atoms_spec (ws := (wq yX9_hasName cX9_hasName 3 (some .boolean))) B.pre
  have hts : ∀ w ∈ BG, w.before _ s = true := fun w h => hts0 w (List.mem_cons_of_mem _ h)
  have hown : s.vm.findClass RX9 = some m.cls := findClass_of_methodNamed B.named
  have hlocks := B.notSynchronized
  subst hsz
  have hA : ∀ q : Nat, s.heap.size ≤ q → (fun q : Nat => s.heap.size ≤ q) q := fun _ h => h
  have hD := hD0
  have hS : va_S (fun q : Nat => s.heap.size ≤ q) s.heap s.heap [] := va_S.rf
  have hP : va_P (dC, dI) vwCl [(h0, .inr (8, [w0, w1, w2, w3, w4, w5, w6, w7, w8, w9, w10, w11, w12, w13, .ref nm0, w15, w16, w17, w18, w19, w20, w21, w22, w23, w24, w25, w26, w27, w28, w29, w30, w31, w32, w33, w34])), (nm0, .inl (knm0, 10, .inl fnm))] s.heap := hP
  have hl := lv_entry ([.ref h0, .int (nI kq), .int n]) (n := 3) (Nat.le_of_ble_eq_true rfl)
  rw [lg_entry_eq]
  generalize (lg_sl ([.ref h0, .int (nI kq), .int n]) ++ List.replicate (3 - (lg_sl ([.ref h0, .int (nI kq), .int n])).length) Slot.unset).toArray = ls at hl ⊢
  have hl : lv_has ls 3 [(0, .ref h0), (1, .int (nI kq)), (2, .int n)] := hl
  refine lv_aload_n hx hb dX9_hasName_0 rfl (lv_at hl 0 rfl) ?_
  refine va_get (D := (dC, dI)) (ci := 8) (v := .ref nm0) (C := RX9) (T := TX9) (N := 35) hx hb hts inB_9 hown hK hP 0 rfl rfl 14 (by decide) (hts _ mw_3_196) (fun _ h9 => h9) rfl dX9_hasName_1 ?_
  refine lv_iload_n hx hb dX9_hasName_4 rfl (lv_at hl 1 rfl) ?_
  refine va_iald hx hb hK hP 1 0 rfl rfl (show vp_in (nI kq) 10 from vp_in_nI (by omega) (by omega)) dX9_hasName_5 ?_
  refine hx_top (y := (fnm kq)) (congrArg _ (nI_clamp (by omega))) ?_
  refine lv_iload_n hx hb dX9_hasName_6 rfl (lv_at hl 2 rfl) ?_
  refine lv_ishr hx hb dX9_hasName_7 ?_
  refine lv_iconst (v := 1) hx hb dX9_hasName_8 (by decide) ?_
  refine lv_iand hx hb dX9_hasName_9 ?_
  refine lv_iconst (v := 1) hx hb dX9_hasName_10 (by decide) ?_
  refine lv_icmp_ne (tgt := 18) hx hb dX9_hasName_11 (by decide) (fun c_1 => ?_) (fun c_1 => ?_)
  · have b_2 := gx_ne (X := (Int32.toInt (((fnm kq) >>> (n &&& 31)) &&& 1))) (C := 1) rfl (by decide) c_1
    refine lv_iconst (v := 0) hx hb dX9_hasName_18 (by decide) ?_
    exact W.zret (v := 0) hx hb hr (by decide) (fun t ht hW => ⟨⟨0, (), rfl, trivial, trivial⟩, hS.F ht⟩) hS.2.2 dX9_hasName_19
  · have b_2 := gn_ne (X := (Int32.toInt (((fnm kq) >>> (n &&& 31)) &&& 1))) (C := 1) rfl (by decide) c_1
    refine lv_iconst (v := 1) hx hb dX9_hasName_14 (by decide) ?_
    refine lv_goto (tgt := 19) hx hb dX9_hasName_15 (by decide) ?_
    exact W.zret (v := 1) hx hb hr (by decide) (fun t ht hW => ⟨⟨1, (), rfl, trivial, trivial⟩, hS.F ht⟩) hS.2.2 dX9_hasName_19
set_option maxHeartbeats 4000000 in
set_option maxRecDepth 100000 in
theorem m_hasNameX (l : Launch) (dC : Nat → ClassId) (dI : Nat → Nat → Nat) (sz : Nat) (h0 : Nat) (w0 : Value) (w1 : Value) (w2 : Value) (w3 : Value) (w4 : Value) (w5 : Value) (w6 : Value) (w7 : Value) (w8 : Value) (w9 : Value) (w10 : Value) (w11 : Value) (w12 : Value) (w13 : Value) (nm0 : Nat) (w15 : Value) (w16 : Value) (w17 : Value) (w18 : Value) (w19 : Value) (w20 : Value) (w21 : Value) (w22 : Value) (w23 : Value) (w24 : Value) (w25 : Value) (w26 : Value) (w27 : Value) (w28 : Value) (w29 : Value) (w30 : Value) (w31 : Value) (w32 : Value) (w33 : Value) (w34 : Value) (knm0 : ClassId) (fnm : Nat → Int32) (kq : Nat) (nq : Nat) (hk9 : kq < 10) (hn9 : nq < 32) : Met l yX9_hasName (wq yX9_hasName cX9_hasName 3 (some .boolean)) ({ frames := 0, cells := 0, slots := 0, locals := 0 }) (va_Pc [.ref h0, .int (nI kq), .int (nI nq)] (pcW dC dI [(knm0, .int)] [(h0, .inr (8, [w0, w1, w2, w3, w4, w5, w6, w7, w8, w9, w10, w11, w12, w13, .ref nm0, w15, w16, w17, w18, w19, w20, w21, w22, w23, w24, w25, w26, w27, w28, w29, w30, w31, w32, w33, w34])), (nm0, .inl (knm0, 10, .inl fnm))] sz)) (va_Qi (fun (r : Int32) (_ : Unit) => r = (if bt (fnm kq) nq = true then 1 else 0)) (fun _ _ => True) (fun q : Nat => sz ≤ q)) 0 0 (fun q : Nat => sz ≤ q) := by
  refine Met.ofW (cc := cX9_hasName) (maxL := 3) (ret := (some .boolean)) (by decide) rfl ?_
  intro p e s m args below meth c s₁ B hml hv
  obtain ⟨rfl, hsz, hN, hP, hK, hD0⟩ := hv
  have hx := B.exec
  have hb := B.bytes
  have hr := B.returns
  have hts0 := atoms_spec (ws := (wq yX9_hasName cX9_hasName 3 (some .boolean))) B.pre
  have hts : ∀ w ∈ BG, w.before _ s = true := fun w h => hts0 w (List.mem_cons_of_mem _ h)
  have hown : s.vm.findClass RX9 = some m.cls := findClass_of_methodNamed B.named
  have hlocks := B.notSynchronized
  subst hsz
  have hA : ∀ q : Nat, s.heap.size ≤ q → (fun q : Nat => s.heap.size ≤ q) q := fun _ h => h
  have hD := hD0
  have hS : va_S (fun q : Nat => s.heap.size ≤ q) s.heap s.heap [] := va_S.rf
  have hP : va_P (dC, dI) vwCl [(h0, .inr (8, [w0, w1, w2, w3, w4, w5, w6, w7, w8, w9, w10, w11, w12, w13, .ref nm0, w15, w16, w17, w18, w19, w20, w21, w22, w23, w24, w25, w26, w27, w28, w29, w30, w31, w32, w33, w34])), (nm0, .inl (knm0, 10, .inl fnm))] s.heap := hP
  have hl := lv_entry ([.ref h0, .int (nI kq), .int (nI nq)]) (n := 3) (Nat.le_of_ble_eq_true rfl)
  rw [lg_entry_eq]
  generalize (lg_sl ([.ref h0, .int (nI kq), .int (nI nq)]) ++ List.replicate (3 - (lg_sl ([.ref h0, .int (nI kq), .int (nI nq)])).length) Slot.unset).toArray = ls at hl ⊢
  have hl : lv_has ls 3 [(0, .ref h0), (1, .int (nI kq)), (2, .int (nI nq))] := hl
  refine lv_aload_n hx hb dX9_hasName_0 rfl (lv_at hl 0 rfl) ?_
  refine va_get (D := (dC, dI)) (ci := 8) (v := .ref nm0) (C := RX9) (T := TX9) (N := 35) hx hb hts inB_9 hown hK hP 0 rfl rfl 14 (by decide) (hts _ mw_3_196) (fun _ h9 => h9) rfl dX9_hasName_1 ?_
  refine lv_iload_n hx hb dX9_hasName_4 rfl (lv_at hl 1 rfl) ?_
  refine va_iald hx hb hK hP 1 0 rfl rfl (show vp_in (nI kq) 10 from vp_in_nI (by omega) (by omega)) dX9_hasName_5 ?_
  refine hx_top (y := (fnm kq)) (congrArg _ (nI_clamp (by omega))) ?_
  refine lv_iload_n hx hb dX9_hasName_6 rfl (lv_at hl 2 rfl) ?_
  refine lv_ishr hx hb dX9_hasName_7 ?_
  refine lv_iconst (v := 1) hx hb dX9_hasName_8 (by decide) ?_
  refine lv_iand hx hb dX9_hasName_9 ?_
  refine lv_iconst (v := 1) hx hb dX9_hasName_10 (by decide) ?_
  refine lv_icmp_ne (tgt := 18) hx hb dX9_hasName_11 (by decide) (fun c_1 => ?_) (fun c_1 => ?_)
  · have b_2 := gx_ne (X := (Int32.toInt (((fnm kq) >>> ((nI nq) &&& 31)) &&& 1))) (C := 1) rfl (by decide) c_1
    refine lv_iconst (v := 0) hx hb dX9_hasName_18 (by decide) ?_
    exact W.zret (v := 0) hx hb hr (by decide) (fun t ht hW => ⟨⟨0, (), rfl, (if_neg (by rw [t_n1 (by omega) c_1]; decide)).symm, trivial⟩, hS.F ht⟩) hS.2.2 dX9_hasName_19
  · have b_2 := gn_ne (X := (Int32.toInt (((fnm kq) >>> ((nI nq) &&& 31)) &&& 1))) (C := 1) rfl (by decide) c_1
    refine lv_iconst (v := 1) hx hb dX9_hasName_14 (by decide) ?_
    refine lv_goto (tgt := 19) hx hb dX9_hasName_15 (by decide) ?_
    exact W.zret (v := 1) hx hb hr (by decide) (fun t ht hW => ⟨⟨1, (), rfl, (if_pos (t_1 (by omega) c_1)).symm, trivial⟩, hS.F ht⟩) hS.2.2 dX9_hasName_19
set_option maxHeartbeats 4000000 in
set_option maxRecDepth 100000 in
theorem m_placeOf (l : Launch) (dC : Nat → ClassId) (dI : Nat → Nat → Nat) (sz : Nat) (h0 : Nat) (w0 : Value) (w1 : Value) (w2 : Value) (w3 : Value) (kn : Nat) (l4 : Nat) (l1 : Nat) (w7 : Value) (w8 : Value) (w9 : Value) (w10 : Value) (w11 : Value) (w12 : Value) (w13 : Value) (nm0 : Nat) (w15 : Value) (w16 : Value) (w17 : Value) (w18 : Value) (w19 : Value) (w20 : Value) (w21 : Value) (w22 : Value) (w23 : Value) (w24 : Value) (w25 : Value) (w26 : Value) (w27 : Value) (w28 : Value) (w29 : Value) (w30 : Value) (w31 : Value) (w32 : Value) (w33 : Value) (w34 : Value) (kl1 : ClassId) (fll : Nat → Int32) (kl4 : ClassId) (fln : Nat → Int32) (knm0 : ClassId) (fnm : Nat → Int32) (kq : Nat) (nq : Nat) (fm : Nat) (hkn : kn ≤ 10) (hll : BdOk 10 10 fll) (hln : LnOk fll fln kn) (hkq : kq < kn) (hfm : fm ≤ 11) (hn9 : nq < 8) : Met l yX9_placeOf (wq yX9_placeOf cX9_placeOf 6 (some .int)) ({ frames := 1, cells := 0, slots := 0, locals := 22 }) (va_Pc [.ref h0, .int (nI kq), .int (nI nq), .int (nI fm)] (pcW dC dI [(kl1, .int), (kl4, .int), (knm0, .int)] [(h0, .inr (8, [w0, w1, w2, w3, .int (nI kn), .ref l4, .ref l1, w7, w8, w9, w10, w11, w12, w13, .ref nm0, w15, w16, w17, w18, w19, w20, w21, w22, w23, w24, w25, w26, w27, w28, w29, w30, w31, w32, w33, w34])), (l1, .inl (kl1, 10, .inl fll)), (l4, .inl (kl4, 100, .inl fln)), (nm0, .inl (knm0, 10, .inl fnm))] sz)) (va_Qi (fun (r : Int32) (_ : Unit) => r = plM fll fln fnm kq nq fm) (fun _ _ => True) (fun q : Nat => sz ≤ q)) 0 0 (fun q : Nat => sz ≤ q) := by
  refine Met.ofW (cc := cX9_placeOf) (maxL := 6) (ret := (some .int)) (by decide) rfl ?_
  intro p e s m args below meth c s₁ B hml hv
  obtain ⟨rfl, hsz, hN, hP, hK, hD0⟩ := hv
  have hx := B.exec
  have hb := B.bytes
  have hr := B.returns
  have hts0 := atoms_spec (ws := (wq yX9_placeOf cX9_placeOf 6 (some .int))) B.pre
  have hts : ∀ w ∈ BG, w.before _ s = true := fun w h => hts0 w (List.mem_cons_of_mem _ h)
  have hown : s.vm.findClass RX9 = some m.cls := findClass_of_methodNamed B.named
  have hlocks := B.notSynchronized
  subst hsz
  have hA : ∀ q : Nat, s.heap.size ≤ q → (fun q : Nat => s.heap.size ≤ q) q := fun _ h => h
  have hD := hD0
  have hS : va_S (fun q : Nat => s.heap.size ≤ q) s.heap s.heap [] := va_S.rf
  have hP : va_P (dC, dI) vwCl [(h0, .inr (8, [w0, w1, w2, w3, .int (nI kn), .ref l4, .ref l1, w7, w8, w9, w10, w11, w12, w13, .ref nm0, w15, w16, w17, w18, w19, w20, w21, w22, w23, w24, w25, w26, w27, w28, w29, w30, w31, w32, w33, w34])), (l1, .inl (kl1, 10, .inl fll)), (l4, .inl (kl4, 100, .inl fln)), (nm0, .inl (knm0, 10, .inl fnm))] s.heap := hP
  have hl := lv_entry ([.ref h0, .int (nI kq), .int (nI nq), .int (nI fm)]) (n := 6) (Nat.le_of_ble_eq_true rfl)
  rw [lg_entry_eq]
  generalize (lg_sl ([.ref h0, .int (nI kq), .int (nI nq), .int (nI fm)]) ++ List.replicate (6 - (lg_sl ([.ref h0, .int (nI kq), .int (nI nq), .int (nI fm)])).length) Slot.unset).toArray = ls at hl ⊢
  have hl : lv_has ls 6 [(0, .ref h0), (1, .int (nI kq)), (2, .int (nI nq)), (3, .int (nI fm))] := hl
  refine lv_bipush (v := (-6)) hx hb dX9_placeOf_0 (by decide) ?_
  refine lv_istore (lv' := [(4, .int (-6)), (0, .ref h0), (1, .int (nI kq)), (2, .int (nI nq)), (3, .int (nI fm))]) hx hb dX9_placeOf_2 hl (by decide) rfl (fun ls hl => ?_)
  refine lv_iload_n hx hb dX9_placeOf_4 rfl (lv_at hl 4 rfl) ?_
  refine lv_istore (lv' := [(5, .int (nI fm)), (4, .int (-6)), (0, .ref h0), (1, .int (nI kq)), (2, .int (nI nq)), (3, .int (nI fm))]) hx hb dX9_placeOf_5 hl (by decide) rfl (fun ls hl => ?_)
  have key_1 : ∀ (fu : Nat) (i9 : Nat) (fd : Int32), (i9 ≤ 11) → (FdI (fun i => bt (fnm (fln (10 * kq + i)).toNatClampNeg) nq) (fll kq).toNatClampNeg i9 (plM fll fln fnm kq nq fm) fd) → 11 - i9 < fu → ∀ (H : Heap) (locs : List Loc), va_P (dC, dI) vwCl [(h0, .inr (8, [w0, w1, w2, w3, .int (nI kn), .ref l4, .ref l1, w7, w8, w9, w10, w11, w12, w13, .ref nm0, w15, w16, w17, w18, w19, w20, w21, w22, w23, w24, w25, w26, w27, w28, w29, w30, w31, w32, w33, w34])), (l1, .inl (kl1, 10, .inl fll)), (l4, .inl (kl4, 100, .inl fln)), (nm0, .inl (knm0, 10, .inl fnm))] H → va_S (fun q : Nat => s.heap.size ≤ q) s.heap H locs → ∀ (ls : Array Slot), lv_has ls 6 [(5, .int (nI i9)), (4, .int fd), (0, .ref h0), (1, .int (nI kq)), (2, .int (nI nq)), (3, .int (nI fm))] → W p l e (headSpec (wq yX9_placeOf cX9_placeOf 6 (some .int)) ({ frames := 1, cells := 0, slots := 0, locals := 22 })).room s m (([.ref h0, .int (nI kq), .int (nI nq), .int (nI fm)] : List Value)).toArray below meth c H locs 0 0 (MQ below (va_Qi (fun (r : Int32) (_ : Unit) => r = plM fll fln fnm kq nq fm) (fun _ _ => True) (fun q : Nat => s.heap.size ≤ q)) (([.ref h0, .int (nI kq), .int (nI nq), .int (nI fm)] : List Value)).toArray s 0 0 (fun q : Nat => s.heap.size ≤ q)) (F0 m 7 ls []) := by
    intro fu
    induction fu with
    | zero => intro i9 fd hi9 hT hme; exact absurd hme (Nat.not_lt_zero _)
    | succ fu ih_2 =>
      intro i9 fd hi9 hT hme H locs hP hS ls hl
      refine lv_iload hx hb dX9_placeOf_7 (lv_at hl 0 rfl) ?_
      refine lv_aload_n hx hb dX9_placeOf_9 rfl (lv_at hl 2 rfl) ?_
      refine va_get (D := (dC, dI)) (ci := 8) (v := .ref l1) (C := RX9) (T := TX9) (N := 35) hx hb hts inB_9 hown hK hP 0 rfl rfl 6 (by decide) (hts _ mw_3_188) (fun _ h9 => h9) rfl dX9_placeOf_10 ?_
      refine lv_iload_n hx hb dX9_placeOf_13 rfl (lv_at hl 3 rfl) ?_
      refine va_iald hx hb hK hP 1 0 rfl rfl (show vp_in (nI kq) 10 from vp_in_nI (by omega) (by omega)) dX9_placeOf_14 ?_
      refine hx_top (y := (fll kq)) (congrArg _ (nI_clamp (by omega))) ?_
      obtain ⟨n_3, hn_3, en_3⟩ := hll kq (by omega)
      refine hx_top (y := (nI n_3)) en_3 ?_
      refine lv_icmp_ge (tgt := 58) hx hb dX9_placeOf_15 (by decide) (fun c_4 => ?_) (fun c_4 => ?_)
      · have b_5 := gx_ge (X := ((i9 : Nat) : Int)) (C := ((n_3 : Nat) : Int)) (nI_toInt (by omega)) (nI_toInt (by omega)) c_4
        refine lv_iload hx hb dX9_placeOf_58 (lv_at hl 1 rfl) ?_
        exact W.iret (v := fd) hx hb hr (fun t ht hW => ⟨⟨fd, (), rfl, (fd_leaf hT (by rw [en_3, nI_clamp (by omega)]; omega)), trivial⟩, hS.F ht⟩) hS.2.2 dX9_placeOf_60
      · have b_5 := gn_ge (X := ((i9 : Nat) : Int)) (C := ((n_3 : Nat) : Int)) (nI_toInt (by omega)) (nI_toInt (by omega)) c_4
        refine lv_iload hx hb dX9_placeOf_18 (lv_at hl 1 rfl) ?_
        refine lv_if_ge (tgt := 58) hx hb dX9_placeOf_20 (by decide) (fun c_6 => ?_) (fun c_6 => ?_)
        · have b_7 := gx_ge (X := (Int32.toInt fd)) (C := 0) rfl (by decide) c_6
          refine lv_iload hx hb dX9_placeOf_58 (lv_at hl 1 rfl) ?_
          exact W.iret (v := fd) hx hb hr (fun t ht hW => ⟨⟨fd, (), rfl, (fd_leaf hT (by rw [en_3, nI_clamp (by omega)]; omega)), trivial⟩, hS.F ht⟩) hS.2.2 dX9_placeOf_60
        · have b_7 := gn_ge (X := (Int32.toInt fd)) (C := 0) rfl (by decide) c_6
          refine lv_aload_n hx hb dX9_placeOf_23 rfl (lv_at hl 2 rfl) ?_
          refine lv_aload_n hx hb dX9_placeOf_24 rfl (lv_at hl 2 rfl) ?_
          refine va_get (D := (dC, dI)) (ci := 8) (v := .ref l4) (C := RX9) (T := TX9) (N := 35) hx hb hts inB_9 hown hK hP 0 rfl rfl 5 (by decide) (hts _ mw_3_187) (fun _ h9 => h9) rfl dX9_placeOf_25 ?_
          refine lv_bipush (v := 10) hx hb dX9_placeOf_28 (by decide) ?_
          refine lv_iload_n hx hb dX9_placeOf_30 rfl (lv_at hl 3 rfl) ?_
          refine lv_imul hx hb dX9_placeOf_31 ?_
          refine hx_top (y := (nI (10 * kq))) (pk_mul 10 kq) ?_
          refine lv_iload hx hb dX9_placeOf_32 (lv_at hl 0 rfl) ?_
          refine lv_iadd hx hb dX9_placeOf_34 ?_
          refine hx_top (y := (nI ((10 * kq) + i9))) (nI_add (10 * kq) i9) ?_
          refine va_iald hx hb hK hP 2 1 rfl rfl (show vp_in (nI ((10 * kq) + i9)) 100 from vp_in_nI (by omega) (by omega)) dX9_placeOf_35 ?_
          refine hx_top (y := (fln ((10 * kq) + i9))) (congrArg _ (nI_clamp (by omega))) ?_
          obtain ⟨n_8, hn_8, en_8⟩ := hln kq (by omega) i9 (by rw [en_3, nI_clamp (by omega)]; omega)
          refine hx_top (y := (nI n_8)) en_8 ?_
          refine lv_iload_n hx hb dX9_placeOf_36 rfl (lv_at hl 4 rfl) ?_
          have hPc := hP.sub (ws' := [(h0, .inr (8, [w0, w1, w2, w3, .int (nI kn), .ref l4, .ref l1, w7, w8, w9, w10, w11, w12, w13, .ref nm0, w15, w16, w17, w18, w19, w20, w21, w22, w23, w24, w25, w26, w27, w28, w29, w30, w31, w32, w33, w34])), (nm0, .inl (knm0, 10, .inl fnm))]) [0, 3] rfl
          have hDc := hD.sub (ws' := [(h0, .inr (8, [w0, w1, w2, w3, .int (nI kn), .ref l4, .ref l1, w7, w8, w9, w10, w11, w12, w13, .ref nm0, w15, w16, w17, w18, w19, w20, w21, w22, w23, w24, w25, w26, w27, w28, w29, w30, w31, w32, w33, w34])), (nm0, .inl (knm0, 10, .inl fnm))]) [0, 3] (by decide) rfl
          have hKc := hK.sub (tys' := [(knm0, .int)]) [2] rfl
          refine va_calli (va_runV (As := [.int (nI n_8), .int (nI nq)]) (rest := []) ⟨hx, hb, hml, hown, hts⟩ (m_hasNameX l dC dI H.size h0 (w0) (w1) (w2) (w3) (.int (nI kn)) (.ref l4) (.ref l1) (w7) (w8) (w9) (w10) (w11) (w12) (w13) nm0 (w15) (w16) (w17) (w18) (w19) (w20) (w21) (w22) (w23) (w24) (w25) (w26) (w27) (w28) (w29) (w30) (w31) (w32) (w33) (w34) knm0 fnm n_8 nq (by omega) (by omega)) (cwV 2 hts (gV mw_4_123 mw_4_125 mw_0_20 mw_1_9 mw_4_126) rfl rfl rfl (by decide +kernel) ⟨Nat.le_of_ble_eq_true rfl, Nat.le_of_ble_eq_true rfl⟩) ⟨pcW_blind, va_recv hKc hPc (ci := 8) (q0 := 0) rfl rfl, pcW_at hPc hKc hDc hN⟩ rfl rfl hl.1 rfl (lv_room (Nat.le_of_ble_eq_true rfl)) dX9_placeOf_37 ⟨Nat.le_of_ble_eq_true rfl, Nat.le_of_ble_eq_true rfl⟩) hS (fun q h1 h2 => absurd h2 (Nat.not_le.mpr h1)) (fun q h => hA q (Nat.le_trans hS.1 h)) (fun r_9 u t H1 locs ht hvm hw_9 hB hz1 hk1 hS => ?_)
          have hP := keepP hP hk1
          clear hz1 hk1 hB ht hvm hPc hDc hKc
          generalize H1 = H at hP hS ⊢
          rcases fx_bool hw_9 with ⟨rfl, b_10⟩ | ⟨rfl, b_10⟩
          · skip
            refine lv_if_eq (tgt := 48) hx hb dX9_placeOf_40 (by decide) (fun h => absurd h (by decide)) (fun _ => ?_)
            refine lv_iload hx hb dX9_placeOf_43 (lv_at hl 0 rfl) ?_
            refine lv_goto (tgt := 50) hx hb dX9_placeOf_45 (by decide) ?_
            refine lv_istore (lv' := [(4, .int (nI i9)), (5, .int (nI i9)), (0, .ref h0), (1, .int (nI kq)), (2, .int (nI nq)), (3, .int (nI fm))]) hx hb dX9_placeOf_50 hl (by decide) rfl (fun ls hl => ?_)
            refine lv_iinc (v := (nI (i9 + 1))) (lv' := [(5, .int (nI (i9 + 1))), (4, .int (nI i9)), (0, .ref h0), (1, .int (nI kq)), (2, .int (nI nq)), (3, .int (nI fm))]) hx hb dX9_placeOf_52 hl (k := 1) rfl (nI_add i9 1) (by decide) rfl (fun ls hl => ?_)
            refine lv_goto (tgt := 7) hx hb dX9_placeOf_55 (by decide) ?_
            exact ih_2 (i9 + 1) (nI i9) (by omega) (fd_hit hT (by omega) (by show bt (fnm (fln (10 * kq + i9)).toNatClampNeg) nq = true; rw [en_8, nI_clamp (by omega)]; exact b_10) (by rw [en_3, nI_clamp (by omega)]; omega) (by omega)) (by omega) _ _ hP hS ls (lv_sub hl [0, 1, 2, 3, 4, 5] rfl)
          · skip
            refine lv_if_eq (tgt := 48) hx hb dX9_placeOf_40 (by decide) (fun _ => ?_) (fun h => absurd (by decide) h)
            refine lv_bipush (v := (-6)) hx hb dX9_placeOf_48 (by decide) ?_
            refine lv_istore (lv' := [(4, .int (-6)), (5, .int (nI i9)), (0, .ref h0), (1, .int (nI kq)), (2, .int (nI nq)), (3, .int (nI fm))]) hx hb dX9_placeOf_50 hl (by decide) rfl (fun ls hl => ?_)
            refine lv_iinc (v := (nI (i9 + 1))) (lv' := [(5, .int (nI (i9 + 1))), (4, .int (-6)), (0, .ref h0), (1, .int (nI kq)), (2, .int (nI nq)), (3, .int (nI fm))]) hx hb dX9_placeOf_52 hl (k := 1) rfl (nI_add i9 1) (by decide) rfl (fun ls hl => ?_)
            refine lv_goto (tgt := 7) hx hb dX9_placeOf_55 (by decide) ?_
            exact ih_2 (i9 + 1) (-6) (by omega) (fd_miss hT (by omega) (by show bt (fnm (fln (10 * kq + i9)).toNatClampNeg) nq = false; rw [en_8, nI_clamp (by omega)]; exact bF b_10) (by rw [en_3, nI_clamp (by omega)]; omega)) (by omega) _ _ hP hS ls (lv_sub hl [0, 1, 2, 3, 4, 5] rfl)
  exact key_1 ((11 - fm) + 1) fm (-6) hfm (Or.inl ⟨rfl, rfl⟩) (Nat.lt_succ_self _) _ _ hP hS ls (lv_sub hl [0, 1, 2, 3, 4, 5] rfl)
set_option maxHeartbeats 4000000 in
set_option maxRecDepth 100000 in
theorem m_answerOf (l : Launch) (dC : Nat → ClassId) (dI : Nat → Nat → Nat) (sz : Nat) (h0 : Nat) (w0 : Value) (w1 : Value) (w2 : Value) (w3 : Value) (kn : Nat) (l4 : Nat) (l1 : Nat) (w7 : Value) (w8 : Value) (w9 : Value) (w10 : Value) (w11 : Value) (w12 : Value) (w13 : Value) (nm0 : Nat) (w15 : Value) (w16 : Value) (w17 : Value) (w18 : Value) (w19 : Value) (w20 : Value) (w21 : Value) (w22 : Value) (w23 : Value) (w24 : Value) (w25 : Value) (w26 : Value) (w27 : Value) (w28 : Value) (w29 : Value) (w30 : Value) (w31 : Value) (w32 : Value) (w33 : Value) (w34 : Value) (kl1 : ClassId) (fll : Nat → Int32) (kl4 : ClassId) (fln : Nat → Int32) (knm0 : ClassId) (fnm : Nat → Int32) (kq : Nat) (nq : Nat) (fm : Nat) (hkn : kn ≤ 10) (hll : BdOk 10 10 fll) (hln : LnOk fll fln kn) (hkq : kq < kn) (hfm : fm ≤ 11) (hn9 : nq < 8) : Met l yX9_answerOf (wq yX9_answerOf cX9_answerOf 5 (some .int)) ({ frames := 2, cells := 0, slots := 0, locals := 47 }) (va_Pc [.ref h0, .int (nI kq), .int (nI nq), .int (nI fm)] (pcW dC dI [(kl1, .int), (kl4, .int), (knm0, .int)] [(h0, .inr (8, [w0, w1, w2, w3, .int (nI kn), .ref l4, .ref l1, w7, w8, w9, w10, w11, w12, w13, .ref nm0, w15, w16, w17, w18, w19, w20, w21, w22, w23, w24, w25, w26, w27, w28, w29, w30, w31, w32, w33, w34])), (l1, .inl (kl1, 10, .inl fll)), (l4, .inl (kl4, 100, .inl fln)), (nm0, .inl (knm0, 10, .inl fnm))] sz)) (va_Qi (fun (r : Int32) (_ : Unit) => r = ansM fll fln fnm kq nq fm) (fun _ _ => True) (fun q : Nat => sz ≤ q)) 0 0 (fun q : Nat => sz ≤ q) := by
  refine Met.ofW (cc := cX9_answerOf) (maxL := 5) (ret := (some .int)) (by decide) rfl ?_
  intro p e s m args below meth c s₁ B hml hv
  obtain ⟨rfl, hsz, hN, hP, hK, hD0⟩ := hv
  have hx := B.exec
  have hb := B.bytes
  have hr := B.returns
  have hts0 := atoms_spec (ws := (wq yX9_answerOf cX9_answerOf 5 (some .int))) B.pre
  have hts : ∀ w ∈ BG, w.before _ s = true := fun w h => hts0 w (List.mem_cons_of_mem _ h)
  have hown : s.vm.findClass RX9 = some m.cls := findClass_of_methodNamed B.named
  have hlocks := B.notSynchronized
  subst hsz
  have hA : ∀ q : Nat, s.heap.size ≤ q → (fun q : Nat => s.heap.size ≤ q) q := fun _ h => h
  have hD := hD0
  have hS : va_S (fun q : Nat => s.heap.size ≤ q) s.heap s.heap [] := va_S.rf
  have hP : va_P (dC, dI) vwCl [(h0, .inr (8, [w0, w1, w2, w3, .int (nI kn), .ref l4, .ref l1, w7, w8, w9, w10, w11, w12, w13, .ref nm0, w15, w16, w17, w18, w19, w20, w21, w22, w23, w24, w25, w26, w27, w28, w29, w30, w31, w32, w33, w34])), (l1, .inl (kl1, 10, .inl fll)), (l4, .inl (kl4, 100, .inl fln)), (nm0, .inl (knm0, 10, .inl fnm))] s.heap := hP
  have hl := lv_entry ([.ref h0, .int (nI kq), .int (nI nq), .int (nI fm)]) (n := 5) (Nat.le_of_ble_eq_true rfl)
  rw [lg_entry_eq]
  generalize (lg_sl ([.ref h0, .int (nI kq), .int (nI nq), .int (nI fm)]) ++ List.replicate (5 - (lg_sl ([.ref h0, .int (nI kq), .int (nI nq), .int (nI fm)])).length) Slot.unset).toArray = ls at hl ⊢
  have hl : lv_has ls 5 [(0, .ref h0), (1, .int (nI kq)), (2, .int (nI nq)), (3, .int (nI fm))] := hl
  have hle9 := bd_cle0 hll (show kq < 10 by omega)
  refine lv_aload_n hx hb dX9_answerOf_0 rfl (lv_at hl 0 rfl) ?_
  refine lv_iload_n hx hb dX9_answerOf_1 rfl (lv_at hl 1 rfl) ?_
  refine lv_iload_n hx hb dX9_answerOf_2 rfl (lv_at hl 2 rfl) ?_
  refine lv_iload_n hx hb dX9_answerOf_3 rfl (lv_at hl 3 rfl) ?_
  have hPc := hP.sub (ws' := [(h0, .inr (8, [w0, w1, w2, w3, .int (nI kn), .ref l4, .ref l1, w7, w8, w9, w10, w11, w12, w13, .ref nm0, w15, w16, w17, w18, w19, w20, w21, w22, w23, w24, w25, w26, w27, w28, w29, w30, w31, w32, w33, w34])), (l1, .inl (kl1, 10, .inl fll)), (l4, .inl (kl4, 100, .inl fln)), (nm0, .inl (knm0, 10, .inl fnm))]) [0, 1, 2, 3] rfl
  have hDc := hD.sub (ws' := [(h0, .inr (8, [w0, w1, w2, w3, .int (nI kn), .ref l4, .ref l1, w7, w8, w9, w10, w11, w12, w13, .ref nm0, w15, w16, w17, w18, w19, w20, w21, w22, w23, w24, w25, w26, w27, w28, w29, w30, w31, w32, w33, w34])), (l1, .inl (kl1, 10, .inl fll)), (l4, .inl (kl4, 100, .inl fln)), (nm0, .inl (knm0, 10, .inl fnm))]) [0, 1, 2, 3] (by decide) rfl
  have hKc := hK.sub (tys' := [(kl1, .int), (kl4, .int), (knm0, .int)]) [0, 1, 2] rfl
  refine va_calli (va_runV (As := [.int (nI kq), .int (nI nq), .int (nI fm)]) (rest := []) ⟨hx, hb, hml, hown, hts⟩ (m_placeOf l dC dI s.heap.size h0 (w0) (w1) (w2) (w3) kn l4 l1 (w7) (w8) (w9) (w10) (w11) (w12) (w13) nm0 (w15) (w16) (w17) (w18) (w19) (w20) (w21) (w22) (w23) (w24) (w25) (w26) (w27) (w28) (w29) (w30) (w31) (w32) (w33) (w34) kl1 fll kl4 fln knm0 fnm kq nq fm hkn hll hln hkq hfm hn9) (cwV 3 hts (gV mw_4_139 mw_4_141 mw_0_22 mw_1_9 mw_4_142) rfl rfl rfl (by decide +kernel) ⟨Nat.le_of_ble_eq_true rfl, Nat.le_of_ble_eq_true rfl⟩) ⟨pcW_blind, va_recv hKc hPc (ci := 8) (q0 := 0) rfl rfl, pcW_at hPc hKc hDc hN⟩ rfl rfl hl.1 rfl (lv_room (Nat.le_of_ble_eq_true rfl)) dX9_answerOf_4 ⟨Nat.le_of_ble_eq_true rfl, Nat.le_of_ble_eq_true rfl⟩) hS (fun q h1 h2 => absurd h2 (Nat.not_le.mpr h1)) (fun q h => hA q (Nat.le_trans hS.1 h)) (fun r_1 u t H1 locs ht hvm hw_1 hB hz1 hk1 hS => ?_)
  have hP := keepP hP hk1
  clear hz1 hk1 hB ht hvm hPc hDc hKc
  generalize H1 = H at hP hS ⊢
  rcases pl_cases hw_1 with eq9 | ⟨q9, hq9, eq9⟩
  · subst eq9
    refine lv_istore (lv' := [(4, .int (-6)), (0, .ref h0), (1, .int (nI kq)), (2, .int (nI nq)), (3, .int (nI fm))]) hx hb dX9_answerOf_7 hl (by decide) rfl (fun ls hl => ?_)
    refine lv_iload hx hb dX9_answerOf_9 (lv_at hl 0 rfl) ?_
    refine lv_if_ge (tgt := 19) hx hb dX9_answerOf_11 (by decide) (fun h => absurd h (by decide)) (fun _ => ?_)
    refine lv_bipush (v := (-6)) hx hb dX9_answerOf_14 (by decide) ?_
    refine lv_goto (tgt := 31) hx hb dX9_answerOf_16 (by decide) ?_
    exact W.iret (v := (-6)) hx hb hr (fun t ht hW => ⟨⟨(-6), (), rfl, (by unfold ansM; rw [← hw_1]; exact (if_pos rfl).symm), trivial⟩, hS.F ht⟩) hS.2.2 dX9_answerOf_31
  · subst eq9
    refine lv_istore (lv' := [(4, .int (nI q9)), (0, .ref h0), (1, .int (nI kq)), (2, .int (nI nq)), (3, .int (nI fm))]) hx hb dX9_answerOf_7 hl (by decide) rfl (fun ls hl => ?_)
    refine lv_iload hx hb dX9_answerOf_9 (lv_at hl 0 rfl) ?_
    refine lv_if_ge (tgt := 19) hx hb dX9_answerOf_11 (by decide) (fun c_2 => ?_) (fun h => absurd (gn_ge (X := ((q9 : Nat) : Int)) (C := 0) (nI_toInt (by omega)) (by decide) h) (by omega))
    have b_3 := gx_ge (X := ((q9 : Nat) : Int)) (C := 0) (nI_toInt (by omega)) (by decide) c_2
    refine lv_aload_n hx hb dX9_answerOf_19 rfl (lv_at hl 1 rfl) ?_
    refine va_get (D := (dC, dI)) (ci := 8) (v := .ref l4) (C := RX9) (T := TX9) (N := 35) hx hb hts inB_9 hown hK hP 0 rfl rfl 5 (by decide) (hts _ mw_3_187) (fun _ h9 => h9) rfl dX9_answerOf_20 ?_
    refine lv_bipush (v := 10) hx hb dX9_answerOf_23 (by decide) ?_
    refine lv_iload_n hx hb dX9_answerOf_25 rfl (lv_at hl 2 rfl) ?_
    refine lv_imul hx hb dX9_answerOf_26 ?_
    refine hx_top (y := (nI (10 * kq))) (pk_mul 10 kq) ?_
    refine lv_iload hx hb dX9_answerOf_27 (lv_at hl 0 rfl) ?_
    refine lv_iadd hx hb dX9_answerOf_29 ?_
    refine hx_top (y := (nI ((10 * kq) + q9))) (nI_add (10 * kq) q9) ?_
    refine va_iald hx hb hK hP 2 1 rfl rfl (show vp_in (nI ((10 * kq) + q9)) 100 from vp_in_nI (by omega) (by omega)) dX9_answerOf_30 ?_
    refine hx_top (y := (fln ((10 * kq) + q9))) (congrArg _ (nI_clamp (by omega))) ?_
    exact W.iret (v := (fln ((10 * kq) + q9))) hx hb hr (fun t ht hW => ⟨⟨(fln ((10 * kq) + q9)), (), rfl, (by unfold ansM; rw [← hw_1, if_neg (nI_ne6 (by omega)), nI_clamp (by omega)]), trivial⟩, hS.F ht⟩) hS.2.2 dX9_answerOf_31
set_option maxHeartbeats 4000000 in
set_option maxRecDepth 100000 in
theorem m_answer (l : Launch) (dC : Nat → ClassId) (dI : Nat → Nat → Nat) (sz : Nat) (h0 : Nat) (w0 : Value) (w1 : Value) (w2 : Value) (w3 : Value) (kn : Nat) (l4 : Nat) (l1 : Nat) (w7 : Value) (w8 : Value) (w9 : Value) (w10 : Value) (w11 : Value) (w12 : Value) (w13 : Value) (nm0 : Nat) (w15 : Value) (w16 : Value) (w17 : Value) (w18 : Value) (w19 : Value) (w20 : Value) (w21 : Value) (w22 : Value) (w23 : Value) (w24 : Value) (w25 : Value) (w26 : Value) (w27 : Value) (w28 : Value) (w29 : Value) (w30 : Value) (w31 : Value) (w32 : Value) (w33 : Value) (w34 : Value) (kl1 : ClassId) (fll : Nat → Int32) (kl4 : ClassId) (fln : Nat → Int32) (knm0 : ClassId) (fnm : Nat → Int32) (n1 : Int32) (n2 : Int32) (hkn : kn ≤ 10) (hll : BdOk 10 10 fll) (hln : LnOk fll fln kn) : Met l yX9_answer (wq yX9_answer cX9_answer 3 (some .int)) ({ frames := 3, cells := 0, slots := 0, locals := 71 }) (va_Pc [.ref h0, .int n1, .int n2] (pcW dC dI [(kl1, .int), (kl4, .int), (knm0, .int)] [(h0, .inr (8, [w0, w1, w2, w3, .int (nI kn), .ref l4, .ref l1, w7, w8, w9, w10, w11, w12, w13, .ref nm0, w15, w16, w17, w18, w19, w20, w21, w22, w23, w24, w25, w26, w27, w28, w29, w30, w31, w32, w33, w34])), (l1, .inl (kl1, 10, .inl fll)), (l4, .inl (kl4, 100, .inl fln)), (nm0, .inl (knm0, 10, .inl fnm))] sz)) (va_Qi (fun (r : Int32) (_ : Unit) => r = F_ans kn (fll n1.toNatClampNeg).toNatClampNeg (ansM fll fln fnm n1.toNatClampNeg n2.toNatClampNeg 0) n1 n2) (fun _ _ => True) (fun q : Nat => sz ≤ q)) 0 0 (fun q : Nat => sz ≤ q) := by
  refine Met.ofW (cc := cX9_answer) (maxL := 3) (ret := (some .int)) (by decide) rfl ?_
  intro p e s m args below meth c s₁ B hml hv
  obtain ⟨rfl, hsz, hN, hP, hK, hD0⟩ := hv
  have hx := B.exec
  have hb := B.bytes
  have hr := B.returns
  have hts0 := atoms_spec (ws := (wq yX9_answer cX9_answer 3 (some .int))) B.pre
  have hts : ∀ w ∈ BG, w.before _ s = true := fun w h => hts0 w (List.mem_cons_of_mem _ h)
  have hown : s.vm.findClass RX9 = some m.cls := findClass_of_methodNamed B.named
  have hlocks := B.notSynchronized
  subst hsz
  have hA : ∀ q : Nat, s.heap.size ≤ q → (fun q : Nat => s.heap.size ≤ q) q := fun _ h => h
  have hD := hD0
  have hS : va_S (fun q : Nat => s.heap.size ≤ q) s.heap s.heap [] := va_S.rf
  have hP : va_P (dC, dI) vwCl [(h0, .inr (8, [w0, w1, w2, w3, .int (nI kn), .ref l4, .ref l1, w7, w8, w9, w10, w11, w12, w13, .ref nm0, w15, w16, w17, w18, w19, w20, w21, w22, w23, w24, w25, w26, w27, w28, w29, w30, w31, w32, w33, w34])), (l1, .inl (kl1, 10, .inl fll)), (l4, .inl (kl4, 100, .inl fln)), (nm0, .inl (knm0, 10, .inl fnm))] s.heap := hP
  have hl := lv_entry ([.ref h0, .int n1, .int n2]) (n := 3) (Nat.le_of_ble_eq_true rfl)
  rw [lg_entry_eq]
  generalize (lg_sl ([.ref h0, .int n1, .int n2]) ++ List.replicate (3 - (lg_sl ([.ref h0, .int n1, .int n2])).length) Slot.unset).toArray = ls at hl ⊢
  have hl : lv_has ls 3 [(0, .ref h0), (1, .int n1), (2, .int n2)] := hl
  refine lv_aload_n hx hb dX9_answer_0 rfl (lv_at hl 0 rfl) ?_
  refine lv_iload_n hx hb dX9_answer_1 rfl (lv_at hl 1 rfl) ?_
  have hPc := hP.sub (ws' := [(h0, .inr (8, [w0, w1, w2, w3, .int (nI kn), .ref l4, .ref l1, w7, w8, w9, w10, w11, w12, w13, .ref nm0, w15, w16, w17, w18, w19, w20, w21, w22, w23, w24, w25, w26, w27, w28, w29, w30, w31, w32, w33, w34]))]) [0] rfl
  have hDc := hD.sub (ws' := [(h0, .inr (8, [w0, w1, w2, w3, .int (nI kn), .ref l4, .ref l1, w7, w8, w9, w10, w11, w12, w13, .ref nm0, w15, w16, w17, w18, w19, w20, w21, w22, w23, w24, w25, w26, w27, w28, w29, w30, w31, w32, w33, w34]))]) [0] (by decide) rfl
  have hKc := hK.sub (tys' := []) [] rfl
  refine va_calli (va_runV (As := [.int n1]) (rest := []) ⟨hx, hb, hml, hown, hts⟩ (m_isKind l dC dI s.heap.size h0 (w0) (w1) (w2) (w3) kn (.ref l4) (.ref l1) (w7) (w8) (w9) (w10) (w11) (w12) (w13) (.ref nm0) (w15) (w16) (w17) (w18) (w19) (w20) (w21) (w22) (w23) (w24) (w25) (w26) (w27) (w28) (w29) (w30) (w31) (w32) (w33) (w34) n1 hkn) (cwV 1 hts (gV mw_4_53 mw_4_55 mw_0_15 mw_1_9 mw_4_56) rfl rfl rfl (by decide +kernel) ⟨Nat.le_of_ble_eq_true rfl, Nat.le_of_ble_eq_true rfl⟩) ⟨pcW_blind, va_recv hKc hPc (ci := 8) (q0 := 0) rfl rfl, pcW_at hPc hKc hDc hN⟩ rfl rfl hl.1 rfl (lv_room (Nat.le_of_ble_eq_true rfl)) dX9_answer_2 ⟨Nat.le_of_ble_eq_true rfl, Nat.le_of_ble_eq_true rfl⟩) hS (fun q h1 h2 => absurd h2 (Nat.not_le.mpr h1)) (fun q h => hA q (Nat.le_trans hS.1 h)) (fun r_1 u t H1 locs ht hvm hw_1 hB hz1 hk1 hS => ?_)
  have hP := keepP hP hk1
  clear hz1 hk1 hB ht hvm hPc hDc hKc
  generalize H1 = H at hP hS ⊢
  rcases fx_bool hw_1 with ⟨rfl, b_2⟩ | ⟨rfl, b_2⟩
  · skip
    refine lv_if_eq (tgt := 15) hx hb dX9_answer_5 (by decide) (fun h => absurd h (by decide)) (fun _ => ?_)
    refine lv_iload_n hx hb dX9_answer_8 rfl (lv_at hl 2 rfl) ?_
    have hPc := hP.sub (ws' := []) [] rfl
    have hDc := hD.sub (ws' := []) [] (by decide) rfl
    have hKc := hK.sub (tys' := []) [] rfl
    refine va_calli (va_runS (As := [.int n2]) (rest := []) ⟨hx, hb, hml, hown, hts⟩ (m_isName l dC dI H.size n2 ) (va_cwS 1 hts (gS mw_4_115 mw_4_116 mw_1_9 mw_4_117) rfl rfl rfl (by decide +kernel) ⟨Nat.le_of_ble_eq_true rfl, Nat.le_of_ble_eq_true rfl⟩) ⟨pcW_blind, pcW_at hPc hKc hDc hN⟩ rfl rfl hl.1 rfl (lv_room (Nat.le_of_ble_eq_true rfl)) dX9_answer_9 ⟨Nat.le_of_ble_eq_true rfl, Nat.le_of_ble_eq_true rfl⟩) hS (fun q h1 h2 => absurd h2 (Nat.not_le.mpr h1)) (fun q h => hA q (Nat.le_trans hS.1 h)) (fun r_3 u t H1 locs ht hvm hw_3 hB hz1 hk1 hS => ?_)
    have hP := keepP hP hk1
    clear hz1 hk1 hB ht hvm hPc hDc hKc
    generalize H1 = H at hP hS ⊢
    rcases fx_bool hw_3 with ⟨rfl, b_4⟩ | ⟨rfl, b_4⟩
    · skip
      refine lv_if_ne (tgt := 17) hx hb dX9_answer_12 (by decide) (fun _ => ?_) (fun h => absurd h (by decide))
      obtain ⟨j_5, tj_5, ej_5⟩ := fx_nat (x := n1) (by omega)
      subst ej_5
      have yj_5 : Int32.toInt (nI j_5) = (j_5 : Int) := nI_toInt tj_5
      obtain ⟨j_6, tj_6, ej_6⟩ := fx_nat (x := n2) (by omega)
      subst ej_6
      have yj_6 : Int32.toInt (nI j_6) = (j_6 : Int) := nI_toInt tj_6
      refine lv_aload_n hx hb dX9_answer_17 rfl (lv_at hl 0 rfl) ?_
      refine va_get (D := (dC, dI)) (ci := 8) (v := .ref l1) (C := RX9) (T := TX9) (N := 35) hx hb hts inB_9 hown hK hP 0 rfl rfl 6 (by decide) (hts _ mw_3_188) (fun _ h9 => h9) rfl dX9_answer_18 ?_
      refine lv_iload_n hx hb dX9_answer_21 rfl (lv_at hl 1 rfl) ?_
      refine va_iald hx hb hK hP 1 0 rfl rfl (show vp_in (nI j_5) 10 from vp_in_nI (by omega) (by omega)) dX9_answer_22 ?_
      refine hx_top (y := (fll j_5)) (congrArg _ (nI_clamp (by omega))) ?_
      obtain ⟨n_7, hn_7, en_7⟩ := hll j_5 (by omega)
      refine hx_top (y := (nI n_7)) en_7 ?_
      refine lv_if_ne (tgt := 31) hx hb dX9_answer_23 (by decide) (fun c_8 => ?_) (fun c_8 => ?_)
      · have b_9 := gx_ne (X := ((n_7 : Nat) : Int)) (C := 0) (nI_toInt (by omega)) (by decide) c_8
        refine lv_aload_n hx hb dX9_answer_31 rfl (lv_at hl 0 rfl) ?_
        refine lv_iload_n hx hb dX9_answer_32 rfl (lv_at hl 1 rfl) ?_
        refine lv_iload_n hx hb dX9_answer_33 rfl (lv_at hl 2 rfl) ?_
        refine lv_iconst (v := 0) hx hb dX9_answer_34 (by decide) ?_
        have hPc := hP.sub (ws' := [(h0, .inr (8, [w0, w1, w2, w3, .int (nI kn), .ref l4, .ref l1, w7, w8, w9, w10, w11, w12, w13, .ref nm0, w15, w16, w17, w18, w19, w20, w21, w22, w23, w24, w25, w26, w27, w28, w29, w30, w31, w32, w33, w34])), (l1, .inl (kl1, 10, .inl fll)), (l4, .inl (kl4, 100, .inl fln)), (nm0, .inl (knm0, 10, .inl fnm))]) [0, 1, 2, 3] rfl
        have hDc := hD.sub (ws' := [(h0, .inr (8, [w0, w1, w2, w3, .int (nI kn), .ref l4, .ref l1, w7, w8, w9, w10, w11, w12, w13, .ref nm0, w15, w16, w17, w18, w19, w20, w21, w22, w23, w24, w25, w26, w27, w28, w29, w30, w31, w32, w33, w34])), (l1, .inl (kl1, 10, .inl fll)), (l4, .inl (kl4, 100, .inl fln)), (nm0, .inl (knm0, 10, .inl fnm))]) [0, 1, 2, 3] (by decide) rfl
        have hKc := hK.sub (tys' := [(kl1, .int), (kl4, .int), (knm0, .int)]) [0, 1, 2] rfl
        refine va_calli (va_runV (As := [.int (nI j_5), .int (nI j_6), .int 0]) (rest := []) ⟨hx, hb, hml, hown, hts⟩ (m_answerOf l dC dI H.size h0 (w0) (w1) (w2) (w3) kn l4 l1 (w7) (w8) (w9) (w10) (w11) (w12) (w13) nm0 (w15) (w16) (w17) (w18) (w19) (w20) (w21) (w22) (w23) (w24) (w25) (w26) (w27) (w28) (w29) (w30) (w31) (w32) (w33) (w34) kl1 fll kl4 fln knm0 fnm j_5 j_6 0 hkn hll hln (by omega) (by omega) (by omega)) (cwV 3 hts (gV mw_4_135 mw_4_137 mw_0_21 mw_1_9 mw_4_138) rfl rfl rfl (by decide +kernel) ⟨Nat.le_of_ble_eq_true rfl, Nat.le_of_ble_eq_true rfl⟩) ⟨pcW_blind, va_recv hKc hPc (ci := 8) (q0 := 0) rfl rfl, pcW_at hPc hKc hDc hN⟩ rfl rfl hl.1 rfl (lv_room (Nat.le_of_ble_eq_true rfl)) dX9_answer_35 ⟨Nat.le_of_ble_eq_true rfl, Nat.le_of_ble_eq_true rfl⟩) hS (fun q h1 h2 => absurd h2 (Nat.not_le.mpr h1)) (fun q h => hA q (Nat.le_trans hS.1 h)) (fun r_10 u t H1 locs ht hvm hw_10 hB hz1 hk1 hS => ?_)
        have hP := keepP hP hk1
        clear hz1 hk1 hB ht hvm hPc hDc hKc
        generalize H1 = H at hP hS ⊢
        exact W.iret (v := r_10) hx hb hr (fun t ht hW => ⟨⟨r_10, (), rfl, (by unfold F_ans; rw [if_pos (by omega), nI_clamp (by omega), nI_clamp (by omega), en_7, nI_clamp (by omega), if_neg (by omega)]; exact hw_10), trivial⟩, hS.F ht⟩) hS.2.2 dX9_answer_38
      · have b_9 := gn_ne (X := ((n_7 : Nat) : Int)) (C := 0) (nI_toInt (by omega)) (by decide) c_8
        refine lv_bipush (v := (-3)) hx hb dX9_answer_26 (by decide) ?_
        refine lv_goto (tgt := 38) hx hb dX9_answer_28 (by decide) ?_
        exact W.iret (v := (-3)) hx hb hr (fun t ht hW => ⟨⟨(-3), (), rfl, (by unfold F_ans; rw [if_pos (by omega), nI_clamp (by omega), nI_clamp (by omega), en_7, nI_clamp (by omega), if_pos (by omega)]), trivial⟩, hS.F ht⟩) hS.2.2 dX9_answer_38
    · skip
      refine lv_if_ne (tgt := 17) hx hb dX9_answer_12 (by decide) (fun h => absurd h (by decide)) (fun _ => ?_)
      refine lv_iconst (v := (-1)) hx hb dX9_answer_15 (by decide) ?_
      exact W.iret (v := (-1)) hx hb hr (fun t ht hW => ⟨⟨(-1), (), rfl, (by unfold F_ans; rw [if_neg (by omega)]), trivial⟩, hS.F ht⟩) hS.2.2 dX9_answer_16
  · skip
    refine lv_if_eq (tgt := 15) hx hb dX9_answer_5 (by decide) (fun _ => ?_) (fun h => absurd (by decide) h)
    refine lv_iconst (v := (-1)) hx hb dX9_answer_15 (by decide) ?_
    exact W.iret (v := (-1)) hx hb hr (fun t ht hW => ⟨⟨(-1), (), rfl, (by unfold F_ans; rw [if_neg (by omega)]), trivial⟩, hS.F ht⟩) hS.2.2 dX9_answer_16
set_option maxHeartbeats 4000000 in
set_option maxRecDepth 100000 in
theorem m_next (l : Launch) (dC : Nat → ClassId) (dI : Nat → Nat → Nat) (sz : Nat) (h0 : Nat) (w0 : Value) (w1 : Value) (w2 : Value) (w3 : Value) (kn : Nat) (l4 : Nat) (l1 : Nat) (w7 : Value) (w8 : Value) (w9 : Value) (w10 : Value) (w11 : Value) (w12 : Value) (w13 : Value) (nm0 : Nat) (w15 : Value) (w16 : Value) (w17 : Value) (w18 : Value) (w19 : Value) (w20 : Value) (w21 : Value) (w22 : Value) (w23 : Value) (w24 : Value) (w25 : Value) (w26 : Value) (w27 : Value) (w28 : Value) (w29 : Value) (w30 : Value) (w31 : Value) (w32 : Value) (w33 : Value) (w34 : Value) (kl1 : ClassId) (fll : Nat → Int32) (kl4 : ClassId) (fln : Nat → Int32) (knm0 : ClassId) (fnm : Nat → Int32) (n1 : Int32) (n2 : Int32) (n3 : Int32) (hkn : kn ≤ 10) (hll : BdOk 10 10 fll) (hln : LnOk fll fln kn) : Met l yX9_next (wq yX9_next cX9_next 5 (some .int)) ({ frames := 3, cells := 0, slots := 0, locals := 71 }) (va_Pc [.ref h0, .int n1, .int n2, .int n3] (pcW dC dI [(kl1, .int), (kl4, .int), (knm0, .int)] [(h0, .inr (8, [w0, w1, w2, w3, .int (nI kn), .ref l4, .ref l1, w7, w8, w9, w10, w11, w12, w13, .ref nm0, w15, w16, w17, w18, w19, w20, w21, w22, w23, w24, w25, w26, w27, w28, w29, w30, w31, w32, w33, w34])), (l1, .inl (kl1, 10, .inl fll)), (l4, .inl (kl4, 100, .inl fln)), (nm0, .inl (knm0, 10, .inl fnm))] sz)) (va_Qi (fun (_ : Int32) (_ : Unit) => True) (fun _ _ => True) (fun q : Nat => sz ≤ q)) 0 0 (fun q : Nat => sz ≤ q) := by
  refine Met.ofW (cc := cX9_next) (maxL := 5) (ret := (some .int)) (by decide) rfl ?_
  intro p e s m args below meth c s₁ B hml hv
  obtain ⟨rfl, hsz, hN, hP, hK, hD0⟩ := hv
  have hx := B.exec
  have hb := B.bytes
  have hr := B.returns
  have hts0 := atoms_spec (ws := (wq yX9_next cX9_next 5 (some .int))) B.pre
  have hts : ∀ w ∈ BG, w.before _ s = true := fun w h => hts0 w (List.mem_cons_of_mem _ h)
  have hown : s.vm.findClass RX9 = some m.cls := findClass_of_methodNamed B.named
  have hlocks := B.notSynchronized
  subst hsz
  have hA : ∀ q : Nat, s.heap.size ≤ q → (fun q : Nat => s.heap.size ≤ q) q := fun _ h => h
  have hD := hD0
  have hS : va_S (fun q : Nat => s.heap.size ≤ q) s.heap s.heap [] := va_S.rf
  have hP : va_P (dC, dI) vwCl [(h0, .inr (8, [w0, w1, w2, w3, .int (nI kn), .ref l4, .ref l1, w7, w8, w9, w10, w11, w12, w13, .ref nm0, w15, w16, w17, w18, w19, w20, w21, w22, w23, w24, w25, w26, w27, w28, w29, w30, w31, w32, w33, w34])), (l1, .inl (kl1, 10, .inl fll)), (l4, .inl (kl4, 100, .inl fln)), (nm0, .inl (knm0, 10, .inl fnm))] s.heap := hP
  have hl := lv_entry ([.ref h0, .int n1, .int n2, .int n3]) (n := 5) (Nat.le_of_ble_eq_true rfl)
  rw [lg_entry_eq]
  generalize (lg_sl ([.ref h0, .int n1, .int n2, .int n3]) ++ List.replicate (5 - (lg_sl ([.ref h0, .int n1, .int n2, .int n3])).length) Slot.unset).toArray = ls at hl ⊢
  have hl : lv_has ls 5 [(0, .ref h0), (1, .int n1), (2, .int n2), (3, .int n3)] := hl
  refine lv_aload_n hx hb dX9_next_0 rfl (lv_at hl 0 rfl) ?_
  refine lv_iload_n hx hb dX9_next_1 rfl (lv_at hl 1 rfl) ?_
  have hPc := hP.sub (ws' := [(h0, .inr (8, [w0, w1, w2, w3, .int (nI kn), .ref l4, .ref l1, w7, w8, w9, w10, w11, w12, w13, .ref nm0, w15, w16, w17, w18, w19, w20, w21, w22, w23, w24, w25, w26, w27, w28, w29, w30, w31, w32, w33, w34]))]) [0] rfl
  have hDc := hD.sub (ws' := [(h0, .inr (8, [w0, w1, w2, w3, .int (nI kn), .ref l4, .ref l1, w7, w8, w9, w10, w11, w12, w13, .ref nm0, w15, w16, w17, w18, w19, w20, w21, w22, w23, w24, w25, w26, w27, w28, w29, w30, w31, w32, w33, w34]))]) [0] (by decide) rfl
  have hKc := hK.sub (tys' := []) [] rfl
  refine va_calli (va_runV (As := [.int n1]) (rest := []) ⟨hx, hb, hml, hown, hts⟩ (m_isKind l dC dI s.heap.size h0 (w0) (w1) (w2) (w3) kn (.ref l4) (.ref l1) (w7) (w8) (w9) (w10) (w11) (w12) (w13) (.ref nm0) (w15) (w16) (w17) (w18) (w19) (w20) (w21) (w22) (w23) (w24) (w25) (w26) (w27) (w28) (w29) (w30) (w31) (w32) (w33) (w34) n1 hkn) (cwV 1 hts (gV mw_4_53 mw_4_55 mw_0_15 mw_1_9 mw_4_56) rfl rfl rfl (by decide +kernel) ⟨Nat.le_of_ble_eq_true rfl, Nat.le_of_ble_eq_true rfl⟩) ⟨pcW_blind, va_recv hKc hPc (ci := 8) (q0 := 0) rfl rfl, pcW_at hPc hKc hDc hN⟩ rfl rfl hl.1 rfl (lv_room (Nat.le_of_ble_eq_true rfl)) dX9_next_2 ⟨Nat.le_of_ble_eq_true rfl, Nat.le_of_ble_eq_true rfl⟩) hS (fun q h1 h2 => absurd h2 (Nat.not_le.mpr h1)) (fun q h => hA q (Nat.le_trans hS.1 h)) (fun r_1 u t H1 locs ht hvm hw_1 hB hz1 hk1 hS => ?_)
  have hP := keepP hP hk1
  clear hz1 hk1 hB ht hvm hPc hDc hKc
  generalize H1 = H at hP hS ⊢
  rcases fx_bool hw_1 with ⟨rfl, b_2⟩ | ⟨rfl, b_2⟩
  · skip
    refine lv_if_eq (tgt := 15) hx hb dX9_next_5 (by decide) (fun h => absurd h (by decide)) (fun _ => ?_)
    refine lv_iload_n hx hb dX9_next_8 rfl (lv_at hl 2 rfl) ?_
    have hPc := hP.sub (ws' := []) [] rfl
    have hDc := hD.sub (ws' := []) [] (by decide) rfl
    have hKc := hK.sub (tys' := []) [] rfl
    refine va_calli (va_runS (As := [.int n2]) (rest := []) ⟨hx, hb, hml, hown, hts⟩ (m_isName l dC dI H.size n2 ) (va_cwS 1 hts (gS mw_4_115 mw_4_116 mw_1_9 mw_4_117) rfl rfl rfl (by decide +kernel) ⟨Nat.le_of_ble_eq_true rfl, Nat.le_of_ble_eq_true rfl⟩) ⟨pcW_blind, pcW_at hPc hKc hDc hN⟩ rfl rfl hl.1 rfl (lv_room (Nat.le_of_ble_eq_true rfl)) dX9_next_9 ⟨Nat.le_of_ble_eq_true rfl, Nat.le_of_ble_eq_true rfl⟩) hS (fun q h1 h2 => absurd h2 (Nat.not_le.mpr h1)) (fun q h => hA q (Nat.le_trans hS.1 h)) (fun r_3 u t H1 locs ht hvm hw_3 hB hz1 hk1 hS => ?_)
    have hP := keepP hP hk1
    clear hz1 hk1 hB ht hvm hPc hDc hKc
    generalize H1 = H at hP hS ⊢
    rcases fx_bool hw_3 with ⟨rfl, b_4⟩ | ⟨rfl, b_4⟩
    · skip
      refine lv_if_ne (tgt := 17) hx hb dX9_next_12 (by decide) (fun _ => ?_) (fun h => absurd h (by decide))
      obtain ⟨j_5, tj_5, ej_5⟩ := fx_nat (x := n1) (by omega)
      subst ej_5
      have yj_5 : Int32.toInt (nI j_5) = (j_5 : Int) := nI_toInt tj_5
      obtain ⟨j_6, tj_6, ej_6⟩ := fx_nat (x := n2) (by omega)
      subst ej_6
      have yj_6 : Int32.toInt (nI j_6) = (j_6 : Int) := nI_toInt tj_6
      refine lv_aload_n hx hb dX9_next_17 rfl (lv_at hl 0 rfl) ?_
      refine va_get (D := (dC, dI)) (ci := 8) (v := .ref l1) (C := RX9) (T := TX9) (N := 35) hx hb hts inB_9 hown hK hP 0 rfl rfl 6 (by decide) (hts _ mw_3_188) (fun _ h9 => h9) rfl dX9_next_18 ?_
      refine lv_iload_n hx hb dX9_next_21 rfl (lv_at hl 1 rfl) ?_
      refine va_iald hx hb hK hP 1 0 rfl rfl (show vp_in (nI j_5) 10 from vp_in_nI (by omega) (by omega)) dX9_next_22 ?_
      refine hx_top (y := (fll j_5)) (congrArg _ (nI_clamp (by omega))) ?_
      obtain ⟨n_7, hn_7, en_7⟩ := hll j_5 (by omega)
      refine hx_top (y := (nI n_7)) en_7 ?_
      refine lv_if_ne (tgt := 29) hx hb dX9_next_23 (by decide) (fun c_8 => ?_) (fun c_8 => ?_)
      · have b_9 := gx_ne (X := ((n_7 : Nat) : Int)) (C := 0) (nI_toInt (by omega)) (by decide) c_8
        refine lv_iconst (v := 0) hx hb dX9_next_29 (by decide) ?_
        refine lv_istore (lv' := [(4, .int 0), (0, .ref h0), (1, .int (nI j_5)), (2, .int (nI j_6)), (3, .int n3)]) hx hb dX9_next_30 hl (by decide) rfl (fun ls hl => ?_)
        have key_10 : ∀ (fu : Nat) (i9 : Nat), (i9 ≤ 10) → 10 - i9 < fu → ∀ (H : Heap) (locs : List Loc), va_P (dC, dI) vwCl [(h0, .inr (8, [w0, w1, w2, w3, .int (nI kn), .ref l4, .ref l1, w7, w8, w9, w10, w11, w12, w13, .ref nm0, w15, w16, w17, w18, w19, w20, w21, w22, w23, w24, w25, w26, w27, w28, w29, w30, w31, w32, w33, w34])), (l1, .inl (kl1, 10, .inl fll)), (l4, .inl (kl4, 100, .inl fln)), (nm0, .inl (knm0, 10, .inl fnm))] H → va_S (fun q : Nat => s.heap.size ≤ q) s.heap H locs → ∀ (ls : Array Slot), lv_has ls 5 [(4, .int (nI i9)), (0, .ref h0), (1, .int (nI j_5)), (2, .int (nI j_6)), (3, .int n3)] → W p l e (headSpec (wq yX9_next cX9_next 5 (some .int)) ({ frames := 3, cells := 0, slots := 0, locals := 71 })).room s m (([.ref h0, .int (nI j_5), .int (nI j_6), .int n3] : List Value)).toArray below meth c H locs 0 0 (MQ below (va_Qi (fun (_ : Int32) (_ : Unit) => True) (fun _ _ => True) (fun q : Nat => s.heap.size ≤ q)) (([.ref h0, .int (nI j_5), .int (nI j_6), .int n3] : List Value)).toArray s 0 0 (fun q : Nat => s.heap.size ≤ q)) (F0 m 32 ls []) := by
          intro fu
          induction fu with
          | zero => intro i9 hi9 hme; exact absurd hme (Nat.not_lt_zero _)
          | succ fu ih_11 =>
            intro i9 hi9 hme H locs hP hS ls hl
            refine lv_iload hx hb dX9_next_32 (lv_at hl 0 rfl) ?_
            refine lv_aload_n hx hb dX9_next_34 rfl (lv_at hl 1 rfl) ?_
            refine va_get (D := (dC, dI)) (ci := 8) (v := .ref l1) (C := RX9) (T := TX9) (N := 35) hx hb hts inB_9 hown hK hP 0 rfl rfl 6 (by decide) (hts _ mw_3_188) (fun _ h9 => h9) rfl dX9_next_35 ?_
            refine lv_iload_n hx hb dX9_next_38 rfl (lv_at hl 2 rfl) ?_
            refine va_iald hx hb hK hP 1 0 rfl rfl (show vp_in (nI j_5) 10 from vp_in_nI (by omega) (by omega)) dX9_next_39 ?_
            refine hx_top (y := (fll j_5)) (congrArg _ (nI_clamp (by omega))) ?_
            refine hx_top (y := (nI n_7)) en_7 ?_
            refine lv_icmp_ge (tgt := 76) hx hb dX9_next_40 (by decide) (fun c_12 => ?_) (fun c_12 => ?_)
            · have b_13 := gx_ge (X := ((i9 : Nat) : Int)) (C := ((n_7 : Nat) : Int)) (nI_toInt (by omega)) (nI_toInt (by omega)) c_12
              refine lv_iconst (v := (-1)) hx hb dX9_next_76 (by decide) ?_
              exact W.iret (v := (-1)) hx hb hr (fun t ht hW => ⟨⟨(-1), (), rfl, trivial, trivial⟩, hS.F ht⟩) hS.2.2 dX9_next_77
            · have b_13 := gn_ge (X := ((i9 : Nat) : Int)) (C := ((n_7 : Nat) : Int)) (nI_toInt (by omega)) (nI_toInt (by omega)) c_12
              refine lv_aload_n hx hb dX9_next_43 rfl (lv_at hl 1 rfl) ?_
              refine va_get (D := (dC, dI)) (ci := 8) (v := .ref l4) (C := RX9) (T := TX9) (N := 35) hx hb hts inB_9 hown hK hP 0 rfl rfl 5 (by decide) (hts _ mw_3_187) (fun _ h9 => h9) rfl dX9_next_44 ?_
              refine lv_bipush (v := 10) hx hb dX9_next_47 (by decide) ?_
              refine lv_iload_n hx hb dX9_next_49 rfl (lv_at hl 2 rfl) ?_
              refine lv_imul hx hb dX9_next_50 ?_
              refine hx_top (y := (nI (10 * j_5))) (pk_mul 10 j_5) ?_
              refine lv_iload hx hb dX9_next_51 (lv_at hl 0 rfl) ?_
              refine lv_iadd hx hb dX9_next_53 ?_
              refine hx_top (y := (nI ((10 * j_5) + i9))) (nI_add (10 * j_5) i9) ?_
              refine va_iald hx hb hK hP 2 1 rfl rfl (show vp_in (nI ((10 * j_5) + i9)) 100 from vp_in_nI (by omega) (by omega)) dX9_next_54 ?_
              refine hx_top (y := (fln ((10 * j_5) + i9))) (congrArg _ (nI_clamp (by omega))) ?_
              obtain ⟨n_14, hn_14, en_14⟩ := hln j_5 (by omega) i9 (by rw [en_7, nI_clamp (by omega)]; omega)
              refine hx_top (y := (nI n_14)) en_14 ?_
              refine lv_iload_n hx hb dX9_next_55 rfl (lv_at hl 4 rfl) ?_
              refine lv_icmp_ne (tgt := 70) hx hb dX9_next_56 (by decide) (fun c_15 => ?_) (fun c_15 => ?_)
              · have b_16 := gx_ne (X := ((n_14 : Nat) : Int)) (C := (Int32.toInt n3)) (nI_toInt (by omega)) rfl c_15
                refine lv_iinc (v := (nI (i9 + 1))) (lv' := [(4, .int (nI (i9 + 1))), (0, .ref h0), (1, .int (nI j_5)), (2, .int (nI j_6)), (3, .int n3)]) hx hb dX9_next_70 hl (k := 0) rfl (nI_add i9 1) (by decide) rfl (fun ls hl => ?_)
                refine lv_goto (tgt := 32) hx hb dX9_next_73 (by decide) ?_
                exact ih_11 (i9 + 1) (by omega) (by omega) _ _ hP hS ls (lv_sub hl [0, 1, 2, 3, 4] rfl)
              · have b_16 := gn_ne (X := ((n_14 : Nat) : Int)) (C := (Int32.toInt n3)) (nI_toInt (by omega)) rfl c_15
                refine lv_aload_n hx hb dX9_next_59 rfl (lv_at hl 1 rfl) ?_
                refine lv_iload_n hx hb dX9_next_60 rfl (lv_at hl 2 rfl) ?_
                refine lv_iload_n hx hb dX9_next_61 rfl (lv_at hl 3 rfl) ?_
                refine lv_iload hx hb dX9_next_62 (lv_at hl 0 rfl) ?_
                refine lv_iconst (v := 1) hx hb dX9_next_64 (by decide) ?_
                refine lv_iadd hx hb dX9_next_65 ?_
                refine hx_top (y := (nI (i9 + 1))) (nI_add i9 1) ?_
                have hPc := hP.sub (ws' := [(h0, .inr (8, [w0, w1, w2, w3, .int (nI kn), .ref l4, .ref l1, w7, w8, w9, w10, w11, w12, w13, .ref nm0, w15, w16, w17, w18, w19, w20, w21, w22, w23, w24, w25, w26, w27, w28, w29, w30, w31, w32, w33, w34])), (l1, .inl (kl1, 10, .inl fll)), (l4, .inl (kl4, 100, .inl fln)), (nm0, .inl (knm0, 10, .inl fnm))]) [0, 1, 2, 3] rfl
                have hDc := hD.sub (ws' := [(h0, .inr (8, [w0, w1, w2, w3, .int (nI kn), .ref l4, .ref l1, w7, w8, w9, w10, w11, w12, w13, .ref nm0, w15, w16, w17, w18, w19, w20, w21, w22, w23, w24, w25, w26, w27, w28, w29, w30, w31, w32, w33, w34])), (l1, .inl (kl1, 10, .inl fll)), (l4, .inl (kl4, 100, .inl fln)), (nm0, .inl (knm0, 10, .inl fnm))]) [0, 1, 2, 3] (by decide) rfl
                have hKc := hK.sub (tys' := [(kl1, .int), (kl4, .int), (knm0, .int)]) [0, 1, 2] rfl
                refine va_calli (va_runV (As := [.int (nI j_5), .int (nI j_6), .int (nI (i9 + 1))]) (rest := []) ⟨hx, hb, hml, hown, hts⟩ (m_answerOf l dC dI H.size h0 (w0) (w1) (w2) (w3) kn l4 l1 (w7) (w8) (w9) (w10) (w11) (w12) (w13) nm0 (w15) (w16) (w17) (w18) (w19) (w20) (w21) (w22) (w23) (w24) (w25) (w26) (w27) (w28) (w29) (w30) (w31) (w32) (w33) (w34) kl1 fll kl4 fln knm0 fnm j_5 j_6 (i9 + 1) hkn hll hln (by omega) (by omega) (by omega)) (cwV 3 hts (gV mw_4_135 mw_4_137 mw_0_21 mw_1_9 mw_4_138) rfl rfl rfl (by decide +kernel) ⟨Nat.le_of_ble_eq_true rfl, Nat.le_of_ble_eq_true rfl⟩) ⟨pcW_blind, va_recv hKc hPc (ci := 8) (q0 := 0) rfl rfl, pcW_at hPc hKc hDc hN⟩ rfl rfl hl.1 rfl (lv_room (Nat.le_of_ble_eq_true rfl)) dX9_next_66 ⟨Nat.le_of_ble_eq_true rfl, Nat.le_of_ble_eq_true rfl⟩) hS (fun q h1 h2 => absurd h2 (Nat.not_le.mpr h1)) (fun q h => hA q (Nat.le_trans hS.1 h)) (fun r_17 u t H1 locs ht hvm hw_17 hB hz1 hk1 hS => ?_)
                have hP := keepP hP hk1
                clear hz1 hk1 hB ht hvm hPc hDc hKc
                generalize H1 = H at hP hS ⊢
                exact W.iret (v := r_17) hx hb hr (fun t ht hW => ⟨⟨r_17, (), rfl, trivial, trivial⟩, hS.F ht⟩) hS.2.2 dX9_next_69
        exact key_10 ((10 - 0) + 1) 0 (by omega) (Nat.lt_succ_self _) _ _ hP hS ls (lv_sub hl [0, 1, 2, 3, 4] rfl)
      · have b_9 := gn_ne (X := ((n_7 : Nat) : Int)) (C := 0) (nI_toInt (by omega)) (by decide) c_8
        refine lv_bipush (v := (-3)) hx hb dX9_next_26 (by decide) ?_
        exact W.iret (v := (-3)) hx hb hr (fun t ht hW => ⟨⟨(-3), (), rfl, trivial, trivial⟩, hS.F ht⟩) hS.2.2 dX9_next_28
    · skip
      refine lv_if_ne (tgt := 17) hx hb dX9_next_12 (by decide) (fun h => absurd h (by decide)) (fun _ => ?_)
      refine lv_iconst (v := (-1)) hx hb dX9_next_15 (by decide) ?_
      exact W.iret (v := (-1)) hx hb hr (fun t ht hW => ⟨⟨(-1), (), rfl, trivial, trivial⟩, hS.F ht⟩) hS.2.2 dX9_next_16
  · skip
    refine lv_if_eq (tgt := 15) hx hb dX9_next_5 (by decide) (fun _ => ?_) (fun h => absurd (by decide) h)
    refine lv_iconst (v := (-1)) hx hb dX9_next_15 (by decide) ?_
    exact W.iret (v := (-1)) hx hb hr (fun t ht hW => ⟨⟨(-1), (), rfl, trivial, trivial⟩, hS.F ht⟩) hS.2.2 dX9_next_16
set_option maxHeartbeats 4000000 in
set_option maxRecDepth 100000 in
theorem m_isRow (l : Launch) (dC : Nat → ClassId) (dI : Nat → Nat → Nat) (sz : Nat) (h0 : Nat) (w0 : Value) (w1 : Value) (w2 : Value) (l7 : Nat) (w4 : Value) (w5 : Value) (l1 : Nat) (w7 : Value) (w8 : Value) (w9 : Value) (w10 : Value) (w11 : Value) (w12 : Value) (w13 : Value) (w14 : Value) (w15 : Value) (w16 : Value) (w17 : Value) (w18 : Value) (w19 : Value) (w20 : Value) (w21 : Value) (w22 : Value) (w23 : Value) (w24 : Value) (w25 : Value) (w26 : Value) (w27 : Value) (w28 : Value) (w29 : Value) (w30 : Value) (w31 : Value) (w32 : Value) (w33 : Value) (w34 : Value) (kl1 : ClassId) (fll : Nat → Int32) (kl7 : ClassId) (fib : Nat → Int32) (kq : Nat) (hll : BdOk 10 10 fll) (hk9 : kq < 10) : Met l yX9_isRow (wq yX9_isRow cX9_isRow 2 (some .boolean)) ({ frames := 0, cells := 0, slots := 0, locals := 0 }) (va_Pc [.ref h0, .int (nI kq)] (pcW dC dI [(kl1, .int), (kl7, .boolean)] [(h0, .inr (8, [w0, w1, w2, .ref l7, w4, w5, .ref l1, w7, w8, w9, w10, w11, w12, w13, w14, w15, w16, w17, w18, w19, w20, w21, w22, w23, w24, w25, w26, w27, w28, w29, w30, w31, w32, w33, w34])), (l1, .inl (kl1, 10, .inl fll)), (l7, .inl (kl7, 10, .inl fib))] sz)) (va_Qi (fun (r : Int32) (_ : Unit) => r = (if 0 < (fll kq).toNatClampNeg ∧ fib kq = 0 then 1 else 0)) (fun _ _ => True) (fun q : Nat => sz ≤ q)) 0 0 (fun q : Nat => sz ≤ q) := by
  refine Met.ofW (cc := cX9_isRow) (maxL := 2) (ret := (some .boolean)) (by decide) rfl ?_
  intro p e s m args below meth c s₁ B hml hv
  obtain ⟨rfl, hsz, hN, hP, hK, hD0⟩ := hv
  have hx := B.exec
  have hb := B.bytes
  have hr := B.returns
  have hts0 := atoms_spec (ws := (wq yX9_isRow cX9_isRow 2 (some .boolean))) B.pre
  have hts : ∀ w ∈ BG, w.before _ s = true := fun w h => hts0 w (List.mem_cons_of_mem _ h)
  have hown : s.vm.findClass RX9 = some m.cls := findClass_of_methodNamed B.named
  have hlocks := B.notSynchronized
  subst hsz
  have hA : ∀ q : Nat, s.heap.size ≤ q → (fun q : Nat => s.heap.size ≤ q) q := fun _ h => h
  have hD := hD0
  have hS : va_S (fun q : Nat => s.heap.size ≤ q) s.heap s.heap [] := va_S.rf
  have hP : va_P (dC, dI) vwCl [(h0, .inr (8, [w0, w1, w2, .ref l7, w4, w5, .ref l1, w7, w8, w9, w10, w11, w12, w13, w14, w15, w16, w17, w18, w19, w20, w21, w22, w23, w24, w25, w26, w27, w28, w29, w30, w31, w32, w33, w34])), (l1, .inl (kl1, 10, .inl fll)), (l7, .inl (kl7, 10, .inl fib))] s.heap := hP
  have hl := lv_entry ([.ref h0, .int (nI kq)]) (n := 2) (Nat.le_of_ble_eq_true rfl)
  rw [lg_entry_eq]
  generalize (lg_sl ([.ref h0, .int (nI kq)]) ++ List.replicate (2 - (lg_sl ([.ref h0, .int (nI kq)])).length) Slot.unset).toArray = ls at hl ⊢
  have hl : lv_has ls 2 [(0, .ref h0), (1, .int (nI kq))] := hl
  refine lv_aload_n hx hb dX9_isRow_0 rfl (lv_at hl 0 rfl) ?_
  refine va_get (D := (dC, dI)) (ci := 8) (v := .ref l1) (C := RX9) (T := TX9) (N := 35) hx hb hts inB_9 hown hK hP 0 rfl rfl 6 (by decide) (hts _ mw_3_188) (fun _ h9 => h9) rfl dX9_isRow_1 ?_
  refine lv_iload_n hx hb dX9_isRow_4 rfl (lv_at hl 1 rfl) ?_
  refine va_iald hx hb hK hP 1 0 rfl rfl (show vp_in (nI kq) 10 from vp_in_nI (by omega) (by omega)) dX9_isRow_5 ?_
  refine hx_top (y := (fll kq)) (congrArg _ (nI_clamp (by omega))) ?_
  obtain ⟨n_1, hn_1, en_1⟩ := hll kq (by omega)
  refine hx_top (y := (nI n_1)) en_1 ?_
  refine lv_if_le (tgt := 22) hx hb dX9_isRow_6 (by decide) (fun c_2 => ?_) (fun c_2 => ?_)
  · have b_3 := gx_le (X := ((n_1 : Nat) : Int)) (C := 0) (nI_toInt (by omega)) (by decide) c_2
    refine lv_iconst (v := 0) hx hb dX9_isRow_22 (by decide) ?_
    exact W.zret (v := 0) hx hb hr (by decide) (fun t ht hW => ⟨⟨0, (), rfl, (if_neg (fun q => absurd q.1 (by rw [en_1, nI_clamp (by omega)]; omega))).symm, trivial⟩, hS.F ht⟩) hS.2.2 dX9_isRow_23
  · have b_3 := gn_le (X := ((n_1 : Nat) : Int)) (C := 0) (nI_toInt (by omega)) (by decide) c_2
    refine lv_aload_n hx hb dX9_isRow_9 rfl (lv_at hl 0 rfl) ?_
    refine va_get (D := (dC, dI)) (ci := 8) (v := .ref l7) (C := RX9) (T := TX9) (N := 35) hx hb hts inB_9 hown hK hP 0 rfl rfl 3 (by decide) (hts _ mw_3_185) (fun _ h9 => h9) rfl dX9_isRow_10 ?_
    refine lv_iload_n hx hb dX9_isRow_13 rfl (lv_at hl 1 rfl) ?_
    refine va_zald hx hb hK hP 2 1 rfl rfl (show vp_in (nI kq) 10 from vp_in_nI (by omega) (by omega)) dX9_isRow_14 ?_
    refine hx_top (y := (fib kq)) (congrArg _ (nI_clamp (by omega))) ?_
    refine lv_if_ne (tgt := 22) hx hb dX9_isRow_15 (by decide) (fun c_4 => ?_) (fun c_4 => ?_)
    · have b_5 := gx_ne (X := (Int32.toInt (fib kq))) (C := 0) rfl (by decide) c_4
      refine lv_iconst (v := 0) hx hb dX9_isRow_22 (by decide) ?_
      exact W.zret (v := 0) hx hb hr (by decide) (fun t ht hW => ⟨⟨0, (), rfl, (if_neg (fun q => c_4 q.2)).symm, trivial⟩, hS.F ht⟩) hS.2.2 dX9_isRow_23
    · have b_5 := gn_ne (X := (Int32.toInt (fib kq))) (C := 0) rfl (by decide) c_4
      refine lv_iconst (v := 1) hx hb dX9_isRow_18 (by decide) ?_
      refine lv_goto (tgt := 23) hx hb dX9_isRow_19 (by decide) ?_
      exact W.zret (v := 1) hx hb hr (by decide) (fun t ht hW => ⟨⟨1, (), rfl, (if_pos ⟨by rw [en_1, nI_clamp (by omega)]; omega, c_4⟩).symm, trivial⟩, hS.F ht⟩) hS.2.2 dX9_isRow_23
set_option maxHeartbeats 4000000 in
set_option maxRecDepth 100000 in
theorem m_answeredBy (l : Launch) (dC : Nat → ClassId) (dI : Nat → Nat → Nat) (sz : Nat) (h0 : Nat) (w0 : Value) (w1 : Value) (w2 : Value) (l7 : Nat) (kn : Nat) (l4 : Nat) (l1 : Nat) (w7 : Value) (w8 : Value) (w9 : Value) (w10 : Value) (w11 : Value) (w12 : Value) (w13 : Value) (nm0 : Nat) (w15 : Value) (w16 : Value) (w17 : Value) (w18 : Value) (w19 : Value) (w20 : Value) (w21 : Value) (w22 : Value) (w23 : Value) (w24 : Value) (w25 : Value) (w26 : Value) (w27 : Value) (w28 : Value) (w29 : Value) (w30 : Value) (w31 : Value) (w32 : Value) (w33 : Value) (w34 : Value) (kl1 : ClassId) (fll : Nat → Int32) (kl4 : ClassId) (fln : Nat → Int32) (knm0 : ClassId) (fnm : Nat → Int32) (kl7 : ClassId) (fib : Nat → Int32) (kq : Nat) (hkn : kn ≤ 10) (hll : BdOk 10 10 fll) (hln : LnOk fll fln kn) (hkq : kq < kn) : Met l yX9_answeredBy (wq yX9_answeredBy cX9_answeredBy 4 (some .int)) ({ frames := 2, cells := 0, slots := 0, locals := 47 }) (va_Pc [.ref h0, .int (nI kq)] (pcW dC dI [(kl1, .int), (kl4, .int), (knm0, .int), (kl7, .boolean)] [(h0, .inr (8, [w0, w1, w2, .ref l7, .int (nI kn), .ref l4, .ref l1, w7, w8, w9, w10, w11, w12, w13, .ref nm0, w15, w16, w17, w18, w19, w20, w21, w22, w23, w24, w25, w26, w27, w28, w29, w30, w31, w32, w33, w34])), (l1, .inl (kl1, 10, .inl fll)), (l4, .inl (kl4, 100, .inl fln)), (nm0, .inl (knm0, 10, .inl fnm)), (l7, .inl (kl7, 10, .inl fib))] sz)) (va_Qi (fun (r : Int32) (_ : Unit) => r = rowM fll fln fnm fib kq) (fun _ _ => True) (fun q : Nat => sz ≤ q)) 0 0 (fun q : Nat => sz ≤ q) := by
  refine Met.ofW (cc := cX9_answeredBy) (maxL := 4) (ret := (some .int)) (by decide) rfl ?_
  intro p e s m args below meth c s₁ B hml hv
  obtain ⟨rfl, hsz, hN, hP, hK, hD0⟩ := hv
  have hx := B.exec
  have hb := B.bytes
  have hr := B.returns
  have hts0 := atoms_spec (ws := (wq yX9_answeredBy cX9_answeredBy 4 (some .int))) B.pre
  have hts : ∀ w ∈ BG, w.before _ s = true := fun w h => hts0 w (List.mem_cons_of_mem _ h)
  have hown : s.vm.findClass RX9 = some m.cls := findClass_of_methodNamed B.named
  have hlocks := B.notSynchronized
  subst hsz
  have hA : ∀ q : Nat, s.heap.size ≤ q → (fun q : Nat => s.heap.size ≤ q) q := fun _ h => h
  have hD := hD0
  have hS : va_S (fun q : Nat => s.heap.size ≤ q) s.heap s.heap [] := va_S.rf
  have hP : va_P (dC, dI) vwCl [(h0, .inr (8, [w0, w1, w2, .ref l7, .int (nI kn), .ref l4, .ref l1, w7, w8, w9, w10, w11, w12, w13, .ref nm0, w15, w16, w17, w18, w19, w20, w21, w22, w23, w24, w25, w26, w27, w28, w29, w30, w31, w32, w33, w34])), (l1, .inl (kl1, 10, .inl fll)), (l4, .inl (kl4, 100, .inl fln)), (nm0, .inl (knm0, 10, .inl fnm)), (l7, .inl (kl7, 10, .inl fib))] s.heap := hP
  have hl := lv_entry ([.ref h0, .int (nI kq)]) (n := 4) (Nat.le_of_ble_eq_true rfl)
  rw [lg_entry_eq]
  generalize (lg_sl ([.ref h0, .int (nI kq)]) ++ List.replicate (4 - (lg_sl ([.ref h0, .int (nI kq)])).length) Slot.unset).toArray = ls at hl ⊢
  have hl : lv_has ls 4 [(0, .ref h0), (1, .int (nI kq))] := hl
  refine lv_iconst (v := 0) hx hb dX9_answeredBy_0 (by decide) ?_
  refine lv_istore_n (lv' := [(2, .int 0), (0, .ref h0), (1, .int (nI kq))]) hx hb dX9_answeredBy_1 rfl hl (by decide) rfl (fun ls hl => ?_)
  refine lv_iconst (v := 0) hx hb dX9_answeredBy_2 (by decide) ?_
  refine lv_istore_n (lv' := [(3, .int 0), (2, .int 0), (0, .ref h0), (1, .int (nI kq))]) hx hb dX9_answeredBy_3 rfl hl (by decide) rfl (fun ls hl => ?_)
  have key_1 : ∀ (fu : Nat) (k : Nat) (ac : Int32), (k ≤ 8) → (ac = bitsF (fun n => decide (¬ plM fll fln fnm kq n 0 = -6)) k) → (k = 0 ∨ (0 < (fll kq).toNatClampNeg ∧ fib kq = 0)) → 8 - k < fu → ∀ (H : Heap) (locs : List Loc), va_P (dC, dI) vwCl [(h0, .inr (8, [w0, w1, w2, .ref l7, .int (nI kn), .ref l4, .ref l1, w7, w8, w9, w10, w11, w12, w13, .ref nm0, w15, w16, w17, w18, w19, w20, w21, w22, w23, w24, w25, w26, w27, w28, w29, w30, w31, w32, w33, w34])), (l1, .inl (kl1, 10, .inl fll)), (l4, .inl (kl4, 100, .inl fln)), (nm0, .inl (knm0, 10, .inl fnm)), (l7, .inl (kl7, 10, .inl fib))] H → va_S (fun q : Nat => s.heap.size ≤ q) s.heap H locs → ∀ (ls : Array Slot), lv_has ls 4 [(3, .int (nI k)), (2, .int ac), (0, .ref h0), (1, .int (nI kq))] → W p l e (headSpec (wq yX9_answeredBy cX9_answeredBy 4 (some .int)) ({ frames := 2, cells := 0, slots := 0, locals := 47 })).room s m (([.ref h0, .int (nI kq)] : List Value)).toArray below meth c H locs 0 0 (MQ below (va_Qi (fun (r : Int32) (_ : Unit) => r = rowM fll fln fnm fib kq) (fun _ _ => True) (fun q : Nat => s.heap.size ≤ q)) (([.ref h0, .int (nI kq)] : List Value)).toArray s 0 0 (fun q : Nat => s.heap.size ≤ q)) (F0 m 4 ls []) := by
    intro fu
    induction fu with
    | zero => intro k ac hk hac hz hme; exact absurd hme (Nat.not_lt_zero _)
    | succ fu ih_2 =>
      intro k ac hk hac hz hme H locs hP hS ls hl
      refine lv_iload_n hx hb dX9_answeredBy_4 rfl (lv_at hl 0 rfl) ?_
      refine lv_bipush (v := 8) hx hb dX9_answeredBy_5 (by decide) ?_
      refine lv_icmp_ge (tgt := 44) hx hb dX9_answeredBy_7 (by decide) (fun c_3 => ?_) (fun c_3 => ?_)
      · have b_4 := gx_ge (X := ((k : Nat) : Int)) (C := 8) (nI_toInt (by omega)) (by decide) c_3
        refine lv_iload_n hx hb dX9_answeredBy_44 rfl (lv_at hl 1 rfl) ?_
        exact W.iret (v := ac) hx hb hr (fun t ht hW => ⟨⟨ac, (), rfl, (ab_row hac hz (Or.inl (by omega)) (by omega)), trivial⟩, hS.F ht⟩) hS.2.2 dX9_answeredBy_45
      · have b_4 := gn_ge (X := ((k : Nat) : Int)) (C := 8) (nI_toInt (by omega)) (by decide) c_3
        refine lv_aload_n hx hb dX9_answeredBy_10 rfl (lv_at hl 2 rfl) ?_
        refine lv_iload_n hx hb dX9_answeredBy_11 rfl (lv_at hl 3 rfl) ?_
        have hPc := hP.sub (ws' := [(h0, .inr (8, [w0, w1, w2, .ref l7, .int (nI kn), .ref l4, .ref l1, w7, w8, w9, w10, w11, w12, w13, .ref nm0, w15, w16, w17, w18, w19, w20, w21, w22, w23, w24, w25, w26, w27, w28, w29, w30, w31, w32, w33, w34])), (l1, .inl (kl1, 10, .inl fll)), (l7, .inl (kl7, 10, .inl fib))]) [0, 1, 4] rfl
        have hDc := hD.sub (ws' := [(h0, .inr (8, [w0, w1, w2, .ref l7, .int (nI kn), .ref l4, .ref l1, w7, w8, w9, w10, w11, w12, w13, .ref nm0, w15, w16, w17, w18, w19, w20, w21, w22, w23, w24, w25, w26, w27, w28, w29, w30, w31, w32, w33, w34])), (l1, .inl (kl1, 10, .inl fll)), (l7, .inl (kl7, 10, .inl fib))]) [0, 1, 4] (by decide) rfl
        have hKc := hK.sub (tys' := [(kl1, .int), (kl7, .boolean)]) [0, 3] rfl
        refine va_calli (va_runV (As := [.int (nI kq)]) (rest := []) ⟨hx, hb, hml, hown, hts⟩ (m_isRow l dC dI H.size h0 (w0) (w1) (w2) l7 (.int (nI kn)) (.ref l4) l1 (w7) (w8) (w9) (w10) (w11) (w12) (w13) (.ref nm0) (w15) (w16) (w17) (w18) (w19) (w20) (w21) (w22) (w23) (w24) (w25) (w26) (w27) (w28) (w29) (w30) (w31) (w32) (w33) (w34) kl1 fll kl7 fib kq hll (by omega)) (cwV 1 hts (gV mw_4_206 mw_4_208 mw_0_31 mw_1_9 mw_4_209) rfl rfl rfl (by decide +kernel) ⟨Nat.le_of_ble_eq_true rfl, Nat.le_of_ble_eq_true rfl⟩) ⟨pcW_blind, va_recv hKc hPc (ci := 8) (q0 := 0) rfl rfl, pcW_at hPc hKc hDc hN⟩ rfl rfl hl.1 rfl (lv_room (Nat.le_of_ble_eq_true rfl)) dX9_answeredBy_12 ⟨Nat.le_of_ble_eq_true rfl, Nat.le_of_ble_eq_true rfl⟩) hS (fun q h1 h2 => absurd h2 (Nat.not_le.mpr h1)) (fun q h => hA q (Nat.le_trans hS.1 h)) (fun r_5 u t H1 locs ht hvm hw_5 hB hz1 hk1 hS => ?_)
        have hP := keepP hP hk1
        clear hz1 hk1 hB ht hvm hPc hDc hKc
        generalize H1 = H at hP hS ⊢
        rcases fx_bool hw_5 with ⟨rfl, b_6⟩ | ⟨rfl, b_6⟩
        · skip
          refine lv_if_eq (tgt := 44) hx hb dX9_answeredBy_15 (by decide) (fun h => absurd h (by decide)) (fun _ => ?_)
          refine lv_iload_n hx hb dX9_answeredBy_18 rfl (lv_at hl 1 rfl) ?_
          refine lv_aload_n hx hb dX9_answeredBy_19 rfl (lv_at hl 2 rfl) ?_
          refine lv_iload_n hx hb dX9_answeredBy_20 rfl (lv_at hl 3 rfl) ?_
          refine lv_iload_n hx hb dX9_answeredBy_21 rfl (lv_at hl 0 rfl) ?_
          refine lv_iconst (v := 0) hx hb dX9_answeredBy_22 (by decide) ?_
          have hPc := hP.sub (ws' := [(h0, .inr (8, [w0, w1, w2, .ref l7, .int (nI kn), .ref l4, .ref l1, w7, w8, w9, w10, w11, w12, w13, .ref nm0, w15, w16, w17, w18, w19, w20, w21, w22, w23, w24, w25, w26, w27, w28, w29, w30, w31, w32, w33, w34])), (l1, .inl (kl1, 10, .inl fll)), (l4, .inl (kl4, 100, .inl fln)), (nm0, .inl (knm0, 10, .inl fnm))]) [0, 1, 2, 3] rfl
          have hDc := hD.sub (ws' := [(h0, .inr (8, [w0, w1, w2, .ref l7, .int (nI kn), .ref l4, .ref l1, w7, w8, w9, w10, w11, w12, w13, .ref nm0, w15, w16, w17, w18, w19, w20, w21, w22, w23, w24, w25, w26, w27, w28, w29, w30, w31, w32, w33, w34])), (l1, .inl (kl1, 10, .inl fll)), (l4, .inl (kl4, 100, .inl fln)), (nm0, .inl (knm0, 10, .inl fnm))]) [0, 1, 2, 3] (by decide) rfl
          have hKc := hK.sub (tys' := [(kl1, .int), (kl4, .int), (knm0, .int)]) [0, 1, 2] rfl
          refine va_calli (va_runV (As := [.int (nI kq), .int (nI k), .int 0]) (rest := [.int ac]) ⟨hx, hb, hml, hown, hts⟩ (m_placeOf l dC dI H.size h0 (w0) (w1) (w2) (.ref l7) kn l4 l1 (w7) (w8) (w9) (w10) (w11) (w12) (w13) nm0 (w15) (w16) (w17) (w18) (w19) (w20) (w21) (w22) (w23) (w24) (w25) (w26) (w27) (w28) (w29) (w30) (w31) (w32) (w33) (w34) kl1 fll kl4 fln knm0 fnm kq k 0 hkn hll hln hkq (by omega) (by omega)) (cwV 3 hts (gV mw_4_139 mw_4_141 mw_0_22 mw_1_9 mw_4_142) rfl rfl rfl (by decide +kernel) ⟨Nat.le_of_ble_eq_true rfl, Nat.le_of_ble_eq_true rfl⟩) ⟨pcW_blind, va_recv hKc hPc (ci := 8) (q0 := 0) rfl rfl, pcW_at hPc hKc hDc hN⟩ rfl rfl hl.1 rfl (lv_room (Nat.le_of_ble_eq_true rfl)) dX9_answeredBy_23 ⟨Nat.le_of_ble_eq_true rfl, Nat.le_of_ble_eq_true rfl⟩) hS (fun q h1 h2 => absurd h2 (Nat.not_le.mpr h1)) (fun q h => hA q (Nat.le_trans hS.1 h)) (fun r_7 u t H1 locs ht hvm hw_7 hB hz1 hk1 hS => ?_)
          have hP := keepP hP hk1
          clear hz1 hk1 hB ht hvm hPc hDc hKc
          generalize H1 = H at hP hS ⊢
          refine lv_if_lt (tgt := 35) hx hb dX9_answeredBy_26 (by decide) (fun c_8 => ?_) (fun c_8 => ?_)
          · have b_9 := gx_lt (X := (Int32.toInt r_7)) (C := 0) rfl (by decide) c_8
            refine lv_iconst (v := 0) hx hb dX9_answeredBy_35 (by decide) ?_
            refine lv_ior hx hb dX9_answeredBy_36 ?_
            refine lv_istore_n (lv' := [(2, .int (ac ||| 0)), (3, .int (nI k)), (0, .ref h0), (1, .int (nI kq))]) hx hb dX9_answeredBy_37 rfl hl (by decide) rfl (fun ls hl => ?_)
            refine lv_iinc (v := (nI (k + 1))) (lv' := [(3, .int (nI (k + 1))), (2, .int (ac ||| 0)), (0, .ref h0), (1, .int (nI kq))]) hx hb dX9_answeredBy_38 hl (k := 1) rfl (nI_add k 1) (by decide) rfl (fun ls hl => ?_)
            refine lv_goto (tgt := 4) hx hb dX9_answeredBy_41 (by decide) ?_
            exact ih_2 (k + 1) (ac ||| 0) (by omega) (by rw [hac]; exact bits_f0 (decide_eq_false (fun q => q (by rw [← hw_7]; exact pl_neg hw_7 (by omega))))) (Or.inr b_6) (by omega) _ _ hP hS ls (lv_sub hl [0, 1, 2, 3] rfl)
          · have b_9 := gn_lt (X := (Int32.toInt r_7)) (C := 0) rfl (by decide) c_8
            refine lv_iconst (v := 1) hx hb dX9_answeredBy_29 (by decide) ?_
            refine lv_iload_n hx hb dX9_answeredBy_30 rfl (lv_at hl 0 rfl) ?_
            refine lv_ishl hx hb dX9_answeredBy_31 ?_
            refine lv_goto (tgt := 36) hx hb dX9_answeredBy_32 (by decide) ?_
            refine lv_ior hx hb dX9_answeredBy_36 ?_
            refine lv_istore_n (lv' := [(2, .int (ac ||| (1 <<< ((nI k) &&& 31)))), (3, .int (nI k)), (0, .ref h0), (1, .int (nI kq))]) hx hb dX9_answeredBy_37 rfl hl (by decide) rfl (fun ls hl => ?_)
            refine lv_iinc (v := (nI (k + 1))) (lv' := [(3, .int (nI (k + 1))), (2, .int (ac ||| (1 <<< ((nI k) &&& 31)))), (0, .ref h0), (1, .int (nI kq))]) hx hb dX9_answeredBy_38 hl (k := 1) rfl (nI_add k 1) (by decide) rfl (fun ls hl => ?_)
            refine lv_goto (tgt := 4) hx hb dX9_answeredBy_41 (by decide) ?_
            exact ih_2 (k + 1) (ac ||| (1 <<< ((nI k) &&& 31))) (by omega) (by rw [hac]; exact bits_t (decide_eq_true (by rw [← hw_7]; exact pl_pos (by omega)))) (Or.inr b_6) (by omega) _ _ hP hS ls (lv_sub hl [0, 1, 2, 3] rfl)
        · skip
          refine lv_if_eq (tgt := 44) hx hb dX9_answeredBy_15 (by decide) (fun _ => ?_) (fun h => absurd (by decide) h)
          refine lv_iload_n hx hb dX9_answeredBy_44 rfl (lv_at hl 1 rfl) ?_
          exact W.iret (v := ac) hx hb hr (fun t ht hW => ⟨⟨ac, (), rfl, (ab_row hac hz (Or.inr b_6) (by omega)), trivial⟩, hS.F ht⟩) hS.2.2 dX9_answeredBy_45
  exact key_1 ((8 - 0) + 1) 0 0 (by omega) rfl (Or.inl rfl) (Nat.lt_succ_self _) _ _ hP hS ls (lv_sub hl [0, 1, 2, 3] rfl)
set_option maxHeartbeats 4000000 in
set_option maxRecDepth 100000 in
theorem m_nearestOf (l : Launch) (dC : Nat → ClassId) (dI : Nat → Nat → Nat) (sz : Nat) (h0 : Nat) (w0 : Value) (w1 : Value) (l6 : Nat) (w3 : Value) (kn : Nat) (w5 : Value) (w6 : Value) (w7 : Value) (w8 : Value) (w9 : Value) (w10 : Value) (w11 : Value) (w12 : Value) (w13 : Value) (w14 : Value) (w15 : Value) (w16 : Value) (w17 : Value) (w18 : Value) (w19 : Value) (w20 : Value) (w21 : Value) (w22 : Value) (w23 : Value) (w24 : Value) (w25 : Value) (w26 : Value) (w27 : Value) (w28 : Value) (w29 : Value) (w30 : Value) (w31 : Value) (w32 : Value) (w33 : Value) (w34 : Value) (kl6 : ClassId) (fma : Nat → Int32) (kq : Nat) (o : Int32) (hkn : kn ≤ 10) (hkq : kq < kn) : Met l yX9_nearestOf (wq yX9_nearestOf cX9_nearestOf 6 (some .int)) ({ frames := 0, cells := 0, slots := 0, locals := 0 }) (va_Pc [.ref h0, .int (nI kq), .int o] (pcW dC dI [(kl6, .int)] [(h0, .inr (8, [w0, w1, .ref l6, w3, .int (nI kn), w5, w6, w7, w8, w9, w10, w11, w12, w13, w14, w15, w16, w17, w18, w19, w20, w21, w22, w23, w24, w25, w26, w27, w28, w29, w30, w31, w32, w33, w34])), (l6, .inl (kl6, 10, .inl fma))] sz)) (va_Qi (fun (r : Int32) (_ : Unit) => r = (nrM fma kn kq o)) (fun _ _ => True) (fun q : Nat => sz ≤ q)) 0 0 (fun q : Nat => sz ≤ q) := by
  refine Met.ofW (cc := cX9_nearestOf) (maxL := 6) (ret := (some .int)) (by decide) rfl ?_
  intro p e s m args below meth c s₁ B hml hv
  obtain ⟨rfl, hsz, hN, hP, hK, hD0⟩ := hv
  have hx := B.exec
  have hb := B.bytes
  have hr := B.returns
  have hts0 := atoms_spec (ws := (wq yX9_nearestOf cX9_nearestOf 6 (some .int))) B.pre
  have hts : ∀ w ∈ BG, w.before _ s = true := fun w h => hts0 w (List.mem_cons_of_mem _ h)
  have hown : s.vm.findClass RX9 = some m.cls := findClass_of_methodNamed B.named
  have hlocks := B.notSynchronized
  subst hsz
  have hA : ∀ q : Nat, s.heap.size ≤ q → (fun q : Nat => s.heap.size ≤ q) q := fun _ h => h
  have hD := hD0
  have hS : va_S (fun q : Nat => s.heap.size ≤ q) s.heap s.heap [] := va_S.rf
  have hP : va_P (dC, dI) vwCl [(h0, .inr (8, [w0, w1, .ref l6, w3, .int (nI kn), w5, w6, w7, w8, w9, w10, w11, w12, w13, w14, w15, w16, w17, w18, w19, w20, w21, w22, w23, w24, w25, w26, w27, w28, w29, w30, w31, w32, w33, w34])), (l6, .inl (kl6, 10, .inl fma))] s.heap := hP
  have hl := lv_entry ([.ref h0, .int (nI kq), .int o]) (n := 6) (Nat.le_of_ble_eq_true rfl)
  rw [lg_entry_eq]
  generalize (lg_sl ([.ref h0, .int (nI kq), .int o]) ++ List.replicate (6 - (lg_sl ([.ref h0, .int (nI kq), .int o])).length) Slot.unset).toArray = ls at hl ⊢
  have hl : lv_has ls 6 [(0, .ref h0), (1, .int (nI kq)), (2, .int o)] := hl
  refine lv_aload_n hx hb dX9_nearestOf_0 rfl (lv_at hl 0 rfl) ?_
  refine va_get (D := (dC, dI)) (ci := 8) (v := .ref l6) (C := RX9) (T := TX9) (N := 35) hx hb hts inB_9 hown hK hP 0 rfl rfl 2 (by decide) (hts _ mw_3_184) (fun _ h9 => h9) rfl dX9_nearestOf_1 ?_
  refine lv_iload_n hx hb dX9_nearestOf_4 rfl (lv_at hl 1 rfl) ?_
  refine va_iald hx hb hK hP 1 0 rfl rfl (show vp_in (nI kq) 10 from vp_in_nI (by omega) (by omega)) dX9_nearestOf_5 ?_
  refine hx_top (y := (fma kq)) (congrArg _ (nI_clamp (by omega))) ?_
  refine lv_iconst (v := 1) hx hb dX9_nearestOf_6 (by decide) ?_
  refine lv_iload_n hx hb dX9_nearestOf_7 rfl (lv_at hl 1 rfl) ?_
  refine lv_ishl hx hb dX9_nearestOf_8 ?_
  refine lv_ior hx hb dX9_nearestOf_9 ?_
  refine lv_iload_n hx hb dX9_nearestOf_10 rfl (lv_at hl 2 rfl) ?_
  refine lv_iand hx hb dX9_nearestOf_11 ?_
  refine lv_topi (fun z_1 ez_1 => ?_)
  refine lv_istore_n (lv' := [(3, .int z_1), (0, .ref h0), (1, .int (nI kq)), (2, .int o)]) hx hb dX9_nearestOf_12 rfl hl (by decide) rfl (fun ls hl => ?_)
  refine lv_iload_n hx hb dX9_nearestOf_13 rfl (lv_at hl 0 rfl) ?_
  refine lv_istore (lv' := [(4, .int z_1), (3, .int z_1), (0, .ref h0), (1, .int (nI kq)), (2, .int o)]) hx hb dX9_nearestOf_14 hl (by decide) rfl (fun ls hl => ?_)
  refine lv_iconst (v := 0) hx hb dX9_nearestOf_16 (by decide) ?_
  refine lv_istore (lv' := [(5, .int 0), (4, .int z_1), (3, .int z_1), (0, .ref h0), (1, .int (nI kq)), (2, .int o)]) hx hb dX9_nearestOf_17 hl (by decide) rfl (fun ls hl => ?_)
  have key_2 : ∀ (fu : Nat) (k : Nat) (ac : Int32), (k ≤ kn) → (ac = mskF fma z_1 k) → kn - k < fu → ∀ (H : Heap) (locs : List Loc), va_P (dC, dI) vwCl [(h0, .inr (8, [w0, w1, .ref l6, w3, .int (nI kn), w5, w6, w7, w8, w9, w10, w11, w12, w13, w14, w15, w16, w17, w18, w19, w20, w21, w22, w23, w24, w25, w26, w27, w28, w29, w30, w31, w32, w33, w34])), (l6, .inl (kl6, 10, .inl fma))] H → va_S (fun q : Nat => s.heap.size ≤ q) s.heap H locs → ∀ (ls : Array Slot), lv_has ls 6 [(5, .int (nI k)), (4, .int ac), (3, .int z_1), (0, .ref h0), (1, .int (nI kq)), (2, .int o)] → W p l e (headSpec (wq yX9_nearestOf cX9_nearestOf 6 (some .int)) ({ frames := 0, cells := 0, slots := 0, locals := 0 })).room s m (([.ref h0, .int (nI kq), .int o] : List Value)).toArray below meth c H locs 0 0 (MQ below (va_Qi (fun (r : Int32) (_ : Unit) => r = (nrM fma kn kq o)) (fun _ _ => True) (fun q : Nat => s.heap.size ≤ q)) (([.ref h0, .int (nI kq), .int o] : List Value)).toArray s 0 0 (fun q : Nat => s.heap.size ≤ q)) (F0 m 19 ls []) := by
    intro fu
    induction fu with
    | zero => intro k ac hk hac hme; exact absurd hme (Nat.not_lt_zero _)
    | succ fu ih_3 =>
      intro k ac hk hac hme H locs hP hS ls hl
      refine lv_iload hx hb dX9_nearestOf_19 (lv_at hl 0 rfl) ?_
      refine lv_aload_n hx hb dX9_nearestOf_21 rfl (lv_at hl 3 rfl) ?_
      refine va_get (D := (dC, dI)) (ci := 8) (v := .int (nI kn)) (C := RX9) (T := TX9) (N := 35) hx hb hts inB_9 hown hK hP 0 rfl rfl 4 (by decide) (hts _ mw_3_186) (fun _ h9 => h9) rfl dX9_nearestOf_22 ?_
      refine lv_icmp_ge (tgt := 62) hx hb dX9_nearestOf_25 (by decide) (fun c_4 => ?_) (fun c_4 => ?_)
      · have b_5 := gx_ge (X := ((k : Nat) : Int)) (C := ((kn : Nat) : Int)) (nI_toInt (by omega)) (nI_toInt (by omega)) c_4
        refine lv_iload hx hb dX9_nearestOf_62 (lv_at hl 1 rfl) ?_
        exact W.iret (v := ac) hx hb hr (fun t ht hW => ⟨⟨ac, (), rfl, (by rw [hac, show k = kn from (by omega), ez_1]; rfl), trivial⟩, hS.F ht⟩) hS.2.2 dX9_nearestOf_64
      · have b_5 := gn_ge (X := ((k : Nat) : Int)) (C := ((kn : Nat) : Int)) (nI_toInt (by omega)) (nI_toInt (by omega)) c_4
        refine lv_iload hx hb dX9_nearestOf_28 (lv_at hl 1 rfl) ?_
        refine lv_iload_n hx hb dX9_nearestOf_30 rfl (lv_at hl 2 rfl) ?_
        refine lv_iload hx hb dX9_nearestOf_31 (lv_at hl 0 rfl) ?_
        refine lv_ishr hx hb dX9_nearestOf_33 ?_
        refine lv_iconst (v := 1) hx hb dX9_nearestOf_34 (by decide) ?_
        refine lv_iand hx hb dX9_nearestOf_35 ?_
        refine lv_iconst (v := 1) hx hb dX9_nearestOf_36 (by decide) ?_
        refine lv_icmp_ne (tgt := 52) hx hb dX9_nearestOf_37 (by decide) (fun c_6 => ?_) (fun c_6 => ?_)
        · have b_7 := gx_ne (X := (Int32.toInt ((z_1 >>> ((nI k) &&& 31)) &&& 1))) (C := 1) rfl (by decide) c_6
          refine lv_iconst (v := (-1)) hx hb dX9_nearestOf_52 (by decide) ?_
          refine lv_iand hx hb dX9_nearestOf_53 ?_
          refine lv_istore (lv' := [(4, .int (ac &&& (-1))), (5, .int (nI k)), (3, .int z_1), (0, .ref h0), (1, .int (nI kq)), (2, .int o)]) hx hb dX9_nearestOf_54 hl (by decide) rfl (fun ls hl => ?_)
          refine lv_iinc (v := (nI (k + 1))) (lv' := [(5, .int (nI (k + 1))), (4, .int (ac &&& (-1))), (3, .int z_1), (0, .ref h0), (1, .int (nI kq)), (2, .int o)]) hx hb dX9_nearestOf_56 hl (k := 1) rfl (nI_add k 1) (by decide) rfl (fun ls hl => ?_)
          refine lv_goto (tgt := 19) hx hb dX9_nearestOf_59 (by decide) ?_
          exact ih_3 (k + 1) (ac &&& (-1)) (by omega) (by rw [hac]; exact msk_f (t_n1 (by omega) c_6)) (by omega) _ _ hP hS ls (lv_sub hl [0, 1, 2, 3, 4, 5] rfl)
        · have b_7 := gn_ne (X := (Int32.toInt ((z_1 >>> ((nI k) &&& 31)) &&& 1))) (C := 1) rfl (by decide) c_6
          refine lv_aload_n hx hb dX9_nearestOf_40 rfl (lv_at hl 3 rfl) ?_
          refine va_get (D := (dC, dI)) (ci := 8) (v := .ref l6) (C := RX9) (T := TX9) (N := 35) hx hb hts inB_9 hown hK hP 0 rfl rfl 2 (by decide) (hts _ mw_3_184) (fun _ h9 => h9) rfl dX9_nearestOf_41 ?_
          refine lv_iload hx hb dX9_nearestOf_44 (lv_at hl 0 rfl) ?_
          refine va_iald hx hb hK hP 1 0 rfl rfl (show vp_in (nI k) 10 from vp_in_nI (by omega) (by omega)) dX9_nearestOf_46 ?_
          refine hx_top (y := (fma k)) (congrArg _ (nI_clamp (by omega))) ?_
          refine lv_iconst (v := (-1)) hx hb dX9_nearestOf_47 (by decide) ?_
          refine lv_ixor hx hb dX9_nearestOf_48 ?_
          refine lv_goto (tgt := 53) hx hb dX9_nearestOf_49 (by decide) ?_
          refine lv_iand hx hb dX9_nearestOf_53 ?_
          refine lv_istore (lv' := [(4, .int (ac &&& ((fma k) ^^^ (-1)))), (5, .int (nI k)), (3, .int z_1), (0, .ref h0), (1, .int (nI kq)), (2, .int o)]) hx hb dX9_nearestOf_54 hl (by decide) rfl (fun ls hl => ?_)
          refine lv_iinc (v := (nI (k + 1))) (lv' := [(5, .int (nI (k + 1))), (4, .int (ac &&& ((fma k) ^^^ (-1)))), (3, .int z_1), (0, .ref h0), (1, .int (nI kq)), (2, .int o)]) hx hb dX9_nearestOf_56 hl (k := 1) rfl (nI_add k 1) (by decide) rfl (fun ls hl => ?_)
          refine lv_goto (tgt := 19) hx hb dX9_nearestOf_59 (by decide) ?_
          exact ih_3 (k + 1) (ac &&& ((fma k) ^^^ (-1))) (by omega) (by rw [hac]; exact msk_t (t_1 (by omega) c_6)) (by omega) _ _ hP hS ls (lv_sub hl [0, 1, 2, 3, 4, 5] rfl)
  exact key_2 ((kn - 0) + 1) 0 z_1 (by omega) rfl (Nat.lt_succ_self _) _ _ hP hS ls (lv_sub hl [0, 1, 2, 3, 4, 5] rfl)
set_option maxHeartbeats 4000000 in
set_option maxRecDepth 100000 in
theorem m_havingOf (l : Launch) (dC : Nat → ClassId) (dI : Nat → Nat → Nat) (sz : Nat) (h0 : Nat) (w0 : Value) (w1 : Value) (w2 : Value) (w3 : Value) (kn : Nat) (w5 : Value) (w6 : Value) (w7 : Value) (w8 : Value) (w9 : Value) (w10 : Value) (w11 : Value) (w12 : Value) (w13 : Value) (nm0 : Nat) (w15 : Value) (w16 : Value) (w17 : Value) (w18 : Value) (w19 : Value) (w20 : Value) (w21 : Value) (w22 : Value) (w23 : Value) (w24 : Value) (w25 : Value) (w26 : Value) (w27 : Value) (w28 : Value) (w29 : Value) (w30 : Value) (w31 : Value) (w32 : Value) (w33 : Value) (w34 : Value) (knm0 : ClassId) (fnm : Nat → Int32) (nq : Nat) (hkn : kn ≤ 10) (hn9 : nq < 8) : Met l yX9_havingOf (wq yX9_havingOf cX9_havingOf 4 (some .int)) ({ frames := 1, cells := 0, slots := 0, locals := 22 }) (va_Pc [.ref h0, .int (nI nq)] (pcW dC dI [(knm0, .int)] [(h0, .inr (8, [w0, w1, w2, w3, .int (nI kn), w5, w6, w7, w8, w9, w10, w11, w12, w13, .ref nm0, w15, w16, w17, w18, w19, w20, w21, w22, w23, w24, w25, w26, w27, w28, w29, w30, w31, w32, w33, w34])), (nm0, .inl (knm0, 10, .inl fnm))] sz)) (va_Qi (fun (r : Int32) (_ : Unit) => r = (hvF fnm kn nq)) (fun _ _ => True) (fun q : Nat => sz ≤ q)) 0 0 (fun q : Nat => sz ≤ q) := by
  refine Met.ofW (cc := cX9_havingOf) (maxL := 4) (ret := (some .int)) (by decide) rfl ?_
  intro p e s m args below meth c s₁ B hml hv
  obtain ⟨rfl, hsz, hN, hP, hK, hD0⟩ := hv
  have hx := B.exec
  have hb := B.bytes
  have hr := B.returns
  have hts0 := atoms_spec (ws := (wq yX9_havingOf cX9_havingOf 4 (some .int))) B.pre
  have hts : ∀ w ∈ BG, w.before _ s = true := fun w h => hts0 w (List.mem_cons_of_mem _ h)
  have hown : s.vm.findClass RX9 = some m.cls := findClass_of_methodNamed B.named
  have hlocks := B.notSynchronized
  subst hsz
  have hA : ∀ q : Nat, s.heap.size ≤ q → (fun q : Nat => s.heap.size ≤ q) q := fun _ h => h
  have hD := hD0
  have hS : va_S (fun q : Nat => s.heap.size ≤ q) s.heap s.heap [] := va_S.rf
  have hP : va_P (dC, dI) vwCl [(h0, .inr (8, [w0, w1, w2, w3, .int (nI kn), w5, w6, w7, w8, w9, w10, w11, w12, w13, .ref nm0, w15, w16, w17, w18, w19, w20, w21, w22, w23, w24, w25, w26, w27, w28, w29, w30, w31, w32, w33, w34])), (nm0, .inl (knm0, 10, .inl fnm))] s.heap := hP
  have hl := lv_entry ([.ref h0, .int (nI nq)]) (n := 4) (Nat.le_of_ble_eq_true rfl)
  rw [lg_entry_eq]
  generalize (lg_sl ([.ref h0, .int (nI nq)]) ++ List.replicate (4 - (lg_sl ([.ref h0, .int (nI nq)])).length) Slot.unset).toArray = ls at hl ⊢
  have hl : lv_has ls 4 [(0, .ref h0), (1, .int (nI nq))] := hl
  refine lv_iconst (v := 0) hx hb dX9_havingOf_0 (by decide) ?_
  refine lv_istore_n (lv' := [(2, .int 0), (0, .ref h0), (1, .int (nI nq))]) hx hb dX9_havingOf_1 rfl hl (by decide) rfl (fun ls hl => ?_)
  refine lv_iconst (v := 0) hx hb dX9_havingOf_2 (by decide) ?_
  refine lv_istore_n (lv' := [(3, .int 0), (2, .int 0), (0, .ref h0), (1, .int (nI nq))]) hx hb dX9_havingOf_3 rfl hl (by decide) rfl (fun ls hl => ?_)
  have key_1 : ∀ (fu : Nat) (k : Nat) (ac : Int32), (k ≤ kn) → (ac = bitsF (fun k => bt (fnm k) nq) k) → kn - k < fu → ∀ (H : Heap) (locs : List Loc), va_P (dC, dI) vwCl [(h0, .inr (8, [w0, w1, w2, w3, .int (nI kn), w5, w6, w7, w8, w9, w10, w11, w12, w13, .ref nm0, w15, w16, w17, w18, w19, w20, w21, w22, w23, w24, w25, w26, w27, w28, w29, w30, w31, w32, w33, w34])), (nm0, .inl (knm0, 10, .inl fnm))] H → va_S (fun q : Nat => s.heap.size ≤ q) s.heap H locs → ∀ (ls : Array Slot), lv_has ls 4 [(3, .int (nI k)), (2, .int ac), (0, .ref h0), (1, .int (nI nq))] → W p l e (headSpec (wq yX9_havingOf cX9_havingOf 4 (some .int)) ({ frames := 1, cells := 0, slots := 0, locals := 22 })).room s m (([.ref h0, .int (nI nq)] : List Value)).toArray below meth c H locs 0 0 (MQ below (va_Qi (fun (r : Int32) (_ : Unit) => r = (hvF fnm kn nq)) (fun _ _ => True) (fun q : Nat => s.heap.size ≤ q)) (([.ref h0, .int (nI nq)] : List Value)).toArray s 0 0 (fun q : Nat => s.heap.size ≤ q)) (F0 m 4 ls []) := by
    intro fu
    induction fu with
    | zero => intro k ac hk hac hme; exact absurd hme (Nat.not_lt_zero _)
    | succ fu ih_2 =>
      intro k ac hk hac hme H locs hP hS ls hl
      refine lv_iload_n hx hb dX9_havingOf_4 rfl (lv_at hl 0 rfl) ?_
      refine lv_aload_n hx hb dX9_havingOf_5 rfl (lv_at hl 2 rfl) ?_
      refine va_get (D := (dC, dI)) (ci := 8) (v := .int (nI kn)) (C := RX9) (T := TX9) (N := 35) hx hb hts inB_9 hown hK hP 0 rfl rfl 4 (by decide) (hts _ mw_3_186) (fun _ h9 => h9) rfl dX9_havingOf_6 ?_
      refine lv_icmp_ge (tgt := 37) hx hb dX9_havingOf_9 (by decide) (fun c_3 => ?_) (fun c_3 => ?_)
      · have b_4 := gx_ge (X := ((k : Nat) : Int)) (C := ((kn : Nat) : Int)) (nI_toInt (by omega)) (nI_toInt (by omega)) c_3
        refine lv_iload_n hx hb dX9_havingOf_37 rfl (lv_at hl 1 rfl) ?_
        exact W.iret (v := ac) hx hb hr (fun t ht hW => ⟨⟨ac, (), rfl, (by rw [hac, show k = kn from (by omega)]; rfl), trivial⟩, hS.F ht⟩) hS.2.2 dX9_havingOf_38
      · have b_4 := gn_ge (X := ((k : Nat) : Int)) (C := ((kn : Nat) : Int)) (nI_toInt (by omega)) (nI_toInt (by omega)) c_3
        refine lv_iload_n hx hb dX9_havingOf_12 rfl (lv_at hl 1 rfl) ?_
        refine lv_aload_n hx hb dX9_havingOf_13 rfl (lv_at hl 2 rfl) ?_
        refine lv_iload_n hx hb dX9_havingOf_14 rfl (lv_at hl 0 rfl) ?_
        refine lv_iload_n hx hb dX9_havingOf_15 rfl (lv_at hl 3 rfl) ?_
        have hPc := hP.sub (ws' := [(h0, .inr (8, [w0, w1, w2, w3, .int (nI kn), w5, w6, w7, w8, w9, w10, w11, w12, w13, .ref nm0, w15, w16, w17, w18, w19, w20, w21, w22, w23, w24, w25, w26, w27, w28, w29, w30, w31, w32, w33, w34])), (nm0, .inl (knm0, 10, .inl fnm))]) [0, 1] rfl
        have hDc := hD.sub (ws' := [(h0, .inr (8, [w0, w1, w2, w3, .int (nI kn), w5, w6, w7, w8, w9, w10, w11, w12, w13, .ref nm0, w15, w16, w17, w18, w19, w20, w21, w22, w23, w24, w25, w26, w27, w28, w29, w30, w31, w32, w33, w34])), (nm0, .inl (knm0, 10, .inl fnm))]) [0, 1] (by decide) rfl
        have hKc := hK.sub (tys' := [(knm0, .int)]) [0] rfl
        refine va_calli (va_runV (As := [.int (nI k), .int (nI nq)]) (rest := [.int ac]) ⟨hx, hb, hml, hown, hts⟩ (m_hasNameX l dC dI H.size h0 (w0) (w1) (w2) (w3) (.int (nI kn)) (w5) (w6) (w7) (w8) (w9) (w10) (w11) (w12) (w13) nm0 (w15) (w16) (w17) (w18) (w19) (w20) (w21) (w22) (w23) (w24) (w25) (w26) (w27) (w28) (w29) (w30) (w31) (w32) (w33) (w34) knm0 fnm k nq (by omega) (by omega)) (cwV 2 hts (gV mw_4_123 mw_4_125 mw_0_20 mw_1_9 mw_4_126) rfl rfl rfl (by decide +kernel) ⟨Nat.le_of_ble_eq_true rfl, Nat.le_of_ble_eq_true rfl⟩) ⟨pcW_blind, va_recv hKc hPc (ci := 8) (q0 := 0) rfl rfl, pcW_at hPc hKc hDc hN⟩ rfl rfl hl.1 rfl (lv_room (Nat.le_of_ble_eq_true rfl)) dX9_havingOf_16 ⟨Nat.le_of_ble_eq_true rfl, Nat.le_of_ble_eq_true rfl⟩) hS (fun q h1 h2 => absurd h2 (Nat.not_le.mpr h1)) (fun q h => hA q (Nat.le_trans hS.1 h)) (fun r_5 u t H1 locs ht hvm hw_5 hB hz1 hk1 hS => ?_)
        have hP := keepP hP hk1
        clear hz1 hk1 hB ht hvm hPc hDc hKc
        generalize H1 = H at hP hS ⊢
        rcases fx_bool hw_5 with ⟨rfl, b_6⟩ | ⟨rfl, b_6⟩
        · skip
          refine lv_if_eq (tgt := 28) hx hb dX9_havingOf_19 (by decide) (fun h => absurd h (by decide)) (fun _ => ?_)
          refine lv_iconst (v := 1) hx hb dX9_havingOf_22 (by decide) ?_
          refine lv_iload_n hx hb dX9_havingOf_23 rfl (lv_at hl 0 rfl) ?_
          refine lv_ishl hx hb dX9_havingOf_24 ?_
          refine lv_goto (tgt := 29) hx hb dX9_havingOf_25 (by decide) ?_
          refine lv_ior hx hb dX9_havingOf_29 ?_
          refine lv_istore_n (lv' := [(2, .int (ac ||| (1 <<< ((nI k) &&& 31)))), (3, .int (nI k)), (0, .ref h0), (1, .int (nI nq))]) hx hb dX9_havingOf_30 rfl hl (by decide) rfl (fun ls hl => ?_)
          refine lv_iinc (v := (nI (k + 1))) (lv' := [(3, .int (nI (k + 1))), (2, .int (ac ||| (1 <<< ((nI k) &&& 31)))), (0, .ref h0), (1, .int (nI nq))]) hx hb dX9_havingOf_31 hl (k := 1) rfl (nI_add k 1) (by decide) rfl (fun ls hl => ?_)
          refine lv_goto (tgt := 4) hx hb dX9_havingOf_34 (by decide) ?_
          exact ih_2 (k + 1) (ac ||| (1 <<< ((nI k) &&& 31))) (by omega) (by rw [hac]; exact bits_t (b_6)) (by omega) _ _ hP hS ls (lv_sub hl [0, 1, 2, 3] rfl)
        · skip
          refine lv_if_eq (tgt := 28) hx hb dX9_havingOf_19 (by decide) (fun _ => ?_) (fun h => absurd (by decide) h)
          refine lv_iconst (v := 0) hx hb dX9_havingOf_28 (by decide) ?_
          refine lv_ior hx hb dX9_havingOf_29 ?_
          refine lv_istore_n (lv' := [(2, .int (ac ||| 0)), (3, .int (nI k)), (0, .ref h0), (1, .int (nI nq))]) hx hb dX9_havingOf_30 rfl hl (by decide) rfl (fun ls hl => ?_)
          refine lv_iinc (v := (nI (k + 1))) (lv' := [(3, .int (nI (k + 1))), (2, .int (ac ||| 0)), (0, .ref h0), (1, .int (nI nq))]) hx hb dX9_havingOf_31 hl (k := 1) rfl (nI_add k 1) (by decide) rfl (fun ls hl => ?_)
          refine lv_goto (tgt := 4) hx hb dX9_havingOf_34 (by decide) ?_
          exact ih_2 (k + 1) (ac ||| 0) (by omega) (by rw [hac]; exact bits_f0 (bF b_6)) (by omega) _ _ hP hS ls (lv_sub hl [0, 1, 2, 3] rfl)
  exact key_1 ((kn - 0) + 1) 0 0 (by omega) rfl (Nat.lt_succ_self _) _ _ hP hS ls (lv_sub hl [0, 1, 2, 3] rfl)
set_option maxHeartbeats 4000000 in
set_option maxRecDepth 100000 in
theorem m_doubtBy (l : Launch) (dC : Nat → ClassId) (dI : Nat → Nat → Nat) (sz : Nat) (h0 : Nat) (w0 : Value) (w1 : Value) (l6 : Nat) (w3 : Value) (kn : Nat) (w5 : Value) (w6 : Value) (w7 : Value) (w8 : Value) (w9 : Value) (w10 : Value) (w11 : Value) (w12 : Value) (w13 : Value) (w14 : Value) (w15 : Value) (w16 : Value) (w17 : Value) (w18 : Value) (w19 : Value) (w20 : Value) (w21 : Value) (w22 : Value) (w23 : Value) (w24 : Value) (w25 : Value) (w26 : Value) (w27 : Value) (w28 : Value) (w29 : Value) (w30 : Value) (w31 : Value) (w32 : Value) (w33 : Value) (w34 : Value) (kl6 : ClassId) (fma : Nat → Int32) (o : Int32) (hkn : kn ≤ 10) : Met l yX9_doubtBy (wq yX9_doubtBy cX9_doubtBy 4 (some .int)) ({ frames := 1, cells := 0, slots := 0, locals := 25 }) (va_Pc [.ref h0, .int o] (pcW dC dI [(kl6, .int)] [(h0, .inr (8, [w0, w1, .ref l6, w3, .int (nI kn), w5, w6, w7, w8, w9, w10, w11, w12, w13, w14, w15, w16, w17, w18, w19, w20, w21, w22, w23, w24, w25, w26, w27, w28, w29, w30, w31, w32, w33, w34])), (l6, .inl (kl6, 10, .inl fma))] sz)) (va_Qi (fun (r : Int32) (_ : Unit) => r = (dbM fma kn o)) (fun _ _ => True) (fun q : Nat => sz ≤ q)) 0 0 (fun q : Nat => sz ≤ q) := by
  refine Met.ofW (cc := cX9_doubtBy) (maxL := 4) (ret := (some .int)) (by decide) rfl ?_
  intro p e s m args below meth c s₁ B hml hv
  obtain ⟨rfl, hsz, hN, hP, hK, hD0⟩ := hv
  have hx := B.exec
  have hb := B.bytes
  have hr := B.returns
  have hts0 := atoms_spec (ws := (wq yX9_doubtBy cX9_doubtBy 4 (some .int))) B.pre
  have hts : ∀ w ∈ BG, w.before _ s = true := fun w h => hts0 w (List.mem_cons_of_mem _ h)
  have hown : s.vm.findClass RX9 = some m.cls := findClass_of_methodNamed B.named
  have hlocks := B.notSynchronized
  subst hsz
  have hA : ∀ q : Nat, s.heap.size ≤ q → (fun q : Nat => s.heap.size ≤ q) q := fun _ h => h
  have hD := hD0
  have hS : va_S (fun q : Nat => s.heap.size ≤ q) s.heap s.heap [] := va_S.rf
  have hP : va_P (dC, dI) vwCl [(h0, .inr (8, [w0, w1, .ref l6, w3, .int (nI kn), w5, w6, w7, w8, w9, w10, w11, w12, w13, w14, w15, w16, w17, w18, w19, w20, w21, w22, w23, w24, w25, w26, w27, w28, w29, w30, w31, w32, w33, w34])), (l6, .inl (kl6, 10, .inl fma))] s.heap := hP
  have hl := lv_entry ([.ref h0, .int o]) (n := 4) (Nat.le_of_ble_eq_true rfl)
  rw [lg_entry_eq]
  generalize (lg_sl ([.ref h0, .int o]) ++ List.replicate (4 - (lg_sl ([.ref h0, .int o])).length) Slot.unset).toArray = ls at hl ⊢
  have hl : lv_has ls 4 [(0, .ref h0), (1, .int o)] := hl
  refine lv_iconst (v := 0) hx hb dX9_doubtBy_0 (by decide) ?_
  refine lv_istore_n (lv' := [(2, .int 0), (0, .ref h0), (1, .int o)]) hx hb dX9_doubtBy_1 rfl hl (by decide) rfl (fun ls hl => ?_)
  refine lv_iconst (v := 0) hx hb dX9_doubtBy_2 (by decide) ?_
  refine lv_istore_n (lv' := [(3, .int 0), (2, .int 0), (0, .ref h0), (1, .int o)]) hx hb dX9_doubtBy_3 rfl hl (by decide) rfl (fun ls hl => ?_)
  have key_1 : ∀ (fu : Nat) (k : Nat) (ac : Int32), (k ≤ kn) → (ac = bitsF (fun k => decide (1 < cnt (fun i => bt (nrM fma kn k o) i) 10)) k) → kn - k < fu → ∀ (H : Heap) (locs : List Loc), va_P (dC, dI) vwCl [(h0, .inr (8, [w0, w1, .ref l6, w3, .int (nI kn), w5, w6, w7, w8, w9, w10, w11, w12, w13, w14, w15, w16, w17, w18, w19, w20, w21, w22, w23, w24, w25, w26, w27, w28, w29, w30, w31, w32, w33, w34])), (l6, .inl (kl6, 10, .inl fma))] H → va_S (fun q : Nat => s.heap.size ≤ q) s.heap H locs → ∀ (ls : Array Slot), lv_has ls 4 [(3, .int (nI k)), (2, .int ac), (0, .ref h0), (1, .int o)] → W p l e (headSpec (wq yX9_doubtBy cX9_doubtBy 4 (some .int)) ({ frames := 1, cells := 0, slots := 0, locals := 25 })).room s m (([.ref h0, .int o] : List Value)).toArray below meth c H locs 0 0 (MQ below (va_Qi (fun (r : Int32) (_ : Unit) => r = (dbM fma kn o)) (fun _ _ => True) (fun q : Nat => s.heap.size ≤ q)) (([.ref h0, .int o] : List Value)).toArray s 0 0 (fun q : Nat => s.heap.size ≤ q)) (F0 m 4 ls []) := by
    intro fu
    induction fu with
    | zero => intro k ac hk hac hme; exact absurd hme (Nat.not_lt_zero _)
    | succ fu ih_2 =>
      intro k ac hk hac hme H locs hP hS ls hl
      refine lv_iload_n hx hb dX9_doubtBy_4 rfl (lv_at hl 0 rfl) ?_
      refine lv_aload_n hx hb dX9_doubtBy_5 rfl (lv_at hl 2 rfl) ?_
      refine va_get (D := (dC, dI)) (ci := 8) (v := .int (nI kn)) (C := RX9) (T := TX9) (N := 35) hx hb hts inB_9 hown hK hP 0 rfl rfl 4 (by decide) (hts _ mw_3_186) (fun _ h9 => h9) rfl dX9_doubtBy_6 ?_
      refine lv_icmp_ge (tgt := 41) hx hb dX9_doubtBy_9 (by decide) (fun c_3 => ?_) (fun c_3 => ?_)
      · have b_4 := gx_ge (X := ((k : Nat) : Int)) (C := ((kn : Nat) : Int)) (nI_toInt (by omega)) (nI_toInt (by omega)) c_3
        refine lv_iload_n hx hb dX9_doubtBy_41 rfl (lv_at hl 1 rfl) ?_
        exact W.iret (v := ac) hx hb hr (fun t ht hW => ⟨⟨ac, (), rfl, (by rw [hac, show k = kn from (by omega)]; rfl), trivial⟩, hS.F ht⟩) hS.2.2 dX9_doubtBy_42
      · have b_4 := gn_ge (X := ((k : Nat) : Int)) (C := ((kn : Nat) : Int)) (nI_toInt (by omega)) (nI_toInt (by omega)) c_3
        refine lv_iload_n hx hb dX9_doubtBy_12 rfl (lv_at hl 1 rfl) ?_
        refine lv_aload_n hx hb dX9_doubtBy_13 rfl (lv_at hl 2 rfl) ?_
        refine lv_iload_n hx hb dX9_doubtBy_14 rfl (lv_at hl 0 rfl) ?_
        refine lv_iload_n hx hb dX9_doubtBy_15 rfl (lv_at hl 3 rfl) ?_
        have hPc := hP.sub (ws' := [(h0, .inr (8, [w0, w1, .ref l6, w3, .int (nI kn), w5, w6, w7, w8, w9, w10, w11, w12, w13, w14, w15, w16, w17, w18, w19, w20, w21, w22, w23, w24, w25, w26, w27, w28, w29, w30, w31, w32, w33, w34])), (l6, .inl (kl6, 10, .inl fma))]) [0, 1] rfl
        have hDc := hD.sub (ws' := [(h0, .inr (8, [w0, w1, .ref l6, w3, .int (nI kn), w5, w6, w7, w8, w9, w10, w11, w12, w13, w14, w15, w16, w17, w18, w19, w20, w21, w22, w23, w24, w25, w26, w27, w28, w29, w30, w31, w32, w33, w34])), (l6, .inl (kl6, 10, .inl fma))]) [0, 1] (by decide) rfl
        have hKc := hK.sub (tys' := [(kl6, .int)]) [0] rfl
        refine va_calli (va_runV (As := [.int (nI k), .int o]) (rest := [.int ac]) ⟨hx, hb, hml, hown, hts⟩ (m_nearestOf l dC dI H.size h0 (w0) (w1) l6 (w3) kn (w5) (w6) (w7) (w8) (w9) (w10) (w11) (w12) (w13) (w14) (w15) (w16) (w17) (w18) (w19) (w20) (w21) (w22) (w23) (w24) (w25) (w26) (w27) (w28) (w29) (w30) (w31) (w32) (w33) (w34) kl6 fma k o hkn (by omega)) (cwV 2 hts (gV mw_4_171 mw_4_173 mw_0_27 mw_1_9 mw_4_174) rfl rfl rfl (by decide +kernel) ⟨Nat.le_of_ble_eq_true rfl, Nat.le_of_ble_eq_true rfl⟩) ⟨pcW_blind, va_recv hKc hPc (ci := 8) (q0 := 0) rfl rfl, pcW_at hPc hKc hDc hN⟩ rfl rfl hl.1 rfl (lv_room (Nat.le_of_ble_eq_true rfl)) dX9_doubtBy_16 ⟨Nat.le_of_ble_eq_true rfl, Nat.le_of_ble_eq_true rfl⟩) hS (fun q h1 h2 => absurd h2 (Nat.not_le.mpr h1)) (fun q h => hA q (Nat.le_trans hS.1 h)) (fun r_5 u t H1 locs ht hvm hw_5 hB hz1 hk1 hS => ?_)
        have hP := keepP hP hk1
        clear hz1 hk1 hB ht hvm hPc hDc hKc
        generalize H1 = H at hP hS ⊢
        obtain rfl : r_5 = (nrM fma kn k o) := hw_5
        have hPc := hP.sub (ws' := []) [] rfl
        have hDc := hD.sub (ws' := []) [] (by decide) rfl
        have hKc := hK.sub (tys' := []) [] rfl
        refine va_calli (va_runS (As := [.int (nrM fma kn k o)]) (rest := [.int ac]) ⟨hx, hb, hml, hown, hts⟩ (m_ones l dC dI H.size (nrM fma kn k o) ) (va_cwS 1 hts (gS mw_4_183 mw_4_184 mw_1_9 mw_4_185) rfl rfl rfl (by decide +kernel) ⟨Nat.le_of_ble_eq_true rfl, Nat.le_of_ble_eq_true rfl⟩) ⟨pcW_blind, pcW_at hPc hKc hDc hN⟩ rfl rfl hl.1 rfl (lv_room (Nat.le_of_ble_eq_true rfl)) dX9_doubtBy_19 ⟨Nat.le_of_ble_eq_true rfl, Nat.le_of_ble_eq_true rfl⟩) hS (fun q h1 h2 => absurd h2 (Nat.not_le.mpr h1)) (fun q h => hA q (Nat.le_trans hS.1 h)) (fun r_6 u t H1 locs ht hvm hw_6 hB hz1 hk1 hS => ?_)
        have hP := keepP hP hk1
        clear hz1 hk1 hB ht hvm hPc hDc hKc
        generalize H1 = H at hP hS ⊢
        obtain rfl : r_6 = nI (cnt (fun i => bt (nrM fma kn k o) i) 10) := hw_6
        have b_7 := (cnt_le : cnt (fun i => bt (nrM fma kn k o) i) 10 ≤ 10)
        refine lv_iconst (v := 1) hx hb dX9_doubtBy_22 (by decide) ?_
        refine lv_icmp_le (tgt := 32) hx hb dX9_doubtBy_23 (by decide) (fun c_8 => ?_) (fun c_8 => ?_)
        · have b_9 := gx_le (X := ((cnt (fun i => bt (nrM fma kn k o) i) 10 : Nat) : Int)) (C := 1) (nI_toInt (by omega)) (by decide) c_8
          refine lv_iconst (v := 0) hx hb dX9_doubtBy_32 (by decide) ?_
          refine lv_ior hx hb dX9_doubtBy_33 ?_
          refine lv_istore_n (lv' := [(2, .int (ac ||| 0)), (3, .int (nI k)), (0, .ref h0), (1, .int o)]) hx hb dX9_doubtBy_34 rfl hl (by decide) rfl (fun ls hl => ?_)
          refine lv_iinc (v := (nI (k + 1))) (lv' := [(3, .int (nI (k + 1))), (2, .int (ac ||| 0)), (0, .ref h0), (1, .int o)]) hx hb dX9_doubtBy_35 hl (k := 1) rfl (nI_add k 1) (by decide) rfl (fun ls hl => ?_)
          refine lv_goto (tgt := 4) hx hb dX9_doubtBy_38 (by decide) ?_
          exact ih_2 (k + 1) (ac ||| 0) (by omega) (by rw [hac]; exact bits_f0 (decide_eq_false (by omega))) (by omega) _ _ hP hS ls (lv_sub hl [0, 1, 2, 3] rfl)
        · have b_9 := gn_le (X := ((cnt (fun i => bt (nrM fma kn k o) i) 10 : Nat) : Int)) (C := 1) (nI_toInt (by omega)) (by decide) c_8
          refine lv_iconst (v := 1) hx hb dX9_doubtBy_26 (by decide) ?_
          refine lv_iload_n hx hb dX9_doubtBy_27 rfl (lv_at hl 0 rfl) ?_
          refine lv_ishl hx hb dX9_doubtBy_28 ?_
          refine lv_goto (tgt := 33) hx hb dX9_doubtBy_29 (by decide) ?_
          refine lv_ior hx hb dX9_doubtBy_33 ?_
          refine lv_istore_n (lv' := [(2, .int (ac ||| (1 <<< ((nI k) &&& 31)))), (3, .int (nI k)), (0, .ref h0), (1, .int o)]) hx hb dX9_doubtBy_34 rfl hl (by decide) rfl (fun ls hl => ?_)
          refine lv_iinc (v := (nI (k + 1))) (lv' := [(3, .int (nI (k + 1))), (2, .int (ac ||| (1 <<< ((nI k) &&& 31)))), (0, .ref h0), (1, .int o)]) hx hb dX9_doubtBy_35 hl (k := 1) rfl (nI_add k 1) (by decide) rfl (fun ls hl => ?_)
          refine lv_goto (tgt := 4) hx hb dX9_doubtBy_38 (by decide) ?_
          exact ih_2 (k + 1) (ac ||| (1 <<< ((nI k) &&& 31))) (by omega) (by rw [hac]; exact bits_t (decide_eq_true (by omega))) (by omega) _ _ hP hS ls (lv_sub hl [0, 1, 2, 3] rfl)
  exact key_1 ((kn - 0) + 1) 0 0 (by omega) rfl (Nat.lt_succ_self _) _ _ hP hS ls (lv_sub hl [0, 1, 2, 3] rfl)
