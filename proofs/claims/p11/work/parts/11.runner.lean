theorem mw_1_112 : Cond.laysFinal RX5 "AnswerLines$Runner" "digits" "[I" ∈ BG := mB (t1 (i := 112) (by decide +kernel)) (by decide +kernel)
theorem mw_1_114 : Cond.lays RX5 "AnswerLines$Runner" "said" "I" ∈ BG := mB (t1 (i := 114) (by decide +kernel)) (by decide +kernel)
theorem mw_1_116 : Cond.lays RX5 "AnswerLines$Runner" "made" "I" ∈ BG := mB (t1 (i := 116) (by decide +kernel)) (by decide +kernel)
theorem mw_1_118 : Cond.lays RX5 "AnswerLines$Runner" "lined" "I" ∈ BG := mB (t1 (i := 118) (by decide +kernel)) (by decide +kernel)
theorem inB_5 : ∀ w ∈ u_ws RX5 TX5 4, w ∈ BG := fun w hw => by
  obtain ⟨k, hk, rfl⟩ := List.mem_map.mp hw
  have hk := List.mem_range.mp hk
  rcases (by omega : k = 0 ∨ k = 1 ∨ k = 2 ∨ k = 3) with rfl | rfl | rfl | rfl
  · exact mw_1_112
  · exact mw_1_114
  · exact mw_1_116
  · exact mw_1_118
theorem mw_1_109 : Cond.fieldLink RX5 15 "AnswerLines$Runner" "said" "I" ∈ BG := mB (t1 (i := 109) (by decide +kernel)) (by decide +kernel)
theorem mw_1_108 : Cond.fieldLink RX5 11 "AnswerLines$Runner" "digits" "[I" ∈ BG := mB (t1 (i := 108) (by decide +kernel)) (by decide +kernel)
theorem mw_1_110 : Cond.fieldLink RX5 19 "AnswerLines$Runner" "made" "I" ∈ BG := mB (t1 (i := 110) (by decide +kernel)) (by decide +kernel)
theorem mw_1_111 : Cond.fieldLink RX5 22 "AnswerLines$Runner" "lined" "I" ∈ BG := mB (t1 (i := 111) (by decide +kernel)) (by decide +kernel)
theorem mw_2_169 : Cond.methodLink RX5 29 yX0_ownersOf ∈ BG := mB (t2 (i := 169) (by decide +kernel)) (by decide +kernel)
theorem mw_2_170 : Cond.methodLink RX5 35 yX1_whereFirst ∈ BG := mB (t2 (i := 170) (by decide +kernel)) (by decide +kernel)
theorem mw_2_171 : Cond.methodLink RX5 41 yX1_inLine ∈ BG := mB (t2 (i := 171) (by decide +kernel)) (by decide +kernel)
theorem mw_2_172 : Cond.methodLink RX5 45 yX0_lengthOf ∈ BG := mB (t2 (i := 172) (by decide +kernel)) (by decide +kernel)
theorem mw_2_179 : Cond.code yX0_sign cX0_sign 4 (some .char) ∈ BG := mB (t2 (i := 179) rfl) (by decide +kernel)
theorem mw_2_176 : Cond.methodLink RX5 48 yX0_sign ∈ BG := mB (t2 (i := 176) (by decide +kernel)) (by decide +kernel)
theorem mw_2_177 : Cond.instanceMethod yX0_sign ∈ BG := mB (t2 (i := 177) (by decide +kernel)) (by decide +kernel)
theorem mw_2_178 : Cond.selects RX0 yX0_sign yX0_sign ∈ BG := mB (t2 (i := 178) (by decide +kernel)) (by decide +kernel)
theorem mw_2_168 : Cond.code yX5_work cX5_work 12 (some .int) ∈ BG := mB (t2 (i := 168) rfl) (by decide +kernel)
theorem mw_2_165 : Cond.methodLink RX5 25 yX5_work ∈ BG := mB (t2 (i := 165) (by decide +kernel)) (by decide +kernel)
theorem mw_2_167 : Cond.instanceMethod yX5_work ∈ BG := mB (t2 (i := 167) (by decide +kernel)) (by decide +kernel)
theorem mw_0_4 : Cond.selects RX5 yX5_work yX5_work ∈ BG := mB (t0 (i := 4) (by decide +kernel)) (by decide +kernel)
theorem mw_1_6 : Cond.initialized RX5 ∈ BG := mB (t1 (i := 6) (by decide +kernel)) (by decide +kernel)
theorem mw_2_184 : Cond.code yX5_sayDigit cX5_sayDigit 2 (some .int) ∈ BG := mB (t2 (i := 184) rfl) (by decide +kernel)
theorem mw_2_181 : Cond.methodLink RX5 52 yX5_sayDigit ∈ BG := mB (t2 (i := 181) (by decide +kernel)) (by decide +kernel)
theorem mw_2_183 : Cond.instanceMethod yX5_sayDigit ∈ BG := mB (t2 (i := 183) (by decide +kernel)) (by decide +kernel)
theorem mw_0_5 : Cond.selects RX5 yX5_sayDigit yX5_sayDigit ∈ BG := mB (t0 (i := 5) (by decide +kernel)) (by decide +kernel)
theorem dX5_digit_0 : decode cX5_digit 0 = .ok (.iload_n 1, 1) := by decide +kernel
theorem dX5_digit_1 : decode cX5_digit 1 = .ok (.ifCond .lt 20, 3) := by decide +kernel
theorem dX5_digit_21 : decode cX5_digit 21 = .ok (.bipush (-6), 2) := by decide +kernel
theorem dX5_digit_23 : decode cX5_digit 23 = .ok (.ireturn, 1) := by decide +kernel
theorem dX5_digit_4 : decode cX5_digit 4 = .ok (.iload_n 1, 1) := by decide +kernel
theorem dX5_digit_5 : decode cX5_digit 5 = .ok (.aload_n 0, 1) := by decide +kernel
theorem dX5_digit_6 : decode cX5_digit 6 = .ok (.getfield 15, 3) := by decide +kernel
theorem dX5_digit_9 : decode cX5_digit 9 = .ok (.if_icmp .ge 12, 3) := by decide +kernel
theorem dX5_digit_12 : decode cX5_digit 12 = .ok (.aload_n 0, 1) := by decide +kernel
theorem dX5_digit_13 : decode cX5_digit 13 = .ok (.getfield 11, 3) := by decide +kernel
theorem dX5_digit_16 : decode cX5_digit 16 = .ok (.iload_n 1, 1) := by decide +kernel
theorem dX5_digit_17 : decode cX5_digit 17 = .ok (.iaload, 1) := by decide +kernel
theorem dX5_digit_18 : decode cX5_digit 18 = .ok (.goto 5, 3) := by decide +kernel
theorem dX5_howManySaid_0 : decode cX5_howManySaid 0 = .ok (.aload_n 0, 1) := by decide +kernel
theorem dX5_howManySaid_1 : decode cX5_howManySaid 1 = .ok (.getfield 15, 3) := by decide +kernel
theorem dX5_howManySaid_4 : decode cX5_howManySaid 4 = .ok (.ireturn, 1) := by decide +kernel
theorem dX5_sayDigit_0 : decode cX5_sayDigit 0 = .ok (.aload_n 0, 1) := by decide +kernel
theorem dX5_sayDigit_1 : decode cX5_sayDigit 1 = .ok (.getfield 15, 3) := by decide +kernel
theorem dX5_sayDigit_4 : decode cX5_sayDigit 4 = .ok (.bipush 40, 2) := by decide +kernel
theorem dX5_sayDigit_6 : decode cX5_sayDigit 6 = .ok (.if_icmp .lt 5, 3) := by decide +kernel
theorem dX5_sayDigit_11 : decode cX5_sayDigit 11 = .ok (.aload_n 0, 1) := by decide +kernel
theorem dX5_sayDigit_12 : decode cX5_sayDigit 12 = .ok (.getfield 11, 3) := by decide +kernel
theorem dX5_sayDigit_15 : decode cX5_sayDigit 15 = .ok (.aload_n 0, 1) := by decide +kernel
theorem dX5_sayDigit_16 : decode cX5_sayDigit 16 = .ok (.getfield 15, 3) := by decide +kernel
theorem dX5_sayDigit_19 : decode cX5_sayDigit 19 = .ok (.iload_n 1, 1) := by decide +kernel
theorem dX5_sayDigit_20 : decode cX5_sayDigit 20 = .ok (.iastore, 1) := by decide +kernel
theorem dX5_sayDigit_21 : decode cX5_sayDigit 21 = .ok (.aload_n 0, 1) := by decide +kernel
theorem dX5_sayDigit_22 : decode cX5_sayDigit 22 = .ok (.dup, 1) := by decide +kernel
theorem dX5_sayDigit_23 : decode cX5_sayDigit 23 = .ok (.getfield 15, 3) := by decide +kernel
theorem dX5_sayDigit_26 : decode cX5_sayDigit 26 = .ok (.iconst 1, 1) := by decide +kernel
theorem dX5_sayDigit_27 : decode cX5_sayDigit 27 = .ok (.iadd, 1) := by decide +kernel
theorem dX5_sayDigit_28 : decode cX5_sayDigit 28 = .ok (.putfield 15, 3) := by decide +kernel
theorem dX5_sayDigit_31 : decode cX5_sayDigit 31 = .ok (.iconst 0, 1) := by decide +kernel
theorem dX5_sayDigit_32 : decode cX5_sayDigit 32 = .ok (.ireturn, 1) := by decide +kernel
theorem dX5_sayDigit_9 : decode cX5_sayDigit 9 = .ok (.iconst 2, 1) := by decide +kernel
theorem dX5_sayDigit_10 : decode cX5_sayDigit 10 = .ok (.ireturn, 1) := by decide +kernel
theorem dX5_work_0 : decode cX5_work 0 = .ok (.iload 5, 2) := by decide +kernel
theorem dX5_work_2 : decode cX5_work 2 = .ok (.bipush 9, 2) := by decide +kernel
theorem dX5_work_4 : decode cX5_work 4 = .ok (.if_icmp .ge 13, 3) := by decide +kernel
theorem dX5_work_17 : decode cX5_work 17 = .ok (.iconst 2, 1) := by decide +kernel
theorem dX5_work_18 : decode cX5_work 18 = .ok (.ireturn, 1) := by decide +kernel
theorem dX5_work_7 : decode cX5_work 7 = .ok (.aload_n 0, 1) := by decide +kernel
theorem dX5_work_8 : decode cX5_work 8 = .ok (.getfield 19, 3) := by decide +kernel
theorem dX5_work_11 : decode cX5_work 11 = .ok (.sipush 200, 3) := by decide +kernel
theorem dX5_work_14 : decode cX5_work 14 = .ok (.if_icmp .lt 5, 3) := by decide +kernel
theorem dX5_work_19 : decode cX5_work 19 = .ok (.aload_n 0, 1) := by decide +kernel
theorem dX5_work_20 : decode cX5_work 20 = .ok (.dup, 1) := by decide +kernel
theorem dX5_work_21 : decode cX5_work 21 = .ok (.getfield 19, 3) := by decide +kernel
theorem dX5_work_24 : decode cX5_work 24 = .ok (.iconst 1, 1) := by decide +kernel
theorem dX5_work_25 : decode cX5_work 25 = .ok (.iadd, 1) := by decide +kernel
theorem dX5_work_26 : decode cX5_work 26 = .ok (.putfield 19, 3) := by decide +kernel
theorem dX5_work_29 : decode cX5_work 29 = .ok (.aload_n 1, 1) := by decide +kernel
theorem dX5_work_30 : decode cX5_work 30 = .ok (.aload_n 0, 1) := by decide +kernel
theorem dX5_work_31 : decode cX5_work 31 = .ok (.getfield 22, 3) := by decide +kernel
theorem dX5_work_34 : decode cX5_work 34 = .ok (.aload_n 2, 1) := by decide +kernel
theorem dX5_work_35 : decode cX5_work 35 = .ok (.iload_n 3, 1) := by decide +kernel
theorem dX5_work_36 : decode cX5_work 36 = .ok (.invokevirtual 29, 3) := by decide +kernel
theorem dX5_work_39 : decode cX5_work 39 = .ok (.iload 4, 2) := by decide +kernel
theorem dX5_work_41 : decode cX5_work 41 = .ok (.invokevirtual 35, 3) := by decide +kernel
theorem dX5_work_44 : decode cX5_work 44 = .ok (.istore 6, 2) := by decide +kernel
theorem dX5_work_46 : decode cX5_work 46 = .ok (.iload 6, 2) := by decide +kernel
theorem dX5_work_48 : decode cX5_work 48 = .ok (.bipush (-6), 2) := by decide +kernel
theorem dX5_work_50 : decode cX5_work 50 = .ok (.if_icmp .ne 5, 3) := by decide +kernel
theorem dX5_work_53 : decode cX5_work 53 = .ok (.iconst 1, 1) := by decide +kernel
theorem dX5_work_54 : decode cX5_work 54 = .ok (.ireturn, 1) := by decide +kernel
theorem dX5_work_55 : decode cX5_work 55 = .ok (.aload_n 1, 1) := by decide +kernel
theorem dX5_work_56 : decode cX5_work 56 = .ok (.aload_n 0, 1) := by decide +kernel
theorem dX5_work_57 : decode cX5_work 57 = .ok (.getfield 22, 3) := by decide +kernel
theorem dX5_work_60 : decode cX5_work 60 = .ok (.iload 6, 2) := by decide +kernel
theorem dX5_work_62 : decode cX5_work 62 = .ok (.invokevirtual 41, 3) := by decide +kernel
theorem dX5_work_65 : decode cX5_work 65 = .ok (.istore 7, 2) := by decide +kernel
theorem dX5_work_67 : decode cX5_work 67 = .ok (.aload_n 2, 1) := by decide +kernel
theorem dX5_work_68 : decode cX5_work 68 = .ok (.iload 7, 2) := by decide +kernel
theorem dX5_work_70 : decode cX5_work 70 = .ok (.iload_n 3, 1) := by decide +kernel
theorem dX5_work_71 : decode cX5_work 71 = .ok (.invokevirtual 45, 3) := by decide +kernel
theorem dX5_work_74 : decode cX5_work 74 = .ok (.istore 8, 2) := by decide +kernel
theorem dX5_work_76 : decode cX5_work 76 = .ok (.iconst 0, 1) := by decide +kernel
theorem dX5_work_77 : decode cX5_work 77 = .ok (.istore 9, 2) := by decide +kernel
theorem dX5_work_79 : decode cX5_work 79 = .ok (.iconst 0, 1) := by decide +kernel
theorem dX5_work_80 : decode cX5_work 80 = .ok (.istore 10, 2) := by decide +kernel
theorem dX5_work_82 : decode cX5_work 82 = .ok (.iload 10, 2) := by decide +kernel
theorem dX5_work_84 : decode cX5_work 84 = .ok (.iload 8, 2) := by decide +kernel
theorem dX5_work_86 : decode cX5_work 86 = .ok (.if_icmp .ge 98, 3) := by decide +kernel
theorem dX5_work_184 : decode cX5_work 184 = .ok (.iload 9, 2) := by decide +kernel
theorem dX5_work_186 : decode cX5_work 186 = .ok (.ireturn, 1) := by decide +kernel
theorem dX5_work_89 : decode cX5_work 89 = .ok (.iload 9, 2) := by decide +kernel
theorem dX5_work_91 : decode cX5_work 91 = .ok (.ifCond .ne 93, 3) := by decide +kernel
theorem dX5_work_94 : decode cX5_work 94 = .ok (.aload_n 2, 1) := by decide +kernel
theorem dX5_work_95 : decode cX5_work 95 = .ok (.iload 7, 2) := by decide +kernel
theorem dX5_work_97 : decode cX5_work 97 = .ok (.iload_n 3, 1) := by decide +kernel
theorem dX5_work_98 : decode cX5_work 98 = .ok (.iload 10, 2) := by decide +kernel
theorem dX5_work_100 : decode cX5_work 100 = .ok (.invokevirtual 48, 3) := by decide +kernel
theorem dX5_work_103 : decode cX5_work 103 = .ok (.istore 11, 2) := by decide +kernel
theorem dX5_work_105 : decode cX5_work 105 = .ok (.iload 11, 2) := by decide +kernel
theorem dX5_work_107 : decode cX5_work 107 = .ok (.bipush 48, 2) := by decide +kernel
theorem dX5_work_109 : decode cX5_work 109 = .ok (.if_icmp .lt 24, 3) := by decide +kernel
theorem dX5_work_112 : decode cX5_work 112 = .ok (.iload 11, 2) := by decide +kernel
theorem dX5_work_114 : decode cX5_work 114 = .ok (.bipush 57, 2) := by decide +kernel
theorem dX5_work_116 : decode cX5_work 116 = .ok (.if_icmp .gt 17, 3) := by decide +kernel
theorem dX5_work_133 : decode cX5_work 133 = .ok (.iload 11, 2) := by decide +kernel
theorem dX5_work_135 : decode cX5_work 135 = .ok (.bipush 94, 2) := by decide +kernel
theorem dX5_work_137 : decode cX5_work 137 = .ok (.if_icmp .ne 23, 3) := by decide +kernel
theorem dX5_work_160 : decode cX5_work 160 = .ok (.aload_n 0, 1) := by decide +kernel
theorem dX5_work_161 : decode cX5_work 161 = .ok (.aload_n 1, 1) := by decide +kernel
theorem dX5_work_162 : decode cX5_work 162 = .ok (.aload_n 2, 1) := by decide +kernel
theorem dX5_work_163 : decode cX5_work 163 = .ok (.iload 11, 2) := by decide +kernel
theorem dX5_work_165 : decode cX5_work 165 = .ok (.bipush 97, 2) := by decide +kernel
theorem dX5_work_167 : decode cX5_work 167 = .ok (.isub, 1) := by decide +kernel
theorem dX5_work_168 : decode cX5_work 168 = .ok (.iconst 0, 1) := by decide +kernel
theorem dX5_work_169 : decode cX5_work 169 = .ok (.iload 5, 2) := by decide +kernel
theorem dX5_work_171 : decode cX5_work 171 = .ok (.iconst 1, 1) := by decide +kernel
theorem dX5_work_172 : decode cX5_work 172 = .ok (.iadd, 1) := by decide +kernel
theorem dX5_work_173 : decode cX5_work 173 = .ok (.invokevirtual 25, 3) := by decide +kernel
theorem dX5_work_176 : decode cX5_work 176 = .ok (.istore 9, 2) := by decide +kernel
theorem dX5_work_178 : decode cX5_work 178 = .ok (.iinc 10 1, 3) := by decide +kernel
theorem dX5_work_181 : decode cX5_work 181 = .ok (.goto (-99), 3) := by decide +kernel
theorem dX5_work_140 : decode cX5_work 140 = .ok (.aload_n 0, 1) := by decide +kernel
theorem dX5_work_141 : decode cX5_work 141 = .ok (.aload_n 1, 1) := by decide +kernel
theorem dX5_work_142 : decode cX5_work 142 = .ok (.aload_n 2, 1) := by decide +kernel
theorem dX5_work_143 : decode cX5_work 143 = .ok (.iload_n 3, 1) := by decide +kernel
theorem dX5_work_144 : decode cX5_work 144 = .ok (.iload 6, 2) := by decide +kernel
theorem dX5_work_146 : decode cX5_work 146 = .ok (.iconst 1, 1) := by decide +kernel
theorem dX5_work_147 : decode cX5_work 147 = .ok (.iadd, 1) := by decide +kernel
theorem dX5_work_148 : decode cX5_work 148 = .ok (.iload 5, 2) := by decide +kernel
theorem dX5_work_150 : decode cX5_work 150 = .ok (.iconst 1, 1) := by decide +kernel
theorem dX5_work_151 : decode cX5_work 151 = .ok (.iadd, 1) := by decide +kernel
theorem dX5_work_152 : decode cX5_work 152 = .ok (.invokevirtual 25, 3) := by decide +kernel
theorem dX5_work_155 : decode cX5_work 155 = .ok (.istore 9, 2) := by decide +kernel
theorem dX5_work_157 : decode cX5_work 157 = .ok (.goto 21, 3) := by decide +kernel
theorem dX5_work_119 : decode cX5_work 119 = .ok (.aload_n 0, 1) := by decide +kernel
theorem dX5_work_120 : decode cX5_work 120 = .ok (.iload 11, 2) := by decide +kernel
theorem dX5_work_122 : decode cX5_work 122 = .ok (.bipush 48, 2) := by decide +kernel
theorem dX5_work_124 : decode cX5_work 124 = .ok (.isub, 1) := by decide +kernel
theorem dX5_work_125 : decode cX5_work 125 = .ok (.invokevirtual 52, 3) := by decide +kernel
theorem dX5_work_128 : decode cX5_work 128 = .ok (.istore 9, 2) := by decide +kernel
theorem dX5_work_130 : decode cX5_work 130 = .ok (.goto 48, 3) := by decide +kernel
theorem dX5_start_0 : decode cX5_start 0 = .ok (.aload_n 0, 1) := by decide +kernel
theorem dX5_start_1 : decode cX5_start 1 = .ok (.iconst 0, 1) := by decide +kernel
theorem dX5_start_2 : decode cX5_start 2 = .ok (.putfield 15, 3) := by decide +kernel
theorem dX5_start_5 : decode cX5_start 5 = .ok (.aload_n 0, 1) := by decide +kernel
theorem dX5_start_6 : decode cX5_start 6 = .ok (.iconst 0, 1) := by decide +kernel
theorem dX5_start_7 : decode cX5_start 7 = .ok (.putfield 19, 3) := by decide +kernel
theorem dX5_start_10 : decode cX5_start 10 = .ok (.aload_n 0, 1) := by decide +kernel
theorem dX5_start_11 : decode cX5_start 11 = .ok (.iload_n 3, 1) := by decide +kernel
theorem dX5_start_12 : decode cX5_start 12 = .ok (.putfield 22, 3) := by decide +kernel
theorem dX5_start_15 : decode cX5_start 15 = .ok (.aload_n 0, 1) := by decide +kernel
theorem dX5_start_16 : decode cX5_start 16 = .ok (.aload_n 1, 1) := by decide +kernel
theorem dX5_start_17 : decode cX5_start 17 = .ok (.aload_n 2, 1) := by decide +kernel
theorem dX5_start_18 : decode cX5_start 18 = .ok (.iload 4, 2) := by decide +kernel
theorem dX5_start_20 : decode cX5_start 20 = .ok (.iconst 0, 1) := by decide +kernel
theorem dX5_start_21 : decode cX5_start 21 = .ok (.iconst 0, 1) := by decide +kernel
theorem dX5_start_22 : decode cX5_start 22 = .ok (.invokevirtual 25, 3) := by decide +kernel
theorem dX5_start_25 : decode cX5_start 25 = .ok (.ireturn, 1) := by decide +kernel
set_option maxHeartbeats 4000000 in
set_option maxRecDepth 100000 in
theorem c_digit (l : Launch) (dC : Nat → ClassId) (dI : Nat → Nat → Nat) (sz : Nat) (h0 : Nat) (u0 : Nat) (sd : Nat) (md : Int32) (ll : Int32) (ku0 : ClassId) (fd : Nat → Int32) (n : Int32) (hsd : sd ≤ 40) : Met l yX5_digit (wq yX5_digit cX5_digit 2 (some .int)) ({ frames := 0, cells := 0, slots := 0, locals := 0 }) (va_Pc [.ref h0, .int n] (pcW dC dI [(ku0, .int)] [(h0, .inr (5, [.ref u0, .int (nI sd), .int md, .int ll])), (u0, .inl (ku0, 40, .inl fd))] sz)) (va_Qi (fun (r : Int32) (_ : Unit) => r = dgF sd fd n) (fun _ _ => True) (fun q : Nat => sz ≤ q)) 0 0 (fun q : Nat => sz ≤ q) := by
  refine Met.ofW (cc := cX5_digit) (maxL := 2) (ret := (some .int)) (by decide) rfl ?_
  intro p e s m args below meth c s₁ B hml hv
  obtain ⟨rfl, hsz, hN, hP, hK, hD0⟩ := hv
  have hx := B.exec
  have hb := B.bytes
  have hr := B.returns
  have hts0 := atoms_spec (ws := (wq yX5_digit cX5_digit 2 (some .int))) B.pre
  have hts : ∀ w ∈ BG, w.before _ s = true := fun w h => hts0 w (List.mem_cons_of_mem _ h)
  have hown : s.vm.findClass RX5 = some m.cls := findClass_of_methodNamed B.named
  have hlocks := B.notSynchronized
  subst hsz
  have hA : ∀ q : Nat, s.heap.size ≤ q → (fun q : Nat => s.heap.size ≤ q) q := fun _ h => h
  have hD := hD0
  have hS : va_S (fun q : Nat => s.heap.size ≤ q) s.heap s.heap [] := va_S.rf
  have hP : va_P (dC, dI) vwCl [(h0, .inr (5, [.ref u0, .int (nI sd), .int md, .int ll])), (u0, .inl (ku0, 40, .inl fd))] s.heap := hP
  have hl := lv_entry ([.ref h0, .int n]) (n := 2) (Nat.le_of_ble_eq_true rfl)
  rw [lg_entry_eq]
  generalize (lg_sl ([.ref h0, .int n]) ++ List.replicate (2 - (lg_sl ([.ref h0, .int n])).length) Slot.unset).toArray = ls at hl ⊢
  have hl : lv_has ls 2 [(0, .ref h0), (1, .int n)] := hl
  refine lv_iload_n hx hb dX5_digit_0 rfl (lv_at hl 1 rfl) ?_
  refine lv_if_lt (tgt := 21) hx hb dX5_digit_1 (by decide) (fun c_1 => ?_) (fun c_1 => ?_)
  · have b_2 := gx_lt (X := (Int32.toInt n)) (C := 0) rfl (by decide) c_1
    refine lv_bipush (v := (-6)) hx hb dX5_digit_21 (by decide) ?_
    exact W.iret (v := (-6)) hx hb hr (fun t ht hW => ⟨⟨(-6), (), rfl, (by unfold dgF; rw [if_neg (by omega)]), trivial⟩, hS.F ht⟩) hS.2.2 dX5_digit_23
  · have b_2 := gn_lt (X := (Int32.toInt n)) (C := 0) rfl (by decide) c_1
    refine lv_iload_n hx hb dX5_digit_4 rfl (lv_at hl 1 rfl) ?_
    refine lv_aload_n hx hb dX5_digit_5 rfl (lv_at hl 0 rfl) ?_
    refine va_get (D := (dC, dI)) (ci := 5) (v := .int (nI sd)) (C := RX5) (T := TX5) (N := 4) hx hb hts inB_5 hown hK hP 0 rfl rfl 1 (by decide) (hts _ mw_1_109) (fun _ h9 => h9) rfl dX5_digit_6 ?_
    refine lv_icmp_ge (tgt := 21) hx hb dX5_digit_9 (by decide) (fun c_3 => ?_) (fun c_3 => ?_)
    · have b_4 := gx_ge (X := (Int32.toInt n)) (C := ((sd : Nat) : Int)) rfl (nI_toInt (by omega)) c_3
      refine lv_bipush (v := (-6)) hx hb dX5_digit_21 (by decide) ?_
      exact W.iret (v := (-6)) hx hb hr (fun t ht hW => ⟨⟨(-6), (), rfl, (by unfold dgF; rw [if_neg (by omega)]), trivial⟩, hS.F ht⟩) hS.2.2 dX5_digit_23
    · have b_4 := gn_ge (X := (Int32.toInt n)) (C := ((sd : Nat) : Int)) rfl (nI_toInt (by omega)) c_3
      obtain ⟨j_5, tj_5, ej_5⟩ := fx_nat (x := n) (by omega)
      subst ej_5
      have yj_5 : Int32.toInt (nI j_5) = (j_5 : Int) := nI_toInt tj_5
      refine lv_aload_n hx hb dX5_digit_12 rfl (lv_at hl 0 rfl) ?_
      refine va_get (D := (dC, dI)) (ci := 5) (v := .ref u0) (C := RX5) (T := TX5) (N := 4) hx hb hts inB_5 hown hK hP 0 rfl rfl 0 (by decide) (hts _ mw_1_108) (fun _ h9 => h9) rfl dX5_digit_13 ?_
      refine lv_iload_n hx hb dX5_digit_16 rfl (lv_at hl 1 rfl) ?_
      refine va_iald hx hb hK hP 1 0 rfl rfl (show vp_in (nI j_5) 40 from vp_in_nI (by omega) (by omega)) dX5_digit_17 ?_
      refine hx_top (y := (fd j_5)) (congrArg _ (nI_clamp (by omega))) ?_
      refine lv_goto (tgt := 23) hx hb dX5_digit_18 (by decide) ?_
      exact W.iret (v := (fd j_5)) hx hb hr (fun t ht hW => ⟨⟨(fd j_5), (), rfl, (by unfold dgF; rw [if_pos (by omega), nI_clamp (by omega)]), trivial⟩, hS.F ht⟩) hS.2.2 dX5_digit_23
set_option maxHeartbeats 4000000 in
set_option maxRecDepth 100000 in
theorem c_howSaid (l : Launch) (dC : Nat → ClassId) (dI : Nat → Nat → Nat) (sz : Nat) (h0 : Nat) (u0 : Nat) (sd : Nat) (md : Int32) (ll : Int32) (ku0 : ClassId) (fd : Nat → Int32)  : Met l yX5_howManySaid (wq yX5_howManySaid cX5_howManySaid 1 (some .int)) ({ frames := 0, cells := 0, slots := 0, locals := 0 }) (va_Pc [.ref h0] (pcW dC dI [(ku0, .int)] [(h0, .inr (5, [.ref u0, .int (nI sd), .int md, .int ll])), (u0, .inl (ku0, 40, .inl fd))] sz)) (va_Qi (fun (r : Int32) (_ : Unit) => r = nI sd) (fun _ _ => True) (fun q : Nat => sz ≤ q)) 0 0 (fun q : Nat => sz ≤ q) := by
  refine Met.ofW (cc := cX5_howManySaid) (maxL := 1) (ret := (some .int)) (by decide) rfl ?_
  intro p e s m args below meth c s₁ B hml hv
  obtain ⟨rfl, hsz, hN, hP, hK, hD0⟩ := hv
  have hx := B.exec
  have hb := B.bytes
  have hr := B.returns
  have hts0 := atoms_spec (ws := (wq yX5_howManySaid cX5_howManySaid 1 (some .int))) B.pre
  have hts : ∀ w ∈ BG, w.before _ s = true := fun w h => hts0 w (List.mem_cons_of_mem _ h)
  have hown : s.vm.findClass RX5 = some m.cls := findClass_of_methodNamed B.named
  have hlocks := B.notSynchronized
  subst hsz
  have hA : ∀ q : Nat, s.heap.size ≤ q → (fun q : Nat => s.heap.size ≤ q) q := fun _ h => h
  have hD := hD0
  have hS : va_S (fun q : Nat => s.heap.size ≤ q) s.heap s.heap [] := va_S.rf
  have hP : va_P (dC, dI) vwCl [(h0, .inr (5, [.ref u0, .int (nI sd), .int md, .int ll])), (u0, .inl (ku0, 40, .inl fd))] s.heap := hP
  have hl := lv_entry ([.ref h0]) (n := 1) (Nat.le_of_ble_eq_true rfl)
  rw [lg_entry_eq]
  generalize (lg_sl ([.ref h0]) ++ List.replicate (1 - (lg_sl ([.ref h0])).length) Slot.unset).toArray = ls at hl ⊢
  have hl : lv_has ls 1 [(0, .ref h0)] := hl
  refine lv_aload_n hx hb dX5_howManySaid_0 rfl (lv_at hl 0 rfl) ?_
  refine va_get (D := (dC, dI)) (ci := 5) (v := .int (nI sd)) (C := RX5) (T := TX5) (N := 4) hx hb hts inB_5 hown hK hP 0 rfl rfl 1 (by decide) (hts _ mw_1_109) (fun _ h9 => h9) rfl dX5_howManySaid_1 ?_
  exact W.iret (v := (nI sd)) hx hb hr (fun t ht hW => ⟨⟨(nI sd), (), rfl, rfl, trivial⟩, hS.F ht⟩) hS.2.2 dX5_howManySaid_4
set_option maxHeartbeats 4000000 in
set_option maxRecDepth 100000 in
theorem c_sayD (l : Launch) (dC : Nat → ClassId) (dI : Nat → Nat → Nat) (sz : Nat) (h0 : Nat) (u0 : Nat) (sd : Nat) (md : Nat) (kq : Nat) (ku0 : ClassId) (fd : Nat → Int32) (n : Int32) (hsd : sd ≤ 40) : Met l yX5_sayDigit (wq yX5_sayDigit cX5_sayDigit 2 (some .int)) ({ frames := 0, cells := 0, slots := 0, locals := 0 }) (va_Pc [.ref h0, .int n] (pcW dC dI [(ku0, .int)] [(h0, .inr (5, [.ref u0, .int (nI sd), .int (nI md), .int (nI kq)])), (u0, .inl (ku0, 40, .inl fd))] sz)) (va_Qi (fun (r : Int32) (_ : Unit) => r = sayR sd) (fun _ t => ∃ (sd2 : Nat) (fd2 : Nat → Int32), (sd2 ≤ 40) ∧ (sd2 = sayN sd) ∧ (fd2 = sayD sd fd n) ∧ va_P (dC, dI) vwCl [(h0, .inr (5, [.ref u0, .int (nI sd2), .int (nI md), .int (nI kq)])), (u0, .inl (ku0, 40, .inl fd2))] t.heap ∧ va_K (dC, dI) vwCl [(ku0, .int)] t ∧ va_D (va_A [(h0, .inr (5, [.ref u0, .int (nI sd), .int (nI md), .int (nI kq)])), (u0, .inl (ku0, 40, .inl fd))] sz) [(h0, .inr (5, [.ref u0, .int (nI sd2), .int (nI md), .int (nI kq)])), (u0, .inl (ku0, 40, .inl fd2))]) (va_A [(h0, .inr (5, [.ref u0, .int (nI sd), .int (nI md), .int (nI kq)])), (u0, .inl (ku0, 40, .inl fd))] sz)) 0 0 (va_A [(h0, .inr (5, [.ref u0, .int (nI sd), .int (nI md), .int (nI kq)])), (u0, .inl (ku0, 40, .inl fd))] sz) := by
  refine Met.ofW (cc := cX5_sayDigit) (maxL := 2) (ret := (some .int)) (by decide) rfl ?_
  intro p e s m args below meth c s₁ B hml hv
  obtain ⟨rfl, hsz, hN, hP, hK, hD0⟩ := hv
  have hx := B.exec
  have hb := B.bytes
  have hr := B.returns
  have hts0 := atoms_spec (ws := (wq yX5_sayDigit cX5_sayDigit 2 (some .int))) B.pre
  have hts : ∀ w ∈ BG, w.before _ s = true := fun w h => hts0 w (List.mem_cons_of_mem _ h)
  have hown : s.vm.findClass RX5 = some m.cls := findClass_of_methodNamed B.named
  have hlocks := B.notSynchronized
  subst hsz
  have hD := hD0.self (sz := s.heap.size)
  generalize hAe : va_A [(h0, .inr (5, [.ref u0, .int (nI sd), .int (nI md), .int (nI kq)])), (u0, .inl (ku0, 40, .inl fd))] s.heap.size = A at hD ⊢
  have hA : ∀ q : Nat, s.heap.size ≤ q → A q := fun q h => by rw [← hAe]; exact Or.inr h
  have hS : va_S A s.heap s.heap [] := va_S.rf
  clear hAe hD0
  have hP : va_P (dC, dI) vwCl [(h0, .inr (5, [.ref u0, .int (nI sd), .int (nI md), .int (nI kq)])), (u0, .inl (ku0, 40, .inl fd))] s.heap := hP
  have hl := lv_entry ([.ref h0, .int n]) (n := 2) (Nat.le_of_ble_eq_true rfl)
  rw [lg_entry_eq]
  generalize (lg_sl ([.ref h0, .int n]) ++ List.replicate (2 - (lg_sl ([.ref h0, .int n])).length) Slot.unset).toArray = ls at hl ⊢
  have hl : lv_has ls 2 [(0, .ref h0), (1, .int n)] := hl
  refine lv_aload_n hx hb dX5_sayDigit_0 rfl (lv_at hl 0 rfl) ?_
  refine va_get (D := (dC, dI)) (ci := 5) (v := .int (nI sd)) (C := RX5) (T := TX5) (N := 4) hx hb hts inB_5 hown hK hP 0 rfl rfl 1 (by decide) (hts _ mw_1_109) (fun _ h9 => h9) rfl dX5_sayDigit_1 ?_
  refine lv_bipush (v := 40) hx hb dX5_sayDigit_4 (by decide) ?_
  refine lv_icmp_lt (tgt := 11) hx hb dX5_sayDigit_6 (by decide) (fun c_1 => ?_) (fun c_1 => ?_)
  · have b_2 := gx_lt (X := ((sd : Nat) : Int)) (C := 40) (nI_toInt (by omega)) (by decide) c_1
    refine lv_aload_n hx hb dX5_sayDigit_11 rfl (lv_at hl 0 rfl) ?_
    refine va_get (D := (dC, dI)) (ci := 5) (v := .ref u0) (C := RX5) (T := TX5) (N := 4) hx hb hts inB_5 hown hK hP 0 rfl rfl 0 (by decide) (hts _ mw_1_108) (fun _ h9 => h9) rfl dX5_sayDigit_12 ?_
    refine lv_aload_n hx hb dX5_sayDigit_15 rfl (lv_at hl 0 rfl) ?_
    refine va_get (D := (dC, dI)) (ci := 5) (v := .int (nI sd)) (C := RX5) (T := TX5) (N := 4) hx hb hts inB_5 hown hK hP 0 rfl rfl 1 (by decide) (hts _ mw_1_109) (fun _ h9 => h9) rfl dX5_sayDigit_16 ?_
    refine lv_iload_n hx hb dX5_sayDigit_19 rfl (lv_at hl 1 rfl) ?_
    refine va_iast hx hb hK hP hD hS 1 0 rfl rfl (show vp_in (nI sd) 40 from vp_in_nI (by omega) (by omega)) dX5_sayDigit_20 (fun H locs hP hD hS => ?_)
    obtain ⟨f_3, ef_3⟩ : ∃ g : Nat → Int32, g = upd fd (Int32.toNatClampNeg (nI sd)) n := ⟨_, rfl⟩
    rw [← ef_3] at hP hD
    have ef_3 : f_3 = upd fd sd n := by rw [ef_3, nI_clamp (by omega)]
    have hP : va_P (dC, dI) vwCl [(h0, .inr (5, [.ref u0, .int (nI sd), .int (nI md), .int (nI kq)])), (u0, .inl (ku0, 40, .inl f_3))] H := hP
    have hD : va_D A [(h0, .inr (5, [.ref u0, .int (nI sd), .int (nI md), .int (nI kq)])), (u0, .inl (ku0, 40, .inl f_3))] := hD
    refine lv_aload_n hx hb dX5_sayDigit_21 rfl (lv_at hl 0 rfl) ?_
    refine lv_dup hx hb dX5_sayDigit_22 rfl ?_
    refine va_get (D := (dC, dI)) (ci := 5) (v := .int (nI sd)) (C := RX5) (T := TX5) (N := 4) hx hb hts inB_5 hown hK hP 0 rfl rfl 1 (by decide) (hts _ mw_1_109) (fun _ h9 => h9) rfl dX5_sayDigit_23 ?_
    refine lv_iconst (v := 1) hx hb dX5_sayDigit_26 (by decide) ?_
    refine lv_iadd hx hb dX5_sayDigit_27 ?_
    refine hx_top (y := (nI (sd + 1))) (nI_add sd 1) ?_
    refine va_put (D := (dC, dI)) (ci := 5) (v := .int (nI (sd + 1))) (ty := .int) (C := RX5) (T := TX5) (N := 4) hx hb hts inB_5 tyX5 tyX5_ok nmX5 hown hK hP hD hS 0 rfl rfl 1 (by decide) (hts _ mw_1_109) (fun _ h9 => h9) rfl (by decide +kernel) rfl rfl (Nat.le_of_ble_eq_true rfl) dX5_sayDigit_28 (fun H locs hP hD hS => ?_)
    have hP : va_P (dC, dI) vwCl [(h0, .inr (5, [.ref u0, .int (nI (sd + 1)), .int (nI md), .int (nI kq)])), (u0, .inl (ku0, 40, .inl f_3))] H := hP
    have hD : va_D A [(h0, .inr (5, [.ref u0, .int (nI (sd + 1)), .int (nI md), .int (nI kq)])), (u0, .inl (ku0, 40, .inl f_3))] := hD
    refine lv_iconst (v := 0) hx hb dX5_sayDigit_31 (by decide) ?_
    have hP9 := hP.sub (ws' := [(h0, .inr (5, [.ref u0, .int (nI (sd + 1)), .int (nI md), .int (nI kq)])), (u0, .inl (ku0, 40, .inl f_3))]) [0, 1] rfl
    have hD9 := hD.sub (ws' := [(h0, .inr (5, [.ref u0, .int (nI (sd + 1)), .int (nI md), .int (nI kq)])), (u0, .inl (ku0, 40, .inl f_3))]) [0, 1] (by decide) rfl
    have hK9 := hK.sub (tys' := [(ku0, .int)]) [0] rfl
    exact W.iret (v := 0) hx hb hr (fun t ht hW => ⟨⟨0, (), rfl, (by (unfold sayR; repeat' split) <;> first | rfl | assumption | (exfalso; omega)), (sd + 1), f_3, (by omega), (by (unfold sayN; repeat' split) <;> first | rfl | assumption | (exfalso; omega)), (by (unfold sayD; repeat' split) <;> first | rfl | assumption | (exfalso; omega)), by rw [ht]; exact hP9, va_K.moved hW.alike hK9, hD9⟩, hS.F ht⟩) hS.2.2 dX5_sayDigit_32
  · have b_2 := gn_lt (X := ((sd : Nat) : Int)) (C := 40) (nI_toInt (by omega)) (by decide) c_1
    refine lv_iconst (v := 2) hx hb dX5_sayDigit_9 (by decide) ?_
    have hP9 := hP.sub (ws' := [(h0, .inr (5, [.ref u0, .int (nI sd), .int (nI md), .int (nI kq)])), (u0, .inl (ku0, 40, .inl fd))]) [0, 1] rfl
    have hD9 := hD.sub (ws' := [(h0, .inr (5, [.ref u0, .int (nI sd), .int (nI md), .int (nI kq)])), (u0, .inl (ku0, 40, .inl fd))]) [0, 1] (by decide) rfl
    have hK9 := hK.sub (tys' := [(ku0, .int)]) [0] rfl
    exact W.iret (v := 2) hx hb hr (fun t ht hW => ⟨⟨2, (), rfl, (by (unfold sayR; repeat' split) <;> first | rfl | assumption | (exfalso; omega)), sd, fd, hsd, (by (unfold sayN; repeat' split) <;> first | rfl | assumption | (exfalso; omega)), (by (unfold sayD; repeat' split) <;> first | rfl | assumption | (exfalso; omega)), by rw [ht]; exact hP9, va_K.moved hW.alike hK9, hD9⟩, hS.F ht⟩) hS.2.2 dX5_sayDigit_10
set_option maxHeartbeats 4000000 in
set_option maxRecDepth 100000 in
theorem c_work9 (l : Launch) (dC : Nat → ClassId) (dI : Nat → Nat → Nat) (sz : Nat) (h0 : Nat) (u0 : Nat) (sd : Nat) (md : Nat) (kq : Nat) (ku0 : ClassId) (fd : Nat → Int32) (p1 : Nat) (w0 : Value) (b1 : Nat) (w2 : Value) (b3 : Nat) (w4 : Value) (w5 : Value) (cn : Nat) (w7 : Value) (kb1 : ClassId) (fle : Nat → Int32) (kb3 : ClassId) (fli : Nat → Int32) (p3 : Nat) (e0 : Nat) (e1 : Nat) (e2 : Nat) (ke0 : ClassId) (fo : Nat → Int32) (ke1 : ClassId) (fbl : Nat → Int32) (ke2 : ClassId) (fbs : Nat → Int32) (nq : Nat) (fm : Nat) (hsd : sd ≤ 40) (hc : cn ≤ 10) (hle : BdOk 10 10 fle) (hbl : BdOk 80 12 fbl) (hbs : ChOk fbs) (hlk : LnOk fle fli cn) (hkq : kq < cn) (hnq : nq < 8) (hfm : fm ≤ 10) (hmd : md ≤ 200) (hcv : CvOk fbl fbs) : Met l yX5_work (wq yX5_work cX5_work 12 (some .int)) ({ frames := 0, cells := 0, slots := 0, locals := 0 }) (va_Pc [.ref h0, .ref p1, .ref p3, .int (nI nq), .int (nI fm), .int 9] (pcW dC dI [(ku0, .int), (kb1, .int), (kb3, .int), (ke0, .int), (ke1, .int), (ke2, .char)] [(h0, .inr (5, [.ref u0, .int (nI sd), .int (nI md), .int (nI kq)])), (u0, .inl (ku0, 40, .inl fd)), (p1, .inr (1, [w0, .ref b1, w2, .ref b3, w4, w5, .int (nI cn), w7])), (b1, .inl (kb1, 10, .inl fle)), (b3, .inl (kb3, 100, .inl fli)), (p3, .inr (0, [.ref e0, .ref e1, .ref e2])), (e0, .inl (ke0, 8, .inl fo)), (e1, .inl (ke1, 80, .inl fbl)), (e2, .inl (ke2, 960, .inl fbs))] sz)) (va_Qi (fun (r : Int32) (_ : Unit) => r = (wdC fle fli fo fbl fbs cn kq 0 nq fm (md, sd, fd)).1) (fun _ t => ∃ (sd2 : Nat) (md2 : Nat) (fd2 : Nat → Int32), (sd2 ≤ 40) ∧ (md2 ≤ 200) ∧ ((md2, sd2, fd2) = (wdC fle fli fo fbl fbs cn kq 0 nq fm (md, sd, fd)).2) ∧ va_P (dC, dI) vwCl [(h0, .inr (5, [.ref u0, .int (nI sd2), .int (nI md2), .int (nI kq)])), (u0, .inl (ku0, 40, .inl fd2)), (p1, .inr (1, [w0, .ref b1, w2, .ref b3, w4, w5, .int (nI cn), w7])), (b1, .inl (kb1, 10, .inl fle)), (b3, .inl (kb3, 100, .inl fli)), (p3, .inr (0, [.ref e0, .ref e1, .ref e2])), (e0, .inl (ke0, 8, .inl fo)), (e1, .inl (ke1, 80, .inl fbl)), (e2, .inl (ke2, 960, .inl fbs))] t.heap ∧ va_K (dC, dI) vwCl [(ku0, .int), (kb1, .int), (kb3, .int), (ke0, .int), (ke1, .int), (ke2, .char)] t ∧ va_D (va_A [(h0, .inr (5, [.ref u0, .int (nI sd), .int (nI md), .int (nI kq)])), (u0, .inl (ku0, 40, .inl fd)), (p1, .inr (1, [w0, .ref b1, w2, .ref b3, w4, w5, .int (nI cn), w7])), (b1, .inl (kb1, 10, .inl fle)), (b3, .inl (kb3, 100, .inl fli)), (p3, .inr (0, [.ref e0, .ref e1, .ref e2])), (e0, .inl (ke0, 8, .inl fo)), (e1, .inl (ke1, 80, .inl fbl)), (e2, .inl (ke2, 960, .inl fbs))] sz) [(h0, .inr (5, [.ref u0, .int (nI sd2), .int (nI md2), .int (nI kq)])), (u0, .inl (ku0, 40, .inl fd2)), (p1, .inr (1, [w0, .ref b1, w2, .ref b3, w4, w5, .int (nI cn), w7])), (b1, .inl (kb1, 10, .inl fle)), (b3, .inl (kb3, 100, .inl fli)), (p3, .inr (0, [.ref e0, .ref e1, .ref e2])), (e0, .inl (ke0, 8, .inl fo)), (e1, .inl (ke1, 80, .inl fbl)), (e2, .inl (ke2, 960, .inl fbs))]) (va_A [(h0, .inr (5, [.ref u0, .int (nI sd), .int (nI md), .int (nI kq)])), (u0, .inl (ku0, 40, .inl fd)), (p1, .inr (1, [w0, .ref b1, w2, .ref b3, w4, w5, .int (nI cn), w7])), (b1, .inl (kb1, 10, .inl fle)), (b3, .inl (kb3, 100, .inl fli)), (p3, .inr (0, [.ref e0, .ref e1, .ref e2])), (e0, .inl (ke0, 8, .inl fo)), (e1, .inl (ke1, 80, .inl fbl)), (e2, .inl (ke2, 960, .inl fbs))] sz)) 0 0 (va_A [(h0, .inr (5, [.ref u0, .int (nI sd), .int (nI md), .int (nI kq)])), (u0, .inl (ku0, 40, .inl fd)), (p1, .inr (1, [w0, .ref b1, w2, .ref b3, w4, w5, .int (nI cn), w7])), (b1, .inl (kb1, 10, .inl fle)), (b3, .inl (kb3, 100, .inl fli)), (p3, .inr (0, [.ref e0, .ref e1, .ref e2])), (e0, .inl (ke0, 8, .inl fo)), (e1, .inl (ke1, 80, .inl fbl)), (e2, .inl (ke2, 960, .inl fbs))] sz) := by
  refine Met.ofW (cc := cX5_work) (maxL := 12) (ret := (some .int)) (by decide) rfl ?_
  intro p e s m args below meth c s₁ B hml hv
  obtain ⟨rfl, hsz, hN, hP, hK, hD0⟩ := hv
  have hx := B.exec
  have hb := B.bytes
  have hr := B.returns
  have hts0 := atoms_spec (ws := (wq yX5_work cX5_work 12 (some .int))) B.pre
  have hts : ∀ w ∈ BG, w.before _ s = true := fun w h => hts0 w (List.mem_cons_of_mem _ h)
  have hown : s.vm.findClass RX5 = some m.cls := findClass_of_methodNamed B.named
  have hlocks := B.notSynchronized
  subst hsz
  have hD := hD0.self (sz := s.heap.size)
  generalize hAe : va_A [(h0, .inr (5, [.ref u0, .int (nI sd), .int (nI md), .int (nI kq)])), (u0, .inl (ku0, 40, .inl fd)), (p1, .inr (1, [w0, .ref b1, w2, .ref b3, w4, w5, .int (nI cn), w7])), (b1, .inl (kb1, 10, .inl fle)), (b3, .inl (kb3, 100, .inl fli)), (p3, .inr (0, [.ref e0, .ref e1, .ref e2])), (e0, .inl (ke0, 8, .inl fo)), (e1, .inl (ke1, 80, .inl fbl)), (e2, .inl (ke2, 960, .inl fbs))] s.heap.size = A at hD ⊢
  have hA : ∀ q : Nat, s.heap.size ≤ q → A q := fun q h => by rw [← hAe]; exact Or.inr h
  have hS : va_S A s.heap s.heap [] := va_S.rf
  clear hAe hD0
  have hP : va_P (dC, dI) vwCl [(h0, .inr (5, [.ref u0, .int (nI sd), .int (nI md), .int (nI kq)])), (u0, .inl (ku0, 40, .inl fd)), (p1, .inr (1, [w0, .ref b1, w2, .ref b3, w4, w5, .int (nI cn), w7])), (b1, .inl (kb1, 10, .inl fle)), (b3, .inl (kb3, 100, .inl fli)), (p3, .inr (0, [.ref e0, .ref e1, .ref e2])), (e0, .inl (ke0, 8, .inl fo)), (e1, .inl (ke1, 80, .inl fbl)), (e2, .inl (ke2, 960, .inl fbs))] s.heap := hP
  have hl := lv_entry ([.ref h0, .ref p1, .ref p3, .int (nI nq), .int (nI fm), .int 9]) (n := 12) (Nat.le_of_ble_eq_true rfl)
  rw [lg_entry_eq]
  generalize (lg_sl ([.ref h0, .ref p1, .ref p3, .int (nI nq), .int (nI fm), .int 9]) ++ List.replicate (12 - (lg_sl ([.ref h0, .ref p1, .ref p3, .int (nI nq), .int (nI fm), .int 9])).length) Slot.unset).toArray = ls at hl ⊢
  have hl : lv_has ls 12 [(0, .ref h0), (1, .ref p1), (2, .ref p3), (3, .int (nI nq)), (4, .int (nI fm)), (5, .int 9)] := hl
  have hle9 := lenN_le (n := nI kq) hc hle
  refine lv_iload hx hb dX5_work_0 (lv_at hl 5 rfl) ?_
  refine lv_bipush (v := 9) hx hb dX5_work_2 (by decide) ?_
  refine lv_icmp_ge (tgt := 17) hx hb dX5_work_4 (by decide) (fun _ => ?_) (fun h => absurd (by decide) h)
  refine lv_iconst (v := 2) hx hb dX5_work_17 (by decide) ?_
  have hP9 := hP.sub (ws' := [(h0, .inr (5, [.ref u0, .int (nI sd), .int (nI md), .int (nI kq)])), (u0, .inl (ku0, 40, .inl fd)), (p1, .inr (1, [w0, .ref b1, w2, .ref b3, w4, w5, .int (nI cn), w7])), (b1, .inl (kb1, 10, .inl fle)), (b3, .inl (kb3, 100, .inl fli)), (p3, .inr (0, [.ref e0, .ref e1, .ref e2])), (e0, .inl (ke0, 8, .inl fo)), (e1, .inl (ke1, 80, .inl fbl)), (e2, .inl (ke2, 960, .inl fbs))]) [0, 1, 2, 3, 4, 5, 6, 7, 8] rfl
  have hD9 := hD.sub (ws' := [(h0, .inr (5, [.ref u0, .int (nI sd), .int (nI md), .int (nI kq)])), (u0, .inl (ku0, 40, .inl fd)), (p1, .inr (1, [w0, .ref b1, w2, .ref b3, w4, w5, .int (nI cn), w7])), (b1, .inl (kb1, 10, .inl fle)), (b3, .inl (kb3, 100, .inl fli)), (p3, .inr (0, [.ref e0, .ref e1, .ref e2])), (e0, .inl (ke0, 8, .inl fo)), (e1, .inl (ke1, 80, .inl fbl)), (e2, .inl (ke2, 960, .inl fbs))]) [0, 1, 2, 3, 4, 5, 6, 7, 8] (by decide) rfl
  have hK9 := hK.sub (tys' := [(ku0, .int), (kb1, .int), (kb3, .int), (ke0, .int), (ke1, .int), (ke2, .char)]) [0, 1, 2, 3, 4, 5] rfl
  exact W.iret (v := 2) hx hb hr (fun t ht hW => ⟨⟨2, (), rfl, (r4 (wd_fuC (d := 0) (Or.inl rfl))).1, sd, md, fd, hsd, hmd, (Prod.ext (r4 (wd_fuC (d := 0) (Or.inl rfl))).2.1 (Prod.ext (r4 (wd_fuC (d := 0) (Or.inl rfl))).2.2.1 (r4 (wd_fuC (d := 0) (Or.inl rfl))).2.2.2)), by rw [ht]; exact hP9, va_K.moved hW.alike hK9, hD9⟩, hS.F ht⟩) hS.2.2 dX5_work_18
set_option maxHeartbeats 4000000 in
set_option maxRecDepth 100000 in
theorem c_work8 (l : Launch) (dC : Nat → ClassId) (dI : Nat → Nat → Nat) (sz : Nat) (h0 : Nat) (u0 : Nat) (sd : Nat) (md : Nat) (kq : Nat) (ku0 : ClassId) (fd : Nat → Int32) (p1 : Nat) (w0 : Value) (b1 : Nat) (w2 : Value) (b3 : Nat) (w4 : Value) (w5 : Value) (cn : Nat) (w7 : Value) (kb1 : ClassId) (fle : Nat → Int32) (kb3 : ClassId) (fli : Nat → Int32) (p3 : Nat) (e0 : Nat) (e1 : Nat) (e2 : Nat) (ke0 : ClassId) (fo : Nat → Int32) (ke1 : ClassId) (fbl : Nat → Int32) (ke2 : ClassId) (fbs : Nat → Int32) (nq : Nat) (fm : Nat) (hsd : sd ≤ 40) (hc : cn ≤ 10) (hle : BdOk 10 10 fle) (hbl : BdOk 80 12 fbl) (hbs : ChOk fbs) (hlk : LnOk fle fli cn) (hkq : kq < cn) (hnq : nq < 8) (hfm : fm ≤ 10) (hmd : md ≤ 200) (hcv : CvOk fbl fbs) : Met l yX5_work (wq yX5_work cX5_work 12 (some .int)) ({ frames := 4, cells := 0, slots := 0, locals := 86 }) (va_Pc [.ref h0, .ref p1, .ref p3, .int (nI nq), .int (nI fm), .int 8] (pcW dC dI [(ku0, .int), (kb1, .int), (kb3, .int), (ke0, .int), (ke1, .int), (ke2, .char)] [(h0, .inr (5, [.ref u0, .int (nI sd), .int (nI md), .int (nI kq)])), (u0, .inl (ku0, 40, .inl fd)), (p1, .inr (1, [w0, .ref b1, w2, .ref b3, w4, w5, .int (nI cn), w7])), (b1, .inl (kb1, 10, .inl fle)), (b3, .inl (kb3, 100, .inl fli)), (p3, .inr (0, [.ref e0, .ref e1, .ref e2])), (e0, .inl (ke0, 8, .inl fo)), (e1, .inl (ke1, 80, .inl fbl)), (e2, .inl (ke2, 960, .inl fbs))] sz)) (va_Qi (fun (r : Int32) (_ : Unit) => r = (wdC fle fli fo fbl fbs cn kq 1 nq fm (md, sd, fd)).1) (fun _ t => ∃ (sd2 : Nat) (md2 : Nat) (fd2 : Nat → Int32), (sd2 ≤ 40) ∧ (md2 ≤ 200) ∧ ((md2, sd2, fd2) = (wdC fle fli fo fbl fbs cn kq 1 nq fm (md, sd, fd)).2) ∧ va_P (dC, dI) vwCl [(h0, .inr (5, [.ref u0, .int (nI sd2), .int (nI md2), .int (nI kq)])), (u0, .inl (ku0, 40, .inl fd2)), (p1, .inr (1, [w0, .ref b1, w2, .ref b3, w4, w5, .int (nI cn), w7])), (b1, .inl (kb1, 10, .inl fle)), (b3, .inl (kb3, 100, .inl fli)), (p3, .inr (0, [.ref e0, .ref e1, .ref e2])), (e0, .inl (ke0, 8, .inl fo)), (e1, .inl (ke1, 80, .inl fbl)), (e2, .inl (ke2, 960, .inl fbs))] t.heap ∧ va_K (dC, dI) vwCl [(ku0, .int), (kb1, .int), (kb3, .int), (ke0, .int), (ke1, .int), (ke2, .char)] t ∧ va_D (va_A [(h0, .inr (5, [.ref u0, .int (nI sd), .int (nI md), .int (nI kq)])), (u0, .inl (ku0, 40, .inl fd)), (p1, .inr (1, [w0, .ref b1, w2, .ref b3, w4, w5, .int (nI cn), w7])), (b1, .inl (kb1, 10, .inl fle)), (b3, .inl (kb3, 100, .inl fli)), (p3, .inr (0, [.ref e0, .ref e1, .ref e2])), (e0, .inl (ke0, 8, .inl fo)), (e1, .inl (ke1, 80, .inl fbl)), (e2, .inl (ke2, 960, .inl fbs))] sz) [(h0, .inr (5, [.ref u0, .int (nI sd2), .int (nI md2), .int (nI kq)])), (u0, .inl (ku0, 40, .inl fd2)), (p1, .inr (1, [w0, .ref b1, w2, .ref b3, w4, w5, .int (nI cn), w7])), (b1, .inl (kb1, 10, .inl fle)), (b3, .inl (kb3, 100, .inl fli)), (p3, .inr (0, [.ref e0, .ref e1, .ref e2])), (e0, .inl (ke0, 8, .inl fo)), (e1, .inl (ke1, 80, .inl fbl)), (e2, .inl (ke2, 960, .inl fbs))]) (va_A [(h0, .inr (5, [.ref u0, .int (nI sd), .int (nI md), .int (nI kq)])), (u0, .inl (ku0, 40, .inl fd)), (p1, .inr (1, [w0, .ref b1, w2, .ref b3, w4, w5, .int (nI cn), w7])), (b1, .inl (kb1, 10, .inl fle)), (b3, .inl (kb3, 100, .inl fli)), (p3, .inr (0, [.ref e0, .ref e1, .ref e2])), (e0, .inl (ke0, 8, .inl fo)), (e1, .inl (ke1, 80, .inl fbl)), (e2, .inl (ke2, 960, .inl fbs))] sz)) 0 0 (va_A [(h0, .inr (5, [.ref u0, .int (nI sd), .int (nI md), .int (nI kq)])), (u0, .inl (ku0, 40, .inl fd)), (p1, .inr (1, [w0, .ref b1, w2, .ref b3, w4, w5, .int (nI cn), w7])), (b1, .inl (kb1, 10, .inl fle)), (b3, .inl (kb3, 100, .inl fli)), (p3, .inr (0, [.ref e0, .ref e1, .ref e2])), (e0, .inl (ke0, 8, .inl fo)), (e1, .inl (ke1, 80, .inl fbl)), (e2, .inl (ke2, 960, .inl fbs))] sz) := by
  refine Met.ofW (cc := cX5_work) (maxL := 12) (ret := (some .int)) (by decide) rfl ?_
  intro p e s m args below meth c s₁ B hml hv
  obtain ⟨rfl, hsz, hN, hP, hK, hD0⟩ := hv
  have hx := B.exec
  have hb := B.bytes
  have hr := B.returns
  have hts0 := atoms_spec (ws := (wq yX5_work cX5_work 12 (some .int))) B.pre
  have hts : ∀ w ∈ BG, w.before _ s = true := fun w h => hts0 w (List.mem_cons_of_mem _ h)
  have hown : s.vm.findClass RX5 = some m.cls := findClass_of_methodNamed B.named
  have hlocks := B.notSynchronized
  subst hsz
  have hD := hD0.self (sz := s.heap.size)
  generalize hAe : va_A [(h0, .inr (5, [.ref u0, .int (nI sd), .int (nI md), .int (nI kq)])), (u0, .inl (ku0, 40, .inl fd)), (p1, .inr (1, [w0, .ref b1, w2, .ref b3, w4, w5, .int (nI cn), w7])), (b1, .inl (kb1, 10, .inl fle)), (b3, .inl (kb3, 100, .inl fli)), (p3, .inr (0, [.ref e0, .ref e1, .ref e2])), (e0, .inl (ke0, 8, .inl fo)), (e1, .inl (ke1, 80, .inl fbl)), (e2, .inl (ke2, 960, .inl fbs))] s.heap.size = A at hD ⊢
  have hA : ∀ q : Nat, s.heap.size ≤ q → A q := fun q h => by rw [← hAe]; exact Or.inr h
  have hS : va_S A s.heap s.heap [] := va_S.rf
  clear hAe hD0
  have hP : va_P (dC, dI) vwCl [(h0, .inr (5, [.ref u0, .int (nI sd), .int (nI md), .int (nI kq)])), (u0, .inl (ku0, 40, .inl fd)), (p1, .inr (1, [w0, .ref b1, w2, .ref b3, w4, w5, .int (nI cn), w7])), (b1, .inl (kb1, 10, .inl fle)), (b3, .inl (kb3, 100, .inl fli)), (p3, .inr (0, [.ref e0, .ref e1, .ref e2])), (e0, .inl (ke0, 8, .inl fo)), (e1, .inl (ke1, 80, .inl fbl)), (e2, .inl (ke2, 960, .inl fbs))] s.heap := hP
  have hl := lv_entry ([.ref h0, .ref p1, .ref p3, .int (nI nq), .int (nI fm), .int 8]) (n := 12) (Nat.le_of_ble_eq_true rfl)
  rw [lg_entry_eq]
  generalize (lg_sl ([.ref h0, .ref p1, .ref p3, .int (nI nq), .int (nI fm), .int 8]) ++ List.replicate (12 - (lg_sl ([.ref h0, .ref p1, .ref p3, .int (nI nq), .int (nI fm), .int 8])).length) Slot.unset).toArray = ls at hl ⊢
  have hl : lv_has ls 12 [(0, .ref h0), (1, .ref p1), (2, .ref p3), (3, .int (nI nq)), (4, .int (nI fm)), (5, .int 8)] := hl
  have hle9 := lenN_le (n := nI kq) hc hle
  refine lv_iload hx hb dX5_work_0 (lv_at hl 5 rfl) ?_
  refine lv_bipush (v := 9) hx hb dX5_work_2 (by decide) ?_
  refine lv_icmp_ge (tgt := 17) hx hb dX5_work_4 (by decide) (fun h => absurd h (by decide)) (fun _ => ?_)
  refine lv_aload_n hx hb dX5_work_7 rfl (lv_at hl 0 rfl) ?_
  refine va_get (D := (dC, dI)) (ci := 5) (v := .int (nI md)) (C := RX5) (T := TX5) (N := 4) hx hb hts inB_5 hown hK hP 0 rfl rfl 2 (by decide) (hts _ mw_1_110) (fun _ h9 => h9) rfl dX5_work_8 ?_
  refine lv_sipush (v := 200) hx hb dX5_work_11 (by decide) ?_
  refine lv_icmp_lt (tgt := 19) hx hb dX5_work_14 (by decide) (fun c_1 => ?_) (fun c_1 => ?_)
  · have b_2 := gx_lt (X := ((md : Nat) : Int)) (C := 200) (nI_toInt (by omega)) (by decide) c_1
    refine lv_aload_n hx hb dX5_work_19 rfl (lv_at hl 0 rfl) ?_
    refine lv_dup hx hb dX5_work_20 rfl ?_
    refine va_get (D := (dC, dI)) (ci := 5) (v := .int (nI md)) (C := RX5) (T := TX5) (N := 4) hx hb hts inB_5 hown hK hP 0 rfl rfl 2 (by decide) (hts _ mw_1_110) (fun _ h9 => h9) rfl dX5_work_21 ?_
    refine lv_iconst (v := 1) hx hb dX5_work_24 (by decide) ?_
    refine lv_iadd hx hb dX5_work_25 ?_
    refine hx_top (y := (nI (md + 1))) (nI_add md 1) ?_
    refine va_put (D := (dC, dI)) (ci := 5) (v := .int (nI (md + 1))) (ty := .int) (C := RX5) (T := TX5) (N := 4) hx hb hts inB_5 tyX5 tyX5_ok nmX5 hown hK hP hD hS 0 rfl rfl 2 (by decide) (hts _ mw_1_110) (fun _ h9 => h9) rfl (by decide +kernel) rfl rfl (Nat.le_of_ble_eq_true rfl) dX5_work_26 (fun H locs hP hD hS => ?_)
    have hP : va_P (dC, dI) vwCl [(h0, .inr (5, [.ref u0, .int (nI sd), .int (nI (md + 1)), .int (nI kq)])), (u0, .inl (ku0, 40, .inl fd)), (p1, .inr (1, [w0, .ref b1, w2, .ref b3, w4, w5, .int (nI cn), w7])), (b1, .inl (kb1, 10, .inl fle)), (b3, .inl (kb3, 100, .inl fli)), (p3, .inr (0, [.ref e0, .ref e1, .ref e2])), (e0, .inl (ke0, 8, .inl fo)), (e1, .inl (ke1, 80, .inl fbl)), (e2, .inl (ke2, 960, .inl fbs))] H := hP
    have hD : va_D A [(h0, .inr (5, [.ref u0, .int (nI sd), .int (nI (md + 1)), .int (nI kq)])), (u0, .inl (ku0, 40, .inl fd)), (p1, .inr (1, [w0, .ref b1, w2, .ref b3, w4, w5, .int (nI cn), w7])), (b1, .inl (kb1, 10, .inl fle)), (b3, .inl (kb3, 100, .inl fli)), (p3, .inr (0, [.ref e0, .ref e1, .ref e2])), (e0, .inl (ke0, 8, .inl fo)), (e1, .inl (ke1, 80, .inl fbl)), (e2, .inl (ke2, 960, .inl fbs))] := hD
    refine lv_aload_n hx hb dX5_work_29 rfl (lv_at hl 1 rfl) ?_
    refine lv_aload_n hx hb dX5_work_30 rfl (lv_at hl 0 rfl) ?_
    refine va_get (D := (dC, dI)) (ci := 5) (v := .int (nI kq)) (C := RX5) (T := TX5) (N := 4) hx hb hts inB_5 hown hK hP 0 rfl rfl 3 (by decide) (hts _ mw_1_111) (fun _ h9 => h9) rfl dX5_work_31 ?_
    refine lv_aload_n hx hb dX5_work_34 rfl (lv_at hl 2 rfl) ?_
    refine lv_iload_n hx hb dX5_work_35 rfl (lv_at hl 3 rfl) ?_
    have hPc := hP.sub (ws' := [(p3, .inr (0, [.ref e0, .ref e1, .ref e2])), (e0, .inl (ke0, 8, .inl fo))]) [5, 6] rfl
    have hDc := hD.sub (ws' := [(p3, .inr (0, [.ref e0, .ref e1, .ref e2])), (e0, .inl (ke0, 8, .inl fo))]) [5, 6] (by decide) rfl
    have hKc := hK.sub (tys' := [(ke0, .int)]) [3] rfl
    refine va_calli (va_runV (As := [.int (nI nq)]) (rest := [.int (nI kq), .ref p1]) ⟨hx, hb, hml, hown, hts⟩ (c_own l dC dI H.size p3 e0 (.ref e1) (.ref e2) ke0 fo nq hnq) (cwV 1 hts (gV mw_2_169 mw_2_105 mw_2_106 mw_1_5 mw_2_107) rfl rfl rfl (by decide +kernel) ⟨Nat.le_of_ble_eq_true rfl, Nat.le_of_ble_eq_true rfl⟩) ⟨pcW_blind, va_recv hKc hPc (ci := 0) (q0 := 0) rfl rfl, pcW_at hPc hKc hDc hN⟩ rfl rfl hl.1 rfl (lv_room (Nat.le_of_ble_eq_true rfl)) dX5_work_36 ⟨Nat.le_of_ble_eq_true rfl, Nat.le_of_ble_eq_true rfl⟩) hS (fun q h1 h2 => absurd h2 (Nat.not_le.mpr h1)) (fun q h => hA q (Nat.le_trans hS.1 h)) (fun r_3 u t H1 locs ht hvm hw_3 hB hz1 hk1 hS => ?_)
    have hP := keepP hP hk1
    clear hz1 hk1 hB ht hvm hPc hDc hKc
    generalize H1 = H at hP hS ⊢
    obtain rfl : r_3 = (fo nq) := hw_3
    refine lv_iload hx hb dX5_work_39 (lv_at hl 4 rfl) ?_
    have hPc := hP.sub (ws' := [(p1, .inr (1, [w0, .ref b1, w2, .ref b3, w4, w5, .int (nI cn), w7])), (b1, .inl (kb1, 10, .inl fle)), (b3, .inl (kb3, 100, .inl fli))]) [2, 3, 4] rfl
    have hDc := hD.sub (ws' := [(p1, .inr (1, [w0, .ref b1, w2, .ref b3, w4, w5, .int (nI cn), w7])), (b1, .inl (kb1, 10, .inl fle)), (b3, .inl (kb3, 100, .inl fli))]) [2, 3, 4] (by decide) rfl
    have hKc := hK.sub (tys' := [(kb1, .int), (kb3, .int)]) [1, 2] rfl
    refine va_calli (va_runV (As := [.int (nI kq), .int (fo nq), .int (nI fm)]) (rest := []) ⟨hx, hb, hml, hown, hts⟩ (c_whereFirst l dC dI H.size p1 (w0) b1 (w2) b3 (w4) (w5) cn (w7) kb1 fle kb3 fli kq (fo nq) fm hc hle hlk hkq (by omega)) (cwV 3 hts (gV mw_2_170 mw_2_146 mw_2_147 mw_1_2 mw_2_148) rfl rfl rfl (by decide +kernel) ⟨Nat.le_of_ble_eq_true rfl, Nat.le_of_ble_eq_true rfl⟩) ⟨pcW_blind, va_recv hKc hPc (ci := 1) (q0 := 0) rfl rfl, pcW_at hPc hKc hDc hN⟩ rfl rfl hl.1 rfl (lv_room (Nat.le_of_ble_eq_true rfl)) dX5_work_41 ⟨Nat.le_of_ble_eq_true rfl, Nat.le_of_ble_eq_true rfl⟩) hS (fun q h1 h2 => absurd h2 (Nat.not_le.mpr h1)) (fun q h => hA q (Nat.le_trans hS.1 h)) (fun r_4 u t H1 locs ht hvm hw_4 hB hz1 hk1 hS => ?_)
    have hP := keepP hP hk1
    clear hz1 hk1 hB ht hvm hPc hDc hKc
    generalize H1 = H at hP hS ⊢
    refine lv_istore (lv' := [(6, .int r_4), (0, .ref h0), (1, .ref p1), (2, .ref p3), (3, .int (nI nq)), (4, .int (nI fm)), (5, .int 8)]) hx hb dX5_work_44 hl (by decide) rfl (fun ls hl => ?_)
    rcases wf_cases hw_4 with eq9 | ⟨q9, hq9, eq9⟩
    · subst eq9
      refine lv_iload hx hb dX5_work_46 (lv_at hl 0 rfl) ?_
      refine lv_bipush (v := (-6)) hx hb dX5_work_48 (by decide) ?_
      refine lv_icmp_ne (tgt := 55) hx hb dX5_work_50 (by decide) (fun h => absurd h (by decide)) (fun _ => ?_)
      refine lv_iconst (v := 1) hx hb dX5_work_53 (by decide) ?_
      have hP9 := hP.sub (ws' := [(h0, .inr (5, [.ref u0, .int (nI sd), .int (nI (md + 1)), .int (nI kq)])), (u0, .inl (ku0, 40, .inl fd)), (p1, .inr (1, [w0, .ref b1, w2, .ref b3, w4, w5, .int (nI cn), w7])), (b1, .inl (kb1, 10, .inl fle)), (b3, .inl (kb3, 100, .inl fli)), (p3, .inr (0, [.ref e0, .ref e1, .ref e2])), (e0, .inl (ke0, 8, .inl fo)), (e1, .inl (ke1, 80, .inl fbl)), (e2, .inl (ke2, 960, .inl fbs))]) [0, 1, 2, 3, 4, 5, 6, 7, 8] rfl
      have hD9 := hD.sub (ws' := [(h0, .inr (5, [.ref u0, .int (nI sd), .int (nI (md + 1)), .int (nI kq)])), (u0, .inl (ku0, 40, .inl fd)), (p1, .inr (1, [w0, .ref b1, w2, .ref b3, w4, w5, .int (nI cn), w7])), (b1, .inl (kb1, 10, .inl fle)), (b3, .inl (kb3, 100, .inl fli)), (p3, .inr (0, [.ref e0, .ref e1, .ref e2])), (e0, .inl (ke0, 8, .inl fo)), (e1, .inl (ke1, 80, .inl fbl)), (e2, .inl (ke2, 960, .inl fbs))]) [0, 1, 2, 3, 4, 5, 6, 7, 8] (by decide) rfl
      have hK9 := hK.sub (tys' := [(ku0, .int), (kb1, .int), (kb3, .int), (ke0, .int), (ke1, .int), (ke2, .char)]) [0, 1, 2, 3, 4, 5] rfl
      exact W.iret (v := 1) hx hb hr (fun t ht hW => ⟨⟨1, (), rfl, (r4 (wd_noC (d := 0) hw_4 (by omega))).1, sd, (md + 1), fd, hsd, (by omega), (Prod.ext (r4 (wd_noC (d := 0) hw_4 (by omega))).2.1 (Prod.ext (r4 (wd_noC (d := 0) hw_4 (by omega))).2.2.1 (r4 (wd_noC (d := 0) hw_4 (by omega))).2.2.2)), by rw [ht]; exact hP9, va_K.moved hW.alike hK9, hD9⟩, hS.F ht⟩) hS.2.2 dX5_work_54
    · subst eq9
      refine lv_iload hx hb dX5_work_46 (lv_at hl 0 rfl) ?_
      refine lv_bipush (v := (-6)) hx hb dX5_work_48 (by decide) ?_
      refine lv_icmp_ne (tgt := 55) hx hb dX5_work_50 (by decide) (fun c_5 => ?_) (fun h => absurd (gn_ne (X := ((q9 : Nat) : Int)) (C := (-6)) (nI_toInt (by omega)) (by decide) h) (by omega))
      have b_6 := gx_ne (X := ((q9 : Nat) : Int)) (C := (-6)) (nI_toInt (by omega)) (by decide) c_5
      refine lv_aload_n hx hb dX5_work_55 rfl (lv_at hl 2 rfl) ?_
      refine lv_aload_n hx hb dX5_work_56 rfl (lv_at hl 1 rfl) ?_
      refine va_get (D := (dC, dI)) (ci := 5) (v := .int (nI kq)) (C := RX5) (T := TX5) (N := 4) hx hb hts inB_5 hown hK hP 0 rfl rfl 3 (by decide) (hts _ mw_1_111) (fun _ h9 => h9) rfl dX5_work_57 ?_
      refine lv_iload hx hb dX5_work_60 (lv_at hl 0 rfl) ?_
      have hPc := hP.sub (ws' := [(p1, .inr (1, [w0, .ref b1, w2, .ref b3, w4, w5, .int (nI cn), w7])), (b1, .inl (kb1, 10, .inl fle)), (b3, .inl (kb3, 100, .inl fli))]) [2, 3, 4] rfl
      have hDc := hD.sub (ws' := [(p1, .inr (1, [w0, .ref b1, w2, .ref b3, w4, w5, .int (nI cn), w7])), (b1, .inl (kb1, 10, .inl fle)), (b3, .inl (kb3, 100, .inl fli))]) [2, 3, 4] (by decide) rfl
      have hKc := hK.sub (tys' := [(kb1, .int), (kb3, .int)]) [1, 2] rfl
      refine va_calli (va_runV (As := [.int (nI kq), .int (nI q9)]) (rest := []) ⟨hx, hb, hml, hown, hts⟩ (c_inLine l dC dI H.size p1 (w0) b1 (w2) b3 (w4) (w5) cn (w7) kb1 fle kb3 fli kq q9 hc hle (by omega) hkq) (cwV 2 hts (gV mw_2_171 mw_1_234 mw_1_235 mw_1_2 mw_1_236) rfl rfl rfl (by decide +kernel) ⟨Nat.le_of_ble_eq_true rfl, Nat.le_of_ble_eq_true rfl⟩) ⟨pcW_blind, va_recv hKc hPc (ci := 1) (q0 := 0) rfl rfl, pcW_at hPc hKc hDc hN⟩ rfl rfl hl.1 rfl (lv_room (Nat.le_of_ble_eq_true rfl)) dX5_work_62 ⟨Nat.le_of_ble_eq_true rfl, Nat.le_of_ble_eq_true rfl⟩) hS (fun q h1 h2 => absurd h2 (Nat.not_le.mpr h1)) (fun q h => hA q (Nat.le_trans hS.1 h)) (fun r_7 u t H1 locs ht hvm hw_7 hB hz1 hk1 hS => ?_)
      have hP := keepP hP hk1
      clear hz1 hk1 hB ht hvm hPc hDc hKc
      generalize H1 = H at hP hS ⊢
      obtain rfl : r_7 = (fli (10 * kq + q9)) := hw_7
      obtain ⟨ow, how, eow⟩ := hlk kq (by omega) q9 (by rw [← lenN_k (f := fle) (c := cn) (by omega) (by omega)]; exact hq9)
      refine hx_top (y := (nI ow)) eow ?_
      refine lv_istore (lv' := [(7, .int (nI ow)), (6, .int (nI q9)), (0, .ref h0), (1, .ref p1), (2, .ref p3), (3, .int (nI nq)), (4, .int (nI fm)), (5, .int 8)]) hx hb dX5_work_65 hl (by decide) rfl (fun ls hl => ?_)
      refine lv_aload_n hx hb dX5_work_67 rfl (lv_at hl 4 rfl) ?_
      refine lv_iload hx hb dX5_work_68 (lv_at hl 0 rfl) ?_
      refine lv_iload_n hx hb dX5_work_70 rfl (lv_at hl 5 rfl) ?_
      have hPc := hP.sub (ws' := [(p3, .inr (0, [.ref e0, .ref e1, .ref e2])), (e1, .inl (ke1, 80, .inl fbl))]) [5, 7] rfl
      have hDc := hD.sub (ws' := [(p3, .inr (0, [.ref e0, .ref e1, .ref e2])), (e1, .inl (ke1, 80, .inl fbl))]) [5, 7] (by decide) rfl
      have hKc := hK.sub (tys' := [(ke1, .int)]) [4] rfl
      refine va_calli (va_runV (As := [.int (nI ow), .int (nI nq)]) (rest := []) ⟨hx, hb, hml, hown, hts⟩ (c_blenN l dC dI H.size p3 (.ref e0) e1 (.ref e2) ke1 fbl ow nq hbl (by omega) hnq) (cwV 2 hts (gV mw_2_172 mw_2_173 mw_2_174 mw_1_5 mw_2_175) rfl rfl rfl (by decide +kernel) ⟨Nat.le_of_ble_eq_true rfl, Nat.le_of_ble_eq_true rfl⟩) ⟨pcW_blind, va_recv hKc hPc (ci := 0) (q0 := 0) rfl rfl, pcW_at hPc hKc hDc hN⟩ rfl rfl hl.1 rfl (lv_room (Nat.le_of_ble_eq_true rfl)) dX5_work_71 ⟨Nat.le_of_ble_eq_true rfl, Nat.le_of_ble_eq_true rfl⟩) hS (fun q h1 h2 => absurd h2 (Nat.not_le.mpr h1)) (fun q h => hA q (Nat.le_trans hS.1 h)) (fun r_8 u t H1 locs ht hvm hw_8 hB hz1 hk1 hS => ?_)
      have hP := keepP hP hk1
      clear hz1 hk1 hB ht hvm hPc hDc hKc
      generalize H1 = H at hP hS ⊢
      obtain rfl : r_8 = nI ((fbl (8 * ow + nq)).toNatClampNeg) := hw_8
      have b_9 := (bd_cle0 hbl (show 8 * ow + nq < 80 by omega) : (fbl (8 * ow + nq)).toNatClampNeg ≤ 12)
      refine lv_istore (lv' := [(8, .int (nI ((fbl (8 * ow + nq)).toNatClampNeg))), (7, .int (nI ow)), (6, .int (nI q9)), (0, .ref h0), (1, .ref p1), (2, .ref p3), (3, .int (nI nq)), (4, .int (nI fm)), (5, .int 8)]) hx hb dX5_work_74 hl (by decide) rfl (fun ls hl => ?_)
      refine lv_iconst (v := 0) hx hb dX5_work_76 (by decide) ?_
      refine lv_istore (lv' := [(9, .int 0), (8, .int (nI ((fbl (8 * ow + nq)).toNatClampNeg))), (7, .int (nI ow)), (6, .int (nI q9)), (0, .ref h0), (1, .ref p1), (2, .ref p3), (3, .int (nI nq)), (4, .int (nI fm)), (5, .int 8)]) hx hb dX5_work_77 hl (by decide) rfl (fun ls hl => ?_)
      refine lv_iconst (v := 0) hx hb dX5_work_79 (by decide) ?_
      refine lv_istore (lv' := [(10, .int 0), (9, .int 0), (8, .int (nI ((fbl (8 * ow + nq)).toNatClampNeg))), (7, .int (nI ow)), (6, .int (nI q9)), (0, .ref h0), (1, .ref p1), (2, .ref p3), (3, .int (nI nq)), (4, .int (nI fm)), (5, .int 8)]) hx hb dX5_work_80 hl (by decide) rfl (fun ls hl => ?_)
      have key_10 : ∀ (fu : Nat) (k9 : Nat) (en : Int32) (sdx : Nat) (mdx : Nat) (fdx : Nat → Int32), (k9 ≤ 12) → (sdx ≤ 40) → (mdx ≤ 200) → (sgL (wdC fle fli fo fbl fbs cn kq 0) nq q9 (fun i => fbs (12 * (8 * ow + nq) + i)) ((fbl (8 * ow + nq)).toNatClampNeg - k9) k9 (en, mdx, sdx, fdx) = (wdC fle fli fo fbl fbs cn kq 1 nq fm (md, sd, fd))) → 12 - k9 < fu → ∀ (H : Heap) (locs : List Loc), va_P (dC, dI) vwCl [(h0, .inr (5, [.ref u0, .int (nI sdx), .int (nI mdx), .int (nI kq)])), (u0, .inl (ku0, 40, .inl fdx)), (p1, .inr (1, [w0, .ref b1, w2, .ref b3, w4, w5, .int (nI cn), w7])), (b1, .inl (kb1, 10, .inl fle)), (b3, .inl (kb3, 100, .inl fli)), (p3, .inr (0, [.ref e0, .ref e1, .ref e2])), (e0, .inl (ke0, 8, .inl fo)), (e1, .inl (ke1, 80, .inl fbl)), (e2, .inl (ke2, 960, .inl fbs))] H → va_D A [(h0, .inr (5, [.ref u0, .int (nI sdx), .int (nI mdx), .int (nI kq)])), (u0, .inl (ku0, 40, .inl fdx)), (p1, .inr (1, [w0, .ref b1, w2, .ref b3, w4, w5, .int (nI cn), w7])), (b1, .inl (kb1, 10, .inl fle)), (b3, .inl (kb3, 100, .inl fli)), (p3, .inr (0, [.ref e0, .ref e1, .ref e2])), (e0, .inl (ke0, 8, .inl fo)), (e1, .inl (ke1, 80, .inl fbl)), (e2, .inl (ke2, 960, .inl fbs))] → va_S A s.heap H locs → ∀ (ls : Array Slot), lv_has ls 12 [(10, .int (nI k9)), (9, .int en), (8, .int (nI ((fbl (8 * ow + nq)).toNatClampNeg))), (7, .int (nI ow)), (6, .int (nI q9)), (0, .ref h0), (1, .ref p1), (2, .ref p3), (3, .int (nI nq)), (4, .int (nI fm)), (5, .int 8)] → W p l e (headSpec (wq yX5_work cX5_work 12 (some .int)) ({ frames := 4, cells := 0, slots := 0, locals := 86 })).room s m (([.ref h0, .ref p1, .ref p3, .int (nI nq), .int (nI fm), .int 8] : List Value)).toArray below meth c H locs 0 0 (MQ below (va_Qi (fun (r : Int32) (_ : Unit) => r = (wdC fle fli fo fbl fbs cn kq 1 nq fm (md, sd, fd)).1) (fun _ t => ∃ (sd2 : Nat) (md2 : Nat) (fd2 : Nat → Int32), (sd2 ≤ 40) ∧ (md2 ≤ 200) ∧ ((md2, sd2, fd2) = (wdC fle fli fo fbl fbs cn kq 1 nq fm (md, sd, fd)).2) ∧ va_P (dC, dI) vwCl [(h0, .inr (5, [.ref u0, .int (nI sd2), .int (nI md2), .int (nI kq)])), (u0, .inl (ku0, 40, .inl fd2)), (p1, .inr (1, [w0, .ref b1, w2, .ref b3, w4, w5, .int (nI cn), w7])), (b1, .inl (kb1, 10, .inl fle)), (b3, .inl (kb3, 100, .inl fli)), (p3, .inr (0, [.ref e0, .ref e1, .ref e2])), (e0, .inl (ke0, 8, .inl fo)), (e1, .inl (ke1, 80, .inl fbl)), (e2, .inl (ke2, 960, .inl fbs))] t.heap ∧ va_K (dC, dI) vwCl [(ku0, .int), (kb1, .int), (kb3, .int), (ke0, .int), (ke1, .int), (ke2, .char)] t ∧ va_D A [(h0, .inr (5, [.ref u0, .int (nI sd2), .int (nI md2), .int (nI kq)])), (u0, .inl (ku0, 40, .inl fd2)), (p1, .inr (1, [w0, .ref b1, w2, .ref b3, w4, w5, .int (nI cn), w7])), (b1, .inl (kb1, 10, .inl fle)), (b3, .inl (kb3, 100, .inl fli)), (p3, .inr (0, [.ref e0, .ref e1, .ref e2])), (e0, .inl (ke0, 8, .inl fo)), (e1, .inl (ke1, 80, .inl fbl)), (e2, .inl (ke2, 960, .inl fbs))]) A) (([.ref h0, .ref p1, .ref p3, .int (nI nq), .int (nI fm), .int 8] : List Value)).toArray s 0 0 A) (F0 m 82 ls []) := by
        intro fu
        induction fu with
        | zero => intro k9 en sdx mdx fdx hk hsx hmx hlp hme; exact absurd hme (Nat.not_lt_zero _)
        | succ fu ih_11 =>
          intro k9 en sdx mdx fdx hk hsx hmx hlp hme H locs hP hD hS ls hl
          refine lv_iload hx hb dX5_work_82 (lv_at hl 0 rfl) ?_
          refine lv_iload hx hb dX5_work_84 (lv_at hl 2 rfl) ?_
          refine lv_icmp_ge (tgt := 184) hx hb dX5_work_86 (by decide) (fun c_12 => ?_) (fun c_12 => ?_)
          · have b_13 := gx_ge (X := ((k9 : Nat) : Int)) (C := (((fbl (8 * ow + nq)).toNatClampNeg : Nat) : Int)) (nI_toInt (by omega)) (nI_toInt (by omega)) c_12
            refine lv_iload hx hb dX5_work_184 (lv_at hl 1 rfl) ?_
            have hP9 := hP.sub (ws' := [(h0, .inr (5, [.ref u0, .int (nI sdx), .int (nI mdx), .int (nI kq)])), (u0, .inl (ku0, 40, .inl fdx)), (p1, .inr (1, [w0, .ref b1, w2, .ref b3, w4, w5, .int (nI cn), w7])), (b1, .inl (kb1, 10, .inl fle)), (b3, .inl (kb3, 100, .inl fli)), (p3, .inr (0, [.ref e0, .ref e1, .ref e2])), (e0, .inl (ke0, 8, .inl fo)), (e1, .inl (ke1, 80, .inl fbl)), (e2, .inl (ke2, 960, .inl fbs))]) [0, 1, 2, 3, 4, 5, 6, 7, 8] rfl
            have hD9 := hD.sub (ws' := [(h0, .inr (5, [.ref u0, .int (nI sdx), .int (nI mdx), .int (nI kq)])), (u0, .inl (ku0, 40, .inl fdx)), (p1, .inr (1, [w0, .ref b1, w2, .ref b3, w4, w5, .int (nI cn), w7])), (b1, .inl (kb1, 10, .inl fle)), (b3, .inl (kb3, 100, .inl fli)), (p3, .inr (0, [.ref e0, .ref e1, .ref e2])), (e0, .inl (ke0, 8, .inl fo)), (e1, .inl (ke1, 80, .inl fbl)), (e2, .inl (ke2, 960, .inl fbs))]) [0, 1, 2, 3, 4, 5, 6, 7, 8] (by decide) rfl
            have hK9 := hK.sub (tys' := [(ku0, .int), (kb1, .int), (kb3, .int), (ke0, .int), (ke1, .int), (ke2, .char)]) [0, 1, 2, 3, 4, 5] rfl
            exact W.iret (v := en) hx hb hr (fun t ht hW => ⟨⟨en, (), rfl, (r4 ((sgl_end (Or.inl (by omega))).symm.trans hlp)).1, sdx, mdx, fdx, hsx, hmx, (Prod.ext (r4 ((sgl_end (Or.inl (by omega))).symm.trans hlp)).2.1 (Prod.ext (r4 ((sgl_end (Or.inl (by omega))).symm.trans hlp)).2.2.1 (r4 ((sgl_end (Or.inl (by omega))).symm.trans hlp)).2.2.2)), by rw [ht]; exact hP9, va_K.moved hW.alike hK9, hD9⟩, hS.F ht⟩) hS.2.2 dX5_work_186
          · have b_13 := gn_ge (X := ((k9 : Nat) : Int)) (C := (((fbl (8 * ow + nq)).toNatClampNeg : Nat) : Int)) (nI_toInt (by omega)) (nI_toInt (by omega)) c_12
            refine lv_iload hx hb dX5_work_89 (lv_at hl 1 rfl) ?_
            refine lv_if_ne (tgt := 184) hx hb dX5_work_91 (by decide) (fun c_14 => ?_) (fun c_14 => ?_)
            · have b_15 := gx_ne (X := (Int32.toInt en)) (C := 0) rfl (by decide) c_14
              refine lv_iload hx hb dX5_work_184 (lv_at hl 1 rfl) ?_
              have hP9 := hP.sub (ws' := [(h0, .inr (5, [.ref u0, .int (nI sdx), .int (nI mdx), .int (nI kq)])), (u0, .inl (ku0, 40, .inl fdx)), (p1, .inr (1, [w0, .ref b1, w2, .ref b3, w4, w5, .int (nI cn), w7])), (b1, .inl (kb1, 10, .inl fle)), (b3, .inl (kb3, 100, .inl fli)), (p3, .inr (0, [.ref e0, .ref e1, .ref e2])), (e0, .inl (ke0, 8, .inl fo)), (e1, .inl (ke1, 80, .inl fbl)), (e2, .inl (ke2, 960, .inl fbs))]) [0, 1, 2, 3, 4, 5, 6, 7, 8] rfl
              have hD9 := hD.sub (ws' := [(h0, .inr (5, [.ref u0, .int (nI sdx), .int (nI mdx), .int (nI kq)])), (u0, .inl (ku0, 40, .inl fdx)), (p1, .inr (1, [w0, .ref b1, w2, .ref b3, w4, w5, .int (nI cn), w7])), (b1, .inl (kb1, 10, .inl fle)), (b3, .inl (kb3, 100, .inl fli)), (p3, .inr (0, [.ref e0, .ref e1, .ref e2])), (e0, .inl (ke0, 8, .inl fo)), (e1, .inl (ke1, 80, .inl fbl)), (e2, .inl (ke2, 960, .inl fbs))]) [0, 1, 2, 3, 4, 5, 6, 7, 8] (by decide) rfl
              have hK9 := hK.sub (tys' := [(ku0, .int), (kb1, .int), (kb3, .int), (ke0, .int), (ke1, .int), (ke2, .char)]) [0, 1, 2, 3, 4, 5] rfl
              exact W.iret (v := en) hx hb hr (fun t ht hW => ⟨⟨en, (), rfl, (r4 ((sgl_end (Or.inr c_14)).symm.trans hlp)).1, sdx, mdx, fdx, hsx, hmx, (Prod.ext (r4 ((sgl_end (Or.inr c_14)).symm.trans hlp)).2.1 (Prod.ext (r4 ((sgl_end (Or.inr c_14)).symm.trans hlp)).2.2.1 (r4 ((sgl_end (Or.inr c_14)).symm.trans hlp)).2.2.2)), by rw [ht]; exact hP9, va_K.moved hW.alike hK9, hD9⟩, hS.F ht⟩) hS.2.2 dX5_work_186
            · have b_15 := gn_ne (X := (Int32.toInt en)) (C := 0) rfl (by decide) c_14
              refine lv_aload_n hx hb dX5_work_94 rfl (lv_at hl 7 rfl) ?_
              refine lv_iload hx hb dX5_work_95 (lv_at hl 3 rfl) ?_
              refine lv_iload_n hx hb dX5_work_97 rfl (lv_at hl 8 rfl) ?_
              refine lv_iload hx hb dX5_work_98 (lv_at hl 0 rfl) ?_
              have hPc := hP.sub (ws' := [(p3, .inr (0, [.ref e0, .ref e1, .ref e2])), (e1, .inl (ke1, 80, .inl fbl)), (e2, .inl (ke2, 960, .inl fbs))]) [5, 7, 8] rfl
              have hDc := hD.sub (ws' := [(p3, .inr (0, [.ref e0, .ref e1, .ref e2])), (e1, .inl (ke1, 80, .inl fbl)), (e2, .inl (ke2, 960, .inl fbs))]) [5, 7, 8] (by decide) rfl
              have hKc := hK.sub (tys' := [(ke1, .int), (ke2, .char)]) [4, 5] rfl
              refine va_calli (va_runV (As := [.int (nI ow), .int (nI nq), .int (nI k9)]) (rest := []) ⟨hx, hb, hml, hown, hts⟩ (c_bsignN l dC dI H.size p3 (.ref e0) e1 e2 ke1 fbl ke2 fbs ow nq k9 hbl hbs (by omega) hnq (by omega)) (cwV 3 hts (gV mw_2_176 mw_2_177 mw_2_178 mw_1_5 mw_2_179) rfl rfl rfl (by decide +kernel) ⟨Nat.le_of_ble_eq_true rfl, Nat.le_of_ble_eq_true rfl⟩) ⟨pcW_blind, va_recv hKc hPc (ci := 0) (q0 := 0) rfl rfl, pcW_at hPc hKc hDc hN⟩ rfl rfl hl.1 rfl (lv_room (Nat.le_of_ble_eq_true rfl)) dX5_work_100 ⟨Nat.le_of_ble_eq_true rfl, Nat.le_of_ble_eq_true rfl⟩) hS (fun q h1 h2 => absurd h2 (Nat.not_le.mpr h1)) (fun q h => hA q (Nat.le_trans hS.1 h)) (fun r_16 u t H1 locs ht hvm hw_16 hB hz1 hk1 hS => ?_)
              have hP := keepP hP hk1
              clear hz1 hk1 hB ht hvm hPc hDc hKc
              generalize H1 = H at hP hS ⊢
              obtain rfl : r_16 = (fbs (12 * (8 * ow + nq) + k9)) := hw_16
              refine lv_istore (lv' := [(11, .int (fbs (12 * (8 * ow + nq) + k9))), (10, .int (nI k9)), (9, .int en), (8, .int (nI ((fbl (8 * ow + nq)).toNatClampNeg))), (7, .int (nI ow)), (6, .int (nI q9)), (0, .ref h0), (1, .ref p1), (2, .ref p3), (3, .int (nI nq)), (4, .int (nI fm)), (5, .int 8)]) hx hb dX5_work_103 hl (by decide) rfl (fun ls hl => ?_)
              have hvc : (48 ≤ Int32.toInt (fbs (12 * (8 * ow + nq) + k9)) ∧ Int32.toInt (fbs (12 * (8 * ow + nq) + k9)) ≤ 57) ∨ (97 ≤ Int32.toInt (fbs (12 * (8 * ow + nq) + k9)) ∧ Int32.toInt (fbs (12 * (8 * ow + nq) + k9)) ≤ 104) ∨ Int32.toInt (fbs (12 * (8 * ow + nq) + k9)) = 94 := hcv (8 * ow + nq) (by omega) k9 (by omega)
              refine lv_iload hx hb dX5_work_105 (lv_at hl 0 rfl) ?_
              refine lv_bipush (v := 48) hx hb dX5_work_107 (by decide) ?_
              refine lv_icmp_lt (tgt := 133) hx hb dX5_work_109 (by decide) (fun h => absurd (gx_lt (X := (Int32.toInt (fbs (12 * (8 * ow + nq) + k9)))) (C := 48) rfl (by decide) h) (by omega)) (fun c_17 => ?_)
              have b_18 := gn_lt (X := (Int32.toInt (fbs (12 * (8 * ow + nq) + k9)))) (C := 48) rfl (by decide) c_17
              refine lv_iload hx hb dX5_work_112 (lv_at hl 0 rfl) ?_
              refine lv_bipush (v := 57) hx hb dX5_work_114 (by decide) ?_
              refine lv_icmp_gt (tgt := 133) hx hb dX5_work_116 (by decide) (fun c_19 => ?_) (fun c_19 => ?_)
              · have b_20 := gx_gt (X := (Int32.toInt (fbs (12 * (8 * ow + nq) + k9)))) (C := 57) rfl (by decide) c_19
                refine lv_iload hx hb dX5_work_133 (lv_at hl 0 rfl) ?_
                refine lv_bipush (v := 94) hx hb dX5_work_135 (by decide) ?_
                refine lv_icmp_ne (tgt := 160) hx hb dX5_work_137 (by decide) (fun c_21 => ?_) (fun c_21 => ?_)
                · have b_22 := gx_ne (X := (Int32.toInt (fbs (12 * (8 * ow + nq) + k9)))) (C := 94) rfl (by decide) c_21
                  refine lv_aload_n hx hb dX5_work_160 rfl (lv_at hl 6 rfl) ?_
                  refine lv_aload_n hx hb dX5_work_161 rfl (lv_at hl 7 rfl) ?_
                  refine lv_aload_n hx hb dX5_work_162 rfl (lv_at hl 8 rfl) ?_
                  refine lv_iload hx hb dX5_work_163 (lv_at hl 0 rfl) ?_
                  refine lv_bipush (v := 97) hx hb dX5_work_165 (by decide) ?_
                  refine lv_isub hx hb dX5_work_167 ?_
                  refine lv_topi (fun z_23 ez_23 => ?_)
                  have gz_23 := fx_rng (fbs (12 * (8 * ow + nq) + k9))
                  have fz_23 : Int32.toInt z_23 = (Int32.toInt (fbs (12 * (8 * ow + nq) + k9))) - 97 := by rw [ez_23]; exact gx_sub (X := (Int32.toInt (fbs (12 * (8 * ow + nq) + k9)))) (C := 97) rfl (by decide) (by omega) (by omega)
                  obtain ⟨j_24, tj_24, ej_24⟩ := fx_nat (x := z_23) (by omega)
                  subst ej_24
                  have yj_24 : Int32.toInt (nI j_24) = (j_24 : Int) := nI_toInt tj_24
                  refine lv_iconst (v := 0) hx hb dX5_work_168 (by decide) ?_
                  refine lv_iload hx hb dX5_work_169 (lv_at hl 11 rfl) ?_
                  refine lv_iconst (v := 1) hx hb dX5_work_171 (by decide) ?_
                  refine lv_iadd hx hb dX5_work_172 ?_
                  refine hx_top (y := 9) (by decide) ?_
                  have hPc := hP.sub (ws' := [(h0, .inr (5, [.ref u0, .int (nI sdx), .int (nI mdx), .int (nI kq)])), (u0, .inl (ku0, 40, .inl fdx)), (p1, .inr (1, [w0, .ref b1, w2, .ref b3, w4, w5, .int (nI cn), w7])), (b1, .inl (kb1, 10, .inl fle)), (b3, .inl (kb3, 100, .inl fli)), (p3, .inr (0, [.ref e0, .ref e1, .ref e2])), (e0, .inl (ke0, 8, .inl fo)), (e1, .inl (ke1, 80, .inl fbl)), (e2, .inl (ke2, 960, .inl fbs))]) [0, 1, 2, 3, 4, 5, 6, 7, 8] rfl
                  have hDc := hD.sub (ws' := [(h0, .inr (5, [.ref u0, .int (nI sdx), .int (nI mdx), .int (nI kq)])), (u0, .inl (ku0, 40, .inl fdx)), (p1, .inr (1, [w0, .ref b1, w2, .ref b3, w4, w5, .int (nI cn), w7])), (b1, .inl (kb1, 10, .inl fle)), (b3, .inl (kb3, 100, .inl fli)), (p3, .inr (0, [.ref e0, .ref e1, .ref e2])), (e0, .inl (ke0, 8, .inl fo)), (e1, .inl (ke1, 80, .inl fbl)), (e2, .inl (ke2, 960, .inl fbs))]) [0, 1, 2, 3, 4, 5, 6, 7, 8] (by decide) rfl
                  have hKc := hK.sub (tys' := [(ku0, .int), (kb1, .int), (kb3, .int), (ke0, .int), (ke1, .int), (ke2, .char)]) [0, 1, 2, 3, 4, 5] rfl
                  have hFc := va_free (wc := [(h0, .inr (5, [.ref u0, .int (nI sdx), .int (nI mdx), .int (nI kq)])), (u0, .inl (ku0, 40, .inl fdx)), (p1, .inr (1, [w0, .ref b1, w2, .ref b3, w4, w5, .int (nI cn), w7])), (b1, .inl (kb1, 10, .inl fle)), (b3, .inl (kb3, 100, .inl fli)), (p3, .inr (0, [.ref e0, .ref e1, .ref e2])), (e0, .inl (ke0, 8, .inl fo)), (e1, .inl (ke1, 80, .inl fbl)), (e2, .inl (ke2, 960, .inl fbs))]) hD hS hA [0, 1, 2, 3, 4, 5, 6, 7, 8] rfl
                  refine va_calli (va_runV (As := [.ref p1, .ref p3, .int (nI j_24), .int 0, .int 9]) (rest := []) ⟨hx, hb, hml, hown, hts⟩ (c_work9 l dC dI H.size h0 u0 sdx mdx kq ku0 fdx p1 (w0) b1 (w2) b3 (w4) (w5) cn (w7) kb1 fle kb3 fli p3 e0 e1 e2 ke0 fo ke1 fbl ke2 fbs j_24 0 hsx hc hle hbl hbs hlk hkq (by omega) (by omega) hmx hcv) (cwV 5 hts (gV mw_2_165 mw_2_167 mw_0_4 mw_1_6 mw_2_168) rfl rfl rfl (by decide +kernel) ⟨Nat.le_of_ble_eq_true rfl, Nat.le_of_ble_eq_true rfl⟩) ⟨pcW_blind, va_recv hKc hPc (ci := 5) (q0 := 0) rfl rfl, pcW_at hPc hKc hDc hN⟩ rfl rfl hl.1 rfl (lv_room (Nat.le_of_ble_eq_true rfl)) dX5_work_173 ⟨Nat.le_of_ble_eq_true rfl, Nat.le_of_ble_eq_true rfl⟩) hS (fun q _ h => hFc q h) hFc (fun r_25 u t H1 locs ht hvm hw_25 hB hz1 hk1 hS => ?_)
                  obtain ⟨q_26, q_27, f_28, p_29, p_30, p_31, hP1, hK1, hD1⟩ := hB
                  rw [ht] at hP1
                  have hK1 := va_K.moved hvm.symm hK1
                  obtain ⟨hP, hD⟩ := va_join (wr := []) (w1 := [(h0, .inr (5, [.ref u0, .int (nI q_26), .int (nI q_27), .int (nI kq)])), (u0, .inl (ku0, 40, .inl f_28)), (p1, .inr (1, [w0, .ref b1, w2, .ref b3, w4, w5, .int (nI cn), w7])), (b1, .inl (kb1, 10, .inl fle)), (b3, .inl (kb3, 100, .inl fli)), (p3, .inr (0, [.ref e0, .ref e1, .ref e2])), (e0, .inl (ke0, 8, .inl fo)), (e1, .inl (ke1, 80, .inl fbl)), (e2, .inl (ke2, 960, .inl fbs))]) hP hD [0, 1, 2, 3, 4, 5, 6, 7, 8] [] rfl rfl (by decide) (by decide) hk1 hFc hP1 hD1
                  have hK := (hK.sub (tys' := []) [] rfl).app hK1
                  clear hz1 hk1 hPc hDc hKc hFc
                  generalize H1 = H at hP hS ⊢
                  have hK : va_K (dC, dI) vwCl [(ku0, .int), (kb1, .int), (kb3, .int), (ke0, .int), (ke1, .int), (ke2, .char)] s := hK
                  have hP : va_P (dC, dI) vwCl [(h0, .inr (5, [.ref u0, .int (nI q_26), .int (nI q_27), .int (nI kq)])), (u0, .inl (ku0, 40, .inl f_28)), (p1, .inr (1, [w0, .ref b1, w2, .ref b3, w4, w5, .int (nI cn), w7])), (b1, .inl (kb1, 10, .inl fle)), (b3, .inl (kb3, 100, .inl fli)), (p3, .inr (0, [.ref e0, .ref e1, .ref e2])), (e0, .inl (ke0, 8, .inl fo)), (e1, .inl (ke1, 80, .inl fbl)), (e2, .inl (ke2, 960, .inl fbs))] H := hP
                  have hD : va_D A [(h0, .inr (5, [.ref u0, .int (nI q_26), .int (nI q_27), .int (nI kq)])), (u0, .inl (ku0, 40, .inl f_28)), (p1, .inr (1, [w0, .ref b1, w2, .ref b3, w4, w5, .int (nI cn), w7])), (b1, .inl (kb1, 10, .inl fle)), (b3, .inl (kb3, 100, .inl fli)), (p3, .inr (0, [.ref e0, .ref e1, .ref e2])), (e0, .inl (ke0, 8, .inl fo)), (e1, .inl (ke1, 80, .inl fbl)), (e2, .inl (ke2, 960, .inl fbs))] := hD
                  refine lv_istore (lv' := [(9, .int r_25), (11, .int (fbs (12 * (8 * ow + nq) + k9))), (10, .int (nI k9)), (8, .int (nI ((fbl (8 * ow + nq)).toNatClampNeg))), (7, .int (nI ow)), (6, .int (nI q9)), (0, .ref h0), (1, .ref p1), (2, .ref p3), (3, .int (nI nq)), (4, .int (nI fm)), (5, .int 8)]) hx hb dX5_work_176 hl (by decide) rfl (fun ls hl => ?_)
                  refine lv_iinc (v := (nI (k9 + 1))) (lv' := [(10, .int (nI (k9 + 1))), (9, .int r_25), (11, .int (fbs (12 * (8 * ow + nq) + k9))), (8, .int (nI ((fbl (8 * ow + nq)).toNatClampNeg))), (7, .int (nI ow)), (6, .int (nI q9)), (0, .ref h0), (1, .ref p1), (2, .ref p3), (3, .int (nI nq)), (4, .int (nI fm)), (5, .int 8)]) hx hb dX5_work_178 hl (k := 2) rfl (nI_add k9 1) (by decide) rfl (fun ls hl => ?_)
                  refine lv_goto (tgt := 82) hx hb dX5_work_181 (by decide) ?_
                  exact ih_11 (k9 + 1) r_25 q_26 q_27 f_28 (by omega) p_29 p_30 (lp_let hlp c_14 (by omega) (by show 97 ≤ Int32.toInt (fbs (12 * (8 * ow + nq) + k9)); omega) (by show ((j_24 : Nat) : Int) = Int32.toInt (fbs (12 * (8 * ow + nq) + k9)) - 97; omega) hw_25 p_31) (by omega) _ _ hP hD hS ls (lv_sub hl [0, 1, 3, 4, 5, 6, 7, 8, 9, 10, 11] rfl)
                · have b_22 := gn_ne (X := (Int32.toInt (fbs (12 * (8 * ow + nq) + k9)))) (C := 94) rfl (by decide) c_21
                  refine lv_aload_n hx hb dX5_work_140 rfl (lv_at hl 6 rfl) ?_
                  refine lv_aload_n hx hb dX5_work_141 rfl (lv_at hl 7 rfl) ?_
                  refine lv_aload_n hx hb dX5_work_142 rfl (lv_at hl 8 rfl) ?_
                  refine lv_iload_n hx hb dX5_work_143 rfl (lv_at hl 9 rfl) ?_
                  refine lv_iload hx hb dX5_work_144 (lv_at hl 5 rfl) ?_
                  refine lv_iconst (v := 1) hx hb dX5_work_146 (by decide) ?_
                  refine lv_iadd hx hb dX5_work_147 ?_
                  refine hx_top (y := (nI (q9 + 1))) (nI_add q9 1) ?_
                  refine lv_iload hx hb dX5_work_148 (lv_at hl 11 rfl) ?_
                  refine lv_iconst (v := 1) hx hb dX5_work_150 (by decide) ?_
                  refine lv_iadd hx hb dX5_work_151 ?_
                  refine hx_top (y := 9) (by decide) ?_
                  have hPc := hP.sub (ws' := [(h0, .inr (5, [.ref u0, .int (nI sdx), .int (nI mdx), .int (nI kq)])), (u0, .inl (ku0, 40, .inl fdx)), (p1, .inr (1, [w0, .ref b1, w2, .ref b3, w4, w5, .int (nI cn), w7])), (b1, .inl (kb1, 10, .inl fle)), (b3, .inl (kb3, 100, .inl fli)), (p3, .inr (0, [.ref e0, .ref e1, .ref e2])), (e0, .inl (ke0, 8, .inl fo)), (e1, .inl (ke1, 80, .inl fbl)), (e2, .inl (ke2, 960, .inl fbs))]) [0, 1, 2, 3, 4, 5, 6, 7, 8] rfl
                  have hDc := hD.sub (ws' := [(h0, .inr (5, [.ref u0, .int (nI sdx), .int (nI mdx), .int (nI kq)])), (u0, .inl (ku0, 40, .inl fdx)), (p1, .inr (1, [w0, .ref b1, w2, .ref b3, w4, w5, .int (nI cn), w7])), (b1, .inl (kb1, 10, .inl fle)), (b3, .inl (kb3, 100, .inl fli)), (p3, .inr (0, [.ref e0, .ref e1, .ref e2])), (e0, .inl (ke0, 8, .inl fo)), (e1, .inl (ke1, 80, .inl fbl)), (e2, .inl (ke2, 960, .inl fbs))]) [0, 1, 2, 3, 4, 5, 6, 7, 8] (by decide) rfl
                  have hKc := hK.sub (tys' := [(ku0, .int), (kb1, .int), (kb3, .int), (ke0, .int), (ke1, .int), (ke2, .char)]) [0, 1, 2, 3, 4, 5] rfl
                  have hFc := va_free (wc := [(h0, .inr (5, [.ref u0, .int (nI sdx), .int (nI mdx), .int (nI kq)])), (u0, .inl (ku0, 40, .inl fdx)), (p1, .inr (1, [w0, .ref b1, w2, .ref b3, w4, w5, .int (nI cn), w7])), (b1, .inl (kb1, 10, .inl fle)), (b3, .inl (kb3, 100, .inl fli)), (p3, .inr (0, [.ref e0, .ref e1, .ref e2])), (e0, .inl (ke0, 8, .inl fo)), (e1, .inl (ke1, 80, .inl fbl)), (e2, .inl (ke2, 960, .inl fbs))]) hD hS hA [0, 1, 2, 3, 4, 5, 6, 7, 8] rfl
                  refine va_calli (va_runV (As := [.ref p1, .ref p3, .int (nI nq), .int (nI (q9 + 1)), .int 9]) (rest := []) ⟨hx, hb, hml, hown, hts⟩ (c_work9 l dC dI H.size h0 u0 sdx mdx kq ku0 fdx p1 (w0) b1 (w2) b3 (w4) (w5) cn (w7) kb1 fle kb3 fli p3 e0 e1 e2 ke0 fo ke1 fbl ke2 fbs nq (q9 + 1) hsx hc hle hbl hbs hlk hkq hnq (by omega) hmx hcv) (cwV 5 hts (gV mw_2_165 mw_2_167 mw_0_4 mw_1_6 mw_2_168) rfl rfl rfl (by decide +kernel) ⟨Nat.le_of_ble_eq_true rfl, Nat.le_of_ble_eq_true rfl⟩) ⟨pcW_blind, va_recv hKc hPc (ci := 5) (q0 := 0) rfl rfl, pcW_at hPc hKc hDc hN⟩ rfl rfl hl.1 rfl (lv_room (Nat.le_of_ble_eq_true rfl)) dX5_work_152 ⟨Nat.le_of_ble_eq_true rfl, Nat.le_of_ble_eq_true rfl⟩) hS (fun q _ h => hFc q h) hFc (fun r_32 u t H1 locs ht hvm hw_32 hB hz1 hk1 hS => ?_)
                  obtain ⟨q_33, q_34, f_35, p_36, p_37, p_38, hP1, hK1, hD1⟩ := hB
                  rw [ht] at hP1
                  have hK1 := va_K.moved hvm.symm hK1
                  obtain ⟨hP, hD⟩ := va_join (wr := []) (w1 := [(h0, .inr (5, [.ref u0, .int (nI q_33), .int (nI q_34), .int (nI kq)])), (u0, .inl (ku0, 40, .inl f_35)), (p1, .inr (1, [w0, .ref b1, w2, .ref b3, w4, w5, .int (nI cn), w7])), (b1, .inl (kb1, 10, .inl fle)), (b3, .inl (kb3, 100, .inl fli)), (p3, .inr (0, [.ref e0, .ref e1, .ref e2])), (e0, .inl (ke0, 8, .inl fo)), (e1, .inl (ke1, 80, .inl fbl)), (e2, .inl (ke2, 960, .inl fbs))]) hP hD [0, 1, 2, 3, 4, 5, 6, 7, 8] [] rfl rfl (by decide) (by decide) hk1 hFc hP1 hD1
                  have hK := (hK.sub (tys' := []) [] rfl).app hK1
                  clear hz1 hk1 hPc hDc hKc hFc
                  generalize H1 = H at hP hS ⊢
                  have hK : va_K (dC, dI) vwCl [(ku0, .int), (kb1, .int), (kb3, .int), (ke0, .int), (ke1, .int), (ke2, .char)] s := hK
                  have hP : va_P (dC, dI) vwCl [(h0, .inr (5, [.ref u0, .int (nI q_33), .int (nI q_34), .int (nI kq)])), (u0, .inl (ku0, 40, .inl f_35)), (p1, .inr (1, [w0, .ref b1, w2, .ref b3, w4, w5, .int (nI cn), w7])), (b1, .inl (kb1, 10, .inl fle)), (b3, .inl (kb3, 100, .inl fli)), (p3, .inr (0, [.ref e0, .ref e1, .ref e2])), (e0, .inl (ke0, 8, .inl fo)), (e1, .inl (ke1, 80, .inl fbl)), (e2, .inl (ke2, 960, .inl fbs))] H := hP
                  have hD : va_D A [(h0, .inr (5, [.ref u0, .int (nI q_33), .int (nI q_34), .int (nI kq)])), (u0, .inl (ku0, 40, .inl f_35)), (p1, .inr (1, [w0, .ref b1, w2, .ref b3, w4, w5, .int (nI cn), w7])), (b1, .inl (kb1, 10, .inl fle)), (b3, .inl (kb3, 100, .inl fli)), (p3, .inr (0, [.ref e0, .ref e1, .ref e2])), (e0, .inl (ke0, 8, .inl fo)), (e1, .inl (ke1, 80, .inl fbl)), (e2, .inl (ke2, 960, .inl fbs))] := hD
                  refine lv_istore (lv' := [(9, .int r_32), (11, .int (fbs (12 * (8 * ow + nq) + k9))), (10, .int (nI k9)), (8, .int (nI ((fbl (8 * ow + nq)).toNatClampNeg))), (7, .int (nI ow)), (6, .int (nI q9)), (0, .ref h0), (1, .ref p1), (2, .ref p3), (3, .int (nI nq)), (4, .int (nI fm)), (5, .int 8)]) hx hb dX5_work_155 hl (by decide) rfl (fun ls hl => ?_)
                  refine lv_goto (tgt := 178) hx hb dX5_work_157 (by decide) ?_
                  refine lv_iinc (v := (nI (k9 + 1))) (lv' := [(10, .int (nI (k9 + 1))), (9, .int r_32), (11, .int (fbs (12 * (8 * ow + nq) + k9))), (8, .int (nI ((fbl (8 * ow + nq)).toNatClampNeg))), (7, .int (nI ow)), (6, .int (nI q9)), (0, .ref h0), (1, .ref p1), (2, .ref p3), (3, .int (nI nq)), (4, .int (nI fm)), (5, .int 8)]) hx hb dX5_work_178 hl (k := 2) rfl (nI_add k9 1) (by decide) rfl (fun ls hl => ?_)
                  refine lv_goto (tgt := 82) hx hb dX5_work_181 (by decide) ?_
                  exact ih_11 (k9 + 1) r_32 q_33 q_34 f_35 (by omega) p_36 p_37 (lp_up hlp c_14 (by omega) (by show Int32.toInt (fbs (12 * (8 * ow + nq) + k9)) = 94; omega) hw_32 p_38) (by omega) _ _ hP hD hS ls (lv_sub hl [0, 1, 3, 4, 5, 6, 7, 8, 9, 10, 11] rfl)
              · have b_20 := gn_gt (X := (Int32.toInt (fbs (12 * (8 * ow + nq) + k9)))) (C := 57) rfl (by decide) c_19
                refine lv_aload_n hx hb dX5_work_119 rfl (lv_at hl 6 rfl) ?_
                refine lv_iload hx hb dX5_work_120 (lv_at hl 0 rfl) ?_
                refine lv_bipush (v := 48) hx hb dX5_work_122 (by decide) ?_
                refine lv_isub hx hb dX5_work_124 ?_
                refine lv_topi (fun z_39 ez_39 => ?_)
                have gz_39 := fx_rng (fbs (12 * (8 * ow + nq) + k9))
                have fz_39 : Int32.toInt z_39 = (Int32.toInt (fbs (12 * (8 * ow + nq) + k9))) - 48 := by rw [ez_39]; exact gx_sub (X := (Int32.toInt (fbs (12 * (8 * ow + nq) + k9)))) (C := 48) rfl (by decide) (by omega) (by omega)
                have hPc := hP.sub (ws' := [(h0, .inr (5, [.ref u0, .int (nI sdx), .int (nI mdx), .int (nI kq)])), (u0, .inl (ku0, 40, .inl fdx))]) [0, 1] rfl
                have hDc := hD.sub (ws' := [(h0, .inr (5, [.ref u0, .int (nI sdx), .int (nI mdx), .int (nI kq)])), (u0, .inl (ku0, 40, .inl fdx))]) [0, 1] (by decide) rfl
                have hKc := hK.sub (tys' := [(ku0, .int)]) [0] rfl
                have hFc := va_free (wc := [(h0, .inr (5, [.ref u0, .int (nI sdx), .int (nI mdx), .int (nI kq)])), (u0, .inl (ku0, 40, .inl fdx))]) hD hS hA [0, 1] rfl
                refine va_calli (va_runV (As := [.int z_39]) (rest := []) ⟨hx, hb, hml, hown, hts⟩ (c_sayD l dC dI H.size h0 u0 sdx mdx kq ku0 fdx z_39 hsx) (cwV 1 hts (gV mw_2_181 mw_2_183 mw_0_5 mw_1_6 mw_2_184) rfl rfl rfl (by decide +kernel) ⟨Nat.le_of_ble_eq_true rfl, Nat.le_of_ble_eq_true rfl⟩) ⟨pcW_blind, va_recv hKc hPc (ci := 5) (q0 := 0) rfl rfl, pcW_at hPc hKc hDc hN⟩ rfl rfl hl.1 rfl (lv_room (Nat.le_of_ble_eq_true rfl)) dX5_work_125 ⟨Nat.le_of_ble_eq_true rfl, Nat.le_of_ble_eq_true rfl⟩) hS (fun q _ h => hFc q h) hFc (fun r_40 u t H1 locs ht hvm hw_40 hB hz1 hk1 hS => ?_)
                obtain ⟨q_41, f_42, p_43, p_44, p_45, hP1, hK1, hD1⟩ := hB
                rw [ht] at hP1
                have hK1 := va_K.moved hvm.symm hK1
                obtain ⟨hP, hD⟩ := va_join (wr := [(p1, .inr (1, [w0, .ref b1, w2, .ref b3, w4, w5, .int (nI cn), w7])), (b1, .inl (kb1, 10, .inl fle)), (b3, .inl (kb3, 100, .inl fli)), (p3, .inr (0, [.ref e0, .ref e1, .ref e2])), (e0, .inl (ke0, 8, .inl fo)), (e1, .inl (ke1, 80, .inl fbl)), (e2, .inl (ke2, 960, .inl fbs))]) (w1 := [(h0, .inr (5, [.ref u0, .int (nI q_41), .int (nI mdx), .int (nI kq)])), (u0, .inl (ku0, 40, .inl f_42))]) hP hD [0, 1] [2, 3, 4, 5, 6, 7, 8] rfl rfl (by decide) (by decide) hk1 hFc hP1 hD1
                have hK := (hK.sub (tys' := [(kb1, .int), (kb3, .int), (ke0, .int), (ke1, .int), (ke2, .char)]) [1, 2, 3, 4, 5] rfl).app hK1
                clear hz1 hk1 hPc hDc hKc hFc
                generalize H1 = H at hP hS ⊢
                have hK : va_K (dC, dI) vwCl [(kb1, .int), (kb3, .int), (ke0, .int), (ke1, .int), (ke2, .char), (ku0, .int)] s := hK
                have hP : va_P (dC, dI) vwCl [(p1, .inr (1, [w0, .ref b1, w2, .ref b3, w4, w5, .int (nI cn), w7])), (b1, .inl (kb1, 10, .inl fle)), (b3, .inl (kb3, 100, .inl fli)), (p3, .inr (0, [.ref e0, .ref e1, .ref e2])), (e0, .inl (ke0, 8, .inl fo)), (e1, .inl (ke1, 80, .inl fbl)), (e2, .inl (ke2, 960, .inl fbs)), (h0, .inr (5, [.ref u0, .int (nI q_41), .int (nI mdx), .int (nI kq)])), (u0, .inl (ku0, 40, .inl f_42))] H := hP
                have hD : va_D A [(p1, .inr (1, [w0, .ref b1, w2, .ref b3, w4, w5, .int (nI cn), w7])), (b1, .inl (kb1, 10, .inl fle)), (b3, .inl (kb3, 100, .inl fli)), (p3, .inr (0, [.ref e0, .ref e1, .ref e2])), (e0, .inl (ke0, 8, .inl fo)), (e1, .inl (ke1, 80, .inl fbl)), (e2, .inl (ke2, 960, .inl fbs)), (h0, .inr (5, [.ref u0, .int (nI q_41), .int (nI mdx), .int (nI kq)])), (u0, .inl (ku0, 40, .inl f_42))] := hD
                refine lv_istore (lv' := [(9, .int r_40), (11, .int (fbs (12 * (8 * ow + nq) + k9))), (10, .int (nI k9)), (8, .int (nI ((fbl (8 * ow + nq)).toNatClampNeg))), (7, .int (nI ow)), (6, .int (nI q9)), (0, .ref h0), (1, .ref p1), (2, .ref p3), (3, .int (nI nq)), (4, .int (nI fm)), (5, .int 8)]) hx hb dX5_work_128 hl (by decide) rfl (fun ls hl => ?_)
                refine lv_goto (tgt := 178) hx hb dX5_work_130 (by decide) ?_
                refine lv_iinc (v := (nI (k9 + 1))) (lv' := [(10, .int (nI (k9 + 1))), (9, .int r_40), (11, .int (fbs (12 * (8 * ow + nq) + k9))), (8, .int (nI ((fbl (8 * ow + nq)).toNatClampNeg))), (7, .int (nI ow)), (6, .int (nI q9)), (0, .ref h0), (1, .ref p1), (2, .ref p3), (3, .int (nI nq)), (4, .int (nI fm)), (5, .int 8)]) hx hb dX5_work_178 hl (k := 2) rfl (nI_add k9 1) (by decide) rfl (fun ls hl => ?_)
                refine lv_goto (tgt := 82) hx hb dX5_work_181 (by decide) ?_
                exact ih_11 (k9 + 1) r_40 q_41 mdx f_42 (by omega) p_43 hmx (by rw [hw_40]; exact lp_dig hlp c_14 (by omega) (by show 48 ≤ Int32.toInt (fbs (12 * (8 * ow + nq) + k9)) ∧ Int32.toInt (fbs (12 * (8 * ow + nq) + k9)) ≤ 57; omega) (by rw [ez_39]) p_44 p_45) (by omega) _ _ (hP.sub (ws' := [(h0, .inr (5, [.ref u0, .int (nI q_41), .int (nI mdx), .int (nI kq)])), (u0, .inl (ku0, 40, .inl f_42)), (p1, .inr (1, [w0, .ref b1, w2, .ref b3, w4, w5, .int (nI cn), w7])), (b1, .inl (kb1, 10, .inl fle)), (b3, .inl (kb3, 100, .inl fli)), (p3, .inr (0, [.ref e0, .ref e1, .ref e2])), (e0, .inl (ke0, 8, .inl fo)), (e1, .inl (ke1, 80, .inl fbl)), (e2, .inl (ke2, 960, .inl fbs))]) [7, 8, 0, 1, 2, 3, 4, 5, 6] rfl) (hD.sub (ws' := [(h0, .inr (5, [.ref u0, .int (nI q_41), .int (nI mdx), .int (nI kq)])), (u0, .inl (ku0, 40, .inl f_42)), (p1, .inr (1, [w0, .ref b1, w2, .ref b3, w4, w5, .int (nI cn), w7])), (b1, .inl (kb1, 10, .inl fle)), (b3, .inl (kb3, 100, .inl fli)), (p3, .inr (0, [.ref e0, .ref e1, .ref e2])), (e0, .inl (ke0, 8, .inl fo)), (e1, .inl (ke1, 80, .inl fbl)), (e2, .inl (ke2, 960, .inl fbs))]) [7, 8, 0, 1, 2, 3, 4, 5, 6] (by decide) rfl) hS ls (lv_sub hl [0, 1, 3, 4, 5, 6, 7, 8, 9, 10, 11] rfl)
      exact key_10 ((12 - 0) + 1) 0 0 sd (md + 1) fd (by omega) hsd (by omega) (wd_inC hw_4 (by omega) (by omega) eow (by omega)).symm (Nat.lt_succ_self _) _ _ hP hD hS ls (lv_sub hl [0, 1, 2, 3, 4, 5, 6, 7, 8, 9, 10] rfl)
  · have b_2 := gn_lt (X := ((md : Nat) : Int)) (C := 200) (nI_toInt (by omega)) (by decide) c_1
    refine lv_iconst (v := 2) hx hb dX5_work_17 (by decide) ?_
    have hP9 := hP.sub (ws' := [(h0, .inr (5, [.ref u0, .int (nI sd), .int (nI md), .int (nI kq)])), (u0, .inl (ku0, 40, .inl fd)), (p1, .inr (1, [w0, .ref b1, w2, .ref b3, w4, w5, .int (nI cn), w7])), (b1, .inl (kb1, 10, .inl fle)), (b3, .inl (kb3, 100, .inl fli)), (p3, .inr (0, [.ref e0, .ref e1, .ref e2])), (e0, .inl (ke0, 8, .inl fo)), (e1, .inl (ke1, 80, .inl fbl)), (e2, .inl (ke2, 960, .inl fbs))]) [0, 1, 2, 3, 4, 5, 6, 7, 8] rfl
    have hD9 := hD.sub (ws' := [(h0, .inr (5, [.ref u0, .int (nI sd), .int (nI md), .int (nI kq)])), (u0, .inl (ku0, 40, .inl fd)), (p1, .inr (1, [w0, .ref b1, w2, .ref b3, w4, w5, .int (nI cn), w7])), (b1, .inl (kb1, 10, .inl fle)), (b3, .inl (kb3, 100, .inl fli)), (p3, .inr (0, [.ref e0, .ref e1, .ref e2])), (e0, .inl (ke0, 8, .inl fo)), (e1, .inl (ke1, 80, .inl fbl)), (e2, .inl (ke2, 960, .inl fbs))]) [0, 1, 2, 3, 4, 5, 6, 7, 8] (by decide) rfl
    have hK9 := hK.sub (tys' := [(ku0, .int), (kb1, .int), (kb3, .int), (ke0, .int), (ke1, .int), (ke2, .char)]) [0, 1, 2, 3, 4, 5] rfl
    exact W.iret (v := 2) hx hb hr (fun t ht hW => ⟨⟨2, (), rfl, (r4 (wd_fuC (d := 1) (Or.inr (by omega)))).1, sd, md, fd, hsd, hmd, (Prod.ext (r4 (wd_fuC (d := 1) (Or.inr (by omega)))).2.1 (Prod.ext (r4 (wd_fuC (d := 1) (Or.inr (by omega)))).2.2.1 (r4 (wd_fuC (d := 1) (Or.inr (by omega)))).2.2.2)), by rw [ht]; exact hP9, va_K.moved hW.alike hK9, hD9⟩, hS.F ht⟩) hS.2.2 dX5_work_18
set_option maxHeartbeats 4000000 in
set_option maxRecDepth 100000 in
theorem c_work7 (l : Launch) (dC : Nat → ClassId) (dI : Nat → Nat → Nat) (sz : Nat) (h0 : Nat) (u0 : Nat) (sd : Nat) (md : Nat) (kq : Nat) (ku0 : ClassId) (fd : Nat → Int32) (p1 : Nat) (w0 : Value) (b1 : Nat) (w2 : Value) (b3 : Nat) (w4 : Value) (w5 : Value) (cn : Nat) (w7 : Value) (kb1 : ClassId) (fle : Nat → Int32) (kb3 : ClassId) (fli : Nat → Int32) (p3 : Nat) (e0 : Nat) (e1 : Nat) (e2 : Nat) (ke0 : ClassId) (fo : Nat → Int32) (ke1 : ClassId) (fbl : Nat → Int32) (ke2 : ClassId) (fbs : Nat → Int32) (nq : Nat) (fm : Nat) (hsd : sd ≤ 40) (hc : cn ≤ 10) (hle : BdOk 10 10 fle) (hbl : BdOk 80 12 fbl) (hbs : ChOk fbs) (hlk : LnOk fle fli cn) (hkq : kq < cn) (hnq : nq < 8) (hfm : fm ≤ 10) (hmd : md ≤ 200) (hcv : CvOk fbl fbs) : Met l yX5_work (wq yX5_work cX5_work 12 (some .int)) ({ frames := 5, cells := 0, slots := 0, locals := 117 }) (va_Pc [.ref h0, .ref p1, .ref p3, .int (nI nq), .int (nI fm), .int 7] (pcW dC dI [(ku0, .int), (kb1, .int), (kb3, .int), (ke0, .int), (ke1, .int), (ke2, .char)] [(h0, .inr (5, [.ref u0, .int (nI sd), .int (nI md), .int (nI kq)])), (u0, .inl (ku0, 40, .inl fd)), (p1, .inr (1, [w0, .ref b1, w2, .ref b3, w4, w5, .int (nI cn), w7])), (b1, .inl (kb1, 10, .inl fle)), (b3, .inl (kb3, 100, .inl fli)), (p3, .inr (0, [.ref e0, .ref e1, .ref e2])), (e0, .inl (ke0, 8, .inl fo)), (e1, .inl (ke1, 80, .inl fbl)), (e2, .inl (ke2, 960, .inl fbs))] sz)) (va_Qi (fun (r : Int32) (_ : Unit) => r = (wdC fle fli fo fbl fbs cn kq 2 nq fm (md, sd, fd)).1) (fun _ t => ∃ (sd2 : Nat) (md2 : Nat) (fd2 : Nat → Int32), (sd2 ≤ 40) ∧ (md2 ≤ 200) ∧ ((md2, sd2, fd2) = (wdC fle fli fo fbl fbs cn kq 2 nq fm (md, sd, fd)).2) ∧ va_P (dC, dI) vwCl [(h0, .inr (5, [.ref u0, .int (nI sd2), .int (nI md2), .int (nI kq)])), (u0, .inl (ku0, 40, .inl fd2)), (p1, .inr (1, [w0, .ref b1, w2, .ref b3, w4, w5, .int (nI cn), w7])), (b1, .inl (kb1, 10, .inl fle)), (b3, .inl (kb3, 100, .inl fli)), (p3, .inr (0, [.ref e0, .ref e1, .ref e2])), (e0, .inl (ke0, 8, .inl fo)), (e1, .inl (ke1, 80, .inl fbl)), (e2, .inl (ke2, 960, .inl fbs))] t.heap ∧ va_K (dC, dI) vwCl [(ku0, .int), (kb1, .int), (kb3, .int), (ke0, .int), (ke1, .int), (ke2, .char)] t ∧ va_D (va_A [(h0, .inr (5, [.ref u0, .int (nI sd), .int (nI md), .int (nI kq)])), (u0, .inl (ku0, 40, .inl fd)), (p1, .inr (1, [w0, .ref b1, w2, .ref b3, w4, w5, .int (nI cn), w7])), (b1, .inl (kb1, 10, .inl fle)), (b3, .inl (kb3, 100, .inl fli)), (p3, .inr (0, [.ref e0, .ref e1, .ref e2])), (e0, .inl (ke0, 8, .inl fo)), (e1, .inl (ke1, 80, .inl fbl)), (e2, .inl (ke2, 960, .inl fbs))] sz) [(h0, .inr (5, [.ref u0, .int (nI sd2), .int (nI md2), .int (nI kq)])), (u0, .inl (ku0, 40, .inl fd2)), (p1, .inr (1, [w0, .ref b1, w2, .ref b3, w4, w5, .int (nI cn), w7])), (b1, .inl (kb1, 10, .inl fle)), (b3, .inl (kb3, 100, .inl fli)), (p3, .inr (0, [.ref e0, .ref e1, .ref e2])), (e0, .inl (ke0, 8, .inl fo)), (e1, .inl (ke1, 80, .inl fbl)), (e2, .inl (ke2, 960, .inl fbs))]) (va_A [(h0, .inr (5, [.ref u0, .int (nI sd), .int (nI md), .int (nI kq)])), (u0, .inl (ku0, 40, .inl fd)), (p1, .inr (1, [w0, .ref b1, w2, .ref b3, w4, w5, .int (nI cn), w7])), (b1, .inl (kb1, 10, .inl fle)), (b3, .inl (kb3, 100, .inl fli)), (p3, .inr (0, [.ref e0, .ref e1, .ref e2])), (e0, .inl (ke0, 8, .inl fo)), (e1, .inl (ke1, 80, .inl fbl)), (e2, .inl (ke2, 960, .inl fbs))] sz)) 0 0 (va_A [(h0, .inr (5, [.ref u0, .int (nI sd), .int (nI md), .int (nI kq)])), (u0, .inl (ku0, 40, .inl fd)), (p1, .inr (1, [w0, .ref b1, w2, .ref b3, w4, w5, .int (nI cn), w7])), (b1, .inl (kb1, 10, .inl fle)), (b3, .inl (kb3, 100, .inl fli)), (p3, .inr (0, [.ref e0, .ref e1, .ref e2])), (e0, .inl (ke0, 8, .inl fo)), (e1, .inl (ke1, 80, .inl fbl)), (e2, .inl (ke2, 960, .inl fbs))] sz) := by
  refine Met.ofW (cc := cX5_work) (maxL := 12) (ret := (some .int)) (by decide) rfl ?_
  intro p e s m args below meth c s₁ B hml hv
  obtain ⟨rfl, hsz, hN, hP, hK, hD0⟩ := hv
  have hx := B.exec
  have hb := B.bytes
  have hr := B.returns
  have hts0 := atoms_spec (ws := (wq yX5_work cX5_work 12 (some .int))) B.pre
  have hts : ∀ w ∈ BG, w.before _ s = true := fun w h => hts0 w (List.mem_cons_of_mem _ h)
  have hown : s.vm.findClass RX5 = some m.cls := findClass_of_methodNamed B.named
  have hlocks := B.notSynchronized
  subst hsz
  have hD := hD0.self (sz := s.heap.size)
  generalize hAe : va_A [(h0, .inr (5, [.ref u0, .int (nI sd), .int (nI md), .int (nI kq)])), (u0, .inl (ku0, 40, .inl fd)), (p1, .inr (1, [w0, .ref b1, w2, .ref b3, w4, w5, .int (nI cn), w7])), (b1, .inl (kb1, 10, .inl fle)), (b3, .inl (kb3, 100, .inl fli)), (p3, .inr (0, [.ref e0, .ref e1, .ref e2])), (e0, .inl (ke0, 8, .inl fo)), (e1, .inl (ke1, 80, .inl fbl)), (e2, .inl (ke2, 960, .inl fbs))] s.heap.size = A at hD ⊢
  have hA : ∀ q : Nat, s.heap.size ≤ q → A q := fun q h => by rw [← hAe]; exact Or.inr h
  have hS : va_S A s.heap s.heap [] := va_S.rf
  clear hAe hD0
  have hP : va_P (dC, dI) vwCl [(h0, .inr (5, [.ref u0, .int (nI sd), .int (nI md), .int (nI kq)])), (u0, .inl (ku0, 40, .inl fd)), (p1, .inr (1, [w0, .ref b1, w2, .ref b3, w4, w5, .int (nI cn), w7])), (b1, .inl (kb1, 10, .inl fle)), (b3, .inl (kb3, 100, .inl fli)), (p3, .inr (0, [.ref e0, .ref e1, .ref e2])), (e0, .inl (ke0, 8, .inl fo)), (e1, .inl (ke1, 80, .inl fbl)), (e2, .inl (ke2, 960, .inl fbs))] s.heap := hP
  have hl := lv_entry ([.ref h0, .ref p1, .ref p3, .int (nI nq), .int (nI fm), .int 7]) (n := 12) (Nat.le_of_ble_eq_true rfl)
  rw [lg_entry_eq]
  generalize (lg_sl ([.ref h0, .ref p1, .ref p3, .int (nI nq), .int (nI fm), .int 7]) ++ List.replicate (12 - (lg_sl ([.ref h0, .ref p1, .ref p3, .int (nI nq), .int (nI fm), .int 7])).length) Slot.unset).toArray = ls at hl ⊢
  have hl : lv_has ls 12 [(0, .ref h0), (1, .ref p1), (2, .ref p3), (3, .int (nI nq)), (4, .int (nI fm)), (5, .int 7)] := hl
  have hle9 := lenN_le (n := nI kq) hc hle
  refine lv_iload hx hb dX5_work_0 (lv_at hl 5 rfl) ?_
  refine lv_bipush (v := 9) hx hb dX5_work_2 (by decide) ?_
  refine lv_icmp_ge (tgt := 17) hx hb dX5_work_4 (by decide) (fun h => absurd h (by decide)) (fun _ => ?_)
  refine lv_aload_n hx hb dX5_work_7 rfl (lv_at hl 0 rfl) ?_
  refine va_get (D := (dC, dI)) (ci := 5) (v := .int (nI md)) (C := RX5) (T := TX5) (N := 4) hx hb hts inB_5 hown hK hP 0 rfl rfl 2 (by decide) (hts _ mw_1_110) (fun _ h9 => h9) rfl dX5_work_8 ?_
  refine lv_sipush (v := 200) hx hb dX5_work_11 (by decide) ?_
  refine lv_icmp_lt (tgt := 19) hx hb dX5_work_14 (by decide) (fun c_1 => ?_) (fun c_1 => ?_)
  · have b_2 := gx_lt (X := ((md : Nat) : Int)) (C := 200) (nI_toInt (by omega)) (by decide) c_1
    refine lv_aload_n hx hb dX5_work_19 rfl (lv_at hl 0 rfl) ?_
    refine lv_dup hx hb dX5_work_20 rfl ?_
    refine va_get (D := (dC, dI)) (ci := 5) (v := .int (nI md)) (C := RX5) (T := TX5) (N := 4) hx hb hts inB_5 hown hK hP 0 rfl rfl 2 (by decide) (hts _ mw_1_110) (fun _ h9 => h9) rfl dX5_work_21 ?_
    refine lv_iconst (v := 1) hx hb dX5_work_24 (by decide) ?_
    refine lv_iadd hx hb dX5_work_25 ?_
    refine hx_top (y := (nI (md + 1))) (nI_add md 1) ?_
    refine va_put (D := (dC, dI)) (ci := 5) (v := .int (nI (md + 1))) (ty := .int) (C := RX5) (T := TX5) (N := 4) hx hb hts inB_5 tyX5 tyX5_ok nmX5 hown hK hP hD hS 0 rfl rfl 2 (by decide) (hts _ mw_1_110) (fun _ h9 => h9) rfl (by decide +kernel) rfl rfl (Nat.le_of_ble_eq_true rfl) dX5_work_26 (fun H locs hP hD hS => ?_)
    have hP : va_P (dC, dI) vwCl [(h0, .inr (5, [.ref u0, .int (nI sd), .int (nI (md + 1)), .int (nI kq)])), (u0, .inl (ku0, 40, .inl fd)), (p1, .inr (1, [w0, .ref b1, w2, .ref b3, w4, w5, .int (nI cn), w7])), (b1, .inl (kb1, 10, .inl fle)), (b3, .inl (kb3, 100, .inl fli)), (p3, .inr (0, [.ref e0, .ref e1, .ref e2])), (e0, .inl (ke0, 8, .inl fo)), (e1, .inl (ke1, 80, .inl fbl)), (e2, .inl (ke2, 960, .inl fbs))] H := hP
    have hD : va_D A [(h0, .inr (5, [.ref u0, .int (nI sd), .int (nI (md + 1)), .int (nI kq)])), (u0, .inl (ku0, 40, .inl fd)), (p1, .inr (1, [w0, .ref b1, w2, .ref b3, w4, w5, .int (nI cn), w7])), (b1, .inl (kb1, 10, .inl fle)), (b3, .inl (kb3, 100, .inl fli)), (p3, .inr (0, [.ref e0, .ref e1, .ref e2])), (e0, .inl (ke0, 8, .inl fo)), (e1, .inl (ke1, 80, .inl fbl)), (e2, .inl (ke2, 960, .inl fbs))] := hD
    refine lv_aload_n hx hb dX5_work_29 rfl (lv_at hl 1 rfl) ?_
    refine lv_aload_n hx hb dX5_work_30 rfl (lv_at hl 0 rfl) ?_
    refine va_get (D := (dC, dI)) (ci := 5) (v := .int (nI kq)) (C := RX5) (T := TX5) (N := 4) hx hb hts inB_5 hown hK hP 0 rfl rfl 3 (by decide) (hts _ mw_1_111) (fun _ h9 => h9) rfl dX5_work_31 ?_
    refine lv_aload_n hx hb dX5_work_34 rfl (lv_at hl 2 rfl) ?_
    refine lv_iload_n hx hb dX5_work_35 rfl (lv_at hl 3 rfl) ?_
    have hPc := hP.sub (ws' := [(p3, .inr (0, [.ref e0, .ref e1, .ref e2])), (e0, .inl (ke0, 8, .inl fo))]) [5, 6] rfl
    have hDc := hD.sub (ws' := [(p3, .inr (0, [.ref e0, .ref e1, .ref e2])), (e0, .inl (ke0, 8, .inl fo))]) [5, 6] (by decide) rfl
    have hKc := hK.sub (tys' := [(ke0, .int)]) [3] rfl
    refine va_calli (va_runV (As := [.int (nI nq)]) (rest := [.int (nI kq), .ref p1]) ⟨hx, hb, hml, hown, hts⟩ (c_own l dC dI H.size p3 e0 (.ref e1) (.ref e2) ke0 fo nq hnq) (cwV 1 hts (gV mw_2_169 mw_2_105 mw_2_106 mw_1_5 mw_2_107) rfl rfl rfl (by decide +kernel) ⟨Nat.le_of_ble_eq_true rfl, Nat.le_of_ble_eq_true rfl⟩) ⟨pcW_blind, va_recv hKc hPc (ci := 0) (q0 := 0) rfl rfl, pcW_at hPc hKc hDc hN⟩ rfl rfl hl.1 rfl (lv_room (Nat.le_of_ble_eq_true rfl)) dX5_work_36 ⟨Nat.le_of_ble_eq_true rfl, Nat.le_of_ble_eq_true rfl⟩) hS (fun q h1 h2 => absurd h2 (Nat.not_le.mpr h1)) (fun q h => hA q (Nat.le_trans hS.1 h)) (fun r_3 u t H1 locs ht hvm hw_3 hB hz1 hk1 hS => ?_)
    have hP := keepP hP hk1
    clear hz1 hk1 hB ht hvm hPc hDc hKc
    generalize H1 = H at hP hS ⊢
    obtain rfl : r_3 = (fo nq) := hw_3
    refine lv_iload hx hb dX5_work_39 (lv_at hl 4 rfl) ?_
    have hPc := hP.sub (ws' := [(p1, .inr (1, [w0, .ref b1, w2, .ref b3, w4, w5, .int (nI cn), w7])), (b1, .inl (kb1, 10, .inl fle)), (b3, .inl (kb3, 100, .inl fli))]) [2, 3, 4] rfl
    have hDc := hD.sub (ws' := [(p1, .inr (1, [w0, .ref b1, w2, .ref b3, w4, w5, .int (nI cn), w7])), (b1, .inl (kb1, 10, .inl fle)), (b3, .inl (kb3, 100, .inl fli))]) [2, 3, 4] (by decide) rfl
    have hKc := hK.sub (tys' := [(kb1, .int), (kb3, .int)]) [1, 2] rfl
    refine va_calli (va_runV (As := [.int (nI kq), .int (fo nq), .int (nI fm)]) (rest := []) ⟨hx, hb, hml, hown, hts⟩ (c_whereFirst l dC dI H.size p1 (w0) b1 (w2) b3 (w4) (w5) cn (w7) kb1 fle kb3 fli kq (fo nq) fm hc hle hlk hkq (by omega)) (cwV 3 hts (gV mw_2_170 mw_2_146 mw_2_147 mw_1_2 mw_2_148) rfl rfl rfl (by decide +kernel) ⟨Nat.le_of_ble_eq_true rfl, Nat.le_of_ble_eq_true rfl⟩) ⟨pcW_blind, va_recv hKc hPc (ci := 1) (q0 := 0) rfl rfl, pcW_at hPc hKc hDc hN⟩ rfl rfl hl.1 rfl (lv_room (Nat.le_of_ble_eq_true rfl)) dX5_work_41 ⟨Nat.le_of_ble_eq_true rfl, Nat.le_of_ble_eq_true rfl⟩) hS (fun q h1 h2 => absurd h2 (Nat.not_le.mpr h1)) (fun q h => hA q (Nat.le_trans hS.1 h)) (fun r_4 u t H1 locs ht hvm hw_4 hB hz1 hk1 hS => ?_)
    have hP := keepP hP hk1
    clear hz1 hk1 hB ht hvm hPc hDc hKc
    generalize H1 = H at hP hS ⊢
    refine lv_istore (lv' := [(6, .int r_4), (0, .ref h0), (1, .ref p1), (2, .ref p3), (3, .int (nI nq)), (4, .int (nI fm)), (5, .int 7)]) hx hb dX5_work_44 hl (by decide) rfl (fun ls hl => ?_)
    rcases wf_cases hw_4 with eq9 | ⟨q9, hq9, eq9⟩
    · subst eq9
      refine lv_iload hx hb dX5_work_46 (lv_at hl 0 rfl) ?_
      refine lv_bipush (v := (-6)) hx hb dX5_work_48 (by decide) ?_
      refine lv_icmp_ne (tgt := 55) hx hb dX5_work_50 (by decide) (fun h => absurd h (by decide)) (fun _ => ?_)
      refine lv_iconst (v := 1) hx hb dX5_work_53 (by decide) ?_
      have hP9 := hP.sub (ws' := [(h0, .inr (5, [.ref u0, .int (nI sd), .int (nI (md + 1)), .int (nI kq)])), (u0, .inl (ku0, 40, .inl fd)), (p1, .inr (1, [w0, .ref b1, w2, .ref b3, w4, w5, .int (nI cn), w7])), (b1, .inl (kb1, 10, .inl fle)), (b3, .inl (kb3, 100, .inl fli)), (p3, .inr (0, [.ref e0, .ref e1, .ref e2])), (e0, .inl (ke0, 8, .inl fo)), (e1, .inl (ke1, 80, .inl fbl)), (e2, .inl (ke2, 960, .inl fbs))]) [0, 1, 2, 3, 4, 5, 6, 7, 8] rfl
      have hD9 := hD.sub (ws' := [(h0, .inr (5, [.ref u0, .int (nI sd), .int (nI (md + 1)), .int (nI kq)])), (u0, .inl (ku0, 40, .inl fd)), (p1, .inr (1, [w0, .ref b1, w2, .ref b3, w4, w5, .int (nI cn), w7])), (b1, .inl (kb1, 10, .inl fle)), (b3, .inl (kb3, 100, .inl fli)), (p3, .inr (0, [.ref e0, .ref e1, .ref e2])), (e0, .inl (ke0, 8, .inl fo)), (e1, .inl (ke1, 80, .inl fbl)), (e2, .inl (ke2, 960, .inl fbs))]) [0, 1, 2, 3, 4, 5, 6, 7, 8] (by decide) rfl
      have hK9 := hK.sub (tys' := [(ku0, .int), (kb1, .int), (kb3, .int), (ke0, .int), (ke1, .int), (ke2, .char)]) [0, 1, 2, 3, 4, 5] rfl
      exact W.iret (v := 1) hx hb hr (fun t ht hW => ⟨⟨1, (), rfl, (r4 (wd_noC (d := 1) hw_4 (by omega))).1, sd, (md + 1), fd, hsd, (by omega), (Prod.ext (r4 (wd_noC (d := 1) hw_4 (by omega))).2.1 (Prod.ext (r4 (wd_noC (d := 1) hw_4 (by omega))).2.2.1 (r4 (wd_noC (d := 1) hw_4 (by omega))).2.2.2)), by rw [ht]; exact hP9, va_K.moved hW.alike hK9, hD9⟩, hS.F ht⟩) hS.2.2 dX5_work_54
    · subst eq9
      refine lv_iload hx hb dX5_work_46 (lv_at hl 0 rfl) ?_
      refine lv_bipush (v := (-6)) hx hb dX5_work_48 (by decide) ?_
      refine lv_icmp_ne (tgt := 55) hx hb dX5_work_50 (by decide) (fun c_5 => ?_) (fun h => absurd (gn_ne (X := ((q9 : Nat) : Int)) (C := (-6)) (nI_toInt (by omega)) (by decide) h) (by omega))
      have b_6 := gx_ne (X := ((q9 : Nat) : Int)) (C := (-6)) (nI_toInt (by omega)) (by decide) c_5
      refine lv_aload_n hx hb dX5_work_55 rfl (lv_at hl 2 rfl) ?_
      refine lv_aload_n hx hb dX5_work_56 rfl (lv_at hl 1 rfl) ?_
      refine va_get (D := (dC, dI)) (ci := 5) (v := .int (nI kq)) (C := RX5) (T := TX5) (N := 4) hx hb hts inB_5 hown hK hP 0 rfl rfl 3 (by decide) (hts _ mw_1_111) (fun _ h9 => h9) rfl dX5_work_57 ?_
      refine lv_iload hx hb dX5_work_60 (lv_at hl 0 rfl) ?_
      have hPc := hP.sub (ws' := [(p1, .inr (1, [w0, .ref b1, w2, .ref b3, w4, w5, .int (nI cn), w7])), (b1, .inl (kb1, 10, .inl fle)), (b3, .inl (kb3, 100, .inl fli))]) [2, 3, 4] rfl
      have hDc := hD.sub (ws' := [(p1, .inr (1, [w0, .ref b1, w2, .ref b3, w4, w5, .int (nI cn), w7])), (b1, .inl (kb1, 10, .inl fle)), (b3, .inl (kb3, 100, .inl fli))]) [2, 3, 4] (by decide) rfl
      have hKc := hK.sub (tys' := [(kb1, .int), (kb3, .int)]) [1, 2] rfl
      refine va_calli (va_runV (As := [.int (nI kq), .int (nI q9)]) (rest := []) ⟨hx, hb, hml, hown, hts⟩ (c_inLine l dC dI H.size p1 (w0) b1 (w2) b3 (w4) (w5) cn (w7) kb1 fle kb3 fli kq q9 hc hle (by omega) hkq) (cwV 2 hts (gV mw_2_171 mw_1_234 mw_1_235 mw_1_2 mw_1_236) rfl rfl rfl (by decide +kernel) ⟨Nat.le_of_ble_eq_true rfl, Nat.le_of_ble_eq_true rfl⟩) ⟨pcW_blind, va_recv hKc hPc (ci := 1) (q0 := 0) rfl rfl, pcW_at hPc hKc hDc hN⟩ rfl rfl hl.1 rfl (lv_room (Nat.le_of_ble_eq_true rfl)) dX5_work_62 ⟨Nat.le_of_ble_eq_true rfl, Nat.le_of_ble_eq_true rfl⟩) hS (fun q h1 h2 => absurd h2 (Nat.not_le.mpr h1)) (fun q h => hA q (Nat.le_trans hS.1 h)) (fun r_7 u t H1 locs ht hvm hw_7 hB hz1 hk1 hS => ?_)
      have hP := keepP hP hk1
      clear hz1 hk1 hB ht hvm hPc hDc hKc
      generalize H1 = H at hP hS ⊢
      obtain rfl : r_7 = (fli (10 * kq + q9)) := hw_7
      obtain ⟨ow, how, eow⟩ := hlk kq (by omega) q9 (by rw [← lenN_k (f := fle) (c := cn) (by omega) (by omega)]; exact hq9)
      refine hx_top (y := (nI ow)) eow ?_
      refine lv_istore (lv' := [(7, .int (nI ow)), (6, .int (nI q9)), (0, .ref h0), (1, .ref p1), (2, .ref p3), (3, .int (nI nq)), (4, .int (nI fm)), (5, .int 7)]) hx hb dX5_work_65 hl (by decide) rfl (fun ls hl => ?_)
      refine lv_aload_n hx hb dX5_work_67 rfl (lv_at hl 4 rfl) ?_
      refine lv_iload hx hb dX5_work_68 (lv_at hl 0 rfl) ?_
      refine lv_iload_n hx hb dX5_work_70 rfl (lv_at hl 5 rfl) ?_
      have hPc := hP.sub (ws' := [(p3, .inr (0, [.ref e0, .ref e1, .ref e2])), (e1, .inl (ke1, 80, .inl fbl))]) [5, 7] rfl
      have hDc := hD.sub (ws' := [(p3, .inr (0, [.ref e0, .ref e1, .ref e2])), (e1, .inl (ke1, 80, .inl fbl))]) [5, 7] (by decide) rfl
      have hKc := hK.sub (tys' := [(ke1, .int)]) [4] rfl
      refine va_calli (va_runV (As := [.int (nI ow), .int (nI nq)]) (rest := []) ⟨hx, hb, hml, hown, hts⟩ (c_blenN l dC dI H.size p3 (.ref e0) e1 (.ref e2) ke1 fbl ow nq hbl (by omega) hnq) (cwV 2 hts (gV mw_2_172 mw_2_173 mw_2_174 mw_1_5 mw_2_175) rfl rfl rfl (by decide +kernel) ⟨Nat.le_of_ble_eq_true rfl, Nat.le_of_ble_eq_true rfl⟩) ⟨pcW_blind, va_recv hKc hPc (ci := 0) (q0 := 0) rfl rfl, pcW_at hPc hKc hDc hN⟩ rfl rfl hl.1 rfl (lv_room (Nat.le_of_ble_eq_true rfl)) dX5_work_71 ⟨Nat.le_of_ble_eq_true rfl, Nat.le_of_ble_eq_true rfl⟩) hS (fun q h1 h2 => absurd h2 (Nat.not_le.mpr h1)) (fun q h => hA q (Nat.le_trans hS.1 h)) (fun r_8 u t H1 locs ht hvm hw_8 hB hz1 hk1 hS => ?_)
      have hP := keepP hP hk1
      clear hz1 hk1 hB ht hvm hPc hDc hKc
      generalize H1 = H at hP hS ⊢
      obtain rfl : r_8 = nI ((fbl (8 * ow + nq)).toNatClampNeg) := hw_8
      have b_9 := (bd_cle0 hbl (show 8 * ow + nq < 80 by omega) : (fbl (8 * ow + nq)).toNatClampNeg ≤ 12)
      refine lv_istore (lv' := [(8, .int (nI ((fbl (8 * ow + nq)).toNatClampNeg))), (7, .int (nI ow)), (6, .int (nI q9)), (0, .ref h0), (1, .ref p1), (2, .ref p3), (3, .int (nI nq)), (4, .int (nI fm)), (5, .int 7)]) hx hb dX5_work_74 hl (by decide) rfl (fun ls hl => ?_)
      refine lv_iconst (v := 0) hx hb dX5_work_76 (by decide) ?_
      refine lv_istore (lv' := [(9, .int 0), (8, .int (nI ((fbl (8 * ow + nq)).toNatClampNeg))), (7, .int (nI ow)), (6, .int (nI q9)), (0, .ref h0), (1, .ref p1), (2, .ref p3), (3, .int (nI nq)), (4, .int (nI fm)), (5, .int 7)]) hx hb dX5_work_77 hl (by decide) rfl (fun ls hl => ?_)
      refine lv_iconst (v := 0) hx hb dX5_work_79 (by decide) ?_
      refine lv_istore (lv' := [(10, .int 0), (9, .int 0), (8, .int (nI ((fbl (8 * ow + nq)).toNatClampNeg))), (7, .int (nI ow)), (6, .int (nI q9)), (0, .ref h0), (1, .ref p1), (2, .ref p3), (3, .int (nI nq)), (4, .int (nI fm)), (5, .int 7)]) hx hb dX5_work_80 hl (by decide) rfl (fun ls hl => ?_)
      have key_10 : ∀ (fu : Nat) (k9 : Nat) (en : Int32) (sdx : Nat) (mdx : Nat) (fdx : Nat → Int32), (k9 ≤ 12) → (sdx ≤ 40) → (mdx ≤ 200) → (sgL (wdC fle fli fo fbl fbs cn kq 1) nq q9 (fun i => fbs (12 * (8 * ow + nq) + i)) ((fbl (8 * ow + nq)).toNatClampNeg - k9) k9 (en, mdx, sdx, fdx) = (wdC fle fli fo fbl fbs cn kq 2 nq fm (md, sd, fd))) → 12 - k9 < fu → ∀ (H : Heap) (locs : List Loc), va_P (dC, dI) vwCl [(h0, .inr (5, [.ref u0, .int (nI sdx), .int (nI mdx), .int (nI kq)])), (u0, .inl (ku0, 40, .inl fdx)), (p1, .inr (1, [w0, .ref b1, w2, .ref b3, w4, w5, .int (nI cn), w7])), (b1, .inl (kb1, 10, .inl fle)), (b3, .inl (kb3, 100, .inl fli)), (p3, .inr (0, [.ref e0, .ref e1, .ref e2])), (e0, .inl (ke0, 8, .inl fo)), (e1, .inl (ke1, 80, .inl fbl)), (e2, .inl (ke2, 960, .inl fbs))] H → va_D A [(h0, .inr (5, [.ref u0, .int (nI sdx), .int (nI mdx), .int (nI kq)])), (u0, .inl (ku0, 40, .inl fdx)), (p1, .inr (1, [w0, .ref b1, w2, .ref b3, w4, w5, .int (nI cn), w7])), (b1, .inl (kb1, 10, .inl fle)), (b3, .inl (kb3, 100, .inl fli)), (p3, .inr (0, [.ref e0, .ref e1, .ref e2])), (e0, .inl (ke0, 8, .inl fo)), (e1, .inl (ke1, 80, .inl fbl)), (e2, .inl (ke2, 960, .inl fbs))] → va_S A s.heap H locs → ∀ (ls : Array Slot), lv_has ls 12 [(10, .int (nI k9)), (9, .int en), (8, .int (nI ((fbl (8 * ow + nq)).toNatClampNeg))), (7, .int (nI ow)), (6, .int (nI q9)), (0, .ref h0), (1, .ref p1), (2, .ref p3), (3, .int (nI nq)), (4, .int (nI fm)), (5, .int 7)] → W p l e (headSpec (wq yX5_work cX5_work 12 (some .int)) ({ frames := 5, cells := 0, slots := 0, locals := 117 })).room s m (([.ref h0, .ref p1, .ref p3, .int (nI nq), .int (nI fm), .int 7] : List Value)).toArray below meth c H locs 0 0 (MQ below (va_Qi (fun (r : Int32) (_ : Unit) => r = (wdC fle fli fo fbl fbs cn kq 2 nq fm (md, sd, fd)).1) (fun _ t => ∃ (sd2 : Nat) (md2 : Nat) (fd2 : Nat → Int32), (sd2 ≤ 40) ∧ (md2 ≤ 200) ∧ ((md2, sd2, fd2) = (wdC fle fli fo fbl fbs cn kq 2 nq fm (md, sd, fd)).2) ∧ va_P (dC, dI) vwCl [(h0, .inr (5, [.ref u0, .int (nI sd2), .int (nI md2), .int (nI kq)])), (u0, .inl (ku0, 40, .inl fd2)), (p1, .inr (1, [w0, .ref b1, w2, .ref b3, w4, w5, .int (nI cn), w7])), (b1, .inl (kb1, 10, .inl fle)), (b3, .inl (kb3, 100, .inl fli)), (p3, .inr (0, [.ref e0, .ref e1, .ref e2])), (e0, .inl (ke0, 8, .inl fo)), (e1, .inl (ke1, 80, .inl fbl)), (e2, .inl (ke2, 960, .inl fbs))] t.heap ∧ va_K (dC, dI) vwCl [(ku0, .int), (kb1, .int), (kb3, .int), (ke0, .int), (ke1, .int), (ke2, .char)] t ∧ va_D A [(h0, .inr (5, [.ref u0, .int (nI sd2), .int (nI md2), .int (nI kq)])), (u0, .inl (ku0, 40, .inl fd2)), (p1, .inr (1, [w0, .ref b1, w2, .ref b3, w4, w5, .int (nI cn), w7])), (b1, .inl (kb1, 10, .inl fle)), (b3, .inl (kb3, 100, .inl fli)), (p3, .inr (0, [.ref e0, .ref e1, .ref e2])), (e0, .inl (ke0, 8, .inl fo)), (e1, .inl (ke1, 80, .inl fbl)), (e2, .inl (ke2, 960, .inl fbs))]) A) (([.ref h0, .ref p1, .ref p3, .int (nI nq), .int (nI fm), .int 7] : List Value)).toArray s 0 0 A) (F0 m 82 ls []) := by
        intro fu
        induction fu with
        | zero => intro k9 en sdx mdx fdx hk hsx hmx hlp hme; exact absurd hme (Nat.not_lt_zero _)
        | succ fu ih_11 =>
          intro k9 en sdx mdx fdx hk hsx hmx hlp hme H locs hP hD hS ls hl
          refine lv_iload hx hb dX5_work_82 (lv_at hl 0 rfl) ?_
          refine lv_iload hx hb dX5_work_84 (lv_at hl 2 rfl) ?_
          refine lv_icmp_ge (tgt := 184) hx hb dX5_work_86 (by decide) (fun c_12 => ?_) (fun c_12 => ?_)
          · have b_13 := gx_ge (X := ((k9 : Nat) : Int)) (C := (((fbl (8 * ow + nq)).toNatClampNeg : Nat) : Int)) (nI_toInt (by omega)) (nI_toInt (by omega)) c_12
            refine lv_iload hx hb dX5_work_184 (lv_at hl 1 rfl) ?_
            have hP9 := hP.sub (ws' := [(h0, .inr (5, [.ref u0, .int (nI sdx), .int (nI mdx), .int (nI kq)])), (u0, .inl (ku0, 40, .inl fdx)), (p1, .inr (1, [w0, .ref b1, w2, .ref b3, w4, w5, .int (nI cn), w7])), (b1, .inl (kb1, 10, .inl fle)), (b3, .inl (kb3, 100, .inl fli)), (p3, .inr (0, [.ref e0, .ref e1, .ref e2])), (e0, .inl (ke0, 8, .inl fo)), (e1, .inl (ke1, 80, .inl fbl)), (e2, .inl (ke2, 960, .inl fbs))]) [0, 1, 2, 3, 4, 5, 6, 7, 8] rfl
            have hD9 := hD.sub (ws' := [(h0, .inr (5, [.ref u0, .int (nI sdx), .int (nI mdx), .int (nI kq)])), (u0, .inl (ku0, 40, .inl fdx)), (p1, .inr (1, [w0, .ref b1, w2, .ref b3, w4, w5, .int (nI cn), w7])), (b1, .inl (kb1, 10, .inl fle)), (b3, .inl (kb3, 100, .inl fli)), (p3, .inr (0, [.ref e0, .ref e1, .ref e2])), (e0, .inl (ke0, 8, .inl fo)), (e1, .inl (ke1, 80, .inl fbl)), (e2, .inl (ke2, 960, .inl fbs))]) [0, 1, 2, 3, 4, 5, 6, 7, 8] (by decide) rfl
            have hK9 := hK.sub (tys' := [(ku0, .int), (kb1, .int), (kb3, .int), (ke0, .int), (ke1, .int), (ke2, .char)]) [0, 1, 2, 3, 4, 5] rfl
            exact W.iret (v := en) hx hb hr (fun t ht hW => ⟨⟨en, (), rfl, (r4 ((sgl_end (Or.inl (by omega))).symm.trans hlp)).1, sdx, mdx, fdx, hsx, hmx, (Prod.ext (r4 ((sgl_end (Or.inl (by omega))).symm.trans hlp)).2.1 (Prod.ext (r4 ((sgl_end (Or.inl (by omega))).symm.trans hlp)).2.2.1 (r4 ((sgl_end (Or.inl (by omega))).symm.trans hlp)).2.2.2)), by rw [ht]; exact hP9, va_K.moved hW.alike hK9, hD9⟩, hS.F ht⟩) hS.2.2 dX5_work_186
          · have b_13 := gn_ge (X := ((k9 : Nat) : Int)) (C := (((fbl (8 * ow + nq)).toNatClampNeg : Nat) : Int)) (nI_toInt (by omega)) (nI_toInt (by omega)) c_12
            refine lv_iload hx hb dX5_work_89 (lv_at hl 1 rfl) ?_
            refine lv_if_ne (tgt := 184) hx hb dX5_work_91 (by decide) (fun c_14 => ?_) (fun c_14 => ?_)
            · have b_15 := gx_ne (X := (Int32.toInt en)) (C := 0) rfl (by decide) c_14
              refine lv_iload hx hb dX5_work_184 (lv_at hl 1 rfl) ?_
              have hP9 := hP.sub (ws' := [(h0, .inr (5, [.ref u0, .int (nI sdx), .int (nI mdx), .int (nI kq)])), (u0, .inl (ku0, 40, .inl fdx)), (p1, .inr (1, [w0, .ref b1, w2, .ref b3, w4, w5, .int (nI cn), w7])), (b1, .inl (kb1, 10, .inl fle)), (b3, .inl (kb3, 100, .inl fli)), (p3, .inr (0, [.ref e0, .ref e1, .ref e2])), (e0, .inl (ke0, 8, .inl fo)), (e1, .inl (ke1, 80, .inl fbl)), (e2, .inl (ke2, 960, .inl fbs))]) [0, 1, 2, 3, 4, 5, 6, 7, 8] rfl
              have hD9 := hD.sub (ws' := [(h0, .inr (5, [.ref u0, .int (nI sdx), .int (nI mdx), .int (nI kq)])), (u0, .inl (ku0, 40, .inl fdx)), (p1, .inr (1, [w0, .ref b1, w2, .ref b3, w4, w5, .int (nI cn), w7])), (b1, .inl (kb1, 10, .inl fle)), (b3, .inl (kb3, 100, .inl fli)), (p3, .inr (0, [.ref e0, .ref e1, .ref e2])), (e0, .inl (ke0, 8, .inl fo)), (e1, .inl (ke1, 80, .inl fbl)), (e2, .inl (ke2, 960, .inl fbs))]) [0, 1, 2, 3, 4, 5, 6, 7, 8] (by decide) rfl
              have hK9 := hK.sub (tys' := [(ku0, .int), (kb1, .int), (kb3, .int), (ke0, .int), (ke1, .int), (ke2, .char)]) [0, 1, 2, 3, 4, 5] rfl
              exact W.iret (v := en) hx hb hr (fun t ht hW => ⟨⟨en, (), rfl, (r4 ((sgl_end (Or.inr c_14)).symm.trans hlp)).1, sdx, mdx, fdx, hsx, hmx, (Prod.ext (r4 ((sgl_end (Or.inr c_14)).symm.trans hlp)).2.1 (Prod.ext (r4 ((sgl_end (Or.inr c_14)).symm.trans hlp)).2.2.1 (r4 ((sgl_end (Or.inr c_14)).symm.trans hlp)).2.2.2)), by rw [ht]; exact hP9, va_K.moved hW.alike hK9, hD9⟩, hS.F ht⟩) hS.2.2 dX5_work_186
            · have b_15 := gn_ne (X := (Int32.toInt en)) (C := 0) rfl (by decide) c_14
              refine lv_aload_n hx hb dX5_work_94 rfl (lv_at hl 7 rfl) ?_
              refine lv_iload hx hb dX5_work_95 (lv_at hl 3 rfl) ?_
              refine lv_iload_n hx hb dX5_work_97 rfl (lv_at hl 8 rfl) ?_
              refine lv_iload hx hb dX5_work_98 (lv_at hl 0 rfl) ?_
              have hPc := hP.sub (ws' := [(p3, .inr (0, [.ref e0, .ref e1, .ref e2])), (e1, .inl (ke1, 80, .inl fbl)), (e2, .inl (ke2, 960, .inl fbs))]) [5, 7, 8] rfl
              have hDc := hD.sub (ws' := [(p3, .inr (0, [.ref e0, .ref e1, .ref e2])), (e1, .inl (ke1, 80, .inl fbl)), (e2, .inl (ke2, 960, .inl fbs))]) [5, 7, 8] (by decide) rfl
              have hKc := hK.sub (tys' := [(ke1, .int), (ke2, .char)]) [4, 5] rfl
              refine va_calli (va_runV (As := [.int (nI ow), .int (nI nq), .int (nI k9)]) (rest := []) ⟨hx, hb, hml, hown, hts⟩ (c_bsignN l dC dI H.size p3 (.ref e0) e1 e2 ke1 fbl ke2 fbs ow nq k9 hbl hbs (by omega) hnq (by omega)) (cwV 3 hts (gV mw_2_176 mw_2_177 mw_2_178 mw_1_5 mw_2_179) rfl rfl rfl (by decide +kernel) ⟨Nat.le_of_ble_eq_true rfl, Nat.le_of_ble_eq_true rfl⟩) ⟨pcW_blind, va_recv hKc hPc (ci := 0) (q0 := 0) rfl rfl, pcW_at hPc hKc hDc hN⟩ rfl rfl hl.1 rfl (lv_room (Nat.le_of_ble_eq_true rfl)) dX5_work_100 ⟨Nat.le_of_ble_eq_true rfl, Nat.le_of_ble_eq_true rfl⟩) hS (fun q h1 h2 => absurd h2 (Nat.not_le.mpr h1)) (fun q h => hA q (Nat.le_trans hS.1 h)) (fun r_16 u t H1 locs ht hvm hw_16 hB hz1 hk1 hS => ?_)
              have hP := keepP hP hk1
              clear hz1 hk1 hB ht hvm hPc hDc hKc
              generalize H1 = H at hP hS ⊢
              obtain rfl : r_16 = (fbs (12 * (8 * ow + nq) + k9)) := hw_16
              refine lv_istore (lv' := [(11, .int (fbs (12 * (8 * ow + nq) + k9))), (10, .int (nI k9)), (9, .int en), (8, .int (nI ((fbl (8 * ow + nq)).toNatClampNeg))), (7, .int (nI ow)), (6, .int (nI q9)), (0, .ref h0), (1, .ref p1), (2, .ref p3), (3, .int (nI nq)), (4, .int (nI fm)), (5, .int 7)]) hx hb dX5_work_103 hl (by decide) rfl (fun ls hl => ?_)
              have hvc : (48 ≤ Int32.toInt (fbs (12 * (8 * ow + nq) + k9)) ∧ Int32.toInt (fbs (12 * (8 * ow + nq) + k9)) ≤ 57) ∨ (97 ≤ Int32.toInt (fbs (12 * (8 * ow + nq) + k9)) ∧ Int32.toInt (fbs (12 * (8 * ow + nq) + k9)) ≤ 104) ∨ Int32.toInt (fbs (12 * (8 * ow + nq) + k9)) = 94 := hcv (8 * ow + nq) (by omega) k9 (by omega)
              refine lv_iload hx hb dX5_work_105 (lv_at hl 0 rfl) ?_
              refine lv_bipush (v := 48) hx hb dX5_work_107 (by decide) ?_
              refine lv_icmp_lt (tgt := 133) hx hb dX5_work_109 (by decide) (fun h => absurd (gx_lt (X := (Int32.toInt (fbs (12 * (8 * ow + nq) + k9)))) (C := 48) rfl (by decide) h) (by omega)) (fun c_17 => ?_)
              have b_18 := gn_lt (X := (Int32.toInt (fbs (12 * (8 * ow + nq) + k9)))) (C := 48) rfl (by decide) c_17
              refine lv_iload hx hb dX5_work_112 (lv_at hl 0 rfl) ?_
              refine lv_bipush (v := 57) hx hb dX5_work_114 (by decide) ?_
              refine lv_icmp_gt (tgt := 133) hx hb dX5_work_116 (by decide) (fun c_19 => ?_) (fun c_19 => ?_)
              · have b_20 := gx_gt (X := (Int32.toInt (fbs (12 * (8 * ow + nq) + k9)))) (C := 57) rfl (by decide) c_19
                refine lv_iload hx hb dX5_work_133 (lv_at hl 0 rfl) ?_
                refine lv_bipush (v := 94) hx hb dX5_work_135 (by decide) ?_
                refine lv_icmp_ne (tgt := 160) hx hb dX5_work_137 (by decide) (fun c_21 => ?_) (fun c_21 => ?_)
                · have b_22 := gx_ne (X := (Int32.toInt (fbs (12 * (8 * ow + nq) + k9)))) (C := 94) rfl (by decide) c_21
                  refine lv_aload_n hx hb dX5_work_160 rfl (lv_at hl 6 rfl) ?_
                  refine lv_aload_n hx hb dX5_work_161 rfl (lv_at hl 7 rfl) ?_
                  refine lv_aload_n hx hb dX5_work_162 rfl (lv_at hl 8 rfl) ?_
                  refine lv_iload hx hb dX5_work_163 (lv_at hl 0 rfl) ?_
                  refine lv_bipush (v := 97) hx hb dX5_work_165 (by decide) ?_
                  refine lv_isub hx hb dX5_work_167 ?_
                  refine lv_topi (fun z_23 ez_23 => ?_)
                  have gz_23 := fx_rng (fbs (12 * (8 * ow + nq) + k9))
                  have fz_23 : Int32.toInt z_23 = (Int32.toInt (fbs (12 * (8 * ow + nq) + k9))) - 97 := by rw [ez_23]; exact gx_sub (X := (Int32.toInt (fbs (12 * (8 * ow + nq) + k9)))) (C := 97) rfl (by decide) (by omega) (by omega)
                  obtain ⟨j_24, tj_24, ej_24⟩ := fx_nat (x := z_23) (by omega)
                  subst ej_24
                  have yj_24 : Int32.toInt (nI j_24) = (j_24 : Int) := nI_toInt tj_24
                  refine lv_iconst (v := 0) hx hb dX5_work_168 (by decide) ?_
                  refine lv_iload hx hb dX5_work_169 (lv_at hl 11 rfl) ?_
                  refine lv_iconst (v := 1) hx hb dX5_work_171 (by decide) ?_
                  refine lv_iadd hx hb dX5_work_172 ?_
                  refine hx_top (y := 8) (by decide) ?_
                  have hPc := hP.sub (ws' := [(h0, .inr (5, [.ref u0, .int (nI sdx), .int (nI mdx), .int (nI kq)])), (u0, .inl (ku0, 40, .inl fdx)), (p1, .inr (1, [w0, .ref b1, w2, .ref b3, w4, w5, .int (nI cn), w7])), (b1, .inl (kb1, 10, .inl fle)), (b3, .inl (kb3, 100, .inl fli)), (p3, .inr (0, [.ref e0, .ref e1, .ref e2])), (e0, .inl (ke0, 8, .inl fo)), (e1, .inl (ke1, 80, .inl fbl)), (e2, .inl (ke2, 960, .inl fbs))]) [0, 1, 2, 3, 4, 5, 6, 7, 8] rfl
                  have hDc := hD.sub (ws' := [(h0, .inr (5, [.ref u0, .int (nI sdx), .int (nI mdx), .int (nI kq)])), (u0, .inl (ku0, 40, .inl fdx)), (p1, .inr (1, [w0, .ref b1, w2, .ref b3, w4, w5, .int (nI cn), w7])), (b1, .inl (kb1, 10, .inl fle)), (b3, .inl (kb3, 100, .inl fli)), (p3, .inr (0, [.ref e0, .ref e1, .ref e2])), (e0, .inl (ke0, 8, .inl fo)), (e1, .inl (ke1, 80, .inl fbl)), (e2, .inl (ke2, 960, .inl fbs))]) [0, 1, 2, 3, 4, 5, 6, 7, 8] (by decide) rfl
                  have hKc := hK.sub (tys' := [(ku0, .int), (kb1, .int), (kb3, .int), (ke0, .int), (ke1, .int), (ke2, .char)]) [0, 1, 2, 3, 4, 5] rfl
                  have hFc := va_free (wc := [(h0, .inr (5, [.ref u0, .int (nI sdx), .int (nI mdx), .int (nI kq)])), (u0, .inl (ku0, 40, .inl fdx)), (p1, .inr (1, [w0, .ref b1, w2, .ref b3, w4, w5, .int (nI cn), w7])), (b1, .inl (kb1, 10, .inl fle)), (b3, .inl (kb3, 100, .inl fli)), (p3, .inr (0, [.ref e0, .ref e1, .ref e2])), (e0, .inl (ke0, 8, .inl fo)), (e1, .inl (ke1, 80, .inl fbl)), (e2, .inl (ke2, 960, .inl fbs))]) hD hS hA [0, 1, 2, 3, 4, 5, 6, 7, 8] rfl
                  refine va_calli (va_runV (As := [.ref p1, .ref p3, .int (nI j_24), .int 0, .int 8]) (rest := []) ⟨hx, hb, hml, hown, hts⟩ (c_work8 l dC dI H.size h0 u0 sdx mdx kq ku0 fdx p1 (w0) b1 (w2) b3 (w4) (w5) cn (w7) kb1 fle kb3 fli p3 e0 e1 e2 ke0 fo ke1 fbl ke2 fbs j_24 0 hsx hc hle hbl hbs hlk hkq (by omega) (by omega) hmx hcv) (cwV 5 hts (gV mw_2_165 mw_2_167 mw_0_4 mw_1_6 mw_2_168) rfl rfl rfl (by decide +kernel) ⟨Nat.le_of_ble_eq_true rfl, Nat.le_of_ble_eq_true rfl⟩) ⟨pcW_blind, va_recv hKc hPc (ci := 5) (q0 := 0) rfl rfl, pcW_at hPc hKc hDc hN⟩ rfl rfl hl.1 rfl (lv_room (Nat.le_of_ble_eq_true rfl)) dX5_work_173 ⟨Nat.le_of_ble_eq_true rfl, Nat.le_of_ble_eq_true rfl⟩) hS (fun q _ h => hFc q h) hFc (fun r_25 u t H1 locs ht hvm hw_25 hB hz1 hk1 hS => ?_)
                  obtain ⟨q_26, q_27, f_28, p_29, p_30, p_31, hP1, hK1, hD1⟩ := hB
                  rw [ht] at hP1
                  have hK1 := va_K.moved hvm.symm hK1
                  obtain ⟨hP, hD⟩ := va_join (wr := []) (w1 := [(h0, .inr (5, [.ref u0, .int (nI q_26), .int (nI q_27), .int (nI kq)])), (u0, .inl (ku0, 40, .inl f_28)), (p1, .inr (1, [w0, .ref b1, w2, .ref b3, w4, w5, .int (nI cn), w7])), (b1, .inl (kb1, 10, .inl fle)), (b3, .inl (kb3, 100, .inl fli)), (p3, .inr (0, [.ref e0, .ref e1, .ref e2])), (e0, .inl (ke0, 8, .inl fo)), (e1, .inl (ke1, 80, .inl fbl)), (e2, .inl (ke2, 960, .inl fbs))]) hP hD [0, 1, 2, 3, 4, 5, 6, 7, 8] [] rfl rfl (by decide) (by decide) hk1 hFc hP1 hD1
                  have hK := (hK.sub (tys' := []) [] rfl).app hK1
                  clear hz1 hk1 hPc hDc hKc hFc
                  generalize H1 = H at hP hS ⊢
                  have hK : va_K (dC, dI) vwCl [(ku0, .int), (kb1, .int), (kb3, .int), (ke0, .int), (ke1, .int), (ke2, .char)] s := hK
                  have hP : va_P (dC, dI) vwCl [(h0, .inr (5, [.ref u0, .int (nI q_26), .int (nI q_27), .int (nI kq)])), (u0, .inl (ku0, 40, .inl f_28)), (p1, .inr (1, [w0, .ref b1, w2, .ref b3, w4, w5, .int (nI cn), w7])), (b1, .inl (kb1, 10, .inl fle)), (b3, .inl (kb3, 100, .inl fli)), (p3, .inr (0, [.ref e0, .ref e1, .ref e2])), (e0, .inl (ke0, 8, .inl fo)), (e1, .inl (ke1, 80, .inl fbl)), (e2, .inl (ke2, 960, .inl fbs))] H := hP
                  have hD : va_D A [(h0, .inr (5, [.ref u0, .int (nI q_26), .int (nI q_27), .int (nI kq)])), (u0, .inl (ku0, 40, .inl f_28)), (p1, .inr (1, [w0, .ref b1, w2, .ref b3, w4, w5, .int (nI cn), w7])), (b1, .inl (kb1, 10, .inl fle)), (b3, .inl (kb3, 100, .inl fli)), (p3, .inr (0, [.ref e0, .ref e1, .ref e2])), (e0, .inl (ke0, 8, .inl fo)), (e1, .inl (ke1, 80, .inl fbl)), (e2, .inl (ke2, 960, .inl fbs))] := hD
                  refine lv_istore (lv' := [(9, .int r_25), (11, .int (fbs (12 * (8 * ow + nq) + k9))), (10, .int (nI k9)), (8, .int (nI ((fbl (8 * ow + nq)).toNatClampNeg))), (7, .int (nI ow)), (6, .int (nI q9)), (0, .ref h0), (1, .ref p1), (2, .ref p3), (3, .int (nI nq)), (4, .int (nI fm)), (5, .int 7)]) hx hb dX5_work_176 hl (by decide) rfl (fun ls hl => ?_)
                  refine lv_iinc (v := (nI (k9 + 1))) (lv' := [(10, .int (nI (k9 + 1))), (9, .int r_25), (11, .int (fbs (12 * (8 * ow + nq) + k9))), (8, .int (nI ((fbl (8 * ow + nq)).toNatClampNeg))), (7, .int (nI ow)), (6, .int (nI q9)), (0, .ref h0), (1, .ref p1), (2, .ref p3), (3, .int (nI nq)), (4, .int (nI fm)), (5, .int 7)]) hx hb dX5_work_178 hl (k := 2) rfl (nI_add k9 1) (by decide) rfl (fun ls hl => ?_)
                  refine lv_goto (tgt := 82) hx hb dX5_work_181 (by decide) ?_
                  exact ih_11 (k9 + 1) r_25 q_26 q_27 f_28 (by omega) p_29 p_30 (lp_let hlp c_14 (by omega) (by show 97 ≤ Int32.toInt (fbs (12 * (8 * ow + nq) + k9)); omega) (by show ((j_24 : Nat) : Int) = Int32.toInt (fbs (12 * (8 * ow + nq) + k9)) - 97; omega) hw_25 p_31) (by omega) _ _ hP hD hS ls (lv_sub hl [0, 1, 3, 4, 5, 6, 7, 8, 9, 10, 11] rfl)
                · have b_22 := gn_ne (X := (Int32.toInt (fbs (12 * (8 * ow + nq) + k9)))) (C := 94) rfl (by decide) c_21
                  refine lv_aload_n hx hb dX5_work_140 rfl (lv_at hl 6 rfl) ?_
                  refine lv_aload_n hx hb dX5_work_141 rfl (lv_at hl 7 rfl) ?_
                  refine lv_aload_n hx hb dX5_work_142 rfl (lv_at hl 8 rfl) ?_
                  refine lv_iload_n hx hb dX5_work_143 rfl (lv_at hl 9 rfl) ?_
                  refine lv_iload hx hb dX5_work_144 (lv_at hl 5 rfl) ?_
                  refine lv_iconst (v := 1) hx hb dX5_work_146 (by decide) ?_
                  refine lv_iadd hx hb dX5_work_147 ?_
                  refine hx_top (y := (nI (q9 + 1))) (nI_add q9 1) ?_
                  refine lv_iload hx hb dX5_work_148 (lv_at hl 11 rfl) ?_
                  refine lv_iconst (v := 1) hx hb dX5_work_150 (by decide) ?_
                  refine lv_iadd hx hb dX5_work_151 ?_
                  refine hx_top (y := 8) (by decide) ?_
                  have hPc := hP.sub (ws' := [(h0, .inr (5, [.ref u0, .int (nI sdx), .int (nI mdx), .int (nI kq)])), (u0, .inl (ku0, 40, .inl fdx)), (p1, .inr (1, [w0, .ref b1, w2, .ref b3, w4, w5, .int (nI cn), w7])), (b1, .inl (kb1, 10, .inl fle)), (b3, .inl (kb3, 100, .inl fli)), (p3, .inr (0, [.ref e0, .ref e1, .ref e2])), (e0, .inl (ke0, 8, .inl fo)), (e1, .inl (ke1, 80, .inl fbl)), (e2, .inl (ke2, 960, .inl fbs))]) [0, 1, 2, 3, 4, 5, 6, 7, 8] rfl
                  have hDc := hD.sub (ws' := [(h0, .inr (5, [.ref u0, .int (nI sdx), .int (nI mdx), .int (nI kq)])), (u0, .inl (ku0, 40, .inl fdx)), (p1, .inr (1, [w0, .ref b1, w2, .ref b3, w4, w5, .int (nI cn), w7])), (b1, .inl (kb1, 10, .inl fle)), (b3, .inl (kb3, 100, .inl fli)), (p3, .inr (0, [.ref e0, .ref e1, .ref e2])), (e0, .inl (ke0, 8, .inl fo)), (e1, .inl (ke1, 80, .inl fbl)), (e2, .inl (ke2, 960, .inl fbs))]) [0, 1, 2, 3, 4, 5, 6, 7, 8] (by decide) rfl
                  have hKc := hK.sub (tys' := [(ku0, .int), (kb1, .int), (kb3, .int), (ke0, .int), (ke1, .int), (ke2, .char)]) [0, 1, 2, 3, 4, 5] rfl
                  have hFc := va_free (wc := [(h0, .inr (5, [.ref u0, .int (nI sdx), .int (nI mdx), .int (nI kq)])), (u0, .inl (ku0, 40, .inl fdx)), (p1, .inr (1, [w0, .ref b1, w2, .ref b3, w4, w5, .int (nI cn), w7])), (b1, .inl (kb1, 10, .inl fle)), (b3, .inl (kb3, 100, .inl fli)), (p3, .inr (0, [.ref e0, .ref e1, .ref e2])), (e0, .inl (ke0, 8, .inl fo)), (e1, .inl (ke1, 80, .inl fbl)), (e2, .inl (ke2, 960, .inl fbs))]) hD hS hA [0, 1, 2, 3, 4, 5, 6, 7, 8] rfl
                  refine va_calli (va_runV (As := [.ref p1, .ref p3, .int (nI nq), .int (nI (q9 + 1)), .int 8]) (rest := []) ⟨hx, hb, hml, hown, hts⟩ (c_work8 l dC dI H.size h0 u0 sdx mdx kq ku0 fdx p1 (w0) b1 (w2) b3 (w4) (w5) cn (w7) kb1 fle kb3 fli p3 e0 e1 e2 ke0 fo ke1 fbl ke2 fbs nq (q9 + 1) hsx hc hle hbl hbs hlk hkq hnq (by omega) hmx hcv) (cwV 5 hts (gV mw_2_165 mw_2_167 mw_0_4 mw_1_6 mw_2_168) rfl rfl rfl (by decide +kernel) ⟨Nat.le_of_ble_eq_true rfl, Nat.le_of_ble_eq_true rfl⟩) ⟨pcW_blind, va_recv hKc hPc (ci := 5) (q0 := 0) rfl rfl, pcW_at hPc hKc hDc hN⟩ rfl rfl hl.1 rfl (lv_room (Nat.le_of_ble_eq_true rfl)) dX5_work_152 ⟨Nat.le_of_ble_eq_true rfl, Nat.le_of_ble_eq_true rfl⟩) hS (fun q _ h => hFc q h) hFc (fun r_32 u t H1 locs ht hvm hw_32 hB hz1 hk1 hS => ?_)
                  obtain ⟨q_33, q_34, f_35, p_36, p_37, p_38, hP1, hK1, hD1⟩ := hB
                  rw [ht] at hP1
                  have hK1 := va_K.moved hvm.symm hK1
                  obtain ⟨hP, hD⟩ := va_join (wr := []) (w1 := [(h0, .inr (5, [.ref u0, .int (nI q_33), .int (nI q_34), .int (nI kq)])), (u0, .inl (ku0, 40, .inl f_35)), (p1, .inr (1, [w0, .ref b1, w2, .ref b3, w4, w5, .int (nI cn), w7])), (b1, .inl (kb1, 10, .inl fle)), (b3, .inl (kb3, 100, .inl fli)), (p3, .inr (0, [.ref e0, .ref e1, .ref e2])), (e0, .inl (ke0, 8, .inl fo)), (e1, .inl (ke1, 80, .inl fbl)), (e2, .inl (ke2, 960, .inl fbs))]) hP hD [0, 1, 2, 3, 4, 5, 6, 7, 8] [] rfl rfl (by decide) (by decide) hk1 hFc hP1 hD1
                  have hK := (hK.sub (tys' := []) [] rfl).app hK1
                  clear hz1 hk1 hPc hDc hKc hFc
                  generalize H1 = H at hP hS ⊢
                  have hK : va_K (dC, dI) vwCl [(ku0, .int), (kb1, .int), (kb3, .int), (ke0, .int), (ke1, .int), (ke2, .char)] s := hK
                  have hP : va_P (dC, dI) vwCl [(h0, .inr (5, [.ref u0, .int (nI q_33), .int (nI q_34), .int (nI kq)])), (u0, .inl (ku0, 40, .inl f_35)), (p1, .inr (1, [w0, .ref b1, w2, .ref b3, w4, w5, .int (nI cn), w7])), (b1, .inl (kb1, 10, .inl fle)), (b3, .inl (kb3, 100, .inl fli)), (p3, .inr (0, [.ref e0, .ref e1, .ref e2])), (e0, .inl (ke0, 8, .inl fo)), (e1, .inl (ke1, 80, .inl fbl)), (e2, .inl (ke2, 960, .inl fbs))] H := hP
                  have hD : va_D A [(h0, .inr (5, [.ref u0, .int (nI q_33), .int (nI q_34), .int (nI kq)])), (u0, .inl (ku0, 40, .inl f_35)), (p1, .inr (1, [w0, .ref b1, w2, .ref b3, w4, w5, .int (nI cn), w7])), (b1, .inl (kb1, 10, .inl fle)), (b3, .inl (kb3, 100, .inl fli)), (p3, .inr (0, [.ref e0, .ref e1, .ref e2])), (e0, .inl (ke0, 8, .inl fo)), (e1, .inl (ke1, 80, .inl fbl)), (e2, .inl (ke2, 960, .inl fbs))] := hD
                  refine lv_istore (lv' := [(9, .int r_32), (11, .int (fbs (12 * (8 * ow + nq) + k9))), (10, .int (nI k9)), (8, .int (nI ((fbl (8 * ow + nq)).toNatClampNeg))), (7, .int (nI ow)), (6, .int (nI q9)), (0, .ref h0), (1, .ref p1), (2, .ref p3), (3, .int (nI nq)), (4, .int (nI fm)), (5, .int 7)]) hx hb dX5_work_155 hl (by decide) rfl (fun ls hl => ?_)
                  refine lv_goto (tgt := 178) hx hb dX5_work_157 (by decide) ?_
                  refine lv_iinc (v := (nI (k9 + 1))) (lv' := [(10, .int (nI (k9 + 1))), (9, .int r_32), (11, .int (fbs (12 * (8 * ow + nq) + k9))), (8, .int (nI ((fbl (8 * ow + nq)).toNatClampNeg))), (7, .int (nI ow)), (6, .int (nI q9)), (0, .ref h0), (1, .ref p1), (2, .ref p3), (3, .int (nI nq)), (4, .int (nI fm)), (5, .int 7)]) hx hb dX5_work_178 hl (k := 2) rfl (nI_add k9 1) (by decide) rfl (fun ls hl => ?_)
                  refine lv_goto (tgt := 82) hx hb dX5_work_181 (by decide) ?_
                  exact ih_11 (k9 + 1) r_32 q_33 q_34 f_35 (by omega) p_36 p_37 (lp_up hlp c_14 (by omega) (by show Int32.toInt (fbs (12 * (8 * ow + nq) + k9)) = 94; omega) hw_32 p_38) (by omega) _ _ hP hD hS ls (lv_sub hl [0, 1, 3, 4, 5, 6, 7, 8, 9, 10, 11] rfl)
              · have b_20 := gn_gt (X := (Int32.toInt (fbs (12 * (8 * ow + nq) + k9)))) (C := 57) rfl (by decide) c_19
                refine lv_aload_n hx hb dX5_work_119 rfl (lv_at hl 6 rfl) ?_
                refine lv_iload hx hb dX5_work_120 (lv_at hl 0 rfl) ?_
                refine lv_bipush (v := 48) hx hb dX5_work_122 (by decide) ?_
                refine lv_isub hx hb dX5_work_124 ?_
                refine lv_topi (fun z_39 ez_39 => ?_)
                have gz_39 := fx_rng (fbs (12 * (8 * ow + nq) + k9))
                have fz_39 : Int32.toInt z_39 = (Int32.toInt (fbs (12 * (8 * ow + nq) + k9))) - 48 := by rw [ez_39]; exact gx_sub (X := (Int32.toInt (fbs (12 * (8 * ow + nq) + k9)))) (C := 48) rfl (by decide) (by omega) (by omega)
                have hPc := hP.sub (ws' := [(h0, .inr (5, [.ref u0, .int (nI sdx), .int (nI mdx), .int (nI kq)])), (u0, .inl (ku0, 40, .inl fdx))]) [0, 1] rfl
                have hDc := hD.sub (ws' := [(h0, .inr (5, [.ref u0, .int (nI sdx), .int (nI mdx), .int (nI kq)])), (u0, .inl (ku0, 40, .inl fdx))]) [0, 1] (by decide) rfl
                have hKc := hK.sub (tys' := [(ku0, .int)]) [0] rfl
                have hFc := va_free (wc := [(h0, .inr (5, [.ref u0, .int (nI sdx), .int (nI mdx), .int (nI kq)])), (u0, .inl (ku0, 40, .inl fdx))]) hD hS hA [0, 1] rfl
                refine va_calli (va_runV (As := [.int z_39]) (rest := []) ⟨hx, hb, hml, hown, hts⟩ (c_sayD l dC dI H.size h0 u0 sdx mdx kq ku0 fdx z_39 hsx) (cwV 1 hts (gV mw_2_181 mw_2_183 mw_0_5 mw_1_6 mw_2_184) rfl rfl rfl (by decide +kernel) ⟨Nat.le_of_ble_eq_true rfl, Nat.le_of_ble_eq_true rfl⟩) ⟨pcW_blind, va_recv hKc hPc (ci := 5) (q0 := 0) rfl rfl, pcW_at hPc hKc hDc hN⟩ rfl rfl hl.1 rfl (lv_room (Nat.le_of_ble_eq_true rfl)) dX5_work_125 ⟨Nat.le_of_ble_eq_true rfl, Nat.le_of_ble_eq_true rfl⟩) hS (fun q _ h => hFc q h) hFc (fun r_40 u t H1 locs ht hvm hw_40 hB hz1 hk1 hS => ?_)
                obtain ⟨q_41, f_42, p_43, p_44, p_45, hP1, hK1, hD1⟩ := hB
                rw [ht] at hP1
                have hK1 := va_K.moved hvm.symm hK1
                obtain ⟨hP, hD⟩ := va_join (wr := [(p1, .inr (1, [w0, .ref b1, w2, .ref b3, w4, w5, .int (nI cn), w7])), (b1, .inl (kb1, 10, .inl fle)), (b3, .inl (kb3, 100, .inl fli)), (p3, .inr (0, [.ref e0, .ref e1, .ref e2])), (e0, .inl (ke0, 8, .inl fo)), (e1, .inl (ke1, 80, .inl fbl)), (e2, .inl (ke2, 960, .inl fbs))]) (w1 := [(h0, .inr (5, [.ref u0, .int (nI q_41), .int (nI mdx), .int (nI kq)])), (u0, .inl (ku0, 40, .inl f_42))]) hP hD [0, 1] [2, 3, 4, 5, 6, 7, 8] rfl rfl (by decide) (by decide) hk1 hFc hP1 hD1
                have hK := (hK.sub (tys' := [(kb1, .int), (kb3, .int), (ke0, .int), (ke1, .int), (ke2, .char)]) [1, 2, 3, 4, 5] rfl).app hK1
                clear hz1 hk1 hPc hDc hKc hFc
                generalize H1 = H at hP hS ⊢
                have hK : va_K (dC, dI) vwCl [(kb1, .int), (kb3, .int), (ke0, .int), (ke1, .int), (ke2, .char), (ku0, .int)] s := hK
                have hP : va_P (dC, dI) vwCl [(p1, .inr (1, [w0, .ref b1, w2, .ref b3, w4, w5, .int (nI cn), w7])), (b1, .inl (kb1, 10, .inl fle)), (b3, .inl (kb3, 100, .inl fli)), (p3, .inr (0, [.ref e0, .ref e1, .ref e2])), (e0, .inl (ke0, 8, .inl fo)), (e1, .inl (ke1, 80, .inl fbl)), (e2, .inl (ke2, 960, .inl fbs)), (h0, .inr (5, [.ref u0, .int (nI q_41), .int (nI mdx), .int (nI kq)])), (u0, .inl (ku0, 40, .inl f_42))] H := hP
                have hD : va_D A [(p1, .inr (1, [w0, .ref b1, w2, .ref b3, w4, w5, .int (nI cn), w7])), (b1, .inl (kb1, 10, .inl fle)), (b3, .inl (kb3, 100, .inl fli)), (p3, .inr (0, [.ref e0, .ref e1, .ref e2])), (e0, .inl (ke0, 8, .inl fo)), (e1, .inl (ke1, 80, .inl fbl)), (e2, .inl (ke2, 960, .inl fbs)), (h0, .inr (5, [.ref u0, .int (nI q_41), .int (nI mdx), .int (nI kq)])), (u0, .inl (ku0, 40, .inl f_42))] := hD
                refine lv_istore (lv' := [(9, .int r_40), (11, .int (fbs (12 * (8 * ow + nq) + k9))), (10, .int (nI k9)), (8, .int (nI ((fbl (8 * ow + nq)).toNatClampNeg))), (7, .int (nI ow)), (6, .int (nI q9)), (0, .ref h0), (1, .ref p1), (2, .ref p3), (3, .int (nI nq)), (4, .int (nI fm)), (5, .int 7)]) hx hb dX5_work_128 hl (by decide) rfl (fun ls hl => ?_)
                refine lv_goto (tgt := 178) hx hb dX5_work_130 (by decide) ?_
                refine lv_iinc (v := (nI (k9 + 1))) (lv' := [(10, .int (nI (k9 + 1))), (9, .int r_40), (11, .int (fbs (12 * (8 * ow + nq) + k9))), (8, .int (nI ((fbl (8 * ow + nq)).toNatClampNeg))), (7, .int (nI ow)), (6, .int (nI q9)), (0, .ref h0), (1, .ref p1), (2, .ref p3), (3, .int (nI nq)), (4, .int (nI fm)), (5, .int 7)]) hx hb dX5_work_178 hl (k := 2) rfl (nI_add k9 1) (by decide) rfl (fun ls hl => ?_)
                refine lv_goto (tgt := 82) hx hb dX5_work_181 (by decide) ?_
                exact ih_11 (k9 + 1) r_40 q_41 mdx f_42 (by omega) p_43 hmx (by rw [hw_40]; exact lp_dig hlp c_14 (by omega) (by show 48 ≤ Int32.toInt (fbs (12 * (8 * ow + nq) + k9)) ∧ Int32.toInt (fbs (12 * (8 * ow + nq) + k9)) ≤ 57; omega) (by rw [ez_39]) p_44 p_45) (by omega) _ _ (hP.sub (ws' := [(h0, .inr (5, [.ref u0, .int (nI q_41), .int (nI mdx), .int (nI kq)])), (u0, .inl (ku0, 40, .inl f_42)), (p1, .inr (1, [w0, .ref b1, w2, .ref b3, w4, w5, .int (nI cn), w7])), (b1, .inl (kb1, 10, .inl fle)), (b3, .inl (kb3, 100, .inl fli)), (p3, .inr (0, [.ref e0, .ref e1, .ref e2])), (e0, .inl (ke0, 8, .inl fo)), (e1, .inl (ke1, 80, .inl fbl)), (e2, .inl (ke2, 960, .inl fbs))]) [7, 8, 0, 1, 2, 3, 4, 5, 6] rfl) (hD.sub (ws' := [(h0, .inr (5, [.ref u0, .int (nI q_41), .int (nI mdx), .int (nI kq)])), (u0, .inl (ku0, 40, .inl f_42)), (p1, .inr (1, [w0, .ref b1, w2, .ref b3, w4, w5, .int (nI cn), w7])), (b1, .inl (kb1, 10, .inl fle)), (b3, .inl (kb3, 100, .inl fli)), (p3, .inr (0, [.ref e0, .ref e1, .ref e2])), (e0, .inl (ke0, 8, .inl fo)), (e1, .inl (ke1, 80, .inl fbl)), (e2, .inl (ke2, 960, .inl fbs))]) [7, 8, 0, 1, 2, 3, 4, 5, 6] (by decide) rfl) hS ls (lv_sub hl [0, 1, 3, 4, 5, 6, 7, 8, 9, 10, 11] rfl)
      exact key_10 ((12 - 0) + 1) 0 0 sd (md + 1) fd (by omega) hsd (by omega) (wd_inC hw_4 (by omega) (by omega) eow (by omega)).symm (Nat.lt_succ_self _) _ _ hP hD hS ls (lv_sub hl [0, 1, 2, 3, 4, 5, 6, 7, 8, 9, 10] rfl)
  · have b_2 := gn_lt (X := ((md : Nat) : Int)) (C := 200) (nI_toInt (by omega)) (by decide) c_1
    refine lv_iconst (v := 2) hx hb dX5_work_17 (by decide) ?_
    have hP9 := hP.sub (ws' := [(h0, .inr (5, [.ref u0, .int (nI sd), .int (nI md), .int (nI kq)])), (u0, .inl (ku0, 40, .inl fd)), (p1, .inr (1, [w0, .ref b1, w2, .ref b3, w4, w5, .int (nI cn), w7])), (b1, .inl (kb1, 10, .inl fle)), (b3, .inl (kb3, 100, .inl fli)), (p3, .inr (0, [.ref e0, .ref e1, .ref e2])), (e0, .inl (ke0, 8, .inl fo)), (e1, .inl (ke1, 80, .inl fbl)), (e2, .inl (ke2, 960, .inl fbs))]) [0, 1, 2, 3, 4, 5, 6, 7, 8] rfl
    have hD9 := hD.sub (ws' := [(h0, .inr (5, [.ref u0, .int (nI sd), .int (nI md), .int (nI kq)])), (u0, .inl (ku0, 40, .inl fd)), (p1, .inr (1, [w0, .ref b1, w2, .ref b3, w4, w5, .int (nI cn), w7])), (b1, .inl (kb1, 10, .inl fle)), (b3, .inl (kb3, 100, .inl fli)), (p3, .inr (0, [.ref e0, .ref e1, .ref e2])), (e0, .inl (ke0, 8, .inl fo)), (e1, .inl (ke1, 80, .inl fbl)), (e2, .inl (ke2, 960, .inl fbs))]) [0, 1, 2, 3, 4, 5, 6, 7, 8] (by decide) rfl
    have hK9 := hK.sub (tys' := [(ku0, .int), (kb1, .int), (kb3, .int), (ke0, .int), (ke1, .int), (ke2, .char)]) [0, 1, 2, 3, 4, 5] rfl
    exact W.iret (v := 2) hx hb hr (fun t ht hW => ⟨⟨2, (), rfl, (r4 (wd_fuC (d := 2) (Or.inr (by omega)))).1, sd, md, fd, hsd, hmd, (Prod.ext (r4 (wd_fuC (d := 2) (Or.inr (by omega)))).2.1 (Prod.ext (r4 (wd_fuC (d := 2) (Or.inr (by omega)))).2.2.1 (r4 (wd_fuC (d := 2) (Or.inr (by omega)))).2.2.2)), by rw [ht]; exact hP9, va_K.moved hW.alike hK9, hD9⟩, hS.F ht⟩) hS.2.2 dX5_work_18
set_option maxHeartbeats 4000000 in
set_option maxRecDepth 100000 in
theorem c_work6 (l : Launch) (dC : Nat → ClassId) (dI : Nat → Nat → Nat) (sz : Nat) (h0 : Nat) (u0 : Nat) (sd : Nat) (md : Nat) (kq : Nat) (ku0 : ClassId) (fd : Nat → Int32) (p1 : Nat) (w0 : Value) (b1 : Nat) (w2 : Value) (b3 : Nat) (w4 : Value) (w5 : Value) (cn : Nat) (w7 : Value) (kb1 : ClassId) (fle : Nat → Int32) (kb3 : ClassId) (fli : Nat → Int32) (p3 : Nat) (e0 : Nat) (e1 : Nat) (e2 : Nat) (ke0 : ClassId) (fo : Nat → Int32) (ke1 : ClassId) (fbl : Nat → Int32) (ke2 : ClassId) (fbs : Nat → Int32) (nq : Nat) (fm : Nat) (hsd : sd ≤ 40) (hc : cn ≤ 10) (hle : BdOk 10 10 fle) (hbl : BdOk 80 12 fbl) (hbs : ChOk fbs) (hlk : LnOk fle fli cn) (hkq : kq < cn) (hnq : nq < 8) (hfm : fm ≤ 10) (hmd : md ≤ 200) (hcv : CvOk fbl fbs) : Met l yX5_work (wq yX5_work cX5_work 12 (some .int)) ({ frames := 6, cells := 0, slots := 0, locals := 148 }) (va_Pc [.ref h0, .ref p1, .ref p3, .int (nI nq), .int (nI fm), .int 6] (pcW dC dI [(ku0, .int), (kb1, .int), (kb3, .int), (ke0, .int), (ke1, .int), (ke2, .char)] [(h0, .inr (5, [.ref u0, .int (nI sd), .int (nI md), .int (nI kq)])), (u0, .inl (ku0, 40, .inl fd)), (p1, .inr (1, [w0, .ref b1, w2, .ref b3, w4, w5, .int (nI cn), w7])), (b1, .inl (kb1, 10, .inl fle)), (b3, .inl (kb3, 100, .inl fli)), (p3, .inr (0, [.ref e0, .ref e1, .ref e2])), (e0, .inl (ke0, 8, .inl fo)), (e1, .inl (ke1, 80, .inl fbl)), (e2, .inl (ke2, 960, .inl fbs))] sz)) (va_Qi (fun (r : Int32) (_ : Unit) => r = (wdC fle fli fo fbl fbs cn kq 3 nq fm (md, sd, fd)).1) (fun _ t => ∃ (sd2 : Nat) (md2 : Nat) (fd2 : Nat → Int32), (sd2 ≤ 40) ∧ (md2 ≤ 200) ∧ ((md2, sd2, fd2) = (wdC fle fli fo fbl fbs cn kq 3 nq fm (md, sd, fd)).2) ∧ va_P (dC, dI) vwCl [(h0, .inr (5, [.ref u0, .int (nI sd2), .int (nI md2), .int (nI kq)])), (u0, .inl (ku0, 40, .inl fd2)), (p1, .inr (1, [w0, .ref b1, w2, .ref b3, w4, w5, .int (nI cn), w7])), (b1, .inl (kb1, 10, .inl fle)), (b3, .inl (kb3, 100, .inl fli)), (p3, .inr (0, [.ref e0, .ref e1, .ref e2])), (e0, .inl (ke0, 8, .inl fo)), (e1, .inl (ke1, 80, .inl fbl)), (e2, .inl (ke2, 960, .inl fbs))] t.heap ∧ va_K (dC, dI) vwCl [(ku0, .int), (kb1, .int), (kb3, .int), (ke0, .int), (ke1, .int), (ke2, .char)] t ∧ va_D (va_A [(h0, .inr (5, [.ref u0, .int (nI sd), .int (nI md), .int (nI kq)])), (u0, .inl (ku0, 40, .inl fd)), (p1, .inr (1, [w0, .ref b1, w2, .ref b3, w4, w5, .int (nI cn), w7])), (b1, .inl (kb1, 10, .inl fle)), (b3, .inl (kb3, 100, .inl fli)), (p3, .inr (0, [.ref e0, .ref e1, .ref e2])), (e0, .inl (ke0, 8, .inl fo)), (e1, .inl (ke1, 80, .inl fbl)), (e2, .inl (ke2, 960, .inl fbs))] sz) [(h0, .inr (5, [.ref u0, .int (nI sd2), .int (nI md2), .int (nI kq)])), (u0, .inl (ku0, 40, .inl fd2)), (p1, .inr (1, [w0, .ref b1, w2, .ref b3, w4, w5, .int (nI cn), w7])), (b1, .inl (kb1, 10, .inl fle)), (b3, .inl (kb3, 100, .inl fli)), (p3, .inr (0, [.ref e0, .ref e1, .ref e2])), (e0, .inl (ke0, 8, .inl fo)), (e1, .inl (ke1, 80, .inl fbl)), (e2, .inl (ke2, 960, .inl fbs))]) (va_A [(h0, .inr (5, [.ref u0, .int (nI sd), .int (nI md), .int (nI kq)])), (u0, .inl (ku0, 40, .inl fd)), (p1, .inr (1, [w0, .ref b1, w2, .ref b3, w4, w5, .int (nI cn), w7])), (b1, .inl (kb1, 10, .inl fle)), (b3, .inl (kb3, 100, .inl fli)), (p3, .inr (0, [.ref e0, .ref e1, .ref e2])), (e0, .inl (ke0, 8, .inl fo)), (e1, .inl (ke1, 80, .inl fbl)), (e2, .inl (ke2, 960, .inl fbs))] sz)) 0 0 (va_A [(h0, .inr (5, [.ref u0, .int (nI sd), .int (nI md), .int (nI kq)])), (u0, .inl (ku0, 40, .inl fd)), (p1, .inr (1, [w0, .ref b1, w2, .ref b3, w4, w5, .int (nI cn), w7])), (b1, .inl (kb1, 10, .inl fle)), (b3, .inl (kb3, 100, .inl fli)), (p3, .inr (0, [.ref e0, .ref e1, .ref e2])), (e0, .inl (ke0, 8, .inl fo)), (e1, .inl (ke1, 80, .inl fbl)), (e2, .inl (ke2, 960, .inl fbs))] sz) := by
  refine Met.ofW (cc := cX5_work) (maxL := 12) (ret := (some .int)) (by decide) rfl ?_
  intro p e s m args below meth c s₁ B hml hv
  obtain ⟨rfl, hsz, hN, hP, hK, hD0⟩ := hv
  have hx := B.exec
  have hb := B.bytes
  have hr := B.returns
  have hts0 := atoms_spec (ws := (wq yX5_work cX5_work 12 (some .int))) B.pre
  have hts : ∀ w ∈ BG, w.before _ s = true := fun w h => hts0 w (List.mem_cons_of_mem _ h)
  have hown : s.vm.findClass RX5 = some m.cls := findClass_of_methodNamed B.named
  have hlocks := B.notSynchronized
  subst hsz
  have hD := hD0.self (sz := s.heap.size)
  generalize hAe : va_A [(h0, .inr (5, [.ref u0, .int (nI sd), .int (nI md), .int (nI kq)])), (u0, .inl (ku0, 40, .inl fd)), (p1, .inr (1, [w0, .ref b1, w2, .ref b3, w4, w5, .int (nI cn), w7])), (b1, .inl (kb1, 10, .inl fle)), (b3, .inl (kb3, 100, .inl fli)), (p3, .inr (0, [.ref e0, .ref e1, .ref e2])), (e0, .inl (ke0, 8, .inl fo)), (e1, .inl (ke1, 80, .inl fbl)), (e2, .inl (ke2, 960, .inl fbs))] s.heap.size = A at hD ⊢
  have hA : ∀ q : Nat, s.heap.size ≤ q → A q := fun q h => by rw [← hAe]; exact Or.inr h
  have hS : va_S A s.heap s.heap [] := va_S.rf
  clear hAe hD0
  have hP : va_P (dC, dI) vwCl [(h0, .inr (5, [.ref u0, .int (nI sd), .int (nI md), .int (nI kq)])), (u0, .inl (ku0, 40, .inl fd)), (p1, .inr (1, [w0, .ref b1, w2, .ref b3, w4, w5, .int (nI cn), w7])), (b1, .inl (kb1, 10, .inl fle)), (b3, .inl (kb3, 100, .inl fli)), (p3, .inr (0, [.ref e0, .ref e1, .ref e2])), (e0, .inl (ke0, 8, .inl fo)), (e1, .inl (ke1, 80, .inl fbl)), (e2, .inl (ke2, 960, .inl fbs))] s.heap := hP
  have hl := lv_entry ([.ref h0, .ref p1, .ref p3, .int (nI nq), .int (nI fm), .int 6]) (n := 12) (Nat.le_of_ble_eq_true rfl)
  rw [lg_entry_eq]
  generalize (lg_sl ([.ref h0, .ref p1, .ref p3, .int (nI nq), .int (nI fm), .int 6]) ++ List.replicate (12 - (lg_sl ([.ref h0, .ref p1, .ref p3, .int (nI nq), .int (nI fm), .int 6])).length) Slot.unset).toArray = ls at hl ⊢
  have hl : lv_has ls 12 [(0, .ref h0), (1, .ref p1), (2, .ref p3), (3, .int (nI nq)), (4, .int (nI fm)), (5, .int 6)] := hl
  have hle9 := lenN_le (n := nI kq) hc hle
  refine lv_iload hx hb dX5_work_0 (lv_at hl 5 rfl) ?_
  refine lv_bipush (v := 9) hx hb dX5_work_2 (by decide) ?_
  refine lv_icmp_ge (tgt := 17) hx hb dX5_work_4 (by decide) (fun h => absurd h (by decide)) (fun _ => ?_)
  refine lv_aload_n hx hb dX5_work_7 rfl (lv_at hl 0 rfl) ?_
  refine va_get (D := (dC, dI)) (ci := 5) (v := .int (nI md)) (C := RX5) (T := TX5) (N := 4) hx hb hts inB_5 hown hK hP 0 rfl rfl 2 (by decide) (hts _ mw_1_110) (fun _ h9 => h9) rfl dX5_work_8 ?_
  refine lv_sipush (v := 200) hx hb dX5_work_11 (by decide) ?_
  refine lv_icmp_lt (tgt := 19) hx hb dX5_work_14 (by decide) (fun c_1 => ?_) (fun c_1 => ?_)
  · have b_2 := gx_lt (X := ((md : Nat) : Int)) (C := 200) (nI_toInt (by omega)) (by decide) c_1
    refine lv_aload_n hx hb dX5_work_19 rfl (lv_at hl 0 rfl) ?_
    refine lv_dup hx hb dX5_work_20 rfl ?_
    refine va_get (D := (dC, dI)) (ci := 5) (v := .int (nI md)) (C := RX5) (T := TX5) (N := 4) hx hb hts inB_5 hown hK hP 0 rfl rfl 2 (by decide) (hts _ mw_1_110) (fun _ h9 => h9) rfl dX5_work_21 ?_
    refine lv_iconst (v := 1) hx hb dX5_work_24 (by decide) ?_
    refine lv_iadd hx hb dX5_work_25 ?_
    refine hx_top (y := (nI (md + 1))) (nI_add md 1) ?_
    refine va_put (D := (dC, dI)) (ci := 5) (v := .int (nI (md + 1))) (ty := .int) (C := RX5) (T := TX5) (N := 4) hx hb hts inB_5 tyX5 tyX5_ok nmX5 hown hK hP hD hS 0 rfl rfl 2 (by decide) (hts _ mw_1_110) (fun _ h9 => h9) rfl (by decide +kernel) rfl rfl (Nat.le_of_ble_eq_true rfl) dX5_work_26 (fun H locs hP hD hS => ?_)
    have hP : va_P (dC, dI) vwCl [(h0, .inr (5, [.ref u0, .int (nI sd), .int (nI (md + 1)), .int (nI kq)])), (u0, .inl (ku0, 40, .inl fd)), (p1, .inr (1, [w0, .ref b1, w2, .ref b3, w4, w5, .int (nI cn), w7])), (b1, .inl (kb1, 10, .inl fle)), (b3, .inl (kb3, 100, .inl fli)), (p3, .inr (0, [.ref e0, .ref e1, .ref e2])), (e0, .inl (ke0, 8, .inl fo)), (e1, .inl (ke1, 80, .inl fbl)), (e2, .inl (ke2, 960, .inl fbs))] H := hP
    have hD : va_D A [(h0, .inr (5, [.ref u0, .int (nI sd), .int (nI (md + 1)), .int (nI kq)])), (u0, .inl (ku0, 40, .inl fd)), (p1, .inr (1, [w0, .ref b1, w2, .ref b3, w4, w5, .int (nI cn), w7])), (b1, .inl (kb1, 10, .inl fle)), (b3, .inl (kb3, 100, .inl fli)), (p3, .inr (0, [.ref e0, .ref e1, .ref e2])), (e0, .inl (ke0, 8, .inl fo)), (e1, .inl (ke1, 80, .inl fbl)), (e2, .inl (ke2, 960, .inl fbs))] := hD
    refine lv_aload_n hx hb dX5_work_29 rfl (lv_at hl 1 rfl) ?_
    refine lv_aload_n hx hb dX5_work_30 rfl (lv_at hl 0 rfl) ?_
    refine va_get (D := (dC, dI)) (ci := 5) (v := .int (nI kq)) (C := RX5) (T := TX5) (N := 4) hx hb hts inB_5 hown hK hP 0 rfl rfl 3 (by decide) (hts _ mw_1_111) (fun _ h9 => h9) rfl dX5_work_31 ?_
    refine lv_aload_n hx hb dX5_work_34 rfl (lv_at hl 2 rfl) ?_
    refine lv_iload_n hx hb dX5_work_35 rfl (lv_at hl 3 rfl) ?_
    have hPc := hP.sub (ws' := [(p3, .inr (0, [.ref e0, .ref e1, .ref e2])), (e0, .inl (ke0, 8, .inl fo))]) [5, 6] rfl
    have hDc := hD.sub (ws' := [(p3, .inr (0, [.ref e0, .ref e1, .ref e2])), (e0, .inl (ke0, 8, .inl fo))]) [5, 6] (by decide) rfl
    have hKc := hK.sub (tys' := [(ke0, .int)]) [3] rfl
    refine va_calli (va_runV (As := [.int (nI nq)]) (rest := [.int (nI kq), .ref p1]) ⟨hx, hb, hml, hown, hts⟩ (c_own l dC dI H.size p3 e0 (.ref e1) (.ref e2) ke0 fo nq hnq) (cwV 1 hts (gV mw_2_169 mw_2_105 mw_2_106 mw_1_5 mw_2_107) rfl rfl rfl (by decide +kernel) ⟨Nat.le_of_ble_eq_true rfl, Nat.le_of_ble_eq_true rfl⟩) ⟨pcW_blind, va_recv hKc hPc (ci := 0) (q0 := 0) rfl rfl, pcW_at hPc hKc hDc hN⟩ rfl rfl hl.1 rfl (lv_room (Nat.le_of_ble_eq_true rfl)) dX5_work_36 ⟨Nat.le_of_ble_eq_true rfl, Nat.le_of_ble_eq_true rfl⟩) hS (fun q h1 h2 => absurd h2 (Nat.not_le.mpr h1)) (fun q h => hA q (Nat.le_trans hS.1 h)) (fun r_3 u t H1 locs ht hvm hw_3 hB hz1 hk1 hS => ?_)
    have hP := keepP hP hk1
    clear hz1 hk1 hB ht hvm hPc hDc hKc
    generalize H1 = H at hP hS ⊢
    obtain rfl : r_3 = (fo nq) := hw_3
    refine lv_iload hx hb dX5_work_39 (lv_at hl 4 rfl) ?_
    have hPc := hP.sub (ws' := [(p1, .inr (1, [w0, .ref b1, w2, .ref b3, w4, w5, .int (nI cn), w7])), (b1, .inl (kb1, 10, .inl fle)), (b3, .inl (kb3, 100, .inl fli))]) [2, 3, 4] rfl
    have hDc := hD.sub (ws' := [(p1, .inr (1, [w0, .ref b1, w2, .ref b3, w4, w5, .int (nI cn), w7])), (b1, .inl (kb1, 10, .inl fle)), (b3, .inl (kb3, 100, .inl fli))]) [2, 3, 4] (by decide) rfl
    have hKc := hK.sub (tys' := [(kb1, .int), (kb3, .int)]) [1, 2] rfl
    refine va_calli (va_runV (As := [.int (nI kq), .int (fo nq), .int (nI fm)]) (rest := []) ⟨hx, hb, hml, hown, hts⟩ (c_whereFirst l dC dI H.size p1 (w0) b1 (w2) b3 (w4) (w5) cn (w7) kb1 fle kb3 fli kq (fo nq) fm hc hle hlk hkq (by omega)) (cwV 3 hts (gV mw_2_170 mw_2_146 mw_2_147 mw_1_2 mw_2_148) rfl rfl rfl (by decide +kernel) ⟨Nat.le_of_ble_eq_true rfl, Nat.le_of_ble_eq_true rfl⟩) ⟨pcW_blind, va_recv hKc hPc (ci := 1) (q0 := 0) rfl rfl, pcW_at hPc hKc hDc hN⟩ rfl rfl hl.1 rfl (lv_room (Nat.le_of_ble_eq_true rfl)) dX5_work_41 ⟨Nat.le_of_ble_eq_true rfl, Nat.le_of_ble_eq_true rfl⟩) hS (fun q h1 h2 => absurd h2 (Nat.not_le.mpr h1)) (fun q h => hA q (Nat.le_trans hS.1 h)) (fun r_4 u t H1 locs ht hvm hw_4 hB hz1 hk1 hS => ?_)
    have hP := keepP hP hk1
    clear hz1 hk1 hB ht hvm hPc hDc hKc
    generalize H1 = H at hP hS ⊢
    refine lv_istore (lv' := [(6, .int r_4), (0, .ref h0), (1, .ref p1), (2, .ref p3), (3, .int (nI nq)), (4, .int (nI fm)), (5, .int 6)]) hx hb dX5_work_44 hl (by decide) rfl (fun ls hl => ?_)
    rcases wf_cases hw_4 with eq9 | ⟨q9, hq9, eq9⟩
    · subst eq9
      refine lv_iload hx hb dX5_work_46 (lv_at hl 0 rfl) ?_
      refine lv_bipush (v := (-6)) hx hb dX5_work_48 (by decide) ?_
      refine lv_icmp_ne (tgt := 55) hx hb dX5_work_50 (by decide) (fun h => absurd h (by decide)) (fun _ => ?_)
      refine lv_iconst (v := 1) hx hb dX5_work_53 (by decide) ?_
      have hP9 := hP.sub (ws' := [(h0, .inr (5, [.ref u0, .int (nI sd), .int (nI (md + 1)), .int (nI kq)])), (u0, .inl (ku0, 40, .inl fd)), (p1, .inr (1, [w0, .ref b1, w2, .ref b3, w4, w5, .int (nI cn), w7])), (b1, .inl (kb1, 10, .inl fle)), (b3, .inl (kb3, 100, .inl fli)), (p3, .inr (0, [.ref e0, .ref e1, .ref e2])), (e0, .inl (ke0, 8, .inl fo)), (e1, .inl (ke1, 80, .inl fbl)), (e2, .inl (ke2, 960, .inl fbs))]) [0, 1, 2, 3, 4, 5, 6, 7, 8] rfl
      have hD9 := hD.sub (ws' := [(h0, .inr (5, [.ref u0, .int (nI sd), .int (nI (md + 1)), .int (nI kq)])), (u0, .inl (ku0, 40, .inl fd)), (p1, .inr (1, [w0, .ref b1, w2, .ref b3, w4, w5, .int (nI cn), w7])), (b1, .inl (kb1, 10, .inl fle)), (b3, .inl (kb3, 100, .inl fli)), (p3, .inr (0, [.ref e0, .ref e1, .ref e2])), (e0, .inl (ke0, 8, .inl fo)), (e1, .inl (ke1, 80, .inl fbl)), (e2, .inl (ke2, 960, .inl fbs))]) [0, 1, 2, 3, 4, 5, 6, 7, 8] (by decide) rfl
      have hK9 := hK.sub (tys' := [(ku0, .int), (kb1, .int), (kb3, .int), (ke0, .int), (ke1, .int), (ke2, .char)]) [0, 1, 2, 3, 4, 5] rfl
      exact W.iret (v := 1) hx hb hr (fun t ht hW => ⟨⟨1, (), rfl, (r4 (wd_noC (d := 2) hw_4 (by omega))).1, sd, (md + 1), fd, hsd, (by omega), (Prod.ext (r4 (wd_noC (d := 2) hw_4 (by omega))).2.1 (Prod.ext (r4 (wd_noC (d := 2) hw_4 (by omega))).2.2.1 (r4 (wd_noC (d := 2) hw_4 (by omega))).2.2.2)), by rw [ht]; exact hP9, va_K.moved hW.alike hK9, hD9⟩, hS.F ht⟩) hS.2.2 dX5_work_54
    · subst eq9
      refine lv_iload hx hb dX5_work_46 (lv_at hl 0 rfl) ?_
      refine lv_bipush (v := (-6)) hx hb dX5_work_48 (by decide) ?_
      refine lv_icmp_ne (tgt := 55) hx hb dX5_work_50 (by decide) (fun c_5 => ?_) (fun h => absurd (gn_ne (X := ((q9 : Nat) : Int)) (C := (-6)) (nI_toInt (by omega)) (by decide) h) (by omega))
      have b_6 := gx_ne (X := ((q9 : Nat) : Int)) (C := (-6)) (nI_toInt (by omega)) (by decide) c_5
      refine lv_aload_n hx hb dX5_work_55 rfl (lv_at hl 2 rfl) ?_
      refine lv_aload_n hx hb dX5_work_56 rfl (lv_at hl 1 rfl) ?_
      refine va_get (D := (dC, dI)) (ci := 5) (v := .int (nI kq)) (C := RX5) (T := TX5) (N := 4) hx hb hts inB_5 hown hK hP 0 rfl rfl 3 (by decide) (hts _ mw_1_111) (fun _ h9 => h9) rfl dX5_work_57 ?_
      refine lv_iload hx hb dX5_work_60 (lv_at hl 0 rfl) ?_
      have hPc := hP.sub (ws' := [(p1, .inr (1, [w0, .ref b1, w2, .ref b3, w4, w5, .int (nI cn), w7])), (b1, .inl (kb1, 10, .inl fle)), (b3, .inl (kb3, 100, .inl fli))]) [2, 3, 4] rfl
      have hDc := hD.sub (ws' := [(p1, .inr (1, [w0, .ref b1, w2, .ref b3, w4, w5, .int (nI cn), w7])), (b1, .inl (kb1, 10, .inl fle)), (b3, .inl (kb3, 100, .inl fli))]) [2, 3, 4] (by decide) rfl
      have hKc := hK.sub (tys' := [(kb1, .int), (kb3, .int)]) [1, 2] rfl
      refine va_calli (va_runV (As := [.int (nI kq), .int (nI q9)]) (rest := []) ⟨hx, hb, hml, hown, hts⟩ (c_inLine l dC dI H.size p1 (w0) b1 (w2) b3 (w4) (w5) cn (w7) kb1 fle kb3 fli kq q9 hc hle (by omega) hkq) (cwV 2 hts (gV mw_2_171 mw_1_234 mw_1_235 mw_1_2 mw_1_236) rfl rfl rfl (by decide +kernel) ⟨Nat.le_of_ble_eq_true rfl, Nat.le_of_ble_eq_true rfl⟩) ⟨pcW_blind, va_recv hKc hPc (ci := 1) (q0 := 0) rfl rfl, pcW_at hPc hKc hDc hN⟩ rfl rfl hl.1 rfl (lv_room (Nat.le_of_ble_eq_true rfl)) dX5_work_62 ⟨Nat.le_of_ble_eq_true rfl, Nat.le_of_ble_eq_true rfl⟩) hS (fun q h1 h2 => absurd h2 (Nat.not_le.mpr h1)) (fun q h => hA q (Nat.le_trans hS.1 h)) (fun r_7 u t H1 locs ht hvm hw_7 hB hz1 hk1 hS => ?_)
      have hP := keepP hP hk1
      clear hz1 hk1 hB ht hvm hPc hDc hKc
      generalize H1 = H at hP hS ⊢
      obtain rfl : r_7 = (fli (10 * kq + q9)) := hw_7
      obtain ⟨ow, how, eow⟩ := hlk kq (by omega) q9 (by rw [← lenN_k (f := fle) (c := cn) (by omega) (by omega)]; exact hq9)
      refine hx_top (y := (nI ow)) eow ?_
      refine lv_istore (lv' := [(7, .int (nI ow)), (6, .int (nI q9)), (0, .ref h0), (1, .ref p1), (2, .ref p3), (3, .int (nI nq)), (4, .int (nI fm)), (5, .int 6)]) hx hb dX5_work_65 hl (by decide) rfl (fun ls hl => ?_)
      refine lv_aload_n hx hb dX5_work_67 rfl (lv_at hl 4 rfl) ?_
      refine lv_iload hx hb dX5_work_68 (lv_at hl 0 rfl) ?_
      refine lv_iload_n hx hb dX5_work_70 rfl (lv_at hl 5 rfl) ?_
      have hPc := hP.sub (ws' := [(p3, .inr (0, [.ref e0, .ref e1, .ref e2])), (e1, .inl (ke1, 80, .inl fbl))]) [5, 7] rfl
      have hDc := hD.sub (ws' := [(p3, .inr (0, [.ref e0, .ref e1, .ref e2])), (e1, .inl (ke1, 80, .inl fbl))]) [5, 7] (by decide) rfl
      have hKc := hK.sub (tys' := [(ke1, .int)]) [4] rfl
      refine va_calli (va_runV (As := [.int (nI ow), .int (nI nq)]) (rest := []) ⟨hx, hb, hml, hown, hts⟩ (c_blenN l dC dI H.size p3 (.ref e0) e1 (.ref e2) ke1 fbl ow nq hbl (by omega) hnq) (cwV 2 hts (gV mw_2_172 mw_2_173 mw_2_174 mw_1_5 mw_2_175) rfl rfl rfl (by decide +kernel) ⟨Nat.le_of_ble_eq_true rfl, Nat.le_of_ble_eq_true rfl⟩) ⟨pcW_blind, va_recv hKc hPc (ci := 0) (q0 := 0) rfl rfl, pcW_at hPc hKc hDc hN⟩ rfl rfl hl.1 rfl (lv_room (Nat.le_of_ble_eq_true rfl)) dX5_work_71 ⟨Nat.le_of_ble_eq_true rfl, Nat.le_of_ble_eq_true rfl⟩) hS (fun q h1 h2 => absurd h2 (Nat.not_le.mpr h1)) (fun q h => hA q (Nat.le_trans hS.1 h)) (fun r_8 u t H1 locs ht hvm hw_8 hB hz1 hk1 hS => ?_)
      have hP := keepP hP hk1
      clear hz1 hk1 hB ht hvm hPc hDc hKc
      generalize H1 = H at hP hS ⊢
      obtain rfl : r_8 = nI ((fbl (8 * ow + nq)).toNatClampNeg) := hw_8
      have b_9 := (bd_cle0 hbl (show 8 * ow + nq < 80 by omega) : (fbl (8 * ow + nq)).toNatClampNeg ≤ 12)
      refine lv_istore (lv' := [(8, .int (nI ((fbl (8 * ow + nq)).toNatClampNeg))), (7, .int (nI ow)), (6, .int (nI q9)), (0, .ref h0), (1, .ref p1), (2, .ref p3), (3, .int (nI nq)), (4, .int (nI fm)), (5, .int 6)]) hx hb dX5_work_74 hl (by decide) rfl (fun ls hl => ?_)
      refine lv_iconst (v := 0) hx hb dX5_work_76 (by decide) ?_
      refine lv_istore (lv' := [(9, .int 0), (8, .int (nI ((fbl (8 * ow + nq)).toNatClampNeg))), (7, .int (nI ow)), (6, .int (nI q9)), (0, .ref h0), (1, .ref p1), (2, .ref p3), (3, .int (nI nq)), (4, .int (nI fm)), (5, .int 6)]) hx hb dX5_work_77 hl (by decide) rfl (fun ls hl => ?_)
      refine lv_iconst (v := 0) hx hb dX5_work_79 (by decide) ?_
      refine lv_istore (lv' := [(10, .int 0), (9, .int 0), (8, .int (nI ((fbl (8 * ow + nq)).toNatClampNeg))), (7, .int (nI ow)), (6, .int (nI q9)), (0, .ref h0), (1, .ref p1), (2, .ref p3), (3, .int (nI nq)), (4, .int (nI fm)), (5, .int 6)]) hx hb dX5_work_80 hl (by decide) rfl (fun ls hl => ?_)
      have key_10 : ∀ (fu : Nat) (k9 : Nat) (en : Int32) (sdx : Nat) (mdx : Nat) (fdx : Nat → Int32), (k9 ≤ 12) → (sdx ≤ 40) → (mdx ≤ 200) → (sgL (wdC fle fli fo fbl fbs cn kq 2) nq q9 (fun i => fbs (12 * (8 * ow + nq) + i)) ((fbl (8 * ow + nq)).toNatClampNeg - k9) k9 (en, mdx, sdx, fdx) = (wdC fle fli fo fbl fbs cn kq 3 nq fm (md, sd, fd))) → 12 - k9 < fu → ∀ (H : Heap) (locs : List Loc), va_P (dC, dI) vwCl [(h0, .inr (5, [.ref u0, .int (nI sdx), .int (nI mdx), .int (nI kq)])), (u0, .inl (ku0, 40, .inl fdx)), (p1, .inr (1, [w0, .ref b1, w2, .ref b3, w4, w5, .int (nI cn), w7])), (b1, .inl (kb1, 10, .inl fle)), (b3, .inl (kb3, 100, .inl fli)), (p3, .inr (0, [.ref e0, .ref e1, .ref e2])), (e0, .inl (ke0, 8, .inl fo)), (e1, .inl (ke1, 80, .inl fbl)), (e2, .inl (ke2, 960, .inl fbs))] H → va_D A [(h0, .inr (5, [.ref u0, .int (nI sdx), .int (nI mdx), .int (nI kq)])), (u0, .inl (ku0, 40, .inl fdx)), (p1, .inr (1, [w0, .ref b1, w2, .ref b3, w4, w5, .int (nI cn), w7])), (b1, .inl (kb1, 10, .inl fle)), (b3, .inl (kb3, 100, .inl fli)), (p3, .inr (0, [.ref e0, .ref e1, .ref e2])), (e0, .inl (ke0, 8, .inl fo)), (e1, .inl (ke1, 80, .inl fbl)), (e2, .inl (ke2, 960, .inl fbs))] → va_S A s.heap H locs → ∀ (ls : Array Slot), lv_has ls 12 [(10, .int (nI k9)), (9, .int en), (8, .int (nI ((fbl (8 * ow + nq)).toNatClampNeg))), (7, .int (nI ow)), (6, .int (nI q9)), (0, .ref h0), (1, .ref p1), (2, .ref p3), (3, .int (nI nq)), (4, .int (nI fm)), (5, .int 6)] → W p l e (headSpec (wq yX5_work cX5_work 12 (some .int)) ({ frames := 6, cells := 0, slots := 0, locals := 148 })).room s m (([.ref h0, .ref p1, .ref p3, .int (nI nq), .int (nI fm), .int 6] : List Value)).toArray below meth c H locs 0 0 (MQ below (va_Qi (fun (r : Int32) (_ : Unit) => r = (wdC fle fli fo fbl fbs cn kq 3 nq fm (md, sd, fd)).1) (fun _ t => ∃ (sd2 : Nat) (md2 : Nat) (fd2 : Nat → Int32), (sd2 ≤ 40) ∧ (md2 ≤ 200) ∧ ((md2, sd2, fd2) = (wdC fle fli fo fbl fbs cn kq 3 nq fm (md, sd, fd)).2) ∧ va_P (dC, dI) vwCl [(h0, .inr (5, [.ref u0, .int (nI sd2), .int (nI md2), .int (nI kq)])), (u0, .inl (ku0, 40, .inl fd2)), (p1, .inr (1, [w0, .ref b1, w2, .ref b3, w4, w5, .int (nI cn), w7])), (b1, .inl (kb1, 10, .inl fle)), (b3, .inl (kb3, 100, .inl fli)), (p3, .inr (0, [.ref e0, .ref e1, .ref e2])), (e0, .inl (ke0, 8, .inl fo)), (e1, .inl (ke1, 80, .inl fbl)), (e2, .inl (ke2, 960, .inl fbs))] t.heap ∧ va_K (dC, dI) vwCl [(ku0, .int), (kb1, .int), (kb3, .int), (ke0, .int), (ke1, .int), (ke2, .char)] t ∧ va_D A [(h0, .inr (5, [.ref u0, .int (nI sd2), .int (nI md2), .int (nI kq)])), (u0, .inl (ku0, 40, .inl fd2)), (p1, .inr (1, [w0, .ref b1, w2, .ref b3, w4, w5, .int (nI cn), w7])), (b1, .inl (kb1, 10, .inl fle)), (b3, .inl (kb3, 100, .inl fli)), (p3, .inr (0, [.ref e0, .ref e1, .ref e2])), (e0, .inl (ke0, 8, .inl fo)), (e1, .inl (ke1, 80, .inl fbl)), (e2, .inl (ke2, 960, .inl fbs))]) A) (([.ref h0, .ref p1, .ref p3, .int (nI nq), .int (nI fm), .int 6] : List Value)).toArray s 0 0 A) (F0 m 82 ls []) := by
        intro fu
        induction fu with
        | zero => intro k9 en sdx mdx fdx hk hsx hmx hlp hme; exact absurd hme (Nat.not_lt_zero _)
        | succ fu ih_11 =>
          intro k9 en sdx mdx fdx hk hsx hmx hlp hme H locs hP hD hS ls hl
          refine lv_iload hx hb dX5_work_82 (lv_at hl 0 rfl) ?_
          refine lv_iload hx hb dX5_work_84 (lv_at hl 2 rfl) ?_
          refine lv_icmp_ge (tgt := 184) hx hb dX5_work_86 (by decide) (fun c_12 => ?_) (fun c_12 => ?_)
          · have b_13 := gx_ge (X := ((k9 : Nat) : Int)) (C := (((fbl (8 * ow + nq)).toNatClampNeg : Nat) : Int)) (nI_toInt (by omega)) (nI_toInt (by omega)) c_12
            refine lv_iload hx hb dX5_work_184 (lv_at hl 1 rfl) ?_
            have hP9 := hP.sub (ws' := [(h0, .inr (5, [.ref u0, .int (nI sdx), .int (nI mdx), .int (nI kq)])), (u0, .inl (ku0, 40, .inl fdx)), (p1, .inr (1, [w0, .ref b1, w2, .ref b3, w4, w5, .int (nI cn), w7])), (b1, .inl (kb1, 10, .inl fle)), (b3, .inl (kb3, 100, .inl fli)), (p3, .inr (0, [.ref e0, .ref e1, .ref e2])), (e0, .inl (ke0, 8, .inl fo)), (e1, .inl (ke1, 80, .inl fbl)), (e2, .inl (ke2, 960, .inl fbs))]) [0, 1, 2, 3, 4, 5, 6, 7, 8] rfl
            have hD9 := hD.sub (ws' := [(h0, .inr (5, [.ref u0, .int (nI sdx), .int (nI mdx), .int (nI kq)])), (u0, .inl (ku0, 40, .inl fdx)), (p1, .inr (1, [w0, .ref b1, w2, .ref b3, w4, w5, .int (nI cn), w7])), (b1, .inl (kb1, 10, .inl fle)), (b3, .inl (kb3, 100, .inl fli)), (p3, .inr (0, [.ref e0, .ref e1, .ref e2])), (e0, .inl (ke0, 8, .inl fo)), (e1, .inl (ke1, 80, .inl fbl)), (e2, .inl (ke2, 960, .inl fbs))]) [0, 1, 2, 3, 4, 5, 6, 7, 8] (by decide) rfl
            have hK9 := hK.sub (tys' := [(ku0, .int), (kb1, .int), (kb3, .int), (ke0, .int), (ke1, .int), (ke2, .char)]) [0, 1, 2, 3, 4, 5] rfl
            exact W.iret (v := en) hx hb hr (fun t ht hW => ⟨⟨en, (), rfl, (r4 ((sgl_end (Or.inl (by omega))).symm.trans hlp)).1, sdx, mdx, fdx, hsx, hmx, (Prod.ext (r4 ((sgl_end (Or.inl (by omega))).symm.trans hlp)).2.1 (Prod.ext (r4 ((sgl_end (Or.inl (by omega))).symm.trans hlp)).2.2.1 (r4 ((sgl_end (Or.inl (by omega))).symm.trans hlp)).2.2.2)), by rw [ht]; exact hP9, va_K.moved hW.alike hK9, hD9⟩, hS.F ht⟩) hS.2.2 dX5_work_186
          · have b_13 := gn_ge (X := ((k9 : Nat) : Int)) (C := (((fbl (8 * ow + nq)).toNatClampNeg : Nat) : Int)) (nI_toInt (by omega)) (nI_toInt (by omega)) c_12
            refine lv_iload hx hb dX5_work_89 (lv_at hl 1 rfl) ?_
            refine lv_if_ne (tgt := 184) hx hb dX5_work_91 (by decide) (fun c_14 => ?_) (fun c_14 => ?_)
            · have b_15 := gx_ne (X := (Int32.toInt en)) (C := 0) rfl (by decide) c_14
              refine lv_iload hx hb dX5_work_184 (lv_at hl 1 rfl) ?_
              have hP9 := hP.sub (ws' := [(h0, .inr (5, [.ref u0, .int (nI sdx), .int (nI mdx), .int (nI kq)])), (u0, .inl (ku0, 40, .inl fdx)), (p1, .inr (1, [w0, .ref b1, w2, .ref b3, w4, w5, .int (nI cn), w7])), (b1, .inl (kb1, 10, .inl fle)), (b3, .inl (kb3, 100, .inl fli)), (p3, .inr (0, [.ref e0, .ref e1, .ref e2])), (e0, .inl (ke0, 8, .inl fo)), (e1, .inl (ke1, 80, .inl fbl)), (e2, .inl (ke2, 960, .inl fbs))]) [0, 1, 2, 3, 4, 5, 6, 7, 8] rfl
              have hD9 := hD.sub (ws' := [(h0, .inr (5, [.ref u0, .int (nI sdx), .int (nI mdx), .int (nI kq)])), (u0, .inl (ku0, 40, .inl fdx)), (p1, .inr (1, [w0, .ref b1, w2, .ref b3, w4, w5, .int (nI cn), w7])), (b1, .inl (kb1, 10, .inl fle)), (b3, .inl (kb3, 100, .inl fli)), (p3, .inr (0, [.ref e0, .ref e1, .ref e2])), (e0, .inl (ke0, 8, .inl fo)), (e1, .inl (ke1, 80, .inl fbl)), (e2, .inl (ke2, 960, .inl fbs))]) [0, 1, 2, 3, 4, 5, 6, 7, 8] (by decide) rfl
              have hK9 := hK.sub (tys' := [(ku0, .int), (kb1, .int), (kb3, .int), (ke0, .int), (ke1, .int), (ke2, .char)]) [0, 1, 2, 3, 4, 5] rfl
              exact W.iret (v := en) hx hb hr (fun t ht hW => ⟨⟨en, (), rfl, (r4 ((sgl_end (Or.inr c_14)).symm.trans hlp)).1, sdx, mdx, fdx, hsx, hmx, (Prod.ext (r4 ((sgl_end (Or.inr c_14)).symm.trans hlp)).2.1 (Prod.ext (r4 ((sgl_end (Or.inr c_14)).symm.trans hlp)).2.2.1 (r4 ((sgl_end (Or.inr c_14)).symm.trans hlp)).2.2.2)), by rw [ht]; exact hP9, va_K.moved hW.alike hK9, hD9⟩, hS.F ht⟩) hS.2.2 dX5_work_186
            · have b_15 := gn_ne (X := (Int32.toInt en)) (C := 0) rfl (by decide) c_14
              refine lv_aload_n hx hb dX5_work_94 rfl (lv_at hl 7 rfl) ?_
              refine lv_iload hx hb dX5_work_95 (lv_at hl 3 rfl) ?_
              refine lv_iload_n hx hb dX5_work_97 rfl (lv_at hl 8 rfl) ?_
              refine lv_iload hx hb dX5_work_98 (lv_at hl 0 rfl) ?_
              have hPc := hP.sub (ws' := [(p3, .inr (0, [.ref e0, .ref e1, .ref e2])), (e1, .inl (ke1, 80, .inl fbl)), (e2, .inl (ke2, 960, .inl fbs))]) [5, 7, 8] rfl
              have hDc := hD.sub (ws' := [(p3, .inr (0, [.ref e0, .ref e1, .ref e2])), (e1, .inl (ke1, 80, .inl fbl)), (e2, .inl (ke2, 960, .inl fbs))]) [5, 7, 8] (by decide) rfl
              have hKc := hK.sub (tys' := [(ke1, .int), (ke2, .char)]) [4, 5] rfl
              refine va_calli (va_runV (As := [.int (nI ow), .int (nI nq), .int (nI k9)]) (rest := []) ⟨hx, hb, hml, hown, hts⟩ (c_bsignN l dC dI H.size p3 (.ref e0) e1 e2 ke1 fbl ke2 fbs ow nq k9 hbl hbs (by omega) hnq (by omega)) (cwV 3 hts (gV mw_2_176 mw_2_177 mw_2_178 mw_1_5 mw_2_179) rfl rfl rfl (by decide +kernel) ⟨Nat.le_of_ble_eq_true rfl, Nat.le_of_ble_eq_true rfl⟩) ⟨pcW_blind, va_recv hKc hPc (ci := 0) (q0 := 0) rfl rfl, pcW_at hPc hKc hDc hN⟩ rfl rfl hl.1 rfl (lv_room (Nat.le_of_ble_eq_true rfl)) dX5_work_100 ⟨Nat.le_of_ble_eq_true rfl, Nat.le_of_ble_eq_true rfl⟩) hS (fun q h1 h2 => absurd h2 (Nat.not_le.mpr h1)) (fun q h => hA q (Nat.le_trans hS.1 h)) (fun r_16 u t H1 locs ht hvm hw_16 hB hz1 hk1 hS => ?_)
              have hP := keepP hP hk1
              clear hz1 hk1 hB ht hvm hPc hDc hKc
              generalize H1 = H at hP hS ⊢
              obtain rfl : r_16 = (fbs (12 * (8 * ow + nq) + k9)) := hw_16
              refine lv_istore (lv' := [(11, .int (fbs (12 * (8 * ow + nq) + k9))), (10, .int (nI k9)), (9, .int en), (8, .int (nI ((fbl (8 * ow + nq)).toNatClampNeg))), (7, .int (nI ow)), (6, .int (nI q9)), (0, .ref h0), (1, .ref p1), (2, .ref p3), (3, .int (nI nq)), (4, .int (nI fm)), (5, .int 6)]) hx hb dX5_work_103 hl (by decide) rfl (fun ls hl => ?_)
              have hvc : (48 ≤ Int32.toInt (fbs (12 * (8 * ow + nq) + k9)) ∧ Int32.toInt (fbs (12 * (8 * ow + nq) + k9)) ≤ 57) ∨ (97 ≤ Int32.toInt (fbs (12 * (8 * ow + nq) + k9)) ∧ Int32.toInt (fbs (12 * (8 * ow + nq) + k9)) ≤ 104) ∨ Int32.toInt (fbs (12 * (8 * ow + nq) + k9)) = 94 := hcv (8 * ow + nq) (by omega) k9 (by omega)
              refine lv_iload hx hb dX5_work_105 (lv_at hl 0 rfl) ?_
              refine lv_bipush (v := 48) hx hb dX5_work_107 (by decide) ?_
              refine lv_icmp_lt (tgt := 133) hx hb dX5_work_109 (by decide) (fun h => absurd (gx_lt (X := (Int32.toInt (fbs (12 * (8 * ow + nq) + k9)))) (C := 48) rfl (by decide) h) (by omega)) (fun c_17 => ?_)
              have b_18 := gn_lt (X := (Int32.toInt (fbs (12 * (8 * ow + nq) + k9)))) (C := 48) rfl (by decide) c_17
              refine lv_iload hx hb dX5_work_112 (lv_at hl 0 rfl) ?_
              refine lv_bipush (v := 57) hx hb dX5_work_114 (by decide) ?_
              refine lv_icmp_gt (tgt := 133) hx hb dX5_work_116 (by decide) (fun c_19 => ?_) (fun c_19 => ?_)
              · have b_20 := gx_gt (X := (Int32.toInt (fbs (12 * (8 * ow + nq) + k9)))) (C := 57) rfl (by decide) c_19
                refine lv_iload hx hb dX5_work_133 (lv_at hl 0 rfl) ?_
                refine lv_bipush (v := 94) hx hb dX5_work_135 (by decide) ?_
                refine lv_icmp_ne (tgt := 160) hx hb dX5_work_137 (by decide) (fun c_21 => ?_) (fun c_21 => ?_)
                · have b_22 := gx_ne (X := (Int32.toInt (fbs (12 * (8 * ow + nq) + k9)))) (C := 94) rfl (by decide) c_21
                  refine lv_aload_n hx hb dX5_work_160 rfl (lv_at hl 6 rfl) ?_
                  refine lv_aload_n hx hb dX5_work_161 rfl (lv_at hl 7 rfl) ?_
                  refine lv_aload_n hx hb dX5_work_162 rfl (lv_at hl 8 rfl) ?_
                  refine lv_iload hx hb dX5_work_163 (lv_at hl 0 rfl) ?_
                  refine lv_bipush (v := 97) hx hb dX5_work_165 (by decide) ?_
                  refine lv_isub hx hb dX5_work_167 ?_
                  refine lv_topi (fun z_23 ez_23 => ?_)
                  have gz_23 := fx_rng (fbs (12 * (8 * ow + nq) + k9))
                  have fz_23 : Int32.toInt z_23 = (Int32.toInt (fbs (12 * (8 * ow + nq) + k9))) - 97 := by rw [ez_23]; exact gx_sub (X := (Int32.toInt (fbs (12 * (8 * ow + nq) + k9)))) (C := 97) rfl (by decide) (by omega) (by omega)
                  obtain ⟨j_24, tj_24, ej_24⟩ := fx_nat (x := z_23) (by omega)
                  subst ej_24
                  have yj_24 : Int32.toInt (nI j_24) = (j_24 : Int) := nI_toInt tj_24
                  refine lv_iconst (v := 0) hx hb dX5_work_168 (by decide) ?_
                  refine lv_iload hx hb dX5_work_169 (lv_at hl 11 rfl) ?_
                  refine lv_iconst (v := 1) hx hb dX5_work_171 (by decide) ?_
                  refine lv_iadd hx hb dX5_work_172 ?_
                  refine hx_top (y := 7) (by decide) ?_
                  have hPc := hP.sub (ws' := [(h0, .inr (5, [.ref u0, .int (nI sdx), .int (nI mdx), .int (nI kq)])), (u0, .inl (ku0, 40, .inl fdx)), (p1, .inr (1, [w0, .ref b1, w2, .ref b3, w4, w5, .int (nI cn), w7])), (b1, .inl (kb1, 10, .inl fle)), (b3, .inl (kb3, 100, .inl fli)), (p3, .inr (0, [.ref e0, .ref e1, .ref e2])), (e0, .inl (ke0, 8, .inl fo)), (e1, .inl (ke1, 80, .inl fbl)), (e2, .inl (ke2, 960, .inl fbs))]) [0, 1, 2, 3, 4, 5, 6, 7, 8] rfl
                  have hDc := hD.sub (ws' := [(h0, .inr (5, [.ref u0, .int (nI sdx), .int (nI mdx), .int (nI kq)])), (u0, .inl (ku0, 40, .inl fdx)), (p1, .inr (1, [w0, .ref b1, w2, .ref b3, w4, w5, .int (nI cn), w7])), (b1, .inl (kb1, 10, .inl fle)), (b3, .inl (kb3, 100, .inl fli)), (p3, .inr (0, [.ref e0, .ref e1, .ref e2])), (e0, .inl (ke0, 8, .inl fo)), (e1, .inl (ke1, 80, .inl fbl)), (e2, .inl (ke2, 960, .inl fbs))]) [0, 1, 2, 3, 4, 5, 6, 7, 8] (by decide) rfl
                  have hKc := hK.sub (tys' := [(ku0, .int), (kb1, .int), (kb3, .int), (ke0, .int), (ke1, .int), (ke2, .char)]) [0, 1, 2, 3, 4, 5] rfl
                  have hFc := va_free (wc := [(h0, .inr (5, [.ref u0, .int (nI sdx), .int (nI mdx), .int (nI kq)])), (u0, .inl (ku0, 40, .inl fdx)), (p1, .inr (1, [w0, .ref b1, w2, .ref b3, w4, w5, .int (nI cn), w7])), (b1, .inl (kb1, 10, .inl fle)), (b3, .inl (kb3, 100, .inl fli)), (p3, .inr (0, [.ref e0, .ref e1, .ref e2])), (e0, .inl (ke0, 8, .inl fo)), (e1, .inl (ke1, 80, .inl fbl)), (e2, .inl (ke2, 960, .inl fbs))]) hD hS hA [0, 1, 2, 3, 4, 5, 6, 7, 8] rfl
                  refine va_calli (va_runV (As := [.ref p1, .ref p3, .int (nI j_24), .int 0, .int 7]) (rest := []) ⟨hx, hb, hml, hown, hts⟩ (c_work7 l dC dI H.size h0 u0 sdx mdx kq ku0 fdx p1 (w0) b1 (w2) b3 (w4) (w5) cn (w7) kb1 fle kb3 fli p3 e0 e1 e2 ke0 fo ke1 fbl ke2 fbs j_24 0 hsx hc hle hbl hbs hlk hkq (by omega) (by omega) hmx hcv) (cwV 5 hts (gV mw_2_165 mw_2_167 mw_0_4 mw_1_6 mw_2_168) rfl rfl rfl (by decide +kernel) ⟨Nat.le_of_ble_eq_true rfl, Nat.le_of_ble_eq_true rfl⟩) ⟨pcW_blind, va_recv hKc hPc (ci := 5) (q0 := 0) rfl rfl, pcW_at hPc hKc hDc hN⟩ rfl rfl hl.1 rfl (lv_room (Nat.le_of_ble_eq_true rfl)) dX5_work_173 ⟨Nat.le_of_ble_eq_true rfl, Nat.le_of_ble_eq_true rfl⟩) hS (fun q _ h => hFc q h) hFc (fun r_25 u t H1 locs ht hvm hw_25 hB hz1 hk1 hS => ?_)
                  obtain ⟨q_26, q_27, f_28, p_29, p_30, p_31, hP1, hK1, hD1⟩ := hB
                  rw [ht] at hP1
                  have hK1 := va_K.moved hvm.symm hK1
                  obtain ⟨hP, hD⟩ := va_join (wr := []) (w1 := [(h0, .inr (5, [.ref u0, .int (nI q_26), .int (nI q_27), .int (nI kq)])), (u0, .inl (ku0, 40, .inl f_28)), (p1, .inr (1, [w0, .ref b1, w2, .ref b3, w4, w5, .int (nI cn), w7])), (b1, .inl (kb1, 10, .inl fle)), (b3, .inl (kb3, 100, .inl fli)), (p3, .inr (0, [.ref e0, .ref e1, .ref e2])), (e0, .inl (ke0, 8, .inl fo)), (e1, .inl (ke1, 80, .inl fbl)), (e2, .inl (ke2, 960, .inl fbs))]) hP hD [0, 1, 2, 3, 4, 5, 6, 7, 8] [] rfl rfl (by decide) (by decide) hk1 hFc hP1 hD1
                  have hK := (hK.sub (tys' := []) [] rfl).app hK1
                  clear hz1 hk1 hPc hDc hKc hFc
                  generalize H1 = H at hP hS ⊢
                  have hK : va_K (dC, dI) vwCl [(ku0, .int), (kb1, .int), (kb3, .int), (ke0, .int), (ke1, .int), (ke2, .char)] s := hK
                  have hP : va_P (dC, dI) vwCl [(h0, .inr (5, [.ref u0, .int (nI q_26), .int (nI q_27), .int (nI kq)])), (u0, .inl (ku0, 40, .inl f_28)), (p1, .inr (1, [w0, .ref b1, w2, .ref b3, w4, w5, .int (nI cn), w7])), (b1, .inl (kb1, 10, .inl fle)), (b3, .inl (kb3, 100, .inl fli)), (p3, .inr (0, [.ref e0, .ref e1, .ref e2])), (e0, .inl (ke0, 8, .inl fo)), (e1, .inl (ke1, 80, .inl fbl)), (e2, .inl (ke2, 960, .inl fbs))] H := hP
                  have hD : va_D A [(h0, .inr (5, [.ref u0, .int (nI q_26), .int (nI q_27), .int (nI kq)])), (u0, .inl (ku0, 40, .inl f_28)), (p1, .inr (1, [w0, .ref b1, w2, .ref b3, w4, w5, .int (nI cn), w7])), (b1, .inl (kb1, 10, .inl fle)), (b3, .inl (kb3, 100, .inl fli)), (p3, .inr (0, [.ref e0, .ref e1, .ref e2])), (e0, .inl (ke0, 8, .inl fo)), (e1, .inl (ke1, 80, .inl fbl)), (e2, .inl (ke2, 960, .inl fbs))] := hD
                  refine lv_istore (lv' := [(9, .int r_25), (11, .int (fbs (12 * (8 * ow + nq) + k9))), (10, .int (nI k9)), (8, .int (nI ((fbl (8 * ow + nq)).toNatClampNeg))), (7, .int (nI ow)), (6, .int (nI q9)), (0, .ref h0), (1, .ref p1), (2, .ref p3), (3, .int (nI nq)), (4, .int (nI fm)), (5, .int 6)]) hx hb dX5_work_176 hl (by decide) rfl (fun ls hl => ?_)
                  refine lv_iinc (v := (nI (k9 + 1))) (lv' := [(10, .int (nI (k9 + 1))), (9, .int r_25), (11, .int (fbs (12 * (8 * ow + nq) + k9))), (8, .int (nI ((fbl (8 * ow + nq)).toNatClampNeg))), (7, .int (nI ow)), (6, .int (nI q9)), (0, .ref h0), (1, .ref p1), (2, .ref p3), (3, .int (nI nq)), (4, .int (nI fm)), (5, .int 6)]) hx hb dX5_work_178 hl (k := 2) rfl (nI_add k9 1) (by decide) rfl (fun ls hl => ?_)
                  refine lv_goto (tgt := 82) hx hb dX5_work_181 (by decide) ?_
                  exact ih_11 (k9 + 1) r_25 q_26 q_27 f_28 (by omega) p_29 p_30 (lp_let hlp c_14 (by omega) (by show 97 ≤ Int32.toInt (fbs (12 * (8 * ow + nq) + k9)); omega) (by show ((j_24 : Nat) : Int) = Int32.toInt (fbs (12 * (8 * ow + nq) + k9)) - 97; omega) hw_25 p_31) (by omega) _ _ hP hD hS ls (lv_sub hl [0, 1, 3, 4, 5, 6, 7, 8, 9, 10, 11] rfl)
                · have b_22 := gn_ne (X := (Int32.toInt (fbs (12 * (8 * ow + nq) + k9)))) (C := 94) rfl (by decide) c_21
                  refine lv_aload_n hx hb dX5_work_140 rfl (lv_at hl 6 rfl) ?_
                  refine lv_aload_n hx hb dX5_work_141 rfl (lv_at hl 7 rfl) ?_
                  refine lv_aload_n hx hb dX5_work_142 rfl (lv_at hl 8 rfl) ?_
                  refine lv_iload_n hx hb dX5_work_143 rfl (lv_at hl 9 rfl) ?_
                  refine lv_iload hx hb dX5_work_144 (lv_at hl 5 rfl) ?_
                  refine lv_iconst (v := 1) hx hb dX5_work_146 (by decide) ?_
                  refine lv_iadd hx hb dX5_work_147 ?_
                  refine hx_top (y := (nI (q9 + 1))) (nI_add q9 1) ?_
                  refine lv_iload hx hb dX5_work_148 (lv_at hl 11 rfl) ?_
                  refine lv_iconst (v := 1) hx hb dX5_work_150 (by decide) ?_
                  refine lv_iadd hx hb dX5_work_151 ?_
                  refine hx_top (y := 7) (by decide) ?_
                  have hPc := hP.sub (ws' := [(h0, .inr (5, [.ref u0, .int (nI sdx), .int (nI mdx), .int (nI kq)])), (u0, .inl (ku0, 40, .inl fdx)), (p1, .inr (1, [w0, .ref b1, w2, .ref b3, w4, w5, .int (nI cn), w7])), (b1, .inl (kb1, 10, .inl fle)), (b3, .inl (kb3, 100, .inl fli)), (p3, .inr (0, [.ref e0, .ref e1, .ref e2])), (e0, .inl (ke0, 8, .inl fo)), (e1, .inl (ke1, 80, .inl fbl)), (e2, .inl (ke2, 960, .inl fbs))]) [0, 1, 2, 3, 4, 5, 6, 7, 8] rfl
                  have hDc := hD.sub (ws' := [(h0, .inr (5, [.ref u0, .int (nI sdx), .int (nI mdx), .int (nI kq)])), (u0, .inl (ku0, 40, .inl fdx)), (p1, .inr (1, [w0, .ref b1, w2, .ref b3, w4, w5, .int (nI cn), w7])), (b1, .inl (kb1, 10, .inl fle)), (b3, .inl (kb3, 100, .inl fli)), (p3, .inr (0, [.ref e0, .ref e1, .ref e2])), (e0, .inl (ke0, 8, .inl fo)), (e1, .inl (ke1, 80, .inl fbl)), (e2, .inl (ke2, 960, .inl fbs))]) [0, 1, 2, 3, 4, 5, 6, 7, 8] (by decide) rfl
                  have hKc := hK.sub (tys' := [(ku0, .int), (kb1, .int), (kb3, .int), (ke0, .int), (ke1, .int), (ke2, .char)]) [0, 1, 2, 3, 4, 5] rfl
                  have hFc := va_free (wc := [(h0, .inr (5, [.ref u0, .int (nI sdx), .int (nI mdx), .int (nI kq)])), (u0, .inl (ku0, 40, .inl fdx)), (p1, .inr (1, [w0, .ref b1, w2, .ref b3, w4, w5, .int (nI cn), w7])), (b1, .inl (kb1, 10, .inl fle)), (b3, .inl (kb3, 100, .inl fli)), (p3, .inr (0, [.ref e0, .ref e1, .ref e2])), (e0, .inl (ke0, 8, .inl fo)), (e1, .inl (ke1, 80, .inl fbl)), (e2, .inl (ke2, 960, .inl fbs))]) hD hS hA [0, 1, 2, 3, 4, 5, 6, 7, 8] rfl
                  refine va_calli (va_runV (As := [.ref p1, .ref p3, .int (nI nq), .int (nI (q9 + 1)), .int 7]) (rest := []) ⟨hx, hb, hml, hown, hts⟩ (c_work7 l dC dI H.size h0 u0 sdx mdx kq ku0 fdx p1 (w0) b1 (w2) b3 (w4) (w5) cn (w7) kb1 fle kb3 fli p3 e0 e1 e2 ke0 fo ke1 fbl ke2 fbs nq (q9 + 1) hsx hc hle hbl hbs hlk hkq hnq (by omega) hmx hcv) (cwV 5 hts (gV mw_2_165 mw_2_167 mw_0_4 mw_1_6 mw_2_168) rfl rfl rfl (by decide +kernel) ⟨Nat.le_of_ble_eq_true rfl, Nat.le_of_ble_eq_true rfl⟩) ⟨pcW_blind, va_recv hKc hPc (ci := 5) (q0 := 0) rfl rfl, pcW_at hPc hKc hDc hN⟩ rfl rfl hl.1 rfl (lv_room (Nat.le_of_ble_eq_true rfl)) dX5_work_152 ⟨Nat.le_of_ble_eq_true rfl, Nat.le_of_ble_eq_true rfl⟩) hS (fun q _ h => hFc q h) hFc (fun r_32 u t H1 locs ht hvm hw_32 hB hz1 hk1 hS => ?_)
                  obtain ⟨q_33, q_34, f_35, p_36, p_37, p_38, hP1, hK1, hD1⟩ := hB
                  rw [ht] at hP1
                  have hK1 := va_K.moved hvm.symm hK1
                  obtain ⟨hP, hD⟩ := va_join (wr := []) (w1 := [(h0, .inr (5, [.ref u0, .int (nI q_33), .int (nI q_34), .int (nI kq)])), (u0, .inl (ku0, 40, .inl f_35)), (p1, .inr (1, [w0, .ref b1, w2, .ref b3, w4, w5, .int (nI cn), w7])), (b1, .inl (kb1, 10, .inl fle)), (b3, .inl (kb3, 100, .inl fli)), (p3, .inr (0, [.ref e0, .ref e1, .ref e2])), (e0, .inl (ke0, 8, .inl fo)), (e1, .inl (ke1, 80, .inl fbl)), (e2, .inl (ke2, 960, .inl fbs))]) hP hD [0, 1, 2, 3, 4, 5, 6, 7, 8] [] rfl rfl (by decide) (by decide) hk1 hFc hP1 hD1
                  have hK := (hK.sub (tys' := []) [] rfl).app hK1
                  clear hz1 hk1 hPc hDc hKc hFc
                  generalize H1 = H at hP hS ⊢
                  have hK : va_K (dC, dI) vwCl [(ku0, .int), (kb1, .int), (kb3, .int), (ke0, .int), (ke1, .int), (ke2, .char)] s := hK
                  have hP : va_P (dC, dI) vwCl [(h0, .inr (5, [.ref u0, .int (nI q_33), .int (nI q_34), .int (nI kq)])), (u0, .inl (ku0, 40, .inl f_35)), (p1, .inr (1, [w0, .ref b1, w2, .ref b3, w4, w5, .int (nI cn), w7])), (b1, .inl (kb1, 10, .inl fle)), (b3, .inl (kb3, 100, .inl fli)), (p3, .inr (0, [.ref e0, .ref e1, .ref e2])), (e0, .inl (ke0, 8, .inl fo)), (e1, .inl (ke1, 80, .inl fbl)), (e2, .inl (ke2, 960, .inl fbs))] H := hP
                  have hD : va_D A [(h0, .inr (5, [.ref u0, .int (nI q_33), .int (nI q_34), .int (nI kq)])), (u0, .inl (ku0, 40, .inl f_35)), (p1, .inr (1, [w0, .ref b1, w2, .ref b3, w4, w5, .int (nI cn), w7])), (b1, .inl (kb1, 10, .inl fle)), (b3, .inl (kb3, 100, .inl fli)), (p3, .inr (0, [.ref e0, .ref e1, .ref e2])), (e0, .inl (ke0, 8, .inl fo)), (e1, .inl (ke1, 80, .inl fbl)), (e2, .inl (ke2, 960, .inl fbs))] := hD
                  refine lv_istore (lv' := [(9, .int r_32), (11, .int (fbs (12 * (8 * ow + nq) + k9))), (10, .int (nI k9)), (8, .int (nI ((fbl (8 * ow + nq)).toNatClampNeg))), (7, .int (nI ow)), (6, .int (nI q9)), (0, .ref h0), (1, .ref p1), (2, .ref p3), (3, .int (nI nq)), (4, .int (nI fm)), (5, .int 6)]) hx hb dX5_work_155 hl (by decide) rfl (fun ls hl => ?_)
                  refine lv_goto (tgt := 178) hx hb dX5_work_157 (by decide) ?_
                  refine lv_iinc (v := (nI (k9 + 1))) (lv' := [(10, .int (nI (k9 + 1))), (9, .int r_32), (11, .int (fbs (12 * (8 * ow + nq) + k9))), (8, .int (nI ((fbl (8 * ow + nq)).toNatClampNeg))), (7, .int (nI ow)), (6, .int (nI q9)), (0, .ref h0), (1, .ref p1), (2, .ref p3), (3, .int (nI nq)), (4, .int (nI fm)), (5, .int 6)]) hx hb dX5_work_178 hl (k := 2) rfl (nI_add k9 1) (by decide) rfl (fun ls hl => ?_)
                  refine lv_goto (tgt := 82) hx hb dX5_work_181 (by decide) ?_
                  exact ih_11 (k9 + 1) r_32 q_33 q_34 f_35 (by omega) p_36 p_37 (lp_up hlp c_14 (by omega) (by show Int32.toInt (fbs (12 * (8 * ow + nq) + k9)) = 94; omega) hw_32 p_38) (by omega) _ _ hP hD hS ls (lv_sub hl [0, 1, 3, 4, 5, 6, 7, 8, 9, 10, 11] rfl)
              · have b_20 := gn_gt (X := (Int32.toInt (fbs (12 * (8 * ow + nq) + k9)))) (C := 57) rfl (by decide) c_19
                refine lv_aload_n hx hb dX5_work_119 rfl (lv_at hl 6 rfl) ?_
                refine lv_iload hx hb dX5_work_120 (lv_at hl 0 rfl) ?_
                refine lv_bipush (v := 48) hx hb dX5_work_122 (by decide) ?_
                refine lv_isub hx hb dX5_work_124 ?_
                refine lv_topi (fun z_39 ez_39 => ?_)
                have gz_39 := fx_rng (fbs (12 * (8 * ow + nq) + k9))
                have fz_39 : Int32.toInt z_39 = (Int32.toInt (fbs (12 * (8 * ow + nq) + k9))) - 48 := by rw [ez_39]; exact gx_sub (X := (Int32.toInt (fbs (12 * (8 * ow + nq) + k9)))) (C := 48) rfl (by decide) (by omega) (by omega)
                have hPc := hP.sub (ws' := [(h0, .inr (5, [.ref u0, .int (nI sdx), .int (nI mdx), .int (nI kq)])), (u0, .inl (ku0, 40, .inl fdx))]) [0, 1] rfl
                have hDc := hD.sub (ws' := [(h0, .inr (5, [.ref u0, .int (nI sdx), .int (nI mdx), .int (nI kq)])), (u0, .inl (ku0, 40, .inl fdx))]) [0, 1] (by decide) rfl
                have hKc := hK.sub (tys' := [(ku0, .int)]) [0] rfl
                have hFc := va_free (wc := [(h0, .inr (5, [.ref u0, .int (nI sdx), .int (nI mdx), .int (nI kq)])), (u0, .inl (ku0, 40, .inl fdx))]) hD hS hA [0, 1] rfl
                refine va_calli (va_runV (As := [.int z_39]) (rest := []) ⟨hx, hb, hml, hown, hts⟩ (c_sayD l dC dI H.size h0 u0 sdx mdx kq ku0 fdx z_39 hsx) (cwV 1 hts (gV mw_2_181 mw_2_183 mw_0_5 mw_1_6 mw_2_184) rfl rfl rfl (by decide +kernel) ⟨Nat.le_of_ble_eq_true rfl, Nat.le_of_ble_eq_true rfl⟩) ⟨pcW_blind, va_recv hKc hPc (ci := 5) (q0 := 0) rfl rfl, pcW_at hPc hKc hDc hN⟩ rfl rfl hl.1 rfl (lv_room (Nat.le_of_ble_eq_true rfl)) dX5_work_125 ⟨Nat.le_of_ble_eq_true rfl, Nat.le_of_ble_eq_true rfl⟩) hS (fun q _ h => hFc q h) hFc (fun r_40 u t H1 locs ht hvm hw_40 hB hz1 hk1 hS => ?_)
                obtain ⟨q_41, f_42, p_43, p_44, p_45, hP1, hK1, hD1⟩ := hB
                rw [ht] at hP1
                have hK1 := va_K.moved hvm.symm hK1
                obtain ⟨hP, hD⟩ := va_join (wr := [(p1, .inr (1, [w0, .ref b1, w2, .ref b3, w4, w5, .int (nI cn), w7])), (b1, .inl (kb1, 10, .inl fle)), (b3, .inl (kb3, 100, .inl fli)), (p3, .inr (0, [.ref e0, .ref e1, .ref e2])), (e0, .inl (ke0, 8, .inl fo)), (e1, .inl (ke1, 80, .inl fbl)), (e2, .inl (ke2, 960, .inl fbs))]) (w1 := [(h0, .inr (5, [.ref u0, .int (nI q_41), .int (nI mdx), .int (nI kq)])), (u0, .inl (ku0, 40, .inl f_42))]) hP hD [0, 1] [2, 3, 4, 5, 6, 7, 8] rfl rfl (by decide) (by decide) hk1 hFc hP1 hD1
                have hK := (hK.sub (tys' := [(kb1, .int), (kb3, .int), (ke0, .int), (ke1, .int), (ke2, .char)]) [1, 2, 3, 4, 5] rfl).app hK1
                clear hz1 hk1 hPc hDc hKc hFc
                generalize H1 = H at hP hS ⊢
                have hK : va_K (dC, dI) vwCl [(kb1, .int), (kb3, .int), (ke0, .int), (ke1, .int), (ke2, .char), (ku0, .int)] s := hK
                have hP : va_P (dC, dI) vwCl [(p1, .inr (1, [w0, .ref b1, w2, .ref b3, w4, w5, .int (nI cn), w7])), (b1, .inl (kb1, 10, .inl fle)), (b3, .inl (kb3, 100, .inl fli)), (p3, .inr (0, [.ref e0, .ref e1, .ref e2])), (e0, .inl (ke0, 8, .inl fo)), (e1, .inl (ke1, 80, .inl fbl)), (e2, .inl (ke2, 960, .inl fbs)), (h0, .inr (5, [.ref u0, .int (nI q_41), .int (nI mdx), .int (nI kq)])), (u0, .inl (ku0, 40, .inl f_42))] H := hP
                have hD : va_D A [(p1, .inr (1, [w0, .ref b1, w2, .ref b3, w4, w5, .int (nI cn), w7])), (b1, .inl (kb1, 10, .inl fle)), (b3, .inl (kb3, 100, .inl fli)), (p3, .inr (0, [.ref e0, .ref e1, .ref e2])), (e0, .inl (ke0, 8, .inl fo)), (e1, .inl (ke1, 80, .inl fbl)), (e2, .inl (ke2, 960, .inl fbs)), (h0, .inr (5, [.ref u0, .int (nI q_41), .int (nI mdx), .int (nI kq)])), (u0, .inl (ku0, 40, .inl f_42))] := hD
                refine lv_istore (lv' := [(9, .int r_40), (11, .int (fbs (12 * (8 * ow + nq) + k9))), (10, .int (nI k9)), (8, .int (nI ((fbl (8 * ow + nq)).toNatClampNeg))), (7, .int (nI ow)), (6, .int (nI q9)), (0, .ref h0), (1, .ref p1), (2, .ref p3), (3, .int (nI nq)), (4, .int (nI fm)), (5, .int 6)]) hx hb dX5_work_128 hl (by decide) rfl (fun ls hl => ?_)
                refine lv_goto (tgt := 178) hx hb dX5_work_130 (by decide) ?_
                refine lv_iinc (v := (nI (k9 + 1))) (lv' := [(10, .int (nI (k9 + 1))), (9, .int r_40), (11, .int (fbs (12 * (8 * ow + nq) + k9))), (8, .int (nI ((fbl (8 * ow + nq)).toNatClampNeg))), (7, .int (nI ow)), (6, .int (nI q9)), (0, .ref h0), (1, .ref p1), (2, .ref p3), (3, .int (nI nq)), (4, .int (nI fm)), (5, .int 6)]) hx hb dX5_work_178 hl (k := 2) rfl (nI_add k9 1) (by decide) rfl (fun ls hl => ?_)
                refine lv_goto (tgt := 82) hx hb dX5_work_181 (by decide) ?_
                exact ih_11 (k9 + 1) r_40 q_41 mdx f_42 (by omega) p_43 hmx (by rw [hw_40]; exact lp_dig hlp c_14 (by omega) (by show 48 ≤ Int32.toInt (fbs (12 * (8 * ow + nq) + k9)) ∧ Int32.toInt (fbs (12 * (8 * ow + nq) + k9)) ≤ 57; omega) (by rw [ez_39]) p_44 p_45) (by omega) _ _ (hP.sub (ws' := [(h0, .inr (5, [.ref u0, .int (nI q_41), .int (nI mdx), .int (nI kq)])), (u0, .inl (ku0, 40, .inl f_42)), (p1, .inr (1, [w0, .ref b1, w2, .ref b3, w4, w5, .int (nI cn), w7])), (b1, .inl (kb1, 10, .inl fle)), (b3, .inl (kb3, 100, .inl fli)), (p3, .inr (0, [.ref e0, .ref e1, .ref e2])), (e0, .inl (ke0, 8, .inl fo)), (e1, .inl (ke1, 80, .inl fbl)), (e2, .inl (ke2, 960, .inl fbs))]) [7, 8, 0, 1, 2, 3, 4, 5, 6] rfl) (hD.sub (ws' := [(h0, .inr (5, [.ref u0, .int (nI q_41), .int (nI mdx), .int (nI kq)])), (u0, .inl (ku0, 40, .inl f_42)), (p1, .inr (1, [w0, .ref b1, w2, .ref b3, w4, w5, .int (nI cn), w7])), (b1, .inl (kb1, 10, .inl fle)), (b3, .inl (kb3, 100, .inl fli)), (p3, .inr (0, [.ref e0, .ref e1, .ref e2])), (e0, .inl (ke0, 8, .inl fo)), (e1, .inl (ke1, 80, .inl fbl)), (e2, .inl (ke2, 960, .inl fbs))]) [7, 8, 0, 1, 2, 3, 4, 5, 6] (by decide) rfl) hS ls (lv_sub hl [0, 1, 3, 4, 5, 6, 7, 8, 9, 10, 11] rfl)
      exact key_10 ((12 - 0) + 1) 0 0 sd (md + 1) fd (by omega) hsd (by omega) (wd_inC hw_4 (by omega) (by omega) eow (by omega)).symm (Nat.lt_succ_self _) _ _ hP hD hS ls (lv_sub hl [0, 1, 2, 3, 4, 5, 6, 7, 8, 9, 10] rfl)
  · have b_2 := gn_lt (X := ((md : Nat) : Int)) (C := 200) (nI_toInt (by omega)) (by decide) c_1
    refine lv_iconst (v := 2) hx hb dX5_work_17 (by decide) ?_
    have hP9 := hP.sub (ws' := [(h0, .inr (5, [.ref u0, .int (nI sd), .int (nI md), .int (nI kq)])), (u0, .inl (ku0, 40, .inl fd)), (p1, .inr (1, [w0, .ref b1, w2, .ref b3, w4, w5, .int (nI cn), w7])), (b1, .inl (kb1, 10, .inl fle)), (b3, .inl (kb3, 100, .inl fli)), (p3, .inr (0, [.ref e0, .ref e1, .ref e2])), (e0, .inl (ke0, 8, .inl fo)), (e1, .inl (ke1, 80, .inl fbl)), (e2, .inl (ke2, 960, .inl fbs))]) [0, 1, 2, 3, 4, 5, 6, 7, 8] rfl
    have hD9 := hD.sub (ws' := [(h0, .inr (5, [.ref u0, .int (nI sd), .int (nI md), .int (nI kq)])), (u0, .inl (ku0, 40, .inl fd)), (p1, .inr (1, [w0, .ref b1, w2, .ref b3, w4, w5, .int (nI cn), w7])), (b1, .inl (kb1, 10, .inl fle)), (b3, .inl (kb3, 100, .inl fli)), (p3, .inr (0, [.ref e0, .ref e1, .ref e2])), (e0, .inl (ke0, 8, .inl fo)), (e1, .inl (ke1, 80, .inl fbl)), (e2, .inl (ke2, 960, .inl fbs))]) [0, 1, 2, 3, 4, 5, 6, 7, 8] (by decide) rfl
    have hK9 := hK.sub (tys' := [(ku0, .int), (kb1, .int), (kb3, .int), (ke0, .int), (ke1, .int), (ke2, .char)]) [0, 1, 2, 3, 4, 5] rfl
    exact W.iret (v := 2) hx hb hr (fun t ht hW => ⟨⟨2, (), rfl, (r4 (wd_fuC (d := 3) (Or.inr (by omega)))).1, sd, md, fd, hsd, hmd, (Prod.ext (r4 (wd_fuC (d := 3) (Or.inr (by omega)))).2.1 (Prod.ext (r4 (wd_fuC (d := 3) (Or.inr (by omega)))).2.2.1 (r4 (wd_fuC (d := 3) (Or.inr (by omega)))).2.2.2)), by rw [ht]; exact hP9, va_K.moved hW.alike hK9, hD9⟩, hS.F ht⟩) hS.2.2 dX5_work_18
set_option maxHeartbeats 4000000 in
set_option maxRecDepth 100000 in
theorem c_work5 (l : Launch) (dC : Nat → ClassId) (dI : Nat → Nat → Nat) (sz : Nat) (h0 : Nat) (u0 : Nat) (sd : Nat) (md : Nat) (kq : Nat) (ku0 : ClassId) (fd : Nat → Int32) (p1 : Nat) (w0 : Value) (b1 : Nat) (w2 : Value) (b3 : Nat) (w4 : Value) (w5 : Value) (cn : Nat) (w7 : Value) (kb1 : ClassId) (fle : Nat → Int32) (kb3 : ClassId) (fli : Nat → Int32) (p3 : Nat) (e0 : Nat) (e1 : Nat) (e2 : Nat) (ke0 : ClassId) (fo : Nat → Int32) (ke1 : ClassId) (fbl : Nat → Int32) (ke2 : ClassId) (fbs : Nat → Int32) (nq : Nat) (fm : Nat) (hsd : sd ≤ 40) (hc : cn ≤ 10) (hle : BdOk 10 10 fle) (hbl : BdOk 80 12 fbl) (hbs : ChOk fbs) (hlk : LnOk fle fli cn) (hkq : kq < cn) (hnq : nq < 8) (hfm : fm ≤ 10) (hmd : md ≤ 200) (hcv : CvOk fbl fbs) : Met l yX5_work (wq yX5_work cX5_work 12 (some .int)) ({ frames := 7, cells := 0, slots := 0, locals := 179 }) (va_Pc [.ref h0, .ref p1, .ref p3, .int (nI nq), .int (nI fm), .int 5] (pcW dC dI [(ku0, .int), (kb1, .int), (kb3, .int), (ke0, .int), (ke1, .int), (ke2, .char)] [(h0, .inr (5, [.ref u0, .int (nI sd), .int (nI md), .int (nI kq)])), (u0, .inl (ku0, 40, .inl fd)), (p1, .inr (1, [w0, .ref b1, w2, .ref b3, w4, w5, .int (nI cn), w7])), (b1, .inl (kb1, 10, .inl fle)), (b3, .inl (kb3, 100, .inl fli)), (p3, .inr (0, [.ref e0, .ref e1, .ref e2])), (e0, .inl (ke0, 8, .inl fo)), (e1, .inl (ke1, 80, .inl fbl)), (e2, .inl (ke2, 960, .inl fbs))] sz)) (va_Qi (fun (r : Int32) (_ : Unit) => r = (wdC fle fli fo fbl fbs cn kq 4 nq fm (md, sd, fd)).1) (fun _ t => ∃ (sd2 : Nat) (md2 : Nat) (fd2 : Nat → Int32), (sd2 ≤ 40) ∧ (md2 ≤ 200) ∧ ((md2, sd2, fd2) = (wdC fle fli fo fbl fbs cn kq 4 nq fm (md, sd, fd)).2) ∧ va_P (dC, dI) vwCl [(h0, .inr (5, [.ref u0, .int (nI sd2), .int (nI md2), .int (nI kq)])), (u0, .inl (ku0, 40, .inl fd2)), (p1, .inr (1, [w0, .ref b1, w2, .ref b3, w4, w5, .int (nI cn), w7])), (b1, .inl (kb1, 10, .inl fle)), (b3, .inl (kb3, 100, .inl fli)), (p3, .inr (0, [.ref e0, .ref e1, .ref e2])), (e0, .inl (ke0, 8, .inl fo)), (e1, .inl (ke1, 80, .inl fbl)), (e2, .inl (ke2, 960, .inl fbs))] t.heap ∧ va_K (dC, dI) vwCl [(ku0, .int), (kb1, .int), (kb3, .int), (ke0, .int), (ke1, .int), (ke2, .char)] t ∧ va_D (va_A [(h0, .inr (5, [.ref u0, .int (nI sd), .int (nI md), .int (nI kq)])), (u0, .inl (ku0, 40, .inl fd)), (p1, .inr (1, [w0, .ref b1, w2, .ref b3, w4, w5, .int (nI cn), w7])), (b1, .inl (kb1, 10, .inl fle)), (b3, .inl (kb3, 100, .inl fli)), (p3, .inr (0, [.ref e0, .ref e1, .ref e2])), (e0, .inl (ke0, 8, .inl fo)), (e1, .inl (ke1, 80, .inl fbl)), (e2, .inl (ke2, 960, .inl fbs))] sz) [(h0, .inr (5, [.ref u0, .int (nI sd2), .int (nI md2), .int (nI kq)])), (u0, .inl (ku0, 40, .inl fd2)), (p1, .inr (1, [w0, .ref b1, w2, .ref b3, w4, w5, .int (nI cn), w7])), (b1, .inl (kb1, 10, .inl fle)), (b3, .inl (kb3, 100, .inl fli)), (p3, .inr (0, [.ref e0, .ref e1, .ref e2])), (e0, .inl (ke0, 8, .inl fo)), (e1, .inl (ke1, 80, .inl fbl)), (e2, .inl (ke2, 960, .inl fbs))]) (va_A [(h0, .inr (5, [.ref u0, .int (nI sd), .int (nI md), .int (nI kq)])), (u0, .inl (ku0, 40, .inl fd)), (p1, .inr (1, [w0, .ref b1, w2, .ref b3, w4, w5, .int (nI cn), w7])), (b1, .inl (kb1, 10, .inl fle)), (b3, .inl (kb3, 100, .inl fli)), (p3, .inr (0, [.ref e0, .ref e1, .ref e2])), (e0, .inl (ke0, 8, .inl fo)), (e1, .inl (ke1, 80, .inl fbl)), (e2, .inl (ke2, 960, .inl fbs))] sz)) 0 0 (va_A [(h0, .inr (5, [.ref u0, .int (nI sd), .int (nI md), .int (nI kq)])), (u0, .inl (ku0, 40, .inl fd)), (p1, .inr (1, [w0, .ref b1, w2, .ref b3, w4, w5, .int (nI cn), w7])), (b1, .inl (kb1, 10, .inl fle)), (b3, .inl (kb3, 100, .inl fli)), (p3, .inr (0, [.ref e0, .ref e1, .ref e2])), (e0, .inl (ke0, 8, .inl fo)), (e1, .inl (ke1, 80, .inl fbl)), (e2, .inl (ke2, 960, .inl fbs))] sz) := by
  refine Met.ofW (cc := cX5_work) (maxL := 12) (ret := (some .int)) (by decide) rfl ?_
  intro p e s m args below meth c s₁ B hml hv
  obtain ⟨rfl, hsz, hN, hP, hK, hD0⟩ := hv
  have hx := B.exec
  have hb := B.bytes
  have hr := B.returns
  have hts0 := atoms_spec (ws := (wq yX5_work cX5_work 12 (some .int))) B.pre
  have hts : ∀ w ∈ BG, w.before _ s = true := fun w h => hts0 w (List.mem_cons_of_mem _ h)
  have hown : s.vm.findClass RX5 = some m.cls := findClass_of_methodNamed B.named
  have hlocks := B.notSynchronized
  subst hsz
  have hD := hD0.self (sz := s.heap.size)
  generalize hAe : va_A [(h0, .inr (5, [.ref u0, .int (nI sd), .int (nI md), .int (nI kq)])), (u0, .inl (ku0, 40, .inl fd)), (p1, .inr (1, [w0, .ref b1, w2, .ref b3, w4, w5, .int (nI cn), w7])), (b1, .inl (kb1, 10, .inl fle)), (b3, .inl (kb3, 100, .inl fli)), (p3, .inr (0, [.ref e0, .ref e1, .ref e2])), (e0, .inl (ke0, 8, .inl fo)), (e1, .inl (ke1, 80, .inl fbl)), (e2, .inl (ke2, 960, .inl fbs))] s.heap.size = A at hD ⊢
  have hA : ∀ q : Nat, s.heap.size ≤ q → A q := fun q h => by rw [← hAe]; exact Or.inr h
  have hS : va_S A s.heap s.heap [] := va_S.rf
  clear hAe hD0
  have hP : va_P (dC, dI) vwCl [(h0, .inr (5, [.ref u0, .int (nI sd), .int (nI md), .int (nI kq)])), (u0, .inl (ku0, 40, .inl fd)), (p1, .inr (1, [w0, .ref b1, w2, .ref b3, w4, w5, .int (nI cn), w7])), (b1, .inl (kb1, 10, .inl fle)), (b3, .inl (kb3, 100, .inl fli)), (p3, .inr (0, [.ref e0, .ref e1, .ref e2])), (e0, .inl (ke0, 8, .inl fo)), (e1, .inl (ke1, 80, .inl fbl)), (e2, .inl (ke2, 960, .inl fbs))] s.heap := hP
  have hl := lv_entry ([.ref h0, .ref p1, .ref p3, .int (nI nq), .int (nI fm), .int 5]) (n := 12) (Nat.le_of_ble_eq_true rfl)
  rw [lg_entry_eq]
  generalize (lg_sl ([.ref h0, .ref p1, .ref p3, .int (nI nq), .int (nI fm), .int 5]) ++ List.replicate (12 - (lg_sl ([.ref h0, .ref p1, .ref p3, .int (nI nq), .int (nI fm), .int 5])).length) Slot.unset).toArray = ls at hl ⊢
  have hl : lv_has ls 12 [(0, .ref h0), (1, .ref p1), (2, .ref p3), (3, .int (nI nq)), (4, .int (nI fm)), (5, .int 5)] := hl
  have hle9 := lenN_le (n := nI kq) hc hle
  refine lv_iload hx hb dX5_work_0 (lv_at hl 5 rfl) ?_
  refine lv_bipush (v := 9) hx hb dX5_work_2 (by decide) ?_
  refine lv_icmp_ge (tgt := 17) hx hb dX5_work_4 (by decide) (fun h => absurd h (by decide)) (fun _ => ?_)
  refine lv_aload_n hx hb dX5_work_7 rfl (lv_at hl 0 rfl) ?_
  refine va_get (D := (dC, dI)) (ci := 5) (v := .int (nI md)) (C := RX5) (T := TX5) (N := 4) hx hb hts inB_5 hown hK hP 0 rfl rfl 2 (by decide) (hts _ mw_1_110) (fun _ h9 => h9) rfl dX5_work_8 ?_
  refine lv_sipush (v := 200) hx hb dX5_work_11 (by decide) ?_
  refine lv_icmp_lt (tgt := 19) hx hb dX5_work_14 (by decide) (fun c_1 => ?_) (fun c_1 => ?_)
  · have b_2 := gx_lt (X := ((md : Nat) : Int)) (C := 200) (nI_toInt (by omega)) (by decide) c_1
    refine lv_aload_n hx hb dX5_work_19 rfl (lv_at hl 0 rfl) ?_
    refine lv_dup hx hb dX5_work_20 rfl ?_
    refine va_get (D := (dC, dI)) (ci := 5) (v := .int (nI md)) (C := RX5) (T := TX5) (N := 4) hx hb hts inB_5 hown hK hP 0 rfl rfl 2 (by decide) (hts _ mw_1_110) (fun _ h9 => h9) rfl dX5_work_21 ?_
    refine lv_iconst (v := 1) hx hb dX5_work_24 (by decide) ?_
    refine lv_iadd hx hb dX5_work_25 ?_
    refine hx_top (y := (nI (md + 1))) (nI_add md 1) ?_
    refine va_put (D := (dC, dI)) (ci := 5) (v := .int (nI (md + 1))) (ty := .int) (C := RX5) (T := TX5) (N := 4) hx hb hts inB_5 tyX5 tyX5_ok nmX5 hown hK hP hD hS 0 rfl rfl 2 (by decide) (hts _ mw_1_110) (fun _ h9 => h9) rfl (by decide +kernel) rfl rfl (Nat.le_of_ble_eq_true rfl) dX5_work_26 (fun H locs hP hD hS => ?_)
    have hP : va_P (dC, dI) vwCl [(h0, .inr (5, [.ref u0, .int (nI sd), .int (nI (md + 1)), .int (nI kq)])), (u0, .inl (ku0, 40, .inl fd)), (p1, .inr (1, [w0, .ref b1, w2, .ref b3, w4, w5, .int (nI cn), w7])), (b1, .inl (kb1, 10, .inl fle)), (b3, .inl (kb3, 100, .inl fli)), (p3, .inr (0, [.ref e0, .ref e1, .ref e2])), (e0, .inl (ke0, 8, .inl fo)), (e1, .inl (ke1, 80, .inl fbl)), (e2, .inl (ke2, 960, .inl fbs))] H := hP
    have hD : va_D A [(h0, .inr (5, [.ref u0, .int (nI sd), .int (nI (md + 1)), .int (nI kq)])), (u0, .inl (ku0, 40, .inl fd)), (p1, .inr (1, [w0, .ref b1, w2, .ref b3, w4, w5, .int (nI cn), w7])), (b1, .inl (kb1, 10, .inl fle)), (b3, .inl (kb3, 100, .inl fli)), (p3, .inr (0, [.ref e0, .ref e1, .ref e2])), (e0, .inl (ke0, 8, .inl fo)), (e1, .inl (ke1, 80, .inl fbl)), (e2, .inl (ke2, 960, .inl fbs))] := hD
    refine lv_aload_n hx hb dX5_work_29 rfl (lv_at hl 1 rfl) ?_
    refine lv_aload_n hx hb dX5_work_30 rfl (lv_at hl 0 rfl) ?_
    refine va_get (D := (dC, dI)) (ci := 5) (v := .int (nI kq)) (C := RX5) (T := TX5) (N := 4) hx hb hts inB_5 hown hK hP 0 rfl rfl 3 (by decide) (hts _ mw_1_111) (fun _ h9 => h9) rfl dX5_work_31 ?_
    refine lv_aload_n hx hb dX5_work_34 rfl (lv_at hl 2 rfl) ?_
    refine lv_iload_n hx hb dX5_work_35 rfl (lv_at hl 3 rfl) ?_
    have hPc := hP.sub (ws' := [(p3, .inr (0, [.ref e0, .ref e1, .ref e2])), (e0, .inl (ke0, 8, .inl fo))]) [5, 6] rfl
    have hDc := hD.sub (ws' := [(p3, .inr (0, [.ref e0, .ref e1, .ref e2])), (e0, .inl (ke0, 8, .inl fo))]) [5, 6] (by decide) rfl
    have hKc := hK.sub (tys' := [(ke0, .int)]) [3] rfl
    refine va_calli (va_runV (As := [.int (nI nq)]) (rest := [.int (nI kq), .ref p1]) ⟨hx, hb, hml, hown, hts⟩ (c_own l dC dI H.size p3 e0 (.ref e1) (.ref e2) ke0 fo nq hnq) (cwV 1 hts (gV mw_2_169 mw_2_105 mw_2_106 mw_1_5 mw_2_107) rfl rfl rfl (by decide +kernel) ⟨Nat.le_of_ble_eq_true rfl, Nat.le_of_ble_eq_true rfl⟩) ⟨pcW_blind, va_recv hKc hPc (ci := 0) (q0 := 0) rfl rfl, pcW_at hPc hKc hDc hN⟩ rfl rfl hl.1 rfl (lv_room (Nat.le_of_ble_eq_true rfl)) dX5_work_36 ⟨Nat.le_of_ble_eq_true rfl, Nat.le_of_ble_eq_true rfl⟩) hS (fun q h1 h2 => absurd h2 (Nat.not_le.mpr h1)) (fun q h => hA q (Nat.le_trans hS.1 h)) (fun r_3 u t H1 locs ht hvm hw_3 hB hz1 hk1 hS => ?_)
    have hP := keepP hP hk1
    clear hz1 hk1 hB ht hvm hPc hDc hKc
    generalize H1 = H at hP hS ⊢
    obtain rfl : r_3 = (fo nq) := hw_3
    refine lv_iload hx hb dX5_work_39 (lv_at hl 4 rfl) ?_
    have hPc := hP.sub (ws' := [(p1, .inr (1, [w0, .ref b1, w2, .ref b3, w4, w5, .int (nI cn), w7])), (b1, .inl (kb1, 10, .inl fle)), (b3, .inl (kb3, 100, .inl fli))]) [2, 3, 4] rfl
    have hDc := hD.sub (ws' := [(p1, .inr (1, [w0, .ref b1, w2, .ref b3, w4, w5, .int (nI cn), w7])), (b1, .inl (kb1, 10, .inl fle)), (b3, .inl (kb3, 100, .inl fli))]) [2, 3, 4] (by decide) rfl
    have hKc := hK.sub (tys' := [(kb1, .int), (kb3, .int)]) [1, 2] rfl
    refine va_calli (va_runV (As := [.int (nI kq), .int (fo nq), .int (nI fm)]) (rest := []) ⟨hx, hb, hml, hown, hts⟩ (c_whereFirst l dC dI H.size p1 (w0) b1 (w2) b3 (w4) (w5) cn (w7) kb1 fle kb3 fli kq (fo nq) fm hc hle hlk hkq (by omega)) (cwV 3 hts (gV mw_2_170 mw_2_146 mw_2_147 mw_1_2 mw_2_148) rfl rfl rfl (by decide +kernel) ⟨Nat.le_of_ble_eq_true rfl, Nat.le_of_ble_eq_true rfl⟩) ⟨pcW_blind, va_recv hKc hPc (ci := 1) (q0 := 0) rfl rfl, pcW_at hPc hKc hDc hN⟩ rfl rfl hl.1 rfl (lv_room (Nat.le_of_ble_eq_true rfl)) dX5_work_41 ⟨Nat.le_of_ble_eq_true rfl, Nat.le_of_ble_eq_true rfl⟩) hS (fun q h1 h2 => absurd h2 (Nat.not_le.mpr h1)) (fun q h => hA q (Nat.le_trans hS.1 h)) (fun r_4 u t H1 locs ht hvm hw_4 hB hz1 hk1 hS => ?_)
    have hP := keepP hP hk1
    clear hz1 hk1 hB ht hvm hPc hDc hKc
    generalize H1 = H at hP hS ⊢
    refine lv_istore (lv' := [(6, .int r_4), (0, .ref h0), (1, .ref p1), (2, .ref p3), (3, .int (nI nq)), (4, .int (nI fm)), (5, .int 5)]) hx hb dX5_work_44 hl (by decide) rfl (fun ls hl => ?_)
    rcases wf_cases hw_4 with eq9 | ⟨q9, hq9, eq9⟩
    · subst eq9
      refine lv_iload hx hb dX5_work_46 (lv_at hl 0 rfl) ?_
      refine lv_bipush (v := (-6)) hx hb dX5_work_48 (by decide) ?_
      refine lv_icmp_ne (tgt := 55) hx hb dX5_work_50 (by decide) (fun h => absurd h (by decide)) (fun _ => ?_)
      refine lv_iconst (v := 1) hx hb dX5_work_53 (by decide) ?_
      have hP9 := hP.sub (ws' := [(h0, .inr (5, [.ref u0, .int (nI sd), .int (nI (md + 1)), .int (nI kq)])), (u0, .inl (ku0, 40, .inl fd)), (p1, .inr (1, [w0, .ref b1, w2, .ref b3, w4, w5, .int (nI cn), w7])), (b1, .inl (kb1, 10, .inl fle)), (b3, .inl (kb3, 100, .inl fli)), (p3, .inr (0, [.ref e0, .ref e1, .ref e2])), (e0, .inl (ke0, 8, .inl fo)), (e1, .inl (ke1, 80, .inl fbl)), (e2, .inl (ke2, 960, .inl fbs))]) [0, 1, 2, 3, 4, 5, 6, 7, 8] rfl
      have hD9 := hD.sub (ws' := [(h0, .inr (5, [.ref u0, .int (nI sd), .int (nI (md + 1)), .int (nI kq)])), (u0, .inl (ku0, 40, .inl fd)), (p1, .inr (1, [w0, .ref b1, w2, .ref b3, w4, w5, .int (nI cn), w7])), (b1, .inl (kb1, 10, .inl fle)), (b3, .inl (kb3, 100, .inl fli)), (p3, .inr (0, [.ref e0, .ref e1, .ref e2])), (e0, .inl (ke0, 8, .inl fo)), (e1, .inl (ke1, 80, .inl fbl)), (e2, .inl (ke2, 960, .inl fbs))]) [0, 1, 2, 3, 4, 5, 6, 7, 8] (by decide) rfl
      have hK9 := hK.sub (tys' := [(ku0, .int), (kb1, .int), (kb3, .int), (ke0, .int), (ke1, .int), (ke2, .char)]) [0, 1, 2, 3, 4, 5] rfl
      exact W.iret (v := 1) hx hb hr (fun t ht hW => ⟨⟨1, (), rfl, (r4 (wd_noC (d := 3) hw_4 (by omega))).1, sd, (md + 1), fd, hsd, (by omega), (Prod.ext (r4 (wd_noC (d := 3) hw_4 (by omega))).2.1 (Prod.ext (r4 (wd_noC (d := 3) hw_4 (by omega))).2.2.1 (r4 (wd_noC (d := 3) hw_4 (by omega))).2.2.2)), by rw [ht]; exact hP9, va_K.moved hW.alike hK9, hD9⟩, hS.F ht⟩) hS.2.2 dX5_work_54
    · subst eq9
      refine lv_iload hx hb dX5_work_46 (lv_at hl 0 rfl) ?_
      refine lv_bipush (v := (-6)) hx hb dX5_work_48 (by decide) ?_
      refine lv_icmp_ne (tgt := 55) hx hb dX5_work_50 (by decide) (fun c_5 => ?_) (fun h => absurd (gn_ne (X := ((q9 : Nat) : Int)) (C := (-6)) (nI_toInt (by omega)) (by decide) h) (by omega))
      have b_6 := gx_ne (X := ((q9 : Nat) : Int)) (C := (-6)) (nI_toInt (by omega)) (by decide) c_5
      refine lv_aload_n hx hb dX5_work_55 rfl (lv_at hl 2 rfl) ?_
      refine lv_aload_n hx hb dX5_work_56 rfl (lv_at hl 1 rfl) ?_
      refine va_get (D := (dC, dI)) (ci := 5) (v := .int (nI kq)) (C := RX5) (T := TX5) (N := 4) hx hb hts inB_5 hown hK hP 0 rfl rfl 3 (by decide) (hts _ mw_1_111) (fun _ h9 => h9) rfl dX5_work_57 ?_
      refine lv_iload hx hb dX5_work_60 (lv_at hl 0 rfl) ?_
      have hPc := hP.sub (ws' := [(p1, .inr (1, [w0, .ref b1, w2, .ref b3, w4, w5, .int (nI cn), w7])), (b1, .inl (kb1, 10, .inl fle)), (b3, .inl (kb3, 100, .inl fli))]) [2, 3, 4] rfl
      have hDc := hD.sub (ws' := [(p1, .inr (1, [w0, .ref b1, w2, .ref b3, w4, w5, .int (nI cn), w7])), (b1, .inl (kb1, 10, .inl fle)), (b3, .inl (kb3, 100, .inl fli))]) [2, 3, 4] (by decide) rfl
      have hKc := hK.sub (tys' := [(kb1, .int), (kb3, .int)]) [1, 2] rfl
      refine va_calli (va_runV (As := [.int (nI kq), .int (nI q9)]) (rest := []) ⟨hx, hb, hml, hown, hts⟩ (c_inLine l dC dI H.size p1 (w0) b1 (w2) b3 (w4) (w5) cn (w7) kb1 fle kb3 fli kq q9 hc hle (by omega) hkq) (cwV 2 hts (gV mw_2_171 mw_1_234 mw_1_235 mw_1_2 mw_1_236) rfl rfl rfl (by decide +kernel) ⟨Nat.le_of_ble_eq_true rfl, Nat.le_of_ble_eq_true rfl⟩) ⟨pcW_blind, va_recv hKc hPc (ci := 1) (q0 := 0) rfl rfl, pcW_at hPc hKc hDc hN⟩ rfl rfl hl.1 rfl (lv_room (Nat.le_of_ble_eq_true rfl)) dX5_work_62 ⟨Nat.le_of_ble_eq_true rfl, Nat.le_of_ble_eq_true rfl⟩) hS (fun q h1 h2 => absurd h2 (Nat.not_le.mpr h1)) (fun q h => hA q (Nat.le_trans hS.1 h)) (fun r_7 u t H1 locs ht hvm hw_7 hB hz1 hk1 hS => ?_)
      have hP := keepP hP hk1
      clear hz1 hk1 hB ht hvm hPc hDc hKc
      generalize H1 = H at hP hS ⊢
      obtain rfl : r_7 = (fli (10 * kq + q9)) := hw_7
      obtain ⟨ow, how, eow⟩ := hlk kq (by omega) q9 (by rw [← lenN_k (f := fle) (c := cn) (by omega) (by omega)]; exact hq9)
      refine hx_top (y := (nI ow)) eow ?_
      refine lv_istore (lv' := [(7, .int (nI ow)), (6, .int (nI q9)), (0, .ref h0), (1, .ref p1), (2, .ref p3), (3, .int (nI nq)), (4, .int (nI fm)), (5, .int 5)]) hx hb dX5_work_65 hl (by decide) rfl (fun ls hl => ?_)
      refine lv_aload_n hx hb dX5_work_67 rfl (lv_at hl 4 rfl) ?_
      refine lv_iload hx hb dX5_work_68 (lv_at hl 0 rfl) ?_
      refine lv_iload_n hx hb dX5_work_70 rfl (lv_at hl 5 rfl) ?_
      have hPc := hP.sub (ws' := [(p3, .inr (0, [.ref e0, .ref e1, .ref e2])), (e1, .inl (ke1, 80, .inl fbl))]) [5, 7] rfl
      have hDc := hD.sub (ws' := [(p3, .inr (0, [.ref e0, .ref e1, .ref e2])), (e1, .inl (ke1, 80, .inl fbl))]) [5, 7] (by decide) rfl
      have hKc := hK.sub (tys' := [(ke1, .int)]) [4] rfl
      refine va_calli (va_runV (As := [.int (nI ow), .int (nI nq)]) (rest := []) ⟨hx, hb, hml, hown, hts⟩ (c_blenN l dC dI H.size p3 (.ref e0) e1 (.ref e2) ke1 fbl ow nq hbl (by omega) hnq) (cwV 2 hts (gV mw_2_172 mw_2_173 mw_2_174 mw_1_5 mw_2_175) rfl rfl rfl (by decide +kernel) ⟨Nat.le_of_ble_eq_true rfl, Nat.le_of_ble_eq_true rfl⟩) ⟨pcW_blind, va_recv hKc hPc (ci := 0) (q0 := 0) rfl rfl, pcW_at hPc hKc hDc hN⟩ rfl rfl hl.1 rfl (lv_room (Nat.le_of_ble_eq_true rfl)) dX5_work_71 ⟨Nat.le_of_ble_eq_true rfl, Nat.le_of_ble_eq_true rfl⟩) hS (fun q h1 h2 => absurd h2 (Nat.not_le.mpr h1)) (fun q h => hA q (Nat.le_trans hS.1 h)) (fun r_8 u t H1 locs ht hvm hw_8 hB hz1 hk1 hS => ?_)
      have hP := keepP hP hk1
      clear hz1 hk1 hB ht hvm hPc hDc hKc
      generalize H1 = H at hP hS ⊢
      obtain rfl : r_8 = nI ((fbl (8 * ow + nq)).toNatClampNeg) := hw_8
      have b_9 := (bd_cle0 hbl (show 8 * ow + nq < 80 by omega) : (fbl (8 * ow + nq)).toNatClampNeg ≤ 12)
      refine lv_istore (lv' := [(8, .int (nI ((fbl (8 * ow + nq)).toNatClampNeg))), (7, .int (nI ow)), (6, .int (nI q9)), (0, .ref h0), (1, .ref p1), (2, .ref p3), (3, .int (nI nq)), (4, .int (nI fm)), (5, .int 5)]) hx hb dX5_work_74 hl (by decide) rfl (fun ls hl => ?_)
      refine lv_iconst (v := 0) hx hb dX5_work_76 (by decide) ?_
      refine lv_istore (lv' := [(9, .int 0), (8, .int (nI ((fbl (8 * ow + nq)).toNatClampNeg))), (7, .int (nI ow)), (6, .int (nI q9)), (0, .ref h0), (1, .ref p1), (2, .ref p3), (3, .int (nI nq)), (4, .int (nI fm)), (5, .int 5)]) hx hb dX5_work_77 hl (by decide) rfl (fun ls hl => ?_)
      refine lv_iconst (v := 0) hx hb dX5_work_79 (by decide) ?_
      refine lv_istore (lv' := [(10, .int 0), (9, .int 0), (8, .int (nI ((fbl (8 * ow + nq)).toNatClampNeg))), (7, .int (nI ow)), (6, .int (nI q9)), (0, .ref h0), (1, .ref p1), (2, .ref p3), (3, .int (nI nq)), (4, .int (nI fm)), (5, .int 5)]) hx hb dX5_work_80 hl (by decide) rfl (fun ls hl => ?_)
      have key_10 : ∀ (fu : Nat) (k9 : Nat) (en : Int32) (sdx : Nat) (mdx : Nat) (fdx : Nat → Int32), (k9 ≤ 12) → (sdx ≤ 40) → (mdx ≤ 200) → (sgL (wdC fle fli fo fbl fbs cn kq 3) nq q9 (fun i => fbs (12 * (8 * ow + nq) + i)) ((fbl (8 * ow + nq)).toNatClampNeg - k9) k9 (en, mdx, sdx, fdx) = (wdC fle fli fo fbl fbs cn kq 4 nq fm (md, sd, fd))) → 12 - k9 < fu → ∀ (H : Heap) (locs : List Loc), va_P (dC, dI) vwCl [(h0, .inr (5, [.ref u0, .int (nI sdx), .int (nI mdx), .int (nI kq)])), (u0, .inl (ku0, 40, .inl fdx)), (p1, .inr (1, [w0, .ref b1, w2, .ref b3, w4, w5, .int (nI cn), w7])), (b1, .inl (kb1, 10, .inl fle)), (b3, .inl (kb3, 100, .inl fli)), (p3, .inr (0, [.ref e0, .ref e1, .ref e2])), (e0, .inl (ke0, 8, .inl fo)), (e1, .inl (ke1, 80, .inl fbl)), (e2, .inl (ke2, 960, .inl fbs))] H → va_D A [(h0, .inr (5, [.ref u0, .int (nI sdx), .int (nI mdx), .int (nI kq)])), (u0, .inl (ku0, 40, .inl fdx)), (p1, .inr (1, [w0, .ref b1, w2, .ref b3, w4, w5, .int (nI cn), w7])), (b1, .inl (kb1, 10, .inl fle)), (b3, .inl (kb3, 100, .inl fli)), (p3, .inr (0, [.ref e0, .ref e1, .ref e2])), (e0, .inl (ke0, 8, .inl fo)), (e1, .inl (ke1, 80, .inl fbl)), (e2, .inl (ke2, 960, .inl fbs))] → va_S A s.heap H locs → ∀ (ls : Array Slot), lv_has ls 12 [(10, .int (nI k9)), (9, .int en), (8, .int (nI ((fbl (8 * ow + nq)).toNatClampNeg))), (7, .int (nI ow)), (6, .int (nI q9)), (0, .ref h0), (1, .ref p1), (2, .ref p3), (3, .int (nI nq)), (4, .int (nI fm)), (5, .int 5)] → W p l e (headSpec (wq yX5_work cX5_work 12 (some .int)) ({ frames := 7, cells := 0, slots := 0, locals := 179 })).room s m (([.ref h0, .ref p1, .ref p3, .int (nI nq), .int (nI fm), .int 5] : List Value)).toArray below meth c H locs 0 0 (MQ below (va_Qi (fun (r : Int32) (_ : Unit) => r = (wdC fle fli fo fbl fbs cn kq 4 nq fm (md, sd, fd)).1) (fun _ t => ∃ (sd2 : Nat) (md2 : Nat) (fd2 : Nat → Int32), (sd2 ≤ 40) ∧ (md2 ≤ 200) ∧ ((md2, sd2, fd2) = (wdC fle fli fo fbl fbs cn kq 4 nq fm (md, sd, fd)).2) ∧ va_P (dC, dI) vwCl [(h0, .inr (5, [.ref u0, .int (nI sd2), .int (nI md2), .int (nI kq)])), (u0, .inl (ku0, 40, .inl fd2)), (p1, .inr (1, [w0, .ref b1, w2, .ref b3, w4, w5, .int (nI cn), w7])), (b1, .inl (kb1, 10, .inl fle)), (b3, .inl (kb3, 100, .inl fli)), (p3, .inr (0, [.ref e0, .ref e1, .ref e2])), (e0, .inl (ke0, 8, .inl fo)), (e1, .inl (ke1, 80, .inl fbl)), (e2, .inl (ke2, 960, .inl fbs))] t.heap ∧ va_K (dC, dI) vwCl [(ku0, .int), (kb1, .int), (kb3, .int), (ke0, .int), (ke1, .int), (ke2, .char)] t ∧ va_D A [(h0, .inr (5, [.ref u0, .int (nI sd2), .int (nI md2), .int (nI kq)])), (u0, .inl (ku0, 40, .inl fd2)), (p1, .inr (1, [w0, .ref b1, w2, .ref b3, w4, w5, .int (nI cn), w7])), (b1, .inl (kb1, 10, .inl fle)), (b3, .inl (kb3, 100, .inl fli)), (p3, .inr (0, [.ref e0, .ref e1, .ref e2])), (e0, .inl (ke0, 8, .inl fo)), (e1, .inl (ke1, 80, .inl fbl)), (e2, .inl (ke2, 960, .inl fbs))]) A) (([.ref h0, .ref p1, .ref p3, .int (nI nq), .int (nI fm), .int 5] : List Value)).toArray s 0 0 A) (F0 m 82 ls []) := by
        intro fu
        induction fu with
        | zero => intro k9 en sdx mdx fdx hk hsx hmx hlp hme; exact absurd hme (Nat.not_lt_zero _)
        | succ fu ih_11 =>
          intro k9 en sdx mdx fdx hk hsx hmx hlp hme H locs hP hD hS ls hl
          refine lv_iload hx hb dX5_work_82 (lv_at hl 0 rfl) ?_
          refine lv_iload hx hb dX5_work_84 (lv_at hl 2 rfl) ?_
          refine lv_icmp_ge (tgt := 184) hx hb dX5_work_86 (by decide) (fun c_12 => ?_) (fun c_12 => ?_)
          · have b_13 := gx_ge (X := ((k9 : Nat) : Int)) (C := (((fbl (8 * ow + nq)).toNatClampNeg : Nat) : Int)) (nI_toInt (by omega)) (nI_toInt (by omega)) c_12
            refine lv_iload hx hb dX5_work_184 (lv_at hl 1 rfl) ?_
            have hP9 := hP.sub (ws' := [(h0, .inr (5, [.ref u0, .int (nI sdx), .int (nI mdx), .int (nI kq)])), (u0, .inl (ku0, 40, .inl fdx)), (p1, .inr (1, [w0, .ref b1, w2, .ref b3, w4, w5, .int (nI cn), w7])), (b1, .inl (kb1, 10, .inl fle)), (b3, .inl (kb3, 100, .inl fli)), (p3, .inr (0, [.ref e0, .ref e1, .ref e2])), (e0, .inl (ke0, 8, .inl fo)), (e1, .inl (ke1, 80, .inl fbl)), (e2, .inl (ke2, 960, .inl fbs))]) [0, 1, 2, 3, 4, 5, 6, 7, 8] rfl
            have hD9 := hD.sub (ws' := [(h0, .inr (5, [.ref u0, .int (nI sdx), .int (nI mdx), .int (nI kq)])), (u0, .inl (ku0, 40, .inl fdx)), (p1, .inr (1, [w0, .ref b1, w2, .ref b3, w4, w5, .int (nI cn), w7])), (b1, .inl (kb1, 10, .inl fle)), (b3, .inl (kb3, 100, .inl fli)), (p3, .inr (0, [.ref e0, .ref e1, .ref e2])), (e0, .inl (ke0, 8, .inl fo)), (e1, .inl (ke1, 80, .inl fbl)), (e2, .inl (ke2, 960, .inl fbs))]) [0, 1, 2, 3, 4, 5, 6, 7, 8] (by decide) rfl
            have hK9 := hK.sub (tys' := [(ku0, .int), (kb1, .int), (kb3, .int), (ke0, .int), (ke1, .int), (ke2, .char)]) [0, 1, 2, 3, 4, 5] rfl
            exact W.iret (v := en) hx hb hr (fun t ht hW => ⟨⟨en, (), rfl, (r4 ((sgl_end (Or.inl (by omega))).symm.trans hlp)).1, sdx, mdx, fdx, hsx, hmx, (Prod.ext (r4 ((sgl_end (Or.inl (by omega))).symm.trans hlp)).2.1 (Prod.ext (r4 ((sgl_end (Or.inl (by omega))).symm.trans hlp)).2.2.1 (r4 ((sgl_end (Or.inl (by omega))).symm.trans hlp)).2.2.2)), by rw [ht]; exact hP9, va_K.moved hW.alike hK9, hD9⟩, hS.F ht⟩) hS.2.2 dX5_work_186
          · have b_13 := gn_ge (X := ((k9 : Nat) : Int)) (C := (((fbl (8 * ow + nq)).toNatClampNeg : Nat) : Int)) (nI_toInt (by omega)) (nI_toInt (by omega)) c_12
            refine lv_iload hx hb dX5_work_89 (lv_at hl 1 rfl) ?_
            refine lv_if_ne (tgt := 184) hx hb dX5_work_91 (by decide) (fun c_14 => ?_) (fun c_14 => ?_)
            · have b_15 := gx_ne (X := (Int32.toInt en)) (C := 0) rfl (by decide) c_14
              refine lv_iload hx hb dX5_work_184 (lv_at hl 1 rfl) ?_
              have hP9 := hP.sub (ws' := [(h0, .inr (5, [.ref u0, .int (nI sdx), .int (nI mdx), .int (nI kq)])), (u0, .inl (ku0, 40, .inl fdx)), (p1, .inr (1, [w0, .ref b1, w2, .ref b3, w4, w5, .int (nI cn), w7])), (b1, .inl (kb1, 10, .inl fle)), (b3, .inl (kb3, 100, .inl fli)), (p3, .inr (0, [.ref e0, .ref e1, .ref e2])), (e0, .inl (ke0, 8, .inl fo)), (e1, .inl (ke1, 80, .inl fbl)), (e2, .inl (ke2, 960, .inl fbs))]) [0, 1, 2, 3, 4, 5, 6, 7, 8] rfl
              have hD9 := hD.sub (ws' := [(h0, .inr (5, [.ref u0, .int (nI sdx), .int (nI mdx), .int (nI kq)])), (u0, .inl (ku0, 40, .inl fdx)), (p1, .inr (1, [w0, .ref b1, w2, .ref b3, w4, w5, .int (nI cn), w7])), (b1, .inl (kb1, 10, .inl fle)), (b3, .inl (kb3, 100, .inl fli)), (p3, .inr (0, [.ref e0, .ref e1, .ref e2])), (e0, .inl (ke0, 8, .inl fo)), (e1, .inl (ke1, 80, .inl fbl)), (e2, .inl (ke2, 960, .inl fbs))]) [0, 1, 2, 3, 4, 5, 6, 7, 8] (by decide) rfl
              have hK9 := hK.sub (tys' := [(ku0, .int), (kb1, .int), (kb3, .int), (ke0, .int), (ke1, .int), (ke2, .char)]) [0, 1, 2, 3, 4, 5] rfl
              exact W.iret (v := en) hx hb hr (fun t ht hW => ⟨⟨en, (), rfl, (r4 ((sgl_end (Or.inr c_14)).symm.trans hlp)).1, sdx, mdx, fdx, hsx, hmx, (Prod.ext (r4 ((sgl_end (Or.inr c_14)).symm.trans hlp)).2.1 (Prod.ext (r4 ((sgl_end (Or.inr c_14)).symm.trans hlp)).2.2.1 (r4 ((sgl_end (Or.inr c_14)).symm.trans hlp)).2.2.2)), by rw [ht]; exact hP9, va_K.moved hW.alike hK9, hD9⟩, hS.F ht⟩) hS.2.2 dX5_work_186
            · have b_15 := gn_ne (X := (Int32.toInt en)) (C := 0) rfl (by decide) c_14
              refine lv_aload_n hx hb dX5_work_94 rfl (lv_at hl 7 rfl) ?_
              refine lv_iload hx hb dX5_work_95 (lv_at hl 3 rfl) ?_
              refine lv_iload_n hx hb dX5_work_97 rfl (lv_at hl 8 rfl) ?_
              refine lv_iload hx hb dX5_work_98 (lv_at hl 0 rfl) ?_
              have hPc := hP.sub (ws' := [(p3, .inr (0, [.ref e0, .ref e1, .ref e2])), (e1, .inl (ke1, 80, .inl fbl)), (e2, .inl (ke2, 960, .inl fbs))]) [5, 7, 8] rfl
              have hDc := hD.sub (ws' := [(p3, .inr (0, [.ref e0, .ref e1, .ref e2])), (e1, .inl (ke1, 80, .inl fbl)), (e2, .inl (ke2, 960, .inl fbs))]) [5, 7, 8] (by decide) rfl
              have hKc := hK.sub (tys' := [(ke1, .int), (ke2, .char)]) [4, 5] rfl
              refine va_calli (va_runV (As := [.int (nI ow), .int (nI nq), .int (nI k9)]) (rest := []) ⟨hx, hb, hml, hown, hts⟩ (c_bsignN l dC dI H.size p3 (.ref e0) e1 e2 ke1 fbl ke2 fbs ow nq k9 hbl hbs (by omega) hnq (by omega)) (cwV 3 hts (gV mw_2_176 mw_2_177 mw_2_178 mw_1_5 mw_2_179) rfl rfl rfl (by decide +kernel) ⟨Nat.le_of_ble_eq_true rfl, Nat.le_of_ble_eq_true rfl⟩) ⟨pcW_blind, va_recv hKc hPc (ci := 0) (q0 := 0) rfl rfl, pcW_at hPc hKc hDc hN⟩ rfl rfl hl.1 rfl (lv_room (Nat.le_of_ble_eq_true rfl)) dX5_work_100 ⟨Nat.le_of_ble_eq_true rfl, Nat.le_of_ble_eq_true rfl⟩) hS (fun q h1 h2 => absurd h2 (Nat.not_le.mpr h1)) (fun q h => hA q (Nat.le_trans hS.1 h)) (fun r_16 u t H1 locs ht hvm hw_16 hB hz1 hk1 hS => ?_)
              have hP := keepP hP hk1
              clear hz1 hk1 hB ht hvm hPc hDc hKc
              generalize H1 = H at hP hS ⊢
              obtain rfl : r_16 = (fbs (12 * (8 * ow + nq) + k9)) := hw_16
              refine lv_istore (lv' := [(11, .int (fbs (12 * (8 * ow + nq) + k9))), (10, .int (nI k9)), (9, .int en), (8, .int (nI ((fbl (8 * ow + nq)).toNatClampNeg))), (7, .int (nI ow)), (6, .int (nI q9)), (0, .ref h0), (1, .ref p1), (2, .ref p3), (3, .int (nI nq)), (4, .int (nI fm)), (5, .int 5)]) hx hb dX5_work_103 hl (by decide) rfl (fun ls hl => ?_)
              have hvc : (48 ≤ Int32.toInt (fbs (12 * (8 * ow + nq) + k9)) ∧ Int32.toInt (fbs (12 * (8 * ow + nq) + k9)) ≤ 57) ∨ (97 ≤ Int32.toInt (fbs (12 * (8 * ow + nq) + k9)) ∧ Int32.toInt (fbs (12 * (8 * ow + nq) + k9)) ≤ 104) ∨ Int32.toInt (fbs (12 * (8 * ow + nq) + k9)) = 94 := hcv (8 * ow + nq) (by omega) k9 (by omega)
              refine lv_iload hx hb dX5_work_105 (lv_at hl 0 rfl) ?_
              refine lv_bipush (v := 48) hx hb dX5_work_107 (by decide) ?_
              refine lv_icmp_lt (tgt := 133) hx hb dX5_work_109 (by decide) (fun h => absurd (gx_lt (X := (Int32.toInt (fbs (12 * (8 * ow + nq) + k9)))) (C := 48) rfl (by decide) h) (by omega)) (fun c_17 => ?_)
              have b_18 := gn_lt (X := (Int32.toInt (fbs (12 * (8 * ow + nq) + k9)))) (C := 48) rfl (by decide) c_17
              refine lv_iload hx hb dX5_work_112 (lv_at hl 0 rfl) ?_
              refine lv_bipush (v := 57) hx hb dX5_work_114 (by decide) ?_
              refine lv_icmp_gt (tgt := 133) hx hb dX5_work_116 (by decide) (fun c_19 => ?_) (fun c_19 => ?_)
              · have b_20 := gx_gt (X := (Int32.toInt (fbs (12 * (8 * ow + nq) + k9)))) (C := 57) rfl (by decide) c_19
                refine lv_iload hx hb dX5_work_133 (lv_at hl 0 rfl) ?_
                refine lv_bipush (v := 94) hx hb dX5_work_135 (by decide) ?_
                refine lv_icmp_ne (tgt := 160) hx hb dX5_work_137 (by decide) (fun c_21 => ?_) (fun c_21 => ?_)
                · have b_22 := gx_ne (X := (Int32.toInt (fbs (12 * (8 * ow + nq) + k9)))) (C := 94) rfl (by decide) c_21
                  refine lv_aload_n hx hb dX5_work_160 rfl (lv_at hl 6 rfl) ?_
                  refine lv_aload_n hx hb dX5_work_161 rfl (lv_at hl 7 rfl) ?_
                  refine lv_aload_n hx hb dX5_work_162 rfl (lv_at hl 8 rfl) ?_
                  refine lv_iload hx hb dX5_work_163 (lv_at hl 0 rfl) ?_
                  refine lv_bipush (v := 97) hx hb dX5_work_165 (by decide) ?_
                  refine lv_isub hx hb dX5_work_167 ?_
                  refine lv_topi (fun z_23 ez_23 => ?_)
                  have gz_23 := fx_rng (fbs (12 * (8 * ow + nq) + k9))
                  have fz_23 : Int32.toInt z_23 = (Int32.toInt (fbs (12 * (8 * ow + nq) + k9))) - 97 := by rw [ez_23]; exact gx_sub (X := (Int32.toInt (fbs (12 * (8 * ow + nq) + k9)))) (C := 97) rfl (by decide) (by omega) (by omega)
                  obtain ⟨j_24, tj_24, ej_24⟩ := fx_nat (x := z_23) (by omega)
                  subst ej_24
                  have yj_24 : Int32.toInt (nI j_24) = (j_24 : Int) := nI_toInt tj_24
                  refine lv_iconst (v := 0) hx hb dX5_work_168 (by decide) ?_
                  refine lv_iload hx hb dX5_work_169 (lv_at hl 11 rfl) ?_
                  refine lv_iconst (v := 1) hx hb dX5_work_171 (by decide) ?_
                  refine lv_iadd hx hb dX5_work_172 ?_
                  refine hx_top (y := 6) (by decide) ?_
                  have hPc := hP.sub (ws' := [(h0, .inr (5, [.ref u0, .int (nI sdx), .int (nI mdx), .int (nI kq)])), (u0, .inl (ku0, 40, .inl fdx)), (p1, .inr (1, [w0, .ref b1, w2, .ref b3, w4, w5, .int (nI cn), w7])), (b1, .inl (kb1, 10, .inl fle)), (b3, .inl (kb3, 100, .inl fli)), (p3, .inr (0, [.ref e0, .ref e1, .ref e2])), (e0, .inl (ke0, 8, .inl fo)), (e1, .inl (ke1, 80, .inl fbl)), (e2, .inl (ke2, 960, .inl fbs))]) [0, 1, 2, 3, 4, 5, 6, 7, 8] rfl
                  have hDc := hD.sub (ws' := [(h0, .inr (5, [.ref u0, .int (nI sdx), .int (nI mdx), .int (nI kq)])), (u0, .inl (ku0, 40, .inl fdx)), (p1, .inr (1, [w0, .ref b1, w2, .ref b3, w4, w5, .int (nI cn), w7])), (b1, .inl (kb1, 10, .inl fle)), (b3, .inl (kb3, 100, .inl fli)), (p3, .inr (0, [.ref e0, .ref e1, .ref e2])), (e0, .inl (ke0, 8, .inl fo)), (e1, .inl (ke1, 80, .inl fbl)), (e2, .inl (ke2, 960, .inl fbs))]) [0, 1, 2, 3, 4, 5, 6, 7, 8] (by decide) rfl
                  have hKc := hK.sub (tys' := [(ku0, .int), (kb1, .int), (kb3, .int), (ke0, .int), (ke1, .int), (ke2, .char)]) [0, 1, 2, 3, 4, 5] rfl
                  have hFc := va_free (wc := [(h0, .inr (5, [.ref u0, .int (nI sdx), .int (nI mdx), .int (nI kq)])), (u0, .inl (ku0, 40, .inl fdx)), (p1, .inr (1, [w0, .ref b1, w2, .ref b3, w4, w5, .int (nI cn), w7])), (b1, .inl (kb1, 10, .inl fle)), (b3, .inl (kb3, 100, .inl fli)), (p3, .inr (0, [.ref e0, .ref e1, .ref e2])), (e0, .inl (ke0, 8, .inl fo)), (e1, .inl (ke1, 80, .inl fbl)), (e2, .inl (ke2, 960, .inl fbs))]) hD hS hA [0, 1, 2, 3, 4, 5, 6, 7, 8] rfl
                  refine va_calli (va_runV (As := [.ref p1, .ref p3, .int (nI j_24), .int 0, .int 6]) (rest := []) ⟨hx, hb, hml, hown, hts⟩ (c_work6 l dC dI H.size h0 u0 sdx mdx kq ku0 fdx p1 (w0) b1 (w2) b3 (w4) (w5) cn (w7) kb1 fle kb3 fli p3 e0 e1 e2 ke0 fo ke1 fbl ke2 fbs j_24 0 hsx hc hle hbl hbs hlk hkq (by omega) (by omega) hmx hcv) (cwV 5 hts (gV mw_2_165 mw_2_167 mw_0_4 mw_1_6 mw_2_168) rfl rfl rfl (by decide +kernel) ⟨Nat.le_of_ble_eq_true rfl, Nat.le_of_ble_eq_true rfl⟩) ⟨pcW_blind, va_recv hKc hPc (ci := 5) (q0 := 0) rfl rfl, pcW_at hPc hKc hDc hN⟩ rfl rfl hl.1 rfl (lv_room (Nat.le_of_ble_eq_true rfl)) dX5_work_173 ⟨Nat.le_of_ble_eq_true rfl, Nat.le_of_ble_eq_true rfl⟩) hS (fun q _ h => hFc q h) hFc (fun r_25 u t H1 locs ht hvm hw_25 hB hz1 hk1 hS => ?_)
                  obtain ⟨q_26, q_27, f_28, p_29, p_30, p_31, hP1, hK1, hD1⟩ := hB
                  rw [ht] at hP1
                  have hK1 := va_K.moved hvm.symm hK1
                  obtain ⟨hP, hD⟩ := va_join (wr := []) (w1 := [(h0, .inr (5, [.ref u0, .int (nI q_26), .int (nI q_27), .int (nI kq)])), (u0, .inl (ku0, 40, .inl f_28)), (p1, .inr (1, [w0, .ref b1, w2, .ref b3, w4, w5, .int (nI cn), w7])), (b1, .inl (kb1, 10, .inl fle)), (b3, .inl (kb3, 100, .inl fli)), (p3, .inr (0, [.ref e0, .ref e1, .ref e2])), (e0, .inl (ke0, 8, .inl fo)), (e1, .inl (ke1, 80, .inl fbl)), (e2, .inl (ke2, 960, .inl fbs))]) hP hD [0, 1, 2, 3, 4, 5, 6, 7, 8] [] rfl rfl (by decide) (by decide) hk1 hFc hP1 hD1
                  have hK := (hK.sub (tys' := []) [] rfl).app hK1
                  clear hz1 hk1 hPc hDc hKc hFc
                  generalize H1 = H at hP hS ⊢
                  have hK : va_K (dC, dI) vwCl [(ku0, .int), (kb1, .int), (kb3, .int), (ke0, .int), (ke1, .int), (ke2, .char)] s := hK
                  have hP : va_P (dC, dI) vwCl [(h0, .inr (5, [.ref u0, .int (nI q_26), .int (nI q_27), .int (nI kq)])), (u0, .inl (ku0, 40, .inl f_28)), (p1, .inr (1, [w0, .ref b1, w2, .ref b3, w4, w5, .int (nI cn), w7])), (b1, .inl (kb1, 10, .inl fle)), (b3, .inl (kb3, 100, .inl fli)), (p3, .inr (0, [.ref e0, .ref e1, .ref e2])), (e0, .inl (ke0, 8, .inl fo)), (e1, .inl (ke1, 80, .inl fbl)), (e2, .inl (ke2, 960, .inl fbs))] H := hP
                  have hD : va_D A [(h0, .inr (5, [.ref u0, .int (nI q_26), .int (nI q_27), .int (nI kq)])), (u0, .inl (ku0, 40, .inl f_28)), (p1, .inr (1, [w0, .ref b1, w2, .ref b3, w4, w5, .int (nI cn), w7])), (b1, .inl (kb1, 10, .inl fle)), (b3, .inl (kb3, 100, .inl fli)), (p3, .inr (0, [.ref e0, .ref e1, .ref e2])), (e0, .inl (ke0, 8, .inl fo)), (e1, .inl (ke1, 80, .inl fbl)), (e2, .inl (ke2, 960, .inl fbs))] := hD
                  refine lv_istore (lv' := [(9, .int r_25), (11, .int (fbs (12 * (8 * ow + nq) + k9))), (10, .int (nI k9)), (8, .int (nI ((fbl (8 * ow + nq)).toNatClampNeg))), (7, .int (nI ow)), (6, .int (nI q9)), (0, .ref h0), (1, .ref p1), (2, .ref p3), (3, .int (nI nq)), (4, .int (nI fm)), (5, .int 5)]) hx hb dX5_work_176 hl (by decide) rfl (fun ls hl => ?_)
                  refine lv_iinc (v := (nI (k9 + 1))) (lv' := [(10, .int (nI (k9 + 1))), (9, .int r_25), (11, .int (fbs (12 * (8 * ow + nq) + k9))), (8, .int (nI ((fbl (8 * ow + nq)).toNatClampNeg))), (7, .int (nI ow)), (6, .int (nI q9)), (0, .ref h0), (1, .ref p1), (2, .ref p3), (3, .int (nI nq)), (4, .int (nI fm)), (5, .int 5)]) hx hb dX5_work_178 hl (k := 2) rfl (nI_add k9 1) (by decide) rfl (fun ls hl => ?_)
                  refine lv_goto (tgt := 82) hx hb dX5_work_181 (by decide) ?_
                  exact ih_11 (k9 + 1) r_25 q_26 q_27 f_28 (by omega) p_29 p_30 (lp_let hlp c_14 (by omega) (by show 97 ≤ Int32.toInt (fbs (12 * (8 * ow + nq) + k9)); omega) (by show ((j_24 : Nat) : Int) = Int32.toInt (fbs (12 * (8 * ow + nq) + k9)) - 97; omega) hw_25 p_31) (by omega) _ _ hP hD hS ls (lv_sub hl [0, 1, 3, 4, 5, 6, 7, 8, 9, 10, 11] rfl)
                · have b_22 := gn_ne (X := (Int32.toInt (fbs (12 * (8 * ow + nq) + k9)))) (C := 94) rfl (by decide) c_21
                  refine lv_aload_n hx hb dX5_work_140 rfl (lv_at hl 6 rfl) ?_
                  refine lv_aload_n hx hb dX5_work_141 rfl (lv_at hl 7 rfl) ?_
                  refine lv_aload_n hx hb dX5_work_142 rfl (lv_at hl 8 rfl) ?_
                  refine lv_iload_n hx hb dX5_work_143 rfl (lv_at hl 9 rfl) ?_
                  refine lv_iload hx hb dX5_work_144 (lv_at hl 5 rfl) ?_
                  refine lv_iconst (v := 1) hx hb dX5_work_146 (by decide) ?_
                  refine lv_iadd hx hb dX5_work_147 ?_
                  refine hx_top (y := (nI (q9 + 1))) (nI_add q9 1) ?_
                  refine lv_iload hx hb dX5_work_148 (lv_at hl 11 rfl) ?_
                  refine lv_iconst (v := 1) hx hb dX5_work_150 (by decide) ?_
                  refine lv_iadd hx hb dX5_work_151 ?_
                  refine hx_top (y := 6) (by decide) ?_
                  have hPc := hP.sub (ws' := [(h0, .inr (5, [.ref u0, .int (nI sdx), .int (nI mdx), .int (nI kq)])), (u0, .inl (ku0, 40, .inl fdx)), (p1, .inr (1, [w0, .ref b1, w2, .ref b3, w4, w5, .int (nI cn), w7])), (b1, .inl (kb1, 10, .inl fle)), (b3, .inl (kb3, 100, .inl fli)), (p3, .inr (0, [.ref e0, .ref e1, .ref e2])), (e0, .inl (ke0, 8, .inl fo)), (e1, .inl (ke1, 80, .inl fbl)), (e2, .inl (ke2, 960, .inl fbs))]) [0, 1, 2, 3, 4, 5, 6, 7, 8] rfl
                  have hDc := hD.sub (ws' := [(h0, .inr (5, [.ref u0, .int (nI sdx), .int (nI mdx), .int (nI kq)])), (u0, .inl (ku0, 40, .inl fdx)), (p1, .inr (1, [w0, .ref b1, w2, .ref b3, w4, w5, .int (nI cn), w7])), (b1, .inl (kb1, 10, .inl fle)), (b3, .inl (kb3, 100, .inl fli)), (p3, .inr (0, [.ref e0, .ref e1, .ref e2])), (e0, .inl (ke0, 8, .inl fo)), (e1, .inl (ke1, 80, .inl fbl)), (e2, .inl (ke2, 960, .inl fbs))]) [0, 1, 2, 3, 4, 5, 6, 7, 8] (by decide) rfl
                  have hKc := hK.sub (tys' := [(ku0, .int), (kb1, .int), (kb3, .int), (ke0, .int), (ke1, .int), (ke2, .char)]) [0, 1, 2, 3, 4, 5] rfl
                  have hFc := va_free (wc := [(h0, .inr (5, [.ref u0, .int (nI sdx), .int (nI mdx), .int (nI kq)])), (u0, .inl (ku0, 40, .inl fdx)), (p1, .inr (1, [w0, .ref b1, w2, .ref b3, w4, w5, .int (nI cn), w7])), (b1, .inl (kb1, 10, .inl fle)), (b3, .inl (kb3, 100, .inl fli)), (p3, .inr (0, [.ref e0, .ref e1, .ref e2])), (e0, .inl (ke0, 8, .inl fo)), (e1, .inl (ke1, 80, .inl fbl)), (e2, .inl (ke2, 960, .inl fbs))]) hD hS hA [0, 1, 2, 3, 4, 5, 6, 7, 8] rfl
                  refine va_calli (va_runV (As := [.ref p1, .ref p3, .int (nI nq), .int (nI (q9 + 1)), .int 6]) (rest := []) ⟨hx, hb, hml, hown, hts⟩ (c_work6 l dC dI H.size h0 u0 sdx mdx kq ku0 fdx p1 (w0) b1 (w2) b3 (w4) (w5) cn (w7) kb1 fle kb3 fli p3 e0 e1 e2 ke0 fo ke1 fbl ke2 fbs nq (q9 + 1) hsx hc hle hbl hbs hlk hkq hnq (by omega) hmx hcv) (cwV 5 hts (gV mw_2_165 mw_2_167 mw_0_4 mw_1_6 mw_2_168) rfl rfl rfl (by decide +kernel) ⟨Nat.le_of_ble_eq_true rfl, Nat.le_of_ble_eq_true rfl⟩) ⟨pcW_blind, va_recv hKc hPc (ci := 5) (q0 := 0) rfl rfl, pcW_at hPc hKc hDc hN⟩ rfl rfl hl.1 rfl (lv_room (Nat.le_of_ble_eq_true rfl)) dX5_work_152 ⟨Nat.le_of_ble_eq_true rfl, Nat.le_of_ble_eq_true rfl⟩) hS (fun q _ h => hFc q h) hFc (fun r_32 u t H1 locs ht hvm hw_32 hB hz1 hk1 hS => ?_)
                  obtain ⟨q_33, q_34, f_35, p_36, p_37, p_38, hP1, hK1, hD1⟩ := hB
                  rw [ht] at hP1
                  have hK1 := va_K.moved hvm.symm hK1
                  obtain ⟨hP, hD⟩ := va_join (wr := []) (w1 := [(h0, .inr (5, [.ref u0, .int (nI q_33), .int (nI q_34), .int (nI kq)])), (u0, .inl (ku0, 40, .inl f_35)), (p1, .inr (1, [w0, .ref b1, w2, .ref b3, w4, w5, .int (nI cn), w7])), (b1, .inl (kb1, 10, .inl fle)), (b3, .inl (kb3, 100, .inl fli)), (p3, .inr (0, [.ref e0, .ref e1, .ref e2])), (e0, .inl (ke0, 8, .inl fo)), (e1, .inl (ke1, 80, .inl fbl)), (e2, .inl (ke2, 960, .inl fbs))]) hP hD [0, 1, 2, 3, 4, 5, 6, 7, 8] [] rfl rfl (by decide) (by decide) hk1 hFc hP1 hD1
                  have hK := (hK.sub (tys' := []) [] rfl).app hK1
                  clear hz1 hk1 hPc hDc hKc hFc
                  generalize H1 = H at hP hS ⊢
                  have hK : va_K (dC, dI) vwCl [(ku0, .int), (kb1, .int), (kb3, .int), (ke0, .int), (ke1, .int), (ke2, .char)] s := hK
                  have hP : va_P (dC, dI) vwCl [(h0, .inr (5, [.ref u0, .int (nI q_33), .int (nI q_34), .int (nI kq)])), (u0, .inl (ku0, 40, .inl f_35)), (p1, .inr (1, [w0, .ref b1, w2, .ref b3, w4, w5, .int (nI cn), w7])), (b1, .inl (kb1, 10, .inl fle)), (b3, .inl (kb3, 100, .inl fli)), (p3, .inr (0, [.ref e0, .ref e1, .ref e2])), (e0, .inl (ke0, 8, .inl fo)), (e1, .inl (ke1, 80, .inl fbl)), (e2, .inl (ke2, 960, .inl fbs))] H := hP
                  have hD : va_D A [(h0, .inr (5, [.ref u0, .int (nI q_33), .int (nI q_34), .int (nI kq)])), (u0, .inl (ku0, 40, .inl f_35)), (p1, .inr (1, [w0, .ref b1, w2, .ref b3, w4, w5, .int (nI cn), w7])), (b1, .inl (kb1, 10, .inl fle)), (b3, .inl (kb3, 100, .inl fli)), (p3, .inr (0, [.ref e0, .ref e1, .ref e2])), (e0, .inl (ke0, 8, .inl fo)), (e1, .inl (ke1, 80, .inl fbl)), (e2, .inl (ke2, 960, .inl fbs))] := hD
                  refine lv_istore (lv' := [(9, .int r_32), (11, .int (fbs (12 * (8 * ow + nq) + k9))), (10, .int (nI k9)), (8, .int (nI ((fbl (8 * ow + nq)).toNatClampNeg))), (7, .int (nI ow)), (6, .int (nI q9)), (0, .ref h0), (1, .ref p1), (2, .ref p3), (3, .int (nI nq)), (4, .int (nI fm)), (5, .int 5)]) hx hb dX5_work_155 hl (by decide) rfl (fun ls hl => ?_)
                  refine lv_goto (tgt := 178) hx hb dX5_work_157 (by decide) ?_
                  refine lv_iinc (v := (nI (k9 + 1))) (lv' := [(10, .int (nI (k9 + 1))), (9, .int r_32), (11, .int (fbs (12 * (8 * ow + nq) + k9))), (8, .int (nI ((fbl (8 * ow + nq)).toNatClampNeg))), (7, .int (nI ow)), (6, .int (nI q9)), (0, .ref h0), (1, .ref p1), (2, .ref p3), (3, .int (nI nq)), (4, .int (nI fm)), (5, .int 5)]) hx hb dX5_work_178 hl (k := 2) rfl (nI_add k9 1) (by decide) rfl (fun ls hl => ?_)
                  refine lv_goto (tgt := 82) hx hb dX5_work_181 (by decide) ?_
                  exact ih_11 (k9 + 1) r_32 q_33 q_34 f_35 (by omega) p_36 p_37 (lp_up hlp c_14 (by omega) (by show Int32.toInt (fbs (12 * (8 * ow + nq) + k9)) = 94; omega) hw_32 p_38) (by omega) _ _ hP hD hS ls (lv_sub hl [0, 1, 3, 4, 5, 6, 7, 8, 9, 10, 11] rfl)
              · have b_20 := gn_gt (X := (Int32.toInt (fbs (12 * (8 * ow + nq) + k9)))) (C := 57) rfl (by decide) c_19
                refine lv_aload_n hx hb dX5_work_119 rfl (lv_at hl 6 rfl) ?_
                refine lv_iload hx hb dX5_work_120 (lv_at hl 0 rfl) ?_
                refine lv_bipush (v := 48) hx hb dX5_work_122 (by decide) ?_
                refine lv_isub hx hb dX5_work_124 ?_
                refine lv_topi (fun z_39 ez_39 => ?_)
                have gz_39 := fx_rng (fbs (12 * (8 * ow + nq) + k9))
                have fz_39 : Int32.toInt z_39 = (Int32.toInt (fbs (12 * (8 * ow + nq) + k9))) - 48 := by rw [ez_39]; exact gx_sub (X := (Int32.toInt (fbs (12 * (8 * ow + nq) + k9)))) (C := 48) rfl (by decide) (by omega) (by omega)
                have hPc := hP.sub (ws' := [(h0, .inr (5, [.ref u0, .int (nI sdx), .int (nI mdx), .int (nI kq)])), (u0, .inl (ku0, 40, .inl fdx))]) [0, 1] rfl
                have hDc := hD.sub (ws' := [(h0, .inr (5, [.ref u0, .int (nI sdx), .int (nI mdx), .int (nI kq)])), (u0, .inl (ku0, 40, .inl fdx))]) [0, 1] (by decide) rfl
                have hKc := hK.sub (tys' := [(ku0, .int)]) [0] rfl
                have hFc := va_free (wc := [(h0, .inr (5, [.ref u0, .int (nI sdx), .int (nI mdx), .int (nI kq)])), (u0, .inl (ku0, 40, .inl fdx))]) hD hS hA [0, 1] rfl
                refine va_calli (va_runV (As := [.int z_39]) (rest := []) ⟨hx, hb, hml, hown, hts⟩ (c_sayD l dC dI H.size h0 u0 sdx mdx kq ku0 fdx z_39 hsx) (cwV 1 hts (gV mw_2_181 mw_2_183 mw_0_5 mw_1_6 mw_2_184) rfl rfl rfl (by decide +kernel) ⟨Nat.le_of_ble_eq_true rfl, Nat.le_of_ble_eq_true rfl⟩) ⟨pcW_blind, va_recv hKc hPc (ci := 5) (q0 := 0) rfl rfl, pcW_at hPc hKc hDc hN⟩ rfl rfl hl.1 rfl (lv_room (Nat.le_of_ble_eq_true rfl)) dX5_work_125 ⟨Nat.le_of_ble_eq_true rfl, Nat.le_of_ble_eq_true rfl⟩) hS (fun q _ h => hFc q h) hFc (fun r_40 u t H1 locs ht hvm hw_40 hB hz1 hk1 hS => ?_)
                obtain ⟨q_41, f_42, p_43, p_44, p_45, hP1, hK1, hD1⟩ := hB
                rw [ht] at hP1
                have hK1 := va_K.moved hvm.symm hK1
                obtain ⟨hP, hD⟩ := va_join (wr := [(p1, .inr (1, [w0, .ref b1, w2, .ref b3, w4, w5, .int (nI cn), w7])), (b1, .inl (kb1, 10, .inl fle)), (b3, .inl (kb3, 100, .inl fli)), (p3, .inr (0, [.ref e0, .ref e1, .ref e2])), (e0, .inl (ke0, 8, .inl fo)), (e1, .inl (ke1, 80, .inl fbl)), (e2, .inl (ke2, 960, .inl fbs))]) (w1 := [(h0, .inr (5, [.ref u0, .int (nI q_41), .int (nI mdx), .int (nI kq)])), (u0, .inl (ku0, 40, .inl f_42))]) hP hD [0, 1] [2, 3, 4, 5, 6, 7, 8] rfl rfl (by decide) (by decide) hk1 hFc hP1 hD1
                have hK := (hK.sub (tys' := [(kb1, .int), (kb3, .int), (ke0, .int), (ke1, .int), (ke2, .char)]) [1, 2, 3, 4, 5] rfl).app hK1
                clear hz1 hk1 hPc hDc hKc hFc
                generalize H1 = H at hP hS ⊢
                have hK : va_K (dC, dI) vwCl [(kb1, .int), (kb3, .int), (ke0, .int), (ke1, .int), (ke2, .char), (ku0, .int)] s := hK
                have hP : va_P (dC, dI) vwCl [(p1, .inr (1, [w0, .ref b1, w2, .ref b3, w4, w5, .int (nI cn), w7])), (b1, .inl (kb1, 10, .inl fle)), (b3, .inl (kb3, 100, .inl fli)), (p3, .inr (0, [.ref e0, .ref e1, .ref e2])), (e0, .inl (ke0, 8, .inl fo)), (e1, .inl (ke1, 80, .inl fbl)), (e2, .inl (ke2, 960, .inl fbs)), (h0, .inr (5, [.ref u0, .int (nI q_41), .int (nI mdx), .int (nI kq)])), (u0, .inl (ku0, 40, .inl f_42))] H := hP
                have hD : va_D A [(p1, .inr (1, [w0, .ref b1, w2, .ref b3, w4, w5, .int (nI cn), w7])), (b1, .inl (kb1, 10, .inl fle)), (b3, .inl (kb3, 100, .inl fli)), (p3, .inr (0, [.ref e0, .ref e1, .ref e2])), (e0, .inl (ke0, 8, .inl fo)), (e1, .inl (ke1, 80, .inl fbl)), (e2, .inl (ke2, 960, .inl fbs)), (h0, .inr (5, [.ref u0, .int (nI q_41), .int (nI mdx), .int (nI kq)])), (u0, .inl (ku0, 40, .inl f_42))] := hD
                refine lv_istore (lv' := [(9, .int r_40), (11, .int (fbs (12 * (8 * ow + nq) + k9))), (10, .int (nI k9)), (8, .int (nI ((fbl (8 * ow + nq)).toNatClampNeg))), (7, .int (nI ow)), (6, .int (nI q9)), (0, .ref h0), (1, .ref p1), (2, .ref p3), (3, .int (nI nq)), (4, .int (nI fm)), (5, .int 5)]) hx hb dX5_work_128 hl (by decide) rfl (fun ls hl => ?_)
                refine lv_goto (tgt := 178) hx hb dX5_work_130 (by decide) ?_
                refine lv_iinc (v := (nI (k9 + 1))) (lv' := [(10, .int (nI (k9 + 1))), (9, .int r_40), (11, .int (fbs (12 * (8 * ow + nq) + k9))), (8, .int (nI ((fbl (8 * ow + nq)).toNatClampNeg))), (7, .int (nI ow)), (6, .int (nI q9)), (0, .ref h0), (1, .ref p1), (2, .ref p3), (3, .int (nI nq)), (4, .int (nI fm)), (5, .int 5)]) hx hb dX5_work_178 hl (k := 2) rfl (nI_add k9 1) (by decide) rfl (fun ls hl => ?_)
                refine lv_goto (tgt := 82) hx hb dX5_work_181 (by decide) ?_
                exact ih_11 (k9 + 1) r_40 q_41 mdx f_42 (by omega) p_43 hmx (by rw [hw_40]; exact lp_dig hlp c_14 (by omega) (by show 48 ≤ Int32.toInt (fbs (12 * (8 * ow + nq) + k9)) ∧ Int32.toInt (fbs (12 * (8 * ow + nq) + k9)) ≤ 57; omega) (by rw [ez_39]) p_44 p_45) (by omega) _ _ (hP.sub (ws' := [(h0, .inr (5, [.ref u0, .int (nI q_41), .int (nI mdx), .int (nI kq)])), (u0, .inl (ku0, 40, .inl f_42)), (p1, .inr (1, [w0, .ref b1, w2, .ref b3, w4, w5, .int (nI cn), w7])), (b1, .inl (kb1, 10, .inl fle)), (b3, .inl (kb3, 100, .inl fli)), (p3, .inr (0, [.ref e0, .ref e1, .ref e2])), (e0, .inl (ke0, 8, .inl fo)), (e1, .inl (ke1, 80, .inl fbl)), (e2, .inl (ke2, 960, .inl fbs))]) [7, 8, 0, 1, 2, 3, 4, 5, 6] rfl) (hD.sub (ws' := [(h0, .inr (5, [.ref u0, .int (nI q_41), .int (nI mdx), .int (nI kq)])), (u0, .inl (ku0, 40, .inl f_42)), (p1, .inr (1, [w0, .ref b1, w2, .ref b3, w4, w5, .int (nI cn), w7])), (b1, .inl (kb1, 10, .inl fle)), (b3, .inl (kb3, 100, .inl fli)), (p3, .inr (0, [.ref e0, .ref e1, .ref e2])), (e0, .inl (ke0, 8, .inl fo)), (e1, .inl (ke1, 80, .inl fbl)), (e2, .inl (ke2, 960, .inl fbs))]) [7, 8, 0, 1, 2, 3, 4, 5, 6] (by decide) rfl) hS ls (lv_sub hl [0, 1, 3, 4, 5, 6, 7, 8, 9, 10, 11] rfl)
      exact key_10 ((12 - 0) + 1) 0 0 sd (md + 1) fd (by omega) hsd (by omega) (wd_inC hw_4 (by omega) (by omega) eow (by omega)).symm (Nat.lt_succ_self _) _ _ hP hD hS ls (lv_sub hl [0, 1, 2, 3, 4, 5, 6, 7, 8, 9, 10] rfl)
  · have b_2 := gn_lt (X := ((md : Nat) : Int)) (C := 200) (nI_toInt (by omega)) (by decide) c_1
    refine lv_iconst (v := 2) hx hb dX5_work_17 (by decide) ?_
    have hP9 := hP.sub (ws' := [(h0, .inr (5, [.ref u0, .int (nI sd), .int (nI md), .int (nI kq)])), (u0, .inl (ku0, 40, .inl fd)), (p1, .inr (1, [w0, .ref b1, w2, .ref b3, w4, w5, .int (nI cn), w7])), (b1, .inl (kb1, 10, .inl fle)), (b3, .inl (kb3, 100, .inl fli)), (p3, .inr (0, [.ref e0, .ref e1, .ref e2])), (e0, .inl (ke0, 8, .inl fo)), (e1, .inl (ke1, 80, .inl fbl)), (e2, .inl (ke2, 960, .inl fbs))]) [0, 1, 2, 3, 4, 5, 6, 7, 8] rfl
    have hD9 := hD.sub (ws' := [(h0, .inr (5, [.ref u0, .int (nI sd), .int (nI md), .int (nI kq)])), (u0, .inl (ku0, 40, .inl fd)), (p1, .inr (1, [w0, .ref b1, w2, .ref b3, w4, w5, .int (nI cn), w7])), (b1, .inl (kb1, 10, .inl fle)), (b3, .inl (kb3, 100, .inl fli)), (p3, .inr (0, [.ref e0, .ref e1, .ref e2])), (e0, .inl (ke0, 8, .inl fo)), (e1, .inl (ke1, 80, .inl fbl)), (e2, .inl (ke2, 960, .inl fbs))]) [0, 1, 2, 3, 4, 5, 6, 7, 8] (by decide) rfl
    have hK9 := hK.sub (tys' := [(ku0, .int), (kb1, .int), (kb3, .int), (ke0, .int), (ke1, .int), (ke2, .char)]) [0, 1, 2, 3, 4, 5] rfl
    exact W.iret (v := 2) hx hb hr (fun t ht hW => ⟨⟨2, (), rfl, (r4 (wd_fuC (d := 4) (Or.inr (by omega)))).1, sd, md, fd, hsd, hmd, (Prod.ext (r4 (wd_fuC (d := 4) (Or.inr (by omega)))).2.1 (Prod.ext (r4 (wd_fuC (d := 4) (Or.inr (by omega)))).2.2.1 (r4 (wd_fuC (d := 4) (Or.inr (by omega)))).2.2.2)), by rw [ht]; exact hP9, va_K.moved hW.alike hK9, hD9⟩, hS.F ht⟩) hS.2.2 dX5_work_18
set_option maxHeartbeats 4000000 in
set_option maxRecDepth 100000 in
theorem c_work4 (l : Launch) (dC : Nat → ClassId) (dI : Nat → Nat → Nat) (sz : Nat) (h0 : Nat) (u0 : Nat) (sd : Nat) (md : Nat) (kq : Nat) (ku0 : ClassId) (fd : Nat → Int32) (p1 : Nat) (w0 : Value) (b1 : Nat) (w2 : Value) (b3 : Nat) (w4 : Value) (w5 : Value) (cn : Nat) (w7 : Value) (kb1 : ClassId) (fle : Nat → Int32) (kb3 : ClassId) (fli : Nat → Int32) (p3 : Nat) (e0 : Nat) (e1 : Nat) (e2 : Nat) (ke0 : ClassId) (fo : Nat → Int32) (ke1 : ClassId) (fbl : Nat → Int32) (ke2 : ClassId) (fbs : Nat → Int32) (nq : Nat) (fm : Nat) (hsd : sd ≤ 40) (hc : cn ≤ 10) (hle : BdOk 10 10 fle) (hbl : BdOk 80 12 fbl) (hbs : ChOk fbs) (hlk : LnOk fle fli cn) (hkq : kq < cn) (hnq : nq < 8) (hfm : fm ≤ 10) (hmd : md ≤ 200) (hcv : CvOk fbl fbs) : Met l yX5_work (wq yX5_work cX5_work 12 (some .int)) ({ frames := 8, cells := 0, slots := 0, locals := 210 }) (va_Pc [.ref h0, .ref p1, .ref p3, .int (nI nq), .int (nI fm), .int 4] (pcW dC dI [(ku0, .int), (kb1, .int), (kb3, .int), (ke0, .int), (ke1, .int), (ke2, .char)] [(h0, .inr (5, [.ref u0, .int (nI sd), .int (nI md), .int (nI kq)])), (u0, .inl (ku0, 40, .inl fd)), (p1, .inr (1, [w0, .ref b1, w2, .ref b3, w4, w5, .int (nI cn), w7])), (b1, .inl (kb1, 10, .inl fle)), (b3, .inl (kb3, 100, .inl fli)), (p3, .inr (0, [.ref e0, .ref e1, .ref e2])), (e0, .inl (ke0, 8, .inl fo)), (e1, .inl (ke1, 80, .inl fbl)), (e2, .inl (ke2, 960, .inl fbs))] sz)) (va_Qi (fun (r : Int32) (_ : Unit) => r = (wdC fle fli fo fbl fbs cn kq 5 nq fm (md, sd, fd)).1) (fun _ t => ∃ (sd2 : Nat) (md2 : Nat) (fd2 : Nat → Int32), (sd2 ≤ 40) ∧ (md2 ≤ 200) ∧ ((md2, sd2, fd2) = (wdC fle fli fo fbl fbs cn kq 5 nq fm (md, sd, fd)).2) ∧ va_P (dC, dI) vwCl [(h0, .inr (5, [.ref u0, .int (nI sd2), .int (nI md2), .int (nI kq)])), (u0, .inl (ku0, 40, .inl fd2)), (p1, .inr (1, [w0, .ref b1, w2, .ref b3, w4, w5, .int (nI cn), w7])), (b1, .inl (kb1, 10, .inl fle)), (b3, .inl (kb3, 100, .inl fli)), (p3, .inr (0, [.ref e0, .ref e1, .ref e2])), (e0, .inl (ke0, 8, .inl fo)), (e1, .inl (ke1, 80, .inl fbl)), (e2, .inl (ke2, 960, .inl fbs))] t.heap ∧ va_K (dC, dI) vwCl [(ku0, .int), (kb1, .int), (kb3, .int), (ke0, .int), (ke1, .int), (ke2, .char)] t ∧ va_D (va_A [(h0, .inr (5, [.ref u0, .int (nI sd), .int (nI md), .int (nI kq)])), (u0, .inl (ku0, 40, .inl fd)), (p1, .inr (1, [w0, .ref b1, w2, .ref b3, w4, w5, .int (nI cn), w7])), (b1, .inl (kb1, 10, .inl fle)), (b3, .inl (kb3, 100, .inl fli)), (p3, .inr (0, [.ref e0, .ref e1, .ref e2])), (e0, .inl (ke0, 8, .inl fo)), (e1, .inl (ke1, 80, .inl fbl)), (e2, .inl (ke2, 960, .inl fbs))] sz) [(h0, .inr (5, [.ref u0, .int (nI sd2), .int (nI md2), .int (nI kq)])), (u0, .inl (ku0, 40, .inl fd2)), (p1, .inr (1, [w0, .ref b1, w2, .ref b3, w4, w5, .int (nI cn), w7])), (b1, .inl (kb1, 10, .inl fle)), (b3, .inl (kb3, 100, .inl fli)), (p3, .inr (0, [.ref e0, .ref e1, .ref e2])), (e0, .inl (ke0, 8, .inl fo)), (e1, .inl (ke1, 80, .inl fbl)), (e2, .inl (ke2, 960, .inl fbs))]) (va_A [(h0, .inr (5, [.ref u0, .int (nI sd), .int (nI md), .int (nI kq)])), (u0, .inl (ku0, 40, .inl fd)), (p1, .inr (1, [w0, .ref b1, w2, .ref b3, w4, w5, .int (nI cn), w7])), (b1, .inl (kb1, 10, .inl fle)), (b3, .inl (kb3, 100, .inl fli)), (p3, .inr (0, [.ref e0, .ref e1, .ref e2])), (e0, .inl (ke0, 8, .inl fo)), (e1, .inl (ke1, 80, .inl fbl)), (e2, .inl (ke2, 960, .inl fbs))] sz)) 0 0 (va_A [(h0, .inr (5, [.ref u0, .int (nI sd), .int (nI md), .int (nI kq)])), (u0, .inl (ku0, 40, .inl fd)), (p1, .inr (1, [w0, .ref b1, w2, .ref b3, w4, w5, .int (nI cn), w7])), (b1, .inl (kb1, 10, .inl fle)), (b3, .inl (kb3, 100, .inl fli)), (p3, .inr (0, [.ref e0, .ref e1, .ref e2])), (e0, .inl (ke0, 8, .inl fo)), (e1, .inl (ke1, 80, .inl fbl)), (e2, .inl (ke2, 960, .inl fbs))] sz) := by
  refine Met.ofW (cc := cX5_work) (maxL := 12) (ret := (some .int)) (by decide) rfl ?_
  intro p e s m args below meth c s₁ B hml hv
  obtain ⟨rfl, hsz, hN, hP, hK, hD0⟩ := hv
  have hx := B.exec
  have hb := B.bytes
  have hr := B.returns
  have hts0 := atoms_spec (ws := (wq yX5_work cX5_work 12 (some .int))) B.pre
  have hts : ∀ w ∈ BG, w.before _ s = true := fun w h => hts0 w (List.mem_cons_of_mem _ h)
  have hown : s.vm.findClass RX5 = some m.cls := findClass_of_methodNamed B.named
  have hlocks := B.notSynchronized
  subst hsz
  have hD := hD0.self (sz := s.heap.size)
  generalize hAe : va_A [(h0, .inr (5, [.ref u0, .int (nI sd), .int (nI md), .int (nI kq)])), (u0, .inl (ku0, 40, .inl fd)), (p1, .inr (1, [w0, .ref b1, w2, .ref b3, w4, w5, .int (nI cn), w7])), (b1, .inl (kb1, 10, .inl fle)), (b3, .inl (kb3, 100, .inl fli)), (p3, .inr (0, [.ref e0, .ref e1, .ref e2])), (e0, .inl (ke0, 8, .inl fo)), (e1, .inl (ke1, 80, .inl fbl)), (e2, .inl (ke2, 960, .inl fbs))] s.heap.size = A at hD ⊢
  have hA : ∀ q : Nat, s.heap.size ≤ q → A q := fun q h => by rw [← hAe]; exact Or.inr h
  have hS : va_S A s.heap s.heap [] := va_S.rf
  clear hAe hD0
  have hP : va_P (dC, dI) vwCl [(h0, .inr (5, [.ref u0, .int (nI sd), .int (nI md), .int (nI kq)])), (u0, .inl (ku0, 40, .inl fd)), (p1, .inr (1, [w0, .ref b1, w2, .ref b3, w4, w5, .int (nI cn), w7])), (b1, .inl (kb1, 10, .inl fle)), (b3, .inl (kb3, 100, .inl fli)), (p3, .inr (0, [.ref e0, .ref e1, .ref e2])), (e0, .inl (ke0, 8, .inl fo)), (e1, .inl (ke1, 80, .inl fbl)), (e2, .inl (ke2, 960, .inl fbs))] s.heap := hP
  have hl := lv_entry ([.ref h0, .ref p1, .ref p3, .int (nI nq), .int (nI fm), .int 4]) (n := 12) (Nat.le_of_ble_eq_true rfl)
  rw [lg_entry_eq]
  generalize (lg_sl ([.ref h0, .ref p1, .ref p3, .int (nI nq), .int (nI fm), .int 4]) ++ List.replicate (12 - (lg_sl ([.ref h0, .ref p1, .ref p3, .int (nI nq), .int (nI fm), .int 4])).length) Slot.unset).toArray = ls at hl ⊢
  have hl : lv_has ls 12 [(0, .ref h0), (1, .ref p1), (2, .ref p3), (3, .int (nI nq)), (4, .int (nI fm)), (5, .int 4)] := hl
  have hle9 := lenN_le (n := nI kq) hc hle
  refine lv_iload hx hb dX5_work_0 (lv_at hl 5 rfl) ?_
  refine lv_bipush (v := 9) hx hb dX5_work_2 (by decide) ?_
  refine lv_icmp_ge (tgt := 17) hx hb dX5_work_4 (by decide) (fun h => absurd h (by decide)) (fun _ => ?_)
  refine lv_aload_n hx hb dX5_work_7 rfl (lv_at hl 0 rfl) ?_
  refine va_get (D := (dC, dI)) (ci := 5) (v := .int (nI md)) (C := RX5) (T := TX5) (N := 4) hx hb hts inB_5 hown hK hP 0 rfl rfl 2 (by decide) (hts _ mw_1_110) (fun _ h9 => h9) rfl dX5_work_8 ?_
  refine lv_sipush (v := 200) hx hb dX5_work_11 (by decide) ?_
  refine lv_icmp_lt (tgt := 19) hx hb dX5_work_14 (by decide) (fun c_1 => ?_) (fun c_1 => ?_)
  · have b_2 := gx_lt (X := ((md : Nat) : Int)) (C := 200) (nI_toInt (by omega)) (by decide) c_1
    refine lv_aload_n hx hb dX5_work_19 rfl (lv_at hl 0 rfl) ?_
    refine lv_dup hx hb dX5_work_20 rfl ?_
    refine va_get (D := (dC, dI)) (ci := 5) (v := .int (nI md)) (C := RX5) (T := TX5) (N := 4) hx hb hts inB_5 hown hK hP 0 rfl rfl 2 (by decide) (hts _ mw_1_110) (fun _ h9 => h9) rfl dX5_work_21 ?_
    refine lv_iconst (v := 1) hx hb dX5_work_24 (by decide) ?_
    refine lv_iadd hx hb dX5_work_25 ?_
    refine hx_top (y := (nI (md + 1))) (nI_add md 1) ?_
    refine va_put (D := (dC, dI)) (ci := 5) (v := .int (nI (md + 1))) (ty := .int) (C := RX5) (T := TX5) (N := 4) hx hb hts inB_5 tyX5 tyX5_ok nmX5 hown hK hP hD hS 0 rfl rfl 2 (by decide) (hts _ mw_1_110) (fun _ h9 => h9) rfl (by decide +kernel) rfl rfl (Nat.le_of_ble_eq_true rfl) dX5_work_26 (fun H locs hP hD hS => ?_)
    have hP : va_P (dC, dI) vwCl [(h0, .inr (5, [.ref u0, .int (nI sd), .int (nI (md + 1)), .int (nI kq)])), (u0, .inl (ku0, 40, .inl fd)), (p1, .inr (1, [w0, .ref b1, w2, .ref b3, w4, w5, .int (nI cn), w7])), (b1, .inl (kb1, 10, .inl fle)), (b3, .inl (kb3, 100, .inl fli)), (p3, .inr (0, [.ref e0, .ref e1, .ref e2])), (e0, .inl (ke0, 8, .inl fo)), (e1, .inl (ke1, 80, .inl fbl)), (e2, .inl (ke2, 960, .inl fbs))] H := hP
    have hD : va_D A [(h0, .inr (5, [.ref u0, .int (nI sd), .int (nI (md + 1)), .int (nI kq)])), (u0, .inl (ku0, 40, .inl fd)), (p1, .inr (1, [w0, .ref b1, w2, .ref b3, w4, w5, .int (nI cn), w7])), (b1, .inl (kb1, 10, .inl fle)), (b3, .inl (kb3, 100, .inl fli)), (p3, .inr (0, [.ref e0, .ref e1, .ref e2])), (e0, .inl (ke0, 8, .inl fo)), (e1, .inl (ke1, 80, .inl fbl)), (e2, .inl (ke2, 960, .inl fbs))] := hD
    refine lv_aload_n hx hb dX5_work_29 rfl (lv_at hl 1 rfl) ?_
    refine lv_aload_n hx hb dX5_work_30 rfl (lv_at hl 0 rfl) ?_
    refine va_get (D := (dC, dI)) (ci := 5) (v := .int (nI kq)) (C := RX5) (T := TX5) (N := 4) hx hb hts inB_5 hown hK hP 0 rfl rfl 3 (by decide) (hts _ mw_1_111) (fun _ h9 => h9) rfl dX5_work_31 ?_
    refine lv_aload_n hx hb dX5_work_34 rfl (lv_at hl 2 rfl) ?_
    refine lv_iload_n hx hb dX5_work_35 rfl (lv_at hl 3 rfl) ?_
    have hPc := hP.sub (ws' := [(p3, .inr (0, [.ref e0, .ref e1, .ref e2])), (e0, .inl (ke0, 8, .inl fo))]) [5, 6] rfl
    have hDc := hD.sub (ws' := [(p3, .inr (0, [.ref e0, .ref e1, .ref e2])), (e0, .inl (ke0, 8, .inl fo))]) [5, 6] (by decide) rfl
    have hKc := hK.sub (tys' := [(ke0, .int)]) [3] rfl
    refine va_calli (va_runV (As := [.int (nI nq)]) (rest := [.int (nI kq), .ref p1]) ⟨hx, hb, hml, hown, hts⟩ (c_own l dC dI H.size p3 e0 (.ref e1) (.ref e2) ke0 fo nq hnq) (cwV 1 hts (gV mw_2_169 mw_2_105 mw_2_106 mw_1_5 mw_2_107) rfl rfl rfl (by decide +kernel) ⟨Nat.le_of_ble_eq_true rfl, Nat.le_of_ble_eq_true rfl⟩) ⟨pcW_blind, va_recv hKc hPc (ci := 0) (q0 := 0) rfl rfl, pcW_at hPc hKc hDc hN⟩ rfl rfl hl.1 rfl (lv_room (Nat.le_of_ble_eq_true rfl)) dX5_work_36 ⟨Nat.le_of_ble_eq_true rfl, Nat.le_of_ble_eq_true rfl⟩) hS (fun q h1 h2 => absurd h2 (Nat.not_le.mpr h1)) (fun q h => hA q (Nat.le_trans hS.1 h)) (fun r_3 u t H1 locs ht hvm hw_3 hB hz1 hk1 hS => ?_)
    have hP := keepP hP hk1
    clear hz1 hk1 hB ht hvm hPc hDc hKc
    generalize H1 = H at hP hS ⊢
    obtain rfl : r_3 = (fo nq) := hw_3
    refine lv_iload hx hb dX5_work_39 (lv_at hl 4 rfl) ?_
    have hPc := hP.sub (ws' := [(p1, .inr (1, [w0, .ref b1, w2, .ref b3, w4, w5, .int (nI cn), w7])), (b1, .inl (kb1, 10, .inl fle)), (b3, .inl (kb3, 100, .inl fli))]) [2, 3, 4] rfl
    have hDc := hD.sub (ws' := [(p1, .inr (1, [w0, .ref b1, w2, .ref b3, w4, w5, .int (nI cn), w7])), (b1, .inl (kb1, 10, .inl fle)), (b3, .inl (kb3, 100, .inl fli))]) [2, 3, 4] (by decide) rfl
    have hKc := hK.sub (tys' := [(kb1, .int), (kb3, .int)]) [1, 2] rfl
    refine va_calli (va_runV (As := [.int (nI kq), .int (fo nq), .int (nI fm)]) (rest := []) ⟨hx, hb, hml, hown, hts⟩ (c_whereFirst l dC dI H.size p1 (w0) b1 (w2) b3 (w4) (w5) cn (w7) kb1 fle kb3 fli kq (fo nq) fm hc hle hlk hkq (by omega)) (cwV 3 hts (gV mw_2_170 mw_2_146 mw_2_147 mw_1_2 mw_2_148) rfl rfl rfl (by decide +kernel) ⟨Nat.le_of_ble_eq_true rfl, Nat.le_of_ble_eq_true rfl⟩) ⟨pcW_blind, va_recv hKc hPc (ci := 1) (q0 := 0) rfl rfl, pcW_at hPc hKc hDc hN⟩ rfl rfl hl.1 rfl (lv_room (Nat.le_of_ble_eq_true rfl)) dX5_work_41 ⟨Nat.le_of_ble_eq_true rfl, Nat.le_of_ble_eq_true rfl⟩) hS (fun q h1 h2 => absurd h2 (Nat.not_le.mpr h1)) (fun q h => hA q (Nat.le_trans hS.1 h)) (fun r_4 u t H1 locs ht hvm hw_4 hB hz1 hk1 hS => ?_)
    have hP := keepP hP hk1
    clear hz1 hk1 hB ht hvm hPc hDc hKc
    generalize H1 = H at hP hS ⊢
    refine lv_istore (lv' := [(6, .int r_4), (0, .ref h0), (1, .ref p1), (2, .ref p3), (3, .int (nI nq)), (4, .int (nI fm)), (5, .int 4)]) hx hb dX5_work_44 hl (by decide) rfl (fun ls hl => ?_)
    rcases wf_cases hw_4 with eq9 | ⟨q9, hq9, eq9⟩
    · subst eq9
      refine lv_iload hx hb dX5_work_46 (lv_at hl 0 rfl) ?_
      refine lv_bipush (v := (-6)) hx hb dX5_work_48 (by decide) ?_
      refine lv_icmp_ne (tgt := 55) hx hb dX5_work_50 (by decide) (fun h => absurd h (by decide)) (fun _ => ?_)
      refine lv_iconst (v := 1) hx hb dX5_work_53 (by decide) ?_
      have hP9 := hP.sub (ws' := [(h0, .inr (5, [.ref u0, .int (nI sd), .int (nI (md + 1)), .int (nI kq)])), (u0, .inl (ku0, 40, .inl fd)), (p1, .inr (1, [w0, .ref b1, w2, .ref b3, w4, w5, .int (nI cn), w7])), (b1, .inl (kb1, 10, .inl fle)), (b3, .inl (kb3, 100, .inl fli)), (p3, .inr (0, [.ref e0, .ref e1, .ref e2])), (e0, .inl (ke0, 8, .inl fo)), (e1, .inl (ke1, 80, .inl fbl)), (e2, .inl (ke2, 960, .inl fbs))]) [0, 1, 2, 3, 4, 5, 6, 7, 8] rfl
      have hD9 := hD.sub (ws' := [(h0, .inr (5, [.ref u0, .int (nI sd), .int (nI (md + 1)), .int (nI kq)])), (u0, .inl (ku0, 40, .inl fd)), (p1, .inr (1, [w0, .ref b1, w2, .ref b3, w4, w5, .int (nI cn), w7])), (b1, .inl (kb1, 10, .inl fle)), (b3, .inl (kb3, 100, .inl fli)), (p3, .inr (0, [.ref e0, .ref e1, .ref e2])), (e0, .inl (ke0, 8, .inl fo)), (e1, .inl (ke1, 80, .inl fbl)), (e2, .inl (ke2, 960, .inl fbs))]) [0, 1, 2, 3, 4, 5, 6, 7, 8] (by decide) rfl
      have hK9 := hK.sub (tys' := [(ku0, .int), (kb1, .int), (kb3, .int), (ke0, .int), (ke1, .int), (ke2, .char)]) [0, 1, 2, 3, 4, 5] rfl
      exact W.iret (v := 1) hx hb hr (fun t ht hW => ⟨⟨1, (), rfl, (r4 (wd_noC (d := 4) hw_4 (by omega))).1, sd, (md + 1), fd, hsd, (by omega), (Prod.ext (r4 (wd_noC (d := 4) hw_4 (by omega))).2.1 (Prod.ext (r4 (wd_noC (d := 4) hw_4 (by omega))).2.2.1 (r4 (wd_noC (d := 4) hw_4 (by omega))).2.2.2)), by rw [ht]; exact hP9, va_K.moved hW.alike hK9, hD9⟩, hS.F ht⟩) hS.2.2 dX5_work_54
    · subst eq9
      refine lv_iload hx hb dX5_work_46 (lv_at hl 0 rfl) ?_
      refine lv_bipush (v := (-6)) hx hb dX5_work_48 (by decide) ?_
      refine lv_icmp_ne (tgt := 55) hx hb dX5_work_50 (by decide) (fun c_5 => ?_) (fun h => absurd (gn_ne (X := ((q9 : Nat) : Int)) (C := (-6)) (nI_toInt (by omega)) (by decide) h) (by omega))
      have b_6 := gx_ne (X := ((q9 : Nat) : Int)) (C := (-6)) (nI_toInt (by omega)) (by decide) c_5
      refine lv_aload_n hx hb dX5_work_55 rfl (lv_at hl 2 rfl) ?_
      refine lv_aload_n hx hb dX5_work_56 rfl (lv_at hl 1 rfl) ?_
      refine va_get (D := (dC, dI)) (ci := 5) (v := .int (nI kq)) (C := RX5) (T := TX5) (N := 4) hx hb hts inB_5 hown hK hP 0 rfl rfl 3 (by decide) (hts _ mw_1_111) (fun _ h9 => h9) rfl dX5_work_57 ?_
      refine lv_iload hx hb dX5_work_60 (lv_at hl 0 rfl) ?_
      have hPc := hP.sub (ws' := [(p1, .inr (1, [w0, .ref b1, w2, .ref b3, w4, w5, .int (nI cn), w7])), (b1, .inl (kb1, 10, .inl fle)), (b3, .inl (kb3, 100, .inl fli))]) [2, 3, 4] rfl
      have hDc := hD.sub (ws' := [(p1, .inr (1, [w0, .ref b1, w2, .ref b3, w4, w5, .int (nI cn), w7])), (b1, .inl (kb1, 10, .inl fle)), (b3, .inl (kb3, 100, .inl fli))]) [2, 3, 4] (by decide) rfl
      have hKc := hK.sub (tys' := [(kb1, .int), (kb3, .int)]) [1, 2] rfl
      refine va_calli (va_runV (As := [.int (nI kq), .int (nI q9)]) (rest := []) ⟨hx, hb, hml, hown, hts⟩ (c_inLine l dC dI H.size p1 (w0) b1 (w2) b3 (w4) (w5) cn (w7) kb1 fle kb3 fli kq q9 hc hle (by omega) hkq) (cwV 2 hts (gV mw_2_171 mw_1_234 mw_1_235 mw_1_2 mw_1_236) rfl rfl rfl (by decide +kernel) ⟨Nat.le_of_ble_eq_true rfl, Nat.le_of_ble_eq_true rfl⟩) ⟨pcW_blind, va_recv hKc hPc (ci := 1) (q0 := 0) rfl rfl, pcW_at hPc hKc hDc hN⟩ rfl rfl hl.1 rfl (lv_room (Nat.le_of_ble_eq_true rfl)) dX5_work_62 ⟨Nat.le_of_ble_eq_true rfl, Nat.le_of_ble_eq_true rfl⟩) hS (fun q h1 h2 => absurd h2 (Nat.not_le.mpr h1)) (fun q h => hA q (Nat.le_trans hS.1 h)) (fun r_7 u t H1 locs ht hvm hw_7 hB hz1 hk1 hS => ?_)
      have hP := keepP hP hk1
      clear hz1 hk1 hB ht hvm hPc hDc hKc
      generalize H1 = H at hP hS ⊢
      obtain rfl : r_7 = (fli (10 * kq + q9)) := hw_7
      obtain ⟨ow, how, eow⟩ := hlk kq (by omega) q9 (by rw [← lenN_k (f := fle) (c := cn) (by omega) (by omega)]; exact hq9)
      refine hx_top (y := (nI ow)) eow ?_
      refine lv_istore (lv' := [(7, .int (nI ow)), (6, .int (nI q9)), (0, .ref h0), (1, .ref p1), (2, .ref p3), (3, .int (nI nq)), (4, .int (nI fm)), (5, .int 4)]) hx hb dX5_work_65 hl (by decide) rfl (fun ls hl => ?_)
      refine lv_aload_n hx hb dX5_work_67 rfl (lv_at hl 4 rfl) ?_
      refine lv_iload hx hb dX5_work_68 (lv_at hl 0 rfl) ?_
      refine lv_iload_n hx hb dX5_work_70 rfl (lv_at hl 5 rfl) ?_
      have hPc := hP.sub (ws' := [(p3, .inr (0, [.ref e0, .ref e1, .ref e2])), (e1, .inl (ke1, 80, .inl fbl))]) [5, 7] rfl
      have hDc := hD.sub (ws' := [(p3, .inr (0, [.ref e0, .ref e1, .ref e2])), (e1, .inl (ke1, 80, .inl fbl))]) [5, 7] (by decide) rfl
      have hKc := hK.sub (tys' := [(ke1, .int)]) [4] rfl
      refine va_calli (va_runV (As := [.int (nI ow), .int (nI nq)]) (rest := []) ⟨hx, hb, hml, hown, hts⟩ (c_blenN l dC dI H.size p3 (.ref e0) e1 (.ref e2) ke1 fbl ow nq hbl (by omega) hnq) (cwV 2 hts (gV mw_2_172 mw_2_173 mw_2_174 mw_1_5 mw_2_175) rfl rfl rfl (by decide +kernel) ⟨Nat.le_of_ble_eq_true rfl, Nat.le_of_ble_eq_true rfl⟩) ⟨pcW_blind, va_recv hKc hPc (ci := 0) (q0 := 0) rfl rfl, pcW_at hPc hKc hDc hN⟩ rfl rfl hl.1 rfl (lv_room (Nat.le_of_ble_eq_true rfl)) dX5_work_71 ⟨Nat.le_of_ble_eq_true rfl, Nat.le_of_ble_eq_true rfl⟩) hS (fun q h1 h2 => absurd h2 (Nat.not_le.mpr h1)) (fun q h => hA q (Nat.le_trans hS.1 h)) (fun r_8 u t H1 locs ht hvm hw_8 hB hz1 hk1 hS => ?_)
      have hP := keepP hP hk1
      clear hz1 hk1 hB ht hvm hPc hDc hKc
      generalize H1 = H at hP hS ⊢
      obtain rfl : r_8 = nI ((fbl (8 * ow + nq)).toNatClampNeg) := hw_8
      have b_9 := (bd_cle0 hbl (show 8 * ow + nq < 80 by omega) : (fbl (8 * ow + nq)).toNatClampNeg ≤ 12)
      refine lv_istore (lv' := [(8, .int (nI ((fbl (8 * ow + nq)).toNatClampNeg))), (7, .int (nI ow)), (6, .int (nI q9)), (0, .ref h0), (1, .ref p1), (2, .ref p3), (3, .int (nI nq)), (4, .int (nI fm)), (5, .int 4)]) hx hb dX5_work_74 hl (by decide) rfl (fun ls hl => ?_)
      refine lv_iconst (v := 0) hx hb dX5_work_76 (by decide) ?_
      refine lv_istore (lv' := [(9, .int 0), (8, .int (nI ((fbl (8 * ow + nq)).toNatClampNeg))), (7, .int (nI ow)), (6, .int (nI q9)), (0, .ref h0), (1, .ref p1), (2, .ref p3), (3, .int (nI nq)), (4, .int (nI fm)), (5, .int 4)]) hx hb dX5_work_77 hl (by decide) rfl (fun ls hl => ?_)
      refine lv_iconst (v := 0) hx hb dX5_work_79 (by decide) ?_
      refine lv_istore (lv' := [(10, .int 0), (9, .int 0), (8, .int (nI ((fbl (8 * ow + nq)).toNatClampNeg))), (7, .int (nI ow)), (6, .int (nI q9)), (0, .ref h0), (1, .ref p1), (2, .ref p3), (3, .int (nI nq)), (4, .int (nI fm)), (5, .int 4)]) hx hb dX5_work_80 hl (by decide) rfl (fun ls hl => ?_)
      have key_10 : ∀ (fu : Nat) (k9 : Nat) (en : Int32) (sdx : Nat) (mdx : Nat) (fdx : Nat → Int32), (k9 ≤ 12) → (sdx ≤ 40) → (mdx ≤ 200) → (sgL (wdC fle fli fo fbl fbs cn kq 4) nq q9 (fun i => fbs (12 * (8 * ow + nq) + i)) ((fbl (8 * ow + nq)).toNatClampNeg - k9) k9 (en, mdx, sdx, fdx) = (wdC fle fli fo fbl fbs cn kq 5 nq fm (md, sd, fd))) → 12 - k9 < fu → ∀ (H : Heap) (locs : List Loc), va_P (dC, dI) vwCl [(h0, .inr (5, [.ref u0, .int (nI sdx), .int (nI mdx), .int (nI kq)])), (u0, .inl (ku0, 40, .inl fdx)), (p1, .inr (1, [w0, .ref b1, w2, .ref b3, w4, w5, .int (nI cn), w7])), (b1, .inl (kb1, 10, .inl fle)), (b3, .inl (kb3, 100, .inl fli)), (p3, .inr (0, [.ref e0, .ref e1, .ref e2])), (e0, .inl (ke0, 8, .inl fo)), (e1, .inl (ke1, 80, .inl fbl)), (e2, .inl (ke2, 960, .inl fbs))] H → va_D A [(h0, .inr (5, [.ref u0, .int (nI sdx), .int (nI mdx), .int (nI kq)])), (u0, .inl (ku0, 40, .inl fdx)), (p1, .inr (1, [w0, .ref b1, w2, .ref b3, w4, w5, .int (nI cn), w7])), (b1, .inl (kb1, 10, .inl fle)), (b3, .inl (kb3, 100, .inl fli)), (p3, .inr (0, [.ref e0, .ref e1, .ref e2])), (e0, .inl (ke0, 8, .inl fo)), (e1, .inl (ke1, 80, .inl fbl)), (e2, .inl (ke2, 960, .inl fbs))] → va_S A s.heap H locs → ∀ (ls : Array Slot), lv_has ls 12 [(10, .int (nI k9)), (9, .int en), (8, .int (nI ((fbl (8 * ow + nq)).toNatClampNeg))), (7, .int (nI ow)), (6, .int (nI q9)), (0, .ref h0), (1, .ref p1), (2, .ref p3), (3, .int (nI nq)), (4, .int (nI fm)), (5, .int 4)] → W p l e (headSpec (wq yX5_work cX5_work 12 (some .int)) ({ frames := 8, cells := 0, slots := 0, locals := 210 })).room s m (([.ref h0, .ref p1, .ref p3, .int (nI nq), .int (nI fm), .int 4] : List Value)).toArray below meth c H locs 0 0 (MQ below (va_Qi (fun (r : Int32) (_ : Unit) => r = (wdC fle fli fo fbl fbs cn kq 5 nq fm (md, sd, fd)).1) (fun _ t => ∃ (sd2 : Nat) (md2 : Nat) (fd2 : Nat → Int32), (sd2 ≤ 40) ∧ (md2 ≤ 200) ∧ ((md2, sd2, fd2) = (wdC fle fli fo fbl fbs cn kq 5 nq fm (md, sd, fd)).2) ∧ va_P (dC, dI) vwCl [(h0, .inr (5, [.ref u0, .int (nI sd2), .int (nI md2), .int (nI kq)])), (u0, .inl (ku0, 40, .inl fd2)), (p1, .inr (1, [w0, .ref b1, w2, .ref b3, w4, w5, .int (nI cn), w7])), (b1, .inl (kb1, 10, .inl fle)), (b3, .inl (kb3, 100, .inl fli)), (p3, .inr (0, [.ref e0, .ref e1, .ref e2])), (e0, .inl (ke0, 8, .inl fo)), (e1, .inl (ke1, 80, .inl fbl)), (e2, .inl (ke2, 960, .inl fbs))] t.heap ∧ va_K (dC, dI) vwCl [(ku0, .int), (kb1, .int), (kb3, .int), (ke0, .int), (ke1, .int), (ke2, .char)] t ∧ va_D A [(h0, .inr (5, [.ref u0, .int (nI sd2), .int (nI md2), .int (nI kq)])), (u0, .inl (ku0, 40, .inl fd2)), (p1, .inr (1, [w0, .ref b1, w2, .ref b3, w4, w5, .int (nI cn), w7])), (b1, .inl (kb1, 10, .inl fle)), (b3, .inl (kb3, 100, .inl fli)), (p3, .inr (0, [.ref e0, .ref e1, .ref e2])), (e0, .inl (ke0, 8, .inl fo)), (e1, .inl (ke1, 80, .inl fbl)), (e2, .inl (ke2, 960, .inl fbs))]) A) (([.ref h0, .ref p1, .ref p3, .int (nI nq), .int (nI fm), .int 4] : List Value)).toArray s 0 0 A) (F0 m 82 ls []) := by
        intro fu
        induction fu with
        | zero => intro k9 en sdx mdx fdx hk hsx hmx hlp hme; exact absurd hme (Nat.not_lt_zero _)
        | succ fu ih_11 =>
          intro k9 en sdx mdx fdx hk hsx hmx hlp hme H locs hP hD hS ls hl
          refine lv_iload hx hb dX5_work_82 (lv_at hl 0 rfl) ?_
          refine lv_iload hx hb dX5_work_84 (lv_at hl 2 rfl) ?_
          refine lv_icmp_ge (tgt := 184) hx hb dX5_work_86 (by decide) (fun c_12 => ?_) (fun c_12 => ?_)
          · have b_13 := gx_ge (X := ((k9 : Nat) : Int)) (C := (((fbl (8 * ow + nq)).toNatClampNeg : Nat) : Int)) (nI_toInt (by omega)) (nI_toInt (by omega)) c_12
            refine lv_iload hx hb dX5_work_184 (lv_at hl 1 rfl) ?_
            have hP9 := hP.sub (ws' := [(h0, .inr (5, [.ref u0, .int (nI sdx), .int (nI mdx), .int (nI kq)])), (u0, .inl (ku0, 40, .inl fdx)), (p1, .inr (1, [w0, .ref b1, w2, .ref b3, w4, w5, .int (nI cn), w7])), (b1, .inl (kb1, 10, .inl fle)), (b3, .inl (kb3, 100, .inl fli)), (p3, .inr (0, [.ref e0, .ref e1, .ref e2])), (e0, .inl (ke0, 8, .inl fo)), (e1, .inl (ke1, 80, .inl fbl)), (e2, .inl (ke2, 960, .inl fbs))]) [0, 1, 2, 3, 4, 5, 6, 7, 8] rfl
            have hD9 := hD.sub (ws' := [(h0, .inr (5, [.ref u0, .int (nI sdx), .int (nI mdx), .int (nI kq)])), (u0, .inl (ku0, 40, .inl fdx)), (p1, .inr (1, [w0, .ref b1, w2, .ref b3, w4, w5, .int (nI cn), w7])), (b1, .inl (kb1, 10, .inl fle)), (b3, .inl (kb3, 100, .inl fli)), (p3, .inr (0, [.ref e0, .ref e1, .ref e2])), (e0, .inl (ke0, 8, .inl fo)), (e1, .inl (ke1, 80, .inl fbl)), (e2, .inl (ke2, 960, .inl fbs))]) [0, 1, 2, 3, 4, 5, 6, 7, 8] (by decide) rfl
            have hK9 := hK.sub (tys' := [(ku0, .int), (kb1, .int), (kb3, .int), (ke0, .int), (ke1, .int), (ke2, .char)]) [0, 1, 2, 3, 4, 5] rfl
            exact W.iret (v := en) hx hb hr (fun t ht hW => ⟨⟨en, (), rfl, (r4 ((sgl_end (Or.inl (by omega))).symm.trans hlp)).1, sdx, mdx, fdx, hsx, hmx, (Prod.ext (r4 ((sgl_end (Or.inl (by omega))).symm.trans hlp)).2.1 (Prod.ext (r4 ((sgl_end (Or.inl (by omega))).symm.trans hlp)).2.2.1 (r4 ((sgl_end (Or.inl (by omega))).symm.trans hlp)).2.2.2)), by rw [ht]; exact hP9, va_K.moved hW.alike hK9, hD9⟩, hS.F ht⟩) hS.2.2 dX5_work_186
          · have b_13 := gn_ge (X := ((k9 : Nat) : Int)) (C := (((fbl (8 * ow + nq)).toNatClampNeg : Nat) : Int)) (nI_toInt (by omega)) (nI_toInt (by omega)) c_12
            refine lv_iload hx hb dX5_work_89 (lv_at hl 1 rfl) ?_
            refine lv_if_ne (tgt := 184) hx hb dX5_work_91 (by decide) (fun c_14 => ?_) (fun c_14 => ?_)
            · have b_15 := gx_ne (X := (Int32.toInt en)) (C := 0) rfl (by decide) c_14
              refine lv_iload hx hb dX5_work_184 (lv_at hl 1 rfl) ?_
              have hP9 := hP.sub (ws' := [(h0, .inr (5, [.ref u0, .int (nI sdx), .int (nI mdx), .int (nI kq)])), (u0, .inl (ku0, 40, .inl fdx)), (p1, .inr (1, [w0, .ref b1, w2, .ref b3, w4, w5, .int (nI cn), w7])), (b1, .inl (kb1, 10, .inl fle)), (b3, .inl (kb3, 100, .inl fli)), (p3, .inr (0, [.ref e0, .ref e1, .ref e2])), (e0, .inl (ke0, 8, .inl fo)), (e1, .inl (ke1, 80, .inl fbl)), (e2, .inl (ke2, 960, .inl fbs))]) [0, 1, 2, 3, 4, 5, 6, 7, 8] rfl
              have hD9 := hD.sub (ws' := [(h0, .inr (5, [.ref u0, .int (nI sdx), .int (nI mdx), .int (nI kq)])), (u0, .inl (ku0, 40, .inl fdx)), (p1, .inr (1, [w0, .ref b1, w2, .ref b3, w4, w5, .int (nI cn), w7])), (b1, .inl (kb1, 10, .inl fle)), (b3, .inl (kb3, 100, .inl fli)), (p3, .inr (0, [.ref e0, .ref e1, .ref e2])), (e0, .inl (ke0, 8, .inl fo)), (e1, .inl (ke1, 80, .inl fbl)), (e2, .inl (ke2, 960, .inl fbs))]) [0, 1, 2, 3, 4, 5, 6, 7, 8] (by decide) rfl
              have hK9 := hK.sub (tys' := [(ku0, .int), (kb1, .int), (kb3, .int), (ke0, .int), (ke1, .int), (ke2, .char)]) [0, 1, 2, 3, 4, 5] rfl
              exact W.iret (v := en) hx hb hr (fun t ht hW => ⟨⟨en, (), rfl, (r4 ((sgl_end (Or.inr c_14)).symm.trans hlp)).1, sdx, mdx, fdx, hsx, hmx, (Prod.ext (r4 ((sgl_end (Or.inr c_14)).symm.trans hlp)).2.1 (Prod.ext (r4 ((sgl_end (Or.inr c_14)).symm.trans hlp)).2.2.1 (r4 ((sgl_end (Or.inr c_14)).symm.trans hlp)).2.2.2)), by rw [ht]; exact hP9, va_K.moved hW.alike hK9, hD9⟩, hS.F ht⟩) hS.2.2 dX5_work_186
            · have b_15 := gn_ne (X := (Int32.toInt en)) (C := 0) rfl (by decide) c_14
              refine lv_aload_n hx hb dX5_work_94 rfl (lv_at hl 7 rfl) ?_
              refine lv_iload hx hb dX5_work_95 (lv_at hl 3 rfl) ?_
              refine lv_iload_n hx hb dX5_work_97 rfl (lv_at hl 8 rfl) ?_
              refine lv_iload hx hb dX5_work_98 (lv_at hl 0 rfl) ?_
              have hPc := hP.sub (ws' := [(p3, .inr (0, [.ref e0, .ref e1, .ref e2])), (e1, .inl (ke1, 80, .inl fbl)), (e2, .inl (ke2, 960, .inl fbs))]) [5, 7, 8] rfl
              have hDc := hD.sub (ws' := [(p3, .inr (0, [.ref e0, .ref e1, .ref e2])), (e1, .inl (ke1, 80, .inl fbl)), (e2, .inl (ke2, 960, .inl fbs))]) [5, 7, 8] (by decide) rfl
              have hKc := hK.sub (tys' := [(ke1, .int), (ke2, .char)]) [4, 5] rfl
              refine va_calli (va_runV (As := [.int (nI ow), .int (nI nq), .int (nI k9)]) (rest := []) ⟨hx, hb, hml, hown, hts⟩ (c_bsignN l dC dI H.size p3 (.ref e0) e1 e2 ke1 fbl ke2 fbs ow nq k9 hbl hbs (by omega) hnq (by omega)) (cwV 3 hts (gV mw_2_176 mw_2_177 mw_2_178 mw_1_5 mw_2_179) rfl rfl rfl (by decide +kernel) ⟨Nat.le_of_ble_eq_true rfl, Nat.le_of_ble_eq_true rfl⟩) ⟨pcW_blind, va_recv hKc hPc (ci := 0) (q0 := 0) rfl rfl, pcW_at hPc hKc hDc hN⟩ rfl rfl hl.1 rfl (lv_room (Nat.le_of_ble_eq_true rfl)) dX5_work_100 ⟨Nat.le_of_ble_eq_true rfl, Nat.le_of_ble_eq_true rfl⟩) hS (fun q h1 h2 => absurd h2 (Nat.not_le.mpr h1)) (fun q h => hA q (Nat.le_trans hS.1 h)) (fun r_16 u t H1 locs ht hvm hw_16 hB hz1 hk1 hS => ?_)
              have hP := keepP hP hk1
              clear hz1 hk1 hB ht hvm hPc hDc hKc
              generalize H1 = H at hP hS ⊢
              obtain rfl : r_16 = (fbs (12 * (8 * ow + nq) + k9)) := hw_16
              refine lv_istore (lv' := [(11, .int (fbs (12 * (8 * ow + nq) + k9))), (10, .int (nI k9)), (9, .int en), (8, .int (nI ((fbl (8 * ow + nq)).toNatClampNeg))), (7, .int (nI ow)), (6, .int (nI q9)), (0, .ref h0), (1, .ref p1), (2, .ref p3), (3, .int (nI nq)), (4, .int (nI fm)), (5, .int 4)]) hx hb dX5_work_103 hl (by decide) rfl (fun ls hl => ?_)
              have hvc : (48 ≤ Int32.toInt (fbs (12 * (8 * ow + nq) + k9)) ∧ Int32.toInt (fbs (12 * (8 * ow + nq) + k9)) ≤ 57) ∨ (97 ≤ Int32.toInt (fbs (12 * (8 * ow + nq) + k9)) ∧ Int32.toInt (fbs (12 * (8 * ow + nq) + k9)) ≤ 104) ∨ Int32.toInt (fbs (12 * (8 * ow + nq) + k9)) = 94 := hcv (8 * ow + nq) (by omega) k9 (by omega)
              refine lv_iload hx hb dX5_work_105 (lv_at hl 0 rfl) ?_
              refine lv_bipush (v := 48) hx hb dX5_work_107 (by decide) ?_
              refine lv_icmp_lt (tgt := 133) hx hb dX5_work_109 (by decide) (fun h => absurd (gx_lt (X := (Int32.toInt (fbs (12 * (8 * ow + nq) + k9)))) (C := 48) rfl (by decide) h) (by omega)) (fun c_17 => ?_)
              have b_18 := gn_lt (X := (Int32.toInt (fbs (12 * (8 * ow + nq) + k9)))) (C := 48) rfl (by decide) c_17
              refine lv_iload hx hb dX5_work_112 (lv_at hl 0 rfl) ?_
              refine lv_bipush (v := 57) hx hb dX5_work_114 (by decide) ?_
              refine lv_icmp_gt (tgt := 133) hx hb dX5_work_116 (by decide) (fun c_19 => ?_) (fun c_19 => ?_)
              · have b_20 := gx_gt (X := (Int32.toInt (fbs (12 * (8 * ow + nq) + k9)))) (C := 57) rfl (by decide) c_19
                refine lv_iload hx hb dX5_work_133 (lv_at hl 0 rfl) ?_
                refine lv_bipush (v := 94) hx hb dX5_work_135 (by decide) ?_
                refine lv_icmp_ne (tgt := 160) hx hb dX5_work_137 (by decide) (fun c_21 => ?_) (fun c_21 => ?_)
                · have b_22 := gx_ne (X := (Int32.toInt (fbs (12 * (8 * ow + nq) + k9)))) (C := 94) rfl (by decide) c_21
                  refine lv_aload_n hx hb dX5_work_160 rfl (lv_at hl 6 rfl) ?_
                  refine lv_aload_n hx hb dX5_work_161 rfl (lv_at hl 7 rfl) ?_
                  refine lv_aload_n hx hb dX5_work_162 rfl (lv_at hl 8 rfl) ?_
                  refine lv_iload hx hb dX5_work_163 (lv_at hl 0 rfl) ?_
                  refine lv_bipush (v := 97) hx hb dX5_work_165 (by decide) ?_
                  refine lv_isub hx hb dX5_work_167 ?_
                  refine lv_topi (fun z_23 ez_23 => ?_)
                  have gz_23 := fx_rng (fbs (12 * (8 * ow + nq) + k9))
                  have fz_23 : Int32.toInt z_23 = (Int32.toInt (fbs (12 * (8 * ow + nq) + k9))) - 97 := by rw [ez_23]; exact gx_sub (X := (Int32.toInt (fbs (12 * (8 * ow + nq) + k9)))) (C := 97) rfl (by decide) (by omega) (by omega)
                  obtain ⟨j_24, tj_24, ej_24⟩ := fx_nat (x := z_23) (by omega)
                  subst ej_24
                  have yj_24 : Int32.toInt (nI j_24) = (j_24 : Int) := nI_toInt tj_24
                  refine lv_iconst (v := 0) hx hb dX5_work_168 (by decide) ?_
                  refine lv_iload hx hb dX5_work_169 (lv_at hl 11 rfl) ?_
                  refine lv_iconst (v := 1) hx hb dX5_work_171 (by decide) ?_
                  refine lv_iadd hx hb dX5_work_172 ?_
                  refine hx_top (y := 5) (by decide) ?_
                  have hPc := hP.sub (ws' := [(h0, .inr (5, [.ref u0, .int (nI sdx), .int (nI mdx), .int (nI kq)])), (u0, .inl (ku0, 40, .inl fdx)), (p1, .inr (1, [w0, .ref b1, w2, .ref b3, w4, w5, .int (nI cn), w7])), (b1, .inl (kb1, 10, .inl fle)), (b3, .inl (kb3, 100, .inl fli)), (p3, .inr (0, [.ref e0, .ref e1, .ref e2])), (e0, .inl (ke0, 8, .inl fo)), (e1, .inl (ke1, 80, .inl fbl)), (e2, .inl (ke2, 960, .inl fbs))]) [0, 1, 2, 3, 4, 5, 6, 7, 8] rfl
                  have hDc := hD.sub (ws' := [(h0, .inr (5, [.ref u0, .int (nI sdx), .int (nI mdx), .int (nI kq)])), (u0, .inl (ku0, 40, .inl fdx)), (p1, .inr (1, [w0, .ref b1, w2, .ref b3, w4, w5, .int (nI cn), w7])), (b1, .inl (kb1, 10, .inl fle)), (b3, .inl (kb3, 100, .inl fli)), (p3, .inr (0, [.ref e0, .ref e1, .ref e2])), (e0, .inl (ke0, 8, .inl fo)), (e1, .inl (ke1, 80, .inl fbl)), (e2, .inl (ke2, 960, .inl fbs))]) [0, 1, 2, 3, 4, 5, 6, 7, 8] (by decide) rfl
                  have hKc := hK.sub (tys' := [(ku0, .int), (kb1, .int), (kb3, .int), (ke0, .int), (ke1, .int), (ke2, .char)]) [0, 1, 2, 3, 4, 5] rfl
                  have hFc := va_free (wc := [(h0, .inr (5, [.ref u0, .int (nI sdx), .int (nI mdx), .int (nI kq)])), (u0, .inl (ku0, 40, .inl fdx)), (p1, .inr (1, [w0, .ref b1, w2, .ref b3, w4, w5, .int (nI cn), w7])), (b1, .inl (kb1, 10, .inl fle)), (b3, .inl (kb3, 100, .inl fli)), (p3, .inr (0, [.ref e0, .ref e1, .ref e2])), (e0, .inl (ke0, 8, .inl fo)), (e1, .inl (ke1, 80, .inl fbl)), (e2, .inl (ke2, 960, .inl fbs))]) hD hS hA [0, 1, 2, 3, 4, 5, 6, 7, 8] rfl
                  refine va_calli (va_runV (As := [.ref p1, .ref p3, .int (nI j_24), .int 0, .int 5]) (rest := []) ⟨hx, hb, hml, hown, hts⟩ (c_work5 l dC dI H.size h0 u0 sdx mdx kq ku0 fdx p1 (w0) b1 (w2) b3 (w4) (w5) cn (w7) kb1 fle kb3 fli p3 e0 e1 e2 ke0 fo ke1 fbl ke2 fbs j_24 0 hsx hc hle hbl hbs hlk hkq (by omega) (by omega) hmx hcv) (cwV 5 hts (gV mw_2_165 mw_2_167 mw_0_4 mw_1_6 mw_2_168) rfl rfl rfl (by decide +kernel) ⟨Nat.le_of_ble_eq_true rfl, Nat.le_of_ble_eq_true rfl⟩) ⟨pcW_blind, va_recv hKc hPc (ci := 5) (q0 := 0) rfl rfl, pcW_at hPc hKc hDc hN⟩ rfl rfl hl.1 rfl (lv_room (Nat.le_of_ble_eq_true rfl)) dX5_work_173 ⟨Nat.le_of_ble_eq_true rfl, Nat.le_of_ble_eq_true rfl⟩) hS (fun q _ h => hFc q h) hFc (fun r_25 u t H1 locs ht hvm hw_25 hB hz1 hk1 hS => ?_)
                  obtain ⟨q_26, q_27, f_28, p_29, p_30, p_31, hP1, hK1, hD1⟩ := hB
                  rw [ht] at hP1
                  have hK1 := va_K.moved hvm.symm hK1
                  obtain ⟨hP, hD⟩ := va_join (wr := []) (w1 := [(h0, .inr (5, [.ref u0, .int (nI q_26), .int (nI q_27), .int (nI kq)])), (u0, .inl (ku0, 40, .inl f_28)), (p1, .inr (1, [w0, .ref b1, w2, .ref b3, w4, w5, .int (nI cn), w7])), (b1, .inl (kb1, 10, .inl fle)), (b3, .inl (kb3, 100, .inl fli)), (p3, .inr (0, [.ref e0, .ref e1, .ref e2])), (e0, .inl (ke0, 8, .inl fo)), (e1, .inl (ke1, 80, .inl fbl)), (e2, .inl (ke2, 960, .inl fbs))]) hP hD [0, 1, 2, 3, 4, 5, 6, 7, 8] [] rfl rfl (by decide) (by decide) hk1 hFc hP1 hD1
                  have hK := (hK.sub (tys' := []) [] rfl).app hK1
                  clear hz1 hk1 hPc hDc hKc hFc
                  generalize H1 = H at hP hS ⊢
                  have hK : va_K (dC, dI) vwCl [(ku0, .int), (kb1, .int), (kb3, .int), (ke0, .int), (ke1, .int), (ke2, .char)] s := hK
                  have hP : va_P (dC, dI) vwCl [(h0, .inr (5, [.ref u0, .int (nI q_26), .int (nI q_27), .int (nI kq)])), (u0, .inl (ku0, 40, .inl f_28)), (p1, .inr (1, [w0, .ref b1, w2, .ref b3, w4, w5, .int (nI cn), w7])), (b1, .inl (kb1, 10, .inl fle)), (b3, .inl (kb3, 100, .inl fli)), (p3, .inr (0, [.ref e0, .ref e1, .ref e2])), (e0, .inl (ke0, 8, .inl fo)), (e1, .inl (ke1, 80, .inl fbl)), (e2, .inl (ke2, 960, .inl fbs))] H := hP
                  have hD : va_D A [(h0, .inr (5, [.ref u0, .int (nI q_26), .int (nI q_27), .int (nI kq)])), (u0, .inl (ku0, 40, .inl f_28)), (p1, .inr (1, [w0, .ref b1, w2, .ref b3, w4, w5, .int (nI cn), w7])), (b1, .inl (kb1, 10, .inl fle)), (b3, .inl (kb3, 100, .inl fli)), (p3, .inr (0, [.ref e0, .ref e1, .ref e2])), (e0, .inl (ke0, 8, .inl fo)), (e1, .inl (ke1, 80, .inl fbl)), (e2, .inl (ke2, 960, .inl fbs))] := hD
                  refine lv_istore (lv' := [(9, .int r_25), (11, .int (fbs (12 * (8 * ow + nq) + k9))), (10, .int (nI k9)), (8, .int (nI ((fbl (8 * ow + nq)).toNatClampNeg))), (7, .int (nI ow)), (6, .int (nI q9)), (0, .ref h0), (1, .ref p1), (2, .ref p3), (3, .int (nI nq)), (4, .int (nI fm)), (5, .int 4)]) hx hb dX5_work_176 hl (by decide) rfl (fun ls hl => ?_)
                  refine lv_iinc (v := (nI (k9 + 1))) (lv' := [(10, .int (nI (k9 + 1))), (9, .int r_25), (11, .int (fbs (12 * (8 * ow + nq) + k9))), (8, .int (nI ((fbl (8 * ow + nq)).toNatClampNeg))), (7, .int (nI ow)), (6, .int (nI q9)), (0, .ref h0), (1, .ref p1), (2, .ref p3), (3, .int (nI nq)), (4, .int (nI fm)), (5, .int 4)]) hx hb dX5_work_178 hl (k := 2) rfl (nI_add k9 1) (by decide) rfl (fun ls hl => ?_)
                  refine lv_goto (tgt := 82) hx hb dX5_work_181 (by decide) ?_
                  exact ih_11 (k9 + 1) r_25 q_26 q_27 f_28 (by omega) p_29 p_30 (lp_let hlp c_14 (by omega) (by show 97 ≤ Int32.toInt (fbs (12 * (8 * ow + nq) + k9)); omega) (by show ((j_24 : Nat) : Int) = Int32.toInt (fbs (12 * (8 * ow + nq) + k9)) - 97; omega) hw_25 p_31) (by omega) _ _ hP hD hS ls (lv_sub hl [0, 1, 3, 4, 5, 6, 7, 8, 9, 10, 11] rfl)
                · have b_22 := gn_ne (X := (Int32.toInt (fbs (12 * (8 * ow + nq) + k9)))) (C := 94) rfl (by decide) c_21
                  refine lv_aload_n hx hb dX5_work_140 rfl (lv_at hl 6 rfl) ?_
                  refine lv_aload_n hx hb dX5_work_141 rfl (lv_at hl 7 rfl) ?_
                  refine lv_aload_n hx hb dX5_work_142 rfl (lv_at hl 8 rfl) ?_
                  refine lv_iload_n hx hb dX5_work_143 rfl (lv_at hl 9 rfl) ?_
                  refine lv_iload hx hb dX5_work_144 (lv_at hl 5 rfl) ?_
                  refine lv_iconst (v := 1) hx hb dX5_work_146 (by decide) ?_
                  refine lv_iadd hx hb dX5_work_147 ?_
                  refine hx_top (y := (nI (q9 + 1))) (nI_add q9 1) ?_
                  refine lv_iload hx hb dX5_work_148 (lv_at hl 11 rfl) ?_
                  refine lv_iconst (v := 1) hx hb dX5_work_150 (by decide) ?_
                  refine lv_iadd hx hb dX5_work_151 ?_
                  refine hx_top (y := 5) (by decide) ?_
                  have hPc := hP.sub (ws' := [(h0, .inr (5, [.ref u0, .int (nI sdx), .int (nI mdx), .int (nI kq)])), (u0, .inl (ku0, 40, .inl fdx)), (p1, .inr (1, [w0, .ref b1, w2, .ref b3, w4, w5, .int (nI cn), w7])), (b1, .inl (kb1, 10, .inl fle)), (b3, .inl (kb3, 100, .inl fli)), (p3, .inr (0, [.ref e0, .ref e1, .ref e2])), (e0, .inl (ke0, 8, .inl fo)), (e1, .inl (ke1, 80, .inl fbl)), (e2, .inl (ke2, 960, .inl fbs))]) [0, 1, 2, 3, 4, 5, 6, 7, 8] rfl
                  have hDc := hD.sub (ws' := [(h0, .inr (5, [.ref u0, .int (nI sdx), .int (nI mdx), .int (nI kq)])), (u0, .inl (ku0, 40, .inl fdx)), (p1, .inr (1, [w0, .ref b1, w2, .ref b3, w4, w5, .int (nI cn), w7])), (b1, .inl (kb1, 10, .inl fle)), (b3, .inl (kb3, 100, .inl fli)), (p3, .inr (0, [.ref e0, .ref e1, .ref e2])), (e0, .inl (ke0, 8, .inl fo)), (e1, .inl (ke1, 80, .inl fbl)), (e2, .inl (ke2, 960, .inl fbs))]) [0, 1, 2, 3, 4, 5, 6, 7, 8] (by decide) rfl
                  have hKc := hK.sub (tys' := [(ku0, .int), (kb1, .int), (kb3, .int), (ke0, .int), (ke1, .int), (ke2, .char)]) [0, 1, 2, 3, 4, 5] rfl
                  have hFc := va_free (wc := [(h0, .inr (5, [.ref u0, .int (nI sdx), .int (nI mdx), .int (nI kq)])), (u0, .inl (ku0, 40, .inl fdx)), (p1, .inr (1, [w0, .ref b1, w2, .ref b3, w4, w5, .int (nI cn), w7])), (b1, .inl (kb1, 10, .inl fle)), (b3, .inl (kb3, 100, .inl fli)), (p3, .inr (0, [.ref e0, .ref e1, .ref e2])), (e0, .inl (ke0, 8, .inl fo)), (e1, .inl (ke1, 80, .inl fbl)), (e2, .inl (ke2, 960, .inl fbs))]) hD hS hA [0, 1, 2, 3, 4, 5, 6, 7, 8] rfl
                  refine va_calli (va_runV (As := [.ref p1, .ref p3, .int (nI nq), .int (nI (q9 + 1)), .int 5]) (rest := []) ⟨hx, hb, hml, hown, hts⟩ (c_work5 l dC dI H.size h0 u0 sdx mdx kq ku0 fdx p1 (w0) b1 (w2) b3 (w4) (w5) cn (w7) kb1 fle kb3 fli p3 e0 e1 e2 ke0 fo ke1 fbl ke2 fbs nq (q9 + 1) hsx hc hle hbl hbs hlk hkq hnq (by omega) hmx hcv) (cwV 5 hts (gV mw_2_165 mw_2_167 mw_0_4 mw_1_6 mw_2_168) rfl rfl rfl (by decide +kernel) ⟨Nat.le_of_ble_eq_true rfl, Nat.le_of_ble_eq_true rfl⟩) ⟨pcW_blind, va_recv hKc hPc (ci := 5) (q0 := 0) rfl rfl, pcW_at hPc hKc hDc hN⟩ rfl rfl hl.1 rfl (lv_room (Nat.le_of_ble_eq_true rfl)) dX5_work_152 ⟨Nat.le_of_ble_eq_true rfl, Nat.le_of_ble_eq_true rfl⟩) hS (fun q _ h => hFc q h) hFc (fun r_32 u t H1 locs ht hvm hw_32 hB hz1 hk1 hS => ?_)
                  obtain ⟨q_33, q_34, f_35, p_36, p_37, p_38, hP1, hK1, hD1⟩ := hB
                  rw [ht] at hP1
                  have hK1 := va_K.moved hvm.symm hK1
                  obtain ⟨hP, hD⟩ := va_join (wr := []) (w1 := [(h0, .inr (5, [.ref u0, .int (nI q_33), .int (nI q_34), .int (nI kq)])), (u0, .inl (ku0, 40, .inl f_35)), (p1, .inr (1, [w0, .ref b1, w2, .ref b3, w4, w5, .int (nI cn), w7])), (b1, .inl (kb1, 10, .inl fle)), (b3, .inl (kb3, 100, .inl fli)), (p3, .inr (0, [.ref e0, .ref e1, .ref e2])), (e0, .inl (ke0, 8, .inl fo)), (e1, .inl (ke1, 80, .inl fbl)), (e2, .inl (ke2, 960, .inl fbs))]) hP hD [0, 1, 2, 3, 4, 5, 6, 7, 8] [] rfl rfl (by decide) (by decide) hk1 hFc hP1 hD1
                  have hK := (hK.sub (tys' := []) [] rfl).app hK1
                  clear hz1 hk1 hPc hDc hKc hFc
                  generalize H1 = H at hP hS ⊢
                  have hK : va_K (dC, dI) vwCl [(ku0, .int), (kb1, .int), (kb3, .int), (ke0, .int), (ke1, .int), (ke2, .char)] s := hK
                  have hP : va_P (dC, dI) vwCl [(h0, .inr (5, [.ref u0, .int (nI q_33), .int (nI q_34), .int (nI kq)])), (u0, .inl (ku0, 40, .inl f_35)), (p1, .inr (1, [w0, .ref b1, w2, .ref b3, w4, w5, .int (nI cn), w7])), (b1, .inl (kb1, 10, .inl fle)), (b3, .inl (kb3, 100, .inl fli)), (p3, .inr (0, [.ref e0, .ref e1, .ref e2])), (e0, .inl (ke0, 8, .inl fo)), (e1, .inl (ke1, 80, .inl fbl)), (e2, .inl (ke2, 960, .inl fbs))] H := hP
                  have hD : va_D A [(h0, .inr (5, [.ref u0, .int (nI q_33), .int (nI q_34), .int (nI kq)])), (u0, .inl (ku0, 40, .inl f_35)), (p1, .inr (1, [w0, .ref b1, w2, .ref b3, w4, w5, .int (nI cn), w7])), (b1, .inl (kb1, 10, .inl fle)), (b3, .inl (kb3, 100, .inl fli)), (p3, .inr (0, [.ref e0, .ref e1, .ref e2])), (e0, .inl (ke0, 8, .inl fo)), (e1, .inl (ke1, 80, .inl fbl)), (e2, .inl (ke2, 960, .inl fbs))] := hD
                  refine lv_istore (lv' := [(9, .int r_32), (11, .int (fbs (12 * (8 * ow + nq) + k9))), (10, .int (nI k9)), (8, .int (nI ((fbl (8 * ow + nq)).toNatClampNeg))), (7, .int (nI ow)), (6, .int (nI q9)), (0, .ref h0), (1, .ref p1), (2, .ref p3), (3, .int (nI nq)), (4, .int (nI fm)), (5, .int 4)]) hx hb dX5_work_155 hl (by decide) rfl (fun ls hl => ?_)
                  refine lv_goto (tgt := 178) hx hb dX5_work_157 (by decide) ?_
                  refine lv_iinc (v := (nI (k9 + 1))) (lv' := [(10, .int (nI (k9 + 1))), (9, .int r_32), (11, .int (fbs (12 * (8 * ow + nq) + k9))), (8, .int (nI ((fbl (8 * ow + nq)).toNatClampNeg))), (7, .int (nI ow)), (6, .int (nI q9)), (0, .ref h0), (1, .ref p1), (2, .ref p3), (3, .int (nI nq)), (4, .int (nI fm)), (5, .int 4)]) hx hb dX5_work_178 hl (k := 2) rfl (nI_add k9 1) (by decide) rfl (fun ls hl => ?_)
                  refine lv_goto (tgt := 82) hx hb dX5_work_181 (by decide) ?_
                  exact ih_11 (k9 + 1) r_32 q_33 q_34 f_35 (by omega) p_36 p_37 (lp_up hlp c_14 (by omega) (by show Int32.toInt (fbs (12 * (8 * ow + nq) + k9)) = 94; omega) hw_32 p_38) (by omega) _ _ hP hD hS ls (lv_sub hl [0, 1, 3, 4, 5, 6, 7, 8, 9, 10, 11] rfl)
              · have b_20 := gn_gt (X := (Int32.toInt (fbs (12 * (8 * ow + nq) + k9)))) (C := 57) rfl (by decide) c_19
                refine lv_aload_n hx hb dX5_work_119 rfl (lv_at hl 6 rfl) ?_
                refine lv_iload hx hb dX5_work_120 (lv_at hl 0 rfl) ?_
                refine lv_bipush (v := 48) hx hb dX5_work_122 (by decide) ?_
                refine lv_isub hx hb dX5_work_124 ?_
                refine lv_topi (fun z_39 ez_39 => ?_)
                have gz_39 := fx_rng (fbs (12 * (8 * ow + nq) + k9))
                have fz_39 : Int32.toInt z_39 = (Int32.toInt (fbs (12 * (8 * ow + nq) + k9))) - 48 := by rw [ez_39]; exact gx_sub (X := (Int32.toInt (fbs (12 * (8 * ow + nq) + k9)))) (C := 48) rfl (by decide) (by omega) (by omega)
                have hPc := hP.sub (ws' := [(h0, .inr (5, [.ref u0, .int (nI sdx), .int (nI mdx), .int (nI kq)])), (u0, .inl (ku0, 40, .inl fdx))]) [0, 1] rfl
                have hDc := hD.sub (ws' := [(h0, .inr (5, [.ref u0, .int (nI sdx), .int (nI mdx), .int (nI kq)])), (u0, .inl (ku0, 40, .inl fdx))]) [0, 1] (by decide) rfl
                have hKc := hK.sub (tys' := [(ku0, .int)]) [0] rfl
                have hFc := va_free (wc := [(h0, .inr (5, [.ref u0, .int (nI sdx), .int (nI mdx), .int (nI kq)])), (u0, .inl (ku0, 40, .inl fdx))]) hD hS hA [0, 1] rfl
                refine va_calli (va_runV (As := [.int z_39]) (rest := []) ⟨hx, hb, hml, hown, hts⟩ (c_sayD l dC dI H.size h0 u0 sdx mdx kq ku0 fdx z_39 hsx) (cwV 1 hts (gV mw_2_181 mw_2_183 mw_0_5 mw_1_6 mw_2_184) rfl rfl rfl (by decide +kernel) ⟨Nat.le_of_ble_eq_true rfl, Nat.le_of_ble_eq_true rfl⟩) ⟨pcW_blind, va_recv hKc hPc (ci := 5) (q0 := 0) rfl rfl, pcW_at hPc hKc hDc hN⟩ rfl rfl hl.1 rfl (lv_room (Nat.le_of_ble_eq_true rfl)) dX5_work_125 ⟨Nat.le_of_ble_eq_true rfl, Nat.le_of_ble_eq_true rfl⟩) hS (fun q _ h => hFc q h) hFc (fun r_40 u t H1 locs ht hvm hw_40 hB hz1 hk1 hS => ?_)
                obtain ⟨q_41, f_42, p_43, p_44, p_45, hP1, hK1, hD1⟩ := hB
                rw [ht] at hP1
                have hK1 := va_K.moved hvm.symm hK1
                obtain ⟨hP, hD⟩ := va_join (wr := [(p1, .inr (1, [w0, .ref b1, w2, .ref b3, w4, w5, .int (nI cn), w7])), (b1, .inl (kb1, 10, .inl fle)), (b3, .inl (kb3, 100, .inl fli)), (p3, .inr (0, [.ref e0, .ref e1, .ref e2])), (e0, .inl (ke0, 8, .inl fo)), (e1, .inl (ke1, 80, .inl fbl)), (e2, .inl (ke2, 960, .inl fbs))]) (w1 := [(h0, .inr (5, [.ref u0, .int (nI q_41), .int (nI mdx), .int (nI kq)])), (u0, .inl (ku0, 40, .inl f_42))]) hP hD [0, 1] [2, 3, 4, 5, 6, 7, 8] rfl rfl (by decide) (by decide) hk1 hFc hP1 hD1
                have hK := (hK.sub (tys' := [(kb1, .int), (kb3, .int), (ke0, .int), (ke1, .int), (ke2, .char)]) [1, 2, 3, 4, 5] rfl).app hK1
                clear hz1 hk1 hPc hDc hKc hFc
                generalize H1 = H at hP hS ⊢
                have hK : va_K (dC, dI) vwCl [(kb1, .int), (kb3, .int), (ke0, .int), (ke1, .int), (ke2, .char), (ku0, .int)] s := hK
                have hP : va_P (dC, dI) vwCl [(p1, .inr (1, [w0, .ref b1, w2, .ref b3, w4, w5, .int (nI cn), w7])), (b1, .inl (kb1, 10, .inl fle)), (b3, .inl (kb3, 100, .inl fli)), (p3, .inr (0, [.ref e0, .ref e1, .ref e2])), (e0, .inl (ke0, 8, .inl fo)), (e1, .inl (ke1, 80, .inl fbl)), (e2, .inl (ke2, 960, .inl fbs)), (h0, .inr (5, [.ref u0, .int (nI q_41), .int (nI mdx), .int (nI kq)])), (u0, .inl (ku0, 40, .inl f_42))] H := hP
                have hD : va_D A [(p1, .inr (1, [w0, .ref b1, w2, .ref b3, w4, w5, .int (nI cn), w7])), (b1, .inl (kb1, 10, .inl fle)), (b3, .inl (kb3, 100, .inl fli)), (p3, .inr (0, [.ref e0, .ref e1, .ref e2])), (e0, .inl (ke0, 8, .inl fo)), (e1, .inl (ke1, 80, .inl fbl)), (e2, .inl (ke2, 960, .inl fbs)), (h0, .inr (5, [.ref u0, .int (nI q_41), .int (nI mdx), .int (nI kq)])), (u0, .inl (ku0, 40, .inl f_42))] := hD
                refine lv_istore (lv' := [(9, .int r_40), (11, .int (fbs (12 * (8 * ow + nq) + k9))), (10, .int (nI k9)), (8, .int (nI ((fbl (8 * ow + nq)).toNatClampNeg))), (7, .int (nI ow)), (6, .int (nI q9)), (0, .ref h0), (1, .ref p1), (2, .ref p3), (3, .int (nI nq)), (4, .int (nI fm)), (5, .int 4)]) hx hb dX5_work_128 hl (by decide) rfl (fun ls hl => ?_)
                refine lv_goto (tgt := 178) hx hb dX5_work_130 (by decide) ?_
                refine lv_iinc (v := (nI (k9 + 1))) (lv' := [(10, .int (nI (k9 + 1))), (9, .int r_40), (11, .int (fbs (12 * (8 * ow + nq) + k9))), (8, .int (nI ((fbl (8 * ow + nq)).toNatClampNeg))), (7, .int (nI ow)), (6, .int (nI q9)), (0, .ref h0), (1, .ref p1), (2, .ref p3), (3, .int (nI nq)), (4, .int (nI fm)), (5, .int 4)]) hx hb dX5_work_178 hl (k := 2) rfl (nI_add k9 1) (by decide) rfl (fun ls hl => ?_)
                refine lv_goto (tgt := 82) hx hb dX5_work_181 (by decide) ?_
                exact ih_11 (k9 + 1) r_40 q_41 mdx f_42 (by omega) p_43 hmx (by rw [hw_40]; exact lp_dig hlp c_14 (by omega) (by show 48 ≤ Int32.toInt (fbs (12 * (8 * ow + nq) + k9)) ∧ Int32.toInt (fbs (12 * (8 * ow + nq) + k9)) ≤ 57; omega) (by rw [ez_39]) p_44 p_45) (by omega) _ _ (hP.sub (ws' := [(h0, .inr (5, [.ref u0, .int (nI q_41), .int (nI mdx), .int (nI kq)])), (u0, .inl (ku0, 40, .inl f_42)), (p1, .inr (1, [w0, .ref b1, w2, .ref b3, w4, w5, .int (nI cn), w7])), (b1, .inl (kb1, 10, .inl fle)), (b3, .inl (kb3, 100, .inl fli)), (p3, .inr (0, [.ref e0, .ref e1, .ref e2])), (e0, .inl (ke0, 8, .inl fo)), (e1, .inl (ke1, 80, .inl fbl)), (e2, .inl (ke2, 960, .inl fbs))]) [7, 8, 0, 1, 2, 3, 4, 5, 6] rfl) (hD.sub (ws' := [(h0, .inr (5, [.ref u0, .int (nI q_41), .int (nI mdx), .int (nI kq)])), (u0, .inl (ku0, 40, .inl f_42)), (p1, .inr (1, [w0, .ref b1, w2, .ref b3, w4, w5, .int (nI cn), w7])), (b1, .inl (kb1, 10, .inl fle)), (b3, .inl (kb3, 100, .inl fli)), (p3, .inr (0, [.ref e0, .ref e1, .ref e2])), (e0, .inl (ke0, 8, .inl fo)), (e1, .inl (ke1, 80, .inl fbl)), (e2, .inl (ke2, 960, .inl fbs))]) [7, 8, 0, 1, 2, 3, 4, 5, 6] (by decide) rfl) hS ls (lv_sub hl [0, 1, 3, 4, 5, 6, 7, 8, 9, 10, 11] rfl)
      exact key_10 ((12 - 0) + 1) 0 0 sd (md + 1) fd (by omega) hsd (by omega) (wd_inC hw_4 (by omega) (by omega) eow (by omega)).symm (Nat.lt_succ_self _) _ _ hP hD hS ls (lv_sub hl [0, 1, 2, 3, 4, 5, 6, 7, 8, 9, 10] rfl)
  · have b_2 := gn_lt (X := ((md : Nat) : Int)) (C := 200) (nI_toInt (by omega)) (by decide) c_1
    refine lv_iconst (v := 2) hx hb dX5_work_17 (by decide) ?_
    have hP9 := hP.sub (ws' := [(h0, .inr (5, [.ref u0, .int (nI sd), .int (nI md), .int (nI kq)])), (u0, .inl (ku0, 40, .inl fd)), (p1, .inr (1, [w0, .ref b1, w2, .ref b3, w4, w5, .int (nI cn), w7])), (b1, .inl (kb1, 10, .inl fle)), (b3, .inl (kb3, 100, .inl fli)), (p3, .inr (0, [.ref e0, .ref e1, .ref e2])), (e0, .inl (ke0, 8, .inl fo)), (e1, .inl (ke1, 80, .inl fbl)), (e2, .inl (ke2, 960, .inl fbs))]) [0, 1, 2, 3, 4, 5, 6, 7, 8] rfl
    have hD9 := hD.sub (ws' := [(h0, .inr (5, [.ref u0, .int (nI sd), .int (nI md), .int (nI kq)])), (u0, .inl (ku0, 40, .inl fd)), (p1, .inr (1, [w0, .ref b1, w2, .ref b3, w4, w5, .int (nI cn), w7])), (b1, .inl (kb1, 10, .inl fle)), (b3, .inl (kb3, 100, .inl fli)), (p3, .inr (0, [.ref e0, .ref e1, .ref e2])), (e0, .inl (ke0, 8, .inl fo)), (e1, .inl (ke1, 80, .inl fbl)), (e2, .inl (ke2, 960, .inl fbs))]) [0, 1, 2, 3, 4, 5, 6, 7, 8] (by decide) rfl
    have hK9 := hK.sub (tys' := [(ku0, .int), (kb1, .int), (kb3, .int), (ke0, .int), (ke1, .int), (ke2, .char)]) [0, 1, 2, 3, 4, 5] rfl
    exact W.iret (v := 2) hx hb hr (fun t ht hW => ⟨⟨2, (), rfl, (r4 (wd_fuC (d := 5) (Or.inr (by omega)))).1, sd, md, fd, hsd, hmd, (Prod.ext (r4 (wd_fuC (d := 5) (Or.inr (by omega)))).2.1 (Prod.ext (r4 (wd_fuC (d := 5) (Or.inr (by omega)))).2.2.1 (r4 (wd_fuC (d := 5) (Or.inr (by omega)))).2.2.2)), by rw [ht]; exact hP9, va_K.moved hW.alike hK9, hD9⟩, hS.F ht⟩) hS.2.2 dX5_work_18
set_option maxHeartbeats 4000000 in
set_option maxRecDepth 100000 in
theorem c_work3 (l : Launch) (dC : Nat → ClassId) (dI : Nat → Nat → Nat) (sz : Nat) (h0 : Nat) (u0 : Nat) (sd : Nat) (md : Nat) (kq : Nat) (ku0 : ClassId) (fd : Nat → Int32) (p1 : Nat) (w0 : Value) (b1 : Nat) (w2 : Value) (b3 : Nat) (w4 : Value) (w5 : Value) (cn : Nat) (w7 : Value) (kb1 : ClassId) (fle : Nat → Int32) (kb3 : ClassId) (fli : Nat → Int32) (p3 : Nat) (e0 : Nat) (e1 : Nat) (e2 : Nat) (ke0 : ClassId) (fo : Nat → Int32) (ke1 : ClassId) (fbl : Nat → Int32) (ke2 : ClassId) (fbs : Nat → Int32) (nq : Nat) (fm : Nat) (hsd : sd ≤ 40) (hc : cn ≤ 10) (hle : BdOk 10 10 fle) (hbl : BdOk 80 12 fbl) (hbs : ChOk fbs) (hlk : LnOk fle fli cn) (hkq : kq < cn) (hnq : nq < 8) (hfm : fm ≤ 10) (hmd : md ≤ 200) (hcv : CvOk fbl fbs) : Met l yX5_work (wq yX5_work cX5_work 12 (some .int)) ({ frames := 9, cells := 0, slots := 0, locals := 241 }) (va_Pc [.ref h0, .ref p1, .ref p3, .int (nI nq), .int (nI fm), .int 3] (pcW dC dI [(ku0, .int), (kb1, .int), (kb3, .int), (ke0, .int), (ke1, .int), (ke2, .char)] [(h0, .inr (5, [.ref u0, .int (nI sd), .int (nI md), .int (nI kq)])), (u0, .inl (ku0, 40, .inl fd)), (p1, .inr (1, [w0, .ref b1, w2, .ref b3, w4, w5, .int (nI cn), w7])), (b1, .inl (kb1, 10, .inl fle)), (b3, .inl (kb3, 100, .inl fli)), (p3, .inr (0, [.ref e0, .ref e1, .ref e2])), (e0, .inl (ke0, 8, .inl fo)), (e1, .inl (ke1, 80, .inl fbl)), (e2, .inl (ke2, 960, .inl fbs))] sz)) (va_Qi (fun (r : Int32) (_ : Unit) => r = (wdC fle fli fo fbl fbs cn kq 6 nq fm (md, sd, fd)).1) (fun _ t => ∃ (sd2 : Nat) (md2 : Nat) (fd2 : Nat → Int32), (sd2 ≤ 40) ∧ (md2 ≤ 200) ∧ ((md2, sd2, fd2) = (wdC fle fli fo fbl fbs cn kq 6 nq fm (md, sd, fd)).2) ∧ va_P (dC, dI) vwCl [(h0, .inr (5, [.ref u0, .int (nI sd2), .int (nI md2), .int (nI kq)])), (u0, .inl (ku0, 40, .inl fd2)), (p1, .inr (1, [w0, .ref b1, w2, .ref b3, w4, w5, .int (nI cn), w7])), (b1, .inl (kb1, 10, .inl fle)), (b3, .inl (kb3, 100, .inl fli)), (p3, .inr (0, [.ref e0, .ref e1, .ref e2])), (e0, .inl (ke0, 8, .inl fo)), (e1, .inl (ke1, 80, .inl fbl)), (e2, .inl (ke2, 960, .inl fbs))] t.heap ∧ va_K (dC, dI) vwCl [(ku0, .int), (kb1, .int), (kb3, .int), (ke0, .int), (ke1, .int), (ke2, .char)] t ∧ va_D (va_A [(h0, .inr (5, [.ref u0, .int (nI sd), .int (nI md), .int (nI kq)])), (u0, .inl (ku0, 40, .inl fd)), (p1, .inr (1, [w0, .ref b1, w2, .ref b3, w4, w5, .int (nI cn), w7])), (b1, .inl (kb1, 10, .inl fle)), (b3, .inl (kb3, 100, .inl fli)), (p3, .inr (0, [.ref e0, .ref e1, .ref e2])), (e0, .inl (ke0, 8, .inl fo)), (e1, .inl (ke1, 80, .inl fbl)), (e2, .inl (ke2, 960, .inl fbs))] sz) [(h0, .inr (5, [.ref u0, .int (nI sd2), .int (nI md2), .int (nI kq)])), (u0, .inl (ku0, 40, .inl fd2)), (p1, .inr (1, [w0, .ref b1, w2, .ref b3, w4, w5, .int (nI cn), w7])), (b1, .inl (kb1, 10, .inl fle)), (b3, .inl (kb3, 100, .inl fli)), (p3, .inr (0, [.ref e0, .ref e1, .ref e2])), (e0, .inl (ke0, 8, .inl fo)), (e1, .inl (ke1, 80, .inl fbl)), (e2, .inl (ke2, 960, .inl fbs))]) (va_A [(h0, .inr (5, [.ref u0, .int (nI sd), .int (nI md), .int (nI kq)])), (u0, .inl (ku0, 40, .inl fd)), (p1, .inr (1, [w0, .ref b1, w2, .ref b3, w4, w5, .int (nI cn), w7])), (b1, .inl (kb1, 10, .inl fle)), (b3, .inl (kb3, 100, .inl fli)), (p3, .inr (0, [.ref e0, .ref e1, .ref e2])), (e0, .inl (ke0, 8, .inl fo)), (e1, .inl (ke1, 80, .inl fbl)), (e2, .inl (ke2, 960, .inl fbs))] sz)) 0 0 (va_A [(h0, .inr (5, [.ref u0, .int (nI sd), .int (nI md), .int (nI kq)])), (u0, .inl (ku0, 40, .inl fd)), (p1, .inr (1, [w0, .ref b1, w2, .ref b3, w4, w5, .int (nI cn), w7])), (b1, .inl (kb1, 10, .inl fle)), (b3, .inl (kb3, 100, .inl fli)), (p3, .inr (0, [.ref e0, .ref e1, .ref e2])), (e0, .inl (ke0, 8, .inl fo)), (e1, .inl (ke1, 80, .inl fbl)), (e2, .inl (ke2, 960, .inl fbs))] sz) := by
  refine Met.ofW (cc := cX5_work) (maxL := 12) (ret := (some .int)) (by decide) rfl ?_
  intro p e s m args below meth c s₁ B hml hv
  obtain ⟨rfl, hsz, hN, hP, hK, hD0⟩ := hv
  have hx := B.exec
  have hb := B.bytes
  have hr := B.returns
  have hts0 := atoms_spec (ws := (wq yX5_work cX5_work 12 (some .int))) B.pre
  have hts : ∀ w ∈ BG, w.before _ s = true := fun w h => hts0 w (List.mem_cons_of_mem _ h)
  have hown : s.vm.findClass RX5 = some m.cls := findClass_of_methodNamed B.named
  have hlocks := B.notSynchronized
  subst hsz
  have hD := hD0.self (sz := s.heap.size)
  generalize hAe : va_A [(h0, .inr (5, [.ref u0, .int (nI sd), .int (nI md), .int (nI kq)])), (u0, .inl (ku0, 40, .inl fd)), (p1, .inr (1, [w0, .ref b1, w2, .ref b3, w4, w5, .int (nI cn), w7])), (b1, .inl (kb1, 10, .inl fle)), (b3, .inl (kb3, 100, .inl fli)), (p3, .inr (0, [.ref e0, .ref e1, .ref e2])), (e0, .inl (ke0, 8, .inl fo)), (e1, .inl (ke1, 80, .inl fbl)), (e2, .inl (ke2, 960, .inl fbs))] s.heap.size = A at hD ⊢
  have hA : ∀ q : Nat, s.heap.size ≤ q → A q := fun q h => by rw [← hAe]; exact Or.inr h
  have hS : va_S A s.heap s.heap [] := va_S.rf
  clear hAe hD0
  have hP : va_P (dC, dI) vwCl [(h0, .inr (5, [.ref u0, .int (nI sd), .int (nI md), .int (nI kq)])), (u0, .inl (ku0, 40, .inl fd)), (p1, .inr (1, [w0, .ref b1, w2, .ref b3, w4, w5, .int (nI cn), w7])), (b1, .inl (kb1, 10, .inl fle)), (b3, .inl (kb3, 100, .inl fli)), (p3, .inr (0, [.ref e0, .ref e1, .ref e2])), (e0, .inl (ke0, 8, .inl fo)), (e1, .inl (ke1, 80, .inl fbl)), (e2, .inl (ke2, 960, .inl fbs))] s.heap := hP
  have hl := lv_entry ([.ref h0, .ref p1, .ref p3, .int (nI nq), .int (nI fm), .int 3]) (n := 12) (Nat.le_of_ble_eq_true rfl)
  rw [lg_entry_eq]
  generalize (lg_sl ([.ref h0, .ref p1, .ref p3, .int (nI nq), .int (nI fm), .int 3]) ++ List.replicate (12 - (lg_sl ([.ref h0, .ref p1, .ref p3, .int (nI nq), .int (nI fm), .int 3])).length) Slot.unset).toArray = ls at hl ⊢
  have hl : lv_has ls 12 [(0, .ref h0), (1, .ref p1), (2, .ref p3), (3, .int (nI nq)), (4, .int (nI fm)), (5, .int 3)] := hl
  have hle9 := lenN_le (n := nI kq) hc hle
  refine lv_iload hx hb dX5_work_0 (lv_at hl 5 rfl) ?_
  refine lv_bipush (v := 9) hx hb dX5_work_2 (by decide) ?_
  refine lv_icmp_ge (tgt := 17) hx hb dX5_work_4 (by decide) (fun h => absurd h (by decide)) (fun _ => ?_)
  refine lv_aload_n hx hb dX5_work_7 rfl (lv_at hl 0 rfl) ?_
  refine va_get (D := (dC, dI)) (ci := 5) (v := .int (nI md)) (C := RX5) (T := TX5) (N := 4) hx hb hts inB_5 hown hK hP 0 rfl rfl 2 (by decide) (hts _ mw_1_110) (fun _ h9 => h9) rfl dX5_work_8 ?_
  refine lv_sipush (v := 200) hx hb dX5_work_11 (by decide) ?_
  refine lv_icmp_lt (tgt := 19) hx hb dX5_work_14 (by decide) (fun c_1 => ?_) (fun c_1 => ?_)
  · have b_2 := gx_lt (X := ((md : Nat) : Int)) (C := 200) (nI_toInt (by omega)) (by decide) c_1
    refine lv_aload_n hx hb dX5_work_19 rfl (lv_at hl 0 rfl) ?_
    refine lv_dup hx hb dX5_work_20 rfl ?_
    refine va_get (D := (dC, dI)) (ci := 5) (v := .int (nI md)) (C := RX5) (T := TX5) (N := 4) hx hb hts inB_5 hown hK hP 0 rfl rfl 2 (by decide) (hts _ mw_1_110) (fun _ h9 => h9) rfl dX5_work_21 ?_
    refine lv_iconst (v := 1) hx hb dX5_work_24 (by decide) ?_
    refine lv_iadd hx hb dX5_work_25 ?_
    refine hx_top (y := (nI (md + 1))) (nI_add md 1) ?_
    refine va_put (D := (dC, dI)) (ci := 5) (v := .int (nI (md + 1))) (ty := .int) (C := RX5) (T := TX5) (N := 4) hx hb hts inB_5 tyX5 tyX5_ok nmX5 hown hK hP hD hS 0 rfl rfl 2 (by decide) (hts _ mw_1_110) (fun _ h9 => h9) rfl (by decide +kernel) rfl rfl (Nat.le_of_ble_eq_true rfl) dX5_work_26 (fun H locs hP hD hS => ?_)
    have hP : va_P (dC, dI) vwCl [(h0, .inr (5, [.ref u0, .int (nI sd), .int (nI (md + 1)), .int (nI kq)])), (u0, .inl (ku0, 40, .inl fd)), (p1, .inr (1, [w0, .ref b1, w2, .ref b3, w4, w5, .int (nI cn), w7])), (b1, .inl (kb1, 10, .inl fle)), (b3, .inl (kb3, 100, .inl fli)), (p3, .inr (0, [.ref e0, .ref e1, .ref e2])), (e0, .inl (ke0, 8, .inl fo)), (e1, .inl (ke1, 80, .inl fbl)), (e2, .inl (ke2, 960, .inl fbs))] H := hP
    have hD : va_D A [(h0, .inr (5, [.ref u0, .int (nI sd), .int (nI (md + 1)), .int (nI kq)])), (u0, .inl (ku0, 40, .inl fd)), (p1, .inr (1, [w0, .ref b1, w2, .ref b3, w4, w5, .int (nI cn), w7])), (b1, .inl (kb1, 10, .inl fle)), (b3, .inl (kb3, 100, .inl fli)), (p3, .inr (0, [.ref e0, .ref e1, .ref e2])), (e0, .inl (ke0, 8, .inl fo)), (e1, .inl (ke1, 80, .inl fbl)), (e2, .inl (ke2, 960, .inl fbs))] := hD
    refine lv_aload_n hx hb dX5_work_29 rfl (lv_at hl 1 rfl) ?_
    refine lv_aload_n hx hb dX5_work_30 rfl (lv_at hl 0 rfl) ?_
    refine va_get (D := (dC, dI)) (ci := 5) (v := .int (nI kq)) (C := RX5) (T := TX5) (N := 4) hx hb hts inB_5 hown hK hP 0 rfl rfl 3 (by decide) (hts _ mw_1_111) (fun _ h9 => h9) rfl dX5_work_31 ?_
    refine lv_aload_n hx hb dX5_work_34 rfl (lv_at hl 2 rfl) ?_
    refine lv_iload_n hx hb dX5_work_35 rfl (lv_at hl 3 rfl) ?_
    have hPc := hP.sub (ws' := [(p3, .inr (0, [.ref e0, .ref e1, .ref e2])), (e0, .inl (ke0, 8, .inl fo))]) [5, 6] rfl
    have hDc := hD.sub (ws' := [(p3, .inr (0, [.ref e0, .ref e1, .ref e2])), (e0, .inl (ke0, 8, .inl fo))]) [5, 6] (by decide) rfl
    have hKc := hK.sub (tys' := [(ke0, .int)]) [3] rfl
    refine va_calli (va_runV (As := [.int (nI nq)]) (rest := [.int (nI kq), .ref p1]) ⟨hx, hb, hml, hown, hts⟩ (c_own l dC dI H.size p3 e0 (.ref e1) (.ref e2) ke0 fo nq hnq) (cwV 1 hts (gV mw_2_169 mw_2_105 mw_2_106 mw_1_5 mw_2_107) rfl rfl rfl (by decide +kernel) ⟨Nat.le_of_ble_eq_true rfl, Nat.le_of_ble_eq_true rfl⟩) ⟨pcW_blind, va_recv hKc hPc (ci := 0) (q0 := 0) rfl rfl, pcW_at hPc hKc hDc hN⟩ rfl rfl hl.1 rfl (lv_room (Nat.le_of_ble_eq_true rfl)) dX5_work_36 ⟨Nat.le_of_ble_eq_true rfl, Nat.le_of_ble_eq_true rfl⟩) hS (fun q h1 h2 => absurd h2 (Nat.not_le.mpr h1)) (fun q h => hA q (Nat.le_trans hS.1 h)) (fun r_3 u t H1 locs ht hvm hw_3 hB hz1 hk1 hS => ?_)
    have hP := keepP hP hk1
    clear hz1 hk1 hB ht hvm hPc hDc hKc
    generalize H1 = H at hP hS ⊢
    obtain rfl : r_3 = (fo nq) := hw_3
    refine lv_iload hx hb dX5_work_39 (lv_at hl 4 rfl) ?_
    have hPc := hP.sub (ws' := [(p1, .inr (1, [w0, .ref b1, w2, .ref b3, w4, w5, .int (nI cn), w7])), (b1, .inl (kb1, 10, .inl fle)), (b3, .inl (kb3, 100, .inl fli))]) [2, 3, 4] rfl
    have hDc := hD.sub (ws' := [(p1, .inr (1, [w0, .ref b1, w2, .ref b3, w4, w5, .int (nI cn), w7])), (b1, .inl (kb1, 10, .inl fle)), (b3, .inl (kb3, 100, .inl fli))]) [2, 3, 4] (by decide) rfl
    have hKc := hK.sub (tys' := [(kb1, .int), (kb3, .int)]) [1, 2] rfl
    refine va_calli (va_runV (As := [.int (nI kq), .int (fo nq), .int (nI fm)]) (rest := []) ⟨hx, hb, hml, hown, hts⟩ (c_whereFirst l dC dI H.size p1 (w0) b1 (w2) b3 (w4) (w5) cn (w7) kb1 fle kb3 fli kq (fo nq) fm hc hle hlk hkq (by omega)) (cwV 3 hts (gV mw_2_170 mw_2_146 mw_2_147 mw_1_2 mw_2_148) rfl rfl rfl (by decide +kernel) ⟨Nat.le_of_ble_eq_true rfl, Nat.le_of_ble_eq_true rfl⟩) ⟨pcW_blind, va_recv hKc hPc (ci := 1) (q0 := 0) rfl rfl, pcW_at hPc hKc hDc hN⟩ rfl rfl hl.1 rfl (lv_room (Nat.le_of_ble_eq_true rfl)) dX5_work_41 ⟨Nat.le_of_ble_eq_true rfl, Nat.le_of_ble_eq_true rfl⟩) hS (fun q h1 h2 => absurd h2 (Nat.not_le.mpr h1)) (fun q h => hA q (Nat.le_trans hS.1 h)) (fun r_4 u t H1 locs ht hvm hw_4 hB hz1 hk1 hS => ?_)
    have hP := keepP hP hk1
    clear hz1 hk1 hB ht hvm hPc hDc hKc
    generalize H1 = H at hP hS ⊢
    refine lv_istore (lv' := [(6, .int r_4), (0, .ref h0), (1, .ref p1), (2, .ref p3), (3, .int (nI nq)), (4, .int (nI fm)), (5, .int 3)]) hx hb dX5_work_44 hl (by decide) rfl (fun ls hl => ?_)
    rcases wf_cases hw_4 with eq9 | ⟨q9, hq9, eq9⟩
    · subst eq9
      refine lv_iload hx hb dX5_work_46 (lv_at hl 0 rfl) ?_
      refine lv_bipush (v := (-6)) hx hb dX5_work_48 (by decide) ?_
      refine lv_icmp_ne (tgt := 55) hx hb dX5_work_50 (by decide) (fun h => absurd h (by decide)) (fun _ => ?_)
      refine lv_iconst (v := 1) hx hb dX5_work_53 (by decide) ?_
      have hP9 := hP.sub (ws' := [(h0, .inr (5, [.ref u0, .int (nI sd), .int (nI (md + 1)), .int (nI kq)])), (u0, .inl (ku0, 40, .inl fd)), (p1, .inr (1, [w0, .ref b1, w2, .ref b3, w4, w5, .int (nI cn), w7])), (b1, .inl (kb1, 10, .inl fle)), (b3, .inl (kb3, 100, .inl fli)), (p3, .inr (0, [.ref e0, .ref e1, .ref e2])), (e0, .inl (ke0, 8, .inl fo)), (e1, .inl (ke1, 80, .inl fbl)), (e2, .inl (ke2, 960, .inl fbs))]) [0, 1, 2, 3, 4, 5, 6, 7, 8] rfl
      have hD9 := hD.sub (ws' := [(h0, .inr (5, [.ref u0, .int (nI sd), .int (nI (md + 1)), .int (nI kq)])), (u0, .inl (ku0, 40, .inl fd)), (p1, .inr (1, [w0, .ref b1, w2, .ref b3, w4, w5, .int (nI cn), w7])), (b1, .inl (kb1, 10, .inl fle)), (b3, .inl (kb3, 100, .inl fli)), (p3, .inr (0, [.ref e0, .ref e1, .ref e2])), (e0, .inl (ke0, 8, .inl fo)), (e1, .inl (ke1, 80, .inl fbl)), (e2, .inl (ke2, 960, .inl fbs))]) [0, 1, 2, 3, 4, 5, 6, 7, 8] (by decide) rfl
      have hK9 := hK.sub (tys' := [(ku0, .int), (kb1, .int), (kb3, .int), (ke0, .int), (ke1, .int), (ke2, .char)]) [0, 1, 2, 3, 4, 5] rfl
      exact W.iret (v := 1) hx hb hr (fun t ht hW => ⟨⟨1, (), rfl, (r4 (wd_noC (d := 5) hw_4 (by omega))).1, sd, (md + 1), fd, hsd, (by omega), (Prod.ext (r4 (wd_noC (d := 5) hw_4 (by omega))).2.1 (Prod.ext (r4 (wd_noC (d := 5) hw_4 (by omega))).2.2.1 (r4 (wd_noC (d := 5) hw_4 (by omega))).2.2.2)), by rw [ht]; exact hP9, va_K.moved hW.alike hK9, hD9⟩, hS.F ht⟩) hS.2.2 dX5_work_54
    · subst eq9
      refine lv_iload hx hb dX5_work_46 (lv_at hl 0 rfl) ?_
      refine lv_bipush (v := (-6)) hx hb dX5_work_48 (by decide) ?_
      refine lv_icmp_ne (tgt := 55) hx hb dX5_work_50 (by decide) (fun c_5 => ?_) (fun h => absurd (gn_ne (X := ((q9 : Nat) : Int)) (C := (-6)) (nI_toInt (by omega)) (by decide) h) (by omega))
      have b_6 := gx_ne (X := ((q9 : Nat) : Int)) (C := (-6)) (nI_toInt (by omega)) (by decide) c_5
      refine lv_aload_n hx hb dX5_work_55 rfl (lv_at hl 2 rfl) ?_
      refine lv_aload_n hx hb dX5_work_56 rfl (lv_at hl 1 rfl) ?_
      refine va_get (D := (dC, dI)) (ci := 5) (v := .int (nI kq)) (C := RX5) (T := TX5) (N := 4) hx hb hts inB_5 hown hK hP 0 rfl rfl 3 (by decide) (hts _ mw_1_111) (fun _ h9 => h9) rfl dX5_work_57 ?_
      refine lv_iload hx hb dX5_work_60 (lv_at hl 0 rfl) ?_
      have hPc := hP.sub (ws' := [(p1, .inr (1, [w0, .ref b1, w2, .ref b3, w4, w5, .int (nI cn), w7])), (b1, .inl (kb1, 10, .inl fle)), (b3, .inl (kb3, 100, .inl fli))]) [2, 3, 4] rfl
      have hDc := hD.sub (ws' := [(p1, .inr (1, [w0, .ref b1, w2, .ref b3, w4, w5, .int (nI cn), w7])), (b1, .inl (kb1, 10, .inl fle)), (b3, .inl (kb3, 100, .inl fli))]) [2, 3, 4] (by decide) rfl
      have hKc := hK.sub (tys' := [(kb1, .int), (kb3, .int)]) [1, 2] rfl
      refine va_calli (va_runV (As := [.int (nI kq), .int (nI q9)]) (rest := []) ⟨hx, hb, hml, hown, hts⟩ (c_inLine l dC dI H.size p1 (w0) b1 (w2) b3 (w4) (w5) cn (w7) kb1 fle kb3 fli kq q9 hc hle (by omega) hkq) (cwV 2 hts (gV mw_2_171 mw_1_234 mw_1_235 mw_1_2 mw_1_236) rfl rfl rfl (by decide +kernel) ⟨Nat.le_of_ble_eq_true rfl, Nat.le_of_ble_eq_true rfl⟩) ⟨pcW_blind, va_recv hKc hPc (ci := 1) (q0 := 0) rfl rfl, pcW_at hPc hKc hDc hN⟩ rfl rfl hl.1 rfl (lv_room (Nat.le_of_ble_eq_true rfl)) dX5_work_62 ⟨Nat.le_of_ble_eq_true rfl, Nat.le_of_ble_eq_true rfl⟩) hS (fun q h1 h2 => absurd h2 (Nat.not_le.mpr h1)) (fun q h => hA q (Nat.le_trans hS.1 h)) (fun r_7 u t H1 locs ht hvm hw_7 hB hz1 hk1 hS => ?_)
      have hP := keepP hP hk1
      clear hz1 hk1 hB ht hvm hPc hDc hKc
      generalize H1 = H at hP hS ⊢
      obtain rfl : r_7 = (fli (10 * kq + q9)) := hw_7
      obtain ⟨ow, how, eow⟩ := hlk kq (by omega) q9 (by rw [← lenN_k (f := fle) (c := cn) (by omega) (by omega)]; exact hq9)
      refine hx_top (y := (nI ow)) eow ?_
      refine lv_istore (lv' := [(7, .int (nI ow)), (6, .int (nI q9)), (0, .ref h0), (1, .ref p1), (2, .ref p3), (3, .int (nI nq)), (4, .int (nI fm)), (5, .int 3)]) hx hb dX5_work_65 hl (by decide) rfl (fun ls hl => ?_)
      refine lv_aload_n hx hb dX5_work_67 rfl (lv_at hl 4 rfl) ?_
      refine lv_iload hx hb dX5_work_68 (lv_at hl 0 rfl) ?_
      refine lv_iload_n hx hb dX5_work_70 rfl (lv_at hl 5 rfl) ?_
      have hPc := hP.sub (ws' := [(p3, .inr (0, [.ref e0, .ref e1, .ref e2])), (e1, .inl (ke1, 80, .inl fbl))]) [5, 7] rfl
      have hDc := hD.sub (ws' := [(p3, .inr (0, [.ref e0, .ref e1, .ref e2])), (e1, .inl (ke1, 80, .inl fbl))]) [5, 7] (by decide) rfl
      have hKc := hK.sub (tys' := [(ke1, .int)]) [4] rfl
      refine va_calli (va_runV (As := [.int (nI ow), .int (nI nq)]) (rest := []) ⟨hx, hb, hml, hown, hts⟩ (c_blenN l dC dI H.size p3 (.ref e0) e1 (.ref e2) ke1 fbl ow nq hbl (by omega) hnq) (cwV 2 hts (gV mw_2_172 mw_2_173 mw_2_174 mw_1_5 mw_2_175) rfl rfl rfl (by decide +kernel) ⟨Nat.le_of_ble_eq_true rfl, Nat.le_of_ble_eq_true rfl⟩) ⟨pcW_blind, va_recv hKc hPc (ci := 0) (q0 := 0) rfl rfl, pcW_at hPc hKc hDc hN⟩ rfl rfl hl.1 rfl (lv_room (Nat.le_of_ble_eq_true rfl)) dX5_work_71 ⟨Nat.le_of_ble_eq_true rfl, Nat.le_of_ble_eq_true rfl⟩) hS (fun q h1 h2 => absurd h2 (Nat.not_le.mpr h1)) (fun q h => hA q (Nat.le_trans hS.1 h)) (fun r_8 u t H1 locs ht hvm hw_8 hB hz1 hk1 hS => ?_)
      have hP := keepP hP hk1
      clear hz1 hk1 hB ht hvm hPc hDc hKc
      generalize H1 = H at hP hS ⊢
      obtain rfl : r_8 = nI ((fbl (8 * ow + nq)).toNatClampNeg) := hw_8
      have b_9 := (bd_cle0 hbl (show 8 * ow + nq < 80 by omega) : (fbl (8 * ow + nq)).toNatClampNeg ≤ 12)
      refine lv_istore (lv' := [(8, .int (nI ((fbl (8 * ow + nq)).toNatClampNeg))), (7, .int (nI ow)), (6, .int (nI q9)), (0, .ref h0), (1, .ref p1), (2, .ref p3), (3, .int (nI nq)), (4, .int (nI fm)), (5, .int 3)]) hx hb dX5_work_74 hl (by decide) rfl (fun ls hl => ?_)
      refine lv_iconst (v := 0) hx hb dX5_work_76 (by decide) ?_
      refine lv_istore (lv' := [(9, .int 0), (8, .int (nI ((fbl (8 * ow + nq)).toNatClampNeg))), (7, .int (nI ow)), (6, .int (nI q9)), (0, .ref h0), (1, .ref p1), (2, .ref p3), (3, .int (nI nq)), (4, .int (nI fm)), (5, .int 3)]) hx hb dX5_work_77 hl (by decide) rfl (fun ls hl => ?_)
      refine lv_iconst (v := 0) hx hb dX5_work_79 (by decide) ?_
      refine lv_istore (lv' := [(10, .int 0), (9, .int 0), (8, .int (nI ((fbl (8 * ow + nq)).toNatClampNeg))), (7, .int (nI ow)), (6, .int (nI q9)), (0, .ref h0), (1, .ref p1), (2, .ref p3), (3, .int (nI nq)), (4, .int (nI fm)), (5, .int 3)]) hx hb dX5_work_80 hl (by decide) rfl (fun ls hl => ?_)
      have key_10 : ∀ (fu : Nat) (k9 : Nat) (en : Int32) (sdx : Nat) (mdx : Nat) (fdx : Nat → Int32), (k9 ≤ 12) → (sdx ≤ 40) → (mdx ≤ 200) → (sgL (wdC fle fli fo fbl fbs cn kq 5) nq q9 (fun i => fbs (12 * (8 * ow + nq) + i)) ((fbl (8 * ow + nq)).toNatClampNeg - k9) k9 (en, mdx, sdx, fdx) = (wdC fle fli fo fbl fbs cn kq 6 nq fm (md, sd, fd))) → 12 - k9 < fu → ∀ (H : Heap) (locs : List Loc), va_P (dC, dI) vwCl [(h0, .inr (5, [.ref u0, .int (nI sdx), .int (nI mdx), .int (nI kq)])), (u0, .inl (ku0, 40, .inl fdx)), (p1, .inr (1, [w0, .ref b1, w2, .ref b3, w4, w5, .int (nI cn), w7])), (b1, .inl (kb1, 10, .inl fle)), (b3, .inl (kb3, 100, .inl fli)), (p3, .inr (0, [.ref e0, .ref e1, .ref e2])), (e0, .inl (ke0, 8, .inl fo)), (e1, .inl (ke1, 80, .inl fbl)), (e2, .inl (ke2, 960, .inl fbs))] H → va_D A [(h0, .inr (5, [.ref u0, .int (nI sdx), .int (nI mdx), .int (nI kq)])), (u0, .inl (ku0, 40, .inl fdx)), (p1, .inr (1, [w0, .ref b1, w2, .ref b3, w4, w5, .int (nI cn), w7])), (b1, .inl (kb1, 10, .inl fle)), (b3, .inl (kb3, 100, .inl fli)), (p3, .inr (0, [.ref e0, .ref e1, .ref e2])), (e0, .inl (ke0, 8, .inl fo)), (e1, .inl (ke1, 80, .inl fbl)), (e2, .inl (ke2, 960, .inl fbs))] → va_S A s.heap H locs → ∀ (ls : Array Slot), lv_has ls 12 [(10, .int (nI k9)), (9, .int en), (8, .int (nI ((fbl (8 * ow + nq)).toNatClampNeg))), (7, .int (nI ow)), (6, .int (nI q9)), (0, .ref h0), (1, .ref p1), (2, .ref p3), (3, .int (nI nq)), (4, .int (nI fm)), (5, .int 3)] → W p l e (headSpec (wq yX5_work cX5_work 12 (some .int)) ({ frames := 9, cells := 0, slots := 0, locals := 241 })).room s m (([.ref h0, .ref p1, .ref p3, .int (nI nq), .int (nI fm), .int 3] : List Value)).toArray below meth c H locs 0 0 (MQ below (va_Qi (fun (r : Int32) (_ : Unit) => r = (wdC fle fli fo fbl fbs cn kq 6 nq fm (md, sd, fd)).1) (fun _ t => ∃ (sd2 : Nat) (md2 : Nat) (fd2 : Nat → Int32), (sd2 ≤ 40) ∧ (md2 ≤ 200) ∧ ((md2, sd2, fd2) = (wdC fle fli fo fbl fbs cn kq 6 nq fm (md, sd, fd)).2) ∧ va_P (dC, dI) vwCl [(h0, .inr (5, [.ref u0, .int (nI sd2), .int (nI md2), .int (nI kq)])), (u0, .inl (ku0, 40, .inl fd2)), (p1, .inr (1, [w0, .ref b1, w2, .ref b3, w4, w5, .int (nI cn), w7])), (b1, .inl (kb1, 10, .inl fle)), (b3, .inl (kb3, 100, .inl fli)), (p3, .inr (0, [.ref e0, .ref e1, .ref e2])), (e0, .inl (ke0, 8, .inl fo)), (e1, .inl (ke1, 80, .inl fbl)), (e2, .inl (ke2, 960, .inl fbs))] t.heap ∧ va_K (dC, dI) vwCl [(ku0, .int), (kb1, .int), (kb3, .int), (ke0, .int), (ke1, .int), (ke2, .char)] t ∧ va_D A [(h0, .inr (5, [.ref u0, .int (nI sd2), .int (nI md2), .int (nI kq)])), (u0, .inl (ku0, 40, .inl fd2)), (p1, .inr (1, [w0, .ref b1, w2, .ref b3, w4, w5, .int (nI cn), w7])), (b1, .inl (kb1, 10, .inl fle)), (b3, .inl (kb3, 100, .inl fli)), (p3, .inr (0, [.ref e0, .ref e1, .ref e2])), (e0, .inl (ke0, 8, .inl fo)), (e1, .inl (ke1, 80, .inl fbl)), (e2, .inl (ke2, 960, .inl fbs))]) A) (([.ref h0, .ref p1, .ref p3, .int (nI nq), .int (nI fm), .int 3] : List Value)).toArray s 0 0 A) (F0 m 82 ls []) := by
        intro fu
        induction fu with
        | zero => intro k9 en sdx mdx fdx hk hsx hmx hlp hme; exact absurd hme (Nat.not_lt_zero _)
        | succ fu ih_11 =>
          intro k9 en sdx mdx fdx hk hsx hmx hlp hme H locs hP hD hS ls hl
          refine lv_iload hx hb dX5_work_82 (lv_at hl 0 rfl) ?_
          refine lv_iload hx hb dX5_work_84 (lv_at hl 2 rfl) ?_
          refine lv_icmp_ge (tgt := 184) hx hb dX5_work_86 (by decide) (fun c_12 => ?_) (fun c_12 => ?_)
          · have b_13 := gx_ge (X := ((k9 : Nat) : Int)) (C := (((fbl (8 * ow + nq)).toNatClampNeg : Nat) : Int)) (nI_toInt (by omega)) (nI_toInt (by omega)) c_12
            refine lv_iload hx hb dX5_work_184 (lv_at hl 1 rfl) ?_
            have hP9 := hP.sub (ws' := [(h0, .inr (5, [.ref u0, .int (nI sdx), .int (nI mdx), .int (nI kq)])), (u0, .inl (ku0, 40, .inl fdx)), (p1, .inr (1, [w0, .ref b1, w2, .ref b3, w4, w5, .int (nI cn), w7])), (b1, .inl (kb1, 10, .inl fle)), (b3, .inl (kb3, 100, .inl fli)), (p3, .inr (0, [.ref e0, .ref e1, .ref e2])), (e0, .inl (ke0, 8, .inl fo)), (e1, .inl (ke1, 80, .inl fbl)), (e2, .inl (ke2, 960, .inl fbs))]) [0, 1, 2, 3, 4, 5, 6, 7, 8] rfl
            have hD9 := hD.sub (ws' := [(h0, .inr (5, [.ref u0, .int (nI sdx), .int (nI mdx), .int (nI kq)])), (u0, .inl (ku0, 40, .inl fdx)), (p1, .inr (1, [w0, .ref b1, w2, .ref b3, w4, w5, .int (nI cn), w7])), (b1, .inl (kb1, 10, .inl fle)), (b3, .inl (kb3, 100, .inl fli)), (p3, .inr (0, [.ref e0, .ref e1, .ref e2])), (e0, .inl (ke0, 8, .inl fo)), (e1, .inl (ke1, 80, .inl fbl)), (e2, .inl (ke2, 960, .inl fbs))]) [0, 1, 2, 3, 4, 5, 6, 7, 8] (by decide) rfl
            have hK9 := hK.sub (tys' := [(ku0, .int), (kb1, .int), (kb3, .int), (ke0, .int), (ke1, .int), (ke2, .char)]) [0, 1, 2, 3, 4, 5] rfl
            exact W.iret (v := en) hx hb hr (fun t ht hW => ⟨⟨en, (), rfl, (r4 ((sgl_end (Or.inl (by omega))).symm.trans hlp)).1, sdx, mdx, fdx, hsx, hmx, (Prod.ext (r4 ((sgl_end (Or.inl (by omega))).symm.trans hlp)).2.1 (Prod.ext (r4 ((sgl_end (Or.inl (by omega))).symm.trans hlp)).2.2.1 (r4 ((sgl_end (Or.inl (by omega))).symm.trans hlp)).2.2.2)), by rw [ht]; exact hP9, va_K.moved hW.alike hK9, hD9⟩, hS.F ht⟩) hS.2.2 dX5_work_186
          · have b_13 := gn_ge (X := ((k9 : Nat) : Int)) (C := (((fbl (8 * ow + nq)).toNatClampNeg : Nat) : Int)) (nI_toInt (by omega)) (nI_toInt (by omega)) c_12
            refine lv_iload hx hb dX5_work_89 (lv_at hl 1 rfl) ?_
            refine lv_if_ne (tgt := 184) hx hb dX5_work_91 (by decide) (fun c_14 => ?_) (fun c_14 => ?_)
            · have b_15 := gx_ne (X := (Int32.toInt en)) (C := 0) rfl (by decide) c_14
              refine lv_iload hx hb dX5_work_184 (lv_at hl 1 rfl) ?_
              have hP9 := hP.sub (ws' := [(h0, .inr (5, [.ref u0, .int (nI sdx), .int (nI mdx), .int (nI kq)])), (u0, .inl (ku0, 40, .inl fdx)), (p1, .inr (1, [w0, .ref b1, w2, .ref b3, w4, w5, .int (nI cn), w7])), (b1, .inl (kb1, 10, .inl fle)), (b3, .inl (kb3, 100, .inl fli)), (p3, .inr (0, [.ref e0, .ref e1, .ref e2])), (e0, .inl (ke0, 8, .inl fo)), (e1, .inl (ke1, 80, .inl fbl)), (e2, .inl (ke2, 960, .inl fbs))]) [0, 1, 2, 3, 4, 5, 6, 7, 8] rfl
              have hD9 := hD.sub (ws' := [(h0, .inr (5, [.ref u0, .int (nI sdx), .int (nI mdx), .int (nI kq)])), (u0, .inl (ku0, 40, .inl fdx)), (p1, .inr (1, [w0, .ref b1, w2, .ref b3, w4, w5, .int (nI cn), w7])), (b1, .inl (kb1, 10, .inl fle)), (b3, .inl (kb3, 100, .inl fli)), (p3, .inr (0, [.ref e0, .ref e1, .ref e2])), (e0, .inl (ke0, 8, .inl fo)), (e1, .inl (ke1, 80, .inl fbl)), (e2, .inl (ke2, 960, .inl fbs))]) [0, 1, 2, 3, 4, 5, 6, 7, 8] (by decide) rfl
              have hK9 := hK.sub (tys' := [(ku0, .int), (kb1, .int), (kb3, .int), (ke0, .int), (ke1, .int), (ke2, .char)]) [0, 1, 2, 3, 4, 5] rfl
              exact W.iret (v := en) hx hb hr (fun t ht hW => ⟨⟨en, (), rfl, (r4 ((sgl_end (Or.inr c_14)).symm.trans hlp)).1, sdx, mdx, fdx, hsx, hmx, (Prod.ext (r4 ((sgl_end (Or.inr c_14)).symm.trans hlp)).2.1 (Prod.ext (r4 ((sgl_end (Or.inr c_14)).symm.trans hlp)).2.2.1 (r4 ((sgl_end (Or.inr c_14)).symm.trans hlp)).2.2.2)), by rw [ht]; exact hP9, va_K.moved hW.alike hK9, hD9⟩, hS.F ht⟩) hS.2.2 dX5_work_186
            · have b_15 := gn_ne (X := (Int32.toInt en)) (C := 0) rfl (by decide) c_14
              refine lv_aload_n hx hb dX5_work_94 rfl (lv_at hl 7 rfl) ?_
              refine lv_iload hx hb dX5_work_95 (lv_at hl 3 rfl) ?_
              refine lv_iload_n hx hb dX5_work_97 rfl (lv_at hl 8 rfl) ?_
              refine lv_iload hx hb dX5_work_98 (lv_at hl 0 rfl) ?_
              have hPc := hP.sub (ws' := [(p3, .inr (0, [.ref e0, .ref e1, .ref e2])), (e1, .inl (ke1, 80, .inl fbl)), (e2, .inl (ke2, 960, .inl fbs))]) [5, 7, 8] rfl
              have hDc := hD.sub (ws' := [(p3, .inr (0, [.ref e0, .ref e1, .ref e2])), (e1, .inl (ke1, 80, .inl fbl)), (e2, .inl (ke2, 960, .inl fbs))]) [5, 7, 8] (by decide) rfl
              have hKc := hK.sub (tys' := [(ke1, .int), (ke2, .char)]) [4, 5] rfl
              refine va_calli (va_runV (As := [.int (nI ow), .int (nI nq), .int (nI k9)]) (rest := []) ⟨hx, hb, hml, hown, hts⟩ (c_bsignN l dC dI H.size p3 (.ref e0) e1 e2 ke1 fbl ke2 fbs ow nq k9 hbl hbs (by omega) hnq (by omega)) (cwV 3 hts (gV mw_2_176 mw_2_177 mw_2_178 mw_1_5 mw_2_179) rfl rfl rfl (by decide +kernel) ⟨Nat.le_of_ble_eq_true rfl, Nat.le_of_ble_eq_true rfl⟩) ⟨pcW_blind, va_recv hKc hPc (ci := 0) (q0 := 0) rfl rfl, pcW_at hPc hKc hDc hN⟩ rfl rfl hl.1 rfl (lv_room (Nat.le_of_ble_eq_true rfl)) dX5_work_100 ⟨Nat.le_of_ble_eq_true rfl, Nat.le_of_ble_eq_true rfl⟩) hS (fun q h1 h2 => absurd h2 (Nat.not_le.mpr h1)) (fun q h => hA q (Nat.le_trans hS.1 h)) (fun r_16 u t H1 locs ht hvm hw_16 hB hz1 hk1 hS => ?_)
              have hP := keepP hP hk1
              clear hz1 hk1 hB ht hvm hPc hDc hKc
              generalize H1 = H at hP hS ⊢
              obtain rfl : r_16 = (fbs (12 * (8 * ow + nq) + k9)) := hw_16
              refine lv_istore (lv' := [(11, .int (fbs (12 * (8 * ow + nq) + k9))), (10, .int (nI k9)), (9, .int en), (8, .int (nI ((fbl (8 * ow + nq)).toNatClampNeg))), (7, .int (nI ow)), (6, .int (nI q9)), (0, .ref h0), (1, .ref p1), (2, .ref p3), (3, .int (nI nq)), (4, .int (nI fm)), (5, .int 3)]) hx hb dX5_work_103 hl (by decide) rfl (fun ls hl => ?_)
              have hvc : (48 ≤ Int32.toInt (fbs (12 * (8 * ow + nq) + k9)) ∧ Int32.toInt (fbs (12 * (8 * ow + nq) + k9)) ≤ 57) ∨ (97 ≤ Int32.toInt (fbs (12 * (8 * ow + nq) + k9)) ∧ Int32.toInt (fbs (12 * (8 * ow + nq) + k9)) ≤ 104) ∨ Int32.toInt (fbs (12 * (8 * ow + nq) + k9)) = 94 := hcv (8 * ow + nq) (by omega) k9 (by omega)
              refine lv_iload hx hb dX5_work_105 (lv_at hl 0 rfl) ?_
              refine lv_bipush (v := 48) hx hb dX5_work_107 (by decide) ?_
              refine lv_icmp_lt (tgt := 133) hx hb dX5_work_109 (by decide) (fun h => absurd (gx_lt (X := (Int32.toInt (fbs (12 * (8 * ow + nq) + k9)))) (C := 48) rfl (by decide) h) (by omega)) (fun c_17 => ?_)
              have b_18 := gn_lt (X := (Int32.toInt (fbs (12 * (8 * ow + nq) + k9)))) (C := 48) rfl (by decide) c_17
              refine lv_iload hx hb dX5_work_112 (lv_at hl 0 rfl) ?_
              refine lv_bipush (v := 57) hx hb dX5_work_114 (by decide) ?_
              refine lv_icmp_gt (tgt := 133) hx hb dX5_work_116 (by decide) (fun c_19 => ?_) (fun c_19 => ?_)
              · have b_20 := gx_gt (X := (Int32.toInt (fbs (12 * (8 * ow + nq) + k9)))) (C := 57) rfl (by decide) c_19
                refine lv_iload hx hb dX5_work_133 (lv_at hl 0 rfl) ?_
                refine lv_bipush (v := 94) hx hb dX5_work_135 (by decide) ?_
                refine lv_icmp_ne (tgt := 160) hx hb dX5_work_137 (by decide) (fun c_21 => ?_) (fun c_21 => ?_)
                · have b_22 := gx_ne (X := (Int32.toInt (fbs (12 * (8 * ow + nq) + k9)))) (C := 94) rfl (by decide) c_21
                  refine lv_aload_n hx hb dX5_work_160 rfl (lv_at hl 6 rfl) ?_
                  refine lv_aload_n hx hb dX5_work_161 rfl (lv_at hl 7 rfl) ?_
                  refine lv_aload_n hx hb dX5_work_162 rfl (lv_at hl 8 rfl) ?_
                  refine lv_iload hx hb dX5_work_163 (lv_at hl 0 rfl) ?_
                  refine lv_bipush (v := 97) hx hb dX5_work_165 (by decide) ?_
                  refine lv_isub hx hb dX5_work_167 ?_
                  refine lv_topi (fun z_23 ez_23 => ?_)
                  have gz_23 := fx_rng (fbs (12 * (8 * ow + nq) + k9))
                  have fz_23 : Int32.toInt z_23 = (Int32.toInt (fbs (12 * (8 * ow + nq) + k9))) - 97 := by rw [ez_23]; exact gx_sub (X := (Int32.toInt (fbs (12 * (8 * ow + nq) + k9)))) (C := 97) rfl (by decide) (by omega) (by omega)
                  obtain ⟨j_24, tj_24, ej_24⟩ := fx_nat (x := z_23) (by omega)
                  subst ej_24
                  have yj_24 : Int32.toInt (nI j_24) = (j_24 : Int) := nI_toInt tj_24
                  refine lv_iconst (v := 0) hx hb dX5_work_168 (by decide) ?_
                  refine lv_iload hx hb dX5_work_169 (lv_at hl 11 rfl) ?_
                  refine lv_iconst (v := 1) hx hb dX5_work_171 (by decide) ?_
                  refine lv_iadd hx hb dX5_work_172 ?_
                  refine hx_top (y := 4) (by decide) ?_
                  have hPc := hP.sub (ws' := [(h0, .inr (5, [.ref u0, .int (nI sdx), .int (nI mdx), .int (nI kq)])), (u0, .inl (ku0, 40, .inl fdx)), (p1, .inr (1, [w0, .ref b1, w2, .ref b3, w4, w5, .int (nI cn), w7])), (b1, .inl (kb1, 10, .inl fle)), (b3, .inl (kb3, 100, .inl fli)), (p3, .inr (0, [.ref e0, .ref e1, .ref e2])), (e0, .inl (ke0, 8, .inl fo)), (e1, .inl (ke1, 80, .inl fbl)), (e2, .inl (ke2, 960, .inl fbs))]) [0, 1, 2, 3, 4, 5, 6, 7, 8] rfl
                  have hDc := hD.sub (ws' := [(h0, .inr (5, [.ref u0, .int (nI sdx), .int (nI mdx), .int (nI kq)])), (u0, .inl (ku0, 40, .inl fdx)), (p1, .inr (1, [w0, .ref b1, w2, .ref b3, w4, w5, .int (nI cn), w7])), (b1, .inl (kb1, 10, .inl fle)), (b3, .inl (kb3, 100, .inl fli)), (p3, .inr (0, [.ref e0, .ref e1, .ref e2])), (e0, .inl (ke0, 8, .inl fo)), (e1, .inl (ke1, 80, .inl fbl)), (e2, .inl (ke2, 960, .inl fbs))]) [0, 1, 2, 3, 4, 5, 6, 7, 8] (by decide) rfl
                  have hKc := hK.sub (tys' := [(ku0, .int), (kb1, .int), (kb3, .int), (ke0, .int), (ke1, .int), (ke2, .char)]) [0, 1, 2, 3, 4, 5] rfl
                  have hFc := va_free (wc := [(h0, .inr (5, [.ref u0, .int (nI sdx), .int (nI mdx), .int (nI kq)])), (u0, .inl (ku0, 40, .inl fdx)), (p1, .inr (1, [w0, .ref b1, w2, .ref b3, w4, w5, .int (nI cn), w7])), (b1, .inl (kb1, 10, .inl fle)), (b3, .inl (kb3, 100, .inl fli)), (p3, .inr (0, [.ref e0, .ref e1, .ref e2])), (e0, .inl (ke0, 8, .inl fo)), (e1, .inl (ke1, 80, .inl fbl)), (e2, .inl (ke2, 960, .inl fbs))]) hD hS hA [0, 1, 2, 3, 4, 5, 6, 7, 8] rfl
                  refine va_calli (va_runV (As := [.ref p1, .ref p3, .int (nI j_24), .int 0, .int 4]) (rest := []) ⟨hx, hb, hml, hown, hts⟩ (c_work4 l dC dI H.size h0 u0 sdx mdx kq ku0 fdx p1 (w0) b1 (w2) b3 (w4) (w5) cn (w7) kb1 fle kb3 fli p3 e0 e1 e2 ke0 fo ke1 fbl ke2 fbs j_24 0 hsx hc hle hbl hbs hlk hkq (by omega) (by omega) hmx hcv) (cwV 5 hts (gV mw_2_165 mw_2_167 mw_0_4 mw_1_6 mw_2_168) rfl rfl rfl (by decide +kernel) ⟨Nat.le_of_ble_eq_true rfl, Nat.le_of_ble_eq_true rfl⟩) ⟨pcW_blind, va_recv hKc hPc (ci := 5) (q0 := 0) rfl rfl, pcW_at hPc hKc hDc hN⟩ rfl rfl hl.1 rfl (lv_room (Nat.le_of_ble_eq_true rfl)) dX5_work_173 ⟨Nat.le_of_ble_eq_true rfl, Nat.le_of_ble_eq_true rfl⟩) hS (fun q _ h => hFc q h) hFc (fun r_25 u t H1 locs ht hvm hw_25 hB hz1 hk1 hS => ?_)
                  obtain ⟨q_26, q_27, f_28, p_29, p_30, p_31, hP1, hK1, hD1⟩ := hB
                  rw [ht] at hP1
                  have hK1 := va_K.moved hvm.symm hK1
                  obtain ⟨hP, hD⟩ := va_join (wr := []) (w1 := [(h0, .inr (5, [.ref u0, .int (nI q_26), .int (nI q_27), .int (nI kq)])), (u0, .inl (ku0, 40, .inl f_28)), (p1, .inr (1, [w0, .ref b1, w2, .ref b3, w4, w5, .int (nI cn), w7])), (b1, .inl (kb1, 10, .inl fle)), (b3, .inl (kb3, 100, .inl fli)), (p3, .inr (0, [.ref e0, .ref e1, .ref e2])), (e0, .inl (ke0, 8, .inl fo)), (e1, .inl (ke1, 80, .inl fbl)), (e2, .inl (ke2, 960, .inl fbs))]) hP hD [0, 1, 2, 3, 4, 5, 6, 7, 8] [] rfl rfl (by decide) (by decide) hk1 hFc hP1 hD1
                  have hK := (hK.sub (tys' := []) [] rfl).app hK1
                  clear hz1 hk1 hPc hDc hKc hFc
                  generalize H1 = H at hP hS ⊢
                  have hK : va_K (dC, dI) vwCl [(ku0, .int), (kb1, .int), (kb3, .int), (ke0, .int), (ke1, .int), (ke2, .char)] s := hK
                  have hP : va_P (dC, dI) vwCl [(h0, .inr (5, [.ref u0, .int (nI q_26), .int (nI q_27), .int (nI kq)])), (u0, .inl (ku0, 40, .inl f_28)), (p1, .inr (1, [w0, .ref b1, w2, .ref b3, w4, w5, .int (nI cn), w7])), (b1, .inl (kb1, 10, .inl fle)), (b3, .inl (kb3, 100, .inl fli)), (p3, .inr (0, [.ref e0, .ref e1, .ref e2])), (e0, .inl (ke0, 8, .inl fo)), (e1, .inl (ke1, 80, .inl fbl)), (e2, .inl (ke2, 960, .inl fbs))] H := hP
                  have hD : va_D A [(h0, .inr (5, [.ref u0, .int (nI q_26), .int (nI q_27), .int (nI kq)])), (u0, .inl (ku0, 40, .inl f_28)), (p1, .inr (1, [w0, .ref b1, w2, .ref b3, w4, w5, .int (nI cn), w7])), (b1, .inl (kb1, 10, .inl fle)), (b3, .inl (kb3, 100, .inl fli)), (p3, .inr (0, [.ref e0, .ref e1, .ref e2])), (e0, .inl (ke0, 8, .inl fo)), (e1, .inl (ke1, 80, .inl fbl)), (e2, .inl (ke2, 960, .inl fbs))] := hD
                  refine lv_istore (lv' := [(9, .int r_25), (11, .int (fbs (12 * (8 * ow + nq) + k9))), (10, .int (nI k9)), (8, .int (nI ((fbl (8 * ow + nq)).toNatClampNeg))), (7, .int (nI ow)), (6, .int (nI q9)), (0, .ref h0), (1, .ref p1), (2, .ref p3), (3, .int (nI nq)), (4, .int (nI fm)), (5, .int 3)]) hx hb dX5_work_176 hl (by decide) rfl (fun ls hl => ?_)
                  refine lv_iinc (v := (nI (k9 + 1))) (lv' := [(10, .int (nI (k9 + 1))), (9, .int r_25), (11, .int (fbs (12 * (8 * ow + nq) + k9))), (8, .int (nI ((fbl (8 * ow + nq)).toNatClampNeg))), (7, .int (nI ow)), (6, .int (nI q9)), (0, .ref h0), (1, .ref p1), (2, .ref p3), (3, .int (nI nq)), (4, .int (nI fm)), (5, .int 3)]) hx hb dX5_work_178 hl (k := 2) rfl (nI_add k9 1) (by decide) rfl (fun ls hl => ?_)
                  refine lv_goto (tgt := 82) hx hb dX5_work_181 (by decide) ?_
                  exact ih_11 (k9 + 1) r_25 q_26 q_27 f_28 (by omega) p_29 p_30 (lp_let hlp c_14 (by omega) (by show 97 ≤ Int32.toInt (fbs (12 * (8 * ow + nq) + k9)); omega) (by show ((j_24 : Nat) : Int) = Int32.toInt (fbs (12 * (8 * ow + nq) + k9)) - 97; omega) hw_25 p_31) (by omega) _ _ hP hD hS ls (lv_sub hl [0, 1, 3, 4, 5, 6, 7, 8, 9, 10, 11] rfl)
                · have b_22 := gn_ne (X := (Int32.toInt (fbs (12 * (8 * ow + nq) + k9)))) (C := 94) rfl (by decide) c_21
                  refine lv_aload_n hx hb dX5_work_140 rfl (lv_at hl 6 rfl) ?_
                  refine lv_aload_n hx hb dX5_work_141 rfl (lv_at hl 7 rfl) ?_
                  refine lv_aload_n hx hb dX5_work_142 rfl (lv_at hl 8 rfl) ?_
                  refine lv_iload_n hx hb dX5_work_143 rfl (lv_at hl 9 rfl) ?_
                  refine lv_iload hx hb dX5_work_144 (lv_at hl 5 rfl) ?_
                  refine lv_iconst (v := 1) hx hb dX5_work_146 (by decide) ?_
                  refine lv_iadd hx hb dX5_work_147 ?_
                  refine hx_top (y := (nI (q9 + 1))) (nI_add q9 1) ?_
                  refine lv_iload hx hb dX5_work_148 (lv_at hl 11 rfl) ?_
                  refine lv_iconst (v := 1) hx hb dX5_work_150 (by decide) ?_
                  refine lv_iadd hx hb dX5_work_151 ?_
                  refine hx_top (y := 4) (by decide) ?_
                  have hPc := hP.sub (ws' := [(h0, .inr (5, [.ref u0, .int (nI sdx), .int (nI mdx), .int (nI kq)])), (u0, .inl (ku0, 40, .inl fdx)), (p1, .inr (1, [w0, .ref b1, w2, .ref b3, w4, w5, .int (nI cn), w7])), (b1, .inl (kb1, 10, .inl fle)), (b3, .inl (kb3, 100, .inl fli)), (p3, .inr (0, [.ref e0, .ref e1, .ref e2])), (e0, .inl (ke0, 8, .inl fo)), (e1, .inl (ke1, 80, .inl fbl)), (e2, .inl (ke2, 960, .inl fbs))]) [0, 1, 2, 3, 4, 5, 6, 7, 8] rfl
                  have hDc := hD.sub (ws' := [(h0, .inr (5, [.ref u0, .int (nI sdx), .int (nI mdx), .int (nI kq)])), (u0, .inl (ku0, 40, .inl fdx)), (p1, .inr (1, [w0, .ref b1, w2, .ref b3, w4, w5, .int (nI cn), w7])), (b1, .inl (kb1, 10, .inl fle)), (b3, .inl (kb3, 100, .inl fli)), (p3, .inr (0, [.ref e0, .ref e1, .ref e2])), (e0, .inl (ke0, 8, .inl fo)), (e1, .inl (ke1, 80, .inl fbl)), (e2, .inl (ke2, 960, .inl fbs))]) [0, 1, 2, 3, 4, 5, 6, 7, 8] (by decide) rfl
                  have hKc := hK.sub (tys' := [(ku0, .int), (kb1, .int), (kb3, .int), (ke0, .int), (ke1, .int), (ke2, .char)]) [0, 1, 2, 3, 4, 5] rfl
                  have hFc := va_free (wc := [(h0, .inr (5, [.ref u0, .int (nI sdx), .int (nI mdx), .int (nI kq)])), (u0, .inl (ku0, 40, .inl fdx)), (p1, .inr (1, [w0, .ref b1, w2, .ref b3, w4, w5, .int (nI cn), w7])), (b1, .inl (kb1, 10, .inl fle)), (b3, .inl (kb3, 100, .inl fli)), (p3, .inr (0, [.ref e0, .ref e1, .ref e2])), (e0, .inl (ke0, 8, .inl fo)), (e1, .inl (ke1, 80, .inl fbl)), (e2, .inl (ke2, 960, .inl fbs))]) hD hS hA [0, 1, 2, 3, 4, 5, 6, 7, 8] rfl
                  refine va_calli (va_runV (As := [.ref p1, .ref p3, .int (nI nq), .int (nI (q9 + 1)), .int 4]) (rest := []) ⟨hx, hb, hml, hown, hts⟩ (c_work4 l dC dI H.size h0 u0 sdx mdx kq ku0 fdx p1 (w0) b1 (w2) b3 (w4) (w5) cn (w7) kb1 fle kb3 fli p3 e0 e1 e2 ke0 fo ke1 fbl ke2 fbs nq (q9 + 1) hsx hc hle hbl hbs hlk hkq hnq (by omega) hmx hcv) (cwV 5 hts (gV mw_2_165 mw_2_167 mw_0_4 mw_1_6 mw_2_168) rfl rfl rfl (by decide +kernel) ⟨Nat.le_of_ble_eq_true rfl, Nat.le_of_ble_eq_true rfl⟩) ⟨pcW_blind, va_recv hKc hPc (ci := 5) (q0 := 0) rfl rfl, pcW_at hPc hKc hDc hN⟩ rfl rfl hl.1 rfl (lv_room (Nat.le_of_ble_eq_true rfl)) dX5_work_152 ⟨Nat.le_of_ble_eq_true rfl, Nat.le_of_ble_eq_true rfl⟩) hS (fun q _ h => hFc q h) hFc (fun r_32 u t H1 locs ht hvm hw_32 hB hz1 hk1 hS => ?_)
                  obtain ⟨q_33, q_34, f_35, p_36, p_37, p_38, hP1, hK1, hD1⟩ := hB
                  rw [ht] at hP1
                  have hK1 := va_K.moved hvm.symm hK1
                  obtain ⟨hP, hD⟩ := va_join (wr := []) (w1 := [(h0, .inr (5, [.ref u0, .int (nI q_33), .int (nI q_34), .int (nI kq)])), (u0, .inl (ku0, 40, .inl f_35)), (p1, .inr (1, [w0, .ref b1, w2, .ref b3, w4, w5, .int (nI cn), w7])), (b1, .inl (kb1, 10, .inl fle)), (b3, .inl (kb3, 100, .inl fli)), (p3, .inr (0, [.ref e0, .ref e1, .ref e2])), (e0, .inl (ke0, 8, .inl fo)), (e1, .inl (ke1, 80, .inl fbl)), (e2, .inl (ke2, 960, .inl fbs))]) hP hD [0, 1, 2, 3, 4, 5, 6, 7, 8] [] rfl rfl (by decide) (by decide) hk1 hFc hP1 hD1
                  have hK := (hK.sub (tys' := []) [] rfl).app hK1
                  clear hz1 hk1 hPc hDc hKc hFc
                  generalize H1 = H at hP hS ⊢
                  have hK : va_K (dC, dI) vwCl [(ku0, .int), (kb1, .int), (kb3, .int), (ke0, .int), (ke1, .int), (ke2, .char)] s := hK
                  have hP : va_P (dC, dI) vwCl [(h0, .inr (5, [.ref u0, .int (nI q_33), .int (nI q_34), .int (nI kq)])), (u0, .inl (ku0, 40, .inl f_35)), (p1, .inr (1, [w0, .ref b1, w2, .ref b3, w4, w5, .int (nI cn), w7])), (b1, .inl (kb1, 10, .inl fle)), (b3, .inl (kb3, 100, .inl fli)), (p3, .inr (0, [.ref e0, .ref e1, .ref e2])), (e0, .inl (ke0, 8, .inl fo)), (e1, .inl (ke1, 80, .inl fbl)), (e2, .inl (ke2, 960, .inl fbs))] H := hP
                  have hD : va_D A [(h0, .inr (5, [.ref u0, .int (nI q_33), .int (nI q_34), .int (nI kq)])), (u0, .inl (ku0, 40, .inl f_35)), (p1, .inr (1, [w0, .ref b1, w2, .ref b3, w4, w5, .int (nI cn), w7])), (b1, .inl (kb1, 10, .inl fle)), (b3, .inl (kb3, 100, .inl fli)), (p3, .inr (0, [.ref e0, .ref e1, .ref e2])), (e0, .inl (ke0, 8, .inl fo)), (e1, .inl (ke1, 80, .inl fbl)), (e2, .inl (ke2, 960, .inl fbs))] := hD
                  refine lv_istore (lv' := [(9, .int r_32), (11, .int (fbs (12 * (8 * ow + nq) + k9))), (10, .int (nI k9)), (8, .int (nI ((fbl (8 * ow + nq)).toNatClampNeg))), (7, .int (nI ow)), (6, .int (nI q9)), (0, .ref h0), (1, .ref p1), (2, .ref p3), (3, .int (nI nq)), (4, .int (nI fm)), (5, .int 3)]) hx hb dX5_work_155 hl (by decide) rfl (fun ls hl => ?_)
                  refine lv_goto (tgt := 178) hx hb dX5_work_157 (by decide) ?_
                  refine lv_iinc (v := (nI (k9 + 1))) (lv' := [(10, .int (nI (k9 + 1))), (9, .int r_32), (11, .int (fbs (12 * (8 * ow + nq) + k9))), (8, .int (nI ((fbl (8 * ow + nq)).toNatClampNeg))), (7, .int (nI ow)), (6, .int (nI q9)), (0, .ref h0), (1, .ref p1), (2, .ref p3), (3, .int (nI nq)), (4, .int (nI fm)), (5, .int 3)]) hx hb dX5_work_178 hl (k := 2) rfl (nI_add k9 1) (by decide) rfl (fun ls hl => ?_)
                  refine lv_goto (tgt := 82) hx hb dX5_work_181 (by decide) ?_
                  exact ih_11 (k9 + 1) r_32 q_33 q_34 f_35 (by omega) p_36 p_37 (lp_up hlp c_14 (by omega) (by show Int32.toInt (fbs (12 * (8 * ow + nq) + k9)) = 94; omega) hw_32 p_38) (by omega) _ _ hP hD hS ls (lv_sub hl [0, 1, 3, 4, 5, 6, 7, 8, 9, 10, 11] rfl)
              · have b_20 := gn_gt (X := (Int32.toInt (fbs (12 * (8 * ow + nq) + k9)))) (C := 57) rfl (by decide) c_19
                refine lv_aload_n hx hb dX5_work_119 rfl (lv_at hl 6 rfl) ?_
                refine lv_iload hx hb dX5_work_120 (lv_at hl 0 rfl) ?_
                refine lv_bipush (v := 48) hx hb dX5_work_122 (by decide) ?_
                refine lv_isub hx hb dX5_work_124 ?_
                refine lv_topi (fun z_39 ez_39 => ?_)
                have gz_39 := fx_rng (fbs (12 * (8 * ow + nq) + k9))
                have fz_39 : Int32.toInt z_39 = (Int32.toInt (fbs (12 * (8 * ow + nq) + k9))) - 48 := by rw [ez_39]; exact gx_sub (X := (Int32.toInt (fbs (12 * (8 * ow + nq) + k9)))) (C := 48) rfl (by decide) (by omega) (by omega)
                have hPc := hP.sub (ws' := [(h0, .inr (5, [.ref u0, .int (nI sdx), .int (nI mdx), .int (nI kq)])), (u0, .inl (ku0, 40, .inl fdx))]) [0, 1] rfl
                have hDc := hD.sub (ws' := [(h0, .inr (5, [.ref u0, .int (nI sdx), .int (nI mdx), .int (nI kq)])), (u0, .inl (ku0, 40, .inl fdx))]) [0, 1] (by decide) rfl
                have hKc := hK.sub (tys' := [(ku0, .int)]) [0] rfl
                have hFc := va_free (wc := [(h0, .inr (5, [.ref u0, .int (nI sdx), .int (nI mdx), .int (nI kq)])), (u0, .inl (ku0, 40, .inl fdx))]) hD hS hA [0, 1] rfl
                refine va_calli (va_runV (As := [.int z_39]) (rest := []) ⟨hx, hb, hml, hown, hts⟩ (c_sayD l dC dI H.size h0 u0 sdx mdx kq ku0 fdx z_39 hsx) (cwV 1 hts (gV mw_2_181 mw_2_183 mw_0_5 mw_1_6 mw_2_184) rfl rfl rfl (by decide +kernel) ⟨Nat.le_of_ble_eq_true rfl, Nat.le_of_ble_eq_true rfl⟩) ⟨pcW_blind, va_recv hKc hPc (ci := 5) (q0 := 0) rfl rfl, pcW_at hPc hKc hDc hN⟩ rfl rfl hl.1 rfl (lv_room (Nat.le_of_ble_eq_true rfl)) dX5_work_125 ⟨Nat.le_of_ble_eq_true rfl, Nat.le_of_ble_eq_true rfl⟩) hS (fun q _ h => hFc q h) hFc (fun r_40 u t H1 locs ht hvm hw_40 hB hz1 hk1 hS => ?_)
                obtain ⟨q_41, f_42, p_43, p_44, p_45, hP1, hK1, hD1⟩ := hB
                rw [ht] at hP1
                have hK1 := va_K.moved hvm.symm hK1
                obtain ⟨hP, hD⟩ := va_join (wr := [(p1, .inr (1, [w0, .ref b1, w2, .ref b3, w4, w5, .int (nI cn), w7])), (b1, .inl (kb1, 10, .inl fle)), (b3, .inl (kb3, 100, .inl fli)), (p3, .inr (0, [.ref e0, .ref e1, .ref e2])), (e0, .inl (ke0, 8, .inl fo)), (e1, .inl (ke1, 80, .inl fbl)), (e2, .inl (ke2, 960, .inl fbs))]) (w1 := [(h0, .inr (5, [.ref u0, .int (nI q_41), .int (nI mdx), .int (nI kq)])), (u0, .inl (ku0, 40, .inl f_42))]) hP hD [0, 1] [2, 3, 4, 5, 6, 7, 8] rfl rfl (by decide) (by decide) hk1 hFc hP1 hD1
                have hK := (hK.sub (tys' := [(kb1, .int), (kb3, .int), (ke0, .int), (ke1, .int), (ke2, .char)]) [1, 2, 3, 4, 5] rfl).app hK1
                clear hz1 hk1 hPc hDc hKc hFc
                generalize H1 = H at hP hS ⊢
                have hK : va_K (dC, dI) vwCl [(kb1, .int), (kb3, .int), (ke0, .int), (ke1, .int), (ke2, .char), (ku0, .int)] s := hK
                have hP : va_P (dC, dI) vwCl [(p1, .inr (1, [w0, .ref b1, w2, .ref b3, w4, w5, .int (nI cn), w7])), (b1, .inl (kb1, 10, .inl fle)), (b3, .inl (kb3, 100, .inl fli)), (p3, .inr (0, [.ref e0, .ref e1, .ref e2])), (e0, .inl (ke0, 8, .inl fo)), (e1, .inl (ke1, 80, .inl fbl)), (e2, .inl (ke2, 960, .inl fbs)), (h0, .inr (5, [.ref u0, .int (nI q_41), .int (nI mdx), .int (nI kq)])), (u0, .inl (ku0, 40, .inl f_42))] H := hP
                have hD : va_D A [(p1, .inr (1, [w0, .ref b1, w2, .ref b3, w4, w5, .int (nI cn), w7])), (b1, .inl (kb1, 10, .inl fle)), (b3, .inl (kb3, 100, .inl fli)), (p3, .inr (0, [.ref e0, .ref e1, .ref e2])), (e0, .inl (ke0, 8, .inl fo)), (e1, .inl (ke1, 80, .inl fbl)), (e2, .inl (ke2, 960, .inl fbs)), (h0, .inr (5, [.ref u0, .int (nI q_41), .int (nI mdx), .int (nI kq)])), (u0, .inl (ku0, 40, .inl f_42))] := hD
                refine lv_istore (lv' := [(9, .int r_40), (11, .int (fbs (12 * (8 * ow + nq) + k9))), (10, .int (nI k9)), (8, .int (nI ((fbl (8 * ow + nq)).toNatClampNeg))), (7, .int (nI ow)), (6, .int (nI q9)), (0, .ref h0), (1, .ref p1), (2, .ref p3), (3, .int (nI nq)), (4, .int (nI fm)), (5, .int 3)]) hx hb dX5_work_128 hl (by decide) rfl (fun ls hl => ?_)
                refine lv_goto (tgt := 178) hx hb dX5_work_130 (by decide) ?_
                refine lv_iinc (v := (nI (k9 + 1))) (lv' := [(10, .int (nI (k9 + 1))), (9, .int r_40), (11, .int (fbs (12 * (8 * ow + nq) + k9))), (8, .int (nI ((fbl (8 * ow + nq)).toNatClampNeg))), (7, .int (nI ow)), (6, .int (nI q9)), (0, .ref h0), (1, .ref p1), (2, .ref p3), (3, .int (nI nq)), (4, .int (nI fm)), (5, .int 3)]) hx hb dX5_work_178 hl (k := 2) rfl (nI_add k9 1) (by decide) rfl (fun ls hl => ?_)
                refine lv_goto (tgt := 82) hx hb dX5_work_181 (by decide) ?_
                exact ih_11 (k9 + 1) r_40 q_41 mdx f_42 (by omega) p_43 hmx (by rw [hw_40]; exact lp_dig hlp c_14 (by omega) (by show 48 ≤ Int32.toInt (fbs (12 * (8 * ow + nq) + k9)) ∧ Int32.toInt (fbs (12 * (8 * ow + nq) + k9)) ≤ 57; omega) (by rw [ez_39]) p_44 p_45) (by omega) _ _ (hP.sub (ws' := [(h0, .inr (5, [.ref u0, .int (nI q_41), .int (nI mdx), .int (nI kq)])), (u0, .inl (ku0, 40, .inl f_42)), (p1, .inr (1, [w0, .ref b1, w2, .ref b3, w4, w5, .int (nI cn), w7])), (b1, .inl (kb1, 10, .inl fle)), (b3, .inl (kb3, 100, .inl fli)), (p3, .inr (0, [.ref e0, .ref e1, .ref e2])), (e0, .inl (ke0, 8, .inl fo)), (e1, .inl (ke1, 80, .inl fbl)), (e2, .inl (ke2, 960, .inl fbs))]) [7, 8, 0, 1, 2, 3, 4, 5, 6] rfl) (hD.sub (ws' := [(h0, .inr (5, [.ref u0, .int (nI q_41), .int (nI mdx), .int (nI kq)])), (u0, .inl (ku0, 40, .inl f_42)), (p1, .inr (1, [w0, .ref b1, w2, .ref b3, w4, w5, .int (nI cn), w7])), (b1, .inl (kb1, 10, .inl fle)), (b3, .inl (kb3, 100, .inl fli)), (p3, .inr (0, [.ref e0, .ref e1, .ref e2])), (e0, .inl (ke0, 8, .inl fo)), (e1, .inl (ke1, 80, .inl fbl)), (e2, .inl (ke2, 960, .inl fbs))]) [7, 8, 0, 1, 2, 3, 4, 5, 6] (by decide) rfl) hS ls (lv_sub hl [0, 1, 3, 4, 5, 6, 7, 8, 9, 10, 11] rfl)
      exact key_10 ((12 - 0) + 1) 0 0 sd (md + 1) fd (by omega) hsd (by omega) (wd_inC hw_4 (by omega) (by omega) eow (by omega)).symm (Nat.lt_succ_self _) _ _ hP hD hS ls (lv_sub hl [0, 1, 2, 3, 4, 5, 6, 7, 8, 9, 10] rfl)
  · have b_2 := gn_lt (X := ((md : Nat) : Int)) (C := 200) (nI_toInt (by omega)) (by decide) c_1
    refine lv_iconst (v := 2) hx hb dX5_work_17 (by decide) ?_
    have hP9 := hP.sub (ws' := [(h0, .inr (5, [.ref u0, .int (nI sd), .int (nI md), .int (nI kq)])), (u0, .inl (ku0, 40, .inl fd)), (p1, .inr (1, [w0, .ref b1, w2, .ref b3, w4, w5, .int (nI cn), w7])), (b1, .inl (kb1, 10, .inl fle)), (b3, .inl (kb3, 100, .inl fli)), (p3, .inr (0, [.ref e0, .ref e1, .ref e2])), (e0, .inl (ke0, 8, .inl fo)), (e1, .inl (ke1, 80, .inl fbl)), (e2, .inl (ke2, 960, .inl fbs))]) [0, 1, 2, 3, 4, 5, 6, 7, 8] rfl
    have hD9 := hD.sub (ws' := [(h0, .inr (5, [.ref u0, .int (nI sd), .int (nI md), .int (nI kq)])), (u0, .inl (ku0, 40, .inl fd)), (p1, .inr (1, [w0, .ref b1, w2, .ref b3, w4, w5, .int (nI cn), w7])), (b1, .inl (kb1, 10, .inl fle)), (b3, .inl (kb3, 100, .inl fli)), (p3, .inr (0, [.ref e0, .ref e1, .ref e2])), (e0, .inl (ke0, 8, .inl fo)), (e1, .inl (ke1, 80, .inl fbl)), (e2, .inl (ke2, 960, .inl fbs))]) [0, 1, 2, 3, 4, 5, 6, 7, 8] (by decide) rfl
    have hK9 := hK.sub (tys' := [(ku0, .int), (kb1, .int), (kb3, .int), (ke0, .int), (ke1, .int), (ke2, .char)]) [0, 1, 2, 3, 4, 5] rfl
    exact W.iret (v := 2) hx hb hr (fun t ht hW => ⟨⟨2, (), rfl, (r4 (wd_fuC (d := 6) (Or.inr (by omega)))).1, sd, md, fd, hsd, hmd, (Prod.ext (r4 (wd_fuC (d := 6) (Or.inr (by omega)))).2.1 (Prod.ext (r4 (wd_fuC (d := 6) (Or.inr (by omega)))).2.2.1 (r4 (wd_fuC (d := 6) (Or.inr (by omega)))).2.2.2)), by rw [ht]; exact hP9, va_K.moved hW.alike hK9, hD9⟩, hS.F ht⟩) hS.2.2 dX5_work_18
set_option maxHeartbeats 4000000 in
set_option maxRecDepth 100000 in
theorem c_work2 (l : Launch) (dC : Nat → ClassId) (dI : Nat → Nat → Nat) (sz : Nat) (h0 : Nat) (u0 : Nat) (sd : Nat) (md : Nat) (kq : Nat) (ku0 : ClassId) (fd : Nat → Int32) (p1 : Nat) (w0 : Value) (b1 : Nat) (w2 : Value) (b3 : Nat) (w4 : Value) (w5 : Value) (cn : Nat) (w7 : Value) (kb1 : ClassId) (fle : Nat → Int32) (kb3 : ClassId) (fli : Nat → Int32) (p3 : Nat) (e0 : Nat) (e1 : Nat) (e2 : Nat) (ke0 : ClassId) (fo : Nat → Int32) (ke1 : ClassId) (fbl : Nat → Int32) (ke2 : ClassId) (fbs : Nat → Int32) (nq : Nat) (fm : Nat) (hsd : sd ≤ 40) (hc : cn ≤ 10) (hle : BdOk 10 10 fle) (hbl : BdOk 80 12 fbl) (hbs : ChOk fbs) (hlk : LnOk fle fli cn) (hkq : kq < cn) (hnq : nq < 8) (hfm : fm ≤ 10) (hmd : md ≤ 200) (hcv : CvOk fbl fbs) : Met l yX5_work (wq yX5_work cX5_work 12 (some .int)) ({ frames := 10, cells := 0, slots := 0, locals := 272 }) (va_Pc [.ref h0, .ref p1, .ref p3, .int (nI nq), .int (nI fm), .int 2] (pcW dC dI [(ku0, .int), (kb1, .int), (kb3, .int), (ke0, .int), (ke1, .int), (ke2, .char)] [(h0, .inr (5, [.ref u0, .int (nI sd), .int (nI md), .int (nI kq)])), (u0, .inl (ku0, 40, .inl fd)), (p1, .inr (1, [w0, .ref b1, w2, .ref b3, w4, w5, .int (nI cn), w7])), (b1, .inl (kb1, 10, .inl fle)), (b3, .inl (kb3, 100, .inl fli)), (p3, .inr (0, [.ref e0, .ref e1, .ref e2])), (e0, .inl (ke0, 8, .inl fo)), (e1, .inl (ke1, 80, .inl fbl)), (e2, .inl (ke2, 960, .inl fbs))] sz)) (va_Qi (fun (r : Int32) (_ : Unit) => r = (wdC fle fli fo fbl fbs cn kq 7 nq fm (md, sd, fd)).1) (fun _ t => ∃ (sd2 : Nat) (md2 : Nat) (fd2 : Nat → Int32), (sd2 ≤ 40) ∧ (md2 ≤ 200) ∧ ((md2, sd2, fd2) = (wdC fle fli fo fbl fbs cn kq 7 nq fm (md, sd, fd)).2) ∧ va_P (dC, dI) vwCl [(h0, .inr (5, [.ref u0, .int (nI sd2), .int (nI md2), .int (nI kq)])), (u0, .inl (ku0, 40, .inl fd2)), (p1, .inr (1, [w0, .ref b1, w2, .ref b3, w4, w5, .int (nI cn), w7])), (b1, .inl (kb1, 10, .inl fle)), (b3, .inl (kb3, 100, .inl fli)), (p3, .inr (0, [.ref e0, .ref e1, .ref e2])), (e0, .inl (ke0, 8, .inl fo)), (e1, .inl (ke1, 80, .inl fbl)), (e2, .inl (ke2, 960, .inl fbs))] t.heap ∧ va_K (dC, dI) vwCl [(ku0, .int), (kb1, .int), (kb3, .int), (ke0, .int), (ke1, .int), (ke2, .char)] t ∧ va_D (va_A [(h0, .inr (5, [.ref u0, .int (nI sd), .int (nI md), .int (nI kq)])), (u0, .inl (ku0, 40, .inl fd)), (p1, .inr (1, [w0, .ref b1, w2, .ref b3, w4, w5, .int (nI cn), w7])), (b1, .inl (kb1, 10, .inl fle)), (b3, .inl (kb3, 100, .inl fli)), (p3, .inr (0, [.ref e0, .ref e1, .ref e2])), (e0, .inl (ke0, 8, .inl fo)), (e1, .inl (ke1, 80, .inl fbl)), (e2, .inl (ke2, 960, .inl fbs))] sz) [(h0, .inr (5, [.ref u0, .int (nI sd2), .int (nI md2), .int (nI kq)])), (u0, .inl (ku0, 40, .inl fd2)), (p1, .inr (1, [w0, .ref b1, w2, .ref b3, w4, w5, .int (nI cn), w7])), (b1, .inl (kb1, 10, .inl fle)), (b3, .inl (kb3, 100, .inl fli)), (p3, .inr (0, [.ref e0, .ref e1, .ref e2])), (e0, .inl (ke0, 8, .inl fo)), (e1, .inl (ke1, 80, .inl fbl)), (e2, .inl (ke2, 960, .inl fbs))]) (va_A [(h0, .inr (5, [.ref u0, .int (nI sd), .int (nI md), .int (nI kq)])), (u0, .inl (ku0, 40, .inl fd)), (p1, .inr (1, [w0, .ref b1, w2, .ref b3, w4, w5, .int (nI cn), w7])), (b1, .inl (kb1, 10, .inl fle)), (b3, .inl (kb3, 100, .inl fli)), (p3, .inr (0, [.ref e0, .ref e1, .ref e2])), (e0, .inl (ke0, 8, .inl fo)), (e1, .inl (ke1, 80, .inl fbl)), (e2, .inl (ke2, 960, .inl fbs))] sz)) 0 0 (va_A [(h0, .inr (5, [.ref u0, .int (nI sd), .int (nI md), .int (nI kq)])), (u0, .inl (ku0, 40, .inl fd)), (p1, .inr (1, [w0, .ref b1, w2, .ref b3, w4, w5, .int (nI cn), w7])), (b1, .inl (kb1, 10, .inl fle)), (b3, .inl (kb3, 100, .inl fli)), (p3, .inr (0, [.ref e0, .ref e1, .ref e2])), (e0, .inl (ke0, 8, .inl fo)), (e1, .inl (ke1, 80, .inl fbl)), (e2, .inl (ke2, 960, .inl fbs))] sz) := by
  refine Met.ofW (cc := cX5_work) (maxL := 12) (ret := (some .int)) (by decide) rfl ?_
  intro p e s m args below meth c s₁ B hml hv
  obtain ⟨rfl, hsz, hN, hP, hK, hD0⟩ := hv
  have hx := B.exec
  have hb := B.bytes
  have hr := B.returns
  have hts0 := atoms_spec (ws := (wq yX5_work cX5_work 12 (some .int))) B.pre
  have hts : ∀ w ∈ BG, w.before _ s = true := fun w h => hts0 w (List.mem_cons_of_mem _ h)
  have hown : s.vm.findClass RX5 = some m.cls := findClass_of_methodNamed B.named
  have hlocks := B.notSynchronized
  subst hsz
  have hD := hD0.self (sz := s.heap.size)
  generalize hAe : va_A [(h0, .inr (5, [.ref u0, .int (nI sd), .int (nI md), .int (nI kq)])), (u0, .inl (ku0, 40, .inl fd)), (p1, .inr (1, [w0, .ref b1, w2, .ref b3, w4, w5, .int (nI cn), w7])), (b1, .inl (kb1, 10, .inl fle)), (b3, .inl (kb3, 100, .inl fli)), (p3, .inr (0, [.ref e0, .ref e1, .ref e2])), (e0, .inl (ke0, 8, .inl fo)), (e1, .inl (ke1, 80, .inl fbl)), (e2, .inl (ke2, 960, .inl fbs))] s.heap.size = A at hD ⊢
  have hA : ∀ q : Nat, s.heap.size ≤ q → A q := fun q h => by rw [← hAe]; exact Or.inr h
  have hS : va_S A s.heap s.heap [] := va_S.rf
  clear hAe hD0
  have hP : va_P (dC, dI) vwCl [(h0, .inr (5, [.ref u0, .int (nI sd), .int (nI md), .int (nI kq)])), (u0, .inl (ku0, 40, .inl fd)), (p1, .inr (1, [w0, .ref b1, w2, .ref b3, w4, w5, .int (nI cn), w7])), (b1, .inl (kb1, 10, .inl fle)), (b3, .inl (kb3, 100, .inl fli)), (p3, .inr (0, [.ref e0, .ref e1, .ref e2])), (e0, .inl (ke0, 8, .inl fo)), (e1, .inl (ke1, 80, .inl fbl)), (e2, .inl (ke2, 960, .inl fbs))] s.heap := hP
  have hl := lv_entry ([.ref h0, .ref p1, .ref p3, .int (nI nq), .int (nI fm), .int 2]) (n := 12) (Nat.le_of_ble_eq_true rfl)
  rw [lg_entry_eq]
  generalize (lg_sl ([.ref h0, .ref p1, .ref p3, .int (nI nq), .int (nI fm), .int 2]) ++ List.replicate (12 - (lg_sl ([.ref h0, .ref p1, .ref p3, .int (nI nq), .int (nI fm), .int 2])).length) Slot.unset).toArray = ls at hl ⊢
  have hl : lv_has ls 12 [(0, .ref h0), (1, .ref p1), (2, .ref p3), (3, .int (nI nq)), (4, .int (nI fm)), (5, .int 2)] := hl
  have hle9 := lenN_le (n := nI kq) hc hle
  refine lv_iload hx hb dX5_work_0 (lv_at hl 5 rfl) ?_
  refine lv_bipush (v := 9) hx hb dX5_work_2 (by decide) ?_
  refine lv_icmp_ge (tgt := 17) hx hb dX5_work_4 (by decide) (fun h => absurd h (by decide)) (fun _ => ?_)
  refine lv_aload_n hx hb dX5_work_7 rfl (lv_at hl 0 rfl) ?_
  refine va_get (D := (dC, dI)) (ci := 5) (v := .int (nI md)) (C := RX5) (T := TX5) (N := 4) hx hb hts inB_5 hown hK hP 0 rfl rfl 2 (by decide) (hts _ mw_1_110) (fun _ h9 => h9) rfl dX5_work_8 ?_
  refine lv_sipush (v := 200) hx hb dX5_work_11 (by decide) ?_
  refine lv_icmp_lt (tgt := 19) hx hb dX5_work_14 (by decide) (fun c_1 => ?_) (fun c_1 => ?_)
  · have b_2 := gx_lt (X := ((md : Nat) : Int)) (C := 200) (nI_toInt (by omega)) (by decide) c_1
    refine lv_aload_n hx hb dX5_work_19 rfl (lv_at hl 0 rfl) ?_
    refine lv_dup hx hb dX5_work_20 rfl ?_
    refine va_get (D := (dC, dI)) (ci := 5) (v := .int (nI md)) (C := RX5) (T := TX5) (N := 4) hx hb hts inB_5 hown hK hP 0 rfl rfl 2 (by decide) (hts _ mw_1_110) (fun _ h9 => h9) rfl dX5_work_21 ?_
    refine lv_iconst (v := 1) hx hb dX5_work_24 (by decide) ?_
    refine lv_iadd hx hb dX5_work_25 ?_
    refine hx_top (y := (nI (md + 1))) (nI_add md 1) ?_
    refine va_put (D := (dC, dI)) (ci := 5) (v := .int (nI (md + 1))) (ty := .int) (C := RX5) (T := TX5) (N := 4) hx hb hts inB_5 tyX5 tyX5_ok nmX5 hown hK hP hD hS 0 rfl rfl 2 (by decide) (hts _ mw_1_110) (fun _ h9 => h9) rfl (by decide +kernel) rfl rfl (Nat.le_of_ble_eq_true rfl) dX5_work_26 (fun H locs hP hD hS => ?_)
    have hP : va_P (dC, dI) vwCl [(h0, .inr (5, [.ref u0, .int (nI sd), .int (nI (md + 1)), .int (nI kq)])), (u0, .inl (ku0, 40, .inl fd)), (p1, .inr (1, [w0, .ref b1, w2, .ref b3, w4, w5, .int (nI cn), w7])), (b1, .inl (kb1, 10, .inl fle)), (b3, .inl (kb3, 100, .inl fli)), (p3, .inr (0, [.ref e0, .ref e1, .ref e2])), (e0, .inl (ke0, 8, .inl fo)), (e1, .inl (ke1, 80, .inl fbl)), (e2, .inl (ke2, 960, .inl fbs))] H := hP
    have hD : va_D A [(h0, .inr (5, [.ref u0, .int (nI sd), .int (nI (md + 1)), .int (nI kq)])), (u0, .inl (ku0, 40, .inl fd)), (p1, .inr (1, [w0, .ref b1, w2, .ref b3, w4, w5, .int (nI cn), w7])), (b1, .inl (kb1, 10, .inl fle)), (b3, .inl (kb3, 100, .inl fli)), (p3, .inr (0, [.ref e0, .ref e1, .ref e2])), (e0, .inl (ke0, 8, .inl fo)), (e1, .inl (ke1, 80, .inl fbl)), (e2, .inl (ke2, 960, .inl fbs))] := hD
    refine lv_aload_n hx hb dX5_work_29 rfl (lv_at hl 1 rfl) ?_
    refine lv_aload_n hx hb dX5_work_30 rfl (lv_at hl 0 rfl) ?_
    refine va_get (D := (dC, dI)) (ci := 5) (v := .int (nI kq)) (C := RX5) (T := TX5) (N := 4) hx hb hts inB_5 hown hK hP 0 rfl rfl 3 (by decide) (hts _ mw_1_111) (fun _ h9 => h9) rfl dX5_work_31 ?_
    refine lv_aload_n hx hb dX5_work_34 rfl (lv_at hl 2 rfl) ?_
    refine lv_iload_n hx hb dX5_work_35 rfl (lv_at hl 3 rfl) ?_
    have hPc := hP.sub (ws' := [(p3, .inr (0, [.ref e0, .ref e1, .ref e2])), (e0, .inl (ke0, 8, .inl fo))]) [5, 6] rfl
    have hDc := hD.sub (ws' := [(p3, .inr (0, [.ref e0, .ref e1, .ref e2])), (e0, .inl (ke0, 8, .inl fo))]) [5, 6] (by decide) rfl
    have hKc := hK.sub (tys' := [(ke0, .int)]) [3] rfl
    refine va_calli (va_runV (As := [.int (nI nq)]) (rest := [.int (nI kq), .ref p1]) ⟨hx, hb, hml, hown, hts⟩ (c_own l dC dI H.size p3 e0 (.ref e1) (.ref e2) ke0 fo nq hnq) (cwV 1 hts (gV mw_2_169 mw_2_105 mw_2_106 mw_1_5 mw_2_107) rfl rfl rfl (by decide +kernel) ⟨Nat.le_of_ble_eq_true rfl, Nat.le_of_ble_eq_true rfl⟩) ⟨pcW_blind, va_recv hKc hPc (ci := 0) (q0 := 0) rfl rfl, pcW_at hPc hKc hDc hN⟩ rfl rfl hl.1 rfl (lv_room (Nat.le_of_ble_eq_true rfl)) dX5_work_36 ⟨Nat.le_of_ble_eq_true rfl, Nat.le_of_ble_eq_true rfl⟩) hS (fun q h1 h2 => absurd h2 (Nat.not_le.mpr h1)) (fun q h => hA q (Nat.le_trans hS.1 h)) (fun r_3 u t H1 locs ht hvm hw_3 hB hz1 hk1 hS => ?_)
    have hP := keepP hP hk1
    clear hz1 hk1 hB ht hvm hPc hDc hKc
    generalize H1 = H at hP hS ⊢
    obtain rfl : r_3 = (fo nq) := hw_3
    refine lv_iload hx hb dX5_work_39 (lv_at hl 4 rfl) ?_
    have hPc := hP.sub (ws' := [(p1, .inr (1, [w0, .ref b1, w2, .ref b3, w4, w5, .int (nI cn), w7])), (b1, .inl (kb1, 10, .inl fle)), (b3, .inl (kb3, 100, .inl fli))]) [2, 3, 4] rfl
    have hDc := hD.sub (ws' := [(p1, .inr (1, [w0, .ref b1, w2, .ref b3, w4, w5, .int (nI cn), w7])), (b1, .inl (kb1, 10, .inl fle)), (b3, .inl (kb3, 100, .inl fli))]) [2, 3, 4] (by decide) rfl
    have hKc := hK.sub (tys' := [(kb1, .int), (kb3, .int)]) [1, 2] rfl
    refine va_calli (va_runV (As := [.int (nI kq), .int (fo nq), .int (nI fm)]) (rest := []) ⟨hx, hb, hml, hown, hts⟩ (c_whereFirst l dC dI H.size p1 (w0) b1 (w2) b3 (w4) (w5) cn (w7) kb1 fle kb3 fli kq (fo nq) fm hc hle hlk hkq (by omega)) (cwV 3 hts (gV mw_2_170 mw_2_146 mw_2_147 mw_1_2 mw_2_148) rfl rfl rfl (by decide +kernel) ⟨Nat.le_of_ble_eq_true rfl, Nat.le_of_ble_eq_true rfl⟩) ⟨pcW_blind, va_recv hKc hPc (ci := 1) (q0 := 0) rfl rfl, pcW_at hPc hKc hDc hN⟩ rfl rfl hl.1 rfl (lv_room (Nat.le_of_ble_eq_true rfl)) dX5_work_41 ⟨Nat.le_of_ble_eq_true rfl, Nat.le_of_ble_eq_true rfl⟩) hS (fun q h1 h2 => absurd h2 (Nat.not_le.mpr h1)) (fun q h => hA q (Nat.le_trans hS.1 h)) (fun r_4 u t H1 locs ht hvm hw_4 hB hz1 hk1 hS => ?_)
    have hP := keepP hP hk1
    clear hz1 hk1 hB ht hvm hPc hDc hKc
    generalize H1 = H at hP hS ⊢
    refine lv_istore (lv' := [(6, .int r_4), (0, .ref h0), (1, .ref p1), (2, .ref p3), (3, .int (nI nq)), (4, .int (nI fm)), (5, .int 2)]) hx hb dX5_work_44 hl (by decide) rfl (fun ls hl => ?_)
    rcases wf_cases hw_4 with eq9 | ⟨q9, hq9, eq9⟩
    · subst eq9
      refine lv_iload hx hb dX5_work_46 (lv_at hl 0 rfl) ?_
      refine lv_bipush (v := (-6)) hx hb dX5_work_48 (by decide) ?_
      refine lv_icmp_ne (tgt := 55) hx hb dX5_work_50 (by decide) (fun h => absurd h (by decide)) (fun _ => ?_)
      refine lv_iconst (v := 1) hx hb dX5_work_53 (by decide) ?_
      have hP9 := hP.sub (ws' := [(h0, .inr (5, [.ref u0, .int (nI sd), .int (nI (md + 1)), .int (nI kq)])), (u0, .inl (ku0, 40, .inl fd)), (p1, .inr (1, [w0, .ref b1, w2, .ref b3, w4, w5, .int (nI cn), w7])), (b1, .inl (kb1, 10, .inl fle)), (b3, .inl (kb3, 100, .inl fli)), (p3, .inr (0, [.ref e0, .ref e1, .ref e2])), (e0, .inl (ke0, 8, .inl fo)), (e1, .inl (ke1, 80, .inl fbl)), (e2, .inl (ke2, 960, .inl fbs))]) [0, 1, 2, 3, 4, 5, 6, 7, 8] rfl
      have hD9 := hD.sub (ws' := [(h0, .inr (5, [.ref u0, .int (nI sd), .int (nI (md + 1)), .int (nI kq)])), (u0, .inl (ku0, 40, .inl fd)), (p1, .inr (1, [w0, .ref b1, w2, .ref b3, w4, w5, .int (nI cn), w7])), (b1, .inl (kb1, 10, .inl fle)), (b3, .inl (kb3, 100, .inl fli)), (p3, .inr (0, [.ref e0, .ref e1, .ref e2])), (e0, .inl (ke0, 8, .inl fo)), (e1, .inl (ke1, 80, .inl fbl)), (e2, .inl (ke2, 960, .inl fbs))]) [0, 1, 2, 3, 4, 5, 6, 7, 8] (by decide) rfl
      have hK9 := hK.sub (tys' := [(ku0, .int), (kb1, .int), (kb3, .int), (ke0, .int), (ke1, .int), (ke2, .char)]) [0, 1, 2, 3, 4, 5] rfl
      exact W.iret (v := 1) hx hb hr (fun t ht hW => ⟨⟨1, (), rfl, (r4 (wd_noC (d := 6) hw_4 (by omega))).1, sd, (md + 1), fd, hsd, (by omega), (Prod.ext (r4 (wd_noC (d := 6) hw_4 (by omega))).2.1 (Prod.ext (r4 (wd_noC (d := 6) hw_4 (by omega))).2.2.1 (r4 (wd_noC (d := 6) hw_4 (by omega))).2.2.2)), by rw [ht]; exact hP9, va_K.moved hW.alike hK9, hD9⟩, hS.F ht⟩) hS.2.2 dX5_work_54
    · subst eq9
      refine lv_iload hx hb dX5_work_46 (lv_at hl 0 rfl) ?_
      refine lv_bipush (v := (-6)) hx hb dX5_work_48 (by decide) ?_
      refine lv_icmp_ne (tgt := 55) hx hb dX5_work_50 (by decide) (fun c_5 => ?_) (fun h => absurd (gn_ne (X := ((q9 : Nat) : Int)) (C := (-6)) (nI_toInt (by omega)) (by decide) h) (by omega))
      have b_6 := gx_ne (X := ((q9 : Nat) : Int)) (C := (-6)) (nI_toInt (by omega)) (by decide) c_5
      refine lv_aload_n hx hb dX5_work_55 rfl (lv_at hl 2 rfl) ?_
      refine lv_aload_n hx hb dX5_work_56 rfl (lv_at hl 1 rfl) ?_
      refine va_get (D := (dC, dI)) (ci := 5) (v := .int (nI kq)) (C := RX5) (T := TX5) (N := 4) hx hb hts inB_5 hown hK hP 0 rfl rfl 3 (by decide) (hts _ mw_1_111) (fun _ h9 => h9) rfl dX5_work_57 ?_
      refine lv_iload hx hb dX5_work_60 (lv_at hl 0 rfl) ?_
      have hPc := hP.sub (ws' := [(p1, .inr (1, [w0, .ref b1, w2, .ref b3, w4, w5, .int (nI cn), w7])), (b1, .inl (kb1, 10, .inl fle)), (b3, .inl (kb3, 100, .inl fli))]) [2, 3, 4] rfl
      have hDc := hD.sub (ws' := [(p1, .inr (1, [w0, .ref b1, w2, .ref b3, w4, w5, .int (nI cn), w7])), (b1, .inl (kb1, 10, .inl fle)), (b3, .inl (kb3, 100, .inl fli))]) [2, 3, 4] (by decide) rfl
      have hKc := hK.sub (tys' := [(kb1, .int), (kb3, .int)]) [1, 2] rfl
      refine va_calli (va_runV (As := [.int (nI kq), .int (nI q9)]) (rest := []) ⟨hx, hb, hml, hown, hts⟩ (c_inLine l dC dI H.size p1 (w0) b1 (w2) b3 (w4) (w5) cn (w7) kb1 fle kb3 fli kq q9 hc hle (by omega) hkq) (cwV 2 hts (gV mw_2_171 mw_1_234 mw_1_235 mw_1_2 mw_1_236) rfl rfl rfl (by decide +kernel) ⟨Nat.le_of_ble_eq_true rfl, Nat.le_of_ble_eq_true rfl⟩) ⟨pcW_blind, va_recv hKc hPc (ci := 1) (q0 := 0) rfl rfl, pcW_at hPc hKc hDc hN⟩ rfl rfl hl.1 rfl (lv_room (Nat.le_of_ble_eq_true rfl)) dX5_work_62 ⟨Nat.le_of_ble_eq_true rfl, Nat.le_of_ble_eq_true rfl⟩) hS (fun q h1 h2 => absurd h2 (Nat.not_le.mpr h1)) (fun q h => hA q (Nat.le_trans hS.1 h)) (fun r_7 u t H1 locs ht hvm hw_7 hB hz1 hk1 hS => ?_)
      have hP := keepP hP hk1
      clear hz1 hk1 hB ht hvm hPc hDc hKc
      generalize H1 = H at hP hS ⊢
      obtain rfl : r_7 = (fli (10 * kq + q9)) := hw_7
      obtain ⟨ow, how, eow⟩ := hlk kq (by omega) q9 (by rw [← lenN_k (f := fle) (c := cn) (by omega) (by omega)]; exact hq9)
      refine hx_top (y := (nI ow)) eow ?_
      refine lv_istore (lv' := [(7, .int (nI ow)), (6, .int (nI q9)), (0, .ref h0), (1, .ref p1), (2, .ref p3), (3, .int (nI nq)), (4, .int (nI fm)), (5, .int 2)]) hx hb dX5_work_65 hl (by decide) rfl (fun ls hl => ?_)
      refine lv_aload_n hx hb dX5_work_67 rfl (lv_at hl 4 rfl) ?_
      refine lv_iload hx hb dX5_work_68 (lv_at hl 0 rfl) ?_
      refine lv_iload_n hx hb dX5_work_70 rfl (lv_at hl 5 rfl) ?_
      have hPc := hP.sub (ws' := [(p3, .inr (0, [.ref e0, .ref e1, .ref e2])), (e1, .inl (ke1, 80, .inl fbl))]) [5, 7] rfl
      have hDc := hD.sub (ws' := [(p3, .inr (0, [.ref e0, .ref e1, .ref e2])), (e1, .inl (ke1, 80, .inl fbl))]) [5, 7] (by decide) rfl
      have hKc := hK.sub (tys' := [(ke1, .int)]) [4] rfl
      refine va_calli (va_runV (As := [.int (nI ow), .int (nI nq)]) (rest := []) ⟨hx, hb, hml, hown, hts⟩ (c_blenN l dC dI H.size p3 (.ref e0) e1 (.ref e2) ke1 fbl ow nq hbl (by omega) hnq) (cwV 2 hts (gV mw_2_172 mw_2_173 mw_2_174 mw_1_5 mw_2_175) rfl rfl rfl (by decide +kernel) ⟨Nat.le_of_ble_eq_true rfl, Nat.le_of_ble_eq_true rfl⟩) ⟨pcW_blind, va_recv hKc hPc (ci := 0) (q0 := 0) rfl rfl, pcW_at hPc hKc hDc hN⟩ rfl rfl hl.1 rfl (lv_room (Nat.le_of_ble_eq_true rfl)) dX5_work_71 ⟨Nat.le_of_ble_eq_true rfl, Nat.le_of_ble_eq_true rfl⟩) hS (fun q h1 h2 => absurd h2 (Nat.not_le.mpr h1)) (fun q h => hA q (Nat.le_trans hS.1 h)) (fun r_8 u t H1 locs ht hvm hw_8 hB hz1 hk1 hS => ?_)
      have hP := keepP hP hk1
      clear hz1 hk1 hB ht hvm hPc hDc hKc
      generalize H1 = H at hP hS ⊢
      obtain rfl : r_8 = nI ((fbl (8 * ow + nq)).toNatClampNeg) := hw_8
      have b_9 := (bd_cle0 hbl (show 8 * ow + nq < 80 by omega) : (fbl (8 * ow + nq)).toNatClampNeg ≤ 12)
      refine lv_istore (lv' := [(8, .int (nI ((fbl (8 * ow + nq)).toNatClampNeg))), (7, .int (nI ow)), (6, .int (nI q9)), (0, .ref h0), (1, .ref p1), (2, .ref p3), (3, .int (nI nq)), (4, .int (nI fm)), (5, .int 2)]) hx hb dX5_work_74 hl (by decide) rfl (fun ls hl => ?_)
      refine lv_iconst (v := 0) hx hb dX5_work_76 (by decide) ?_
      refine lv_istore (lv' := [(9, .int 0), (8, .int (nI ((fbl (8 * ow + nq)).toNatClampNeg))), (7, .int (nI ow)), (6, .int (nI q9)), (0, .ref h0), (1, .ref p1), (2, .ref p3), (3, .int (nI nq)), (4, .int (nI fm)), (5, .int 2)]) hx hb dX5_work_77 hl (by decide) rfl (fun ls hl => ?_)
      refine lv_iconst (v := 0) hx hb dX5_work_79 (by decide) ?_
      refine lv_istore (lv' := [(10, .int 0), (9, .int 0), (8, .int (nI ((fbl (8 * ow + nq)).toNatClampNeg))), (7, .int (nI ow)), (6, .int (nI q9)), (0, .ref h0), (1, .ref p1), (2, .ref p3), (3, .int (nI nq)), (4, .int (nI fm)), (5, .int 2)]) hx hb dX5_work_80 hl (by decide) rfl (fun ls hl => ?_)
      have key_10 : ∀ (fu : Nat) (k9 : Nat) (en : Int32) (sdx : Nat) (mdx : Nat) (fdx : Nat → Int32), (k9 ≤ 12) → (sdx ≤ 40) → (mdx ≤ 200) → (sgL (wdC fle fli fo fbl fbs cn kq 6) nq q9 (fun i => fbs (12 * (8 * ow + nq) + i)) ((fbl (8 * ow + nq)).toNatClampNeg - k9) k9 (en, mdx, sdx, fdx) = (wdC fle fli fo fbl fbs cn kq 7 nq fm (md, sd, fd))) → 12 - k9 < fu → ∀ (H : Heap) (locs : List Loc), va_P (dC, dI) vwCl [(h0, .inr (5, [.ref u0, .int (nI sdx), .int (nI mdx), .int (nI kq)])), (u0, .inl (ku0, 40, .inl fdx)), (p1, .inr (1, [w0, .ref b1, w2, .ref b3, w4, w5, .int (nI cn), w7])), (b1, .inl (kb1, 10, .inl fle)), (b3, .inl (kb3, 100, .inl fli)), (p3, .inr (0, [.ref e0, .ref e1, .ref e2])), (e0, .inl (ke0, 8, .inl fo)), (e1, .inl (ke1, 80, .inl fbl)), (e2, .inl (ke2, 960, .inl fbs))] H → va_D A [(h0, .inr (5, [.ref u0, .int (nI sdx), .int (nI mdx), .int (nI kq)])), (u0, .inl (ku0, 40, .inl fdx)), (p1, .inr (1, [w0, .ref b1, w2, .ref b3, w4, w5, .int (nI cn), w7])), (b1, .inl (kb1, 10, .inl fle)), (b3, .inl (kb3, 100, .inl fli)), (p3, .inr (0, [.ref e0, .ref e1, .ref e2])), (e0, .inl (ke0, 8, .inl fo)), (e1, .inl (ke1, 80, .inl fbl)), (e2, .inl (ke2, 960, .inl fbs))] → va_S A s.heap H locs → ∀ (ls : Array Slot), lv_has ls 12 [(10, .int (nI k9)), (9, .int en), (8, .int (nI ((fbl (8 * ow + nq)).toNatClampNeg))), (7, .int (nI ow)), (6, .int (nI q9)), (0, .ref h0), (1, .ref p1), (2, .ref p3), (3, .int (nI nq)), (4, .int (nI fm)), (5, .int 2)] → W p l e (headSpec (wq yX5_work cX5_work 12 (some .int)) ({ frames := 10, cells := 0, slots := 0, locals := 272 })).room s m (([.ref h0, .ref p1, .ref p3, .int (nI nq), .int (nI fm), .int 2] : List Value)).toArray below meth c H locs 0 0 (MQ below (va_Qi (fun (r : Int32) (_ : Unit) => r = (wdC fle fli fo fbl fbs cn kq 7 nq fm (md, sd, fd)).1) (fun _ t => ∃ (sd2 : Nat) (md2 : Nat) (fd2 : Nat → Int32), (sd2 ≤ 40) ∧ (md2 ≤ 200) ∧ ((md2, sd2, fd2) = (wdC fle fli fo fbl fbs cn kq 7 nq fm (md, sd, fd)).2) ∧ va_P (dC, dI) vwCl [(h0, .inr (5, [.ref u0, .int (nI sd2), .int (nI md2), .int (nI kq)])), (u0, .inl (ku0, 40, .inl fd2)), (p1, .inr (1, [w0, .ref b1, w2, .ref b3, w4, w5, .int (nI cn), w7])), (b1, .inl (kb1, 10, .inl fle)), (b3, .inl (kb3, 100, .inl fli)), (p3, .inr (0, [.ref e0, .ref e1, .ref e2])), (e0, .inl (ke0, 8, .inl fo)), (e1, .inl (ke1, 80, .inl fbl)), (e2, .inl (ke2, 960, .inl fbs))] t.heap ∧ va_K (dC, dI) vwCl [(ku0, .int), (kb1, .int), (kb3, .int), (ke0, .int), (ke1, .int), (ke2, .char)] t ∧ va_D A [(h0, .inr (5, [.ref u0, .int (nI sd2), .int (nI md2), .int (nI kq)])), (u0, .inl (ku0, 40, .inl fd2)), (p1, .inr (1, [w0, .ref b1, w2, .ref b3, w4, w5, .int (nI cn), w7])), (b1, .inl (kb1, 10, .inl fle)), (b3, .inl (kb3, 100, .inl fli)), (p3, .inr (0, [.ref e0, .ref e1, .ref e2])), (e0, .inl (ke0, 8, .inl fo)), (e1, .inl (ke1, 80, .inl fbl)), (e2, .inl (ke2, 960, .inl fbs))]) A) (([.ref h0, .ref p1, .ref p3, .int (nI nq), .int (nI fm), .int 2] : List Value)).toArray s 0 0 A) (F0 m 82 ls []) := by
        intro fu
        induction fu with
        | zero => intro k9 en sdx mdx fdx hk hsx hmx hlp hme; exact absurd hme (Nat.not_lt_zero _)
        | succ fu ih_11 =>
          intro k9 en sdx mdx fdx hk hsx hmx hlp hme H locs hP hD hS ls hl
          refine lv_iload hx hb dX5_work_82 (lv_at hl 0 rfl) ?_
          refine lv_iload hx hb dX5_work_84 (lv_at hl 2 rfl) ?_
          refine lv_icmp_ge (tgt := 184) hx hb dX5_work_86 (by decide) (fun c_12 => ?_) (fun c_12 => ?_)
          · have b_13 := gx_ge (X := ((k9 : Nat) : Int)) (C := (((fbl (8 * ow + nq)).toNatClampNeg : Nat) : Int)) (nI_toInt (by omega)) (nI_toInt (by omega)) c_12
            refine lv_iload hx hb dX5_work_184 (lv_at hl 1 rfl) ?_
            have hP9 := hP.sub (ws' := [(h0, .inr (5, [.ref u0, .int (nI sdx), .int (nI mdx), .int (nI kq)])), (u0, .inl (ku0, 40, .inl fdx)), (p1, .inr (1, [w0, .ref b1, w2, .ref b3, w4, w5, .int (nI cn), w7])), (b1, .inl (kb1, 10, .inl fle)), (b3, .inl (kb3, 100, .inl fli)), (p3, .inr (0, [.ref e0, .ref e1, .ref e2])), (e0, .inl (ke0, 8, .inl fo)), (e1, .inl (ke1, 80, .inl fbl)), (e2, .inl (ke2, 960, .inl fbs))]) [0, 1, 2, 3, 4, 5, 6, 7, 8] rfl
            have hD9 := hD.sub (ws' := [(h0, .inr (5, [.ref u0, .int (nI sdx), .int (nI mdx), .int (nI kq)])), (u0, .inl (ku0, 40, .inl fdx)), (p1, .inr (1, [w0, .ref b1, w2, .ref b3, w4, w5, .int (nI cn), w7])), (b1, .inl (kb1, 10, .inl fle)), (b3, .inl (kb3, 100, .inl fli)), (p3, .inr (0, [.ref e0, .ref e1, .ref e2])), (e0, .inl (ke0, 8, .inl fo)), (e1, .inl (ke1, 80, .inl fbl)), (e2, .inl (ke2, 960, .inl fbs))]) [0, 1, 2, 3, 4, 5, 6, 7, 8] (by decide) rfl
            have hK9 := hK.sub (tys' := [(ku0, .int), (kb1, .int), (kb3, .int), (ke0, .int), (ke1, .int), (ke2, .char)]) [0, 1, 2, 3, 4, 5] rfl
            exact W.iret (v := en) hx hb hr (fun t ht hW => ⟨⟨en, (), rfl, (r4 ((sgl_end (Or.inl (by omega))).symm.trans hlp)).1, sdx, mdx, fdx, hsx, hmx, (Prod.ext (r4 ((sgl_end (Or.inl (by omega))).symm.trans hlp)).2.1 (Prod.ext (r4 ((sgl_end (Or.inl (by omega))).symm.trans hlp)).2.2.1 (r4 ((sgl_end (Or.inl (by omega))).symm.trans hlp)).2.2.2)), by rw [ht]; exact hP9, va_K.moved hW.alike hK9, hD9⟩, hS.F ht⟩) hS.2.2 dX5_work_186
          · have b_13 := gn_ge (X := ((k9 : Nat) : Int)) (C := (((fbl (8 * ow + nq)).toNatClampNeg : Nat) : Int)) (nI_toInt (by omega)) (nI_toInt (by omega)) c_12
            refine lv_iload hx hb dX5_work_89 (lv_at hl 1 rfl) ?_
            refine lv_if_ne (tgt := 184) hx hb dX5_work_91 (by decide) (fun c_14 => ?_) (fun c_14 => ?_)
            · have b_15 := gx_ne (X := (Int32.toInt en)) (C := 0) rfl (by decide) c_14
              refine lv_iload hx hb dX5_work_184 (lv_at hl 1 rfl) ?_
              have hP9 := hP.sub (ws' := [(h0, .inr (5, [.ref u0, .int (nI sdx), .int (nI mdx), .int (nI kq)])), (u0, .inl (ku0, 40, .inl fdx)), (p1, .inr (1, [w0, .ref b1, w2, .ref b3, w4, w5, .int (nI cn), w7])), (b1, .inl (kb1, 10, .inl fle)), (b3, .inl (kb3, 100, .inl fli)), (p3, .inr (0, [.ref e0, .ref e1, .ref e2])), (e0, .inl (ke0, 8, .inl fo)), (e1, .inl (ke1, 80, .inl fbl)), (e2, .inl (ke2, 960, .inl fbs))]) [0, 1, 2, 3, 4, 5, 6, 7, 8] rfl
              have hD9 := hD.sub (ws' := [(h0, .inr (5, [.ref u0, .int (nI sdx), .int (nI mdx), .int (nI kq)])), (u0, .inl (ku0, 40, .inl fdx)), (p1, .inr (1, [w0, .ref b1, w2, .ref b3, w4, w5, .int (nI cn), w7])), (b1, .inl (kb1, 10, .inl fle)), (b3, .inl (kb3, 100, .inl fli)), (p3, .inr (0, [.ref e0, .ref e1, .ref e2])), (e0, .inl (ke0, 8, .inl fo)), (e1, .inl (ke1, 80, .inl fbl)), (e2, .inl (ke2, 960, .inl fbs))]) [0, 1, 2, 3, 4, 5, 6, 7, 8] (by decide) rfl
              have hK9 := hK.sub (tys' := [(ku0, .int), (kb1, .int), (kb3, .int), (ke0, .int), (ke1, .int), (ke2, .char)]) [0, 1, 2, 3, 4, 5] rfl
              exact W.iret (v := en) hx hb hr (fun t ht hW => ⟨⟨en, (), rfl, (r4 ((sgl_end (Or.inr c_14)).symm.trans hlp)).1, sdx, mdx, fdx, hsx, hmx, (Prod.ext (r4 ((sgl_end (Or.inr c_14)).symm.trans hlp)).2.1 (Prod.ext (r4 ((sgl_end (Or.inr c_14)).symm.trans hlp)).2.2.1 (r4 ((sgl_end (Or.inr c_14)).symm.trans hlp)).2.2.2)), by rw [ht]; exact hP9, va_K.moved hW.alike hK9, hD9⟩, hS.F ht⟩) hS.2.2 dX5_work_186
            · have b_15 := gn_ne (X := (Int32.toInt en)) (C := 0) rfl (by decide) c_14
              refine lv_aload_n hx hb dX5_work_94 rfl (lv_at hl 7 rfl) ?_
              refine lv_iload hx hb dX5_work_95 (lv_at hl 3 rfl) ?_
              refine lv_iload_n hx hb dX5_work_97 rfl (lv_at hl 8 rfl) ?_
              refine lv_iload hx hb dX5_work_98 (lv_at hl 0 rfl) ?_
              have hPc := hP.sub (ws' := [(p3, .inr (0, [.ref e0, .ref e1, .ref e2])), (e1, .inl (ke1, 80, .inl fbl)), (e2, .inl (ke2, 960, .inl fbs))]) [5, 7, 8] rfl
              have hDc := hD.sub (ws' := [(p3, .inr (0, [.ref e0, .ref e1, .ref e2])), (e1, .inl (ke1, 80, .inl fbl)), (e2, .inl (ke2, 960, .inl fbs))]) [5, 7, 8] (by decide) rfl
              have hKc := hK.sub (tys' := [(ke1, .int), (ke2, .char)]) [4, 5] rfl
              refine va_calli (va_runV (As := [.int (nI ow), .int (nI nq), .int (nI k9)]) (rest := []) ⟨hx, hb, hml, hown, hts⟩ (c_bsignN l dC dI H.size p3 (.ref e0) e1 e2 ke1 fbl ke2 fbs ow nq k9 hbl hbs (by omega) hnq (by omega)) (cwV 3 hts (gV mw_2_176 mw_2_177 mw_2_178 mw_1_5 mw_2_179) rfl rfl rfl (by decide +kernel) ⟨Nat.le_of_ble_eq_true rfl, Nat.le_of_ble_eq_true rfl⟩) ⟨pcW_blind, va_recv hKc hPc (ci := 0) (q0 := 0) rfl rfl, pcW_at hPc hKc hDc hN⟩ rfl rfl hl.1 rfl (lv_room (Nat.le_of_ble_eq_true rfl)) dX5_work_100 ⟨Nat.le_of_ble_eq_true rfl, Nat.le_of_ble_eq_true rfl⟩) hS (fun q h1 h2 => absurd h2 (Nat.not_le.mpr h1)) (fun q h => hA q (Nat.le_trans hS.1 h)) (fun r_16 u t H1 locs ht hvm hw_16 hB hz1 hk1 hS => ?_)
              have hP := keepP hP hk1
              clear hz1 hk1 hB ht hvm hPc hDc hKc
              generalize H1 = H at hP hS ⊢
              obtain rfl : r_16 = (fbs (12 * (8 * ow + nq) + k9)) := hw_16
              refine lv_istore (lv' := [(11, .int (fbs (12 * (8 * ow + nq) + k9))), (10, .int (nI k9)), (9, .int en), (8, .int (nI ((fbl (8 * ow + nq)).toNatClampNeg))), (7, .int (nI ow)), (6, .int (nI q9)), (0, .ref h0), (1, .ref p1), (2, .ref p3), (3, .int (nI nq)), (4, .int (nI fm)), (5, .int 2)]) hx hb dX5_work_103 hl (by decide) rfl (fun ls hl => ?_)
              have hvc : (48 ≤ Int32.toInt (fbs (12 * (8 * ow + nq) + k9)) ∧ Int32.toInt (fbs (12 * (8 * ow + nq) + k9)) ≤ 57) ∨ (97 ≤ Int32.toInt (fbs (12 * (8 * ow + nq) + k9)) ∧ Int32.toInt (fbs (12 * (8 * ow + nq) + k9)) ≤ 104) ∨ Int32.toInt (fbs (12 * (8 * ow + nq) + k9)) = 94 := hcv (8 * ow + nq) (by omega) k9 (by omega)
              refine lv_iload hx hb dX5_work_105 (lv_at hl 0 rfl) ?_
              refine lv_bipush (v := 48) hx hb dX5_work_107 (by decide) ?_
              refine lv_icmp_lt (tgt := 133) hx hb dX5_work_109 (by decide) (fun h => absurd (gx_lt (X := (Int32.toInt (fbs (12 * (8 * ow + nq) + k9)))) (C := 48) rfl (by decide) h) (by omega)) (fun c_17 => ?_)
              have b_18 := gn_lt (X := (Int32.toInt (fbs (12 * (8 * ow + nq) + k9)))) (C := 48) rfl (by decide) c_17
              refine lv_iload hx hb dX5_work_112 (lv_at hl 0 rfl) ?_
              refine lv_bipush (v := 57) hx hb dX5_work_114 (by decide) ?_
              refine lv_icmp_gt (tgt := 133) hx hb dX5_work_116 (by decide) (fun c_19 => ?_) (fun c_19 => ?_)
              · have b_20 := gx_gt (X := (Int32.toInt (fbs (12 * (8 * ow + nq) + k9)))) (C := 57) rfl (by decide) c_19
                refine lv_iload hx hb dX5_work_133 (lv_at hl 0 rfl) ?_
                refine lv_bipush (v := 94) hx hb dX5_work_135 (by decide) ?_
                refine lv_icmp_ne (tgt := 160) hx hb dX5_work_137 (by decide) (fun c_21 => ?_) (fun c_21 => ?_)
                · have b_22 := gx_ne (X := (Int32.toInt (fbs (12 * (8 * ow + nq) + k9)))) (C := 94) rfl (by decide) c_21
                  refine lv_aload_n hx hb dX5_work_160 rfl (lv_at hl 6 rfl) ?_
                  refine lv_aload_n hx hb dX5_work_161 rfl (lv_at hl 7 rfl) ?_
                  refine lv_aload_n hx hb dX5_work_162 rfl (lv_at hl 8 rfl) ?_
                  refine lv_iload hx hb dX5_work_163 (lv_at hl 0 rfl) ?_
                  refine lv_bipush (v := 97) hx hb dX5_work_165 (by decide) ?_
                  refine lv_isub hx hb dX5_work_167 ?_
                  refine lv_topi (fun z_23 ez_23 => ?_)
                  have gz_23 := fx_rng (fbs (12 * (8 * ow + nq) + k9))
                  have fz_23 : Int32.toInt z_23 = (Int32.toInt (fbs (12 * (8 * ow + nq) + k9))) - 97 := by rw [ez_23]; exact gx_sub (X := (Int32.toInt (fbs (12 * (8 * ow + nq) + k9)))) (C := 97) rfl (by decide) (by omega) (by omega)
                  obtain ⟨j_24, tj_24, ej_24⟩ := fx_nat (x := z_23) (by omega)
                  subst ej_24
                  have yj_24 : Int32.toInt (nI j_24) = (j_24 : Int) := nI_toInt tj_24
                  refine lv_iconst (v := 0) hx hb dX5_work_168 (by decide) ?_
                  refine lv_iload hx hb dX5_work_169 (lv_at hl 11 rfl) ?_
                  refine lv_iconst (v := 1) hx hb dX5_work_171 (by decide) ?_
                  refine lv_iadd hx hb dX5_work_172 ?_
                  refine hx_top (y := 3) (by decide) ?_
                  have hPc := hP.sub (ws' := [(h0, .inr (5, [.ref u0, .int (nI sdx), .int (nI mdx), .int (nI kq)])), (u0, .inl (ku0, 40, .inl fdx)), (p1, .inr (1, [w0, .ref b1, w2, .ref b3, w4, w5, .int (nI cn), w7])), (b1, .inl (kb1, 10, .inl fle)), (b3, .inl (kb3, 100, .inl fli)), (p3, .inr (0, [.ref e0, .ref e1, .ref e2])), (e0, .inl (ke0, 8, .inl fo)), (e1, .inl (ke1, 80, .inl fbl)), (e2, .inl (ke2, 960, .inl fbs))]) [0, 1, 2, 3, 4, 5, 6, 7, 8] rfl
                  have hDc := hD.sub (ws' := [(h0, .inr (5, [.ref u0, .int (nI sdx), .int (nI mdx), .int (nI kq)])), (u0, .inl (ku0, 40, .inl fdx)), (p1, .inr (1, [w0, .ref b1, w2, .ref b3, w4, w5, .int (nI cn), w7])), (b1, .inl (kb1, 10, .inl fle)), (b3, .inl (kb3, 100, .inl fli)), (p3, .inr (0, [.ref e0, .ref e1, .ref e2])), (e0, .inl (ke0, 8, .inl fo)), (e1, .inl (ke1, 80, .inl fbl)), (e2, .inl (ke2, 960, .inl fbs))]) [0, 1, 2, 3, 4, 5, 6, 7, 8] (by decide) rfl
                  have hKc := hK.sub (tys' := [(ku0, .int), (kb1, .int), (kb3, .int), (ke0, .int), (ke1, .int), (ke2, .char)]) [0, 1, 2, 3, 4, 5] rfl
                  have hFc := va_free (wc := [(h0, .inr (5, [.ref u0, .int (nI sdx), .int (nI mdx), .int (nI kq)])), (u0, .inl (ku0, 40, .inl fdx)), (p1, .inr (1, [w0, .ref b1, w2, .ref b3, w4, w5, .int (nI cn), w7])), (b1, .inl (kb1, 10, .inl fle)), (b3, .inl (kb3, 100, .inl fli)), (p3, .inr (0, [.ref e0, .ref e1, .ref e2])), (e0, .inl (ke0, 8, .inl fo)), (e1, .inl (ke1, 80, .inl fbl)), (e2, .inl (ke2, 960, .inl fbs))]) hD hS hA [0, 1, 2, 3, 4, 5, 6, 7, 8] rfl
                  refine va_calli (va_runV (As := [.ref p1, .ref p3, .int (nI j_24), .int 0, .int 3]) (rest := []) ⟨hx, hb, hml, hown, hts⟩ (c_work3 l dC dI H.size h0 u0 sdx mdx kq ku0 fdx p1 (w0) b1 (w2) b3 (w4) (w5) cn (w7) kb1 fle kb3 fli p3 e0 e1 e2 ke0 fo ke1 fbl ke2 fbs j_24 0 hsx hc hle hbl hbs hlk hkq (by omega) (by omega) hmx hcv) (cwV 5 hts (gV mw_2_165 mw_2_167 mw_0_4 mw_1_6 mw_2_168) rfl rfl rfl (by decide +kernel) ⟨Nat.le_of_ble_eq_true rfl, Nat.le_of_ble_eq_true rfl⟩) ⟨pcW_blind, va_recv hKc hPc (ci := 5) (q0 := 0) rfl rfl, pcW_at hPc hKc hDc hN⟩ rfl rfl hl.1 rfl (lv_room (Nat.le_of_ble_eq_true rfl)) dX5_work_173 ⟨Nat.le_of_ble_eq_true rfl, Nat.le_of_ble_eq_true rfl⟩) hS (fun q _ h => hFc q h) hFc (fun r_25 u t H1 locs ht hvm hw_25 hB hz1 hk1 hS => ?_)
                  obtain ⟨q_26, q_27, f_28, p_29, p_30, p_31, hP1, hK1, hD1⟩ := hB
                  rw [ht] at hP1
                  have hK1 := va_K.moved hvm.symm hK1
                  obtain ⟨hP, hD⟩ := va_join (wr := []) (w1 := [(h0, .inr (5, [.ref u0, .int (nI q_26), .int (nI q_27), .int (nI kq)])), (u0, .inl (ku0, 40, .inl f_28)), (p1, .inr (1, [w0, .ref b1, w2, .ref b3, w4, w5, .int (nI cn), w7])), (b1, .inl (kb1, 10, .inl fle)), (b3, .inl (kb3, 100, .inl fli)), (p3, .inr (0, [.ref e0, .ref e1, .ref e2])), (e0, .inl (ke0, 8, .inl fo)), (e1, .inl (ke1, 80, .inl fbl)), (e2, .inl (ke2, 960, .inl fbs))]) hP hD [0, 1, 2, 3, 4, 5, 6, 7, 8] [] rfl rfl (by decide) (by decide) hk1 hFc hP1 hD1
                  have hK := (hK.sub (tys' := []) [] rfl).app hK1
                  clear hz1 hk1 hPc hDc hKc hFc
                  generalize H1 = H at hP hS ⊢
                  have hK : va_K (dC, dI) vwCl [(ku0, .int), (kb1, .int), (kb3, .int), (ke0, .int), (ke1, .int), (ke2, .char)] s := hK
                  have hP : va_P (dC, dI) vwCl [(h0, .inr (5, [.ref u0, .int (nI q_26), .int (nI q_27), .int (nI kq)])), (u0, .inl (ku0, 40, .inl f_28)), (p1, .inr (1, [w0, .ref b1, w2, .ref b3, w4, w5, .int (nI cn), w7])), (b1, .inl (kb1, 10, .inl fle)), (b3, .inl (kb3, 100, .inl fli)), (p3, .inr (0, [.ref e0, .ref e1, .ref e2])), (e0, .inl (ke0, 8, .inl fo)), (e1, .inl (ke1, 80, .inl fbl)), (e2, .inl (ke2, 960, .inl fbs))] H := hP
                  have hD : va_D A [(h0, .inr (5, [.ref u0, .int (nI q_26), .int (nI q_27), .int (nI kq)])), (u0, .inl (ku0, 40, .inl f_28)), (p1, .inr (1, [w0, .ref b1, w2, .ref b3, w4, w5, .int (nI cn), w7])), (b1, .inl (kb1, 10, .inl fle)), (b3, .inl (kb3, 100, .inl fli)), (p3, .inr (0, [.ref e0, .ref e1, .ref e2])), (e0, .inl (ke0, 8, .inl fo)), (e1, .inl (ke1, 80, .inl fbl)), (e2, .inl (ke2, 960, .inl fbs))] := hD
                  refine lv_istore (lv' := [(9, .int r_25), (11, .int (fbs (12 * (8 * ow + nq) + k9))), (10, .int (nI k9)), (8, .int (nI ((fbl (8 * ow + nq)).toNatClampNeg))), (7, .int (nI ow)), (6, .int (nI q9)), (0, .ref h0), (1, .ref p1), (2, .ref p3), (3, .int (nI nq)), (4, .int (nI fm)), (5, .int 2)]) hx hb dX5_work_176 hl (by decide) rfl (fun ls hl => ?_)
                  refine lv_iinc (v := (nI (k9 + 1))) (lv' := [(10, .int (nI (k9 + 1))), (9, .int r_25), (11, .int (fbs (12 * (8 * ow + nq) + k9))), (8, .int (nI ((fbl (8 * ow + nq)).toNatClampNeg))), (7, .int (nI ow)), (6, .int (nI q9)), (0, .ref h0), (1, .ref p1), (2, .ref p3), (3, .int (nI nq)), (4, .int (nI fm)), (5, .int 2)]) hx hb dX5_work_178 hl (k := 2) rfl (nI_add k9 1) (by decide) rfl (fun ls hl => ?_)
                  refine lv_goto (tgt := 82) hx hb dX5_work_181 (by decide) ?_
                  exact ih_11 (k9 + 1) r_25 q_26 q_27 f_28 (by omega) p_29 p_30 (lp_let hlp c_14 (by omega) (by show 97 ≤ Int32.toInt (fbs (12 * (8 * ow + nq) + k9)); omega) (by show ((j_24 : Nat) : Int) = Int32.toInt (fbs (12 * (8 * ow + nq) + k9)) - 97; omega) hw_25 p_31) (by omega) _ _ hP hD hS ls (lv_sub hl [0, 1, 3, 4, 5, 6, 7, 8, 9, 10, 11] rfl)
                · have b_22 := gn_ne (X := (Int32.toInt (fbs (12 * (8 * ow + nq) + k9)))) (C := 94) rfl (by decide) c_21
                  refine lv_aload_n hx hb dX5_work_140 rfl (lv_at hl 6 rfl) ?_
                  refine lv_aload_n hx hb dX5_work_141 rfl (lv_at hl 7 rfl) ?_
                  refine lv_aload_n hx hb dX5_work_142 rfl (lv_at hl 8 rfl) ?_
                  refine lv_iload_n hx hb dX5_work_143 rfl (lv_at hl 9 rfl) ?_
                  refine lv_iload hx hb dX5_work_144 (lv_at hl 5 rfl) ?_
                  refine lv_iconst (v := 1) hx hb dX5_work_146 (by decide) ?_
                  refine lv_iadd hx hb dX5_work_147 ?_
                  refine hx_top (y := (nI (q9 + 1))) (nI_add q9 1) ?_
                  refine lv_iload hx hb dX5_work_148 (lv_at hl 11 rfl) ?_
                  refine lv_iconst (v := 1) hx hb dX5_work_150 (by decide) ?_
                  refine lv_iadd hx hb dX5_work_151 ?_
                  refine hx_top (y := 3) (by decide) ?_
                  have hPc := hP.sub (ws' := [(h0, .inr (5, [.ref u0, .int (nI sdx), .int (nI mdx), .int (nI kq)])), (u0, .inl (ku0, 40, .inl fdx)), (p1, .inr (1, [w0, .ref b1, w2, .ref b3, w4, w5, .int (nI cn), w7])), (b1, .inl (kb1, 10, .inl fle)), (b3, .inl (kb3, 100, .inl fli)), (p3, .inr (0, [.ref e0, .ref e1, .ref e2])), (e0, .inl (ke0, 8, .inl fo)), (e1, .inl (ke1, 80, .inl fbl)), (e2, .inl (ke2, 960, .inl fbs))]) [0, 1, 2, 3, 4, 5, 6, 7, 8] rfl
                  have hDc := hD.sub (ws' := [(h0, .inr (5, [.ref u0, .int (nI sdx), .int (nI mdx), .int (nI kq)])), (u0, .inl (ku0, 40, .inl fdx)), (p1, .inr (1, [w0, .ref b1, w2, .ref b3, w4, w5, .int (nI cn), w7])), (b1, .inl (kb1, 10, .inl fle)), (b3, .inl (kb3, 100, .inl fli)), (p3, .inr (0, [.ref e0, .ref e1, .ref e2])), (e0, .inl (ke0, 8, .inl fo)), (e1, .inl (ke1, 80, .inl fbl)), (e2, .inl (ke2, 960, .inl fbs))]) [0, 1, 2, 3, 4, 5, 6, 7, 8] (by decide) rfl
                  have hKc := hK.sub (tys' := [(ku0, .int), (kb1, .int), (kb3, .int), (ke0, .int), (ke1, .int), (ke2, .char)]) [0, 1, 2, 3, 4, 5] rfl
                  have hFc := va_free (wc := [(h0, .inr (5, [.ref u0, .int (nI sdx), .int (nI mdx), .int (nI kq)])), (u0, .inl (ku0, 40, .inl fdx)), (p1, .inr (1, [w0, .ref b1, w2, .ref b3, w4, w5, .int (nI cn), w7])), (b1, .inl (kb1, 10, .inl fle)), (b3, .inl (kb3, 100, .inl fli)), (p3, .inr (0, [.ref e0, .ref e1, .ref e2])), (e0, .inl (ke0, 8, .inl fo)), (e1, .inl (ke1, 80, .inl fbl)), (e2, .inl (ke2, 960, .inl fbs))]) hD hS hA [0, 1, 2, 3, 4, 5, 6, 7, 8] rfl
                  refine va_calli (va_runV (As := [.ref p1, .ref p3, .int (nI nq), .int (nI (q9 + 1)), .int 3]) (rest := []) ⟨hx, hb, hml, hown, hts⟩ (c_work3 l dC dI H.size h0 u0 sdx mdx kq ku0 fdx p1 (w0) b1 (w2) b3 (w4) (w5) cn (w7) kb1 fle kb3 fli p3 e0 e1 e2 ke0 fo ke1 fbl ke2 fbs nq (q9 + 1) hsx hc hle hbl hbs hlk hkq hnq (by omega) hmx hcv) (cwV 5 hts (gV mw_2_165 mw_2_167 mw_0_4 mw_1_6 mw_2_168) rfl rfl rfl (by decide +kernel) ⟨Nat.le_of_ble_eq_true rfl, Nat.le_of_ble_eq_true rfl⟩) ⟨pcW_blind, va_recv hKc hPc (ci := 5) (q0 := 0) rfl rfl, pcW_at hPc hKc hDc hN⟩ rfl rfl hl.1 rfl (lv_room (Nat.le_of_ble_eq_true rfl)) dX5_work_152 ⟨Nat.le_of_ble_eq_true rfl, Nat.le_of_ble_eq_true rfl⟩) hS (fun q _ h => hFc q h) hFc (fun r_32 u t H1 locs ht hvm hw_32 hB hz1 hk1 hS => ?_)
                  obtain ⟨q_33, q_34, f_35, p_36, p_37, p_38, hP1, hK1, hD1⟩ := hB
                  rw [ht] at hP1
                  have hK1 := va_K.moved hvm.symm hK1
                  obtain ⟨hP, hD⟩ := va_join (wr := []) (w1 := [(h0, .inr (5, [.ref u0, .int (nI q_33), .int (nI q_34), .int (nI kq)])), (u0, .inl (ku0, 40, .inl f_35)), (p1, .inr (1, [w0, .ref b1, w2, .ref b3, w4, w5, .int (nI cn), w7])), (b1, .inl (kb1, 10, .inl fle)), (b3, .inl (kb3, 100, .inl fli)), (p3, .inr (0, [.ref e0, .ref e1, .ref e2])), (e0, .inl (ke0, 8, .inl fo)), (e1, .inl (ke1, 80, .inl fbl)), (e2, .inl (ke2, 960, .inl fbs))]) hP hD [0, 1, 2, 3, 4, 5, 6, 7, 8] [] rfl rfl (by decide) (by decide) hk1 hFc hP1 hD1
                  have hK := (hK.sub (tys' := []) [] rfl).app hK1
                  clear hz1 hk1 hPc hDc hKc hFc
                  generalize H1 = H at hP hS ⊢
                  have hK : va_K (dC, dI) vwCl [(ku0, .int), (kb1, .int), (kb3, .int), (ke0, .int), (ke1, .int), (ke2, .char)] s := hK
                  have hP : va_P (dC, dI) vwCl [(h0, .inr (5, [.ref u0, .int (nI q_33), .int (nI q_34), .int (nI kq)])), (u0, .inl (ku0, 40, .inl f_35)), (p1, .inr (1, [w0, .ref b1, w2, .ref b3, w4, w5, .int (nI cn), w7])), (b1, .inl (kb1, 10, .inl fle)), (b3, .inl (kb3, 100, .inl fli)), (p3, .inr (0, [.ref e0, .ref e1, .ref e2])), (e0, .inl (ke0, 8, .inl fo)), (e1, .inl (ke1, 80, .inl fbl)), (e2, .inl (ke2, 960, .inl fbs))] H := hP
                  have hD : va_D A [(h0, .inr (5, [.ref u0, .int (nI q_33), .int (nI q_34), .int (nI kq)])), (u0, .inl (ku0, 40, .inl f_35)), (p1, .inr (1, [w0, .ref b1, w2, .ref b3, w4, w5, .int (nI cn), w7])), (b1, .inl (kb1, 10, .inl fle)), (b3, .inl (kb3, 100, .inl fli)), (p3, .inr (0, [.ref e0, .ref e1, .ref e2])), (e0, .inl (ke0, 8, .inl fo)), (e1, .inl (ke1, 80, .inl fbl)), (e2, .inl (ke2, 960, .inl fbs))] := hD
                  refine lv_istore (lv' := [(9, .int r_32), (11, .int (fbs (12 * (8 * ow + nq) + k9))), (10, .int (nI k9)), (8, .int (nI ((fbl (8 * ow + nq)).toNatClampNeg))), (7, .int (nI ow)), (6, .int (nI q9)), (0, .ref h0), (1, .ref p1), (2, .ref p3), (3, .int (nI nq)), (4, .int (nI fm)), (5, .int 2)]) hx hb dX5_work_155 hl (by decide) rfl (fun ls hl => ?_)
                  refine lv_goto (tgt := 178) hx hb dX5_work_157 (by decide) ?_
                  refine lv_iinc (v := (nI (k9 + 1))) (lv' := [(10, .int (nI (k9 + 1))), (9, .int r_32), (11, .int (fbs (12 * (8 * ow + nq) + k9))), (8, .int (nI ((fbl (8 * ow + nq)).toNatClampNeg))), (7, .int (nI ow)), (6, .int (nI q9)), (0, .ref h0), (1, .ref p1), (2, .ref p3), (3, .int (nI nq)), (4, .int (nI fm)), (5, .int 2)]) hx hb dX5_work_178 hl (k := 2) rfl (nI_add k9 1) (by decide) rfl (fun ls hl => ?_)
                  refine lv_goto (tgt := 82) hx hb dX5_work_181 (by decide) ?_
                  exact ih_11 (k9 + 1) r_32 q_33 q_34 f_35 (by omega) p_36 p_37 (lp_up hlp c_14 (by omega) (by show Int32.toInt (fbs (12 * (8 * ow + nq) + k9)) = 94; omega) hw_32 p_38) (by omega) _ _ hP hD hS ls (lv_sub hl [0, 1, 3, 4, 5, 6, 7, 8, 9, 10, 11] rfl)
              · have b_20 := gn_gt (X := (Int32.toInt (fbs (12 * (8 * ow + nq) + k9)))) (C := 57) rfl (by decide) c_19
                refine lv_aload_n hx hb dX5_work_119 rfl (lv_at hl 6 rfl) ?_
                refine lv_iload hx hb dX5_work_120 (lv_at hl 0 rfl) ?_
                refine lv_bipush (v := 48) hx hb dX5_work_122 (by decide) ?_
                refine lv_isub hx hb dX5_work_124 ?_
                refine lv_topi (fun z_39 ez_39 => ?_)
                have gz_39 := fx_rng (fbs (12 * (8 * ow + nq) + k9))
                have fz_39 : Int32.toInt z_39 = (Int32.toInt (fbs (12 * (8 * ow + nq) + k9))) - 48 := by rw [ez_39]; exact gx_sub (X := (Int32.toInt (fbs (12 * (8 * ow + nq) + k9)))) (C := 48) rfl (by decide) (by omega) (by omega)
                have hPc := hP.sub (ws' := [(h0, .inr (5, [.ref u0, .int (nI sdx), .int (nI mdx), .int (nI kq)])), (u0, .inl (ku0, 40, .inl fdx))]) [0, 1] rfl
                have hDc := hD.sub (ws' := [(h0, .inr (5, [.ref u0, .int (nI sdx), .int (nI mdx), .int (nI kq)])), (u0, .inl (ku0, 40, .inl fdx))]) [0, 1] (by decide) rfl
                have hKc := hK.sub (tys' := [(ku0, .int)]) [0] rfl
                have hFc := va_free (wc := [(h0, .inr (5, [.ref u0, .int (nI sdx), .int (nI mdx), .int (nI kq)])), (u0, .inl (ku0, 40, .inl fdx))]) hD hS hA [0, 1] rfl
                refine va_calli (va_runV (As := [.int z_39]) (rest := []) ⟨hx, hb, hml, hown, hts⟩ (c_sayD l dC dI H.size h0 u0 sdx mdx kq ku0 fdx z_39 hsx) (cwV 1 hts (gV mw_2_181 mw_2_183 mw_0_5 mw_1_6 mw_2_184) rfl rfl rfl (by decide +kernel) ⟨Nat.le_of_ble_eq_true rfl, Nat.le_of_ble_eq_true rfl⟩) ⟨pcW_blind, va_recv hKc hPc (ci := 5) (q0 := 0) rfl rfl, pcW_at hPc hKc hDc hN⟩ rfl rfl hl.1 rfl (lv_room (Nat.le_of_ble_eq_true rfl)) dX5_work_125 ⟨Nat.le_of_ble_eq_true rfl, Nat.le_of_ble_eq_true rfl⟩) hS (fun q _ h => hFc q h) hFc (fun r_40 u t H1 locs ht hvm hw_40 hB hz1 hk1 hS => ?_)
                obtain ⟨q_41, f_42, p_43, p_44, p_45, hP1, hK1, hD1⟩ := hB
                rw [ht] at hP1
                have hK1 := va_K.moved hvm.symm hK1
                obtain ⟨hP, hD⟩ := va_join (wr := [(p1, .inr (1, [w0, .ref b1, w2, .ref b3, w4, w5, .int (nI cn), w7])), (b1, .inl (kb1, 10, .inl fle)), (b3, .inl (kb3, 100, .inl fli)), (p3, .inr (0, [.ref e0, .ref e1, .ref e2])), (e0, .inl (ke0, 8, .inl fo)), (e1, .inl (ke1, 80, .inl fbl)), (e2, .inl (ke2, 960, .inl fbs))]) (w1 := [(h0, .inr (5, [.ref u0, .int (nI q_41), .int (nI mdx), .int (nI kq)])), (u0, .inl (ku0, 40, .inl f_42))]) hP hD [0, 1] [2, 3, 4, 5, 6, 7, 8] rfl rfl (by decide) (by decide) hk1 hFc hP1 hD1
                have hK := (hK.sub (tys' := [(kb1, .int), (kb3, .int), (ke0, .int), (ke1, .int), (ke2, .char)]) [1, 2, 3, 4, 5] rfl).app hK1
                clear hz1 hk1 hPc hDc hKc hFc
                generalize H1 = H at hP hS ⊢
                have hK : va_K (dC, dI) vwCl [(kb1, .int), (kb3, .int), (ke0, .int), (ke1, .int), (ke2, .char), (ku0, .int)] s := hK
                have hP : va_P (dC, dI) vwCl [(p1, .inr (1, [w0, .ref b1, w2, .ref b3, w4, w5, .int (nI cn), w7])), (b1, .inl (kb1, 10, .inl fle)), (b3, .inl (kb3, 100, .inl fli)), (p3, .inr (0, [.ref e0, .ref e1, .ref e2])), (e0, .inl (ke0, 8, .inl fo)), (e1, .inl (ke1, 80, .inl fbl)), (e2, .inl (ke2, 960, .inl fbs)), (h0, .inr (5, [.ref u0, .int (nI q_41), .int (nI mdx), .int (nI kq)])), (u0, .inl (ku0, 40, .inl f_42))] H := hP
                have hD : va_D A [(p1, .inr (1, [w0, .ref b1, w2, .ref b3, w4, w5, .int (nI cn), w7])), (b1, .inl (kb1, 10, .inl fle)), (b3, .inl (kb3, 100, .inl fli)), (p3, .inr (0, [.ref e0, .ref e1, .ref e2])), (e0, .inl (ke0, 8, .inl fo)), (e1, .inl (ke1, 80, .inl fbl)), (e2, .inl (ke2, 960, .inl fbs)), (h0, .inr (5, [.ref u0, .int (nI q_41), .int (nI mdx), .int (nI kq)])), (u0, .inl (ku0, 40, .inl f_42))] := hD
                refine lv_istore (lv' := [(9, .int r_40), (11, .int (fbs (12 * (8 * ow + nq) + k9))), (10, .int (nI k9)), (8, .int (nI ((fbl (8 * ow + nq)).toNatClampNeg))), (7, .int (nI ow)), (6, .int (nI q9)), (0, .ref h0), (1, .ref p1), (2, .ref p3), (3, .int (nI nq)), (4, .int (nI fm)), (5, .int 2)]) hx hb dX5_work_128 hl (by decide) rfl (fun ls hl => ?_)
                refine lv_goto (tgt := 178) hx hb dX5_work_130 (by decide) ?_
                refine lv_iinc (v := (nI (k9 + 1))) (lv' := [(10, .int (nI (k9 + 1))), (9, .int r_40), (11, .int (fbs (12 * (8 * ow + nq) + k9))), (8, .int (nI ((fbl (8 * ow + nq)).toNatClampNeg))), (7, .int (nI ow)), (6, .int (nI q9)), (0, .ref h0), (1, .ref p1), (2, .ref p3), (3, .int (nI nq)), (4, .int (nI fm)), (5, .int 2)]) hx hb dX5_work_178 hl (k := 2) rfl (nI_add k9 1) (by decide) rfl (fun ls hl => ?_)
                refine lv_goto (tgt := 82) hx hb dX5_work_181 (by decide) ?_
                exact ih_11 (k9 + 1) r_40 q_41 mdx f_42 (by omega) p_43 hmx (by rw [hw_40]; exact lp_dig hlp c_14 (by omega) (by show 48 ≤ Int32.toInt (fbs (12 * (8 * ow + nq) + k9)) ∧ Int32.toInt (fbs (12 * (8 * ow + nq) + k9)) ≤ 57; omega) (by rw [ez_39]) p_44 p_45) (by omega) _ _ (hP.sub (ws' := [(h0, .inr (5, [.ref u0, .int (nI q_41), .int (nI mdx), .int (nI kq)])), (u0, .inl (ku0, 40, .inl f_42)), (p1, .inr (1, [w0, .ref b1, w2, .ref b3, w4, w5, .int (nI cn), w7])), (b1, .inl (kb1, 10, .inl fle)), (b3, .inl (kb3, 100, .inl fli)), (p3, .inr (0, [.ref e0, .ref e1, .ref e2])), (e0, .inl (ke0, 8, .inl fo)), (e1, .inl (ke1, 80, .inl fbl)), (e2, .inl (ke2, 960, .inl fbs))]) [7, 8, 0, 1, 2, 3, 4, 5, 6] rfl) (hD.sub (ws' := [(h0, .inr (5, [.ref u0, .int (nI q_41), .int (nI mdx), .int (nI kq)])), (u0, .inl (ku0, 40, .inl f_42)), (p1, .inr (1, [w0, .ref b1, w2, .ref b3, w4, w5, .int (nI cn), w7])), (b1, .inl (kb1, 10, .inl fle)), (b3, .inl (kb3, 100, .inl fli)), (p3, .inr (0, [.ref e0, .ref e1, .ref e2])), (e0, .inl (ke0, 8, .inl fo)), (e1, .inl (ke1, 80, .inl fbl)), (e2, .inl (ke2, 960, .inl fbs))]) [7, 8, 0, 1, 2, 3, 4, 5, 6] (by decide) rfl) hS ls (lv_sub hl [0, 1, 3, 4, 5, 6, 7, 8, 9, 10, 11] rfl)
      exact key_10 ((12 - 0) + 1) 0 0 sd (md + 1) fd (by omega) hsd (by omega) (wd_inC hw_4 (by omega) (by omega) eow (by omega)).symm (Nat.lt_succ_self _) _ _ hP hD hS ls (lv_sub hl [0, 1, 2, 3, 4, 5, 6, 7, 8, 9, 10] rfl)
  · have b_2 := gn_lt (X := ((md : Nat) : Int)) (C := 200) (nI_toInt (by omega)) (by decide) c_1
    refine lv_iconst (v := 2) hx hb dX5_work_17 (by decide) ?_
    have hP9 := hP.sub (ws' := [(h0, .inr (5, [.ref u0, .int (nI sd), .int (nI md), .int (nI kq)])), (u0, .inl (ku0, 40, .inl fd)), (p1, .inr (1, [w0, .ref b1, w2, .ref b3, w4, w5, .int (nI cn), w7])), (b1, .inl (kb1, 10, .inl fle)), (b3, .inl (kb3, 100, .inl fli)), (p3, .inr (0, [.ref e0, .ref e1, .ref e2])), (e0, .inl (ke0, 8, .inl fo)), (e1, .inl (ke1, 80, .inl fbl)), (e2, .inl (ke2, 960, .inl fbs))]) [0, 1, 2, 3, 4, 5, 6, 7, 8] rfl
    have hD9 := hD.sub (ws' := [(h0, .inr (5, [.ref u0, .int (nI sd), .int (nI md), .int (nI kq)])), (u0, .inl (ku0, 40, .inl fd)), (p1, .inr (1, [w0, .ref b1, w2, .ref b3, w4, w5, .int (nI cn), w7])), (b1, .inl (kb1, 10, .inl fle)), (b3, .inl (kb3, 100, .inl fli)), (p3, .inr (0, [.ref e0, .ref e1, .ref e2])), (e0, .inl (ke0, 8, .inl fo)), (e1, .inl (ke1, 80, .inl fbl)), (e2, .inl (ke2, 960, .inl fbs))]) [0, 1, 2, 3, 4, 5, 6, 7, 8] (by decide) rfl
    have hK9 := hK.sub (tys' := [(ku0, .int), (kb1, .int), (kb3, .int), (ke0, .int), (ke1, .int), (ke2, .char)]) [0, 1, 2, 3, 4, 5] rfl
    exact W.iret (v := 2) hx hb hr (fun t ht hW => ⟨⟨2, (), rfl, (r4 (wd_fuC (d := 7) (Or.inr (by omega)))).1, sd, md, fd, hsd, hmd, (Prod.ext (r4 (wd_fuC (d := 7) (Or.inr (by omega)))).2.1 (Prod.ext (r4 (wd_fuC (d := 7) (Or.inr (by omega)))).2.2.1 (r4 (wd_fuC (d := 7) (Or.inr (by omega)))).2.2.2)), by rw [ht]; exact hP9, va_K.moved hW.alike hK9, hD9⟩, hS.F ht⟩) hS.2.2 dX5_work_18
set_option maxHeartbeats 4000000 in
set_option maxRecDepth 100000 in
theorem c_work1 (l : Launch) (dC : Nat → ClassId) (dI : Nat → Nat → Nat) (sz : Nat) (h0 : Nat) (u0 : Nat) (sd : Nat) (md : Nat) (kq : Nat) (ku0 : ClassId) (fd : Nat → Int32) (p1 : Nat) (w0 : Value) (b1 : Nat) (w2 : Value) (b3 : Nat) (w4 : Value) (w5 : Value) (cn : Nat) (w7 : Value) (kb1 : ClassId) (fle : Nat → Int32) (kb3 : ClassId) (fli : Nat → Int32) (p3 : Nat) (e0 : Nat) (e1 : Nat) (e2 : Nat) (ke0 : ClassId) (fo : Nat → Int32) (ke1 : ClassId) (fbl : Nat → Int32) (ke2 : ClassId) (fbs : Nat → Int32) (nq : Nat) (fm : Nat) (hsd : sd ≤ 40) (hc : cn ≤ 10) (hle : BdOk 10 10 fle) (hbl : BdOk 80 12 fbl) (hbs : ChOk fbs) (hlk : LnOk fle fli cn) (hkq : kq < cn) (hnq : nq < 8) (hfm : fm ≤ 10) (hmd : md ≤ 200) (hcv : CvOk fbl fbs) : Met l yX5_work (wq yX5_work cX5_work 12 (some .int)) ({ frames := 11, cells := 0, slots := 0, locals := 303 }) (va_Pc [.ref h0, .ref p1, .ref p3, .int (nI nq), .int (nI fm), .int 1] (pcW dC dI [(ku0, .int), (kb1, .int), (kb3, .int), (ke0, .int), (ke1, .int), (ke2, .char)] [(h0, .inr (5, [.ref u0, .int (nI sd), .int (nI md), .int (nI kq)])), (u0, .inl (ku0, 40, .inl fd)), (p1, .inr (1, [w0, .ref b1, w2, .ref b3, w4, w5, .int (nI cn), w7])), (b1, .inl (kb1, 10, .inl fle)), (b3, .inl (kb3, 100, .inl fli)), (p3, .inr (0, [.ref e0, .ref e1, .ref e2])), (e0, .inl (ke0, 8, .inl fo)), (e1, .inl (ke1, 80, .inl fbl)), (e2, .inl (ke2, 960, .inl fbs))] sz)) (va_Qi (fun (r : Int32) (_ : Unit) => r = (wdC fle fli fo fbl fbs cn kq 8 nq fm (md, sd, fd)).1) (fun _ t => ∃ (sd2 : Nat) (md2 : Nat) (fd2 : Nat → Int32), (sd2 ≤ 40) ∧ (md2 ≤ 200) ∧ ((md2, sd2, fd2) = (wdC fle fli fo fbl fbs cn kq 8 nq fm (md, sd, fd)).2) ∧ va_P (dC, dI) vwCl [(h0, .inr (5, [.ref u0, .int (nI sd2), .int (nI md2), .int (nI kq)])), (u0, .inl (ku0, 40, .inl fd2)), (p1, .inr (1, [w0, .ref b1, w2, .ref b3, w4, w5, .int (nI cn), w7])), (b1, .inl (kb1, 10, .inl fle)), (b3, .inl (kb3, 100, .inl fli)), (p3, .inr (0, [.ref e0, .ref e1, .ref e2])), (e0, .inl (ke0, 8, .inl fo)), (e1, .inl (ke1, 80, .inl fbl)), (e2, .inl (ke2, 960, .inl fbs))] t.heap ∧ va_K (dC, dI) vwCl [(ku0, .int), (kb1, .int), (kb3, .int), (ke0, .int), (ke1, .int), (ke2, .char)] t ∧ va_D (va_A [(h0, .inr (5, [.ref u0, .int (nI sd), .int (nI md), .int (nI kq)])), (u0, .inl (ku0, 40, .inl fd)), (p1, .inr (1, [w0, .ref b1, w2, .ref b3, w4, w5, .int (nI cn), w7])), (b1, .inl (kb1, 10, .inl fle)), (b3, .inl (kb3, 100, .inl fli)), (p3, .inr (0, [.ref e0, .ref e1, .ref e2])), (e0, .inl (ke0, 8, .inl fo)), (e1, .inl (ke1, 80, .inl fbl)), (e2, .inl (ke2, 960, .inl fbs))] sz) [(h0, .inr (5, [.ref u0, .int (nI sd2), .int (nI md2), .int (nI kq)])), (u0, .inl (ku0, 40, .inl fd2)), (p1, .inr (1, [w0, .ref b1, w2, .ref b3, w4, w5, .int (nI cn), w7])), (b1, .inl (kb1, 10, .inl fle)), (b3, .inl (kb3, 100, .inl fli)), (p3, .inr (0, [.ref e0, .ref e1, .ref e2])), (e0, .inl (ke0, 8, .inl fo)), (e1, .inl (ke1, 80, .inl fbl)), (e2, .inl (ke2, 960, .inl fbs))]) (va_A [(h0, .inr (5, [.ref u0, .int (nI sd), .int (nI md), .int (nI kq)])), (u0, .inl (ku0, 40, .inl fd)), (p1, .inr (1, [w0, .ref b1, w2, .ref b3, w4, w5, .int (nI cn), w7])), (b1, .inl (kb1, 10, .inl fle)), (b3, .inl (kb3, 100, .inl fli)), (p3, .inr (0, [.ref e0, .ref e1, .ref e2])), (e0, .inl (ke0, 8, .inl fo)), (e1, .inl (ke1, 80, .inl fbl)), (e2, .inl (ke2, 960, .inl fbs))] sz)) 0 0 (va_A [(h0, .inr (5, [.ref u0, .int (nI sd), .int (nI md), .int (nI kq)])), (u0, .inl (ku0, 40, .inl fd)), (p1, .inr (1, [w0, .ref b1, w2, .ref b3, w4, w5, .int (nI cn), w7])), (b1, .inl (kb1, 10, .inl fle)), (b3, .inl (kb3, 100, .inl fli)), (p3, .inr (0, [.ref e0, .ref e1, .ref e2])), (e0, .inl (ke0, 8, .inl fo)), (e1, .inl (ke1, 80, .inl fbl)), (e2, .inl (ke2, 960, .inl fbs))] sz) := by
  refine Met.ofW (cc := cX5_work) (maxL := 12) (ret := (some .int)) (by decide) rfl ?_
  intro p e s m args below meth c s₁ B hml hv
  obtain ⟨rfl, hsz, hN, hP, hK, hD0⟩ := hv
  have hx := B.exec
  have hb := B.bytes
  have hr := B.returns
  have hts0 := atoms_spec (ws := (wq yX5_work cX5_work 12 (some .int))) B.pre
  have hts : ∀ w ∈ BG, w.before _ s = true := fun w h => hts0 w (List.mem_cons_of_mem _ h)
  have hown : s.vm.findClass RX5 = some m.cls := findClass_of_methodNamed B.named
  have hlocks := B.notSynchronized
  subst hsz
  have hD := hD0.self (sz := s.heap.size)
  generalize hAe : va_A [(h0, .inr (5, [.ref u0, .int (nI sd), .int (nI md), .int (nI kq)])), (u0, .inl (ku0, 40, .inl fd)), (p1, .inr (1, [w0, .ref b1, w2, .ref b3, w4, w5, .int (nI cn), w7])), (b1, .inl (kb1, 10, .inl fle)), (b3, .inl (kb3, 100, .inl fli)), (p3, .inr (0, [.ref e0, .ref e1, .ref e2])), (e0, .inl (ke0, 8, .inl fo)), (e1, .inl (ke1, 80, .inl fbl)), (e2, .inl (ke2, 960, .inl fbs))] s.heap.size = A at hD ⊢
  have hA : ∀ q : Nat, s.heap.size ≤ q → A q := fun q h => by rw [← hAe]; exact Or.inr h
  have hS : va_S A s.heap s.heap [] := va_S.rf
  clear hAe hD0
  have hP : va_P (dC, dI) vwCl [(h0, .inr (5, [.ref u0, .int (nI sd), .int (nI md), .int (nI kq)])), (u0, .inl (ku0, 40, .inl fd)), (p1, .inr (1, [w0, .ref b1, w2, .ref b3, w4, w5, .int (nI cn), w7])), (b1, .inl (kb1, 10, .inl fle)), (b3, .inl (kb3, 100, .inl fli)), (p3, .inr (0, [.ref e0, .ref e1, .ref e2])), (e0, .inl (ke0, 8, .inl fo)), (e1, .inl (ke1, 80, .inl fbl)), (e2, .inl (ke2, 960, .inl fbs))] s.heap := hP
  have hl := lv_entry ([.ref h0, .ref p1, .ref p3, .int (nI nq), .int (nI fm), .int 1]) (n := 12) (Nat.le_of_ble_eq_true rfl)
  rw [lg_entry_eq]
  generalize (lg_sl ([.ref h0, .ref p1, .ref p3, .int (nI nq), .int (nI fm), .int 1]) ++ List.replicate (12 - (lg_sl ([.ref h0, .ref p1, .ref p3, .int (nI nq), .int (nI fm), .int 1])).length) Slot.unset).toArray = ls at hl ⊢
  have hl : lv_has ls 12 [(0, .ref h0), (1, .ref p1), (2, .ref p3), (3, .int (nI nq)), (4, .int (nI fm)), (5, .int 1)] := hl
  have hle9 := lenN_le (n := nI kq) hc hle
  refine lv_iload hx hb dX5_work_0 (lv_at hl 5 rfl) ?_
  refine lv_bipush (v := 9) hx hb dX5_work_2 (by decide) ?_
  refine lv_icmp_ge (tgt := 17) hx hb dX5_work_4 (by decide) (fun h => absurd h (by decide)) (fun _ => ?_)
  refine lv_aload_n hx hb dX5_work_7 rfl (lv_at hl 0 rfl) ?_
  refine va_get (D := (dC, dI)) (ci := 5) (v := .int (nI md)) (C := RX5) (T := TX5) (N := 4) hx hb hts inB_5 hown hK hP 0 rfl rfl 2 (by decide) (hts _ mw_1_110) (fun _ h9 => h9) rfl dX5_work_8 ?_
  refine lv_sipush (v := 200) hx hb dX5_work_11 (by decide) ?_
  refine lv_icmp_lt (tgt := 19) hx hb dX5_work_14 (by decide) (fun c_1 => ?_) (fun c_1 => ?_)
  · have b_2 := gx_lt (X := ((md : Nat) : Int)) (C := 200) (nI_toInt (by omega)) (by decide) c_1
    refine lv_aload_n hx hb dX5_work_19 rfl (lv_at hl 0 rfl) ?_
    refine lv_dup hx hb dX5_work_20 rfl ?_
    refine va_get (D := (dC, dI)) (ci := 5) (v := .int (nI md)) (C := RX5) (T := TX5) (N := 4) hx hb hts inB_5 hown hK hP 0 rfl rfl 2 (by decide) (hts _ mw_1_110) (fun _ h9 => h9) rfl dX5_work_21 ?_
    refine lv_iconst (v := 1) hx hb dX5_work_24 (by decide) ?_
    refine lv_iadd hx hb dX5_work_25 ?_
    refine hx_top (y := (nI (md + 1))) (nI_add md 1) ?_
    refine va_put (D := (dC, dI)) (ci := 5) (v := .int (nI (md + 1))) (ty := .int) (C := RX5) (T := TX5) (N := 4) hx hb hts inB_5 tyX5 tyX5_ok nmX5 hown hK hP hD hS 0 rfl rfl 2 (by decide) (hts _ mw_1_110) (fun _ h9 => h9) rfl (by decide +kernel) rfl rfl (Nat.le_of_ble_eq_true rfl) dX5_work_26 (fun H locs hP hD hS => ?_)
    have hP : va_P (dC, dI) vwCl [(h0, .inr (5, [.ref u0, .int (nI sd), .int (nI (md + 1)), .int (nI kq)])), (u0, .inl (ku0, 40, .inl fd)), (p1, .inr (1, [w0, .ref b1, w2, .ref b3, w4, w5, .int (nI cn), w7])), (b1, .inl (kb1, 10, .inl fle)), (b3, .inl (kb3, 100, .inl fli)), (p3, .inr (0, [.ref e0, .ref e1, .ref e2])), (e0, .inl (ke0, 8, .inl fo)), (e1, .inl (ke1, 80, .inl fbl)), (e2, .inl (ke2, 960, .inl fbs))] H := hP
    have hD : va_D A [(h0, .inr (5, [.ref u0, .int (nI sd), .int (nI (md + 1)), .int (nI kq)])), (u0, .inl (ku0, 40, .inl fd)), (p1, .inr (1, [w0, .ref b1, w2, .ref b3, w4, w5, .int (nI cn), w7])), (b1, .inl (kb1, 10, .inl fle)), (b3, .inl (kb3, 100, .inl fli)), (p3, .inr (0, [.ref e0, .ref e1, .ref e2])), (e0, .inl (ke0, 8, .inl fo)), (e1, .inl (ke1, 80, .inl fbl)), (e2, .inl (ke2, 960, .inl fbs))] := hD
    refine lv_aload_n hx hb dX5_work_29 rfl (lv_at hl 1 rfl) ?_
    refine lv_aload_n hx hb dX5_work_30 rfl (lv_at hl 0 rfl) ?_
    refine va_get (D := (dC, dI)) (ci := 5) (v := .int (nI kq)) (C := RX5) (T := TX5) (N := 4) hx hb hts inB_5 hown hK hP 0 rfl rfl 3 (by decide) (hts _ mw_1_111) (fun _ h9 => h9) rfl dX5_work_31 ?_
    refine lv_aload_n hx hb dX5_work_34 rfl (lv_at hl 2 rfl) ?_
    refine lv_iload_n hx hb dX5_work_35 rfl (lv_at hl 3 rfl) ?_
    have hPc := hP.sub (ws' := [(p3, .inr (0, [.ref e0, .ref e1, .ref e2])), (e0, .inl (ke0, 8, .inl fo))]) [5, 6] rfl
    have hDc := hD.sub (ws' := [(p3, .inr (0, [.ref e0, .ref e1, .ref e2])), (e0, .inl (ke0, 8, .inl fo))]) [5, 6] (by decide) rfl
    have hKc := hK.sub (tys' := [(ke0, .int)]) [3] rfl
    refine va_calli (va_runV (As := [.int (nI nq)]) (rest := [.int (nI kq), .ref p1]) ⟨hx, hb, hml, hown, hts⟩ (c_own l dC dI H.size p3 e0 (.ref e1) (.ref e2) ke0 fo nq hnq) (cwV 1 hts (gV mw_2_169 mw_2_105 mw_2_106 mw_1_5 mw_2_107) rfl rfl rfl (by decide +kernel) ⟨Nat.le_of_ble_eq_true rfl, Nat.le_of_ble_eq_true rfl⟩) ⟨pcW_blind, va_recv hKc hPc (ci := 0) (q0 := 0) rfl rfl, pcW_at hPc hKc hDc hN⟩ rfl rfl hl.1 rfl (lv_room (Nat.le_of_ble_eq_true rfl)) dX5_work_36 ⟨Nat.le_of_ble_eq_true rfl, Nat.le_of_ble_eq_true rfl⟩) hS (fun q h1 h2 => absurd h2 (Nat.not_le.mpr h1)) (fun q h => hA q (Nat.le_trans hS.1 h)) (fun r_3 u t H1 locs ht hvm hw_3 hB hz1 hk1 hS => ?_)
    have hP := keepP hP hk1
    clear hz1 hk1 hB ht hvm hPc hDc hKc
    generalize H1 = H at hP hS ⊢
    obtain rfl : r_3 = (fo nq) := hw_3
    refine lv_iload hx hb dX5_work_39 (lv_at hl 4 rfl) ?_
    have hPc := hP.sub (ws' := [(p1, .inr (1, [w0, .ref b1, w2, .ref b3, w4, w5, .int (nI cn), w7])), (b1, .inl (kb1, 10, .inl fle)), (b3, .inl (kb3, 100, .inl fli))]) [2, 3, 4] rfl
    have hDc := hD.sub (ws' := [(p1, .inr (1, [w0, .ref b1, w2, .ref b3, w4, w5, .int (nI cn), w7])), (b1, .inl (kb1, 10, .inl fle)), (b3, .inl (kb3, 100, .inl fli))]) [2, 3, 4] (by decide) rfl
    have hKc := hK.sub (tys' := [(kb1, .int), (kb3, .int)]) [1, 2] rfl
    refine va_calli (va_runV (As := [.int (nI kq), .int (fo nq), .int (nI fm)]) (rest := []) ⟨hx, hb, hml, hown, hts⟩ (c_whereFirst l dC dI H.size p1 (w0) b1 (w2) b3 (w4) (w5) cn (w7) kb1 fle kb3 fli kq (fo nq) fm hc hle hlk hkq (by omega)) (cwV 3 hts (gV mw_2_170 mw_2_146 mw_2_147 mw_1_2 mw_2_148) rfl rfl rfl (by decide +kernel) ⟨Nat.le_of_ble_eq_true rfl, Nat.le_of_ble_eq_true rfl⟩) ⟨pcW_blind, va_recv hKc hPc (ci := 1) (q0 := 0) rfl rfl, pcW_at hPc hKc hDc hN⟩ rfl rfl hl.1 rfl (lv_room (Nat.le_of_ble_eq_true rfl)) dX5_work_41 ⟨Nat.le_of_ble_eq_true rfl, Nat.le_of_ble_eq_true rfl⟩) hS (fun q h1 h2 => absurd h2 (Nat.not_le.mpr h1)) (fun q h => hA q (Nat.le_trans hS.1 h)) (fun r_4 u t H1 locs ht hvm hw_4 hB hz1 hk1 hS => ?_)
    have hP := keepP hP hk1
    clear hz1 hk1 hB ht hvm hPc hDc hKc
    generalize H1 = H at hP hS ⊢
    refine lv_istore (lv' := [(6, .int r_4), (0, .ref h0), (1, .ref p1), (2, .ref p3), (3, .int (nI nq)), (4, .int (nI fm)), (5, .int 1)]) hx hb dX5_work_44 hl (by decide) rfl (fun ls hl => ?_)
    rcases wf_cases hw_4 with eq9 | ⟨q9, hq9, eq9⟩
    · subst eq9
      refine lv_iload hx hb dX5_work_46 (lv_at hl 0 rfl) ?_
      refine lv_bipush (v := (-6)) hx hb dX5_work_48 (by decide) ?_
      refine lv_icmp_ne (tgt := 55) hx hb dX5_work_50 (by decide) (fun h => absurd h (by decide)) (fun _ => ?_)
      refine lv_iconst (v := 1) hx hb dX5_work_53 (by decide) ?_
      have hP9 := hP.sub (ws' := [(h0, .inr (5, [.ref u0, .int (nI sd), .int (nI (md + 1)), .int (nI kq)])), (u0, .inl (ku0, 40, .inl fd)), (p1, .inr (1, [w0, .ref b1, w2, .ref b3, w4, w5, .int (nI cn), w7])), (b1, .inl (kb1, 10, .inl fle)), (b3, .inl (kb3, 100, .inl fli)), (p3, .inr (0, [.ref e0, .ref e1, .ref e2])), (e0, .inl (ke0, 8, .inl fo)), (e1, .inl (ke1, 80, .inl fbl)), (e2, .inl (ke2, 960, .inl fbs))]) [0, 1, 2, 3, 4, 5, 6, 7, 8] rfl
      have hD9 := hD.sub (ws' := [(h0, .inr (5, [.ref u0, .int (nI sd), .int (nI (md + 1)), .int (nI kq)])), (u0, .inl (ku0, 40, .inl fd)), (p1, .inr (1, [w0, .ref b1, w2, .ref b3, w4, w5, .int (nI cn), w7])), (b1, .inl (kb1, 10, .inl fle)), (b3, .inl (kb3, 100, .inl fli)), (p3, .inr (0, [.ref e0, .ref e1, .ref e2])), (e0, .inl (ke0, 8, .inl fo)), (e1, .inl (ke1, 80, .inl fbl)), (e2, .inl (ke2, 960, .inl fbs))]) [0, 1, 2, 3, 4, 5, 6, 7, 8] (by decide) rfl
      have hK9 := hK.sub (tys' := [(ku0, .int), (kb1, .int), (kb3, .int), (ke0, .int), (ke1, .int), (ke2, .char)]) [0, 1, 2, 3, 4, 5] rfl
      exact W.iret (v := 1) hx hb hr (fun t ht hW => ⟨⟨1, (), rfl, (r4 (wd_noC (d := 7) hw_4 (by omega))).1, sd, (md + 1), fd, hsd, (by omega), (Prod.ext (r4 (wd_noC (d := 7) hw_4 (by omega))).2.1 (Prod.ext (r4 (wd_noC (d := 7) hw_4 (by omega))).2.2.1 (r4 (wd_noC (d := 7) hw_4 (by omega))).2.2.2)), by rw [ht]; exact hP9, va_K.moved hW.alike hK9, hD9⟩, hS.F ht⟩) hS.2.2 dX5_work_54
    · subst eq9
      refine lv_iload hx hb dX5_work_46 (lv_at hl 0 rfl) ?_
      refine lv_bipush (v := (-6)) hx hb dX5_work_48 (by decide) ?_
      refine lv_icmp_ne (tgt := 55) hx hb dX5_work_50 (by decide) (fun c_5 => ?_) (fun h => absurd (gn_ne (X := ((q9 : Nat) : Int)) (C := (-6)) (nI_toInt (by omega)) (by decide) h) (by omega))
      have b_6 := gx_ne (X := ((q9 : Nat) : Int)) (C := (-6)) (nI_toInt (by omega)) (by decide) c_5
      refine lv_aload_n hx hb dX5_work_55 rfl (lv_at hl 2 rfl) ?_
      refine lv_aload_n hx hb dX5_work_56 rfl (lv_at hl 1 rfl) ?_
      refine va_get (D := (dC, dI)) (ci := 5) (v := .int (nI kq)) (C := RX5) (T := TX5) (N := 4) hx hb hts inB_5 hown hK hP 0 rfl rfl 3 (by decide) (hts _ mw_1_111) (fun _ h9 => h9) rfl dX5_work_57 ?_
      refine lv_iload hx hb dX5_work_60 (lv_at hl 0 rfl) ?_
      have hPc := hP.sub (ws' := [(p1, .inr (1, [w0, .ref b1, w2, .ref b3, w4, w5, .int (nI cn), w7])), (b1, .inl (kb1, 10, .inl fle)), (b3, .inl (kb3, 100, .inl fli))]) [2, 3, 4] rfl
      have hDc := hD.sub (ws' := [(p1, .inr (1, [w0, .ref b1, w2, .ref b3, w4, w5, .int (nI cn), w7])), (b1, .inl (kb1, 10, .inl fle)), (b3, .inl (kb3, 100, .inl fli))]) [2, 3, 4] (by decide) rfl
      have hKc := hK.sub (tys' := [(kb1, .int), (kb3, .int)]) [1, 2] rfl
      refine va_calli (va_runV (As := [.int (nI kq), .int (nI q9)]) (rest := []) ⟨hx, hb, hml, hown, hts⟩ (c_inLine l dC dI H.size p1 (w0) b1 (w2) b3 (w4) (w5) cn (w7) kb1 fle kb3 fli kq q9 hc hle (by omega) hkq) (cwV 2 hts (gV mw_2_171 mw_1_234 mw_1_235 mw_1_2 mw_1_236) rfl rfl rfl (by decide +kernel) ⟨Nat.le_of_ble_eq_true rfl, Nat.le_of_ble_eq_true rfl⟩) ⟨pcW_blind, va_recv hKc hPc (ci := 1) (q0 := 0) rfl rfl, pcW_at hPc hKc hDc hN⟩ rfl rfl hl.1 rfl (lv_room (Nat.le_of_ble_eq_true rfl)) dX5_work_62 ⟨Nat.le_of_ble_eq_true rfl, Nat.le_of_ble_eq_true rfl⟩) hS (fun q h1 h2 => absurd h2 (Nat.not_le.mpr h1)) (fun q h => hA q (Nat.le_trans hS.1 h)) (fun r_7 u t H1 locs ht hvm hw_7 hB hz1 hk1 hS => ?_)
      have hP := keepP hP hk1
      clear hz1 hk1 hB ht hvm hPc hDc hKc
      generalize H1 = H at hP hS ⊢
      obtain rfl : r_7 = (fli (10 * kq + q9)) := hw_7
      obtain ⟨ow, how, eow⟩ := hlk kq (by omega) q9 (by rw [← lenN_k (f := fle) (c := cn) (by omega) (by omega)]; exact hq9)
      refine hx_top (y := (nI ow)) eow ?_
      refine lv_istore (lv' := [(7, .int (nI ow)), (6, .int (nI q9)), (0, .ref h0), (1, .ref p1), (2, .ref p3), (3, .int (nI nq)), (4, .int (nI fm)), (5, .int 1)]) hx hb dX5_work_65 hl (by decide) rfl (fun ls hl => ?_)
      refine lv_aload_n hx hb dX5_work_67 rfl (lv_at hl 4 rfl) ?_
      refine lv_iload hx hb dX5_work_68 (lv_at hl 0 rfl) ?_
      refine lv_iload_n hx hb dX5_work_70 rfl (lv_at hl 5 rfl) ?_
      have hPc := hP.sub (ws' := [(p3, .inr (0, [.ref e0, .ref e1, .ref e2])), (e1, .inl (ke1, 80, .inl fbl))]) [5, 7] rfl
      have hDc := hD.sub (ws' := [(p3, .inr (0, [.ref e0, .ref e1, .ref e2])), (e1, .inl (ke1, 80, .inl fbl))]) [5, 7] (by decide) rfl
      have hKc := hK.sub (tys' := [(ke1, .int)]) [4] rfl
      refine va_calli (va_runV (As := [.int (nI ow), .int (nI nq)]) (rest := []) ⟨hx, hb, hml, hown, hts⟩ (c_blenN l dC dI H.size p3 (.ref e0) e1 (.ref e2) ke1 fbl ow nq hbl (by omega) hnq) (cwV 2 hts (gV mw_2_172 mw_2_173 mw_2_174 mw_1_5 mw_2_175) rfl rfl rfl (by decide +kernel) ⟨Nat.le_of_ble_eq_true rfl, Nat.le_of_ble_eq_true rfl⟩) ⟨pcW_blind, va_recv hKc hPc (ci := 0) (q0 := 0) rfl rfl, pcW_at hPc hKc hDc hN⟩ rfl rfl hl.1 rfl (lv_room (Nat.le_of_ble_eq_true rfl)) dX5_work_71 ⟨Nat.le_of_ble_eq_true rfl, Nat.le_of_ble_eq_true rfl⟩) hS (fun q h1 h2 => absurd h2 (Nat.not_le.mpr h1)) (fun q h => hA q (Nat.le_trans hS.1 h)) (fun r_8 u t H1 locs ht hvm hw_8 hB hz1 hk1 hS => ?_)
      have hP := keepP hP hk1
      clear hz1 hk1 hB ht hvm hPc hDc hKc
      generalize H1 = H at hP hS ⊢
      obtain rfl : r_8 = nI ((fbl (8 * ow + nq)).toNatClampNeg) := hw_8
      have b_9 := (bd_cle0 hbl (show 8 * ow + nq < 80 by omega) : (fbl (8 * ow + nq)).toNatClampNeg ≤ 12)
      refine lv_istore (lv' := [(8, .int (nI ((fbl (8 * ow + nq)).toNatClampNeg))), (7, .int (nI ow)), (6, .int (nI q9)), (0, .ref h0), (1, .ref p1), (2, .ref p3), (3, .int (nI nq)), (4, .int (nI fm)), (5, .int 1)]) hx hb dX5_work_74 hl (by decide) rfl (fun ls hl => ?_)
      refine lv_iconst (v := 0) hx hb dX5_work_76 (by decide) ?_
      refine lv_istore (lv' := [(9, .int 0), (8, .int (nI ((fbl (8 * ow + nq)).toNatClampNeg))), (7, .int (nI ow)), (6, .int (nI q9)), (0, .ref h0), (1, .ref p1), (2, .ref p3), (3, .int (nI nq)), (4, .int (nI fm)), (5, .int 1)]) hx hb dX5_work_77 hl (by decide) rfl (fun ls hl => ?_)
      refine lv_iconst (v := 0) hx hb dX5_work_79 (by decide) ?_
      refine lv_istore (lv' := [(10, .int 0), (9, .int 0), (8, .int (nI ((fbl (8 * ow + nq)).toNatClampNeg))), (7, .int (nI ow)), (6, .int (nI q9)), (0, .ref h0), (1, .ref p1), (2, .ref p3), (3, .int (nI nq)), (4, .int (nI fm)), (5, .int 1)]) hx hb dX5_work_80 hl (by decide) rfl (fun ls hl => ?_)
      have key_10 : ∀ (fu : Nat) (k9 : Nat) (en : Int32) (sdx : Nat) (mdx : Nat) (fdx : Nat → Int32), (k9 ≤ 12) → (sdx ≤ 40) → (mdx ≤ 200) → (sgL (wdC fle fli fo fbl fbs cn kq 7) nq q9 (fun i => fbs (12 * (8 * ow + nq) + i)) ((fbl (8 * ow + nq)).toNatClampNeg - k9) k9 (en, mdx, sdx, fdx) = (wdC fle fli fo fbl fbs cn kq 8 nq fm (md, sd, fd))) → 12 - k9 < fu → ∀ (H : Heap) (locs : List Loc), va_P (dC, dI) vwCl [(h0, .inr (5, [.ref u0, .int (nI sdx), .int (nI mdx), .int (nI kq)])), (u0, .inl (ku0, 40, .inl fdx)), (p1, .inr (1, [w0, .ref b1, w2, .ref b3, w4, w5, .int (nI cn), w7])), (b1, .inl (kb1, 10, .inl fle)), (b3, .inl (kb3, 100, .inl fli)), (p3, .inr (0, [.ref e0, .ref e1, .ref e2])), (e0, .inl (ke0, 8, .inl fo)), (e1, .inl (ke1, 80, .inl fbl)), (e2, .inl (ke2, 960, .inl fbs))] H → va_D A [(h0, .inr (5, [.ref u0, .int (nI sdx), .int (nI mdx), .int (nI kq)])), (u0, .inl (ku0, 40, .inl fdx)), (p1, .inr (1, [w0, .ref b1, w2, .ref b3, w4, w5, .int (nI cn), w7])), (b1, .inl (kb1, 10, .inl fle)), (b3, .inl (kb3, 100, .inl fli)), (p3, .inr (0, [.ref e0, .ref e1, .ref e2])), (e0, .inl (ke0, 8, .inl fo)), (e1, .inl (ke1, 80, .inl fbl)), (e2, .inl (ke2, 960, .inl fbs))] → va_S A s.heap H locs → ∀ (ls : Array Slot), lv_has ls 12 [(10, .int (nI k9)), (9, .int en), (8, .int (nI ((fbl (8 * ow + nq)).toNatClampNeg))), (7, .int (nI ow)), (6, .int (nI q9)), (0, .ref h0), (1, .ref p1), (2, .ref p3), (3, .int (nI nq)), (4, .int (nI fm)), (5, .int 1)] → W p l e (headSpec (wq yX5_work cX5_work 12 (some .int)) ({ frames := 11, cells := 0, slots := 0, locals := 303 })).room s m (([.ref h0, .ref p1, .ref p3, .int (nI nq), .int (nI fm), .int 1] : List Value)).toArray below meth c H locs 0 0 (MQ below (va_Qi (fun (r : Int32) (_ : Unit) => r = (wdC fle fli fo fbl fbs cn kq 8 nq fm (md, sd, fd)).1) (fun _ t => ∃ (sd2 : Nat) (md2 : Nat) (fd2 : Nat → Int32), (sd2 ≤ 40) ∧ (md2 ≤ 200) ∧ ((md2, sd2, fd2) = (wdC fle fli fo fbl fbs cn kq 8 nq fm (md, sd, fd)).2) ∧ va_P (dC, dI) vwCl [(h0, .inr (5, [.ref u0, .int (nI sd2), .int (nI md2), .int (nI kq)])), (u0, .inl (ku0, 40, .inl fd2)), (p1, .inr (1, [w0, .ref b1, w2, .ref b3, w4, w5, .int (nI cn), w7])), (b1, .inl (kb1, 10, .inl fle)), (b3, .inl (kb3, 100, .inl fli)), (p3, .inr (0, [.ref e0, .ref e1, .ref e2])), (e0, .inl (ke0, 8, .inl fo)), (e1, .inl (ke1, 80, .inl fbl)), (e2, .inl (ke2, 960, .inl fbs))] t.heap ∧ va_K (dC, dI) vwCl [(ku0, .int), (kb1, .int), (kb3, .int), (ke0, .int), (ke1, .int), (ke2, .char)] t ∧ va_D A [(h0, .inr (5, [.ref u0, .int (nI sd2), .int (nI md2), .int (nI kq)])), (u0, .inl (ku0, 40, .inl fd2)), (p1, .inr (1, [w0, .ref b1, w2, .ref b3, w4, w5, .int (nI cn), w7])), (b1, .inl (kb1, 10, .inl fle)), (b3, .inl (kb3, 100, .inl fli)), (p3, .inr (0, [.ref e0, .ref e1, .ref e2])), (e0, .inl (ke0, 8, .inl fo)), (e1, .inl (ke1, 80, .inl fbl)), (e2, .inl (ke2, 960, .inl fbs))]) A) (([.ref h0, .ref p1, .ref p3, .int (nI nq), .int (nI fm), .int 1] : List Value)).toArray s 0 0 A) (F0 m 82 ls []) := by
        intro fu
        induction fu with
        | zero => intro k9 en sdx mdx fdx hk hsx hmx hlp hme; exact absurd hme (Nat.not_lt_zero _)
        | succ fu ih_11 =>
          intro k9 en sdx mdx fdx hk hsx hmx hlp hme H locs hP hD hS ls hl
          refine lv_iload hx hb dX5_work_82 (lv_at hl 0 rfl) ?_
          refine lv_iload hx hb dX5_work_84 (lv_at hl 2 rfl) ?_
          refine lv_icmp_ge (tgt := 184) hx hb dX5_work_86 (by decide) (fun c_12 => ?_) (fun c_12 => ?_)
          · have b_13 := gx_ge (X := ((k9 : Nat) : Int)) (C := (((fbl (8 * ow + nq)).toNatClampNeg : Nat) : Int)) (nI_toInt (by omega)) (nI_toInt (by omega)) c_12
            refine lv_iload hx hb dX5_work_184 (lv_at hl 1 rfl) ?_
            have hP9 := hP.sub (ws' := [(h0, .inr (5, [.ref u0, .int (nI sdx), .int (nI mdx), .int (nI kq)])), (u0, .inl (ku0, 40, .inl fdx)), (p1, .inr (1, [w0, .ref b1, w2, .ref b3, w4, w5, .int (nI cn), w7])), (b1, .inl (kb1, 10, .inl fle)), (b3, .inl (kb3, 100, .inl fli)), (p3, .inr (0, [.ref e0, .ref e1, .ref e2])), (e0, .inl (ke0, 8, .inl fo)), (e1, .inl (ke1, 80, .inl fbl)), (e2, .inl (ke2, 960, .inl fbs))]) [0, 1, 2, 3, 4, 5, 6, 7, 8] rfl
            have hD9 := hD.sub (ws' := [(h0, .inr (5, [.ref u0, .int (nI sdx), .int (nI mdx), .int (nI kq)])), (u0, .inl (ku0, 40, .inl fdx)), (p1, .inr (1, [w0, .ref b1, w2, .ref b3, w4, w5, .int (nI cn), w7])), (b1, .inl (kb1, 10, .inl fle)), (b3, .inl (kb3, 100, .inl fli)), (p3, .inr (0, [.ref e0, .ref e1, .ref e2])), (e0, .inl (ke0, 8, .inl fo)), (e1, .inl (ke1, 80, .inl fbl)), (e2, .inl (ke2, 960, .inl fbs))]) [0, 1, 2, 3, 4, 5, 6, 7, 8] (by decide) rfl
            have hK9 := hK.sub (tys' := [(ku0, .int), (kb1, .int), (kb3, .int), (ke0, .int), (ke1, .int), (ke2, .char)]) [0, 1, 2, 3, 4, 5] rfl
            exact W.iret (v := en) hx hb hr (fun t ht hW => ⟨⟨en, (), rfl, (r4 ((sgl_end (Or.inl (by omega))).symm.trans hlp)).1, sdx, mdx, fdx, hsx, hmx, (Prod.ext (r4 ((sgl_end (Or.inl (by omega))).symm.trans hlp)).2.1 (Prod.ext (r4 ((sgl_end (Or.inl (by omega))).symm.trans hlp)).2.2.1 (r4 ((sgl_end (Or.inl (by omega))).symm.trans hlp)).2.2.2)), by rw [ht]; exact hP9, va_K.moved hW.alike hK9, hD9⟩, hS.F ht⟩) hS.2.2 dX5_work_186
          · have b_13 := gn_ge (X := ((k9 : Nat) : Int)) (C := (((fbl (8 * ow + nq)).toNatClampNeg : Nat) : Int)) (nI_toInt (by omega)) (nI_toInt (by omega)) c_12
            refine lv_iload hx hb dX5_work_89 (lv_at hl 1 rfl) ?_
            refine lv_if_ne (tgt := 184) hx hb dX5_work_91 (by decide) (fun c_14 => ?_) (fun c_14 => ?_)
            · have b_15 := gx_ne (X := (Int32.toInt en)) (C := 0) rfl (by decide) c_14
              refine lv_iload hx hb dX5_work_184 (lv_at hl 1 rfl) ?_
              have hP9 := hP.sub (ws' := [(h0, .inr (5, [.ref u0, .int (nI sdx), .int (nI mdx), .int (nI kq)])), (u0, .inl (ku0, 40, .inl fdx)), (p1, .inr (1, [w0, .ref b1, w2, .ref b3, w4, w5, .int (nI cn), w7])), (b1, .inl (kb1, 10, .inl fle)), (b3, .inl (kb3, 100, .inl fli)), (p3, .inr (0, [.ref e0, .ref e1, .ref e2])), (e0, .inl (ke0, 8, .inl fo)), (e1, .inl (ke1, 80, .inl fbl)), (e2, .inl (ke2, 960, .inl fbs))]) [0, 1, 2, 3, 4, 5, 6, 7, 8] rfl
              have hD9 := hD.sub (ws' := [(h0, .inr (5, [.ref u0, .int (nI sdx), .int (nI mdx), .int (nI kq)])), (u0, .inl (ku0, 40, .inl fdx)), (p1, .inr (1, [w0, .ref b1, w2, .ref b3, w4, w5, .int (nI cn), w7])), (b1, .inl (kb1, 10, .inl fle)), (b3, .inl (kb3, 100, .inl fli)), (p3, .inr (0, [.ref e0, .ref e1, .ref e2])), (e0, .inl (ke0, 8, .inl fo)), (e1, .inl (ke1, 80, .inl fbl)), (e2, .inl (ke2, 960, .inl fbs))]) [0, 1, 2, 3, 4, 5, 6, 7, 8] (by decide) rfl
              have hK9 := hK.sub (tys' := [(ku0, .int), (kb1, .int), (kb3, .int), (ke0, .int), (ke1, .int), (ke2, .char)]) [0, 1, 2, 3, 4, 5] rfl
              exact W.iret (v := en) hx hb hr (fun t ht hW => ⟨⟨en, (), rfl, (r4 ((sgl_end (Or.inr c_14)).symm.trans hlp)).1, sdx, mdx, fdx, hsx, hmx, (Prod.ext (r4 ((sgl_end (Or.inr c_14)).symm.trans hlp)).2.1 (Prod.ext (r4 ((sgl_end (Or.inr c_14)).symm.trans hlp)).2.2.1 (r4 ((sgl_end (Or.inr c_14)).symm.trans hlp)).2.2.2)), by rw [ht]; exact hP9, va_K.moved hW.alike hK9, hD9⟩, hS.F ht⟩) hS.2.2 dX5_work_186
            · have b_15 := gn_ne (X := (Int32.toInt en)) (C := 0) rfl (by decide) c_14
              refine lv_aload_n hx hb dX5_work_94 rfl (lv_at hl 7 rfl) ?_
              refine lv_iload hx hb dX5_work_95 (lv_at hl 3 rfl) ?_
              refine lv_iload_n hx hb dX5_work_97 rfl (lv_at hl 8 rfl) ?_
              refine lv_iload hx hb dX5_work_98 (lv_at hl 0 rfl) ?_
              have hPc := hP.sub (ws' := [(p3, .inr (0, [.ref e0, .ref e1, .ref e2])), (e1, .inl (ke1, 80, .inl fbl)), (e2, .inl (ke2, 960, .inl fbs))]) [5, 7, 8] rfl
              have hDc := hD.sub (ws' := [(p3, .inr (0, [.ref e0, .ref e1, .ref e2])), (e1, .inl (ke1, 80, .inl fbl)), (e2, .inl (ke2, 960, .inl fbs))]) [5, 7, 8] (by decide) rfl
              have hKc := hK.sub (tys' := [(ke1, .int), (ke2, .char)]) [4, 5] rfl
              refine va_calli (va_runV (As := [.int (nI ow), .int (nI nq), .int (nI k9)]) (rest := []) ⟨hx, hb, hml, hown, hts⟩ (c_bsignN l dC dI H.size p3 (.ref e0) e1 e2 ke1 fbl ke2 fbs ow nq k9 hbl hbs (by omega) hnq (by omega)) (cwV 3 hts (gV mw_2_176 mw_2_177 mw_2_178 mw_1_5 mw_2_179) rfl rfl rfl (by decide +kernel) ⟨Nat.le_of_ble_eq_true rfl, Nat.le_of_ble_eq_true rfl⟩) ⟨pcW_blind, va_recv hKc hPc (ci := 0) (q0 := 0) rfl rfl, pcW_at hPc hKc hDc hN⟩ rfl rfl hl.1 rfl (lv_room (Nat.le_of_ble_eq_true rfl)) dX5_work_100 ⟨Nat.le_of_ble_eq_true rfl, Nat.le_of_ble_eq_true rfl⟩) hS (fun q h1 h2 => absurd h2 (Nat.not_le.mpr h1)) (fun q h => hA q (Nat.le_trans hS.1 h)) (fun r_16 u t H1 locs ht hvm hw_16 hB hz1 hk1 hS => ?_)
              have hP := keepP hP hk1
              clear hz1 hk1 hB ht hvm hPc hDc hKc
              generalize H1 = H at hP hS ⊢
              obtain rfl : r_16 = (fbs (12 * (8 * ow + nq) + k9)) := hw_16
              refine lv_istore (lv' := [(11, .int (fbs (12 * (8 * ow + nq) + k9))), (10, .int (nI k9)), (9, .int en), (8, .int (nI ((fbl (8 * ow + nq)).toNatClampNeg))), (7, .int (nI ow)), (6, .int (nI q9)), (0, .ref h0), (1, .ref p1), (2, .ref p3), (3, .int (nI nq)), (4, .int (nI fm)), (5, .int 1)]) hx hb dX5_work_103 hl (by decide) rfl (fun ls hl => ?_)
              have hvc : (48 ≤ Int32.toInt (fbs (12 * (8 * ow + nq) + k9)) ∧ Int32.toInt (fbs (12 * (8 * ow + nq) + k9)) ≤ 57) ∨ (97 ≤ Int32.toInt (fbs (12 * (8 * ow + nq) + k9)) ∧ Int32.toInt (fbs (12 * (8 * ow + nq) + k9)) ≤ 104) ∨ Int32.toInt (fbs (12 * (8 * ow + nq) + k9)) = 94 := hcv (8 * ow + nq) (by omega) k9 (by omega)
              refine lv_iload hx hb dX5_work_105 (lv_at hl 0 rfl) ?_
              refine lv_bipush (v := 48) hx hb dX5_work_107 (by decide) ?_
              refine lv_icmp_lt (tgt := 133) hx hb dX5_work_109 (by decide) (fun h => absurd (gx_lt (X := (Int32.toInt (fbs (12 * (8 * ow + nq) + k9)))) (C := 48) rfl (by decide) h) (by omega)) (fun c_17 => ?_)
              have b_18 := gn_lt (X := (Int32.toInt (fbs (12 * (8 * ow + nq) + k9)))) (C := 48) rfl (by decide) c_17
              refine lv_iload hx hb dX5_work_112 (lv_at hl 0 rfl) ?_
              refine lv_bipush (v := 57) hx hb dX5_work_114 (by decide) ?_
              refine lv_icmp_gt (tgt := 133) hx hb dX5_work_116 (by decide) (fun c_19 => ?_) (fun c_19 => ?_)
              · have b_20 := gx_gt (X := (Int32.toInt (fbs (12 * (8 * ow + nq) + k9)))) (C := 57) rfl (by decide) c_19
                refine lv_iload hx hb dX5_work_133 (lv_at hl 0 rfl) ?_
                refine lv_bipush (v := 94) hx hb dX5_work_135 (by decide) ?_
                refine lv_icmp_ne (tgt := 160) hx hb dX5_work_137 (by decide) (fun c_21 => ?_) (fun c_21 => ?_)
                · have b_22 := gx_ne (X := (Int32.toInt (fbs (12 * (8 * ow + nq) + k9)))) (C := 94) rfl (by decide) c_21
                  refine lv_aload_n hx hb dX5_work_160 rfl (lv_at hl 6 rfl) ?_
                  refine lv_aload_n hx hb dX5_work_161 rfl (lv_at hl 7 rfl) ?_
                  refine lv_aload_n hx hb dX5_work_162 rfl (lv_at hl 8 rfl) ?_
                  refine lv_iload hx hb dX5_work_163 (lv_at hl 0 rfl) ?_
                  refine lv_bipush (v := 97) hx hb dX5_work_165 (by decide) ?_
                  refine lv_isub hx hb dX5_work_167 ?_
                  refine lv_topi (fun z_23 ez_23 => ?_)
                  have gz_23 := fx_rng (fbs (12 * (8 * ow + nq) + k9))
                  have fz_23 : Int32.toInt z_23 = (Int32.toInt (fbs (12 * (8 * ow + nq) + k9))) - 97 := by rw [ez_23]; exact gx_sub (X := (Int32.toInt (fbs (12 * (8 * ow + nq) + k9)))) (C := 97) rfl (by decide) (by omega) (by omega)
                  obtain ⟨j_24, tj_24, ej_24⟩ := fx_nat (x := z_23) (by omega)
                  subst ej_24
                  have yj_24 : Int32.toInt (nI j_24) = (j_24 : Int) := nI_toInt tj_24
                  refine lv_iconst (v := 0) hx hb dX5_work_168 (by decide) ?_
                  refine lv_iload hx hb dX5_work_169 (lv_at hl 11 rfl) ?_
                  refine lv_iconst (v := 1) hx hb dX5_work_171 (by decide) ?_
                  refine lv_iadd hx hb dX5_work_172 ?_
                  refine hx_top (y := 2) (by decide) ?_
                  have hPc := hP.sub (ws' := [(h0, .inr (5, [.ref u0, .int (nI sdx), .int (nI mdx), .int (nI kq)])), (u0, .inl (ku0, 40, .inl fdx)), (p1, .inr (1, [w0, .ref b1, w2, .ref b3, w4, w5, .int (nI cn), w7])), (b1, .inl (kb1, 10, .inl fle)), (b3, .inl (kb3, 100, .inl fli)), (p3, .inr (0, [.ref e0, .ref e1, .ref e2])), (e0, .inl (ke0, 8, .inl fo)), (e1, .inl (ke1, 80, .inl fbl)), (e2, .inl (ke2, 960, .inl fbs))]) [0, 1, 2, 3, 4, 5, 6, 7, 8] rfl
                  have hDc := hD.sub (ws' := [(h0, .inr (5, [.ref u0, .int (nI sdx), .int (nI mdx), .int (nI kq)])), (u0, .inl (ku0, 40, .inl fdx)), (p1, .inr (1, [w0, .ref b1, w2, .ref b3, w4, w5, .int (nI cn), w7])), (b1, .inl (kb1, 10, .inl fle)), (b3, .inl (kb3, 100, .inl fli)), (p3, .inr (0, [.ref e0, .ref e1, .ref e2])), (e0, .inl (ke0, 8, .inl fo)), (e1, .inl (ke1, 80, .inl fbl)), (e2, .inl (ke2, 960, .inl fbs))]) [0, 1, 2, 3, 4, 5, 6, 7, 8] (by decide) rfl
                  have hKc := hK.sub (tys' := [(ku0, .int), (kb1, .int), (kb3, .int), (ke0, .int), (ke1, .int), (ke2, .char)]) [0, 1, 2, 3, 4, 5] rfl
                  have hFc := va_free (wc := [(h0, .inr (5, [.ref u0, .int (nI sdx), .int (nI mdx), .int (nI kq)])), (u0, .inl (ku0, 40, .inl fdx)), (p1, .inr (1, [w0, .ref b1, w2, .ref b3, w4, w5, .int (nI cn), w7])), (b1, .inl (kb1, 10, .inl fle)), (b3, .inl (kb3, 100, .inl fli)), (p3, .inr (0, [.ref e0, .ref e1, .ref e2])), (e0, .inl (ke0, 8, .inl fo)), (e1, .inl (ke1, 80, .inl fbl)), (e2, .inl (ke2, 960, .inl fbs))]) hD hS hA [0, 1, 2, 3, 4, 5, 6, 7, 8] rfl
                  refine va_calli (va_runV (As := [.ref p1, .ref p3, .int (nI j_24), .int 0, .int 2]) (rest := []) ⟨hx, hb, hml, hown, hts⟩ (c_work2 l dC dI H.size h0 u0 sdx mdx kq ku0 fdx p1 (w0) b1 (w2) b3 (w4) (w5) cn (w7) kb1 fle kb3 fli p3 e0 e1 e2 ke0 fo ke1 fbl ke2 fbs j_24 0 hsx hc hle hbl hbs hlk hkq (by omega) (by omega) hmx hcv) (cwV 5 hts (gV mw_2_165 mw_2_167 mw_0_4 mw_1_6 mw_2_168) rfl rfl rfl (by decide +kernel) ⟨Nat.le_of_ble_eq_true rfl, Nat.le_of_ble_eq_true rfl⟩) ⟨pcW_blind, va_recv hKc hPc (ci := 5) (q0 := 0) rfl rfl, pcW_at hPc hKc hDc hN⟩ rfl rfl hl.1 rfl (lv_room (Nat.le_of_ble_eq_true rfl)) dX5_work_173 ⟨Nat.le_of_ble_eq_true rfl, Nat.le_of_ble_eq_true rfl⟩) hS (fun q _ h => hFc q h) hFc (fun r_25 u t H1 locs ht hvm hw_25 hB hz1 hk1 hS => ?_)
                  obtain ⟨q_26, q_27, f_28, p_29, p_30, p_31, hP1, hK1, hD1⟩ := hB
                  rw [ht] at hP1
                  have hK1 := va_K.moved hvm.symm hK1
                  obtain ⟨hP, hD⟩ := va_join (wr := []) (w1 := [(h0, .inr (5, [.ref u0, .int (nI q_26), .int (nI q_27), .int (nI kq)])), (u0, .inl (ku0, 40, .inl f_28)), (p1, .inr (1, [w0, .ref b1, w2, .ref b3, w4, w5, .int (nI cn), w7])), (b1, .inl (kb1, 10, .inl fle)), (b3, .inl (kb3, 100, .inl fli)), (p3, .inr (0, [.ref e0, .ref e1, .ref e2])), (e0, .inl (ke0, 8, .inl fo)), (e1, .inl (ke1, 80, .inl fbl)), (e2, .inl (ke2, 960, .inl fbs))]) hP hD [0, 1, 2, 3, 4, 5, 6, 7, 8] [] rfl rfl (by decide) (by decide) hk1 hFc hP1 hD1
                  have hK := (hK.sub (tys' := []) [] rfl).app hK1
                  clear hz1 hk1 hPc hDc hKc hFc
                  generalize H1 = H at hP hS ⊢
                  have hK : va_K (dC, dI) vwCl [(ku0, .int), (kb1, .int), (kb3, .int), (ke0, .int), (ke1, .int), (ke2, .char)] s := hK
                  have hP : va_P (dC, dI) vwCl [(h0, .inr (5, [.ref u0, .int (nI q_26), .int (nI q_27), .int (nI kq)])), (u0, .inl (ku0, 40, .inl f_28)), (p1, .inr (1, [w0, .ref b1, w2, .ref b3, w4, w5, .int (nI cn), w7])), (b1, .inl (kb1, 10, .inl fle)), (b3, .inl (kb3, 100, .inl fli)), (p3, .inr (0, [.ref e0, .ref e1, .ref e2])), (e0, .inl (ke0, 8, .inl fo)), (e1, .inl (ke1, 80, .inl fbl)), (e2, .inl (ke2, 960, .inl fbs))] H := hP
                  have hD : va_D A [(h0, .inr (5, [.ref u0, .int (nI q_26), .int (nI q_27), .int (nI kq)])), (u0, .inl (ku0, 40, .inl f_28)), (p1, .inr (1, [w0, .ref b1, w2, .ref b3, w4, w5, .int (nI cn), w7])), (b1, .inl (kb1, 10, .inl fle)), (b3, .inl (kb3, 100, .inl fli)), (p3, .inr (0, [.ref e0, .ref e1, .ref e2])), (e0, .inl (ke0, 8, .inl fo)), (e1, .inl (ke1, 80, .inl fbl)), (e2, .inl (ke2, 960, .inl fbs))] := hD
                  refine lv_istore (lv' := [(9, .int r_25), (11, .int (fbs (12 * (8 * ow + nq) + k9))), (10, .int (nI k9)), (8, .int (nI ((fbl (8 * ow + nq)).toNatClampNeg))), (7, .int (nI ow)), (6, .int (nI q9)), (0, .ref h0), (1, .ref p1), (2, .ref p3), (3, .int (nI nq)), (4, .int (nI fm)), (5, .int 1)]) hx hb dX5_work_176 hl (by decide) rfl (fun ls hl => ?_)
                  refine lv_iinc (v := (nI (k9 + 1))) (lv' := [(10, .int (nI (k9 + 1))), (9, .int r_25), (11, .int (fbs (12 * (8 * ow + nq) + k9))), (8, .int (nI ((fbl (8 * ow + nq)).toNatClampNeg))), (7, .int (nI ow)), (6, .int (nI q9)), (0, .ref h0), (1, .ref p1), (2, .ref p3), (3, .int (nI nq)), (4, .int (nI fm)), (5, .int 1)]) hx hb dX5_work_178 hl (k := 2) rfl (nI_add k9 1) (by decide) rfl (fun ls hl => ?_)
                  refine lv_goto (tgt := 82) hx hb dX5_work_181 (by decide) ?_
                  exact ih_11 (k9 + 1) r_25 q_26 q_27 f_28 (by omega) p_29 p_30 (lp_let hlp c_14 (by omega) (by show 97 ≤ Int32.toInt (fbs (12 * (8 * ow + nq) + k9)); omega) (by show ((j_24 : Nat) : Int) = Int32.toInt (fbs (12 * (8 * ow + nq) + k9)) - 97; omega) hw_25 p_31) (by omega) _ _ hP hD hS ls (lv_sub hl [0, 1, 3, 4, 5, 6, 7, 8, 9, 10, 11] rfl)
                · have b_22 := gn_ne (X := (Int32.toInt (fbs (12 * (8 * ow + nq) + k9)))) (C := 94) rfl (by decide) c_21
                  refine lv_aload_n hx hb dX5_work_140 rfl (lv_at hl 6 rfl) ?_
                  refine lv_aload_n hx hb dX5_work_141 rfl (lv_at hl 7 rfl) ?_
                  refine lv_aload_n hx hb dX5_work_142 rfl (lv_at hl 8 rfl) ?_
                  refine lv_iload_n hx hb dX5_work_143 rfl (lv_at hl 9 rfl) ?_
                  refine lv_iload hx hb dX5_work_144 (lv_at hl 5 rfl) ?_
                  refine lv_iconst (v := 1) hx hb dX5_work_146 (by decide) ?_
                  refine lv_iadd hx hb dX5_work_147 ?_
                  refine hx_top (y := (nI (q9 + 1))) (nI_add q9 1) ?_
                  refine lv_iload hx hb dX5_work_148 (lv_at hl 11 rfl) ?_
                  refine lv_iconst (v := 1) hx hb dX5_work_150 (by decide) ?_
                  refine lv_iadd hx hb dX5_work_151 ?_
                  refine hx_top (y := 2) (by decide) ?_
                  have hPc := hP.sub (ws' := [(h0, .inr (5, [.ref u0, .int (nI sdx), .int (nI mdx), .int (nI kq)])), (u0, .inl (ku0, 40, .inl fdx)), (p1, .inr (1, [w0, .ref b1, w2, .ref b3, w4, w5, .int (nI cn), w7])), (b1, .inl (kb1, 10, .inl fle)), (b3, .inl (kb3, 100, .inl fli)), (p3, .inr (0, [.ref e0, .ref e1, .ref e2])), (e0, .inl (ke0, 8, .inl fo)), (e1, .inl (ke1, 80, .inl fbl)), (e2, .inl (ke2, 960, .inl fbs))]) [0, 1, 2, 3, 4, 5, 6, 7, 8] rfl
                  have hDc := hD.sub (ws' := [(h0, .inr (5, [.ref u0, .int (nI sdx), .int (nI mdx), .int (nI kq)])), (u0, .inl (ku0, 40, .inl fdx)), (p1, .inr (1, [w0, .ref b1, w2, .ref b3, w4, w5, .int (nI cn), w7])), (b1, .inl (kb1, 10, .inl fle)), (b3, .inl (kb3, 100, .inl fli)), (p3, .inr (0, [.ref e0, .ref e1, .ref e2])), (e0, .inl (ke0, 8, .inl fo)), (e1, .inl (ke1, 80, .inl fbl)), (e2, .inl (ke2, 960, .inl fbs))]) [0, 1, 2, 3, 4, 5, 6, 7, 8] (by decide) rfl
                  have hKc := hK.sub (tys' := [(ku0, .int), (kb1, .int), (kb3, .int), (ke0, .int), (ke1, .int), (ke2, .char)]) [0, 1, 2, 3, 4, 5] rfl
                  have hFc := va_free (wc := [(h0, .inr (5, [.ref u0, .int (nI sdx), .int (nI mdx), .int (nI kq)])), (u0, .inl (ku0, 40, .inl fdx)), (p1, .inr (1, [w0, .ref b1, w2, .ref b3, w4, w5, .int (nI cn), w7])), (b1, .inl (kb1, 10, .inl fle)), (b3, .inl (kb3, 100, .inl fli)), (p3, .inr (0, [.ref e0, .ref e1, .ref e2])), (e0, .inl (ke0, 8, .inl fo)), (e1, .inl (ke1, 80, .inl fbl)), (e2, .inl (ke2, 960, .inl fbs))]) hD hS hA [0, 1, 2, 3, 4, 5, 6, 7, 8] rfl
                  refine va_calli (va_runV (As := [.ref p1, .ref p3, .int (nI nq), .int (nI (q9 + 1)), .int 2]) (rest := []) ⟨hx, hb, hml, hown, hts⟩ (c_work2 l dC dI H.size h0 u0 sdx mdx kq ku0 fdx p1 (w0) b1 (w2) b3 (w4) (w5) cn (w7) kb1 fle kb3 fli p3 e0 e1 e2 ke0 fo ke1 fbl ke2 fbs nq (q9 + 1) hsx hc hle hbl hbs hlk hkq hnq (by omega) hmx hcv) (cwV 5 hts (gV mw_2_165 mw_2_167 mw_0_4 mw_1_6 mw_2_168) rfl rfl rfl (by decide +kernel) ⟨Nat.le_of_ble_eq_true rfl, Nat.le_of_ble_eq_true rfl⟩) ⟨pcW_blind, va_recv hKc hPc (ci := 5) (q0 := 0) rfl rfl, pcW_at hPc hKc hDc hN⟩ rfl rfl hl.1 rfl (lv_room (Nat.le_of_ble_eq_true rfl)) dX5_work_152 ⟨Nat.le_of_ble_eq_true rfl, Nat.le_of_ble_eq_true rfl⟩) hS (fun q _ h => hFc q h) hFc (fun r_32 u t H1 locs ht hvm hw_32 hB hz1 hk1 hS => ?_)
                  obtain ⟨q_33, q_34, f_35, p_36, p_37, p_38, hP1, hK1, hD1⟩ := hB
                  rw [ht] at hP1
                  have hK1 := va_K.moved hvm.symm hK1
                  obtain ⟨hP, hD⟩ := va_join (wr := []) (w1 := [(h0, .inr (5, [.ref u0, .int (nI q_33), .int (nI q_34), .int (nI kq)])), (u0, .inl (ku0, 40, .inl f_35)), (p1, .inr (1, [w0, .ref b1, w2, .ref b3, w4, w5, .int (nI cn), w7])), (b1, .inl (kb1, 10, .inl fle)), (b3, .inl (kb3, 100, .inl fli)), (p3, .inr (0, [.ref e0, .ref e1, .ref e2])), (e0, .inl (ke0, 8, .inl fo)), (e1, .inl (ke1, 80, .inl fbl)), (e2, .inl (ke2, 960, .inl fbs))]) hP hD [0, 1, 2, 3, 4, 5, 6, 7, 8] [] rfl rfl (by decide) (by decide) hk1 hFc hP1 hD1
                  have hK := (hK.sub (tys' := []) [] rfl).app hK1
                  clear hz1 hk1 hPc hDc hKc hFc
                  generalize H1 = H at hP hS ⊢
                  have hK : va_K (dC, dI) vwCl [(ku0, .int), (kb1, .int), (kb3, .int), (ke0, .int), (ke1, .int), (ke2, .char)] s := hK
                  have hP : va_P (dC, dI) vwCl [(h0, .inr (5, [.ref u0, .int (nI q_33), .int (nI q_34), .int (nI kq)])), (u0, .inl (ku0, 40, .inl f_35)), (p1, .inr (1, [w0, .ref b1, w2, .ref b3, w4, w5, .int (nI cn), w7])), (b1, .inl (kb1, 10, .inl fle)), (b3, .inl (kb3, 100, .inl fli)), (p3, .inr (0, [.ref e0, .ref e1, .ref e2])), (e0, .inl (ke0, 8, .inl fo)), (e1, .inl (ke1, 80, .inl fbl)), (e2, .inl (ke2, 960, .inl fbs))] H := hP
                  have hD : va_D A [(h0, .inr (5, [.ref u0, .int (nI q_33), .int (nI q_34), .int (nI kq)])), (u0, .inl (ku0, 40, .inl f_35)), (p1, .inr (1, [w0, .ref b1, w2, .ref b3, w4, w5, .int (nI cn), w7])), (b1, .inl (kb1, 10, .inl fle)), (b3, .inl (kb3, 100, .inl fli)), (p3, .inr (0, [.ref e0, .ref e1, .ref e2])), (e0, .inl (ke0, 8, .inl fo)), (e1, .inl (ke1, 80, .inl fbl)), (e2, .inl (ke2, 960, .inl fbs))] := hD
                  refine lv_istore (lv' := [(9, .int r_32), (11, .int (fbs (12 * (8 * ow + nq) + k9))), (10, .int (nI k9)), (8, .int (nI ((fbl (8 * ow + nq)).toNatClampNeg))), (7, .int (nI ow)), (6, .int (nI q9)), (0, .ref h0), (1, .ref p1), (2, .ref p3), (3, .int (nI nq)), (4, .int (nI fm)), (5, .int 1)]) hx hb dX5_work_155 hl (by decide) rfl (fun ls hl => ?_)
                  refine lv_goto (tgt := 178) hx hb dX5_work_157 (by decide) ?_
                  refine lv_iinc (v := (nI (k9 + 1))) (lv' := [(10, .int (nI (k9 + 1))), (9, .int r_32), (11, .int (fbs (12 * (8 * ow + nq) + k9))), (8, .int (nI ((fbl (8 * ow + nq)).toNatClampNeg))), (7, .int (nI ow)), (6, .int (nI q9)), (0, .ref h0), (1, .ref p1), (2, .ref p3), (3, .int (nI nq)), (4, .int (nI fm)), (5, .int 1)]) hx hb dX5_work_178 hl (k := 2) rfl (nI_add k9 1) (by decide) rfl (fun ls hl => ?_)
                  refine lv_goto (tgt := 82) hx hb dX5_work_181 (by decide) ?_
                  exact ih_11 (k9 + 1) r_32 q_33 q_34 f_35 (by omega) p_36 p_37 (lp_up hlp c_14 (by omega) (by show Int32.toInt (fbs (12 * (8 * ow + nq) + k9)) = 94; omega) hw_32 p_38) (by omega) _ _ hP hD hS ls (lv_sub hl [0, 1, 3, 4, 5, 6, 7, 8, 9, 10, 11] rfl)
              · have b_20 := gn_gt (X := (Int32.toInt (fbs (12 * (8 * ow + nq) + k9)))) (C := 57) rfl (by decide) c_19
                refine lv_aload_n hx hb dX5_work_119 rfl (lv_at hl 6 rfl) ?_
                refine lv_iload hx hb dX5_work_120 (lv_at hl 0 rfl) ?_
                refine lv_bipush (v := 48) hx hb dX5_work_122 (by decide) ?_
                refine lv_isub hx hb dX5_work_124 ?_
                refine lv_topi (fun z_39 ez_39 => ?_)
                have gz_39 := fx_rng (fbs (12 * (8 * ow + nq) + k9))
                have fz_39 : Int32.toInt z_39 = (Int32.toInt (fbs (12 * (8 * ow + nq) + k9))) - 48 := by rw [ez_39]; exact gx_sub (X := (Int32.toInt (fbs (12 * (8 * ow + nq) + k9)))) (C := 48) rfl (by decide) (by omega) (by omega)
                have hPc := hP.sub (ws' := [(h0, .inr (5, [.ref u0, .int (nI sdx), .int (nI mdx), .int (nI kq)])), (u0, .inl (ku0, 40, .inl fdx))]) [0, 1] rfl
                have hDc := hD.sub (ws' := [(h0, .inr (5, [.ref u0, .int (nI sdx), .int (nI mdx), .int (nI kq)])), (u0, .inl (ku0, 40, .inl fdx))]) [0, 1] (by decide) rfl
                have hKc := hK.sub (tys' := [(ku0, .int)]) [0] rfl
                have hFc := va_free (wc := [(h0, .inr (5, [.ref u0, .int (nI sdx), .int (nI mdx), .int (nI kq)])), (u0, .inl (ku0, 40, .inl fdx))]) hD hS hA [0, 1] rfl
                refine va_calli (va_runV (As := [.int z_39]) (rest := []) ⟨hx, hb, hml, hown, hts⟩ (c_sayD l dC dI H.size h0 u0 sdx mdx kq ku0 fdx z_39 hsx) (cwV 1 hts (gV mw_2_181 mw_2_183 mw_0_5 mw_1_6 mw_2_184) rfl rfl rfl (by decide +kernel) ⟨Nat.le_of_ble_eq_true rfl, Nat.le_of_ble_eq_true rfl⟩) ⟨pcW_blind, va_recv hKc hPc (ci := 5) (q0 := 0) rfl rfl, pcW_at hPc hKc hDc hN⟩ rfl rfl hl.1 rfl (lv_room (Nat.le_of_ble_eq_true rfl)) dX5_work_125 ⟨Nat.le_of_ble_eq_true rfl, Nat.le_of_ble_eq_true rfl⟩) hS (fun q _ h => hFc q h) hFc (fun r_40 u t H1 locs ht hvm hw_40 hB hz1 hk1 hS => ?_)
                obtain ⟨q_41, f_42, p_43, p_44, p_45, hP1, hK1, hD1⟩ := hB
                rw [ht] at hP1
                have hK1 := va_K.moved hvm.symm hK1
                obtain ⟨hP, hD⟩ := va_join (wr := [(p1, .inr (1, [w0, .ref b1, w2, .ref b3, w4, w5, .int (nI cn), w7])), (b1, .inl (kb1, 10, .inl fle)), (b3, .inl (kb3, 100, .inl fli)), (p3, .inr (0, [.ref e0, .ref e1, .ref e2])), (e0, .inl (ke0, 8, .inl fo)), (e1, .inl (ke1, 80, .inl fbl)), (e2, .inl (ke2, 960, .inl fbs))]) (w1 := [(h0, .inr (5, [.ref u0, .int (nI q_41), .int (nI mdx), .int (nI kq)])), (u0, .inl (ku0, 40, .inl f_42))]) hP hD [0, 1] [2, 3, 4, 5, 6, 7, 8] rfl rfl (by decide) (by decide) hk1 hFc hP1 hD1
                have hK := (hK.sub (tys' := [(kb1, .int), (kb3, .int), (ke0, .int), (ke1, .int), (ke2, .char)]) [1, 2, 3, 4, 5] rfl).app hK1
                clear hz1 hk1 hPc hDc hKc hFc
                generalize H1 = H at hP hS ⊢
                have hK : va_K (dC, dI) vwCl [(kb1, .int), (kb3, .int), (ke0, .int), (ke1, .int), (ke2, .char), (ku0, .int)] s := hK
                have hP : va_P (dC, dI) vwCl [(p1, .inr (1, [w0, .ref b1, w2, .ref b3, w4, w5, .int (nI cn), w7])), (b1, .inl (kb1, 10, .inl fle)), (b3, .inl (kb3, 100, .inl fli)), (p3, .inr (0, [.ref e0, .ref e1, .ref e2])), (e0, .inl (ke0, 8, .inl fo)), (e1, .inl (ke1, 80, .inl fbl)), (e2, .inl (ke2, 960, .inl fbs)), (h0, .inr (5, [.ref u0, .int (nI q_41), .int (nI mdx), .int (nI kq)])), (u0, .inl (ku0, 40, .inl f_42))] H := hP
                have hD : va_D A [(p1, .inr (1, [w0, .ref b1, w2, .ref b3, w4, w5, .int (nI cn), w7])), (b1, .inl (kb1, 10, .inl fle)), (b3, .inl (kb3, 100, .inl fli)), (p3, .inr (0, [.ref e0, .ref e1, .ref e2])), (e0, .inl (ke0, 8, .inl fo)), (e1, .inl (ke1, 80, .inl fbl)), (e2, .inl (ke2, 960, .inl fbs)), (h0, .inr (5, [.ref u0, .int (nI q_41), .int (nI mdx), .int (nI kq)])), (u0, .inl (ku0, 40, .inl f_42))] := hD
                refine lv_istore (lv' := [(9, .int r_40), (11, .int (fbs (12 * (8 * ow + nq) + k9))), (10, .int (nI k9)), (8, .int (nI ((fbl (8 * ow + nq)).toNatClampNeg))), (7, .int (nI ow)), (6, .int (nI q9)), (0, .ref h0), (1, .ref p1), (2, .ref p3), (3, .int (nI nq)), (4, .int (nI fm)), (5, .int 1)]) hx hb dX5_work_128 hl (by decide) rfl (fun ls hl => ?_)
                refine lv_goto (tgt := 178) hx hb dX5_work_130 (by decide) ?_
                refine lv_iinc (v := (nI (k9 + 1))) (lv' := [(10, .int (nI (k9 + 1))), (9, .int r_40), (11, .int (fbs (12 * (8 * ow + nq) + k9))), (8, .int (nI ((fbl (8 * ow + nq)).toNatClampNeg))), (7, .int (nI ow)), (6, .int (nI q9)), (0, .ref h0), (1, .ref p1), (2, .ref p3), (3, .int (nI nq)), (4, .int (nI fm)), (5, .int 1)]) hx hb dX5_work_178 hl (k := 2) rfl (nI_add k9 1) (by decide) rfl (fun ls hl => ?_)
                refine lv_goto (tgt := 82) hx hb dX5_work_181 (by decide) ?_
                exact ih_11 (k9 + 1) r_40 q_41 mdx f_42 (by omega) p_43 hmx (by rw [hw_40]; exact lp_dig hlp c_14 (by omega) (by show 48 ≤ Int32.toInt (fbs (12 * (8 * ow + nq) + k9)) ∧ Int32.toInt (fbs (12 * (8 * ow + nq) + k9)) ≤ 57; omega) (by rw [ez_39]) p_44 p_45) (by omega) _ _ (hP.sub (ws' := [(h0, .inr (5, [.ref u0, .int (nI q_41), .int (nI mdx), .int (nI kq)])), (u0, .inl (ku0, 40, .inl f_42)), (p1, .inr (1, [w0, .ref b1, w2, .ref b3, w4, w5, .int (nI cn), w7])), (b1, .inl (kb1, 10, .inl fle)), (b3, .inl (kb3, 100, .inl fli)), (p3, .inr (0, [.ref e0, .ref e1, .ref e2])), (e0, .inl (ke0, 8, .inl fo)), (e1, .inl (ke1, 80, .inl fbl)), (e2, .inl (ke2, 960, .inl fbs))]) [7, 8, 0, 1, 2, 3, 4, 5, 6] rfl) (hD.sub (ws' := [(h0, .inr (5, [.ref u0, .int (nI q_41), .int (nI mdx), .int (nI kq)])), (u0, .inl (ku0, 40, .inl f_42)), (p1, .inr (1, [w0, .ref b1, w2, .ref b3, w4, w5, .int (nI cn), w7])), (b1, .inl (kb1, 10, .inl fle)), (b3, .inl (kb3, 100, .inl fli)), (p3, .inr (0, [.ref e0, .ref e1, .ref e2])), (e0, .inl (ke0, 8, .inl fo)), (e1, .inl (ke1, 80, .inl fbl)), (e2, .inl (ke2, 960, .inl fbs))]) [7, 8, 0, 1, 2, 3, 4, 5, 6] (by decide) rfl) hS ls (lv_sub hl [0, 1, 3, 4, 5, 6, 7, 8, 9, 10, 11] rfl)
      exact key_10 ((12 - 0) + 1) 0 0 sd (md + 1) fd (by omega) hsd (by omega) (wd_inC hw_4 (by omega) (by omega) eow (by omega)).symm (Nat.lt_succ_self _) _ _ hP hD hS ls (lv_sub hl [0, 1, 2, 3, 4, 5, 6, 7, 8, 9, 10] rfl)
  · have b_2 := gn_lt (X := ((md : Nat) : Int)) (C := 200) (nI_toInt (by omega)) (by decide) c_1
    refine lv_iconst (v := 2) hx hb dX5_work_17 (by decide) ?_
    have hP9 := hP.sub (ws' := [(h0, .inr (5, [.ref u0, .int (nI sd), .int (nI md), .int (nI kq)])), (u0, .inl (ku0, 40, .inl fd)), (p1, .inr (1, [w0, .ref b1, w2, .ref b3, w4, w5, .int (nI cn), w7])), (b1, .inl (kb1, 10, .inl fle)), (b3, .inl (kb3, 100, .inl fli)), (p3, .inr (0, [.ref e0, .ref e1, .ref e2])), (e0, .inl (ke0, 8, .inl fo)), (e1, .inl (ke1, 80, .inl fbl)), (e2, .inl (ke2, 960, .inl fbs))]) [0, 1, 2, 3, 4, 5, 6, 7, 8] rfl
    have hD9 := hD.sub (ws' := [(h0, .inr (5, [.ref u0, .int (nI sd), .int (nI md), .int (nI kq)])), (u0, .inl (ku0, 40, .inl fd)), (p1, .inr (1, [w0, .ref b1, w2, .ref b3, w4, w5, .int (nI cn), w7])), (b1, .inl (kb1, 10, .inl fle)), (b3, .inl (kb3, 100, .inl fli)), (p3, .inr (0, [.ref e0, .ref e1, .ref e2])), (e0, .inl (ke0, 8, .inl fo)), (e1, .inl (ke1, 80, .inl fbl)), (e2, .inl (ke2, 960, .inl fbs))]) [0, 1, 2, 3, 4, 5, 6, 7, 8] (by decide) rfl
    have hK9 := hK.sub (tys' := [(ku0, .int), (kb1, .int), (kb3, .int), (ke0, .int), (ke1, .int), (ke2, .char)]) [0, 1, 2, 3, 4, 5] rfl
    exact W.iret (v := 2) hx hb hr (fun t ht hW => ⟨⟨2, (), rfl, (r4 (wd_fuC (d := 8) (Or.inr (by omega)))).1, sd, md, fd, hsd, hmd, (Prod.ext (r4 (wd_fuC (d := 8) (Or.inr (by omega)))).2.1 (Prod.ext (r4 (wd_fuC (d := 8) (Or.inr (by omega)))).2.2.1 (r4 (wd_fuC (d := 8) (Or.inr (by omega)))).2.2.2)), by rw [ht]; exact hP9, va_K.moved hW.alike hK9, hD9⟩, hS.F ht⟩) hS.2.2 dX5_work_18
set_option maxHeartbeats 4000000 in
set_option maxRecDepth 100000 in
theorem c_work0 (l : Launch) (dC : Nat → ClassId) (dI : Nat → Nat → Nat) (sz : Nat) (h0 : Nat) (u0 : Nat) (sd : Nat) (md : Nat) (kq : Nat) (ku0 : ClassId) (fd : Nat → Int32) (p1 : Nat) (w0 : Value) (b1 : Nat) (w2 : Value) (b3 : Nat) (w4 : Value) (w5 : Value) (cn : Nat) (w7 : Value) (kb1 : ClassId) (fle : Nat → Int32) (kb3 : ClassId) (fli : Nat → Int32) (p3 : Nat) (e0 : Nat) (e1 : Nat) (e2 : Nat) (ke0 : ClassId) (fo : Nat → Int32) (ke1 : ClassId) (fbl : Nat → Int32) (ke2 : ClassId) (fbs : Nat → Int32) (nq : Nat) (fm : Nat) (hsd : sd ≤ 40) (hc : cn ≤ 10) (hle : BdOk 10 10 fle) (hbl : BdOk 80 12 fbl) (hbs : ChOk fbs) (hlk : LnOk fle fli cn) (hkq : kq < cn) (hnq : nq < 8) (hfm : fm ≤ 10) (hmd : md ≤ 200) (hcv : CvOk fbl fbs) : Met l yX5_work (wq yX5_work cX5_work 12 (some .int)) ({ frames := 12, cells := 0, slots := 0, locals := 334 }) (va_Pc [.ref h0, .ref p1, .ref p3, .int (nI nq), .int (nI fm), .int 0] (pcW dC dI [(ku0, .int), (kb1, .int), (kb3, .int), (ke0, .int), (ke1, .int), (ke2, .char)] [(h0, .inr (5, [.ref u0, .int (nI sd), .int (nI md), .int (nI kq)])), (u0, .inl (ku0, 40, .inl fd)), (p1, .inr (1, [w0, .ref b1, w2, .ref b3, w4, w5, .int (nI cn), w7])), (b1, .inl (kb1, 10, .inl fle)), (b3, .inl (kb3, 100, .inl fli)), (p3, .inr (0, [.ref e0, .ref e1, .ref e2])), (e0, .inl (ke0, 8, .inl fo)), (e1, .inl (ke1, 80, .inl fbl)), (e2, .inl (ke2, 960, .inl fbs))] sz)) (va_Qi (fun (r : Int32) (_ : Unit) => r = (wdC fle fli fo fbl fbs cn kq 9 nq fm (md, sd, fd)).1) (fun _ t => ∃ (sd2 : Nat) (md2 : Nat) (fd2 : Nat → Int32), (sd2 ≤ 40) ∧ (md2 ≤ 200) ∧ ((md2, sd2, fd2) = (wdC fle fli fo fbl fbs cn kq 9 nq fm (md, sd, fd)).2) ∧ va_P (dC, dI) vwCl [(h0, .inr (5, [.ref u0, .int (nI sd2), .int (nI md2), .int (nI kq)])), (u0, .inl (ku0, 40, .inl fd2)), (p1, .inr (1, [w0, .ref b1, w2, .ref b3, w4, w5, .int (nI cn), w7])), (b1, .inl (kb1, 10, .inl fle)), (b3, .inl (kb3, 100, .inl fli)), (p3, .inr (0, [.ref e0, .ref e1, .ref e2])), (e0, .inl (ke0, 8, .inl fo)), (e1, .inl (ke1, 80, .inl fbl)), (e2, .inl (ke2, 960, .inl fbs))] t.heap ∧ va_K (dC, dI) vwCl [(ku0, .int), (kb1, .int), (kb3, .int), (ke0, .int), (ke1, .int), (ke2, .char)] t ∧ va_D (va_A [(h0, .inr (5, [.ref u0, .int (nI sd), .int (nI md), .int (nI kq)])), (u0, .inl (ku0, 40, .inl fd)), (p1, .inr (1, [w0, .ref b1, w2, .ref b3, w4, w5, .int (nI cn), w7])), (b1, .inl (kb1, 10, .inl fle)), (b3, .inl (kb3, 100, .inl fli)), (p3, .inr (0, [.ref e0, .ref e1, .ref e2])), (e0, .inl (ke0, 8, .inl fo)), (e1, .inl (ke1, 80, .inl fbl)), (e2, .inl (ke2, 960, .inl fbs))] sz) [(h0, .inr (5, [.ref u0, .int (nI sd2), .int (nI md2), .int (nI kq)])), (u0, .inl (ku0, 40, .inl fd2)), (p1, .inr (1, [w0, .ref b1, w2, .ref b3, w4, w5, .int (nI cn), w7])), (b1, .inl (kb1, 10, .inl fle)), (b3, .inl (kb3, 100, .inl fli)), (p3, .inr (0, [.ref e0, .ref e1, .ref e2])), (e0, .inl (ke0, 8, .inl fo)), (e1, .inl (ke1, 80, .inl fbl)), (e2, .inl (ke2, 960, .inl fbs))]) (va_A [(h0, .inr (5, [.ref u0, .int (nI sd), .int (nI md), .int (nI kq)])), (u0, .inl (ku0, 40, .inl fd)), (p1, .inr (1, [w0, .ref b1, w2, .ref b3, w4, w5, .int (nI cn), w7])), (b1, .inl (kb1, 10, .inl fle)), (b3, .inl (kb3, 100, .inl fli)), (p3, .inr (0, [.ref e0, .ref e1, .ref e2])), (e0, .inl (ke0, 8, .inl fo)), (e1, .inl (ke1, 80, .inl fbl)), (e2, .inl (ke2, 960, .inl fbs))] sz)) 0 0 (va_A [(h0, .inr (5, [.ref u0, .int (nI sd), .int (nI md), .int (nI kq)])), (u0, .inl (ku0, 40, .inl fd)), (p1, .inr (1, [w0, .ref b1, w2, .ref b3, w4, w5, .int (nI cn), w7])), (b1, .inl (kb1, 10, .inl fle)), (b3, .inl (kb3, 100, .inl fli)), (p3, .inr (0, [.ref e0, .ref e1, .ref e2])), (e0, .inl (ke0, 8, .inl fo)), (e1, .inl (ke1, 80, .inl fbl)), (e2, .inl (ke2, 960, .inl fbs))] sz) := by
  refine Met.ofW (cc := cX5_work) (maxL := 12) (ret := (some .int)) (by decide) rfl ?_
  intro p e s m args below meth c s₁ B hml hv
  obtain ⟨rfl, hsz, hN, hP, hK, hD0⟩ := hv
  have hx := B.exec
  have hb := B.bytes
  have hr := B.returns
  have hts0 := atoms_spec (ws := (wq yX5_work cX5_work 12 (some .int))) B.pre
  have hts : ∀ w ∈ BG, w.before _ s = true := fun w h => hts0 w (List.mem_cons_of_mem _ h)
  have hown : s.vm.findClass RX5 = some m.cls := findClass_of_methodNamed B.named
  have hlocks := B.notSynchronized
  subst hsz
  have hD := hD0.self (sz := s.heap.size)
  generalize hAe : va_A [(h0, .inr (5, [.ref u0, .int (nI sd), .int (nI md), .int (nI kq)])), (u0, .inl (ku0, 40, .inl fd)), (p1, .inr (1, [w0, .ref b1, w2, .ref b3, w4, w5, .int (nI cn), w7])), (b1, .inl (kb1, 10, .inl fle)), (b3, .inl (kb3, 100, .inl fli)), (p3, .inr (0, [.ref e0, .ref e1, .ref e2])), (e0, .inl (ke0, 8, .inl fo)), (e1, .inl (ke1, 80, .inl fbl)), (e2, .inl (ke2, 960, .inl fbs))] s.heap.size = A at hD ⊢
  have hA : ∀ q : Nat, s.heap.size ≤ q → A q := fun q h => by rw [← hAe]; exact Or.inr h
  have hS : va_S A s.heap s.heap [] := va_S.rf
  clear hAe hD0
  have hP : va_P (dC, dI) vwCl [(h0, .inr (5, [.ref u0, .int (nI sd), .int (nI md), .int (nI kq)])), (u0, .inl (ku0, 40, .inl fd)), (p1, .inr (1, [w0, .ref b1, w2, .ref b3, w4, w5, .int (nI cn), w7])), (b1, .inl (kb1, 10, .inl fle)), (b3, .inl (kb3, 100, .inl fli)), (p3, .inr (0, [.ref e0, .ref e1, .ref e2])), (e0, .inl (ke0, 8, .inl fo)), (e1, .inl (ke1, 80, .inl fbl)), (e2, .inl (ke2, 960, .inl fbs))] s.heap := hP
  have hl := lv_entry ([.ref h0, .ref p1, .ref p3, .int (nI nq), .int (nI fm), .int 0]) (n := 12) (Nat.le_of_ble_eq_true rfl)
  rw [lg_entry_eq]
  generalize (lg_sl ([.ref h0, .ref p1, .ref p3, .int (nI nq), .int (nI fm), .int 0]) ++ List.replicate (12 - (lg_sl ([.ref h0, .ref p1, .ref p3, .int (nI nq), .int (nI fm), .int 0])).length) Slot.unset).toArray = ls at hl ⊢
  have hl : lv_has ls 12 [(0, .ref h0), (1, .ref p1), (2, .ref p3), (3, .int (nI nq)), (4, .int (nI fm)), (5, .int 0)] := hl
  have hle9 := lenN_le (n := nI kq) hc hle
  refine lv_iload hx hb dX5_work_0 (lv_at hl 5 rfl) ?_
  refine lv_bipush (v := 9) hx hb dX5_work_2 (by decide) ?_
  refine lv_icmp_ge (tgt := 17) hx hb dX5_work_4 (by decide) (fun h => absurd h (by decide)) (fun _ => ?_)
  refine lv_aload_n hx hb dX5_work_7 rfl (lv_at hl 0 rfl) ?_
  refine va_get (D := (dC, dI)) (ci := 5) (v := .int (nI md)) (C := RX5) (T := TX5) (N := 4) hx hb hts inB_5 hown hK hP 0 rfl rfl 2 (by decide) (hts _ mw_1_110) (fun _ h9 => h9) rfl dX5_work_8 ?_
  refine lv_sipush (v := 200) hx hb dX5_work_11 (by decide) ?_
  refine lv_icmp_lt (tgt := 19) hx hb dX5_work_14 (by decide) (fun c_1 => ?_) (fun c_1 => ?_)
  · have b_2 := gx_lt (X := ((md : Nat) : Int)) (C := 200) (nI_toInt (by omega)) (by decide) c_1
    refine lv_aload_n hx hb dX5_work_19 rfl (lv_at hl 0 rfl) ?_
    refine lv_dup hx hb dX5_work_20 rfl ?_
    refine va_get (D := (dC, dI)) (ci := 5) (v := .int (nI md)) (C := RX5) (T := TX5) (N := 4) hx hb hts inB_5 hown hK hP 0 rfl rfl 2 (by decide) (hts _ mw_1_110) (fun _ h9 => h9) rfl dX5_work_21 ?_
    refine lv_iconst (v := 1) hx hb dX5_work_24 (by decide) ?_
    refine lv_iadd hx hb dX5_work_25 ?_
    refine hx_top (y := (nI (md + 1))) (nI_add md 1) ?_
    refine va_put (D := (dC, dI)) (ci := 5) (v := .int (nI (md + 1))) (ty := .int) (C := RX5) (T := TX5) (N := 4) hx hb hts inB_5 tyX5 tyX5_ok nmX5 hown hK hP hD hS 0 rfl rfl 2 (by decide) (hts _ mw_1_110) (fun _ h9 => h9) rfl (by decide +kernel) rfl rfl (Nat.le_of_ble_eq_true rfl) dX5_work_26 (fun H locs hP hD hS => ?_)
    have hP : va_P (dC, dI) vwCl [(h0, .inr (5, [.ref u0, .int (nI sd), .int (nI (md + 1)), .int (nI kq)])), (u0, .inl (ku0, 40, .inl fd)), (p1, .inr (1, [w0, .ref b1, w2, .ref b3, w4, w5, .int (nI cn), w7])), (b1, .inl (kb1, 10, .inl fle)), (b3, .inl (kb3, 100, .inl fli)), (p3, .inr (0, [.ref e0, .ref e1, .ref e2])), (e0, .inl (ke0, 8, .inl fo)), (e1, .inl (ke1, 80, .inl fbl)), (e2, .inl (ke2, 960, .inl fbs))] H := hP
    have hD : va_D A [(h0, .inr (5, [.ref u0, .int (nI sd), .int (nI (md + 1)), .int (nI kq)])), (u0, .inl (ku0, 40, .inl fd)), (p1, .inr (1, [w0, .ref b1, w2, .ref b3, w4, w5, .int (nI cn), w7])), (b1, .inl (kb1, 10, .inl fle)), (b3, .inl (kb3, 100, .inl fli)), (p3, .inr (0, [.ref e0, .ref e1, .ref e2])), (e0, .inl (ke0, 8, .inl fo)), (e1, .inl (ke1, 80, .inl fbl)), (e2, .inl (ke2, 960, .inl fbs))] := hD
    refine lv_aload_n hx hb dX5_work_29 rfl (lv_at hl 1 rfl) ?_
    refine lv_aload_n hx hb dX5_work_30 rfl (lv_at hl 0 rfl) ?_
    refine va_get (D := (dC, dI)) (ci := 5) (v := .int (nI kq)) (C := RX5) (T := TX5) (N := 4) hx hb hts inB_5 hown hK hP 0 rfl rfl 3 (by decide) (hts _ mw_1_111) (fun _ h9 => h9) rfl dX5_work_31 ?_
    refine lv_aload_n hx hb dX5_work_34 rfl (lv_at hl 2 rfl) ?_
    refine lv_iload_n hx hb dX5_work_35 rfl (lv_at hl 3 rfl) ?_
    have hPc := hP.sub (ws' := [(p3, .inr (0, [.ref e0, .ref e1, .ref e2])), (e0, .inl (ke0, 8, .inl fo))]) [5, 6] rfl
    have hDc := hD.sub (ws' := [(p3, .inr (0, [.ref e0, .ref e1, .ref e2])), (e0, .inl (ke0, 8, .inl fo))]) [5, 6] (by decide) rfl
    have hKc := hK.sub (tys' := [(ke0, .int)]) [3] rfl
    refine va_calli (va_runV (As := [.int (nI nq)]) (rest := [.int (nI kq), .ref p1]) ⟨hx, hb, hml, hown, hts⟩ (c_own l dC dI H.size p3 e0 (.ref e1) (.ref e2) ke0 fo nq hnq) (cwV 1 hts (gV mw_2_169 mw_2_105 mw_2_106 mw_1_5 mw_2_107) rfl rfl rfl (by decide +kernel) ⟨Nat.le_of_ble_eq_true rfl, Nat.le_of_ble_eq_true rfl⟩) ⟨pcW_blind, va_recv hKc hPc (ci := 0) (q0 := 0) rfl rfl, pcW_at hPc hKc hDc hN⟩ rfl rfl hl.1 rfl (lv_room (Nat.le_of_ble_eq_true rfl)) dX5_work_36 ⟨Nat.le_of_ble_eq_true rfl, Nat.le_of_ble_eq_true rfl⟩) hS (fun q h1 h2 => absurd h2 (Nat.not_le.mpr h1)) (fun q h => hA q (Nat.le_trans hS.1 h)) (fun r_3 u t H1 locs ht hvm hw_3 hB hz1 hk1 hS => ?_)
    have hP := keepP hP hk1
    clear hz1 hk1 hB ht hvm hPc hDc hKc
    generalize H1 = H at hP hS ⊢
    obtain rfl : r_3 = (fo nq) := hw_3
    refine lv_iload hx hb dX5_work_39 (lv_at hl 4 rfl) ?_
    have hPc := hP.sub (ws' := [(p1, .inr (1, [w0, .ref b1, w2, .ref b3, w4, w5, .int (nI cn), w7])), (b1, .inl (kb1, 10, .inl fle)), (b3, .inl (kb3, 100, .inl fli))]) [2, 3, 4] rfl
    have hDc := hD.sub (ws' := [(p1, .inr (1, [w0, .ref b1, w2, .ref b3, w4, w5, .int (nI cn), w7])), (b1, .inl (kb1, 10, .inl fle)), (b3, .inl (kb3, 100, .inl fli))]) [2, 3, 4] (by decide) rfl
    have hKc := hK.sub (tys' := [(kb1, .int), (kb3, .int)]) [1, 2] rfl
    refine va_calli (va_runV (As := [.int (nI kq), .int (fo nq), .int (nI fm)]) (rest := []) ⟨hx, hb, hml, hown, hts⟩ (c_whereFirst l dC dI H.size p1 (w0) b1 (w2) b3 (w4) (w5) cn (w7) kb1 fle kb3 fli kq (fo nq) fm hc hle hlk hkq (by omega)) (cwV 3 hts (gV mw_2_170 mw_2_146 mw_2_147 mw_1_2 mw_2_148) rfl rfl rfl (by decide +kernel) ⟨Nat.le_of_ble_eq_true rfl, Nat.le_of_ble_eq_true rfl⟩) ⟨pcW_blind, va_recv hKc hPc (ci := 1) (q0 := 0) rfl rfl, pcW_at hPc hKc hDc hN⟩ rfl rfl hl.1 rfl (lv_room (Nat.le_of_ble_eq_true rfl)) dX5_work_41 ⟨Nat.le_of_ble_eq_true rfl, Nat.le_of_ble_eq_true rfl⟩) hS (fun q h1 h2 => absurd h2 (Nat.not_le.mpr h1)) (fun q h => hA q (Nat.le_trans hS.1 h)) (fun r_4 u t H1 locs ht hvm hw_4 hB hz1 hk1 hS => ?_)
    have hP := keepP hP hk1
    clear hz1 hk1 hB ht hvm hPc hDc hKc
    generalize H1 = H at hP hS ⊢
    refine lv_istore (lv' := [(6, .int r_4), (0, .ref h0), (1, .ref p1), (2, .ref p3), (3, .int (nI nq)), (4, .int (nI fm)), (5, .int 0)]) hx hb dX5_work_44 hl (by decide) rfl (fun ls hl => ?_)
    rcases wf_cases hw_4 with eq9 | ⟨q9, hq9, eq9⟩
    · subst eq9
      refine lv_iload hx hb dX5_work_46 (lv_at hl 0 rfl) ?_
      refine lv_bipush (v := (-6)) hx hb dX5_work_48 (by decide) ?_
      refine lv_icmp_ne (tgt := 55) hx hb dX5_work_50 (by decide) (fun h => absurd h (by decide)) (fun _ => ?_)
      refine lv_iconst (v := 1) hx hb dX5_work_53 (by decide) ?_
      have hP9 := hP.sub (ws' := [(h0, .inr (5, [.ref u0, .int (nI sd), .int (nI (md + 1)), .int (nI kq)])), (u0, .inl (ku0, 40, .inl fd)), (p1, .inr (1, [w0, .ref b1, w2, .ref b3, w4, w5, .int (nI cn), w7])), (b1, .inl (kb1, 10, .inl fle)), (b3, .inl (kb3, 100, .inl fli)), (p3, .inr (0, [.ref e0, .ref e1, .ref e2])), (e0, .inl (ke0, 8, .inl fo)), (e1, .inl (ke1, 80, .inl fbl)), (e2, .inl (ke2, 960, .inl fbs))]) [0, 1, 2, 3, 4, 5, 6, 7, 8] rfl
      have hD9 := hD.sub (ws' := [(h0, .inr (5, [.ref u0, .int (nI sd), .int (nI (md + 1)), .int (nI kq)])), (u0, .inl (ku0, 40, .inl fd)), (p1, .inr (1, [w0, .ref b1, w2, .ref b3, w4, w5, .int (nI cn), w7])), (b1, .inl (kb1, 10, .inl fle)), (b3, .inl (kb3, 100, .inl fli)), (p3, .inr (0, [.ref e0, .ref e1, .ref e2])), (e0, .inl (ke0, 8, .inl fo)), (e1, .inl (ke1, 80, .inl fbl)), (e2, .inl (ke2, 960, .inl fbs))]) [0, 1, 2, 3, 4, 5, 6, 7, 8] (by decide) rfl
      have hK9 := hK.sub (tys' := [(ku0, .int), (kb1, .int), (kb3, .int), (ke0, .int), (ke1, .int), (ke2, .char)]) [0, 1, 2, 3, 4, 5] rfl
      exact W.iret (v := 1) hx hb hr (fun t ht hW => ⟨⟨1, (), rfl, (r4 (wd_noC (d := 8) hw_4 (by omega))).1, sd, (md + 1), fd, hsd, (by omega), (Prod.ext (r4 (wd_noC (d := 8) hw_4 (by omega))).2.1 (Prod.ext (r4 (wd_noC (d := 8) hw_4 (by omega))).2.2.1 (r4 (wd_noC (d := 8) hw_4 (by omega))).2.2.2)), by rw [ht]; exact hP9, va_K.moved hW.alike hK9, hD9⟩, hS.F ht⟩) hS.2.2 dX5_work_54
    · subst eq9
      refine lv_iload hx hb dX5_work_46 (lv_at hl 0 rfl) ?_
      refine lv_bipush (v := (-6)) hx hb dX5_work_48 (by decide) ?_
      refine lv_icmp_ne (tgt := 55) hx hb dX5_work_50 (by decide) (fun c_5 => ?_) (fun h => absurd (gn_ne (X := ((q9 : Nat) : Int)) (C := (-6)) (nI_toInt (by omega)) (by decide) h) (by omega))
      have b_6 := gx_ne (X := ((q9 : Nat) : Int)) (C := (-6)) (nI_toInt (by omega)) (by decide) c_5
      refine lv_aload_n hx hb dX5_work_55 rfl (lv_at hl 2 rfl) ?_
      refine lv_aload_n hx hb dX5_work_56 rfl (lv_at hl 1 rfl) ?_
      refine va_get (D := (dC, dI)) (ci := 5) (v := .int (nI kq)) (C := RX5) (T := TX5) (N := 4) hx hb hts inB_5 hown hK hP 0 rfl rfl 3 (by decide) (hts _ mw_1_111) (fun _ h9 => h9) rfl dX5_work_57 ?_
      refine lv_iload hx hb dX5_work_60 (lv_at hl 0 rfl) ?_
      have hPc := hP.sub (ws' := [(p1, .inr (1, [w0, .ref b1, w2, .ref b3, w4, w5, .int (nI cn), w7])), (b1, .inl (kb1, 10, .inl fle)), (b3, .inl (kb3, 100, .inl fli))]) [2, 3, 4] rfl
      have hDc := hD.sub (ws' := [(p1, .inr (1, [w0, .ref b1, w2, .ref b3, w4, w5, .int (nI cn), w7])), (b1, .inl (kb1, 10, .inl fle)), (b3, .inl (kb3, 100, .inl fli))]) [2, 3, 4] (by decide) rfl
      have hKc := hK.sub (tys' := [(kb1, .int), (kb3, .int)]) [1, 2] rfl
      refine va_calli (va_runV (As := [.int (nI kq), .int (nI q9)]) (rest := []) ⟨hx, hb, hml, hown, hts⟩ (c_inLine l dC dI H.size p1 (w0) b1 (w2) b3 (w4) (w5) cn (w7) kb1 fle kb3 fli kq q9 hc hle (by omega) hkq) (cwV 2 hts (gV mw_2_171 mw_1_234 mw_1_235 mw_1_2 mw_1_236) rfl rfl rfl (by decide +kernel) ⟨Nat.le_of_ble_eq_true rfl, Nat.le_of_ble_eq_true rfl⟩) ⟨pcW_blind, va_recv hKc hPc (ci := 1) (q0 := 0) rfl rfl, pcW_at hPc hKc hDc hN⟩ rfl rfl hl.1 rfl (lv_room (Nat.le_of_ble_eq_true rfl)) dX5_work_62 ⟨Nat.le_of_ble_eq_true rfl, Nat.le_of_ble_eq_true rfl⟩) hS (fun q h1 h2 => absurd h2 (Nat.not_le.mpr h1)) (fun q h => hA q (Nat.le_trans hS.1 h)) (fun r_7 u t H1 locs ht hvm hw_7 hB hz1 hk1 hS => ?_)
      have hP := keepP hP hk1
      clear hz1 hk1 hB ht hvm hPc hDc hKc
      generalize H1 = H at hP hS ⊢
      obtain rfl : r_7 = (fli (10 * kq + q9)) := hw_7
      obtain ⟨ow, how, eow⟩ := hlk kq (by omega) q9 (by rw [← lenN_k (f := fle) (c := cn) (by omega) (by omega)]; exact hq9)
      refine hx_top (y := (nI ow)) eow ?_
      refine lv_istore (lv' := [(7, .int (nI ow)), (6, .int (nI q9)), (0, .ref h0), (1, .ref p1), (2, .ref p3), (3, .int (nI nq)), (4, .int (nI fm)), (5, .int 0)]) hx hb dX5_work_65 hl (by decide) rfl (fun ls hl => ?_)
      refine lv_aload_n hx hb dX5_work_67 rfl (lv_at hl 4 rfl) ?_
      refine lv_iload hx hb dX5_work_68 (lv_at hl 0 rfl) ?_
      refine lv_iload_n hx hb dX5_work_70 rfl (lv_at hl 5 rfl) ?_
      have hPc := hP.sub (ws' := [(p3, .inr (0, [.ref e0, .ref e1, .ref e2])), (e1, .inl (ke1, 80, .inl fbl))]) [5, 7] rfl
      have hDc := hD.sub (ws' := [(p3, .inr (0, [.ref e0, .ref e1, .ref e2])), (e1, .inl (ke1, 80, .inl fbl))]) [5, 7] (by decide) rfl
      have hKc := hK.sub (tys' := [(ke1, .int)]) [4] rfl
      refine va_calli (va_runV (As := [.int (nI ow), .int (nI nq)]) (rest := []) ⟨hx, hb, hml, hown, hts⟩ (c_blenN l dC dI H.size p3 (.ref e0) e1 (.ref e2) ke1 fbl ow nq hbl (by omega) hnq) (cwV 2 hts (gV mw_2_172 mw_2_173 mw_2_174 mw_1_5 mw_2_175) rfl rfl rfl (by decide +kernel) ⟨Nat.le_of_ble_eq_true rfl, Nat.le_of_ble_eq_true rfl⟩) ⟨pcW_blind, va_recv hKc hPc (ci := 0) (q0 := 0) rfl rfl, pcW_at hPc hKc hDc hN⟩ rfl rfl hl.1 rfl (lv_room (Nat.le_of_ble_eq_true rfl)) dX5_work_71 ⟨Nat.le_of_ble_eq_true rfl, Nat.le_of_ble_eq_true rfl⟩) hS (fun q h1 h2 => absurd h2 (Nat.not_le.mpr h1)) (fun q h => hA q (Nat.le_trans hS.1 h)) (fun r_8 u t H1 locs ht hvm hw_8 hB hz1 hk1 hS => ?_)
      have hP := keepP hP hk1
      clear hz1 hk1 hB ht hvm hPc hDc hKc
      generalize H1 = H at hP hS ⊢
      obtain rfl : r_8 = nI ((fbl (8 * ow + nq)).toNatClampNeg) := hw_8
      have b_9 := (bd_cle0 hbl (show 8 * ow + nq < 80 by omega) : (fbl (8 * ow + nq)).toNatClampNeg ≤ 12)
      refine lv_istore (lv' := [(8, .int (nI ((fbl (8 * ow + nq)).toNatClampNeg))), (7, .int (nI ow)), (6, .int (nI q9)), (0, .ref h0), (1, .ref p1), (2, .ref p3), (3, .int (nI nq)), (4, .int (nI fm)), (5, .int 0)]) hx hb dX5_work_74 hl (by decide) rfl (fun ls hl => ?_)
      refine lv_iconst (v := 0) hx hb dX5_work_76 (by decide) ?_
      refine lv_istore (lv' := [(9, .int 0), (8, .int (nI ((fbl (8 * ow + nq)).toNatClampNeg))), (7, .int (nI ow)), (6, .int (nI q9)), (0, .ref h0), (1, .ref p1), (2, .ref p3), (3, .int (nI nq)), (4, .int (nI fm)), (5, .int 0)]) hx hb dX5_work_77 hl (by decide) rfl (fun ls hl => ?_)
      refine lv_iconst (v := 0) hx hb dX5_work_79 (by decide) ?_
      refine lv_istore (lv' := [(10, .int 0), (9, .int 0), (8, .int (nI ((fbl (8 * ow + nq)).toNatClampNeg))), (7, .int (nI ow)), (6, .int (nI q9)), (0, .ref h0), (1, .ref p1), (2, .ref p3), (3, .int (nI nq)), (4, .int (nI fm)), (5, .int 0)]) hx hb dX5_work_80 hl (by decide) rfl (fun ls hl => ?_)
      have key_10 : ∀ (fu : Nat) (k9 : Nat) (en : Int32) (sdx : Nat) (mdx : Nat) (fdx : Nat → Int32), (k9 ≤ 12) → (sdx ≤ 40) → (mdx ≤ 200) → (sgL (wdC fle fli fo fbl fbs cn kq 8) nq q9 (fun i => fbs (12 * (8 * ow + nq) + i)) ((fbl (8 * ow + nq)).toNatClampNeg - k9) k9 (en, mdx, sdx, fdx) = (wdC fle fli fo fbl fbs cn kq 9 nq fm (md, sd, fd))) → 12 - k9 < fu → ∀ (H : Heap) (locs : List Loc), va_P (dC, dI) vwCl [(h0, .inr (5, [.ref u0, .int (nI sdx), .int (nI mdx), .int (nI kq)])), (u0, .inl (ku0, 40, .inl fdx)), (p1, .inr (1, [w0, .ref b1, w2, .ref b3, w4, w5, .int (nI cn), w7])), (b1, .inl (kb1, 10, .inl fle)), (b3, .inl (kb3, 100, .inl fli)), (p3, .inr (0, [.ref e0, .ref e1, .ref e2])), (e0, .inl (ke0, 8, .inl fo)), (e1, .inl (ke1, 80, .inl fbl)), (e2, .inl (ke2, 960, .inl fbs))] H → va_D A [(h0, .inr (5, [.ref u0, .int (nI sdx), .int (nI mdx), .int (nI kq)])), (u0, .inl (ku0, 40, .inl fdx)), (p1, .inr (1, [w0, .ref b1, w2, .ref b3, w4, w5, .int (nI cn), w7])), (b1, .inl (kb1, 10, .inl fle)), (b3, .inl (kb3, 100, .inl fli)), (p3, .inr (0, [.ref e0, .ref e1, .ref e2])), (e0, .inl (ke0, 8, .inl fo)), (e1, .inl (ke1, 80, .inl fbl)), (e2, .inl (ke2, 960, .inl fbs))] → va_S A s.heap H locs → ∀ (ls : Array Slot), lv_has ls 12 [(10, .int (nI k9)), (9, .int en), (8, .int (nI ((fbl (8 * ow + nq)).toNatClampNeg))), (7, .int (nI ow)), (6, .int (nI q9)), (0, .ref h0), (1, .ref p1), (2, .ref p3), (3, .int (nI nq)), (4, .int (nI fm)), (5, .int 0)] → W p l e (headSpec (wq yX5_work cX5_work 12 (some .int)) ({ frames := 12, cells := 0, slots := 0, locals := 334 })).room s m (([.ref h0, .ref p1, .ref p3, .int (nI nq), .int (nI fm), .int 0] : List Value)).toArray below meth c H locs 0 0 (MQ below (va_Qi (fun (r : Int32) (_ : Unit) => r = (wdC fle fli fo fbl fbs cn kq 9 nq fm (md, sd, fd)).1) (fun _ t => ∃ (sd2 : Nat) (md2 : Nat) (fd2 : Nat → Int32), (sd2 ≤ 40) ∧ (md2 ≤ 200) ∧ ((md2, sd2, fd2) = (wdC fle fli fo fbl fbs cn kq 9 nq fm (md, sd, fd)).2) ∧ va_P (dC, dI) vwCl [(h0, .inr (5, [.ref u0, .int (nI sd2), .int (nI md2), .int (nI kq)])), (u0, .inl (ku0, 40, .inl fd2)), (p1, .inr (1, [w0, .ref b1, w2, .ref b3, w4, w5, .int (nI cn), w7])), (b1, .inl (kb1, 10, .inl fle)), (b3, .inl (kb3, 100, .inl fli)), (p3, .inr (0, [.ref e0, .ref e1, .ref e2])), (e0, .inl (ke0, 8, .inl fo)), (e1, .inl (ke1, 80, .inl fbl)), (e2, .inl (ke2, 960, .inl fbs))] t.heap ∧ va_K (dC, dI) vwCl [(ku0, .int), (kb1, .int), (kb3, .int), (ke0, .int), (ke1, .int), (ke2, .char)] t ∧ va_D A [(h0, .inr (5, [.ref u0, .int (nI sd2), .int (nI md2), .int (nI kq)])), (u0, .inl (ku0, 40, .inl fd2)), (p1, .inr (1, [w0, .ref b1, w2, .ref b3, w4, w5, .int (nI cn), w7])), (b1, .inl (kb1, 10, .inl fle)), (b3, .inl (kb3, 100, .inl fli)), (p3, .inr (0, [.ref e0, .ref e1, .ref e2])), (e0, .inl (ke0, 8, .inl fo)), (e1, .inl (ke1, 80, .inl fbl)), (e2, .inl (ke2, 960, .inl fbs))]) A) (([.ref h0, .ref p1, .ref p3, .int (nI nq), .int (nI fm), .int 0] : List Value)).toArray s 0 0 A) (F0 m 82 ls []) := by
        intro fu
        induction fu with
        | zero => intro k9 en sdx mdx fdx hk hsx hmx hlp hme; exact absurd hme (Nat.not_lt_zero _)
        | succ fu ih_11 =>
          intro k9 en sdx mdx fdx hk hsx hmx hlp hme H locs hP hD hS ls hl
          refine lv_iload hx hb dX5_work_82 (lv_at hl 0 rfl) ?_
          refine lv_iload hx hb dX5_work_84 (lv_at hl 2 rfl) ?_
          refine lv_icmp_ge (tgt := 184) hx hb dX5_work_86 (by decide) (fun c_12 => ?_) (fun c_12 => ?_)
          · have b_13 := gx_ge (X := ((k9 : Nat) : Int)) (C := (((fbl (8 * ow + nq)).toNatClampNeg : Nat) : Int)) (nI_toInt (by omega)) (nI_toInt (by omega)) c_12
            refine lv_iload hx hb dX5_work_184 (lv_at hl 1 rfl) ?_
            have hP9 := hP.sub (ws' := [(h0, .inr (5, [.ref u0, .int (nI sdx), .int (nI mdx), .int (nI kq)])), (u0, .inl (ku0, 40, .inl fdx)), (p1, .inr (1, [w0, .ref b1, w2, .ref b3, w4, w5, .int (nI cn), w7])), (b1, .inl (kb1, 10, .inl fle)), (b3, .inl (kb3, 100, .inl fli)), (p3, .inr (0, [.ref e0, .ref e1, .ref e2])), (e0, .inl (ke0, 8, .inl fo)), (e1, .inl (ke1, 80, .inl fbl)), (e2, .inl (ke2, 960, .inl fbs))]) [0, 1, 2, 3, 4, 5, 6, 7, 8] rfl
            have hD9 := hD.sub (ws' := [(h0, .inr (5, [.ref u0, .int (nI sdx), .int (nI mdx), .int (nI kq)])), (u0, .inl (ku0, 40, .inl fdx)), (p1, .inr (1, [w0, .ref b1, w2, .ref b3, w4, w5, .int (nI cn), w7])), (b1, .inl (kb1, 10, .inl fle)), (b3, .inl (kb3, 100, .inl fli)), (p3, .inr (0, [.ref e0, .ref e1, .ref e2])), (e0, .inl (ke0, 8, .inl fo)), (e1, .inl (ke1, 80, .inl fbl)), (e2, .inl (ke2, 960, .inl fbs))]) [0, 1, 2, 3, 4, 5, 6, 7, 8] (by decide) rfl
            have hK9 := hK.sub (tys' := [(ku0, .int), (kb1, .int), (kb3, .int), (ke0, .int), (ke1, .int), (ke2, .char)]) [0, 1, 2, 3, 4, 5] rfl
            exact W.iret (v := en) hx hb hr (fun t ht hW => ⟨⟨en, (), rfl, (r4 ((sgl_end (Or.inl (by omega))).symm.trans hlp)).1, sdx, mdx, fdx, hsx, hmx, (Prod.ext (r4 ((sgl_end (Or.inl (by omega))).symm.trans hlp)).2.1 (Prod.ext (r4 ((sgl_end (Or.inl (by omega))).symm.trans hlp)).2.2.1 (r4 ((sgl_end (Or.inl (by omega))).symm.trans hlp)).2.2.2)), by rw [ht]; exact hP9, va_K.moved hW.alike hK9, hD9⟩, hS.F ht⟩) hS.2.2 dX5_work_186
          · have b_13 := gn_ge (X := ((k9 : Nat) : Int)) (C := (((fbl (8 * ow + nq)).toNatClampNeg : Nat) : Int)) (nI_toInt (by omega)) (nI_toInt (by omega)) c_12
            refine lv_iload hx hb dX5_work_89 (lv_at hl 1 rfl) ?_
            refine lv_if_ne (tgt := 184) hx hb dX5_work_91 (by decide) (fun c_14 => ?_) (fun c_14 => ?_)
            · have b_15 := gx_ne (X := (Int32.toInt en)) (C := 0) rfl (by decide) c_14
              refine lv_iload hx hb dX5_work_184 (lv_at hl 1 rfl) ?_
              have hP9 := hP.sub (ws' := [(h0, .inr (5, [.ref u0, .int (nI sdx), .int (nI mdx), .int (nI kq)])), (u0, .inl (ku0, 40, .inl fdx)), (p1, .inr (1, [w0, .ref b1, w2, .ref b3, w4, w5, .int (nI cn), w7])), (b1, .inl (kb1, 10, .inl fle)), (b3, .inl (kb3, 100, .inl fli)), (p3, .inr (0, [.ref e0, .ref e1, .ref e2])), (e0, .inl (ke0, 8, .inl fo)), (e1, .inl (ke1, 80, .inl fbl)), (e2, .inl (ke2, 960, .inl fbs))]) [0, 1, 2, 3, 4, 5, 6, 7, 8] rfl
              have hD9 := hD.sub (ws' := [(h0, .inr (5, [.ref u0, .int (nI sdx), .int (nI mdx), .int (nI kq)])), (u0, .inl (ku0, 40, .inl fdx)), (p1, .inr (1, [w0, .ref b1, w2, .ref b3, w4, w5, .int (nI cn), w7])), (b1, .inl (kb1, 10, .inl fle)), (b3, .inl (kb3, 100, .inl fli)), (p3, .inr (0, [.ref e0, .ref e1, .ref e2])), (e0, .inl (ke0, 8, .inl fo)), (e1, .inl (ke1, 80, .inl fbl)), (e2, .inl (ke2, 960, .inl fbs))]) [0, 1, 2, 3, 4, 5, 6, 7, 8] (by decide) rfl
              have hK9 := hK.sub (tys' := [(ku0, .int), (kb1, .int), (kb3, .int), (ke0, .int), (ke1, .int), (ke2, .char)]) [0, 1, 2, 3, 4, 5] rfl
              exact W.iret (v := en) hx hb hr (fun t ht hW => ⟨⟨en, (), rfl, (r4 ((sgl_end (Or.inr c_14)).symm.trans hlp)).1, sdx, mdx, fdx, hsx, hmx, (Prod.ext (r4 ((sgl_end (Or.inr c_14)).symm.trans hlp)).2.1 (Prod.ext (r4 ((sgl_end (Or.inr c_14)).symm.trans hlp)).2.2.1 (r4 ((sgl_end (Or.inr c_14)).symm.trans hlp)).2.2.2)), by rw [ht]; exact hP9, va_K.moved hW.alike hK9, hD9⟩, hS.F ht⟩) hS.2.2 dX5_work_186
            · have b_15 := gn_ne (X := (Int32.toInt en)) (C := 0) rfl (by decide) c_14
              refine lv_aload_n hx hb dX5_work_94 rfl (lv_at hl 7 rfl) ?_
              refine lv_iload hx hb dX5_work_95 (lv_at hl 3 rfl) ?_
              refine lv_iload_n hx hb dX5_work_97 rfl (lv_at hl 8 rfl) ?_
              refine lv_iload hx hb dX5_work_98 (lv_at hl 0 rfl) ?_
              have hPc := hP.sub (ws' := [(p3, .inr (0, [.ref e0, .ref e1, .ref e2])), (e1, .inl (ke1, 80, .inl fbl)), (e2, .inl (ke2, 960, .inl fbs))]) [5, 7, 8] rfl
              have hDc := hD.sub (ws' := [(p3, .inr (0, [.ref e0, .ref e1, .ref e2])), (e1, .inl (ke1, 80, .inl fbl)), (e2, .inl (ke2, 960, .inl fbs))]) [5, 7, 8] (by decide) rfl
              have hKc := hK.sub (tys' := [(ke1, .int), (ke2, .char)]) [4, 5] rfl
              refine va_calli (va_runV (As := [.int (nI ow), .int (nI nq), .int (nI k9)]) (rest := []) ⟨hx, hb, hml, hown, hts⟩ (c_bsignN l dC dI H.size p3 (.ref e0) e1 e2 ke1 fbl ke2 fbs ow nq k9 hbl hbs (by omega) hnq (by omega)) (cwV 3 hts (gV mw_2_176 mw_2_177 mw_2_178 mw_1_5 mw_2_179) rfl rfl rfl (by decide +kernel) ⟨Nat.le_of_ble_eq_true rfl, Nat.le_of_ble_eq_true rfl⟩) ⟨pcW_blind, va_recv hKc hPc (ci := 0) (q0 := 0) rfl rfl, pcW_at hPc hKc hDc hN⟩ rfl rfl hl.1 rfl (lv_room (Nat.le_of_ble_eq_true rfl)) dX5_work_100 ⟨Nat.le_of_ble_eq_true rfl, Nat.le_of_ble_eq_true rfl⟩) hS (fun q h1 h2 => absurd h2 (Nat.not_le.mpr h1)) (fun q h => hA q (Nat.le_trans hS.1 h)) (fun r_16 u t H1 locs ht hvm hw_16 hB hz1 hk1 hS => ?_)
              have hP := keepP hP hk1
              clear hz1 hk1 hB ht hvm hPc hDc hKc
              generalize H1 = H at hP hS ⊢
              obtain rfl : r_16 = (fbs (12 * (8 * ow + nq) + k9)) := hw_16
              refine lv_istore (lv' := [(11, .int (fbs (12 * (8 * ow + nq) + k9))), (10, .int (nI k9)), (9, .int en), (8, .int (nI ((fbl (8 * ow + nq)).toNatClampNeg))), (7, .int (nI ow)), (6, .int (nI q9)), (0, .ref h0), (1, .ref p1), (2, .ref p3), (3, .int (nI nq)), (4, .int (nI fm)), (5, .int 0)]) hx hb dX5_work_103 hl (by decide) rfl (fun ls hl => ?_)
              have hvc : (48 ≤ Int32.toInt (fbs (12 * (8 * ow + nq) + k9)) ∧ Int32.toInt (fbs (12 * (8 * ow + nq) + k9)) ≤ 57) ∨ (97 ≤ Int32.toInt (fbs (12 * (8 * ow + nq) + k9)) ∧ Int32.toInt (fbs (12 * (8 * ow + nq) + k9)) ≤ 104) ∨ Int32.toInt (fbs (12 * (8 * ow + nq) + k9)) = 94 := hcv (8 * ow + nq) (by omega) k9 (by omega)
              refine lv_iload hx hb dX5_work_105 (lv_at hl 0 rfl) ?_
              refine lv_bipush (v := 48) hx hb dX5_work_107 (by decide) ?_
              refine lv_icmp_lt (tgt := 133) hx hb dX5_work_109 (by decide) (fun h => absurd (gx_lt (X := (Int32.toInt (fbs (12 * (8 * ow + nq) + k9)))) (C := 48) rfl (by decide) h) (by omega)) (fun c_17 => ?_)
              have b_18 := gn_lt (X := (Int32.toInt (fbs (12 * (8 * ow + nq) + k9)))) (C := 48) rfl (by decide) c_17
              refine lv_iload hx hb dX5_work_112 (lv_at hl 0 rfl) ?_
              refine lv_bipush (v := 57) hx hb dX5_work_114 (by decide) ?_
              refine lv_icmp_gt (tgt := 133) hx hb dX5_work_116 (by decide) (fun c_19 => ?_) (fun c_19 => ?_)
              · have b_20 := gx_gt (X := (Int32.toInt (fbs (12 * (8 * ow + nq) + k9)))) (C := 57) rfl (by decide) c_19
                refine lv_iload hx hb dX5_work_133 (lv_at hl 0 rfl) ?_
                refine lv_bipush (v := 94) hx hb dX5_work_135 (by decide) ?_
                refine lv_icmp_ne (tgt := 160) hx hb dX5_work_137 (by decide) (fun c_21 => ?_) (fun c_21 => ?_)
                · have b_22 := gx_ne (X := (Int32.toInt (fbs (12 * (8 * ow + nq) + k9)))) (C := 94) rfl (by decide) c_21
                  refine lv_aload_n hx hb dX5_work_160 rfl (lv_at hl 6 rfl) ?_
                  refine lv_aload_n hx hb dX5_work_161 rfl (lv_at hl 7 rfl) ?_
                  refine lv_aload_n hx hb dX5_work_162 rfl (lv_at hl 8 rfl) ?_
                  refine lv_iload hx hb dX5_work_163 (lv_at hl 0 rfl) ?_
                  refine lv_bipush (v := 97) hx hb dX5_work_165 (by decide) ?_
                  refine lv_isub hx hb dX5_work_167 ?_
                  refine lv_topi (fun z_23 ez_23 => ?_)
                  have gz_23 := fx_rng (fbs (12 * (8 * ow + nq) + k9))
                  have fz_23 : Int32.toInt z_23 = (Int32.toInt (fbs (12 * (8 * ow + nq) + k9))) - 97 := by rw [ez_23]; exact gx_sub (X := (Int32.toInt (fbs (12 * (8 * ow + nq) + k9)))) (C := 97) rfl (by decide) (by omega) (by omega)
                  obtain ⟨j_24, tj_24, ej_24⟩ := fx_nat (x := z_23) (by omega)
                  subst ej_24
                  have yj_24 : Int32.toInt (nI j_24) = (j_24 : Int) := nI_toInt tj_24
                  refine lv_iconst (v := 0) hx hb dX5_work_168 (by decide) ?_
                  refine lv_iload hx hb dX5_work_169 (lv_at hl 11 rfl) ?_
                  refine lv_iconst (v := 1) hx hb dX5_work_171 (by decide) ?_
                  refine lv_iadd hx hb dX5_work_172 ?_
                  refine hx_top (y := 1) (by decide) ?_
                  have hPc := hP.sub (ws' := [(h0, .inr (5, [.ref u0, .int (nI sdx), .int (nI mdx), .int (nI kq)])), (u0, .inl (ku0, 40, .inl fdx)), (p1, .inr (1, [w0, .ref b1, w2, .ref b3, w4, w5, .int (nI cn), w7])), (b1, .inl (kb1, 10, .inl fle)), (b3, .inl (kb3, 100, .inl fli)), (p3, .inr (0, [.ref e0, .ref e1, .ref e2])), (e0, .inl (ke0, 8, .inl fo)), (e1, .inl (ke1, 80, .inl fbl)), (e2, .inl (ke2, 960, .inl fbs))]) [0, 1, 2, 3, 4, 5, 6, 7, 8] rfl
                  have hDc := hD.sub (ws' := [(h0, .inr (5, [.ref u0, .int (nI sdx), .int (nI mdx), .int (nI kq)])), (u0, .inl (ku0, 40, .inl fdx)), (p1, .inr (1, [w0, .ref b1, w2, .ref b3, w4, w5, .int (nI cn), w7])), (b1, .inl (kb1, 10, .inl fle)), (b3, .inl (kb3, 100, .inl fli)), (p3, .inr (0, [.ref e0, .ref e1, .ref e2])), (e0, .inl (ke0, 8, .inl fo)), (e1, .inl (ke1, 80, .inl fbl)), (e2, .inl (ke2, 960, .inl fbs))]) [0, 1, 2, 3, 4, 5, 6, 7, 8] (by decide) rfl
                  have hKc := hK.sub (tys' := [(ku0, .int), (kb1, .int), (kb3, .int), (ke0, .int), (ke1, .int), (ke2, .char)]) [0, 1, 2, 3, 4, 5] rfl
                  have hFc := va_free (wc := [(h0, .inr (5, [.ref u0, .int (nI sdx), .int (nI mdx), .int (nI kq)])), (u0, .inl (ku0, 40, .inl fdx)), (p1, .inr (1, [w0, .ref b1, w2, .ref b3, w4, w5, .int (nI cn), w7])), (b1, .inl (kb1, 10, .inl fle)), (b3, .inl (kb3, 100, .inl fli)), (p3, .inr (0, [.ref e0, .ref e1, .ref e2])), (e0, .inl (ke0, 8, .inl fo)), (e1, .inl (ke1, 80, .inl fbl)), (e2, .inl (ke2, 960, .inl fbs))]) hD hS hA [0, 1, 2, 3, 4, 5, 6, 7, 8] rfl
                  refine va_calli (va_runV (As := [.ref p1, .ref p3, .int (nI j_24), .int 0, .int 1]) (rest := []) ⟨hx, hb, hml, hown, hts⟩ (c_work1 l dC dI H.size h0 u0 sdx mdx kq ku0 fdx p1 (w0) b1 (w2) b3 (w4) (w5) cn (w7) kb1 fle kb3 fli p3 e0 e1 e2 ke0 fo ke1 fbl ke2 fbs j_24 0 hsx hc hle hbl hbs hlk hkq (by omega) (by omega) hmx hcv) (cwV 5 hts (gV mw_2_165 mw_2_167 mw_0_4 mw_1_6 mw_2_168) rfl rfl rfl (by decide +kernel) ⟨Nat.le_of_ble_eq_true rfl, Nat.le_of_ble_eq_true rfl⟩) ⟨pcW_blind, va_recv hKc hPc (ci := 5) (q0 := 0) rfl rfl, pcW_at hPc hKc hDc hN⟩ rfl rfl hl.1 rfl (lv_room (Nat.le_of_ble_eq_true rfl)) dX5_work_173 ⟨Nat.le_of_ble_eq_true rfl, Nat.le_of_ble_eq_true rfl⟩) hS (fun q _ h => hFc q h) hFc (fun r_25 u t H1 locs ht hvm hw_25 hB hz1 hk1 hS => ?_)
                  obtain ⟨q_26, q_27, f_28, p_29, p_30, p_31, hP1, hK1, hD1⟩ := hB
                  rw [ht] at hP1
                  have hK1 := va_K.moved hvm.symm hK1
                  obtain ⟨hP, hD⟩ := va_join (wr := []) (w1 := [(h0, .inr (5, [.ref u0, .int (nI q_26), .int (nI q_27), .int (nI kq)])), (u0, .inl (ku0, 40, .inl f_28)), (p1, .inr (1, [w0, .ref b1, w2, .ref b3, w4, w5, .int (nI cn), w7])), (b1, .inl (kb1, 10, .inl fle)), (b3, .inl (kb3, 100, .inl fli)), (p3, .inr (0, [.ref e0, .ref e1, .ref e2])), (e0, .inl (ke0, 8, .inl fo)), (e1, .inl (ke1, 80, .inl fbl)), (e2, .inl (ke2, 960, .inl fbs))]) hP hD [0, 1, 2, 3, 4, 5, 6, 7, 8] [] rfl rfl (by decide) (by decide) hk1 hFc hP1 hD1
                  have hK := (hK.sub (tys' := []) [] rfl).app hK1
                  clear hz1 hk1 hPc hDc hKc hFc
                  generalize H1 = H at hP hS ⊢
                  have hK : va_K (dC, dI) vwCl [(ku0, .int), (kb1, .int), (kb3, .int), (ke0, .int), (ke1, .int), (ke2, .char)] s := hK
                  have hP : va_P (dC, dI) vwCl [(h0, .inr (5, [.ref u0, .int (nI q_26), .int (nI q_27), .int (nI kq)])), (u0, .inl (ku0, 40, .inl f_28)), (p1, .inr (1, [w0, .ref b1, w2, .ref b3, w4, w5, .int (nI cn), w7])), (b1, .inl (kb1, 10, .inl fle)), (b3, .inl (kb3, 100, .inl fli)), (p3, .inr (0, [.ref e0, .ref e1, .ref e2])), (e0, .inl (ke0, 8, .inl fo)), (e1, .inl (ke1, 80, .inl fbl)), (e2, .inl (ke2, 960, .inl fbs))] H := hP
                  have hD : va_D A [(h0, .inr (5, [.ref u0, .int (nI q_26), .int (nI q_27), .int (nI kq)])), (u0, .inl (ku0, 40, .inl f_28)), (p1, .inr (1, [w0, .ref b1, w2, .ref b3, w4, w5, .int (nI cn), w7])), (b1, .inl (kb1, 10, .inl fle)), (b3, .inl (kb3, 100, .inl fli)), (p3, .inr (0, [.ref e0, .ref e1, .ref e2])), (e0, .inl (ke0, 8, .inl fo)), (e1, .inl (ke1, 80, .inl fbl)), (e2, .inl (ke2, 960, .inl fbs))] := hD
                  refine lv_istore (lv' := [(9, .int r_25), (11, .int (fbs (12 * (8 * ow + nq) + k9))), (10, .int (nI k9)), (8, .int (nI ((fbl (8 * ow + nq)).toNatClampNeg))), (7, .int (nI ow)), (6, .int (nI q9)), (0, .ref h0), (1, .ref p1), (2, .ref p3), (3, .int (nI nq)), (4, .int (nI fm)), (5, .int 0)]) hx hb dX5_work_176 hl (by decide) rfl (fun ls hl => ?_)
                  refine lv_iinc (v := (nI (k9 + 1))) (lv' := [(10, .int (nI (k9 + 1))), (9, .int r_25), (11, .int (fbs (12 * (8 * ow + nq) + k9))), (8, .int (nI ((fbl (8 * ow + nq)).toNatClampNeg))), (7, .int (nI ow)), (6, .int (nI q9)), (0, .ref h0), (1, .ref p1), (2, .ref p3), (3, .int (nI nq)), (4, .int (nI fm)), (5, .int 0)]) hx hb dX5_work_178 hl (k := 2) rfl (nI_add k9 1) (by decide) rfl (fun ls hl => ?_)
                  refine lv_goto (tgt := 82) hx hb dX5_work_181 (by decide) ?_
                  exact ih_11 (k9 + 1) r_25 q_26 q_27 f_28 (by omega) p_29 p_30 (lp_let hlp c_14 (by omega) (by show 97 ≤ Int32.toInt (fbs (12 * (8 * ow + nq) + k9)); omega) (by show ((j_24 : Nat) : Int) = Int32.toInt (fbs (12 * (8 * ow + nq) + k9)) - 97; omega) hw_25 p_31) (by omega) _ _ hP hD hS ls (lv_sub hl [0, 1, 3, 4, 5, 6, 7, 8, 9, 10, 11] rfl)
                · have b_22 := gn_ne (X := (Int32.toInt (fbs (12 * (8 * ow + nq) + k9)))) (C := 94) rfl (by decide) c_21
                  refine lv_aload_n hx hb dX5_work_140 rfl (lv_at hl 6 rfl) ?_
                  refine lv_aload_n hx hb dX5_work_141 rfl (lv_at hl 7 rfl) ?_
                  refine lv_aload_n hx hb dX5_work_142 rfl (lv_at hl 8 rfl) ?_
                  refine lv_iload_n hx hb dX5_work_143 rfl (lv_at hl 9 rfl) ?_
                  refine lv_iload hx hb dX5_work_144 (lv_at hl 5 rfl) ?_
                  refine lv_iconst (v := 1) hx hb dX5_work_146 (by decide) ?_
                  refine lv_iadd hx hb dX5_work_147 ?_
                  refine hx_top (y := (nI (q9 + 1))) (nI_add q9 1) ?_
                  refine lv_iload hx hb dX5_work_148 (lv_at hl 11 rfl) ?_
                  refine lv_iconst (v := 1) hx hb dX5_work_150 (by decide) ?_
                  refine lv_iadd hx hb dX5_work_151 ?_
                  refine hx_top (y := 1) (by decide) ?_
                  have hPc := hP.sub (ws' := [(h0, .inr (5, [.ref u0, .int (nI sdx), .int (nI mdx), .int (nI kq)])), (u0, .inl (ku0, 40, .inl fdx)), (p1, .inr (1, [w0, .ref b1, w2, .ref b3, w4, w5, .int (nI cn), w7])), (b1, .inl (kb1, 10, .inl fle)), (b3, .inl (kb3, 100, .inl fli)), (p3, .inr (0, [.ref e0, .ref e1, .ref e2])), (e0, .inl (ke0, 8, .inl fo)), (e1, .inl (ke1, 80, .inl fbl)), (e2, .inl (ke2, 960, .inl fbs))]) [0, 1, 2, 3, 4, 5, 6, 7, 8] rfl
                  have hDc := hD.sub (ws' := [(h0, .inr (5, [.ref u0, .int (nI sdx), .int (nI mdx), .int (nI kq)])), (u0, .inl (ku0, 40, .inl fdx)), (p1, .inr (1, [w0, .ref b1, w2, .ref b3, w4, w5, .int (nI cn), w7])), (b1, .inl (kb1, 10, .inl fle)), (b3, .inl (kb3, 100, .inl fli)), (p3, .inr (0, [.ref e0, .ref e1, .ref e2])), (e0, .inl (ke0, 8, .inl fo)), (e1, .inl (ke1, 80, .inl fbl)), (e2, .inl (ke2, 960, .inl fbs))]) [0, 1, 2, 3, 4, 5, 6, 7, 8] (by decide) rfl
                  have hKc := hK.sub (tys' := [(ku0, .int), (kb1, .int), (kb3, .int), (ke0, .int), (ke1, .int), (ke2, .char)]) [0, 1, 2, 3, 4, 5] rfl
                  have hFc := va_free (wc := [(h0, .inr (5, [.ref u0, .int (nI sdx), .int (nI mdx), .int (nI kq)])), (u0, .inl (ku0, 40, .inl fdx)), (p1, .inr (1, [w0, .ref b1, w2, .ref b3, w4, w5, .int (nI cn), w7])), (b1, .inl (kb1, 10, .inl fle)), (b3, .inl (kb3, 100, .inl fli)), (p3, .inr (0, [.ref e0, .ref e1, .ref e2])), (e0, .inl (ke0, 8, .inl fo)), (e1, .inl (ke1, 80, .inl fbl)), (e2, .inl (ke2, 960, .inl fbs))]) hD hS hA [0, 1, 2, 3, 4, 5, 6, 7, 8] rfl
                  refine va_calli (va_runV (As := [.ref p1, .ref p3, .int (nI nq), .int (nI (q9 + 1)), .int 1]) (rest := []) ⟨hx, hb, hml, hown, hts⟩ (c_work1 l dC dI H.size h0 u0 sdx mdx kq ku0 fdx p1 (w0) b1 (w2) b3 (w4) (w5) cn (w7) kb1 fle kb3 fli p3 e0 e1 e2 ke0 fo ke1 fbl ke2 fbs nq (q9 + 1) hsx hc hle hbl hbs hlk hkq hnq (by omega) hmx hcv) (cwV 5 hts (gV mw_2_165 mw_2_167 mw_0_4 mw_1_6 mw_2_168) rfl rfl rfl (by decide +kernel) ⟨Nat.le_of_ble_eq_true rfl, Nat.le_of_ble_eq_true rfl⟩) ⟨pcW_blind, va_recv hKc hPc (ci := 5) (q0 := 0) rfl rfl, pcW_at hPc hKc hDc hN⟩ rfl rfl hl.1 rfl (lv_room (Nat.le_of_ble_eq_true rfl)) dX5_work_152 ⟨Nat.le_of_ble_eq_true rfl, Nat.le_of_ble_eq_true rfl⟩) hS (fun q _ h => hFc q h) hFc (fun r_32 u t H1 locs ht hvm hw_32 hB hz1 hk1 hS => ?_)
                  obtain ⟨q_33, q_34, f_35, p_36, p_37, p_38, hP1, hK1, hD1⟩ := hB
                  rw [ht] at hP1
                  have hK1 := va_K.moved hvm.symm hK1
                  obtain ⟨hP, hD⟩ := va_join (wr := []) (w1 := [(h0, .inr (5, [.ref u0, .int (nI q_33), .int (nI q_34), .int (nI kq)])), (u0, .inl (ku0, 40, .inl f_35)), (p1, .inr (1, [w0, .ref b1, w2, .ref b3, w4, w5, .int (nI cn), w7])), (b1, .inl (kb1, 10, .inl fle)), (b3, .inl (kb3, 100, .inl fli)), (p3, .inr (0, [.ref e0, .ref e1, .ref e2])), (e0, .inl (ke0, 8, .inl fo)), (e1, .inl (ke1, 80, .inl fbl)), (e2, .inl (ke2, 960, .inl fbs))]) hP hD [0, 1, 2, 3, 4, 5, 6, 7, 8] [] rfl rfl (by decide) (by decide) hk1 hFc hP1 hD1
                  have hK := (hK.sub (tys' := []) [] rfl).app hK1
                  clear hz1 hk1 hPc hDc hKc hFc
                  generalize H1 = H at hP hS ⊢
                  have hK : va_K (dC, dI) vwCl [(ku0, .int), (kb1, .int), (kb3, .int), (ke0, .int), (ke1, .int), (ke2, .char)] s := hK
                  have hP : va_P (dC, dI) vwCl [(h0, .inr (5, [.ref u0, .int (nI q_33), .int (nI q_34), .int (nI kq)])), (u0, .inl (ku0, 40, .inl f_35)), (p1, .inr (1, [w0, .ref b1, w2, .ref b3, w4, w5, .int (nI cn), w7])), (b1, .inl (kb1, 10, .inl fle)), (b3, .inl (kb3, 100, .inl fli)), (p3, .inr (0, [.ref e0, .ref e1, .ref e2])), (e0, .inl (ke0, 8, .inl fo)), (e1, .inl (ke1, 80, .inl fbl)), (e2, .inl (ke2, 960, .inl fbs))] H := hP
                  have hD : va_D A [(h0, .inr (5, [.ref u0, .int (nI q_33), .int (nI q_34), .int (nI kq)])), (u0, .inl (ku0, 40, .inl f_35)), (p1, .inr (1, [w0, .ref b1, w2, .ref b3, w4, w5, .int (nI cn), w7])), (b1, .inl (kb1, 10, .inl fle)), (b3, .inl (kb3, 100, .inl fli)), (p3, .inr (0, [.ref e0, .ref e1, .ref e2])), (e0, .inl (ke0, 8, .inl fo)), (e1, .inl (ke1, 80, .inl fbl)), (e2, .inl (ke2, 960, .inl fbs))] := hD
                  refine lv_istore (lv' := [(9, .int r_32), (11, .int (fbs (12 * (8 * ow + nq) + k9))), (10, .int (nI k9)), (8, .int (nI ((fbl (8 * ow + nq)).toNatClampNeg))), (7, .int (nI ow)), (6, .int (nI q9)), (0, .ref h0), (1, .ref p1), (2, .ref p3), (3, .int (nI nq)), (4, .int (nI fm)), (5, .int 0)]) hx hb dX5_work_155 hl (by decide) rfl (fun ls hl => ?_)
                  refine lv_goto (tgt := 178) hx hb dX5_work_157 (by decide) ?_
                  refine lv_iinc (v := (nI (k9 + 1))) (lv' := [(10, .int (nI (k9 + 1))), (9, .int r_32), (11, .int (fbs (12 * (8 * ow + nq) + k9))), (8, .int (nI ((fbl (8 * ow + nq)).toNatClampNeg))), (7, .int (nI ow)), (6, .int (nI q9)), (0, .ref h0), (1, .ref p1), (2, .ref p3), (3, .int (nI nq)), (4, .int (nI fm)), (5, .int 0)]) hx hb dX5_work_178 hl (k := 2) rfl (nI_add k9 1) (by decide) rfl (fun ls hl => ?_)
                  refine lv_goto (tgt := 82) hx hb dX5_work_181 (by decide) ?_
                  exact ih_11 (k9 + 1) r_32 q_33 q_34 f_35 (by omega) p_36 p_37 (lp_up hlp c_14 (by omega) (by show Int32.toInt (fbs (12 * (8 * ow + nq) + k9)) = 94; omega) hw_32 p_38) (by omega) _ _ hP hD hS ls (lv_sub hl [0, 1, 3, 4, 5, 6, 7, 8, 9, 10, 11] rfl)
              · have b_20 := gn_gt (X := (Int32.toInt (fbs (12 * (8 * ow + nq) + k9)))) (C := 57) rfl (by decide) c_19
                refine lv_aload_n hx hb dX5_work_119 rfl (lv_at hl 6 rfl) ?_
                refine lv_iload hx hb dX5_work_120 (lv_at hl 0 rfl) ?_
                refine lv_bipush (v := 48) hx hb dX5_work_122 (by decide) ?_
                refine lv_isub hx hb dX5_work_124 ?_
                refine lv_topi (fun z_39 ez_39 => ?_)
                have gz_39 := fx_rng (fbs (12 * (8 * ow + nq) + k9))
                have fz_39 : Int32.toInt z_39 = (Int32.toInt (fbs (12 * (8 * ow + nq) + k9))) - 48 := by rw [ez_39]; exact gx_sub (X := (Int32.toInt (fbs (12 * (8 * ow + nq) + k9)))) (C := 48) rfl (by decide) (by omega) (by omega)
                have hPc := hP.sub (ws' := [(h0, .inr (5, [.ref u0, .int (nI sdx), .int (nI mdx), .int (nI kq)])), (u0, .inl (ku0, 40, .inl fdx))]) [0, 1] rfl
                have hDc := hD.sub (ws' := [(h0, .inr (5, [.ref u0, .int (nI sdx), .int (nI mdx), .int (nI kq)])), (u0, .inl (ku0, 40, .inl fdx))]) [0, 1] (by decide) rfl
                have hKc := hK.sub (tys' := [(ku0, .int)]) [0] rfl
                have hFc := va_free (wc := [(h0, .inr (5, [.ref u0, .int (nI sdx), .int (nI mdx), .int (nI kq)])), (u0, .inl (ku0, 40, .inl fdx))]) hD hS hA [0, 1] rfl
                refine va_calli (va_runV (As := [.int z_39]) (rest := []) ⟨hx, hb, hml, hown, hts⟩ (c_sayD l dC dI H.size h0 u0 sdx mdx kq ku0 fdx z_39 hsx) (cwV 1 hts (gV mw_2_181 mw_2_183 mw_0_5 mw_1_6 mw_2_184) rfl rfl rfl (by decide +kernel) ⟨Nat.le_of_ble_eq_true rfl, Nat.le_of_ble_eq_true rfl⟩) ⟨pcW_blind, va_recv hKc hPc (ci := 5) (q0 := 0) rfl rfl, pcW_at hPc hKc hDc hN⟩ rfl rfl hl.1 rfl (lv_room (Nat.le_of_ble_eq_true rfl)) dX5_work_125 ⟨Nat.le_of_ble_eq_true rfl, Nat.le_of_ble_eq_true rfl⟩) hS (fun q _ h => hFc q h) hFc (fun r_40 u t H1 locs ht hvm hw_40 hB hz1 hk1 hS => ?_)
                obtain ⟨q_41, f_42, p_43, p_44, p_45, hP1, hK1, hD1⟩ := hB
                rw [ht] at hP1
                have hK1 := va_K.moved hvm.symm hK1
                obtain ⟨hP, hD⟩ := va_join (wr := [(p1, .inr (1, [w0, .ref b1, w2, .ref b3, w4, w5, .int (nI cn), w7])), (b1, .inl (kb1, 10, .inl fle)), (b3, .inl (kb3, 100, .inl fli)), (p3, .inr (0, [.ref e0, .ref e1, .ref e2])), (e0, .inl (ke0, 8, .inl fo)), (e1, .inl (ke1, 80, .inl fbl)), (e2, .inl (ke2, 960, .inl fbs))]) (w1 := [(h0, .inr (5, [.ref u0, .int (nI q_41), .int (nI mdx), .int (nI kq)])), (u0, .inl (ku0, 40, .inl f_42))]) hP hD [0, 1] [2, 3, 4, 5, 6, 7, 8] rfl rfl (by decide) (by decide) hk1 hFc hP1 hD1
                have hK := (hK.sub (tys' := [(kb1, .int), (kb3, .int), (ke0, .int), (ke1, .int), (ke2, .char)]) [1, 2, 3, 4, 5] rfl).app hK1
                clear hz1 hk1 hPc hDc hKc hFc
                generalize H1 = H at hP hS ⊢
                have hK : va_K (dC, dI) vwCl [(kb1, .int), (kb3, .int), (ke0, .int), (ke1, .int), (ke2, .char), (ku0, .int)] s := hK
                have hP : va_P (dC, dI) vwCl [(p1, .inr (1, [w0, .ref b1, w2, .ref b3, w4, w5, .int (nI cn), w7])), (b1, .inl (kb1, 10, .inl fle)), (b3, .inl (kb3, 100, .inl fli)), (p3, .inr (0, [.ref e0, .ref e1, .ref e2])), (e0, .inl (ke0, 8, .inl fo)), (e1, .inl (ke1, 80, .inl fbl)), (e2, .inl (ke2, 960, .inl fbs)), (h0, .inr (5, [.ref u0, .int (nI q_41), .int (nI mdx), .int (nI kq)])), (u0, .inl (ku0, 40, .inl f_42))] H := hP
                have hD : va_D A [(p1, .inr (1, [w0, .ref b1, w2, .ref b3, w4, w5, .int (nI cn), w7])), (b1, .inl (kb1, 10, .inl fle)), (b3, .inl (kb3, 100, .inl fli)), (p3, .inr (0, [.ref e0, .ref e1, .ref e2])), (e0, .inl (ke0, 8, .inl fo)), (e1, .inl (ke1, 80, .inl fbl)), (e2, .inl (ke2, 960, .inl fbs)), (h0, .inr (5, [.ref u0, .int (nI q_41), .int (nI mdx), .int (nI kq)])), (u0, .inl (ku0, 40, .inl f_42))] := hD
                refine lv_istore (lv' := [(9, .int r_40), (11, .int (fbs (12 * (8 * ow + nq) + k9))), (10, .int (nI k9)), (8, .int (nI ((fbl (8 * ow + nq)).toNatClampNeg))), (7, .int (nI ow)), (6, .int (nI q9)), (0, .ref h0), (1, .ref p1), (2, .ref p3), (3, .int (nI nq)), (4, .int (nI fm)), (5, .int 0)]) hx hb dX5_work_128 hl (by decide) rfl (fun ls hl => ?_)
                refine lv_goto (tgt := 178) hx hb dX5_work_130 (by decide) ?_
                refine lv_iinc (v := (nI (k9 + 1))) (lv' := [(10, .int (nI (k9 + 1))), (9, .int r_40), (11, .int (fbs (12 * (8 * ow + nq) + k9))), (8, .int (nI ((fbl (8 * ow + nq)).toNatClampNeg))), (7, .int (nI ow)), (6, .int (nI q9)), (0, .ref h0), (1, .ref p1), (2, .ref p3), (3, .int (nI nq)), (4, .int (nI fm)), (5, .int 0)]) hx hb dX5_work_178 hl (k := 2) rfl (nI_add k9 1) (by decide) rfl (fun ls hl => ?_)
                refine lv_goto (tgt := 82) hx hb dX5_work_181 (by decide) ?_
                exact ih_11 (k9 + 1) r_40 q_41 mdx f_42 (by omega) p_43 hmx (by rw [hw_40]; exact lp_dig hlp c_14 (by omega) (by show 48 ≤ Int32.toInt (fbs (12 * (8 * ow + nq) + k9)) ∧ Int32.toInt (fbs (12 * (8 * ow + nq) + k9)) ≤ 57; omega) (by rw [ez_39]) p_44 p_45) (by omega) _ _ (hP.sub (ws' := [(h0, .inr (5, [.ref u0, .int (nI q_41), .int (nI mdx), .int (nI kq)])), (u0, .inl (ku0, 40, .inl f_42)), (p1, .inr (1, [w0, .ref b1, w2, .ref b3, w4, w5, .int (nI cn), w7])), (b1, .inl (kb1, 10, .inl fle)), (b3, .inl (kb3, 100, .inl fli)), (p3, .inr (0, [.ref e0, .ref e1, .ref e2])), (e0, .inl (ke0, 8, .inl fo)), (e1, .inl (ke1, 80, .inl fbl)), (e2, .inl (ke2, 960, .inl fbs))]) [7, 8, 0, 1, 2, 3, 4, 5, 6] rfl) (hD.sub (ws' := [(h0, .inr (5, [.ref u0, .int (nI q_41), .int (nI mdx), .int (nI kq)])), (u0, .inl (ku0, 40, .inl f_42)), (p1, .inr (1, [w0, .ref b1, w2, .ref b3, w4, w5, .int (nI cn), w7])), (b1, .inl (kb1, 10, .inl fle)), (b3, .inl (kb3, 100, .inl fli)), (p3, .inr (0, [.ref e0, .ref e1, .ref e2])), (e0, .inl (ke0, 8, .inl fo)), (e1, .inl (ke1, 80, .inl fbl)), (e2, .inl (ke2, 960, .inl fbs))]) [7, 8, 0, 1, 2, 3, 4, 5, 6] (by decide) rfl) hS ls (lv_sub hl [0, 1, 3, 4, 5, 6, 7, 8, 9, 10, 11] rfl)
      exact key_10 ((12 - 0) + 1) 0 0 sd (md + 1) fd (by omega) hsd (by omega) (wd_inC hw_4 (by omega) (by omega) eow (by omega)).symm (Nat.lt_succ_self _) _ _ hP hD hS ls (lv_sub hl [0, 1, 2, 3, 4, 5, 6, 7, 8, 9, 10] rfl)
  · have b_2 := gn_lt (X := ((md : Nat) : Int)) (C := 200) (nI_toInt (by omega)) (by decide) c_1
    refine lv_iconst (v := 2) hx hb dX5_work_17 (by decide) ?_
    have hP9 := hP.sub (ws' := [(h0, .inr (5, [.ref u0, .int (nI sd), .int (nI md), .int (nI kq)])), (u0, .inl (ku0, 40, .inl fd)), (p1, .inr (1, [w0, .ref b1, w2, .ref b3, w4, w5, .int (nI cn), w7])), (b1, .inl (kb1, 10, .inl fle)), (b3, .inl (kb3, 100, .inl fli)), (p3, .inr (0, [.ref e0, .ref e1, .ref e2])), (e0, .inl (ke0, 8, .inl fo)), (e1, .inl (ke1, 80, .inl fbl)), (e2, .inl (ke2, 960, .inl fbs))]) [0, 1, 2, 3, 4, 5, 6, 7, 8] rfl
    have hD9 := hD.sub (ws' := [(h0, .inr (5, [.ref u0, .int (nI sd), .int (nI md), .int (nI kq)])), (u0, .inl (ku0, 40, .inl fd)), (p1, .inr (1, [w0, .ref b1, w2, .ref b3, w4, w5, .int (nI cn), w7])), (b1, .inl (kb1, 10, .inl fle)), (b3, .inl (kb3, 100, .inl fli)), (p3, .inr (0, [.ref e0, .ref e1, .ref e2])), (e0, .inl (ke0, 8, .inl fo)), (e1, .inl (ke1, 80, .inl fbl)), (e2, .inl (ke2, 960, .inl fbs))]) [0, 1, 2, 3, 4, 5, 6, 7, 8] (by decide) rfl
    have hK9 := hK.sub (tys' := [(ku0, .int), (kb1, .int), (kb3, .int), (ke0, .int), (ke1, .int), (ke2, .char)]) [0, 1, 2, 3, 4, 5] rfl
    exact W.iret (v := 2) hx hb hr (fun t ht hW => ⟨⟨2, (), rfl, (r4 (wd_fuC (d := 9) (Or.inr (by omega)))).1, sd, md, fd, hsd, hmd, (Prod.ext (r4 (wd_fuC (d := 9) (Or.inr (by omega)))).2.1 (Prod.ext (r4 (wd_fuC (d := 9) (Or.inr (by omega)))).2.2.1 (r4 (wd_fuC (d := 9) (Or.inr (by omega)))).2.2.2)), by rw [ht]; exact hP9, va_K.moved hW.alike hK9, hD9⟩, hS.F ht⟩) hS.2.2 dX5_work_18
set_option maxHeartbeats 4000000 in
set_option maxRecDepth 100000 in
theorem c_start (l : Launch) (dC : Nat → ClassId) (dI : Nat → Nat → Nat) (sz : Nat) (h0 : Nat) (u0 : Nat) (sd : Nat) (md : Int32) (ll : Int32) (ku0 : ClassId) (fd : Nat → Int32) (p1 : Nat) (w0 : Value) (b1 : Nat) (w2 : Value) (b3 : Nat) (w4 : Value) (w5 : Value) (cn : Nat) (w7 : Value) (kb1 : ClassId) (fle : Nat → Int32) (kb3 : ClassId) (fli : Nat → Int32) (p3 : Nat) (e0 : Nat) (e1 : Nat) (e2 : Nat) (ke0 : ClassId) (fo : Nat → Int32) (ke1 : ClassId) (fbl : Nat → Int32) (ke2 : ClassId) (fbs : Nat → Int32) (kq : Nat) (nq : Nat) (hc : cn ≤ 10) (hle : BdOk 10 10 fle) (hbl : BdOk 80 12 fbl) (hbs : ChOk fbs) (hlk : LnOk fle fli cn) (hkq : kq < cn) (hnq : nq < 8) (hcv : CvOk fbl fbs) : Met l yX5_start (wq yX5_start cX5_start 5 (some .int)) ({ frames := 13, cells := 0, slots := 0, locals := 365 }) (va_Pc [.ref h0, .ref p1, .ref p3, .int (nI kq), .int (nI nq)] (pcW dC dI [(ku0, .int), (kb1, .int), (kb3, .int), (ke0, .int), (ke1, .int), (ke2, .char)] [(h0, .inr (5, [.ref u0, .int (nI sd), .int md, .int ll])), (u0, .inl (ku0, 40, .inl fd)), (p1, .inr (1, [w0, .ref b1, w2, .ref b3, w4, w5, .int (nI cn), w7])), (b1, .inl (kb1, 10, .inl fle)), (b3, .inl (kb3, 100, .inl fli)), (p3, .inr (0, [.ref e0, .ref e1, .ref e2])), (e0, .inl (ke0, 8, .inl fo)), (e1, .inl (ke1, 80, .inl fbl)), (e2, .inl (ke2, 960, .inl fbs))] sz)) (va_Qi (fun (r : Int32) (_ : Unit) => r = (wdC fle fli fo fbl fbs cn kq 9 nq 0 (0, 0, fd)).1) (fun _ t => ∃ (sd2 : Nat) (fd2 : Nat → Int32) (md2 : Int32) (ll2 : Int32), (sd2 ≤ 40) ∧ (sd2 = (wdC fle fli fo fbl fbs cn kq 9 nq 0 (0, 0, fd)).2.2.1) ∧ (fd2 = (wdC fle fli fo fbl fbs cn kq 9 nq 0 (0, 0, fd)).2.2.2) ∧ va_P (dC, dI) vwCl [(h0, .inr (5, [.ref u0, .int (nI sd2), .int md2, .int ll2])), (u0, .inl (ku0, 40, .inl fd2)), (p1, .inr (1, [w0, .ref b1, w2, .ref b3, w4, w5, .int (nI cn), w7])), (b1, .inl (kb1, 10, .inl fle)), (b3, .inl (kb3, 100, .inl fli)), (p3, .inr (0, [.ref e0, .ref e1, .ref e2])), (e0, .inl (ke0, 8, .inl fo)), (e1, .inl (ke1, 80, .inl fbl)), (e2, .inl (ke2, 960, .inl fbs))] t.heap ∧ va_K (dC, dI) vwCl [(ku0, .int), (kb1, .int), (kb3, .int), (ke0, .int), (ke1, .int), (ke2, .char)] t ∧ va_D (va_A [(h0, .inr (5, [.ref u0, .int (nI sd), .int md, .int ll])), (u0, .inl (ku0, 40, .inl fd)), (p1, .inr (1, [w0, .ref b1, w2, .ref b3, w4, w5, .int (nI cn), w7])), (b1, .inl (kb1, 10, .inl fle)), (b3, .inl (kb3, 100, .inl fli)), (p3, .inr (0, [.ref e0, .ref e1, .ref e2])), (e0, .inl (ke0, 8, .inl fo)), (e1, .inl (ke1, 80, .inl fbl)), (e2, .inl (ke2, 960, .inl fbs))] sz) [(h0, .inr (5, [.ref u0, .int (nI sd2), .int md2, .int ll2])), (u0, .inl (ku0, 40, .inl fd2)), (p1, .inr (1, [w0, .ref b1, w2, .ref b3, w4, w5, .int (nI cn), w7])), (b1, .inl (kb1, 10, .inl fle)), (b3, .inl (kb3, 100, .inl fli)), (p3, .inr (0, [.ref e0, .ref e1, .ref e2])), (e0, .inl (ke0, 8, .inl fo)), (e1, .inl (ke1, 80, .inl fbl)), (e2, .inl (ke2, 960, .inl fbs))]) (va_A [(h0, .inr (5, [.ref u0, .int (nI sd), .int md, .int ll])), (u0, .inl (ku0, 40, .inl fd)), (p1, .inr (1, [w0, .ref b1, w2, .ref b3, w4, w5, .int (nI cn), w7])), (b1, .inl (kb1, 10, .inl fle)), (b3, .inl (kb3, 100, .inl fli)), (p3, .inr (0, [.ref e0, .ref e1, .ref e2])), (e0, .inl (ke0, 8, .inl fo)), (e1, .inl (ke1, 80, .inl fbl)), (e2, .inl (ke2, 960, .inl fbs))] sz)) 0 0 (va_A [(h0, .inr (5, [.ref u0, .int (nI sd), .int md, .int ll])), (u0, .inl (ku0, 40, .inl fd)), (p1, .inr (1, [w0, .ref b1, w2, .ref b3, w4, w5, .int (nI cn), w7])), (b1, .inl (kb1, 10, .inl fle)), (b3, .inl (kb3, 100, .inl fli)), (p3, .inr (0, [.ref e0, .ref e1, .ref e2])), (e0, .inl (ke0, 8, .inl fo)), (e1, .inl (ke1, 80, .inl fbl)), (e2, .inl (ke2, 960, .inl fbs))] sz) := by
  refine Met.ofW (cc := cX5_start) (maxL := 5) (ret := (some .int)) (by decide) rfl ?_
  intro p e s m args below meth c s₁ B hml hv
  obtain ⟨rfl, hsz, hN, hP, hK, hD0⟩ := hv
  have hx := B.exec
  have hb := B.bytes
  have hr := B.returns
  have hts0 := atoms_spec (ws := (wq yX5_start cX5_start 5 (some .int))) B.pre
  have hts : ∀ w ∈ BG, w.before _ s = true := fun w h => hts0 w (List.mem_cons_of_mem _ h)
  have hown : s.vm.findClass RX5 = some m.cls := findClass_of_methodNamed B.named
  have hlocks := B.notSynchronized
  subst hsz
  have hD := hD0.self (sz := s.heap.size)
  generalize hAe : va_A [(h0, .inr (5, [.ref u0, .int (nI sd), .int md, .int ll])), (u0, .inl (ku0, 40, .inl fd)), (p1, .inr (1, [w0, .ref b1, w2, .ref b3, w4, w5, .int (nI cn), w7])), (b1, .inl (kb1, 10, .inl fle)), (b3, .inl (kb3, 100, .inl fli)), (p3, .inr (0, [.ref e0, .ref e1, .ref e2])), (e0, .inl (ke0, 8, .inl fo)), (e1, .inl (ke1, 80, .inl fbl)), (e2, .inl (ke2, 960, .inl fbs))] s.heap.size = A at hD ⊢
  have hA : ∀ q : Nat, s.heap.size ≤ q → A q := fun q h => by rw [← hAe]; exact Or.inr h
  have hS : va_S A s.heap s.heap [] := va_S.rf
  clear hAe hD0
  have hP : va_P (dC, dI) vwCl [(h0, .inr (5, [.ref u0, .int (nI sd), .int md, .int ll])), (u0, .inl (ku0, 40, .inl fd)), (p1, .inr (1, [w0, .ref b1, w2, .ref b3, w4, w5, .int (nI cn), w7])), (b1, .inl (kb1, 10, .inl fle)), (b3, .inl (kb3, 100, .inl fli)), (p3, .inr (0, [.ref e0, .ref e1, .ref e2])), (e0, .inl (ke0, 8, .inl fo)), (e1, .inl (ke1, 80, .inl fbl)), (e2, .inl (ke2, 960, .inl fbs))] s.heap := hP
  have hl := lv_entry ([.ref h0, .ref p1, .ref p3, .int (nI kq), .int (nI nq)]) (n := 5) (Nat.le_of_ble_eq_true rfl)
  rw [lg_entry_eq]
  generalize (lg_sl ([.ref h0, .ref p1, .ref p3, .int (nI kq), .int (nI nq)]) ++ List.replicate (5 - (lg_sl ([.ref h0, .ref p1, .ref p3, .int (nI kq), .int (nI nq)])).length) Slot.unset).toArray = ls at hl ⊢
  have hl : lv_has ls 5 [(0, .ref h0), (1, .ref p1), (2, .ref p3), (3, .int (nI kq)), (4, .int (nI nq))] := hl
  refine lv_aload_n hx hb dX5_start_0 rfl (lv_at hl 0 rfl) ?_
  refine lv_iconst (v := 0) hx hb dX5_start_1 (by decide) ?_
  refine va_put (D := (dC, dI)) (ci := 5) (v := .int 0) (ty := .int) (C := RX5) (T := TX5) (N := 4) hx hb hts inB_5 tyX5 tyX5_ok nmX5 hown hK hP hD hS 0 rfl rfl 1 (by decide) (hts _ mw_1_109) (fun _ h9 => h9) rfl (by decide +kernel) rfl rfl (Nat.le_of_ble_eq_true rfl) dX5_start_2 (fun H locs hP hD hS => ?_)
  have hP : va_P (dC, dI) vwCl [(h0, .inr (5, [.ref u0, .int 0, .int md, .int ll])), (u0, .inl (ku0, 40, .inl fd)), (p1, .inr (1, [w0, .ref b1, w2, .ref b3, w4, w5, .int (nI cn), w7])), (b1, .inl (kb1, 10, .inl fle)), (b3, .inl (kb3, 100, .inl fli)), (p3, .inr (0, [.ref e0, .ref e1, .ref e2])), (e0, .inl (ke0, 8, .inl fo)), (e1, .inl (ke1, 80, .inl fbl)), (e2, .inl (ke2, 960, .inl fbs))] H := hP
  have hD : va_D A [(h0, .inr (5, [.ref u0, .int 0, .int md, .int ll])), (u0, .inl (ku0, 40, .inl fd)), (p1, .inr (1, [w0, .ref b1, w2, .ref b3, w4, w5, .int (nI cn), w7])), (b1, .inl (kb1, 10, .inl fle)), (b3, .inl (kb3, 100, .inl fli)), (p3, .inr (0, [.ref e0, .ref e1, .ref e2])), (e0, .inl (ke0, 8, .inl fo)), (e1, .inl (ke1, 80, .inl fbl)), (e2, .inl (ke2, 960, .inl fbs))] := hD
  refine lv_aload_n hx hb dX5_start_5 rfl (lv_at hl 0 rfl) ?_
  refine lv_iconst (v := 0) hx hb dX5_start_6 (by decide) ?_
  refine va_put (D := (dC, dI)) (ci := 5) (v := .int 0) (ty := .int) (C := RX5) (T := TX5) (N := 4) hx hb hts inB_5 tyX5 tyX5_ok nmX5 hown hK hP hD hS 0 rfl rfl 2 (by decide) (hts _ mw_1_110) (fun _ h9 => h9) rfl (by decide +kernel) rfl rfl (Nat.le_of_ble_eq_true rfl) dX5_start_7 (fun H locs hP hD hS => ?_)
  have hP : va_P (dC, dI) vwCl [(h0, .inr (5, [.ref u0, .int 0, .int 0, .int ll])), (u0, .inl (ku0, 40, .inl fd)), (p1, .inr (1, [w0, .ref b1, w2, .ref b3, w4, w5, .int (nI cn), w7])), (b1, .inl (kb1, 10, .inl fle)), (b3, .inl (kb3, 100, .inl fli)), (p3, .inr (0, [.ref e0, .ref e1, .ref e2])), (e0, .inl (ke0, 8, .inl fo)), (e1, .inl (ke1, 80, .inl fbl)), (e2, .inl (ke2, 960, .inl fbs))] H := hP
  have hD : va_D A [(h0, .inr (5, [.ref u0, .int 0, .int 0, .int ll])), (u0, .inl (ku0, 40, .inl fd)), (p1, .inr (1, [w0, .ref b1, w2, .ref b3, w4, w5, .int (nI cn), w7])), (b1, .inl (kb1, 10, .inl fle)), (b3, .inl (kb3, 100, .inl fli)), (p3, .inr (0, [.ref e0, .ref e1, .ref e2])), (e0, .inl (ke0, 8, .inl fo)), (e1, .inl (ke1, 80, .inl fbl)), (e2, .inl (ke2, 960, .inl fbs))] := hD
  refine lv_aload_n hx hb dX5_start_10 rfl (lv_at hl 0 rfl) ?_
  refine lv_iload_n hx hb dX5_start_11 rfl (lv_at hl 3 rfl) ?_
  refine va_put (D := (dC, dI)) (ci := 5) (v := .int (nI kq)) (ty := .int) (C := RX5) (T := TX5) (N := 4) hx hb hts inB_5 tyX5 tyX5_ok nmX5 hown hK hP hD hS 0 rfl rfl 3 (by decide) (hts _ mw_1_111) (fun _ h9 => h9) rfl (by decide +kernel) rfl rfl (Nat.le_of_ble_eq_true rfl) dX5_start_12 (fun H locs hP hD hS => ?_)
  have hP : va_P (dC, dI) vwCl [(h0, .inr (5, [.ref u0, .int 0, .int 0, .int (nI kq)])), (u0, .inl (ku0, 40, .inl fd)), (p1, .inr (1, [w0, .ref b1, w2, .ref b3, w4, w5, .int (nI cn), w7])), (b1, .inl (kb1, 10, .inl fle)), (b3, .inl (kb3, 100, .inl fli)), (p3, .inr (0, [.ref e0, .ref e1, .ref e2])), (e0, .inl (ke0, 8, .inl fo)), (e1, .inl (ke1, 80, .inl fbl)), (e2, .inl (ke2, 960, .inl fbs))] H := hP
  have hD : va_D A [(h0, .inr (5, [.ref u0, .int 0, .int 0, .int (nI kq)])), (u0, .inl (ku0, 40, .inl fd)), (p1, .inr (1, [w0, .ref b1, w2, .ref b3, w4, w5, .int (nI cn), w7])), (b1, .inl (kb1, 10, .inl fle)), (b3, .inl (kb3, 100, .inl fli)), (p3, .inr (0, [.ref e0, .ref e1, .ref e2])), (e0, .inl (ke0, 8, .inl fo)), (e1, .inl (ke1, 80, .inl fbl)), (e2, .inl (ke2, 960, .inl fbs))] := hD
  refine lv_aload_n hx hb dX5_start_15 rfl (lv_at hl 0 rfl) ?_
  refine lv_aload_n hx hb dX5_start_16 rfl (lv_at hl 1 rfl) ?_
  refine lv_aload_n hx hb dX5_start_17 rfl (lv_at hl 2 rfl) ?_
  refine lv_iload hx hb dX5_start_18 (lv_at hl 4 rfl) ?_
  refine lv_iconst (v := 0) hx hb dX5_start_20 (by decide) ?_
  refine lv_iconst (v := 0) hx hb dX5_start_21 (by decide) ?_
  have hPc := hP.sub (ws' := [(h0, .inr (5, [.ref u0, .int 0, .int 0, .int (nI kq)])), (u0, .inl (ku0, 40, .inl fd)), (p1, .inr (1, [w0, .ref b1, w2, .ref b3, w4, w5, .int (nI cn), w7])), (b1, .inl (kb1, 10, .inl fle)), (b3, .inl (kb3, 100, .inl fli)), (p3, .inr (0, [.ref e0, .ref e1, .ref e2])), (e0, .inl (ke0, 8, .inl fo)), (e1, .inl (ke1, 80, .inl fbl)), (e2, .inl (ke2, 960, .inl fbs))]) [0, 1, 2, 3, 4, 5, 6, 7, 8] rfl
  have hDc := hD.sub (ws' := [(h0, .inr (5, [.ref u0, .int 0, .int 0, .int (nI kq)])), (u0, .inl (ku0, 40, .inl fd)), (p1, .inr (1, [w0, .ref b1, w2, .ref b3, w4, w5, .int (nI cn), w7])), (b1, .inl (kb1, 10, .inl fle)), (b3, .inl (kb3, 100, .inl fli)), (p3, .inr (0, [.ref e0, .ref e1, .ref e2])), (e0, .inl (ke0, 8, .inl fo)), (e1, .inl (ke1, 80, .inl fbl)), (e2, .inl (ke2, 960, .inl fbs))]) [0, 1, 2, 3, 4, 5, 6, 7, 8] (by decide) rfl
  have hKc := hK.sub (tys' := [(ku0, .int), (kb1, .int), (kb3, .int), (ke0, .int), (ke1, .int), (ke2, .char)]) [0, 1, 2, 3, 4, 5] rfl
  have hFc := va_free (wc := [(h0, .inr (5, [.ref u0, .int 0, .int 0, .int (nI kq)])), (u0, .inl (ku0, 40, .inl fd)), (p1, .inr (1, [w0, .ref b1, w2, .ref b3, w4, w5, .int (nI cn), w7])), (b1, .inl (kb1, 10, .inl fle)), (b3, .inl (kb3, 100, .inl fli)), (p3, .inr (0, [.ref e0, .ref e1, .ref e2])), (e0, .inl (ke0, 8, .inl fo)), (e1, .inl (ke1, 80, .inl fbl)), (e2, .inl (ke2, 960, .inl fbs))]) hD hS hA [0, 1, 2, 3, 4, 5, 6, 7, 8] rfl
  refine va_calli (va_runV (As := [.ref p1, .ref p3, .int (nI nq), .int 0, .int 0]) (rest := []) ⟨hx, hb, hml, hown, hts⟩ (c_work0 l dC dI H.size h0 u0 0 0 kq ku0 fd p1 (w0) b1 (w2) b3 (w4) (w5) cn (w7) kb1 fle kb3 fli p3 e0 e1 e2 ke0 fo ke1 fbl ke2 fbs nq 0 (by omega) hc hle hbl hbs hlk hkq hnq (by omega) (by omega) hcv) (cwV 5 hts (gV mw_2_165 mw_2_167 mw_0_4 mw_1_6 mw_2_168) rfl rfl rfl (by decide +kernel) ⟨Nat.le_of_ble_eq_true rfl, Nat.le_of_ble_eq_true rfl⟩) ⟨pcW_blind, va_recv hKc hPc (ci := 5) (q0 := 0) rfl rfl, pcW_at hPc hKc hDc hN⟩ rfl rfl hl.1 rfl (lv_room (Nat.le_of_ble_eq_true rfl)) dX5_start_22 ⟨Nat.le_of_ble_eq_true rfl, Nat.le_of_ble_eq_true rfl⟩) hS (fun q _ h => hFc q h) hFc (fun r_1 u t H1 locs ht hvm hw_1 hB hz1 hk1 hS => ?_)
  obtain ⟨q_2, q_3, f_4, p_5, p_6, p_7, hP1, hK1, hD1⟩ := hB
  rw [ht] at hP1
  have hK1 := va_K.moved hvm.symm hK1
  obtain ⟨hP, hD⟩ := va_join (wr := []) (w1 := [(h0, .inr (5, [.ref u0, .int (nI q_2), .int (nI q_3), .int (nI kq)])), (u0, .inl (ku0, 40, .inl f_4)), (p1, .inr (1, [w0, .ref b1, w2, .ref b3, w4, w5, .int (nI cn), w7])), (b1, .inl (kb1, 10, .inl fle)), (b3, .inl (kb3, 100, .inl fli)), (p3, .inr (0, [.ref e0, .ref e1, .ref e2])), (e0, .inl (ke0, 8, .inl fo)), (e1, .inl (ke1, 80, .inl fbl)), (e2, .inl (ke2, 960, .inl fbs))]) hP hD [0, 1, 2, 3, 4, 5, 6, 7, 8] [] rfl rfl (by decide) (by decide) hk1 hFc hP1 hD1
  have hK := (hK.sub (tys' := []) [] rfl).app hK1
  clear hz1 hk1 hPc hDc hKc hFc
  generalize H1 = H at hP hS ⊢
  have hK : va_K (dC, dI) vwCl [(ku0, .int), (kb1, .int), (kb3, .int), (ke0, .int), (ke1, .int), (ke2, .char)] s := hK
  have hP : va_P (dC, dI) vwCl [(h0, .inr (5, [.ref u0, .int (nI q_2), .int (nI q_3), .int (nI kq)])), (u0, .inl (ku0, 40, .inl f_4)), (p1, .inr (1, [w0, .ref b1, w2, .ref b3, w4, w5, .int (nI cn), w7])), (b1, .inl (kb1, 10, .inl fle)), (b3, .inl (kb3, 100, .inl fli)), (p3, .inr (0, [.ref e0, .ref e1, .ref e2])), (e0, .inl (ke0, 8, .inl fo)), (e1, .inl (ke1, 80, .inl fbl)), (e2, .inl (ke2, 960, .inl fbs))] H := hP
  have hD : va_D A [(h0, .inr (5, [.ref u0, .int (nI q_2), .int (nI q_3), .int (nI kq)])), (u0, .inl (ku0, 40, .inl f_4)), (p1, .inr (1, [w0, .ref b1, w2, .ref b3, w4, w5, .int (nI cn), w7])), (b1, .inl (kb1, 10, .inl fle)), (b3, .inl (kb3, 100, .inl fli)), (p3, .inr (0, [.ref e0, .ref e1, .ref e2])), (e0, .inl (ke0, 8, .inl fo)), (e1, .inl (ke1, 80, .inl fbl)), (e2, .inl (ke2, 960, .inl fbs))] := hD
  have hP9 := hP.sub (ws' := [(h0, .inr (5, [.ref u0, .int (nI q_2), .int (nI q_3), .int (nI kq)])), (u0, .inl (ku0, 40, .inl f_4)), (p1, .inr (1, [w0, .ref b1, w2, .ref b3, w4, w5, .int (nI cn), w7])), (b1, .inl (kb1, 10, .inl fle)), (b3, .inl (kb3, 100, .inl fli)), (p3, .inr (0, [.ref e0, .ref e1, .ref e2])), (e0, .inl (ke0, 8, .inl fo)), (e1, .inl (ke1, 80, .inl fbl)), (e2, .inl (ke2, 960, .inl fbs))]) [0, 1, 2, 3, 4, 5, 6, 7, 8] rfl
  have hD9 := hD.sub (ws' := [(h0, .inr (5, [.ref u0, .int (nI q_2), .int (nI q_3), .int (nI kq)])), (u0, .inl (ku0, 40, .inl f_4)), (p1, .inr (1, [w0, .ref b1, w2, .ref b3, w4, w5, .int (nI cn), w7])), (b1, .inl (kb1, 10, .inl fle)), (b3, .inl (kb3, 100, .inl fli)), (p3, .inr (0, [.ref e0, .ref e1, .ref e2])), (e0, .inl (ke0, 8, .inl fo)), (e1, .inl (ke1, 80, .inl fbl)), (e2, .inl (ke2, 960, .inl fbs))]) [0, 1, 2, 3, 4, 5, 6, 7, 8] (by decide) rfl
  have hK9 := hK.sub (tys' := [(ku0, .int), (kb1, .int), (kb3, .int), (ke0, .int), (ke1, .int), (ke2, .char)]) [0, 1, 2, 3, 4, 5] rfl
  exact W.iret (v := r_1) hx hb hr (fun t ht hW => ⟨⟨r_1, (), rfl, hw_1, q_2, f_4, (nI q_3), (nI kq), p_5, (congrArg (fun x => x.2.1) p_7), (congrArg (fun x => x.2.2) p_7), by rw [ht]; exact hP9, va_K.moved hW.alike hK9, hD9⟩, hS.F ht⟩) hS.2.2 dX5_start_25
