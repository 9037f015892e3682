theorem mw_3_206 : Cond.fieldLink RX9 65 "AnswerLinesModel" "columns" "[I" ∈ BG := mB (t3 (i := 206) (by decide +kernel)) (by decide +kernel)
theorem mw_3_205 : Cond.fieldLink RX9 62 "AnswerLinesModel" "against" "[I" ∈ BG := mB (t3 (i := 205) (by decide +kernel)) (by decide +kernel)
theorem mw_4_217 : Cond.code yX9_greatestAhead cX9_greatestAhead 4 (some .int) ∈ BG := mB (t4 (i := 217) rfl) (by decide +kernel)
theorem mw_4_214 : Cond.methodLink RX9 200 yX9_greatestAhead ∈ BG := mB (t4 (i := 214) (by decide +kernel)) (by decide +kernel)
theorem mw_4_216 : Cond.instanceMethod yX9_greatestAhead ∈ BG := mB (t4 (i := 216) (by decide +kernel)) (by decide +kernel)
theorem mw_0_33 : Cond.selects RX9 yX9_greatestAhead yX9_greatestAhead ∈ BG := mB (t0 (i := 33) (by decide +kernel)) (by decide +kernel)
theorem mw_4_221 : Cond.code yX9_isFree cX9_isFree 4 (some .boolean) ∈ BG := mB (t4 (i := 221) rfl) (by decide +kernel)
theorem mw_4_218 : Cond.methodLink RX9 203 yX9_isFree ∈ BG := mB (t4 (i := 218) (by decide +kernel)) (by decide +kernel)
theorem mw_4_220 : Cond.instanceMethod yX9_isFree ∈ BG := mB (t4 (i := 220) (by decide +kernel)) (by decide +kernel)
theorem mw_0_34 : Cond.selects RX9 yX9_isFree yX9_isFree ∈ BG := mB (t0 (i := 34) (by decide +kernel)) (by decide +kernel)
theorem dX9_greatestAhead_0 : decode cX9_greatestAhead 0 = .ok (.iconst (-1), 1) := by decide +kernel
theorem dX9_greatestAhead_1 : decode cX9_greatestAhead 1 = .ok (.istore_n 2, 1) := by decide +kernel
theorem dX9_greatestAhead_2 : decode cX9_greatestAhead 2 = .ok (.iconst 0, 1) := by decide +kernel
theorem dX9_greatestAhead_3 : decode cX9_greatestAhead 3 = .ok (.istore_n 3, 1) := by decide +kernel
theorem dX9_greatestAhead_4 : decode cX9_greatestAhead 4 = .ok (.iload_n 3, 1) := by decide +kernel
theorem dX9_greatestAhead_5 : decode cX9_greatestAhead 5 = .ok (.iload_n 1, 1) := by decide +kernel
theorem dX9_greatestAhead_6 : decode cX9_greatestAhead 6 = .ok (.if_icmp .ge 30, 3) := by decide +kernel
theorem dX9_greatestAhead_36 : decode cX9_greatestAhead 36 = .ok (.iload_n 2, 1) := by decide +kernel
theorem dX9_greatestAhead_37 : decode cX9_greatestAhead 37 = .ok (.ireturn, 1) := by decide +kernel
theorem dX9_greatestAhead_9 : decode cX9_greatestAhead 9 = .ok (.aload_n 0, 1) := by decide +kernel
theorem dX9_greatestAhead_10 : decode cX9_greatestAhead 10 = .ok (.getfield 65, 3) := by decide +kernel
theorem dX9_greatestAhead_13 : decode cX9_greatestAhead 13 = .ok (.iload_n 3, 1) := by decide +kernel
theorem dX9_greatestAhead_14 : decode cX9_greatestAhead 14 = .ok (.iaload, 1) := by decide +kernel
theorem dX9_greatestAhead_15 : decode cX9_greatestAhead 15 = .ok (.iload_n 2, 1) := by decide +kernel
theorem dX9_greatestAhead_16 : decode cX9_greatestAhead 16 = .ok (.if_icmp .le 12, 3) := by decide +kernel
theorem dX9_greatestAhead_28 : decode cX9_greatestAhead 28 = .ok (.iload_n 2, 1) := by decide +kernel
theorem dX9_greatestAhead_29 : decode cX9_greatestAhead 29 = .ok (.istore_n 2, 1) := by decide +kernel
theorem dX9_greatestAhead_30 : decode cX9_greatestAhead 30 = .ok (.iinc 3 1, 3) := by decide +kernel
theorem dX9_greatestAhead_33 : decode cX9_greatestAhead 33 = .ok (.goto (-29), 3) := by decide +kernel
theorem dX9_greatestAhead_19 : decode cX9_greatestAhead 19 = .ok (.aload_n 0, 1) := by decide +kernel
theorem dX9_greatestAhead_20 : decode cX9_greatestAhead 20 = .ok (.getfield 65, 3) := by decide +kernel
theorem dX9_greatestAhead_23 : decode cX9_greatestAhead 23 = .ok (.iload_n 3, 1) := by decide +kernel
theorem dX9_greatestAhead_24 : decode cX9_greatestAhead 24 = .ok (.iaload, 1) := by decide +kernel
theorem dX9_greatestAhead_25 : decode cX9_greatestAhead 25 = .ok (.goto 4, 3) := by decide +kernel
theorem dX9_isFree_0 : decode cX9_isFree 0 = .ok (.iconst 1, 1) := by decide +kernel
theorem dX9_isFree_1 : decode cX9_isFree 1 = .ok (.istore_n 2, 1) := by decide +kernel
theorem dX9_isFree_2 : decode cX9_isFree 2 = .ok (.iconst 0, 1) := by decide +kernel
theorem dX9_isFree_3 : decode cX9_isFree 3 = .ok (.istore_n 3, 1) := by decide +kernel
theorem dX9_isFree_4 : decode cX9_isFree 4 = .ok (.iload_n 3, 1) := by decide +kernel
theorem dX9_isFree_5 : decode cX9_isFree 5 = .ok (.iload_n 1, 1) := by decide +kernel
theorem dX9_isFree_6 : decode cX9_isFree 6 = .ok (.if_icmp .ge 48, 3) := by decide +kernel
theorem dX9_isFree_54 : decode cX9_isFree 54 = .ok (.iload_n 2, 1) := by decide +kernel
theorem dX9_isFree_55 : decode cX9_isFree 55 = .ok (.ireturn, 1) := by decide +kernel
theorem dX9_isFree_9 : decode cX9_isFree 9 = .ok (.iload_n 2, 1) := by decide +kernel
theorem dX9_isFree_10 : decode cX9_isFree 10 = .ok (.ifCond .eq 36, 3) := by decide +kernel
theorem dX9_isFree_46 : decode cX9_isFree 46 = .ok (.iconst 0, 1) := by decide +kernel
theorem dX9_isFree_47 : decode cX9_isFree 47 = .ok (.istore_n 2, 1) := by decide +kernel
theorem dX9_isFree_48 : decode cX9_isFree 48 = .ok (.iinc 3 1, 3) := by decide +kernel
theorem dX9_isFree_51 : decode cX9_isFree 51 = .ok (.goto (-47), 3) := by decide +kernel
theorem dX9_isFree_13 : decode cX9_isFree 13 = .ok (.aload_n 0, 1) := by decide +kernel
theorem dX9_isFree_14 : decode cX9_isFree 14 = .ok (.getfield 62, 3) := by decide +kernel
theorem dX9_isFree_17 : decode cX9_isFree 17 = .ok (.iload_n 1, 1) := by decide +kernel
theorem dX9_isFree_18 : decode cX9_isFree 18 = .ok (.iaload, 1) := by decide +kernel
theorem dX9_isFree_19 : decode cX9_isFree 19 = .ok (.iload_n 3, 1) := by decide +kernel
theorem dX9_isFree_20 : decode cX9_isFree 20 = .ok (.ishr, 1) := by decide +kernel
theorem dX9_isFree_21 : decode cX9_isFree 21 = .ok (.iconst 1, 1) := by decide +kernel
theorem dX9_isFree_22 : decode cX9_isFree 22 = .ok (.iand, 1) := by decide +kernel
theorem dX9_isFree_23 : decode cX9_isFree 23 = .ok (.iconst 1, 1) := by decide +kernel
theorem dX9_isFree_24 : decode cX9_isFree 24 = .ok (.if_icmp .ne 18, 3) := by decide +kernel
theorem dX9_isFree_42 : decode cX9_isFree 42 = .ok (.iconst 1, 1) := by decide +kernel
theorem dX9_isFree_43 : decode cX9_isFree 43 = .ok (.goto 4, 3) := by decide +kernel
theorem dX9_isFree_27 : decode cX9_isFree 27 = .ok (.aload_n 0, 1) := by decide +kernel
theorem dX9_isFree_28 : decode cX9_isFree 28 = .ok (.getfield 65, 3) := by decide +kernel
theorem dX9_isFree_31 : decode cX9_isFree 31 = .ok (.iload_n 3, 1) := by decide +kernel
theorem dX9_isFree_32 : decode cX9_isFree 32 = .ok (.iaload, 1) := by decide +kernel
theorem dX9_isFree_33 : decode cX9_isFree 33 = .ok (.aload_n 0, 1) := by decide +kernel
theorem dX9_isFree_34 : decode cX9_isFree 34 = .ok (.getfield 65, 3) := by decide +kernel
theorem dX9_isFree_37 : decode cX9_isFree 37 = .ok (.iload_n 1, 1) := by decide +kernel
theorem dX9_isFree_38 : decode cX9_isFree 38 = .ok (.iaload, 1) := by decide +kernel
theorem dX9_isFree_39 : decode cX9_isFree 39 = .ok (.if_icmp .eq 7, 3) := by decide +kernel
theorem dX9_fill_0 : decode cX9_fill 0 = .ok (.iconst 0, 1) := by decide +kernel
theorem dX9_fill_1 : decode cX9_fill 1 = .ok (.istore_n 3, 1) := by decide +kernel
theorem dX9_fill_2 : decode cX9_fill 2 = .ok (.iconst 1, 1) := by decide +kernel
theorem dX9_fill_3 : decode cX9_fill 3 = .ok (.istore 4, 2) := by decide +kernel
theorem dX9_fill_5 : decode cX9_fill 5 = .ok (.iload_n 3, 1) := by decide +kernel
theorem dX9_fill_6 : decode cX9_fill 6 = .ok (.ifCond .lt 146, 3) := by decide +kernel
theorem dX9_fill_152 : decode cX9_fill 152 = .ok (.iload_n 3, 1) := by decide +kernel
theorem dX9_fill_153 : decode cX9_fill 153 = .ok (.bipush 8, 2) := by decide +kernel
theorem dX9_fill_155 : decode cX9_fill 155 = .ok (.if_icmp .ne 7, 3) := by decide +kernel
theorem dX9_fill_162 : decode cX9_fill 162 = .ok (.iconst 0, 1) := by decide +kernel
theorem dX9_fill_163 : decode cX9_fill 163 = .ok (.ireturn, 1) := by decide +kernel
theorem dX9_fill_9 : decode cX9_fill 9 = .ok (.iload_n 3, 1) := by decide +kernel
theorem dX9_fill_10 : decode cX9_fill 10 = .ok (.bipush 8, 2) := by decide +kernel
theorem dX9_fill_12 : decode cX9_fill 12 = .ok (.if_icmp .ge 140, 3) := by decide +kernel
theorem dX9_fill_158 : decode cX9_fill 158 = .ok (.iconst 1, 1) := by decide +kernel
theorem dX9_fill_159 : decode cX9_fill 159 = .ok (.goto 4, 3) := by decide +kernel
theorem dX9_fill_15 : decode cX9_fill 15 = .ok (.iload_n 1, 1) := by decide +kernel
theorem dX9_fill_16 : decode cX9_fill 16 = .ok (.iload_n 3, 1) := by decide +kernel
theorem dX9_fill_17 : decode cX9_fill 17 = .ok (.ishr, 1) := by decide +kernel
theorem dX9_fill_18 : decode cX9_fill 18 = .ok (.iconst 1, 1) := by decide +kernel
theorem dX9_fill_19 : decode cX9_fill 19 = .ok (.iand, 1) := by decide +kernel
theorem dX9_fill_20 : decode cX9_fill 20 = .ok (.ifCond .ne 14, 3) := by decide +kernel
theorem dX9_fill_34 : decode cX9_fill 34 = .ok (.aload_n 0, 1) := by decide +kernel
theorem dX9_fill_35 : decode cX9_fill 35 = .ok (.getfield 65, 3) := by decide +kernel
theorem dX9_fill_38 : decode cX9_fill 38 = .ok (.iload_n 3, 1) := by decide +kernel
theorem dX9_fill_39 : decode cX9_fill 39 = .ok (.iload 4, 2) := by decide +kernel
theorem dX9_fill_41 : decode cX9_fill 41 = .ok (.ifCond .eq 7, 3) := by decide +kernel
theorem dX9_fill_44 : decode cX9_fill 44 = .ok (.iconst 0, 1) := by decide +kernel
theorem dX9_fill_45 : decode cX9_fill 45 = .ok (.goto 11, 3) := by decide +kernel
theorem dX9_fill_56 : decode cX9_fill 56 = .ok (.iastore, 1) := by decide +kernel
theorem dX9_fill_57 : decode cX9_fill 57 = .ok (.aload_n 0, 1) := by decide +kernel
theorem dX9_fill_58 : decode cX9_fill 58 = .ok (.iload_n 3, 1) := by decide +kernel
theorem dX9_fill_59 : decode cX9_fill 59 = .ok (.invokevirtual 200, 3) := by decide +kernel
theorem dX9_fill_62 : decode cX9_fill 62 = .ok (.iconst 1, 1) := by decide +kernel
theorem dX9_fill_63 : decode cX9_fill 63 = .ok (.iadd, 1) := by decide +kernel
theorem dX9_fill_64 : decode cX9_fill 64 = .ok (.istore 5, 2) := by decide +kernel
theorem dX9_fill_66 : decode cX9_fill 66 = .ok (.aload_n 0, 1) := by decide +kernel
theorem dX9_fill_67 : decode cX9_fill 67 = .ok (.getfield 65, 3) := by decide +kernel
theorem dX9_fill_70 : decode cX9_fill 70 = .ok (.iload_n 3, 1) := by decide +kernel
theorem dX9_fill_71 : decode cX9_fill 71 = .ok (.iaload, 1) := by decide +kernel
theorem dX9_fill_72 : decode cX9_fill 72 = .ok (.iload_n 2, 1) := by decide +kernel
theorem dX9_fill_73 : decode cX9_fill 73 = .ok (.if_icmp .ge 35, 3) := by decide +kernel
theorem dX9_fill_108 : decode cX9_fill 108 = .ok (.aload_n 0, 1) := by decide +kernel
theorem dX9_fill_109 : decode cX9_fill 109 = .ok (.getfield 65, 3) := by decide +kernel
theorem dX9_fill_112 : decode cX9_fill 112 = .ok (.iload_n 3, 1) := by decide +kernel
theorem dX9_fill_113 : decode cX9_fill 113 = .ok (.iaload, 1) := by decide +kernel
theorem dX9_fill_114 : decode cX9_fill 114 = .ok (.iload_n 2, 1) := by decide +kernel
theorem dX9_fill_115 : decode cX9_fill 115 = .ok (.if_icmp .ge 18, 3) := by decide +kernel
theorem dX9_fill_133 : decode cX9_fill 133 = .ok (.iconst 0, 1) := by decide +kernel
theorem dX9_fill_134 : decode cX9_fill 134 = .ok (.istore 4, 2) := by decide +kernel
theorem dX9_fill_136 : decode cX9_fill 136 = .ok (.iload_n 3, 1) := by decide +kernel
theorem dX9_fill_137 : decode cX9_fill 137 = .ok (.iload 4, 2) := by decide +kernel
theorem dX9_fill_139 : decode cX9_fill 139 = .ok (.ifCond .eq 7, 3) := by decide +kernel
theorem dX9_fill_146 : decode cX9_fill 146 = .ok (.iconst (-1), 1) := by decide +kernel
theorem dX9_fill_147 : decode cX9_fill 147 = .ok (.iadd, 1) := by decide +kernel
theorem dX9_fill_148 : decode cX9_fill 148 = .ok (.istore_n 3, 1) := by decide +kernel
theorem dX9_fill_149 : decode cX9_fill 149 = .ok (.goto (-144), 3) := by decide +kernel
theorem dX9_fill_118 : decode cX9_fill 118 = .ok (.aload_n 0, 1) := by decide +kernel
theorem dX9_fill_119 : decode cX9_fill 119 = .ok (.getfield 65, 3) := by decide +kernel
theorem dX9_fill_122 : decode cX9_fill 122 = .ok (.iload_n 3, 1) := by decide +kernel
theorem dX9_fill_123 : decode cX9_fill 123 = .ok (.iaload, 1) := by decide +kernel
theorem dX9_fill_124 : decode cX9_fill 124 = .ok (.iload 5, 2) := by decide +kernel
theorem dX9_fill_126 : decode cX9_fill 126 = .ok (.if_icmp .gt 7, 3) := by decide +kernel
theorem dX9_fill_129 : decode cX9_fill 129 = .ok (.iconst 1, 1) := by decide +kernel
theorem dX9_fill_130 : decode cX9_fill 130 = .ok (.goto 4, 3) := by decide +kernel
theorem dX9_fill_142 : decode cX9_fill 142 = .ok (.iconst 1, 1) := by decide +kernel
theorem dX9_fill_143 : decode cX9_fill 143 = .ok (.goto 4, 3) := by decide +kernel
theorem dX9_fill_76 : decode cX9_fill 76 = .ok (.aload_n 0, 1) := by decide +kernel
theorem dX9_fill_77 : decode cX9_fill 77 = .ok (.getfield 65, 3) := by decide +kernel
theorem dX9_fill_80 : decode cX9_fill 80 = .ok (.iload_n 3, 1) := by decide +kernel
theorem dX9_fill_81 : decode cX9_fill 81 = .ok (.iaload, 1) := by decide +kernel
theorem dX9_fill_82 : decode cX9_fill 82 = .ok (.iload 5, 2) := by decide +kernel
theorem dX9_fill_84 : decode cX9_fill 84 = .ok (.if_icmp .gt 24, 3) := by decide +kernel
theorem dX9_fill_87 : decode cX9_fill 87 = .ok (.aload_n 0, 1) := by decide +kernel
theorem dX9_fill_88 : decode cX9_fill 88 = .ok (.iload_n 3, 1) := by decide +kernel
theorem dX9_fill_89 : decode cX9_fill 89 = .ok (.invokevirtual 203, 3) := by decide +kernel
theorem dX9_fill_92 : decode cX9_fill 92 = .ok (.ifCond .ne 16, 3) := by decide +kernel
theorem dX9_fill_95 : decode cX9_fill 95 = .ok (.aload_n 0, 1) := by decide +kernel
theorem dX9_fill_96 : decode cX9_fill 96 = .ok (.getfield 65, 3) := by decide +kernel
theorem dX9_fill_99 : decode cX9_fill 99 = .ok (.iload_n 3, 1) := by decide +kernel
theorem dX9_fill_100 : decode cX9_fill 100 = .ok (.dup2, 1) := by decide +kernel
theorem dX9_fill_101 : decode cX9_fill 101 = .ok (.iaload, 1) := by decide +kernel
theorem dX9_fill_102 : decode cX9_fill 102 = .ok (.iconst 1, 1) := by decide +kernel
theorem dX9_fill_103 : decode cX9_fill 103 = .ok (.iadd, 1) := by decide +kernel
theorem dX9_fill_104 : decode cX9_fill 104 = .ok (.iastore, 1) := by decide +kernel
theorem dX9_fill_105 : decode cX9_fill 105 = .ok (.goto (-39), 3) := by decide +kernel
theorem dX9_fill_23 : decode cX9_fill 23 = .ok (.aload_n 0, 1) := by decide +kernel
theorem dX9_fill_24 : decode cX9_fill 24 = .ok (.getfield 65, 3) := by decide +kernel
theorem dX9_fill_27 : decode cX9_fill 27 = .ok (.iload_n 3, 1) := by decide +kernel
theorem dX9_fill_28 : decode cX9_fill 28 = .ok (.bipush (-6), 2) := by decide +kernel
theorem dX9_fill_30 : decode cX9_fill 30 = .ok (.iastore, 1) := by decide +kernel
theorem dX9_fill_31 : decode cX9_fill 31 = .ok (.goto 105, 3) := by decide +kernel
theorem dX9_fill_48 : decode cX9_fill 48 = .ok (.aload_n 0, 1) := by decide +kernel
theorem dX9_fill_49 : decode cX9_fill 49 = .ok (.getfield 65, 3) := by decide +kernel
theorem dX9_fill_52 : decode cX9_fill 52 = .ok (.iload_n 3, 1) := by decide +kernel
theorem dX9_fill_53 : decode cX9_fill 53 = .ok (.iaload, 1) := by decide +kernel
theorem dX9_fill_54 : decode cX9_fill 54 = .ok (.iconst 1, 1) := by decide +kernel
theorem dX9_fill_55 : decode cX9_fill 55 = .ok (.iadd, 1) := by decide +kernel
set_option maxHeartbeats 4000000 in
set_option maxRecDepth 100000 in
theorem m_greatest (l : Launch) (dC : Nat → ClassId) (dI : Nat → Nat → Nat) (sz : Nat) (h0 : Nat) (w0 : Value) (w1 : Value) (w2 : Value) (w3 : Value) (w4 : Value) (w5 : Value) (w6 : Value) (w7 : Value) (w8 : Value) (w9 : Value) (w10 : Value) (w11 : Value) (w12 : Value) (w13 : Value) (w14 : Value) (w15 : Value) (w16 : Value) (w17 : Value) (w18 : Value) (w19 : Value) (w20 : Value) (w21 : Value) (w22 : Value) (w23 : Value) (cl1 : Nat) (w25 : Value) (w26 : Value) (w27 : Value) (w28 : Value) (w29 : Value) (w30 : Value) (w31 : Value) (w32 : Value) (w33 : Value) (w34 : Value) (kcl1 : ClassId) (fcl : Nat → Int32) (nq : Nat) (hnq : nq < 8) : Met l yX9_greatestAhead (wq yX9_greatestAhead cX9_greatestAhead 4 (some .int)) ({ frames := 0, cells := 0, slots := 0, locals := 0 }) (va_Pc [.ref h0, .int (nI nq)] (pcW dC dI [(kcl1, .int)] [(h0, .inr (8, [w0, w1, w2, w3, w4, w5, w6, w7, w8, w9, w10, w11, w12, w13, w14, w15, w16, w17, w18, w19, w20, w21, w22, w23, .ref cl1, w25, w26, w27, w28, w29, w30, w31, w32, w33, w34])), (cl1, .inl (kcl1, 8, .inl fcl))] sz)) (va_Qi (fun (r : Int32) (_ : Unit) => GaP fcl nq r) (fun _ _ => True) (fun q : Nat => sz ≤ q)) 0 0 (fun q : Nat => sz ≤ q) := by
  refine Met.ofW (cc := cX9_greatestAhead) (maxL := 4) (ret := (some .int)) (by decide) rfl ?_
  intro p e s m args below meth c s₁ B hml hv
  obtain ⟨rfl, hsz, hN, hP, hK, hD0⟩ := hv
  have hx := B.exec
  have hb := B.bytes
  have hr := B.returns
  have hts0 := atoms_spec (ws := (wq yX9_greatestAhead cX9_greatestAhead 4 (some .int))) B.pre
  have hts : ∀ w ∈ BG, w.before _ s = true := fun w h => hts0 w (List.mem_cons_of_mem _ h)
  have hown : s.vm.findClass RX9 = some m.cls := findClass_of_methodNamed B.named
  have hlocks := B.notSynchronized
  subst hsz
  have hA : ∀ q : Nat, s.heap.size ≤ q → (fun q : Nat => s.heap.size ≤ q) q := fun _ h => h
  have hD := hD0
  have hS : va_S (fun q : Nat => s.heap.size ≤ q) s.heap s.heap [] := va_S.rf
  have hP : va_P (dC, dI) vwCl [(h0, .inr (8, [w0, w1, w2, w3, w4, w5, w6, w7, w8, w9, w10, w11, w12, w13, w14, w15, w16, w17, w18, w19, w20, w21, w22, w23, .ref cl1, w25, w26, w27, w28, w29, w30, w31, w32, w33, w34])), (cl1, .inl (kcl1, 8, .inl fcl))] s.heap := hP
  have hl := lv_entry ([.ref h0, .int (nI nq)]) (n := 4) (Nat.le_of_ble_eq_true rfl)
  rw [lg_entry_eq]
  generalize (lg_sl ([.ref h0, .int (nI nq)]) ++ List.replicate (4 - (lg_sl ([.ref h0, .int (nI nq)])).length) Slot.unset).toArray = ls at hl ⊢
  have hl : lv_has ls 4 [(0, .ref h0), (1, .int (nI nq))] := hl
  refine lv_iconst (v := (-1)) hx hb dX9_greatestAhead_0 (by decide) ?_
  refine lv_istore_n (lv' := [(2, .int (-1)), (0, .ref h0), (1, .int (nI nq))]) hx hb dX9_greatestAhead_1 rfl hl (by decide) rfl (fun ls hl => ?_)
  refine lv_iconst (v := 0) hx hb dX9_greatestAhead_2 (by decide) ?_
  refine lv_istore_n (lv' := [(3, .int 0), (2, .int (-1)), (0, .ref h0), (1, .int (nI nq))]) hx hb dX9_greatestAhead_3 rfl hl (by decide) rfl (fun ls hl => ?_)
  have key_1 : ∀ (fu : Nat) (k : Nat) (rg : Int32), (k ≤ nq) → (GaP fcl k rg) → nq - k < fu → ∀ (H : Heap) (locs : List Loc), va_P (dC, dI) vwCl [(h0, .inr (8, [w0, w1, w2, w3, w4, w5, w6, w7, w8, w9, w10, w11, w12, w13, w14, w15, w16, w17, w18, w19, w20, w21, w22, w23, .ref cl1, w25, w26, w27, w28, w29, w30, w31, w32, w33, w34])), (cl1, .inl (kcl1, 8, .inl fcl))] H → va_S (fun q : Nat => s.heap.size ≤ q) s.heap H locs → ∀ (ls : Array Slot), lv_has ls 4 [(3, .int (nI k)), (2, .int rg), (0, .ref h0), (1, .int (nI nq))] → W p l e (headSpec (wq yX9_greatestAhead cX9_greatestAhead 4 (some .int)) ({ frames := 0, cells := 0, slots := 0, locals := 0 })).room s m (([.ref h0, .int (nI nq)] : List Value)).toArray below meth c H locs 0 0 (MQ below (va_Qi (fun (r : Int32) (_ : Unit) => GaP fcl nq r) (fun _ _ => True) (fun q : Nat => s.heap.size ≤ q)) (([.ref h0, .int (nI nq)] : List Value)).toArray s 0 0 (fun q : Nat => s.heap.size ≤ q)) (F0 m 4 ls []) := by
    intro fu
    induction fu with
    | zero => intro k rg hk hga hme; exact absurd hme (Nat.not_lt_zero _)
    | succ fu ih_2 =>
      intro k rg hk hga hme H locs hP hS ls hl
      refine lv_iload_n hx hb dX9_greatestAhead_4 rfl (lv_at hl 0 rfl) ?_
      refine lv_iload_n hx hb dX9_greatestAhead_5 rfl (lv_at hl 3 rfl) ?_
      refine lv_icmp_ge (tgt := 36) hx hb dX9_greatestAhead_6 (by decide) (fun c_3 => ?_) (fun c_3 => ?_)
      · have b_4 := gx_ge (X := ((k : Nat) : Int)) (C := ((nq : Nat) : Int)) (nI_toInt (by omega)) (nI_toInt (by omega)) c_3
        refine lv_iload_n hx hb dX9_greatestAhead_36 rfl (lv_at hl 1 rfl) ?_
        exact W.iret (v := rg) hx hb hr (fun t ht hW => ⟨⟨rg, (), rfl, (by have q : k = nq := (by omega); rw [q] at hga; exact hga), trivial⟩, hS.F ht⟩) hS.2.2 dX9_greatestAhead_37
      · have b_4 := gn_ge (X := ((k : Nat) : Int)) (C := ((nq : Nat) : Int)) (nI_toInt (by omega)) (nI_toInt (by omega)) c_3
        refine lv_aload_n hx hb dX9_greatestAhead_9 rfl (lv_at hl 2 rfl) ?_
        refine va_get (D := (dC, dI)) (ci := 8) (v := .ref cl1) (C := RX9) (T := TX9) (N := 35) hx hb hts inB_9 hown hK hP 0 rfl rfl 24 (by decide) (hts _ mw_3_206) (fun _ h9 => h9) rfl dX9_greatestAhead_10 ?_
        refine lv_iload_n hx hb dX9_greatestAhead_13 rfl (lv_at hl 0 rfl) ?_
        refine va_iald hx hb hK hP 1 0 rfl rfl (show vp_in (nI k) 8 from vp_in_nI (by omega) (by omega)) dX9_greatestAhead_14 ?_
        refine hx_top (y := (fcl k)) (congrArg _ (nI_clamp (by omega))) ?_
        refine lv_iload_n hx hb dX9_greatestAhead_15 rfl (lv_at hl 1 rfl) ?_
        refine lv_icmp_le (tgt := 28) hx hb dX9_greatestAhead_16 (by decide) (fun c_5 => ?_) (fun c_5 => ?_)
        · have b_6 := gx_le (X := (Int32.toInt (fcl k))) (C := (Int32.toInt rg)) rfl rfl c_5
          refine lv_iload_n hx hb dX9_greatestAhead_28 rfl (lv_at hl 1 rfl) ?_
          refine lv_istore_n (lv' := [(2, .int rg), (3, .int (nI k)), (0, .ref h0), (1, .int (nI nq))]) hx hb dX9_greatestAhead_29 rfl hl (by decide) rfl (fun ls hl => ?_)
          refine lv_iinc (v := (nI (k + 1))) (lv' := [(3, .int (nI (k + 1))), (2, .int rg), (0, .ref h0), (1, .int (nI nq))]) hx hb dX9_greatestAhead_30 hl (k := 1) rfl (nI_add k 1) (by decide) rfl (fun ls hl => ?_)
          refine lv_goto (tgt := 4) hx hb dX9_greatestAhead_33 (by decide) ?_
          exact ih_2 (k + 1) rg (by omega) (ga_same hga (by omega)) (by omega) _ _ hP hS ls (lv_sub hl [0, 1, 2, 3] rfl)
        · have b_6 := gn_le (X := (Int32.toInt (fcl k))) (C := (Int32.toInt rg)) rfl rfl c_5
          refine lv_aload_n hx hb dX9_greatestAhead_19 rfl (lv_at hl 2 rfl) ?_
          refine va_get (D := (dC, dI)) (ci := 8) (v := .ref cl1) (C := RX9) (T := TX9) (N := 35) hx hb hts inB_9 hown hK hP 0 rfl rfl 24 (by decide) (hts _ mw_3_206) (fun _ h9 => h9) rfl dX9_greatestAhead_20 ?_
          refine lv_iload_n hx hb dX9_greatestAhead_23 rfl (lv_at hl 0 rfl) ?_
          refine va_iald hx hb hK hP 1 0 rfl rfl (show vp_in (nI k) 8 from vp_in_nI (by omega) (by omega)) dX9_greatestAhead_24 ?_
          refine hx_top (y := (fcl k)) (congrArg _ (nI_clamp (by omega))) ?_
          refine lv_goto (tgt := 29) hx hb dX9_greatestAhead_25 (by decide) ?_
          refine lv_istore_n (lv' := [(2, .int (fcl k)), (3, .int (nI k)), (0, .ref h0), (1, .int (nI nq))]) hx hb dX9_greatestAhead_29 rfl hl (by decide) rfl (fun ls hl => ?_)
          refine lv_iinc (v := (nI (k + 1))) (lv' := [(3, .int (nI (k + 1))), (2, .int (fcl k)), (0, .ref h0), (1, .int (nI nq))]) hx hb dX9_greatestAhead_30 hl (k := 1) rfl (nI_add k 1) (by decide) rfl (fun ls hl => ?_)
          refine lv_goto (tgt := 4) hx hb dX9_greatestAhead_33 (by decide) ?_
          exact ih_2 (k + 1) (fcl k) (by omega) (ga_more hga (by omega)) (by omega) _ _ hP hS ls (lv_sub hl [0, 1, 2, 3] rfl)
  exact key_1 ((nq - 0) + 1) 0 (-1) (by omega) ga_0 (Nat.lt_succ_self _) _ _ hP hS ls (lv_sub hl [0, 1, 2, 3] rfl)
set_option maxHeartbeats 4000000 in
set_option maxRecDepth 100000 in
theorem m_isFree (l : Launch) (dC : Nat → ClassId) (dI : Nat → Nat → Nat) (sz : Nat) (h0 : Nat) (w0 : Value) (w1 : Value) (w2 : Value) (w3 : Value) (w4 : Value) (w5 : Value) (w6 : Value) (w7 : Value) (w8 : Value) (w9 : Value) (w10 : Value) (w11 : Value) (w12 : Value) (w13 : Value) (w14 : Value) (w15 : Value) (w16 : Value) (w17 : Value) (w18 : Value) (w19 : Value) (w20 : Value) (w21 : Value) (w22 : Value) (cg0 : Nat) (cl1 : Nat) (w25 : Value) (w26 : Value) (w27 : Value) (w28 : Value) (w29 : Value) (w30 : Value) (w31 : Value) (w32 : Value) (w33 : Value) (w34 : Value) (kcg0 : ClassId) (fag : Nat → Int32) (kcl1 : ClassId) (fcl : Nat → Int32) (nq : Nat) (hnq : nq < 8) : Met l yX9_isFree (wq yX9_isFree cX9_isFree 4 (some .boolean)) ({ frames := 0, cells := 0, slots := 0, locals := 0 }) (va_Pc [.ref h0, .int (nI nq)] (pcW dC dI [(kcg0, .int), (kcl1, .int)] [(h0, .inr (8, [w0, w1, w2, w3, w4, w5, w6, w7, w8, w9, w10, w11, w12, w13, w14, w15, w16, w17, w18, w19, w20, w21, w22, .ref cg0, .ref cl1, w25, w26, w27, w28, w29, w30, w31, w32, w33, w34])), (cg0, .inl (kcg0, 8, .inl fag)), (cl1, .inl (kcl1, 8, .inl fcl))] sz)) (va_Qi (fun (r : Int32) (_ : Unit) => (r = 1 ∧ ∀ o, o < nq → bt (fag nq) o = true → ¬ fcl o = fcl nq) ∨ (r = 0 ∧ ∃ o, o < nq ∧ bt (fag nq) o = true ∧ fcl o = fcl nq)) (fun _ _ => True) (fun q : Nat => sz ≤ q)) 0 0 (fun q : Nat => sz ≤ q) := by
  refine Met.ofW (cc := cX9_isFree) (maxL := 4) (ret := (some .boolean)) (by decide) rfl ?_
  intro p e s m args below meth c s₁ B hml hv
  obtain ⟨rfl, hsz, hN, hP, hK, hD0⟩ := hv
  have hx := B.exec
  have hb := B.bytes
  have hr := B.returns
  have hts0 := atoms_spec (ws := (wq yX9_isFree cX9_isFree 4 (some .boolean))) B.pre
  have hts : ∀ w ∈ BG, w.before _ s = true := fun w h => hts0 w (List.mem_cons_of_mem _ h)
  have hown : s.vm.findClass RX9 = some m.cls := findClass_of_methodNamed B.named
  have hlocks := B.notSynchronized
  subst hsz
  have hA : ∀ q : Nat, s.heap.size ≤ q → (fun q : Nat => s.heap.size ≤ q) q := fun _ h => h
  have hD := hD0
  have hS : va_S (fun q : Nat => s.heap.size ≤ q) s.heap s.heap [] := va_S.rf
  have hP : va_P (dC, dI) vwCl [(h0, .inr (8, [w0, w1, w2, w3, w4, w5, w6, w7, w8, w9, w10, w11, w12, w13, w14, w15, w16, w17, w18, w19, w20, w21, w22, .ref cg0, .ref cl1, w25, w26, w27, w28, w29, w30, w31, w32, w33, w34])), (cg0, .inl (kcg0, 8, .inl fag)), (cl1, .inl (kcl1, 8, .inl fcl))] s.heap := hP
  have hl := lv_entry ([.ref h0, .int (nI nq)]) (n := 4) (Nat.le_of_ble_eq_true rfl)
  rw [lg_entry_eq]
  generalize (lg_sl ([.ref h0, .int (nI nq)]) ++ List.replicate (4 - (lg_sl ([.ref h0, .int (nI nq)])).length) Slot.unset).toArray = ls at hl ⊢
  have hl : lv_has ls 4 [(0, .ref h0), (1, .int (nI nq))] := hl
  refine lv_iconst (v := 1) hx hb dX9_isFree_0 (by decide) ?_
  refine lv_istore_n (lv' := [(2, .int 1), (0, .ref h0), (1, .int (nI nq))]) hx hb dX9_isFree_1 rfl hl (by decide) rfl (fun ls hl => ?_)
  refine lv_iconst (v := 0) hx hb dX9_isFree_2 (by decide) ?_
  refine lv_istore_n (lv' := [(3, .int 0), (2, .int 1), (0, .ref h0), (1, .int (nI nq))]) hx hb dX9_isFree_3 rfl hl (by decide) rfl (fun ls hl => ?_)
  have key_1 : ∀ (fu : Nat) (k : Nat) (wo : Int32), (k ≤ nq) → (FrX (fag nq) fcl nq k wo) → nq - k < fu → ∀ (H : Heap) (locs : List Loc), va_P (dC, dI) vwCl [(h0, .inr (8, [w0, w1, w2, w3, w4, w5, w6, w7, w8, w9, w10, w11, w12, w13, w14, w15, w16, w17, w18, w19, w20, w21, w22, .ref cg0, .ref cl1, w25, w26, w27, w28, w29, w30, w31, w32, w33, w34])), (cg0, .inl (kcg0, 8, .inl fag)), (cl1, .inl (kcl1, 8, .inl fcl))] H → va_S (fun q : Nat => s.heap.size ≤ q) s.heap H locs → ∀ (ls : Array Slot), lv_has ls 4 [(3, .int (nI k)), (2, .int wo), (0, .ref h0), (1, .int (nI nq))] → W p l e (headSpec (wq yX9_isFree cX9_isFree 4 (some .boolean)) ({ frames := 0, cells := 0, slots := 0, locals := 0 })).room s m (([.ref h0, .int (nI nq)] : List Value)).toArray below meth c H locs 0 0 (MQ below (va_Qi (fun (r : Int32) (_ : Unit) => (r = 1 ∧ ∀ o, o < nq → bt (fag nq) o = true → ¬ fcl o = fcl nq) ∨ (r = 0 ∧ ∃ o, o < nq ∧ bt (fag nq) o = true ∧ fcl o = fcl nq)) (fun _ _ => True) (fun q : Nat => s.heap.size ≤ q)) (([.ref h0, .int (nI nq)] : List Value)).toArray s 0 0 (fun q : Nat => s.heap.size ≤ q)) (F0 m 4 ls []) := by
    intro fu
    induction fu with
    | zero => intro k wo hk hfr hme; exact absurd hme (Nat.not_lt_zero _)
    | succ fu ih_2 =>
      intro k wo hk hfr hme H locs hP hS ls hl
      refine lv_iload_n hx hb dX9_isFree_4 rfl (lv_at hl 0 rfl) ?_
      refine lv_iload_n hx hb dX9_isFree_5 rfl (lv_at hl 3 rfl) ?_
      refine lv_icmp_ge (tgt := 54) hx hb dX9_isFree_6 (by decide) (fun c_3 => ?_) (fun c_3 => ?_)
      · have b_4 := gx_ge (X := ((k : Nat) : Int)) (C := ((nq : Nat) : Int)) (nI_toInt (by omega)) (nI_toInt (by omega)) c_3
        refine lv_iload_n hx hb dX9_isFree_54 rfl (lv_at hl 1 rfl) ?_
        exact W.zret (v := wo) hx hb hr (narB (hfr.elim (fun q => Or.inr q.1) (fun q => Or.inl q.1))) (fun t ht hW => ⟨⟨wo, (), rfl, (fq_end hfr (by omega)), trivial⟩, hS.F ht⟩) hS.2.2 dX9_isFree_55
      · have b_4 := gn_ge (X := ((k : Nat) : Int)) (C := ((nq : Nat) : Int)) (nI_toInt (by omega)) (nI_toInt (by omega)) c_3
        refine lv_iload_n hx hb dX9_isFree_9 rfl (lv_at hl 1 rfl) ?_
        refine lv_if_eq (tgt := 46) hx hb dX9_isFree_10 (by decide) (fun c_5 => ?_) (fun c_5 => ?_)
        · have b_6 := gx_eq (X := (Int32.toInt wo)) (C := 0) rfl (by decide) c_5
          refine lv_iconst (v := 0) hx hb dX9_isFree_46 (by decide) ?_
          refine lv_istore_n (lv' := [(2, .int 0), (3, .int (nI k)), (0, .ref h0), (1, .int (nI nq))]) hx hb dX9_isFree_47 rfl hl (by decide) rfl (fun ls hl => ?_)
          refine lv_iinc (v := (nI (k + 1))) (lv' := [(3, .int (nI (k + 1))), (2, .int 0), (0, .ref h0), (1, .int (nI nq))]) hx hb dX9_isFree_48 hl (k := 1) rfl (nI_add k 1) (by decide) rfl (fun ls hl => ?_)
          refine lv_goto (tgt := 4) hx hb dX9_isFree_51 (by decide) ?_
          exact ih_2 (k + 1) 0 (by omega) (fq_keep hfr c_5) (by omega) _ _ hP hS ls (lv_sub hl [0, 1, 2, 3] rfl)
        · have b_6 := gn_eq (X := (Int32.toInt wo)) (C := 0) rfl (by decide) c_5
          refine lv_aload_n hx hb dX9_isFree_13 rfl (lv_at hl 2 rfl) ?_
          refine va_get (D := (dC, dI)) (ci := 8) (v := .ref cg0) (C := RX9) (T := TX9) (N := 35) hx hb hts inB_9 hown hK hP 0 rfl rfl 23 (by decide) (hts _ mw_3_205) (fun _ h9 => h9) rfl dX9_isFree_14 ?_
          refine lv_iload_n hx hb dX9_isFree_17 rfl (lv_at hl 3 rfl) ?_
          refine va_iald hx hb hK hP 1 0 rfl rfl (show vp_in (nI nq) 8 from vp_in_nI (by omega) (by omega)) dX9_isFree_18 ?_
          refine hx_top (y := (fag nq)) (congrArg _ (nI_clamp (by omega))) ?_
          refine lv_iload_n hx hb dX9_isFree_19 rfl (lv_at hl 0 rfl) ?_
          refine lv_ishr hx hb dX9_isFree_20 ?_
          refine lv_iconst (v := 1) hx hb dX9_isFree_21 (by decide) ?_
          refine lv_iand hx hb dX9_isFree_22 ?_
          refine lv_iconst (v := 1) hx hb dX9_isFree_23 (by decide) ?_
          refine lv_icmp_ne (tgt := 42) hx hb dX9_isFree_24 (by decide) (fun c_7 => ?_) (fun c_7 => ?_)
          · have b_8 := gx_ne (X := (Int32.toInt (((fag nq) >>> ((nI k) &&& 31)) &&& 1))) (C := 1) rfl (by decide) c_7
            refine lv_iconst (v := 1) hx hb dX9_isFree_42 (by decide) ?_
            refine lv_goto (tgt := 47) hx hb dX9_isFree_43 (by decide) ?_
            refine lv_istore_n (lv' := [(2, .int 1), (3, .int (nI k)), (0, .ref h0), (1, .int (nI nq))]) hx hb dX9_isFree_47 rfl hl (by decide) rfl (fun ls hl => ?_)
            refine lv_iinc (v := (nI (k + 1))) (lv' := [(3, .int (nI (k + 1))), (2, .int 1), (0, .ref h0), (1, .int (nI nq))]) hx hb dX9_isFree_48 hl (k := 1) rfl (nI_add k 1) (by decide) rfl (fun ls hl => ?_)
            refine lv_goto (tgt := 4) hx hb dX9_isFree_51 (by decide) ?_
            exact ih_2 (k + 1) 1 (by omega) (fq_no hfr c_5 (t_n1 (by omega) c_7)) (by omega) _ _ hP hS ls (lv_sub hl [0, 1, 2, 3] rfl)
          · have b_8 := gn_ne (X := (Int32.toInt (((fag nq) >>> ((nI k) &&& 31)) &&& 1))) (C := 1) rfl (by decide) c_7
            refine lv_aload_n hx hb dX9_isFree_27 rfl (lv_at hl 2 rfl) ?_
            refine va_get (D := (dC, dI)) (ci := 8) (v := .ref cl1) (C := RX9) (T := TX9) (N := 35) hx hb hts inB_9 hown hK hP 0 rfl rfl 24 (by decide) (hts _ mw_3_206) (fun _ h9 => h9) rfl dX9_isFree_28 ?_
            refine lv_iload_n hx hb dX9_isFree_31 rfl (lv_at hl 0 rfl) ?_
            refine va_iald hx hb hK hP 2 1 rfl rfl (show vp_in (nI k) 8 from vp_in_nI (by omega) (by omega)) dX9_isFree_32 ?_
            refine hx_top (y := (fcl k)) (congrArg _ (nI_clamp (by omega))) ?_
            refine lv_aload_n hx hb dX9_isFree_33 rfl (lv_at hl 2 rfl) ?_
            refine va_get (D := (dC, dI)) (ci := 8) (v := .ref cl1) (C := RX9) (T := TX9) (N := 35) hx hb hts inB_9 hown hK hP 0 rfl rfl 24 (by decide) (hts _ mw_3_206) (fun _ h9 => h9) rfl dX9_isFree_34 ?_
            refine lv_iload_n hx hb dX9_isFree_37 rfl (lv_at hl 3 rfl) ?_
            refine va_iald hx hb hK hP 2 1 rfl rfl (show vp_in (nI nq) 8 from vp_in_nI (by omega) (by omega)) dX9_isFree_38 ?_
            refine hx_top (y := (fcl nq)) (congrArg _ (nI_clamp (by omega))) ?_
            refine lv_icmp_eq (tgt := 46) hx hb dX9_isFree_39 (by decide) (fun c_9 => ?_) (fun c_9 => ?_)
            · have b_10 := gx_eq (X := (Int32.toInt (fcl k))) (C := (Int32.toInt (fcl nq))) rfl rfl c_9
              refine lv_iconst (v := 0) hx hb dX9_isFree_46 (by decide) ?_
              refine lv_istore_n (lv' := [(2, .int 0), (3, .int (nI k)), (0, .ref h0), (1, .int (nI nq))]) hx hb dX9_isFree_47 rfl hl (by decide) rfl (fun ls hl => ?_)
              refine lv_iinc (v := (nI (k + 1))) (lv' := [(3, .int (nI (k + 1))), (2, .int 0), (0, .ref h0), (1, .int (nI nq))]) hx hb dX9_isFree_48 hl (k := 1) rfl (nI_add k 1) (by decide) rfl (fun ls hl => ?_)
              refine lv_goto (tgt := 4) hx hb dX9_isFree_51 (by decide) ?_
              exact ih_2 (k + 1) 0 (by omega) (fq_hit hfr (by omega) (t_1 (by omega) c_7) c_9) (by omega) _ _ hP hS ls (lv_sub hl [0, 1, 2, 3] rfl)
            · have b_10 := gn_eq (X := (Int32.toInt (fcl k))) (C := (Int32.toInt (fcl nq))) rfl rfl c_9
              refine lv_iconst (v := 1) hx hb dX9_isFree_42 (by decide) ?_
              refine lv_goto (tgt := 47) hx hb dX9_isFree_43 (by decide) ?_
              refine lv_istore_n (lv' := [(2, .int 1), (3, .int (nI k)), (0, .ref h0), (1, .int (nI nq))]) hx hb dX9_isFree_47 rfl hl (by decide) rfl (fun ls hl => ?_)
              refine lv_iinc (v := (nI (k + 1))) (lv' := [(3, .int (nI (k + 1))), (2, .int 1), (0, .ref h0), (1, .int (nI nq))]) hx hb dX9_isFree_48 hl (k := 1) rfl (nI_add k 1) (by decide) rfl (fun ls hl => ?_)
              refine lv_goto (tgt := 4) hx hb dX9_isFree_51 (by decide) ?_
              exact ih_2 (k + 1) 1 (by omega) (fq_ne hfr c_5 c_9) (by omega) _ _ hP hS ls (lv_sub hl [0, 1, 2, 3] rfl)
  exact key_1 ((nq - 0) + 1) 0 1 (by omega) fq_0 (Nat.lt_succ_self _) _ _ hP hS ls (lv_sub hl [0, 1, 2, 3] rfl)
set_option maxHeartbeats 4000000 in
set_option maxRecDepth 100000 in
theorem m_fill (l : Launch) (dC : Nat → ClassId) (dI : Nat → Nat → Nat) (sz : Nat) (h0 : Nat) (w0 : Value) (w1 : Value) (w2 : Value) (w3 : Value) (w4 : Value) (w5 : Value) (w6 : Value) (w7 : Value) (w8 : Value) (w9 : Value) (w10 : Value) (w11 : Value) (w12 : Value) (w13 : Value) (w14 : Value) (w15 : Value) (w16 : Value) (w17 : Value) (w18 : Value) (w19 : Value) (w20 : Value) (w21 : Value) (w22 : Value) (cg0 : Nat) (cl1 : Nat) (w25 : Value) (w26 : Value) (w27 : Value) (w28 : Value) (w29 : Value) (w30 : Value) (w31 : Value) (w32 : Value) (w33 : Value) (w34 : Value) (kcg0 : ClassId) (fag : Nat → Int32) (kcl1 : ClassId) (fcl : Nat → Int32) (us : Int32) (mm : Nat) (hmm : mm ≤ 8) : Met l yX9_fill (wq yX9_fill cX9_fill 6 (some .boolean)) ({ frames := 1, cells := 0, slots := 0, locals := 23 }) (va_Pc [.ref h0, .int us, .int (nI mm)] (pcW dC dI [(kcg0, .int), (kcl1, .int)] [(h0, .inr (8, [w0, w1, w2, w3, w4, w5, w6, w7, w8, w9, w10, w11, w12, w13, w14, w15, w16, w17, w18, w19, w20, w21, w22, .ref cg0, .ref cl1, w25, w26, w27, w28, w29, w30, w31, w32, w33, w34])), (cg0, .inl (kcg0, 8, .inl fag)), (cl1, .inl (kcl1, 8, .inl fcl))] sz)) (va_Qi (fun (r : Int32) (_ : Unit) => (r = 1 ∧ cE0 (bt us) (kB fag) mm) ∨ (r = 0 ∧ ¬ cE0 (bt us) (kB fag) mm)) (fun _ t => ∃ (fcl2 : Nat → Int32), (cE0 (bt us) (kB fag) mm → cL0 (bt us) (kB fag) mm fcl2) ∧ va_P (dC, dI) vwCl [(h0, .inr (8, [w0, w1, w2, w3, w4, w5, w6, w7, w8, w9, w10, w11, w12, w13, w14, w15, w16, w17, w18, w19, w20, w21, w22, .ref cg0, .ref cl1, w25, w26, w27, w28, w29, w30, w31, w32, w33, w34])), (cg0, .inl (kcg0, 8, .inl fag)), (cl1, .inl (kcl1, 8, .inl fcl2))] t.heap ∧ va_K (dC, dI) vwCl [(kcg0, .int), (kcl1, .int)] t ∧ va_D (va_A [(h0, .inr (8, [w0, w1, w2, w3, w4, w5, w6, w7, w8, w9, w10, w11, w12, w13, w14, w15, w16, w17, w18, w19, w20, w21, w22, .ref cg0, .ref cl1, w25, w26, w27, w28, w29, w30, w31, w32, w33, w34])), (cg0, .inl (kcg0, 8, .inl fag)), (cl1, .inl (kcl1, 8, .inl fcl))] sz) [(h0, .inr (8, [w0, w1, w2, w3, w4, w5, w6, w7, w8, w9, w10, w11, w12, w13, w14, w15, w16, w17, w18, w19, w20, w21, w22, .ref cg0, .ref cl1, w25, w26, w27, w28, w29, w30, w31, w32, w33, w34])), (cg0, .inl (kcg0, 8, .inl fag)), (cl1, .inl (kcl1, 8, .inl fcl2))]) (va_A [(h0, .inr (8, [w0, w1, w2, w3, w4, w5, w6, w7, w8, w9, w10, w11, w12, w13, w14, w15, w16, w17, w18, w19, w20, w21, w22, .ref cg0, .ref cl1, w25, w26, w27, w28, w29, w30, w31, w32, w33, w34])), (cg0, .inl (kcg0, 8, .inl fag)), (cl1, .inl (kcl1, 8, .inl fcl))] sz)) 0 0 (va_A [(h0, .inr (8, [w0, w1, w2, w3, w4, w5, w6, w7, w8, w9, w10, w11, w12, w13, w14, w15, w16, w17, w18, w19, w20, w21, w22, .ref cg0, .ref cl1, w25, w26, w27, w28, w29, w30, w31, w32, w33, w34])), (cg0, .inl (kcg0, 8, .inl fag)), (cl1, .inl (kcl1, 8, .inl fcl))] sz) := by
  refine Met.ofW (cc := cX9_fill) (maxL := 6) (ret := (some .boolean)) (by decide) rfl ?_
  intro p e s m args below meth c s₁ B hml hv
  obtain ⟨rfl, hsz, hN, hP, hK, hD0⟩ := hv
  have hx := B.exec
  have hb := B.bytes
  have hr := B.returns
  have hts0 := atoms_spec (ws := (wq yX9_fill cX9_fill 6 (some .boolean))) B.pre
  have hts : ∀ w ∈ BG, w.before _ s = true := fun w h => hts0 w (List.mem_cons_of_mem _ h)
  have hown : s.vm.findClass RX9 = some m.cls := findClass_of_methodNamed B.named
  have hlocks := B.notSynchronized
  subst hsz
  have hD := hD0.self (sz := s.heap.size)
  generalize hAe : va_A [(h0, .inr (8, [w0, w1, w2, w3, w4, w5, w6, w7, w8, w9, w10, w11, w12, w13, w14, w15, w16, w17, w18, w19, w20, w21, w22, .ref cg0, .ref cl1, w25, w26, w27, w28, w29, w30, w31, w32, w33, w34])), (cg0, .inl (kcg0, 8, .inl fag)), (cl1, .inl (kcl1, 8, .inl fcl))] s.heap.size = A at hD ⊢
  have hA : ∀ q : Nat, s.heap.size ≤ q → A q := fun q h => by rw [← hAe]; exact Or.inr h
  have hS : va_S A s.heap s.heap [] := va_S.rf
  clear hAe hD0
  have hP : va_P (dC, dI) vwCl [(h0, .inr (8, [w0, w1, w2, w3, w4, w5, w6, w7, w8, w9, w10, w11, w12, w13, w14, w15, w16, w17, w18, w19, w20, w21, w22, .ref cg0, .ref cl1, w25, w26, w27, w28, w29, w30, w31, w32, w33, w34])), (cg0, .inl (kcg0, 8, .inl fag)), (cl1, .inl (kcl1, 8, .inl fcl))] s.heap := hP
  have hl := lv_entry ([.ref h0, .int us, .int (nI mm)]) (n := 6) (Nat.le_of_ble_eq_true rfl)
  rw [lg_entry_eq]
  generalize (lg_sl ([.ref h0, .int us, .int (nI mm)]) ++ List.replicate (6 - (lg_sl ([.ref h0, .int us, .int (nI mm)])).length) Slot.unset).toArray = ls at hl ⊢
  have hl : lv_has ls 6 [(0, .ref h0), (1, .int us), (2, .int (nI mm))] := hl
  refine lv_iconst (v := 0) hx hb dX9_fill_0 (by decide) ?_
  refine lv_istore_n (lv' := [(3, .int 0), (0, .ref h0), (1, .int us), (2, .int (nI mm))]) hx hb dX9_fill_1 rfl hl (by decide) rfl (fun ls hl => ?_)
  refine lv_iconst (v := 1) hx hb dX9_fill_2 (by decide) ?_
  refine lv_istore (lv' := [(4, .int 1), (3, .int 0), (0, .ref h0), (1, .int us), (2, .int (nI mm))]) hx hb dX9_fill_3 hl (by decide) rfl (fun ls hl => ?_)
  have key_1 : ∀ (fu : Nat) (nv : Int32) (m1 : Nat) (dn : Int32) (cm : Nat) (fcx : Nat → Int32), (Int32.toInt nv = ((m1 : Nat) : Int) - 1) → (m1 ≤ 9) → (ColOk us fcx cm) → ((dn = 1 ∧ m1 = cm + 1) ∨ (dn = 0 ∧ m1 = cm ∧ m1 ≤ 8)) → (RfI (bt us) (kB fag) mm fcx cm dn) → muF fcx cm dn < fu → ∀ (H : Heap) (locs : List Loc), va_P (dC, dI) vwCl [(h0, .inr (8, [w0, w1, w2, w3, w4, w5, w6, w7, w8, w9, w10, w11, w12, w13, w14, w15, w16, w17, w18, w19, w20, w21, w22, .ref cg0, .ref cl1, w25, w26, w27, w28, w29, w30, w31, w32, w33, w34])), (cg0, .inl (kcg0, 8, .inl fag)), (cl1, .inl (kcl1, 8, .inl fcx))] H → va_D A [(h0, .inr (8, [w0, w1, w2, w3, w4, w5, w6, w7, w8, w9, w10, w11, w12, w13, w14, w15, w16, w17, w18, w19, w20, w21, w22, .ref cg0, .ref cl1, w25, w26, w27, w28, w29, w30, w31, w32, w33, w34])), (cg0, .inl (kcg0, 8, .inl fag)), (cl1, .inl (kcl1, 8, .inl fcx))] → va_S A s.heap H locs → ∀ (ls : Array Slot), lv_has ls 6 [(4, .int dn), (3, .int nv), (0, .ref h0), (1, .int us), (2, .int (nI mm))] → W p l e (headSpec (wq yX9_fill cX9_fill 6 (some .boolean)) ({ frames := 1, cells := 0, slots := 0, locals := 23 })).room s m (([.ref h0, .int us, .int (nI mm)] : List Value)).toArray below meth c H locs 0 0 (MQ below (va_Qi (fun (r : Int32) (_ : Unit) => (r = 1 ∧ cE0 (bt us) (kB fag) mm) ∨ (r = 0 ∧ ¬ cE0 (bt us) (kB fag) mm)) (fun _ t => ∃ (fcl2 : Nat → Int32), (cE0 (bt us) (kB fag) mm → cL0 (bt us) (kB fag) mm fcl2) ∧ va_P (dC, dI) vwCl [(h0, .inr (8, [w0, w1, w2, w3, w4, w5, w6, w7, w8, w9, w10, w11, w12, w13, w14, w15, w16, w17, w18, w19, w20, w21, w22, .ref cg0, .ref cl1, w25, w26, w27, w28, w29, w30, w31, w32, w33, w34])), (cg0, .inl (kcg0, 8, .inl fag)), (cl1, .inl (kcl1, 8, .inl fcl2))] t.heap ∧ va_K (dC, dI) vwCl [(kcg0, .int), (kcl1, .int)] t ∧ va_D A [(h0, .inr (8, [w0, w1, w2, w3, w4, w5, w6, w7, w8, w9, w10, w11, w12, w13, w14, w15, w16, w17, w18, w19, w20, w21, w22, .ref cg0, .ref cl1, w25, w26, w27, w28, w29, w30, w31, w32, w33, w34])), (cg0, .inl (kcg0, 8, .inl fag)), (cl1, .inl (kcl1, 8, .inl fcl2))]) A) (([.ref h0, .int us, .int (nI mm)] : List Value)).toArray s 0 0 A) (F0 m 5 ls []) := by
    intro fu
    induction fu with
    | zero => intro nv m1 dn cm fcx hnv hm1 hcol hdn hrf hme; exact absurd hme (Nat.not_lt_zero _)
    | succ fu ih_2 =>
      intro nv m1 dn cm fcx hnv hm1 hcol hdn hrf hme H locs hP hD hS ls hl
      rcases hdn with ⟨rfl, hcmE⟩ | ⟨rfl, hcmE, h8⟩
      · skip
        refine lv_iload_n hx hb dX9_fill_5 rfl (lv_at hl 1 rfl) ?_
        refine lv_if_lt (tgt := 152) hx hb dX9_fill_6 (by decide) (fun c_3 => ?_) (fun c_3 => ?_)
        · have b_4 := gx_lt (X := (Int32.toInt nv)) (C := 0) rfl (by decide) c_3
          refine lv_iload_n hx hb dX9_fill_152 rfl (lv_at hl 1 rfl) ?_
          refine lv_bipush (v := 8) hx hb dX9_fill_153 (by decide) ?_
          refine lv_icmp_ne (tgt := 162) hx hb dX9_fill_155 (by decide) (fun c_5 => ?_) (fun h => absurd (gn_ne (X := (Int32.toInt nv)) (C := 8) rfl (by decide) h) (by omega))
          have b_6 := gx_ne (X := (Int32.toInt nv)) (C := 8) rfl (by decide) c_5
          refine lv_iconst (v := 0) hx hb dX9_fill_162 (by decide) ?_
          have hP9 := hP.sub (ws' := [(h0, .inr (8, [w0, w1, w2, w3, w4, w5, w6, w7, w8, w9, w10, w11, w12, w13, w14, w15, w16, w17, w18, w19, w20, w21, w22, .ref cg0, .ref cl1, w25, w26, w27, w28, w29, w30, w31, w32, w33, w34])), (cg0, .inl (kcg0, 8, .inl fag)), (cl1, .inl (kcl1, 8, .inl fcx))]) [0, 1, 2] rfl
          have hD9 := hD.sub (ws' := [(h0, .inr (8, [w0, w1, w2, w3, w4, w5, w6, w7, w8, w9, w10, w11, w12, w13, w14, w15, w16, w17, w18, w19, w20, w21, w22, .ref cg0, .ref cl1, w25, w26, w27, w28, w29, w30, w31, w32, w33, w34])), (cg0, .inl (kcg0, 8, .inl fag)), (cl1, .inl (kcl1, 8, .inl fcx))]) [0, 1, 2] (by decide) rfl
          have hK9 := hK.sub (tys' := [(kcg0, .int), (kcl1, .int)]) [0, 1] rfl
          exact W.zret (v := 0) hx hb hr (by decide) (fun t ht hW => ⟨⟨0, (), rfl, (False.elim (by omega)), fcx, (False.elim (by omega)), by rw [ht]; exact hP9, va_K.moved hW.alike hK9, hD9⟩, hS.F ht⟩) hS.2.2 dX9_fill_163
        · have b_4 := gn_lt (X := (Int32.toInt nv)) (C := 0) rfl (by decide) c_3
          refine lv_iload_n hx hb dX9_fill_9 rfl (lv_at hl 1 rfl) ?_
          refine lv_bipush (v := 8) hx hb dX9_fill_10 (by decide) ?_
          refine lv_icmp_ge (tgt := 152) hx hb dX9_fill_12 (by decide) (fun c_7 => ?_) (fun c_7 => ?_)
          · have b_8 := gx_ge (X := (Int32.toInt nv)) (C := 8) rfl (by decide) c_7
            refine lv_iload_n hx hb dX9_fill_152 rfl (lv_at hl 1 rfl) ?_
            refine lv_bipush (v := 8) hx hb dX9_fill_153 (by decide) ?_
            refine lv_icmp_ne (tgt := 162) hx hb dX9_fill_155 (by decide) (fun c_9 => ?_) (fun c_9 => ?_)
            · have b_10 := gx_ne (X := (Int32.toInt nv)) (C := 8) rfl (by decide) c_9
              refine lv_iconst (v := 0) hx hb dX9_fill_162 (by decide) ?_
              have hP9 := hP.sub (ws' := [(h0, .inr (8, [w0, w1, w2, w3, w4, w5, w6, w7, w8, w9, w10, w11, w12, w13, w14, w15, w16, w17, w18, w19, w20, w21, w22, .ref cg0, .ref cl1, w25, w26, w27, w28, w29, w30, w31, w32, w33, w34])), (cg0, .inl (kcg0, 8, .inl fag)), (cl1, .inl (kcl1, 8, .inl fcx))]) [0, 1, 2] rfl
              have hD9 := hD.sub (ws' := [(h0, .inr (8, [w0, w1, w2, w3, w4, w5, w6, w7, w8, w9, w10, w11, w12, w13, w14, w15, w16, w17, w18, w19, w20, w21, w22, .ref cg0, .ref cl1, w25, w26, w27, w28, w29, w30, w31, w32, w33, w34])), (cg0, .inl (kcg0, 8, .inl fag)), (cl1, .inl (kcl1, 8, .inl fcx))]) [0, 1, 2] (by decide) rfl
              have hK9 := hK.sub (tys' := [(kcg0, .int), (kcl1, .int)]) [0, 1] rfl
              exact W.zret (v := 0) hx hb hr (by decide) (fun t ht hW => ⟨⟨0, (), rfl, (False.elim (by omega)), fcx, (False.elim (by omega)), by rw [ht]; exact hP9, va_K.moved hW.alike hK9, hD9⟩, hS.F ht⟩) hS.2.2 dX9_fill_163
            · have b_10 := gn_ne (X := (Int32.toInt nv)) (C := 8) rfl (by decide) c_9
              refine lv_iconst (v := 1) hx hb dX9_fill_158 (by decide) ?_
              refine lv_goto (tgt := 163) hx hb dX9_fill_159 (by decide) ?_
              have hP9 := hP.sub (ws' := [(h0, .inr (8, [w0, w1, w2, w3, w4, w5, w6, w7, w8, w9, w10, w11, w12, w13, w14, w15, w16, w17, w18, w19, w20, w21, w22, .ref cg0, .ref cl1, w25, w26, w27, w28, w29, w30, w31, w32, w33, w34])), (cg0, .inl (kcg0, 8, .inl fag)), (cl1, .inl (kcl1, 8, .inl fcx))]) [0, 1, 2] rfl
              have hD9 := hD.sub (ws' := [(h0, .inr (8, [w0, w1, w2, w3, w4, w5, w6, w7, w8, w9, w10, w11, w12, w13, w14, w15, w16, w17, w18, w19, w20, w21, w22, .ref cg0, .ref cl1, w25, w26, w27, w28, w29, w30, w31, w32, w33, w34])), (cg0, .inl (kcg0, 8, .inl fag)), (cl1, .inl (kcl1, 8, .inl fcx))]) [0, 1, 2] (by decide) rfl
              have hK9 := hK.sub (tys' := [(kcg0, .int), (kcl1, .int)]) [0, 1] rfl
              exact W.zret (v := 1) hx hb hr (by decide) (fun t ht hW => ⟨⟨1, (), rfl, (Or.inl ⟨rfl, (rf_all hrf (by omega)).1⟩), fcx, (fun _ => (rf_all hrf (by omega)).2), by rw [ht]; exact hP9, va_K.moved hW.alike hK9, hD9⟩, hS.F ht⟩) hS.2.2 dX9_fill_163
          · have b_8 := gn_ge (X := (Int32.toInt nv)) (C := 8) rfl (by decide) c_7
            obtain ⟨j_11, tj_11, ej_11⟩ := fx_nat (x := nv) (by omega)
            subst ej_11
            have yj_11 : Int32.toInt (nI j_11) = (j_11 : Int) := nI_toInt tj_11
            refine lv_iload_n hx hb dX9_fill_15 rfl (lv_at hl 3 rfl) ?_
            refine lv_iload_n hx hb dX9_fill_16 rfl (lv_at hl 1 rfl) ?_
            refine lv_ishr hx hb dX9_fill_17 ?_
            refine lv_iconst (v := 1) hx hb dX9_fill_18 (by decide) ?_
            refine lv_iand hx hb dX9_fill_19 ?_
            refine lv_if_ne (tgt := 34) hx hb dX9_fill_20 (by decide) (fun c_12 => ?_) (fun c_12 => ?_)
            · have b_13 := gx_ne (X := (Int32.toInt ((us >>> ((nI j_11) &&& 31)) &&& 1))) (C := 0) rfl (by decide) c_12
              refine lv_aload_n hx hb dX9_fill_34 rfl (lv_at hl 2 rfl) ?_
              refine va_get (D := (dC, dI)) (ci := 8) (v := .ref cl1) (C := RX9) (T := TX9) (N := 35) hx hb hts inB_9 hown hK hP 0 rfl rfl 24 (by decide) (hts _ mw_3_206) (fun _ h9 => h9) rfl dX9_fill_35 ?_
              refine lv_iload_n hx hb dX9_fill_38 rfl (lv_at hl 1 rfl) ?_
              refine lv_iload hx hb dX9_fill_39 (lv_at hl 0 rfl) ?_
              refine lv_if_eq (tgt := 48) hx hb dX9_fill_41 (by decide) (fun h => absurd h (by decide)) (fun _ => ?_)
              refine lv_iconst (v := 0) hx hb dX9_fill_44 (by decide) ?_
              refine lv_goto (tgt := 56) hx hb dX9_fill_45 (by decide) ?_
              refine va_iast hx hb hK hP hD hS 2 1 rfl rfl (show vp_in (nI j_11) 8 from vp_in_nI (by omega) (by omega)) dX9_fill_56 (fun H locs hP hD hS => ?_)
              obtain ⟨f_14, ef_14⟩ : ∃ g : Nat → Int32, g = upd fcx (Int32.toNatClampNeg (nI j_11)) 0 := ⟨_, rfl⟩
              rw [← ef_14] at hP hD
              have ef_14 : f_14 = upd fcx j_11 0 := by rw [ef_14, nI_clamp (by omega)]
              have hP : va_P (dC, dI) vwCl [(h0, .inr (8, [w0, w1, w2, w3, w4, w5, w6, w7, w8, w9, w10, w11, w12, w13, w14, w15, w16, w17, w18, w19, w20, w21, w22, .ref cg0, .ref cl1, w25, w26, w27, w28, w29, w30, w31, w32, w33, w34])), (cg0, .inl (kcg0, 8, .inl fag)), (cl1, .inl (kcl1, 8, .inl f_14))] H := hP
              have hD : va_D A [(h0, .inr (8, [w0, w1, w2, w3, w4, w5, w6, w7, w8, w9, w10, w11, w12, w13, w14, w15, w16, w17, w18, w19, w20, w21, w22, .ref cg0, .ref cl1, w25, w26, w27, w28, w29, w30, w31, w32, w33, w34])), (cg0, .inl (kcg0, 8, .inl fag)), (cl1, .inl (kcl1, 8, .inl f_14))] := hD
              refine lv_aload_n hx hb dX9_fill_57 rfl (lv_at hl 2 rfl) ?_
              refine lv_iload_n hx hb dX9_fill_58 rfl (lv_at hl 1 rfl) ?_
              have hPc := hP.sub (ws' := [(h0, .inr (8, [w0, w1, w2, w3, w4, w5, w6, w7, w8, w9, w10, w11, w12, w13, w14, w15, w16, w17, w18, w19, w20, w21, w22, .ref cg0, .ref cl1, w25, w26, w27, w28, w29, w30, w31, w32, w33, w34])), (cl1, .inl (kcl1, 8, .inl f_14))]) [0, 2] rfl
              have hDc := hD.sub (ws' := [(h0, .inr (8, [w0, w1, w2, w3, w4, w5, w6, w7, w8, w9, w10, w11, w12, w13, w14, w15, w16, w17, w18, w19, w20, w21, w22, .ref cg0, .ref cl1, w25, w26, w27, w28, w29, w30, w31, w32, w33, w34])), (cl1, .inl (kcl1, 8, .inl f_14))]) [0, 2] (by decide) rfl
              have hKc := hK.sub (tys' := [(kcl1, .int)]) [1] rfl
              refine va_calli (va_runV (As := [.int (nI j_11)]) (rest := []) ⟨hx, hb, hml, hown, hts⟩ (m_greatest l dC dI H.size h0 (w0) (w1) (w2) (w3) (w4) (w5) (w6) (w7) (w8) (w9) (w10) (w11) (w12) (w13) (w14) (w15) (w16) (w17) (w18) (w19) (w20) (w21) (w22) (.ref cg0) cl1 (w25) (w26) (w27) (w28) (w29) (w30) (w31) (w32) (w33) (w34) kcl1 f_14 j_11 (by omega)) (cwV 1 hts (gV mw_4_214 mw_4_216 mw_0_33 mw_1_9 mw_4_217) rfl rfl rfl (by decide +kernel) ⟨Nat.le_of_ble_eq_true rfl, Nat.le_of_ble_eq_true rfl⟩) ⟨pcW_blind, va_recv hKc hPc (ci := 8) (q0 := 0) rfl rfl, pcW_at hPc hKc hDc hN⟩ rfl rfl hl.1 rfl (lv_room (Nat.le_of_ble_eq_true rfl)) dX9_fill_59 ⟨Nat.le_of_ble_eq_true rfl, Nat.le_of_ble_eq_true rfl⟩) hS (fun q h1 h2 => absurd h2 (Nat.not_le.mpr h1)) (fun q h => hA q (Nat.le_trans hS.1 h)) (fun r_15 u t H1 locs ht hvm hw_15 hB hz1 hk1 hS => ?_)
              have hP := keepP hP hk1
              clear hz1 hk1 hB ht hvm hPc hDc hKc
              generalize H1 = H at hP hS ⊢
              have hgl := ga_le hcol (by omega) (ag_upd (Nat.le_refl _) ef_14) hw_15
              have hg1 := hw_15.1
              refine lv_iconst (v := 1) hx hb dX9_fill_62 (by decide) ?_
              refine lv_iadd hx hb dX9_fill_63 ?_
              refine lv_topi (fun z_16 ez_16 => ?_)
              have fz_16 : Int32.toInt z_16 = (Int32.toInt r_15) + 1 := by rw [ez_16]; exact gx_add (X := (Int32.toInt r_15)) (C := 1) rfl (by decide) (by omega) (by omega)
              refine lv_istore (lv' := [(5, .int z_16), (4, .int 1), (3, .int (nI j_11)), (0, .ref h0), (1, .int us), (2, .int (nI mm))]) hx hb dX9_fill_64 hl (by decide) rfl (fun ls hl => ?_)
              have key_17 : ∀ (fu : Nat) (cv : Nat) (fcv : Nat → Int32), (fcv j_11 = nI cv) → (cv ≤ 9) → (∀ i, i < j_11 → fcv i = fcx i) → (0 ≤ cv) → (BzP (kB fag) fcx j_11 0 cv) → ((cv : Int) ≤ Int32.toInt z_16) → 9 - cv < fu → ∀ (H : Heap) (locs : List Loc), va_P (dC, dI) vwCl [(h0, .inr (8, [w0, w1, w2, w3, w4, w5, w6, w7, w8, w9, w10, w11, w12, w13, w14, w15, w16, w17, w18, w19, w20, w21, w22, .ref cg0, .ref cl1, w25, w26, w27, w28, w29, w30, w31, w32, w33, w34])), (cg0, .inl (kcg0, 8, .inl fag)), (cl1, .inl (kcl1, 8, .inl fcv))] H → va_D A [(h0, .inr (8, [w0, w1, w2, w3, w4, w5, w6, w7, w8, w9, w10, w11, w12, w13, w14, w15, w16, w17, w18, w19, w20, w21, w22, .ref cg0, .ref cl1, w25, w26, w27, w28, w29, w30, w31, w32, w33, w34])), (cg0, .inl (kcg0, 8, .inl fag)), (cl1, .inl (kcl1, 8, .inl fcv))] → va_S A s.heap H locs → ∀ (ls : Array Slot), lv_has ls 6 [(5, .int z_16), (4, .int 1), (3, .int (nI j_11)), (0, .ref h0), (1, .int us), (2, .int (nI mm))] → W p l e (headSpec (wq yX9_fill cX9_fill 6 (some .boolean)) ({ frames := 1, cells := 0, slots := 0, locals := 23 })).room s m (([.ref h0, .int us, .int (nI mm)] : List Value)).toArray below meth c H locs 0 0 (MQ below (va_Qi (fun (r : Int32) (_ : Unit) => (r = 1 ∧ cE0 (bt us) (kB fag) mm) ∨ (r = 0 ∧ ¬ cE0 (bt us) (kB fag) mm)) (fun _ t => ∃ (fcl2 : Nat → Int32), (cE0 (bt us) (kB fag) mm → cL0 (bt us) (kB fag) mm fcl2) ∧ va_P (dC, dI) vwCl [(h0, .inr (8, [w0, w1, w2, w3, w4, w5, w6, w7, w8, w9, w10, w11, w12, w13, w14, w15, w16, w17, w18, w19, w20, w21, w22, .ref cg0, .ref cl1, w25, w26, w27, w28, w29, w30, w31, w32, w33, w34])), (cg0, .inl (kcg0, 8, .inl fag)), (cl1, .inl (kcl1, 8, .inl fcl2))] t.heap ∧ va_K (dC, dI) vwCl [(kcg0, .int), (kcl1, .int)] t ∧ va_D A [(h0, .inr (8, [w0, w1, w2, w3, w4, w5, w6, w7, w8, w9, w10, w11, w12, w13, w14, w15, w16, w17, w18, w19, w20, w21, w22, .ref cg0, .ref cl1, w25, w26, w27, w28, w29, w30, w31, w32, w33, w34])), (cg0, .inl (kcg0, 8, .inl fag)), (cl1, .inl (kcl1, 8, .inl fcl2))]) A) (([.ref h0, .int us, .int (nI mm)] : List Value)).toArray s 0 0 A) (F0 m 66 ls []) := by
                intro fu
                induction fu with
                | zero => intro cv fcv ecv hcv9 hag hlow hbz hcm hme; exact absurd hme (Nat.not_lt_zero _)
                | succ fu ih_18 =>
                  intro cv fcv ecv hcv9 hag hlow hbz hcm hme H locs hP hD hS ls hl
                  have hga2 : GaP fcv j_11 r_15 := ga_cong (ga_cong hw_15 (fun i hi => (ag_upd (Nat.le_refl _) ef_14 i hi).symm)) hag
                  refine lv_aload_n hx hb dX9_fill_66 rfl (lv_at hl 3 rfl) ?_
                  refine va_get (D := (dC, dI)) (ci := 8) (v := .ref cl1) (C := RX9) (T := TX9) (N := 35) hx hb hts inB_9 hown hK hP 0 rfl rfl 24 (by decide) (hts _ mw_3_206) (fun _ h9 => h9) rfl dX9_fill_67 ?_
                  refine lv_iload_n hx hb dX9_fill_70 rfl (lv_at hl 2 rfl) ?_
                  refine va_iald hx hb hK hP 2 1 rfl rfl (show vp_in (nI j_11) 8 from vp_in_nI (by omega) (by omega)) dX9_fill_71 ?_
                  refine hx_top (y := (fcv j_11)) (congrArg _ (nI_clamp (by omega))) ?_
                  refine hx_top (y := (nI cv)) ecv ?_
                  refine lv_iload_n hx hb dX9_fill_72 rfl (lv_at hl 5 rfl) ?_
                  refine lv_icmp_ge (tgt := 108) hx hb dX9_fill_73 (by decide) (fun c_19 => ?_) (fun c_19 => ?_)
                  · have b_20 := gx_ge (X := ((cv : Nat) : Int)) (C := ((mm : Nat) : Int)) (nI_toInt (by omega)) (nI_toInt (by omega)) c_19
                    refine lv_aload_n hx hb dX9_fill_108 rfl (lv_at hl 3 rfl) ?_
                    refine va_get (D := (dC, dI)) (ci := 8) (v := .ref cl1) (C := RX9) (T := TX9) (N := 35) hx hb hts inB_9 hown hK hP 0 rfl rfl 24 (by decide) (hts _ mw_3_206) (fun _ h9 => h9) rfl dX9_fill_109 ?_
                    refine lv_iload_n hx hb dX9_fill_112 rfl (lv_at hl 2 rfl) ?_
                    refine va_iald hx hb hK hP 2 1 rfl rfl (show vp_in (nI j_11) 8 from vp_in_nI (by omega) (by omega)) dX9_fill_113 ?_
                    refine hx_top (y := (fcv j_11)) (congrArg _ (nI_clamp (by omega))) ?_
                    refine hx_top (y := (nI cv)) ecv ?_
                    refine lv_iload_n hx hb dX9_fill_114 rfl (lv_at hl 5 rfl) ?_
                    refine lv_icmp_ge (tgt := 133) hx hb dX9_fill_115 (by decide) (fun c_21 => ?_) (fun c_21 => ?_)
                    · have b_22 := gx_ge (X := ((cv : Nat) : Int)) (C := ((mm : Nat) : Int)) (nI_toInt (by omega)) (nI_toInt (by omega)) c_21
                      refine lv_iconst (v := 0) hx hb dX9_fill_133 (by decide) ?_
                      refine lv_istore (lv' := [(4, .int 0), (5, .int z_16), (3, .int (nI j_11)), (0, .ref h0), (1, .int us), (2, .int (nI mm))]) hx hb dX9_fill_134 hl (by decide) rfl (fun ls hl => ?_)
                      refine lv_iload_n hx hb dX9_fill_136 rfl (lv_at hl 2 rfl) ?_
                      refine lv_iload hx hb dX9_fill_137 (lv_at hl 0 rfl) ?_
                      refine lv_if_eq (tgt := 146) hx hb dX9_fill_139 (by decide) (fun _ => ?_) (fun h => absurd (by decide) h)
                      refine lv_iconst (v := (-1)) hx hb dX9_fill_146 (by decide) ?_
                      refine lv_iadd hx hb dX9_fill_147 ?_
                      refine lv_topi (fun z_23 ez_23 => ?_)
                      have fz_23 : Int32.toInt z_23 = ((j_11 : Nat) : Int) + (-1) := by rw [ez_23]; exact gx_add (X := ((j_11 : Nat) : Int)) (C := (-1)) (nI_toInt (by omega)) (by decide) (by omega) (by omega)
                      refine lv_istore_n (lv' := [(3, .int z_23), (4, .int 0), (5, .int z_16), (0, .ref h0), (1, .int us), (2, .int (nI mm))]) hx hb dX9_fill_148 rfl hl (by decide) rfl (fun ls hl => ?_)
                      refine lv_goto (tgt := 5) hx hb dX9_fill_149 (by decide) ?_
                      exact ih_2 z_23 j_11 0 j_11 fcv (by omega) (by omega) (col_down hcol (by omega) hag) (Or.inr ⟨rfl, by omega, by omega⟩) (rf_end (rf_l1 (show RfI (bt us) (kB fag) mm fcx j_11 1 from by rw [show j_11 = cm from (by omega)]; exact hrf)) (by omega) (t_yes (by omega) c_12) hag hbz (by have q9 := ga_uu hw_15 (ag_upd (Nat.le_refl _) ef_14); omega)) (by have q9 : muF fcv j_11 0 < muF fcx cm 1 := (by rw [show cm = j_11 from (by omega)]; exact mu_du (n := j_11) hag); omega) _ _ hP hD hS ls (lv_sub hl [1, 0, 3, 4, 5] rfl)
                    · have b_22 := gn_ge (X := ((cv : Nat) : Int)) (C := ((mm : Nat) : Int)) (nI_toInt (by omega)) (nI_toInt (by omega)) c_21
                      refine lv_aload_n hx hb dX9_fill_118 rfl (lv_at hl 3 rfl) ?_
                      refine va_get (D := (dC, dI)) (ci := 8) (v := .ref cl1) (C := RX9) (T := TX9) (N := 35) hx hb hts inB_9 hown hK hP 0 rfl rfl 24 (by decide) (hts _ mw_3_206) (fun _ h9 => h9) rfl dX9_fill_119 ?_
                      refine lv_iload_n hx hb dX9_fill_122 rfl (lv_at hl 2 rfl) ?_
                      refine va_iald hx hb hK hP 2 1 rfl rfl (show vp_in (nI j_11) 8 from vp_in_nI (by omega) (by omega)) dX9_fill_123 ?_
                      refine hx_top (y := (fcv j_11)) (congrArg _ (nI_clamp (by omega))) ?_
                      refine hx_top (y := (nI cv)) ecv ?_
                      refine lv_iload hx hb dX9_fill_124 (lv_at hl 0 rfl) ?_
                      refine lv_icmp_gt (tgt := 133) hx hb dX9_fill_126 (by decide) (fun c_24 => ?_) (fun c_24 => ?_)
                      · have b_25 := gx_gt (X := ((cv : Nat) : Int)) (C := (Int32.toInt z_16)) (nI_toInt (by omega)) rfl c_24
                        refine lv_iconst (v := 0) hx hb dX9_fill_133 (by decide) ?_
                        refine lv_istore (lv' := [(4, .int 0), (5, .int z_16), (3, .int (nI j_11)), (0, .ref h0), (1, .int us), (2, .int (nI mm))]) hx hb dX9_fill_134 hl (by decide) rfl (fun ls hl => ?_)
                        refine lv_iload_n hx hb dX9_fill_136 rfl (lv_at hl 2 rfl) ?_
                        refine lv_iload hx hb dX9_fill_137 (lv_at hl 0 rfl) ?_
                        refine lv_if_eq (tgt := 146) hx hb dX9_fill_139 (by decide) (fun _ => ?_) (fun h => absurd (by decide) h)
                        refine lv_iconst (v := (-1)) hx hb dX9_fill_146 (by decide) ?_
                        refine lv_iadd hx hb dX9_fill_147 ?_
                        refine lv_topi (fun z_26 ez_26 => ?_)
                        have fz_26 : Int32.toInt z_26 = ((j_11 : Nat) : Int) + (-1) := by rw [ez_26]; exact gx_add (X := ((j_11 : Nat) : Int)) (C := (-1)) (nI_toInt (by omega)) (by decide) (by omega) (by omega)
                        refine lv_istore_n (lv' := [(3, .int z_26), (4, .int 0), (5, .int z_16), (0, .ref h0), (1, .int us), (2, .int (nI mm))]) hx hb dX9_fill_148 rfl hl (by decide) rfl (fun ls hl => ?_)
                        refine lv_goto (tgt := 5) hx hb dX9_fill_149 (by decide) ?_
                        exact ih_2 z_26 j_11 0 j_11 fcv (by omega) (by omega) (col_down hcol (by omega) hag) (Or.inr ⟨rfl, by omega, by omega⟩) (rf_end (rf_l1 (show RfI (bt us) (kB fag) mm fcx j_11 1 from by rw [show j_11 = cm from (by omega)]; exact hrf)) (by omega) (t_yes (by omega) c_12) hag hbz (by have q9 := ga_uu hw_15 (ag_upd (Nat.le_refl _) ef_14); omega)) (by have q9 : muF fcv j_11 0 < muF fcx cm 1 := (by rw [show cm = j_11 from (by omega)]; exact mu_du (n := j_11) hag); omega) _ _ hP hD hS ls (lv_sub hl [1, 0, 3, 4, 5] rfl)
                      · have b_25 := gn_gt (X := ((cv : Nat) : Int)) (C := (Int32.toInt z_16)) (nI_toInt (by omega)) rfl c_24
                        refine lv_iconst (v := 1) hx hb dX9_fill_129 (by decide) ?_
                        refine lv_goto (tgt := 134) hx hb dX9_fill_130 (by decide) ?_
                        refine lv_istore (lv' := [(4, .int 1), (5, .int z_16), (3, .int (nI j_11)), (0, .ref h0), (1, .int us), (2, .int (nI mm))]) hx hb dX9_fill_134 hl (by decide) rfl (fun ls hl => ?_)
                        refine lv_iload_n hx hb dX9_fill_136 rfl (lv_at hl 2 rfl) ?_
                        refine lv_iload hx hb dX9_fill_137 (lv_at hl 0 rfl) ?_
                        refine lv_if_eq (tgt := 146) hx hb dX9_fill_139 (by decide) (fun h => absurd h (by decide)) (fun _ => ?_)
                        refine lv_iconst (v := 1) hx hb dX9_fill_142 (by decide) ?_
                        refine lv_goto (tgt := 147) hx hb dX9_fill_143 (by decide) ?_
                        refine lv_iadd hx hb dX9_fill_147 ?_
                        refine hx_top (y := (nI (j_11 + 1))) (nI_add j_11 1) ?_
                        refine lv_istore_n (lv' := [(3, .int (nI (j_11 + 1))), (4, .int 1), (5, .int z_16), (0, .ref h0), (1, .int us), (2, .int (nI mm))]) hx hb dX9_fill_148 rfl hl (by decide) rfl (fun ls hl => ?_)
                        refine lv_goto (tgt := 5) hx hb dX9_fill_149 (by decide) ?_
                        exact ih_2 (nI (j_11 + 1)) ((j_11 + 1) + 1) 1 (j_11 + 1) fcv (by rw [nI_toInt (by omega)]; omega) (by omega) (col_yes hcol (by omega) hag c_12 ecv (by omega) (by omega)) (Or.inl ⟨rfl, by omega⟩) (False.elim (by omega)) (by have q9 : muF fcv (j_11 + 1) 1 < muF fcx cm 1 := (by rw [show cm = j_11 from (by omega)]; exact mu_dd (n := j_11) (by omega) hag (by rw [ecv, wt_nI (by omega)]; omega)); omega) _ _ hP hD hS ls (lv_sub hl [1, 0, 3, 4, 5] rfl)
                  · have b_20 := gn_ge (X := ((cv : Nat) : Int)) (C := ((mm : Nat) : Int)) (nI_toInt (by omega)) (nI_toInt (by omega)) c_19
                    refine lv_aload_n hx hb dX9_fill_76 rfl (lv_at hl 3 rfl) ?_
                    refine va_get (D := (dC, dI)) (ci := 8) (v := .ref cl1) (C := RX9) (T := TX9) (N := 35) hx hb hts inB_9 hown hK hP 0 rfl rfl 24 (by decide) (hts _ mw_3_206) (fun _ h9 => h9) rfl dX9_fill_77 ?_
                    refine lv_iload_n hx hb dX9_fill_80 rfl (lv_at hl 2 rfl) ?_
                    refine va_iald hx hb hK hP 2 1 rfl rfl (show vp_in (nI j_11) 8 from vp_in_nI (by omega) (by omega)) dX9_fill_81 ?_
                    refine hx_top (y := (fcv j_11)) (congrArg _ (nI_clamp (by omega))) ?_
                    refine hx_top (y := (nI cv)) ecv ?_
                    refine lv_iload hx hb dX9_fill_82 (lv_at hl 0 rfl) ?_
                    refine lv_icmp_gt (tgt := 108) hx hb dX9_fill_84 (by decide) (fun c_27 => ?_) (fun c_27 => ?_)
                    · have b_28 := gx_gt (X := ((cv : Nat) : Int)) (C := (Int32.toInt z_16)) (nI_toInt (by omega)) rfl c_27
                      refine lv_aload_n hx hb dX9_fill_108 rfl (lv_at hl 3 rfl) ?_
                      refine va_get (D := (dC, dI)) (ci := 8) (v := .ref cl1) (C := RX9) (T := TX9) (N := 35) hx hb hts inB_9 hown hK hP 0 rfl rfl 24 (by decide) (hts _ mw_3_206) (fun _ h9 => h9) rfl dX9_fill_109 ?_
                      refine lv_iload_n hx hb dX9_fill_112 rfl (lv_at hl 2 rfl) ?_
                      refine va_iald hx hb hK hP 2 1 rfl rfl (show vp_in (nI j_11) 8 from vp_in_nI (by omega) (by omega)) dX9_fill_113 ?_
                      refine hx_top (y := (fcv j_11)) (congrArg _ (nI_clamp (by omega))) ?_
                      refine hx_top (y := (nI cv)) ecv ?_
                      refine lv_iload_n hx hb dX9_fill_114 rfl (lv_at hl 5 rfl) ?_
                      refine lv_icmp_ge (tgt := 133) hx hb dX9_fill_115 (by decide) (fun c_29 => ?_) (fun c_29 => ?_)
                      · have b_30 := gx_ge (X := ((cv : Nat) : Int)) (C := ((mm : Nat) : Int)) (nI_toInt (by omega)) (nI_toInt (by omega)) c_29
                        refine lv_iconst (v := 0) hx hb dX9_fill_133 (by decide) ?_
                        refine lv_istore (lv' := [(4, .int 0), (5, .int z_16), (3, .int (nI j_11)), (0, .ref h0), (1, .int us), (2, .int (nI mm))]) hx hb dX9_fill_134 hl (by decide) rfl (fun ls hl => ?_)
                        refine lv_iload_n hx hb dX9_fill_136 rfl (lv_at hl 2 rfl) ?_
                        refine lv_iload hx hb dX9_fill_137 (lv_at hl 0 rfl) ?_
                        refine lv_if_eq (tgt := 146) hx hb dX9_fill_139 (by decide) (fun _ => ?_) (fun h => absurd (by decide) h)
                        refine lv_iconst (v := (-1)) hx hb dX9_fill_146 (by decide) ?_
                        refine lv_iadd hx hb dX9_fill_147 ?_
                        refine lv_topi (fun z_31 ez_31 => ?_)
                        have fz_31 : Int32.toInt z_31 = ((j_11 : Nat) : Int) + (-1) := by rw [ez_31]; exact gx_add (X := ((j_11 : Nat) : Int)) (C := (-1)) (nI_toInt (by omega)) (by decide) (by omega) (by omega)
                        refine lv_istore_n (lv' := [(3, .int z_31), (4, .int 0), (5, .int z_16), (0, .ref h0), (1, .int us), (2, .int (nI mm))]) hx hb dX9_fill_148 rfl hl (by decide) rfl (fun ls hl => ?_)
                        refine lv_goto (tgt := 5) hx hb dX9_fill_149 (by decide) ?_
                        exact ih_2 z_31 j_11 0 j_11 fcv (by omega) (by omega) (col_down hcol (by omega) hag) (Or.inr ⟨rfl, by omega, by omega⟩) (rf_end (rf_l1 (show RfI (bt us) (kB fag) mm fcx j_11 1 from by rw [show j_11 = cm from (by omega)]; exact hrf)) (by omega) (t_yes (by omega) c_12) hag hbz (by have q9 := ga_uu hw_15 (ag_upd (Nat.le_refl _) ef_14); omega)) (by have q9 : muF fcv j_11 0 < muF fcx cm 1 := (by rw [show cm = j_11 from (by omega)]; exact mu_du (n := j_11) hag); omega) _ _ hP hD hS ls (lv_sub hl [1, 0, 3, 4, 5] rfl)
                      · have b_30 := gn_ge (X := ((cv : Nat) : Int)) (C := ((mm : Nat) : Int)) (nI_toInt (by omega)) (nI_toInt (by omega)) c_29
                        refine lv_aload_n hx hb dX9_fill_118 rfl (lv_at hl 3 rfl) ?_
                        refine va_get (D := (dC, dI)) (ci := 8) (v := .ref cl1) (C := RX9) (T := TX9) (N := 35) hx hb hts inB_9 hown hK hP 0 rfl rfl 24 (by decide) (hts _ mw_3_206) (fun _ h9 => h9) rfl dX9_fill_119 ?_
                        refine lv_iload_n hx hb dX9_fill_122 rfl (lv_at hl 2 rfl) ?_
                        refine va_iald hx hb hK hP 2 1 rfl rfl (show vp_in (nI j_11) 8 from vp_in_nI (by omega) (by omega)) dX9_fill_123 ?_
                        refine hx_top (y := (fcv j_11)) (congrArg _ (nI_clamp (by omega))) ?_
                        refine hx_top (y := (nI cv)) ecv ?_
                        refine lv_iload hx hb dX9_fill_124 (lv_at hl 0 rfl) ?_
                        refine lv_icmp_gt (tgt := 133) hx hb dX9_fill_126 (by decide) (fun c_32 => ?_) (fun c_32 => ?_)
                        · have b_33 := gx_gt (X := ((cv : Nat) : Int)) (C := (Int32.toInt z_16)) (nI_toInt (by omega)) rfl c_32
                          refine lv_iconst (v := 0) hx hb dX9_fill_133 (by decide) ?_
                          refine lv_istore (lv' := [(4, .int 0), (5, .int z_16), (3, .int (nI j_11)), (0, .ref h0), (1, .int us), (2, .int (nI mm))]) hx hb dX9_fill_134 hl (by decide) rfl (fun ls hl => ?_)
                          refine lv_iload_n hx hb dX9_fill_136 rfl (lv_at hl 2 rfl) ?_
                          refine lv_iload hx hb dX9_fill_137 (lv_at hl 0 rfl) ?_
                          refine lv_if_eq (tgt := 146) hx hb dX9_fill_139 (by decide) (fun _ => ?_) (fun h => absurd (by decide) h)
                          refine lv_iconst (v := (-1)) hx hb dX9_fill_146 (by decide) ?_
                          refine lv_iadd hx hb dX9_fill_147 ?_
                          refine lv_topi (fun z_34 ez_34 => ?_)
                          have fz_34 : Int32.toInt z_34 = ((j_11 : Nat) : Int) + (-1) := by rw [ez_34]; exact gx_add (X := ((j_11 : Nat) : Int)) (C := (-1)) (nI_toInt (by omega)) (by decide) (by omega) (by omega)
                          refine lv_istore_n (lv' := [(3, .int z_34), (4, .int 0), (5, .int z_16), (0, .ref h0), (1, .int us), (2, .int (nI mm))]) hx hb dX9_fill_148 rfl hl (by decide) rfl (fun ls hl => ?_)
                          refine lv_goto (tgt := 5) hx hb dX9_fill_149 (by decide) ?_
                          exact ih_2 z_34 j_11 0 j_11 fcv (by omega) (by omega) (col_down hcol (by omega) hag) (Or.inr ⟨rfl, by omega, by omega⟩) (rf_end (rf_l1 (show RfI (bt us) (kB fag) mm fcx j_11 1 from by rw [show j_11 = cm from (by omega)]; exact hrf)) (by omega) (t_yes (by omega) c_12) hag hbz (by have q9 := ga_uu hw_15 (ag_upd (Nat.le_refl _) ef_14); omega)) (by have q9 : muF fcv j_11 0 < muF fcx cm 1 := (by rw [show cm = j_11 from (by omega)]; exact mu_du (n := j_11) hag); omega) _ _ hP hD hS ls (lv_sub hl [1, 0, 3, 4, 5] rfl)
                        · have b_33 := gn_gt (X := ((cv : Nat) : Int)) (C := (Int32.toInt z_16)) (nI_toInt (by omega)) rfl c_32
                          refine lv_iconst (v := 1) hx hb dX9_fill_129 (by decide) ?_
                          refine lv_goto (tgt := 134) hx hb dX9_fill_130 (by decide) ?_
                          refine lv_istore (lv' := [(4, .int 1), (5, .int z_16), (3, .int (nI j_11)), (0, .ref h0), (1, .int us), (2, .int (nI mm))]) hx hb dX9_fill_134 hl (by decide) rfl (fun ls hl => ?_)
                          refine lv_iload_n hx hb dX9_fill_136 rfl (lv_at hl 2 rfl) ?_
                          refine lv_iload hx hb dX9_fill_137 (lv_at hl 0 rfl) ?_
                          refine lv_if_eq (tgt := 146) hx hb dX9_fill_139 (by decide) (fun h => absurd h (by decide)) (fun _ => ?_)
                          refine lv_iconst (v := 1) hx hb dX9_fill_142 (by decide) ?_
                          refine lv_goto (tgt := 147) hx hb dX9_fill_143 (by decide) ?_
                          refine lv_iadd hx hb dX9_fill_147 ?_
                          refine hx_top (y := (nI (j_11 + 1))) (nI_add j_11 1) ?_
                          refine lv_istore_n (lv' := [(3, .int (nI (j_11 + 1))), (4, .int 1), (5, .int z_16), (0, .ref h0), (1, .int us), (2, .int (nI mm))]) hx hb dX9_fill_148 rfl hl (by decide) rfl (fun ls hl => ?_)
                          refine lv_goto (tgt := 5) hx hb dX9_fill_149 (by decide) ?_
                          exact ih_2 (nI (j_11 + 1)) ((j_11 + 1) + 1) 1 (j_11 + 1) fcv (by rw [nI_toInt (by omega)]; omega) (by omega) (col_yes hcol (by omega) hag c_12 ecv (by omega) (by omega)) (Or.inl ⟨rfl, by omega⟩) (False.elim (by omega)) (by have q9 : muF fcv (j_11 + 1) 1 < muF fcx cm 1 := (by rw [show cm = j_11 from (by omega)]; exact mu_dd (n := j_11) (by omega) hag (by rw [ecv, wt_nI (by omega)]; omega)); omega) _ _ hP hD hS ls (lv_sub hl [1, 0, 3, 4, 5] rfl)
                    · have b_28 := gn_gt (X := ((cv : Nat) : Int)) (C := (Int32.toInt z_16)) (nI_toInt (by omega)) rfl c_27
                      refine lv_aload_n hx hb dX9_fill_87 rfl (lv_at hl 3 rfl) ?_
                      refine lv_iload_n hx hb dX9_fill_88 rfl (lv_at hl 2 rfl) ?_
                      have hPc := hP.sub (ws' := [(h0, .inr (8, [w0, w1, w2, w3, w4, w5, w6, w7, w8, w9, w10, w11, w12, w13, w14, w15, w16, w17, w18, w19, w20, w21, w22, .ref cg0, .ref cl1, w25, w26, w27, w28, w29, w30, w31, w32, w33, w34])), (cg0, .inl (kcg0, 8, .inl fag)), (cl1, .inl (kcl1, 8, .inl fcv))]) [0, 1, 2] rfl
                      have hDc := hD.sub (ws' := [(h0, .inr (8, [w0, w1, w2, w3, w4, w5, w6, w7, w8, w9, w10, w11, w12, w13, w14, w15, w16, w17, w18, w19, w20, w21, w22, .ref cg0, .ref cl1, w25, w26, w27, w28, w29, w30, w31, w32, w33, w34])), (cg0, .inl (kcg0, 8, .inl fag)), (cl1, .inl (kcl1, 8, .inl fcv))]) [0, 1, 2] (by decide) rfl
                      have hKc := hK.sub (tys' := [(kcg0, .int), (kcl1, .int)]) [0, 1] rfl
                      refine va_calli (va_runV (As := [.int (nI j_11)]) (rest := []) ⟨hx, hb, hml, hown, hts⟩ (m_isFree l dC dI H.size h0 (w0) (w1) (w2) (w3) (w4) (w5) (w6) (w7) (w8) (w9) (w10) (w11) (w12) (w13) (w14) (w15) (w16) (w17) (w18) (w19) (w20) (w21) (w22) cg0 cl1 (w25) (w26) (w27) (w28) (w29) (w30) (w31) (w32) (w33) (w34) kcg0 fag kcl1 fcv j_11 (by omega)) (cwV 1 hts (gV mw_4_218 mw_4_220 mw_0_34 mw_1_9 mw_4_221) rfl rfl rfl (by decide +kernel) ⟨Nat.le_of_ble_eq_true rfl, Nat.le_of_ble_eq_true rfl⟩) ⟨pcW_blind, va_recv hKc hPc (ci := 8) (q0 := 0) rfl rfl, pcW_at hPc hKc hDc hN⟩ rfl rfl hl.1 rfl (lv_room (Nat.le_of_ble_eq_true rfl)) dX9_fill_89 ⟨Nat.le_of_ble_eq_true rfl, Nat.le_of_ble_eq_true rfl⟩) hS (fun q h1 h2 => absurd h2 (Nat.not_le.mpr h1)) (fun q h => hA q (Nat.le_trans hS.1 h)) (fun r_35 u t H1 locs ht hvm hw_35 hB hz1 hk1 hS => ?_)
                      have hP := keepP hP hk1
                      clear hz1 hk1 hB ht hvm hPc hDc hKc
                      generalize H1 = H at hP hS ⊢
                      rcases hw_35 with ⟨rfl, p_36⟩ | ⟨rfl, p_36⟩
                      · skip
                        refine lv_if_ne (tgt := 108) hx hb dX9_fill_92 (by decide) (fun _ => ?_) (fun h => absurd h (by decide))
                        refine lv_aload_n hx hb dX9_fill_108 rfl (lv_at hl 3 rfl) ?_
                        refine va_get (D := (dC, dI)) (ci := 8) (v := .ref cl1) (C := RX9) (T := TX9) (N := 35) hx hb hts inB_9 hown hK hP 0 rfl rfl 24 (by decide) (hts _ mw_3_206) (fun _ h9 => h9) rfl dX9_fill_109 ?_
                        refine lv_iload_n hx hb dX9_fill_112 rfl (lv_at hl 2 rfl) ?_
                        refine va_iald hx hb hK hP 2 1 rfl rfl (show vp_in (nI j_11) 8 from vp_in_nI (by omega) (by omega)) dX9_fill_113 ?_
                        refine hx_top (y := (fcv j_11)) (congrArg _ (nI_clamp (by omega))) ?_
                        refine hx_top (y := (nI cv)) ecv ?_
                        refine lv_iload_n hx hb dX9_fill_114 rfl (lv_at hl 5 rfl) ?_
                        refine lv_icmp_ge (tgt := 133) hx hb dX9_fill_115 (by decide) (fun c_37 => ?_) (fun c_37 => ?_)
                        · have b_38 := gx_ge (X := ((cv : Nat) : Int)) (C := ((mm : Nat) : Int)) (nI_toInt (by omega)) (nI_toInt (by omega)) c_37
                          refine lv_iconst (v := 0) hx hb dX9_fill_133 (by decide) ?_
                          refine lv_istore (lv' := [(4, .int 0), (5, .int z_16), (3, .int (nI j_11)), (0, .ref h0), (1, .int us), (2, .int (nI mm))]) hx hb dX9_fill_134 hl (by decide) rfl (fun ls hl => ?_)
                          refine lv_iload_n hx hb dX9_fill_136 rfl (lv_at hl 2 rfl) ?_
                          refine lv_iload hx hb dX9_fill_137 (lv_at hl 0 rfl) ?_
                          refine lv_if_eq (tgt := 146) hx hb dX9_fill_139 (by decide) (fun _ => ?_) (fun h => absurd (by decide) h)
                          refine lv_iconst (v := (-1)) hx hb dX9_fill_146 (by decide) ?_
                          refine lv_iadd hx hb dX9_fill_147 ?_
                          refine lv_topi (fun z_39 ez_39 => ?_)
                          have fz_39 : Int32.toInt z_39 = ((j_11 : Nat) : Int) + (-1) := by rw [ez_39]; exact gx_add (X := ((j_11 : Nat) : Int)) (C := (-1)) (nI_toInt (by omega)) (by decide) (by omega) (by omega)
                          refine lv_istore_n (lv' := [(3, .int z_39), (4, .int 0), (5, .int z_16), (0, .ref h0), (1, .int us), (2, .int (nI mm))]) hx hb dX9_fill_148 rfl hl (by decide) rfl (fun ls hl => ?_)
                          refine lv_goto (tgt := 5) hx hb dX9_fill_149 (by decide) ?_
                          exact ih_2 z_39 j_11 0 j_11 fcv (by omega) (by omega) (col_down hcol (by omega) hag) (Or.inr ⟨rfl, by omega, by omega⟩) (rf_end (rf_l1 (show RfI (bt us) (kB fag) mm fcx j_11 1 from by rw [show j_11 = cm from (by omega)]; exact hrf)) (by omega) (t_yes (by omega) c_12) hag hbz (by have q9 := ga_uu hw_15 (ag_upd (Nat.le_refl _) ef_14); omega)) (by have q9 : muF fcv j_11 0 < muF fcx cm 1 := (by rw [show cm = j_11 from (by omega)]; exact mu_du (n := j_11) hag); omega) _ _ hP hD hS ls (lv_sub hl [1, 0, 3, 4, 5] rfl)
                        · have b_38 := gn_ge (X := ((cv : Nat) : Int)) (C := ((mm : Nat) : Int)) (nI_toInt (by omega)) (nI_toInt (by omega)) c_37
                          refine lv_aload_n hx hb dX9_fill_118 rfl (lv_at hl 3 rfl) ?_
                          refine va_get (D := (dC, dI)) (ci := 8) (v := .ref cl1) (C := RX9) (T := TX9) (N := 35) hx hb hts inB_9 hown hK hP 0 rfl rfl 24 (by decide) (hts _ mw_3_206) (fun _ h9 => h9) rfl dX9_fill_119 ?_
                          refine lv_iload_n hx hb dX9_fill_122 rfl (lv_at hl 2 rfl) ?_
                          refine va_iald hx hb hK hP 2 1 rfl rfl (show vp_in (nI j_11) 8 from vp_in_nI (by omega) (by omega)) dX9_fill_123 ?_
                          refine hx_top (y := (fcv j_11)) (congrArg _ (nI_clamp (by omega))) ?_
                          refine hx_top (y := (nI cv)) ecv ?_
                          refine lv_iload hx hb dX9_fill_124 (lv_at hl 0 rfl) ?_
                          refine lv_icmp_gt (tgt := 133) hx hb dX9_fill_126 (by decide) (fun c_40 => ?_) (fun c_40 => ?_)
                          · have b_41 := gx_gt (X := ((cv : Nat) : Int)) (C := (Int32.toInt z_16)) (nI_toInt (by omega)) rfl c_40
                            refine lv_iconst (v := 0) hx hb dX9_fill_133 (by decide) ?_
                            refine lv_istore (lv' := [(4, .int 0), (5, .int z_16), (3, .int (nI j_11)), (0, .ref h0), (1, .int us), (2, .int (nI mm))]) hx hb dX9_fill_134 hl (by decide) rfl (fun ls hl => ?_)
                            refine lv_iload_n hx hb dX9_fill_136 rfl (lv_at hl 2 rfl) ?_
                            refine lv_iload hx hb dX9_fill_137 (lv_at hl 0 rfl) ?_
                            refine lv_if_eq (tgt := 146) hx hb dX9_fill_139 (by decide) (fun _ => ?_) (fun h => absurd (by decide) h)
                            refine lv_iconst (v := (-1)) hx hb dX9_fill_146 (by decide) ?_
                            refine lv_iadd hx hb dX9_fill_147 ?_
                            refine lv_topi (fun z_42 ez_42 => ?_)
                            have fz_42 : Int32.toInt z_42 = ((j_11 : Nat) : Int) + (-1) := by rw [ez_42]; exact gx_add (X := ((j_11 : Nat) : Int)) (C := (-1)) (nI_toInt (by omega)) (by decide) (by omega) (by omega)
                            refine lv_istore_n (lv' := [(3, .int z_42), (4, .int 0), (5, .int z_16), (0, .ref h0), (1, .int us), (2, .int (nI mm))]) hx hb dX9_fill_148 rfl hl (by decide) rfl (fun ls hl => ?_)
                            refine lv_goto (tgt := 5) hx hb dX9_fill_149 (by decide) ?_
                            exact ih_2 z_42 j_11 0 j_11 fcv (by omega) (by omega) (col_down hcol (by omega) hag) (Or.inr ⟨rfl, by omega, by omega⟩) (rf_end (rf_l1 (show RfI (bt us) (kB fag) mm fcx j_11 1 from by rw [show j_11 = cm from (by omega)]; exact hrf)) (by omega) (t_yes (by omega) c_12) hag hbz (by have q9 := ga_uu hw_15 (ag_upd (Nat.le_refl _) ef_14); omega)) (by have q9 : muF fcv j_11 0 < muF fcx cm 1 := (by rw [show cm = j_11 from (by omega)]; exact mu_du (n := j_11) hag); omega) _ _ hP hD hS ls (lv_sub hl [1, 0, 3, 4, 5] rfl)
                          · have b_41 := gn_gt (X := ((cv : Nat) : Int)) (C := (Int32.toInt z_16)) (nI_toInt (by omega)) rfl c_40
                            refine lv_iconst (v := 1) hx hb dX9_fill_129 (by decide) ?_
                            refine lv_goto (tgt := 134) hx hb dX9_fill_130 (by decide) ?_
                            refine lv_istore (lv' := [(4, .int 1), (5, .int z_16), (3, .int (nI j_11)), (0, .ref h0), (1, .int us), (2, .int (nI mm))]) hx hb dX9_fill_134 hl (by decide) rfl (fun ls hl => ?_)
                            refine lv_iload_n hx hb dX9_fill_136 rfl (lv_at hl 2 rfl) ?_
                            refine lv_iload hx hb dX9_fill_137 (lv_at hl 0 rfl) ?_
                            refine lv_if_eq (tgt := 146) hx hb dX9_fill_139 (by decide) (fun h => absurd h (by decide)) (fun _ => ?_)
                            refine lv_iconst (v := 1) hx hb dX9_fill_142 (by decide) ?_
                            refine lv_goto (tgt := 147) hx hb dX9_fill_143 (by decide) ?_
                            refine lv_iadd hx hb dX9_fill_147 ?_
                            refine hx_top (y := (nI (j_11 + 1))) (nI_add j_11 1) ?_
                            refine lv_istore_n (lv' := [(3, .int (nI (j_11 + 1))), (4, .int 1), (5, .int z_16), (0, .ref h0), (1, .int us), (2, .int (nI mm))]) hx hb dX9_fill_148 rfl hl (by decide) rfl (fun ls hl => ?_)
                            refine lv_goto (tgt := 5) hx hb dX9_fill_149 (by decide) ?_
                            exact ih_2 (nI (j_11 + 1)) ((j_11 + 1) + 1) 1 (j_11 + 1) fcv (by rw [nI_toInt (by omega)]; omega) (by omega) (col_yes hcol (by omega) hag c_12 ecv (by omega) (by omega)) (Or.inl ⟨rfl, by omega⟩) (rf_ok (rf_l1 (show RfI (bt us) (kB fag) mm fcx j_11 1 from by rw [show j_11 = cm from (by omega)]; exact hrf)) (by omega) hmm (t_yes (by omega) c_12) hag ecv (by omega) (by have q9 := ga_uu hw_15 (ag_upd (Nat.le_refl _) ef_14); omega) p_36 hbz) (by have q9 : muF fcv (j_11 + 1) 1 < muF fcx cm 1 := (by rw [show cm = j_11 from (by omega)]; exact mu_dd (n := j_11) (by omega) hag (by rw [ecv, wt_nI (by omega)]; omega)); omega) _ _ hP hD hS ls (lv_sub hl [1, 0, 3, 4, 5] rfl)
                      · skip
                        refine lv_if_ne (tgt := 108) hx hb dX9_fill_92 (by decide) (fun h => absurd h (by decide)) (fun _ => ?_)
                        refine lv_aload_n hx hb dX9_fill_95 rfl (lv_at hl 3 rfl) ?_
                        refine va_get (D := (dC, dI)) (ci := 8) (v := .ref cl1) (C := RX9) (T := TX9) (N := 35) hx hb hts inB_9 hown hK hP 0 rfl rfl 24 (by decide) (hts _ mw_3_206) (fun _ h9 => h9) rfl dX9_fill_96 ?_
                        refine lv_iload_n hx hb dX9_fill_99 rfl (lv_at hl 2 rfl) ?_
                        refine lv_dup2_11 hx hb dX9_fill_100 rfl rfl ?_
                        refine va_iald hx hb hK hP 2 1 rfl rfl (show vp_in (nI j_11) 8 from vp_in_nI (by omega) (by omega)) dX9_fill_101 ?_
                        refine hx_top (y := (fcv j_11)) (congrArg _ (nI_clamp (by omega))) ?_
                        refine hx_top (y := (nI cv)) ecv ?_
                        refine lv_iconst (v := 1) hx hb dX9_fill_102 (by decide) ?_
                        refine lv_iadd hx hb dX9_fill_103 ?_
                        refine hx_top (y := (nI (cv + 1))) (nI_add cv 1) ?_
                        refine va_iast hx hb hK hP hD hS 2 1 rfl rfl (show vp_in (nI j_11) 8 from vp_in_nI (by omega) (by omega)) dX9_fill_104 (fun H locs hP hD hS => ?_)
                        obtain ⟨f_43, ef_43⟩ : ∃ g : Nat → Int32, g = upd fcv (Int32.toNatClampNeg (nI j_11)) (nI (cv + 1)) := ⟨_, rfl⟩
                        rw [← ef_43] at hP hD
                        have ef_43 : f_43 = upd fcv j_11 (nI (cv + 1)) := by rw [ef_43, nI_clamp (by omega)]
                        have hP : va_P (dC, dI) vwCl [(h0, .inr (8, [w0, w1, w2, w3, w4, w5, w6, w7, w8, w9, w10, w11, w12, w13, w14, w15, w16, w17, w18, w19, w20, w21, w22, .ref cg0, .ref cl1, w25, w26, w27, w28, w29, w30, w31, w32, w33, w34])), (cg0, .inl (kcg0, 8, .inl fag)), (cl1, .inl (kcl1, 8, .inl f_43))] H := hP
                        have hD : va_D A [(h0, .inr (8, [w0, w1, w2, w3, w4, w5, w6, w7, w8, w9, w10, w11, w12, w13, w14, w15, w16, w17, w18, w19, w20, w21, w22, .ref cg0, .ref cl1, w25, w26, w27, w28, w29, w30, w31, w32, w33, w34])), (cg0, .inl (kcg0, 8, .inl fag)), (cl1, .inl (kcl1, 8, .inl f_43))] := hD
                        refine lv_goto (tgt := 66) hx hb dX9_fill_105 (by decide) ?_
                        exact ih_18 (cv + 1) f_43 (by rw [ef_43]; exact pk_us) (by omega) (ag_tr hag (ag_upd (Nat.le_refl _) ef_43)) (by omega) (bz_st hbz hag ecv p_36) (by have q := fr_lt hga2 (ex_w p_36) ecv (by omega); omega) (by omega) _ _ hP hD hS ls (lv_sub hl [0, 1, 2, 3, 4, 5] rfl)
              exact key_17 ((9 - 0) + 1) 0 f_14 (by rw [ef_14]; exact pk_us) (by omega) (ag_upd (Nat.le_refl _) ef_14) (by omega) bz_0 (by omega) (Nat.lt_succ_self _) _ _ hP hD hS ls (lv_sub hl [0, 1, 2, 3, 4, 5] rfl)
            · have b_13 := gn_ne (X := (Int32.toInt ((us >>> ((nI j_11) &&& 31)) &&& 1))) (C := 0) rfl (by decide) c_12
              refine lv_aload_n hx hb dX9_fill_23 rfl (lv_at hl 2 rfl) ?_
              refine va_get (D := (dC, dI)) (ci := 8) (v := .ref cl1) (C := RX9) (T := TX9) (N := 35) hx hb hts inB_9 hown hK hP 0 rfl rfl 24 (by decide) (hts _ mw_3_206) (fun _ h9 => h9) rfl dX9_fill_24 ?_
              refine lv_iload_n hx hb dX9_fill_27 rfl (lv_at hl 1 rfl) ?_
              refine lv_bipush (v := (-6)) hx hb dX9_fill_28 (by decide) ?_
              refine va_iast hx hb hK hP hD hS 2 1 rfl rfl (show vp_in (nI j_11) 8 from vp_in_nI (by omega) (by omega)) dX9_fill_30 (fun H locs hP hD hS => ?_)
              obtain ⟨f_44, ef_44⟩ : ∃ g : Nat → Int32, g = upd fcx (Int32.toNatClampNeg (nI j_11)) (-6) := ⟨_, rfl⟩
              rw [← ef_44] at hP hD
              have ef_44 : f_44 = upd fcx j_11 (-6) := by rw [ef_44, nI_clamp (by omega)]
              have hP : va_P (dC, dI) vwCl [(h0, .inr (8, [w0, w1, w2, w3, w4, w5, w6, w7, w8, w9, w10, w11, w12, w13, w14, w15, w16, w17, w18, w19, w20, w21, w22, .ref cg0, .ref cl1, w25, w26, w27, w28, w29, w30, w31, w32, w33, w34])), (cg0, .inl (kcg0, 8, .inl fag)), (cl1, .inl (kcl1, 8, .inl f_44))] H := hP
              have hD : va_D A [(h0, .inr (8, [w0, w1, w2, w3, w4, w5, w6, w7, w8, w9, w10, w11, w12, w13, w14, w15, w16, w17, w18, w19, w20, w21, w22, .ref cg0, .ref cl1, w25, w26, w27, w28, w29, w30, w31, w32, w33, w34])), (cg0, .inl (kcg0, 8, .inl fag)), (cl1, .inl (kcl1, 8, .inl f_44))] := hD
              refine lv_goto (tgt := 136) hx hb dX9_fill_31 (by decide) ?_
              refine lv_iload_n hx hb dX9_fill_136 rfl (lv_at hl 1 rfl) ?_
              refine lv_iload hx hb dX9_fill_137 (lv_at hl 0 rfl) ?_
              refine lv_if_eq (tgt := 146) hx hb dX9_fill_139 (by decide) (fun h => absurd h (by decide)) (fun _ => ?_)
              refine lv_iconst (v := 1) hx hb dX9_fill_142 (by decide) ?_
              refine lv_goto (tgt := 147) hx hb dX9_fill_143 (by decide) ?_
              refine lv_iadd hx hb dX9_fill_147 ?_
              refine hx_top (y := (nI (j_11 + 1))) (nI_add j_11 1) ?_
              refine lv_istore_n (lv' := [(3, .int (nI (j_11 + 1))), (4, .int 1), (0, .ref h0), (1, .int us), (2, .int (nI mm))]) hx hb dX9_fill_148 rfl hl (by decide) rfl (fun ls hl => ?_)
              refine lv_goto (tgt := 5) hx hb dX9_fill_149 (by decide) ?_
              exact ih_2 (nI (j_11 + 1)) ((j_11 + 1) + 1) 1 (j_11 + 1) f_44 (by rw [nI_toInt (by omega)]; omega) (by omega) (col_no hcol (by omega) (ag_upd (Nat.le_refl _) ef_44) (fun q => q c_12) (by rw [ef_44]; exact pk_us)) (Or.inl ⟨rfl, by omega⟩) (rf_un1 (show RfI (bt us) (kB fag) mm fcx j_11 1 from by rw [show j_11 = cm from (by omega)]; exact hrf) (by omega) (t_0 (by omega) c_12) (ag_upd (Nat.le_refl _) ef_44) (by rw [ef_44]; exact pk_us)) (by have q9 : muF f_44 (j_11 + 1) 1 < muF fcx cm 1 := (by rw [show cm = j_11 from (by omega)]; exact mu_dd (n := j_11) (by omega) (ag_upd (Nat.le_refl _) ef_44) (by rw [show f_44 j_11 = -6 from by rw [ef_44]; exact pk_us, wt_m6]; omega)); omega) _ _ hP hD hS ls (lv_sub hl [1, 0, 2, 3, 4] rfl)
      · skip
        refine lv_iload_n hx hb dX9_fill_5 rfl (lv_at hl 1 rfl) ?_
        refine lv_if_lt (tgt := 152) hx hb dX9_fill_6 (by decide) (fun c_45 => ?_) (fun c_45 => ?_)
        · have b_46 := gx_lt (X := (Int32.toInt nv)) (C := 0) rfl (by decide) c_45
          refine lv_iload_n hx hb dX9_fill_152 rfl (lv_at hl 1 rfl) ?_
          refine lv_bipush (v := 8) hx hb dX9_fill_153 (by decide) ?_
          refine lv_icmp_ne (tgt := 162) hx hb dX9_fill_155 (by decide) (fun c_47 => ?_) (fun h => absurd (gn_ne (X := (Int32.toInt nv)) (C := 8) rfl (by decide) h) (by omega))
          have b_48 := gx_ne (X := (Int32.toInt nv)) (C := 8) rfl (by decide) c_47
          refine lv_iconst (v := 0) hx hb dX9_fill_162 (by decide) ?_
          have hP9 := hP.sub (ws' := [(h0, .inr (8, [w0, w1, w2, w3, w4, w5, w6, w7, w8, w9, w10, w11, w12, w13, w14, w15, w16, w17, w18, w19, w20, w21, w22, .ref cg0, .ref cl1, w25, w26, w27, w28, w29, w30, w31, w32, w33, w34])), (cg0, .inl (kcg0, 8, .inl fag)), (cl1, .inl (kcl1, 8, .inl fcx))]) [0, 1, 2] rfl
          have hD9 := hD.sub (ws' := [(h0, .inr (8, [w0, w1, w2, w3, w4, w5, w6, w7, w8, w9, w10, w11, w12, w13, w14, w15, w16, w17, w18, w19, w20, w21, w22, .ref cg0, .ref cl1, w25, w26, w27, w28, w29, w30, w31, w32, w33, w34])), (cg0, .inl (kcg0, 8, .inl fag)), (cl1, .inl (kcl1, 8, .inl fcx))]) [0, 1, 2] (by decide) rfl
          have hK9 := hK.sub (tys' := [(kcg0, .int), (kcl1, .int)]) [0, 1] rfl
          exact W.zret (v := 0) hx hb hr (by decide) (fun t ht hW => ⟨⟨0, (), rfl, (Or.inr ⟨rfl, rf_none hrf (by omega)⟩), fcx, (fun q9 => absurd q9 (rf_none hrf (by omega))), by rw [ht]; exact hP9, va_K.moved hW.alike hK9, hD9⟩, hS.F ht⟩) hS.2.2 dX9_fill_163
        · have b_46 := gn_lt (X := (Int32.toInt nv)) (C := 0) rfl (by decide) c_45
          refine lv_iload_n hx hb dX9_fill_9 rfl (lv_at hl 1 rfl) ?_
          refine lv_bipush (v := 8) hx hb dX9_fill_10 (by decide) ?_
          refine lv_icmp_ge (tgt := 152) hx hb dX9_fill_12 (by decide) (fun c_49 => ?_) (fun c_49 => ?_)
          · have b_50 := gx_ge (X := (Int32.toInt nv)) (C := 8) rfl (by decide) c_49
            refine lv_iload_n hx hb dX9_fill_152 rfl (lv_at hl 1 rfl) ?_
            refine lv_bipush (v := 8) hx hb dX9_fill_153 (by decide) ?_
            refine lv_icmp_ne (tgt := 162) hx hb dX9_fill_155 (by decide) (fun c_51 => ?_) (fun c_51 => ?_)
            · have b_52 := gx_ne (X := (Int32.toInt nv)) (C := 8) rfl (by decide) c_51
              refine lv_iconst (v := 0) hx hb dX9_fill_162 (by decide) ?_
              have hP9 := hP.sub (ws' := [(h0, .inr (8, [w0, w1, w2, w3, w4, w5, w6, w7, w8, w9, w10, w11, w12, w13, w14, w15, w16, w17, w18, w19, w20, w21, w22, .ref cg0, .ref cl1, w25, w26, w27, w28, w29, w30, w31, w32, w33, w34])), (cg0, .inl (kcg0, 8, .inl fag)), (cl1, .inl (kcl1, 8, .inl fcx))]) [0, 1, 2] rfl
              have hD9 := hD.sub (ws' := [(h0, .inr (8, [w0, w1, w2, w3, w4, w5, w6, w7, w8, w9, w10, w11, w12, w13, w14, w15, w16, w17, w18, w19, w20, w21, w22, .ref cg0, .ref cl1, w25, w26, w27, w28, w29, w30, w31, w32, w33, w34])), (cg0, .inl (kcg0, 8, .inl fag)), (cl1, .inl (kcl1, 8, .inl fcx))]) [0, 1, 2] (by decide) rfl
              have hK9 := hK.sub (tys' := [(kcg0, .int), (kcl1, .int)]) [0, 1] rfl
              exact W.zret (v := 0) hx hb hr (by decide) (fun t ht hW => ⟨⟨0, (), rfl, (Or.inr ⟨rfl, rf_none hrf (by omega)⟩), fcx, (fun q9 => absurd q9 (rf_none hrf (by omega))), by rw [ht]; exact hP9, va_K.moved hW.alike hK9, hD9⟩, hS.F ht⟩) hS.2.2 dX9_fill_163
            · have b_52 := gn_ne (X := (Int32.toInt nv)) (C := 8) rfl (by decide) c_51
              refine lv_iconst (v := 1) hx hb dX9_fill_158 (by decide) ?_
              refine lv_goto (tgt := 163) hx hb dX9_fill_159 (by decide) ?_
              have hP9 := hP.sub (ws' := [(h0, .inr (8, [w0, w1, w2, w3, w4, w5, w6, w7, w8, w9, w10, w11, w12, w13, w14, w15, w16, w17, w18, w19, w20, w21, w22, .ref cg0, .ref cl1, w25, w26, w27, w28, w29, w30, w31, w32, w33, w34])), (cg0, .inl (kcg0, 8, .inl fag)), (cl1, .inl (kcl1, 8, .inl fcx))]) [0, 1, 2] rfl
              have hD9 := hD.sub (ws' := [(h0, .inr (8, [w0, w1, w2, w3, w4, w5, w6, w7, w8, w9, w10, w11, w12, w13, w14, w15, w16, w17, w18, w19, w20, w21, w22, .ref cg0, .ref cl1, w25, w26, w27, w28, w29, w30, w31, w32, w33, w34])), (cg0, .inl (kcg0, 8, .inl fag)), (cl1, .inl (kcl1, 8, .inl fcx))]) [0, 1, 2] (by decide) rfl
              have hK9 := hK.sub (tys' := [(kcg0, .int), (kcl1, .int)]) [0, 1] rfl
              exact W.zret (v := 1) hx hb hr (by decide) (fun t ht hW => ⟨⟨1, (), rfl, (False.elim (by omega)), fcx, (False.elim (by omega)), by rw [ht]; exact hP9, va_K.moved hW.alike hK9, hD9⟩, hS.F ht⟩) hS.2.2 dX9_fill_163
          · have b_50 := gn_ge (X := (Int32.toInt nv)) (C := 8) rfl (by decide) c_49
            obtain ⟨j_53, tj_53, ej_53⟩ := fx_nat (x := nv) (by omega)
            subst ej_53
            have yj_53 : Int32.toInt (nI j_53) = (j_53 : Int) := nI_toInt tj_53
            refine lv_iload_n hx hb dX9_fill_15 rfl (lv_at hl 3 rfl) ?_
            refine lv_iload_n hx hb dX9_fill_16 rfl (lv_at hl 1 rfl) ?_
            refine lv_ishr hx hb dX9_fill_17 ?_
            refine lv_iconst (v := 1) hx hb dX9_fill_18 (by decide) ?_
            refine lv_iand hx hb dX9_fill_19 ?_
            refine lv_if_ne (tgt := 34) hx hb dX9_fill_20 (by decide) (fun c_54 => ?_) (fun c_54 => ?_)
            · have b_55 := gx_ne (X := (Int32.toInt ((us >>> ((nI j_53) &&& 31)) &&& 1))) (C := 0) rfl (by decide) c_54
              refine lv_aload_n hx hb dX9_fill_34 rfl (lv_at hl 2 rfl) ?_
              refine va_get (D := (dC, dI)) (ci := 8) (v := .ref cl1) (C := RX9) (T := TX9) (N := 35) hx hb hts inB_9 hown hK hP 0 rfl rfl 24 (by decide) (hts _ mw_3_206) (fun _ h9 => h9) rfl dX9_fill_35 ?_
              refine lv_iload_n hx hb dX9_fill_38 rfl (lv_at hl 1 rfl) ?_
              refine lv_iload hx hb dX9_fill_39 (lv_at hl 0 rfl) ?_
              refine lv_if_eq (tgt := 48) hx hb dX9_fill_41 (by decide) (fun _ => ?_) (fun h => absurd (by decide) h)
              refine lv_aload_n hx hb dX9_fill_48 rfl (lv_at hl 2 rfl) ?_
              refine va_get (D := (dC, dI)) (ci := 8) (v := .ref cl1) (C := RX9) (T := TX9) (N := 35) hx hb hts inB_9 hown hK hP 0 rfl rfl 24 (by decide) (hts _ mw_3_206) (fun _ h9 => h9) rfl dX9_fill_49 ?_
              refine lv_iload_n hx hb dX9_fill_52 rfl (lv_at hl 1 rfl) ?_
              refine va_iald hx hb hK hP 2 1 rfl rfl (show vp_in (nI j_53) 8 from vp_in_nI (by omega) (by omega)) dX9_fill_53 ?_
              refine hx_top (y := (fcx j_53)) (congrArg _ (nI_clamp (by omega))) ?_
              obtain ⟨c9, hc9, hc9j, ec9⟩ := (hcol j_53 (by omega)).1 c_54
              refine hx_top (y := (nI c9)) ec9 ?_
              refine lv_iconst (v := 1) hx hb dX9_fill_54 (by decide) ?_
              refine lv_iadd hx hb dX9_fill_55 ?_
              refine hx_top (y := (nI (c9 + 1))) (nI_add c9 1) ?_
              refine va_iast hx hb hK hP hD hS 2 1 rfl rfl (show vp_in (nI j_53) 8 from vp_in_nI (by omega) (by omega)) dX9_fill_56 (fun H locs hP hD hS => ?_)
              obtain ⟨f_56, ef_56⟩ : ∃ g : Nat → Int32, g = upd fcx (Int32.toNatClampNeg (nI j_53)) (nI (c9 + 1)) := ⟨_, rfl⟩
              rw [← ef_56] at hP hD
              have ef_56 : f_56 = upd fcx j_53 (nI (c9 + 1)) := by rw [ef_56, nI_clamp (by omega)]
              have hP : va_P (dC, dI) vwCl [(h0, .inr (8, [w0, w1, w2, w3, w4, w5, w6, w7, w8, w9, w10, w11, w12, w13, w14, w15, w16, w17, w18, w19, w20, w21, w22, .ref cg0, .ref cl1, w25, w26, w27, w28, w29, w30, w31, w32, w33, w34])), (cg0, .inl (kcg0, 8, .inl fag)), (cl1, .inl (kcl1, 8, .inl f_56))] H := hP
              have hD : va_D A [(h0, .inr (8, [w0, w1, w2, w3, w4, w5, w6, w7, w8, w9, w10, w11, w12, w13, w14, w15, w16, w17, w18, w19, w20, w21, w22, .ref cg0, .ref cl1, w25, w26, w27, w28, w29, w30, w31, w32, w33, w34])), (cg0, .inl (kcg0, 8, .inl fag)), (cl1, .inl (kcl1, 8, .inl f_56))] := hD
              refine lv_aload_n hx hb dX9_fill_57 rfl (lv_at hl 2 rfl) ?_
              refine lv_iload_n hx hb dX9_fill_58 rfl (lv_at hl 1 rfl) ?_
              have hPc := hP.sub (ws' := [(h0, .inr (8, [w0, w1, w2, w3, w4, w5, w6, w7, w8, w9, w10, w11, w12, w13, w14, w15, w16, w17, w18, w19, w20, w21, w22, .ref cg0, .ref cl1, w25, w26, w27, w28, w29, w30, w31, w32, w33, w34])), (cl1, .inl (kcl1, 8, .inl f_56))]) [0, 2] rfl
              have hDc := hD.sub (ws' := [(h0, .inr (8, [w0, w1, w2, w3, w4, w5, w6, w7, w8, w9, w10, w11, w12, w13, w14, w15, w16, w17, w18, w19, w20, w21, w22, .ref cg0, .ref cl1, w25, w26, w27, w28, w29, w30, w31, w32, w33, w34])), (cl1, .inl (kcl1, 8, .inl f_56))]) [0, 2] (by decide) rfl
              have hKc := hK.sub (tys' := [(kcl1, .int)]) [1] rfl
              refine va_calli (va_runV (As := [.int (nI j_53)]) (rest := []) ⟨hx, hb, hml, hown, hts⟩ (m_greatest l dC dI H.size h0 (w0) (w1) (w2) (w3) (w4) (w5) (w6) (w7) (w8) (w9) (w10) (w11) (w12) (w13) (w14) (w15) (w16) (w17) (w18) (w19) (w20) (w21) (w22) (.ref cg0) cl1 (w25) (w26) (w27) (w28) (w29) (w30) (w31) (w32) (w33) (w34) kcl1 f_56 j_53 (by omega)) (cwV 1 hts (gV mw_4_214 mw_4_216 mw_0_33 mw_1_9 mw_4_217) rfl rfl rfl (by decide +kernel) ⟨Nat.le_of_ble_eq_true rfl, Nat.le_of_ble_eq_true rfl⟩) ⟨pcW_blind, va_recv hKc hPc (ci := 8) (q0 := 0) rfl rfl, pcW_at hPc hKc hDc hN⟩ rfl rfl hl.1 rfl (lv_room (Nat.le_of_ble_eq_true rfl)) dX9_fill_59 ⟨Nat.le_of_ble_eq_true rfl, Nat.le_of_ble_eq_true rfl⟩) hS (fun q h1 h2 => absurd h2 (Nat.not_le.mpr h1)) (fun q h => hA q (Nat.le_trans hS.1 h)) (fun r_57 u t H1 locs ht hvm hw_57 hB hz1 hk1 hS => ?_)
              have hP := keepP hP hk1
              clear hz1 hk1 hB ht hvm hPc hDc hKc
              generalize H1 = H at hP hS ⊢
              have hgl := ga_le hcol (by omega) (ag_upd (Nat.le_refl _) ef_56) hw_57
              have hg1 := hw_57.1
              refine lv_iconst (v := 1) hx hb dX9_fill_62 (by decide) ?_
              refine lv_iadd hx hb dX9_fill_63 ?_
              refine lv_topi (fun z_58 ez_58 => ?_)
              have fz_58 : Int32.toInt z_58 = (Int32.toInt r_57) + 1 := by rw [ez_58]; exact gx_add (X := (Int32.toInt r_57)) (C := 1) rfl (by decide) (by omega) (by omega)
              refine lv_istore (lv' := [(5, .int z_58), (4, .int 0), (3, .int (nI j_53)), (0, .ref h0), (1, .int us), (2, .int (nI mm))]) hx hb dX9_fill_64 hl (by decide) rfl (fun ls hl => ?_)
              have key_59 : ∀ (fu : Nat) (cv : Nat) (fcv : Nat → Int32), (fcv j_53 = nI cv) → (cv ≤ 9) → (∀ i, i < j_53 → fcv i = fcx i) → ((c9 + 1) ≤ cv) → (BzP (kB fag) fcx j_53 (c9 + 1) cv) → 9 - cv < fu → ∀ (H : Heap) (locs : List Loc), va_P (dC, dI) vwCl [(h0, .inr (8, [w0, w1, w2, w3, w4, w5, w6, w7, w8, w9, w10, w11, w12, w13, w14, w15, w16, w17, w18, w19, w20, w21, w22, .ref cg0, .ref cl1, w25, w26, w27, w28, w29, w30, w31, w32, w33, w34])), (cg0, .inl (kcg0, 8, .inl fag)), (cl1, .inl (kcl1, 8, .inl fcv))] H → va_D A [(h0, .inr (8, [w0, w1, w2, w3, w4, w5, w6, w7, w8, w9, w10, w11, w12, w13, w14, w15, w16, w17, w18, w19, w20, w21, w22, .ref cg0, .ref cl1, w25, w26, w27, w28, w29, w30, w31, w32, w33, w34])), (cg0, .inl (kcg0, 8, .inl fag)), (cl1, .inl (kcl1, 8, .inl fcv))] → va_S A s.heap H locs → ∀ (ls : Array Slot), lv_has ls 6 [(5, .int z_58), (4, .int 0), (3, .int (nI j_53)), (0, .ref h0), (1, .int us), (2, .int (nI mm))] → W p l e (headSpec (wq yX9_fill cX9_fill 6 (some .boolean)) ({ frames := 1, cells := 0, slots := 0, locals := 23 })).room s m (([.ref h0, .int us, .int (nI mm)] : List Value)).toArray below meth c H locs 0 0 (MQ below (va_Qi (fun (r : Int32) (_ : Unit) => (r = 1 ∧ cE0 (bt us) (kB fag) mm) ∨ (r = 0 ∧ ¬ cE0 (bt us) (kB fag) mm)) (fun _ t => ∃ (fcl2 : Nat → Int32), (cE0 (bt us) (kB fag) mm → cL0 (bt us) (kB fag) mm fcl2) ∧ va_P (dC, dI) vwCl [(h0, .inr (8, [w0, w1, w2, w3, w4, w5, w6, w7, w8, w9, w10, w11, w12, w13, w14, w15, w16, w17, w18, w19, w20, w21, w22, .ref cg0, .ref cl1, w25, w26, w27, w28, w29, w30, w31, w32, w33, w34])), (cg0, .inl (kcg0, 8, .inl fag)), (cl1, .inl (kcl1, 8, .inl fcl2))] t.heap ∧ va_K (dC, dI) vwCl [(kcg0, .int), (kcl1, .int)] t ∧ va_D A [(h0, .inr (8, [w0, w1, w2, w3, w4, w5, w6, w7, w8, w9, w10, w11, w12, w13, w14, w15, w16, w17, w18, w19, w20, w21, w22, .ref cg0, .ref cl1, w25, w26, w27, w28, w29, w30, w31, w32, w33, w34])), (cg0, .inl (kcg0, 8, .inl fag)), (cl1, .inl (kcl1, 8, .inl fcl2))]) A) (([.ref h0, .int us, .int (nI mm)] : List Value)).toArray s 0 0 A) (F0 m 66 ls []) := by
                intro fu
                induction fu with
                | zero => intro cv fcv ecv hcv9 hag hlow hbz hme; exact absurd hme (Nat.not_lt_zero _)
                | succ fu ih_60 =>
                  intro cv fcv ecv hcv9 hag hlow hbz hme H locs hP hD hS ls hl
                  have hga2 : GaP fcv j_53 r_57 := ga_cong (ga_cong hw_57 (fun i hi => (ag_upd (Nat.le_refl _) ef_56 i hi).symm)) hag
                  refine lv_aload_n hx hb dX9_fill_66 rfl (lv_at hl 3 rfl) ?_
                  refine va_get (D := (dC, dI)) (ci := 8) (v := .ref cl1) (C := RX9) (T := TX9) (N := 35) hx hb hts inB_9 hown hK hP 0 rfl rfl 24 (by decide) (hts _ mw_3_206) (fun _ h9 => h9) rfl dX9_fill_67 ?_
                  refine lv_iload_n hx hb dX9_fill_70 rfl (lv_at hl 2 rfl) ?_
                  refine va_iald hx hb hK hP 2 1 rfl rfl (show vp_in (nI j_53) 8 from vp_in_nI (by omega) (by omega)) dX9_fill_71 ?_
                  refine hx_top (y := (fcv j_53)) (congrArg _ (nI_clamp (by omega))) ?_
                  refine hx_top (y := (nI cv)) ecv ?_
                  refine lv_iload_n hx hb dX9_fill_72 rfl (lv_at hl 5 rfl) ?_
                  refine lv_icmp_ge (tgt := 108) hx hb dX9_fill_73 (by decide) (fun c_61 => ?_) (fun c_61 => ?_)
                  · have b_62 := gx_ge (X := ((cv : Nat) : Int)) (C := ((mm : Nat) : Int)) (nI_toInt (by omega)) (nI_toInt (by omega)) c_61
                    refine lv_aload_n hx hb dX9_fill_108 rfl (lv_at hl 3 rfl) ?_
                    refine va_get (D := (dC, dI)) (ci := 8) (v := .ref cl1) (C := RX9) (T := TX9) (N := 35) hx hb hts inB_9 hown hK hP 0 rfl rfl 24 (by decide) (hts _ mw_3_206) (fun _ h9 => h9) rfl dX9_fill_109 ?_
                    refine lv_iload_n hx hb dX9_fill_112 rfl (lv_at hl 2 rfl) ?_
                    refine va_iald hx hb hK hP 2 1 rfl rfl (show vp_in (nI j_53) 8 from vp_in_nI (by omega) (by omega)) dX9_fill_113 ?_
                    refine hx_top (y := (fcv j_53)) (congrArg _ (nI_clamp (by omega))) ?_
                    refine hx_top (y := (nI cv)) ecv ?_
                    refine lv_iload_n hx hb dX9_fill_114 rfl (lv_at hl 5 rfl) ?_
                    refine lv_icmp_ge (tgt := 133) hx hb dX9_fill_115 (by decide) (fun c_63 => ?_) (fun c_63 => ?_)
                    · have b_64 := gx_ge (X := ((cv : Nat) : Int)) (C := ((mm : Nat) : Int)) (nI_toInt (by omega)) (nI_toInt (by omega)) c_63
                      refine lv_iconst (v := 0) hx hb dX9_fill_133 (by decide) ?_
                      refine lv_istore (lv' := [(4, .int 0), (5, .int z_58), (3, .int (nI j_53)), (0, .ref h0), (1, .int us), (2, .int (nI mm))]) hx hb dX9_fill_134 hl (by decide) rfl (fun ls hl => ?_)
                      refine lv_iload_n hx hb dX9_fill_136 rfl (lv_at hl 2 rfl) ?_
                      refine lv_iload hx hb dX9_fill_137 (lv_at hl 0 rfl) ?_
                      refine lv_if_eq (tgt := 146) hx hb dX9_fill_139 (by decide) (fun _ => ?_) (fun h => absurd (by decide) h)
                      refine lv_iconst (v := (-1)) hx hb dX9_fill_146 (by decide) ?_
                      refine lv_iadd hx hb dX9_fill_147 ?_
                      refine lv_topi (fun z_65 ez_65 => ?_)
                      have fz_65 : Int32.toInt z_65 = ((j_53 : Nat) : Int) + (-1) := by rw [ez_65]; exact gx_add (X := ((j_53 : Nat) : Int)) (C := (-1)) (nI_toInt (by omega)) (by decide) (by omega) (by omega)
                      refine lv_istore_n (lv' := [(3, .int z_65), (4, .int 0), (5, .int z_58), (0, .ref h0), (1, .int us), (2, .int (nI mm))]) hx hb dX9_fill_148 rfl hl (by decide) rfl (fun ls hl => ?_)
                      refine lv_goto (tgt := 5) hx hb dX9_fill_149 (by decide) ?_
                      exact ih_2 z_65 j_53 0 j_53 fcv (by omega) (by omega) (col_down hcol (by omega) hag) (Or.inr ⟨rfl, by omega, by omega⟩) (rf_end (rf_l0 (show RfI (bt us) (kB fag) mm fcx (j_53 + 1) 0 from by rw [show (j_53 + 1) = cm from (by omega)]; exact hrf) ec9 (by omega)) (by omega) (t_yes (by omega) c_54) hag hbz (by have q9 := ga_uu hw_57 (ag_upd (Nat.le_refl _) ef_56); omega)) (by have q9 : muF fcv j_53 0 < muF fcx cm 0 := (by rw [show cm = (j_53 + 1) from (by omega)]; exact mu_uu (n := j_53) hag (col_wt hcol (by omega))); omega) _ _ hP hD hS ls (lv_sub hl [1, 0, 3, 4, 5] rfl)
                    · have b_64 := gn_ge (X := ((cv : Nat) : Int)) (C := ((mm : Nat) : Int)) (nI_toInt (by omega)) (nI_toInt (by omega)) c_63
                      refine lv_aload_n hx hb dX9_fill_118 rfl (lv_at hl 3 rfl) ?_
                      refine va_get (D := (dC, dI)) (ci := 8) (v := .ref cl1) (C := RX9) (T := TX9) (N := 35) hx hb hts inB_9 hown hK hP 0 rfl rfl 24 (by decide) (hts _ mw_3_206) (fun _ h9 => h9) rfl dX9_fill_119 ?_
                      refine lv_iload_n hx hb dX9_fill_122 rfl (lv_at hl 2 rfl) ?_
                      refine va_iald hx hb hK hP 2 1 rfl rfl (show vp_in (nI j_53) 8 from vp_in_nI (by omega) (by omega)) dX9_fill_123 ?_
                      refine hx_top (y := (fcv j_53)) (congrArg _ (nI_clamp (by omega))) ?_
                      refine hx_top (y := (nI cv)) ecv ?_
                      refine lv_iload hx hb dX9_fill_124 (lv_at hl 0 rfl) ?_
                      refine lv_icmp_gt (tgt := 133) hx hb dX9_fill_126 (by decide) (fun c_66 => ?_) (fun c_66 => ?_)
                      · have b_67 := gx_gt (X := ((cv : Nat) : Int)) (C := (Int32.toInt z_58)) (nI_toInt (by omega)) rfl c_66
                        refine lv_iconst (v := 0) hx hb dX9_fill_133 (by decide) ?_
                        refine lv_istore (lv' := [(4, .int 0), (5, .int z_58), (3, .int (nI j_53)), (0, .ref h0), (1, .int us), (2, .int (nI mm))]) hx hb dX9_fill_134 hl (by decide) rfl (fun ls hl => ?_)
                        refine lv_iload_n hx hb dX9_fill_136 rfl (lv_at hl 2 rfl) ?_
                        refine lv_iload hx hb dX9_fill_137 (lv_at hl 0 rfl) ?_
                        refine lv_if_eq (tgt := 146) hx hb dX9_fill_139 (by decide) (fun _ => ?_) (fun h => absurd (by decide) h)
                        refine lv_iconst (v := (-1)) hx hb dX9_fill_146 (by decide) ?_
                        refine lv_iadd hx hb dX9_fill_147 ?_
                        refine lv_topi (fun z_68 ez_68 => ?_)
                        have fz_68 : Int32.toInt z_68 = ((j_53 : Nat) : Int) + (-1) := by rw [ez_68]; exact gx_add (X := ((j_53 : Nat) : Int)) (C := (-1)) (nI_toInt (by omega)) (by decide) (by omega) (by omega)
                        refine lv_istore_n (lv' := [(3, .int z_68), (4, .int 0), (5, .int z_58), (0, .ref h0), (1, .int us), (2, .int (nI mm))]) hx hb dX9_fill_148 rfl hl (by decide) rfl (fun ls hl => ?_)
                        refine lv_goto (tgt := 5) hx hb dX9_fill_149 (by decide) ?_
                        exact ih_2 z_68 j_53 0 j_53 fcv (by omega) (by omega) (col_down hcol (by omega) hag) (Or.inr ⟨rfl, by omega, by omega⟩) (rf_end (rf_l0 (show RfI (bt us) (kB fag) mm fcx (j_53 + 1) 0 from by rw [show (j_53 + 1) = cm from (by omega)]; exact hrf) ec9 (by omega)) (by omega) (t_yes (by omega) c_54) hag hbz (by have q9 := ga_uu hw_57 (ag_upd (Nat.le_refl _) ef_56); omega)) (by have q9 : muF fcv j_53 0 < muF fcx cm 0 := (by rw [show cm = (j_53 + 1) from (by omega)]; exact mu_uu (n := j_53) hag (col_wt hcol (by omega))); omega) _ _ hP hD hS ls (lv_sub hl [1, 0, 3, 4, 5] rfl)
                      · have b_67 := gn_gt (X := ((cv : Nat) : Int)) (C := (Int32.toInt z_58)) (nI_toInt (by omega)) rfl c_66
                        refine lv_iconst (v := 1) hx hb dX9_fill_129 (by decide) ?_
                        refine lv_goto (tgt := 134) hx hb dX9_fill_130 (by decide) ?_
                        refine lv_istore (lv' := [(4, .int 1), (5, .int z_58), (3, .int (nI j_53)), (0, .ref h0), (1, .int us), (2, .int (nI mm))]) hx hb dX9_fill_134 hl (by decide) rfl (fun ls hl => ?_)
                        refine lv_iload_n hx hb dX9_fill_136 rfl (lv_at hl 2 rfl) ?_
                        refine lv_iload hx hb dX9_fill_137 (lv_at hl 0 rfl) ?_
                        refine lv_if_eq (tgt := 146) hx hb dX9_fill_139 (by decide) (fun h => absurd h (by decide)) (fun _ => ?_)
                        refine lv_iconst (v := 1) hx hb dX9_fill_142 (by decide) ?_
                        refine lv_goto (tgt := 147) hx hb dX9_fill_143 (by decide) ?_
                        refine lv_iadd hx hb dX9_fill_147 ?_
                        refine hx_top (y := (nI (j_53 + 1))) (nI_add j_53 1) ?_
                        refine lv_istore_n (lv' := [(3, .int (nI (j_53 + 1))), (4, .int 1), (5, .int z_58), (0, .ref h0), (1, .int us), (2, .int (nI mm))]) hx hb dX9_fill_148 rfl hl (by decide) rfl (fun ls hl => ?_)
                        refine lv_goto (tgt := 5) hx hb dX9_fill_149 (by decide) ?_
                        exact ih_2 (nI (j_53 + 1)) ((j_53 + 1) + 1) 1 (j_53 + 1) fcv (by rw [nI_toInt (by omega)]; omega) (by omega) (col_yes hcol (by omega) hag c_54 ecv (by omega) (by omega)) (Or.inl ⟨rfl, by omega⟩) (False.elim (by omega)) (by have q9 : muF fcv (j_53 + 1) 1 < muF fcx cm 0 := (by rw [show cm = (j_53 + 1) from (by omega)]; exact mu_ud (n := j_53) (by omega) hag (by rw [ecv, ec9, wt_nI (by omega), wt_nI (by omega)]; omega)); omega) _ _ hP hD hS ls (lv_sub hl [1, 0, 3, 4, 5] rfl)
                  · have b_62 := gn_ge (X := ((cv : Nat) : Int)) (C := ((mm : Nat) : Int)) (nI_toInt (by omega)) (nI_toInt (by omega)) c_61
                    refine lv_aload_n hx hb dX9_fill_76 rfl (lv_at hl 3 rfl) ?_
                    refine va_get (D := (dC, dI)) (ci := 8) (v := .ref cl1) (C := RX9) (T := TX9) (N := 35) hx hb hts inB_9 hown hK hP 0 rfl rfl 24 (by decide) (hts _ mw_3_206) (fun _ h9 => h9) rfl dX9_fill_77 ?_
                    refine lv_iload_n hx hb dX9_fill_80 rfl (lv_at hl 2 rfl) ?_
                    refine va_iald hx hb hK hP 2 1 rfl rfl (show vp_in (nI j_53) 8 from vp_in_nI (by omega) (by omega)) dX9_fill_81 ?_
                    refine hx_top (y := (fcv j_53)) (congrArg _ (nI_clamp (by omega))) ?_
                    refine hx_top (y := (nI cv)) ecv ?_
                    refine lv_iload hx hb dX9_fill_82 (lv_at hl 0 rfl) ?_
                    refine lv_icmp_gt (tgt := 108) hx hb dX9_fill_84 (by decide) (fun c_69 => ?_) (fun c_69 => ?_)
                    · have b_70 := gx_gt (X := ((cv : Nat) : Int)) (C := (Int32.toInt z_58)) (nI_toInt (by omega)) rfl c_69
                      refine lv_aload_n hx hb dX9_fill_108 rfl (lv_at hl 3 rfl) ?_
                      refine va_get (D := (dC, dI)) (ci := 8) (v := .ref cl1) (C := RX9) (T := TX9) (N := 35) hx hb hts inB_9 hown hK hP 0 rfl rfl 24 (by decide) (hts _ mw_3_206) (fun _ h9 => h9) rfl dX9_fill_109 ?_
                      refine lv_iload_n hx hb dX9_fill_112 rfl (lv_at hl 2 rfl) ?_
                      refine va_iald hx hb hK hP 2 1 rfl rfl (show vp_in (nI j_53) 8 from vp_in_nI (by omega) (by omega)) dX9_fill_113 ?_
                      refine hx_top (y := (fcv j_53)) (congrArg _ (nI_clamp (by omega))) ?_
                      refine hx_top (y := (nI cv)) ecv ?_
                      refine lv_iload_n hx hb dX9_fill_114 rfl (lv_at hl 5 rfl) ?_
                      refine lv_icmp_ge (tgt := 133) hx hb dX9_fill_115 (by decide) (fun c_71 => ?_) (fun c_71 => ?_)
                      · have b_72 := gx_ge (X := ((cv : Nat) : Int)) (C := ((mm : Nat) : Int)) (nI_toInt (by omega)) (nI_toInt (by omega)) c_71
                        refine lv_iconst (v := 0) hx hb dX9_fill_133 (by decide) ?_
                        refine lv_istore (lv' := [(4, .int 0), (5, .int z_58), (3, .int (nI j_53)), (0, .ref h0), (1, .int us), (2, .int (nI mm))]) hx hb dX9_fill_134 hl (by decide) rfl (fun ls hl => ?_)
                        refine lv_iload_n hx hb dX9_fill_136 rfl (lv_at hl 2 rfl) ?_
                        refine lv_iload hx hb dX9_fill_137 (lv_at hl 0 rfl) ?_
                        refine lv_if_eq (tgt := 146) hx hb dX9_fill_139 (by decide) (fun _ => ?_) (fun h => absurd (by decide) h)
                        refine lv_iconst (v := (-1)) hx hb dX9_fill_146 (by decide) ?_
                        refine lv_iadd hx hb dX9_fill_147 ?_
                        refine lv_topi (fun z_73 ez_73 => ?_)
                        have fz_73 : Int32.toInt z_73 = ((j_53 : Nat) : Int) + (-1) := by rw [ez_73]; exact gx_add (X := ((j_53 : Nat) : Int)) (C := (-1)) (nI_toInt (by omega)) (by decide) (by omega) (by omega)
                        refine lv_istore_n (lv' := [(3, .int z_73), (4, .int 0), (5, .int z_58), (0, .ref h0), (1, .int us), (2, .int (nI mm))]) hx hb dX9_fill_148 rfl hl (by decide) rfl (fun ls hl => ?_)
                        refine lv_goto (tgt := 5) hx hb dX9_fill_149 (by decide) ?_
                        exact ih_2 z_73 j_53 0 j_53 fcv (by omega) (by omega) (col_down hcol (by omega) hag) (Or.inr ⟨rfl, by omega, by omega⟩) (rf_end (rf_l0 (show RfI (bt us) (kB fag) mm fcx (j_53 + 1) 0 from by rw [show (j_53 + 1) = cm from (by omega)]; exact hrf) ec9 (by omega)) (by omega) (t_yes (by omega) c_54) hag hbz (by have q9 := ga_uu hw_57 (ag_upd (Nat.le_refl _) ef_56); omega)) (by have q9 : muF fcv j_53 0 < muF fcx cm 0 := (by rw [show cm = (j_53 + 1) from (by omega)]; exact mu_uu (n := j_53) hag (col_wt hcol (by omega))); omega) _ _ hP hD hS ls (lv_sub hl [1, 0, 3, 4, 5] rfl)
                      · have b_72 := gn_ge (X := ((cv : Nat) : Int)) (C := ((mm : Nat) : Int)) (nI_toInt (by omega)) (nI_toInt (by omega)) c_71
                        refine lv_aload_n hx hb dX9_fill_118 rfl (lv_at hl 3 rfl) ?_
                        refine va_get (D := (dC, dI)) (ci := 8) (v := .ref cl1) (C := RX9) (T := TX9) (N := 35) hx hb hts inB_9 hown hK hP 0 rfl rfl 24 (by decide) (hts _ mw_3_206) (fun _ h9 => h9) rfl dX9_fill_119 ?_
                        refine lv_iload_n hx hb dX9_fill_122 rfl (lv_at hl 2 rfl) ?_
                        refine va_iald hx hb hK hP 2 1 rfl rfl (show vp_in (nI j_53) 8 from vp_in_nI (by omega) (by omega)) dX9_fill_123 ?_
                        refine hx_top (y := (fcv j_53)) (congrArg _ (nI_clamp (by omega))) ?_
                        refine hx_top (y := (nI cv)) ecv ?_
                        refine lv_iload hx hb dX9_fill_124 (lv_at hl 0 rfl) ?_
                        refine lv_icmp_gt (tgt := 133) hx hb dX9_fill_126 (by decide) (fun c_74 => ?_) (fun c_74 => ?_)
                        · have b_75 := gx_gt (X := ((cv : Nat) : Int)) (C := (Int32.toInt z_58)) (nI_toInt (by omega)) rfl c_74
                          refine lv_iconst (v := 0) hx hb dX9_fill_133 (by decide) ?_
                          refine lv_istore (lv' := [(4, .int 0), (5, .int z_58), (3, .int (nI j_53)), (0, .ref h0), (1, .int us), (2, .int (nI mm))]) hx hb dX9_fill_134 hl (by decide) rfl (fun ls hl => ?_)
                          refine lv_iload_n hx hb dX9_fill_136 rfl (lv_at hl 2 rfl) ?_
                          refine lv_iload hx hb dX9_fill_137 (lv_at hl 0 rfl) ?_
                          refine lv_if_eq (tgt := 146) hx hb dX9_fill_139 (by decide) (fun _ => ?_) (fun h => absurd (by decide) h)
                          refine lv_iconst (v := (-1)) hx hb dX9_fill_146 (by decide) ?_
                          refine lv_iadd hx hb dX9_fill_147 ?_
                          refine lv_topi (fun z_76 ez_76 => ?_)
                          have fz_76 : Int32.toInt z_76 = ((j_53 : Nat) : Int) + (-1) := by rw [ez_76]; exact gx_add (X := ((j_53 : Nat) : Int)) (C := (-1)) (nI_toInt (by omega)) (by decide) (by omega) (by omega)
                          refine lv_istore_n (lv' := [(3, .int z_76), (4, .int 0), (5, .int z_58), (0, .ref h0), (1, .int us), (2, .int (nI mm))]) hx hb dX9_fill_148 rfl hl (by decide) rfl (fun ls hl => ?_)
                          refine lv_goto (tgt := 5) hx hb dX9_fill_149 (by decide) ?_
                          exact ih_2 z_76 j_53 0 j_53 fcv (by omega) (by omega) (col_down hcol (by omega) hag) (Or.inr ⟨rfl, by omega, by omega⟩) (rf_end (rf_l0 (show RfI (bt us) (kB fag) mm fcx (j_53 + 1) 0 from by rw [show (j_53 + 1) = cm from (by omega)]; exact hrf) ec9 (by omega)) (by omega) (t_yes (by omega) c_54) hag hbz (by have q9 := ga_uu hw_57 (ag_upd (Nat.le_refl _) ef_56); omega)) (by have q9 : muF fcv j_53 0 < muF fcx cm 0 := (by rw [show cm = (j_53 + 1) from (by omega)]; exact mu_uu (n := j_53) hag (col_wt hcol (by omega))); omega) _ _ hP hD hS ls (lv_sub hl [1, 0, 3, 4, 5] rfl)
                        · have b_75 := gn_gt (X := ((cv : Nat) : Int)) (C := (Int32.toInt z_58)) (nI_toInt (by omega)) rfl c_74
                          refine lv_iconst (v := 1) hx hb dX9_fill_129 (by decide) ?_
                          refine lv_goto (tgt := 134) hx hb dX9_fill_130 (by decide) ?_
                          refine lv_istore (lv' := [(4, .int 1), (5, .int z_58), (3, .int (nI j_53)), (0, .ref h0), (1, .int us), (2, .int (nI mm))]) hx hb dX9_fill_134 hl (by decide) rfl (fun ls hl => ?_)
                          refine lv_iload_n hx hb dX9_fill_136 rfl (lv_at hl 2 rfl) ?_
                          refine lv_iload hx hb dX9_fill_137 (lv_at hl 0 rfl) ?_
                          refine lv_if_eq (tgt := 146) hx hb dX9_fill_139 (by decide) (fun h => absurd h (by decide)) (fun _ => ?_)
                          refine lv_iconst (v := 1) hx hb dX9_fill_142 (by decide) ?_
                          refine lv_goto (tgt := 147) hx hb dX9_fill_143 (by decide) ?_
                          refine lv_iadd hx hb dX9_fill_147 ?_
                          refine hx_top (y := (nI (j_53 + 1))) (nI_add j_53 1) ?_
                          refine lv_istore_n (lv' := [(3, .int (nI (j_53 + 1))), (4, .int 1), (5, .int z_58), (0, .ref h0), (1, .int us), (2, .int (nI mm))]) hx hb dX9_fill_148 rfl hl (by decide) rfl (fun ls hl => ?_)
                          refine lv_goto (tgt := 5) hx hb dX9_fill_149 (by decide) ?_
                          exact ih_2 (nI (j_53 + 1)) ((j_53 + 1) + 1) 1 (j_53 + 1) fcv (by rw [nI_toInt (by omega)]; omega) (by omega) (col_yes hcol (by omega) hag c_54 ecv (by omega) (by omega)) (Or.inl ⟨rfl, by omega⟩) (False.elim (by omega)) (by have q9 : muF fcv (j_53 + 1) 1 < muF fcx cm 0 := (by rw [show cm = (j_53 + 1) from (by omega)]; exact mu_ud (n := j_53) (by omega) hag (by rw [ecv, ec9, wt_nI (by omega), wt_nI (by omega)]; omega)); omega) _ _ hP hD hS ls (lv_sub hl [1, 0, 3, 4, 5] rfl)
                    · have b_70 := gn_gt (X := ((cv : Nat) : Int)) (C := (Int32.toInt z_58)) (nI_toInt (by omega)) rfl c_69
                      refine lv_aload_n hx hb dX9_fill_87 rfl (lv_at hl 3 rfl) ?_
                      refine lv_iload_n hx hb dX9_fill_88 rfl (lv_at hl 2 rfl) ?_
                      have hPc := hP.sub (ws' := [(h0, .inr (8, [w0, w1, w2, w3, w4, w5, w6, w7, w8, w9, w10, w11, w12, w13, w14, w15, w16, w17, w18, w19, w20, w21, w22, .ref cg0, .ref cl1, w25, w26, w27, w28, w29, w30, w31, w32, w33, w34])), (cg0, .inl (kcg0, 8, .inl fag)), (cl1, .inl (kcl1, 8, .inl fcv))]) [0, 1, 2] rfl
                      have hDc := hD.sub (ws' := [(h0, .inr (8, [w0, w1, w2, w3, w4, w5, w6, w7, w8, w9, w10, w11, w12, w13, w14, w15, w16, w17, w18, w19, w20, w21, w22, .ref cg0, .ref cl1, w25, w26, w27, w28, w29, w30, w31, w32, w33, w34])), (cg0, .inl (kcg0, 8, .inl fag)), (cl1, .inl (kcl1, 8, .inl fcv))]) [0, 1, 2] (by decide) rfl
                      have hKc := hK.sub (tys' := [(kcg0, .int), (kcl1, .int)]) [0, 1] rfl
                      refine va_calli (va_runV (As := [.int (nI j_53)]) (rest := []) ⟨hx, hb, hml, hown, hts⟩ (m_isFree l dC dI H.size h0 (w0) (w1) (w2) (w3) (w4) (w5) (w6) (w7) (w8) (w9) (w10) (w11) (w12) (w13) (w14) (w15) (w16) (w17) (w18) (w19) (w20) (w21) (w22) cg0 cl1 (w25) (w26) (w27) (w28) (w29) (w30) (w31) (w32) (w33) (w34) kcg0 fag kcl1 fcv j_53 (by omega)) (cwV 1 hts (gV mw_4_218 mw_4_220 mw_0_34 mw_1_9 mw_4_221) rfl rfl rfl (by decide +kernel) ⟨Nat.le_of_ble_eq_true rfl, Nat.le_of_ble_eq_true rfl⟩) ⟨pcW_blind, va_recv hKc hPc (ci := 8) (q0 := 0) rfl rfl, pcW_at hPc hKc hDc hN⟩ rfl rfl hl.1 rfl (lv_room (Nat.le_of_ble_eq_true rfl)) dX9_fill_89 ⟨Nat.le_of_ble_eq_true rfl, Nat.le_of_ble_eq_true rfl⟩) hS (fun q h1 h2 => absurd h2 (Nat.not_le.mpr h1)) (fun q h => hA q (Nat.le_trans hS.1 h)) (fun r_77 u t H1 locs ht hvm hw_77 hB hz1 hk1 hS => ?_)
                      have hP := keepP hP hk1
                      clear hz1 hk1 hB ht hvm hPc hDc hKc
                      generalize H1 = H at hP hS ⊢
                      rcases hw_77 with ⟨rfl, p_78⟩ | ⟨rfl, p_78⟩
                      · skip
                        refine lv_if_ne (tgt := 108) hx hb dX9_fill_92 (by decide) (fun _ => ?_) (fun h => absurd h (by decide))
                        refine lv_aload_n hx hb dX9_fill_108 rfl (lv_at hl 3 rfl) ?_
                        refine va_get (D := (dC, dI)) (ci := 8) (v := .ref cl1) (C := RX9) (T := TX9) (N := 35) hx hb hts inB_9 hown hK hP 0 rfl rfl 24 (by decide) (hts _ mw_3_206) (fun _ h9 => h9) rfl dX9_fill_109 ?_
                        refine lv_iload_n hx hb dX9_fill_112 rfl (lv_at hl 2 rfl) ?_
                        refine va_iald hx hb hK hP 2 1 rfl rfl (show vp_in (nI j_53) 8 from vp_in_nI (by omega) (by omega)) dX9_fill_113 ?_
                        refine hx_top (y := (fcv j_53)) (congrArg _ (nI_clamp (by omega))) ?_
                        refine hx_top (y := (nI cv)) ecv ?_
                        refine lv_iload_n hx hb dX9_fill_114 rfl (lv_at hl 5 rfl) ?_
                        refine lv_icmp_ge (tgt := 133) hx hb dX9_fill_115 (by decide) (fun c_79 => ?_) (fun c_79 => ?_)
                        · have b_80 := gx_ge (X := ((cv : Nat) : Int)) (C := ((mm : Nat) : Int)) (nI_toInt (by omega)) (nI_toInt (by omega)) c_79
                          refine lv_iconst (v := 0) hx hb dX9_fill_133 (by decide) ?_
                          refine lv_istore (lv' := [(4, .int 0), (5, .int z_58), (3, .int (nI j_53)), (0, .ref h0), (1, .int us), (2, .int (nI mm))]) hx hb dX9_fill_134 hl (by decide) rfl (fun ls hl => ?_)
                          refine lv_iload_n hx hb dX9_fill_136 rfl (lv_at hl 2 rfl) ?_
                          refine lv_iload hx hb dX9_fill_137 (lv_at hl 0 rfl) ?_
                          refine lv_if_eq (tgt := 146) hx hb dX9_fill_139 (by decide) (fun _ => ?_) (fun h => absurd (by decide) h)
                          refine lv_iconst (v := (-1)) hx hb dX9_fill_146 (by decide) ?_
                          refine lv_iadd hx hb dX9_fill_147 ?_
                          refine lv_topi (fun z_81 ez_81 => ?_)
                          have fz_81 : Int32.toInt z_81 = ((j_53 : Nat) : Int) + (-1) := by rw [ez_81]; exact gx_add (X := ((j_53 : Nat) : Int)) (C := (-1)) (nI_toInt (by omega)) (by decide) (by omega) (by omega)
                          refine lv_istore_n (lv' := [(3, .int z_81), (4, .int 0), (5, .int z_58), (0, .ref h0), (1, .int us), (2, .int (nI mm))]) hx hb dX9_fill_148 rfl hl (by decide) rfl (fun ls hl => ?_)
                          refine lv_goto (tgt := 5) hx hb dX9_fill_149 (by decide) ?_
                          exact ih_2 z_81 j_53 0 j_53 fcv (by omega) (by omega) (col_down hcol (by omega) hag) (Or.inr ⟨rfl, by omega, by omega⟩) (rf_end (rf_l0 (show RfI (bt us) (kB fag) mm fcx (j_53 + 1) 0 from by rw [show (j_53 + 1) = cm from (by omega)]; exact hrf) ec9 (by omega)) (by omega) (t_yes (by omega) c_54) hag hbz (by have q9 := ga_uu hw_57 (ag_upd (Nat.le_refl _) ef_56); omega)) (by have q9 : muF fcv j_53 0 < muF fcx cm 0 := (by rw [show cm = (j_53 + 1) from (by omega)]; exact mu_uu (n := j_53) hag (col_wt hcol (by omega))); omega) _ _ hP hD hS ls (lv_sub hl [1, 0, 3, 4, 5] rfl)
                        · have b_80 := gn_ge (X := ((cv : Nat) : Int)) (C := ((mm : Nat) : Int)) (nI_toInt (by omega)) (nI_toInt (by omega)) c_79
                          refine lv_aload_n hx hb dX9_fill_118 rfl (lv_at hl 3 rfl) ?_
                          refine va_get (D := (dC, dI)) (ci := 8) (v := .ref cl1) (C := RX9) (T := TX9) (N := 35) hx hb hts inB_9 hown hK hP 0 rfl rfl 24 (by decide) (hts _ mw_3_206) (fun _ h9 => h9) rfl dX9_fill_119 ?_
                          refine lv_iload_n hx hb dX9_fill_122 rfl (lv_at hl 2 rfl) ?_
                          refine va_iald hx hb hK hP 2 1 rfl rfl (show vp_in (nI j_53) 8 from vp_in_nI (by omega) (by omega)) dX9_fill_123 ?_
                          refine hx_top (y := (fcv j_53)) (congrArg _ (nI_clamp (by omega))) ?_
                          refine hx_top (y := (nI cv)) ecv ?_
                          refine lv_iload hx hb dX9_fill_124 (lv_at hl 0 rfl) ?_
                          refine lv_icmp_gt (tgt := 133) hx hb dX9_fill_126 (by decide) (fun c_82 => ?_) (fun c_82 => ?_)
                          · have b_83 := gx_gt (X := ((cv : Nat) : Int)) (C := (Int32.toInt z_58)) (nI_toInt (by omega)) rfl c_82
                            refine lv_iconst (v := 0) hx hb dX9_fill_133 (by decide) ?_
                            refine lv_istore (lv' := [(4, .int 0), (5, .int z_58), (3, .int (nI j_53)), (0, .ref h0), (1, .int us), (2, .int (nI mm))]) hx hb dX9_fill_134 hl (by decide) rfl (fun ls hl => ?_)
                            refine lv_iload_n hx hb dX9_fill_136 rfl (lv_at hl 2 rfl) ?_
                            refine lv_iload hx hb dX9_fill_137 (lv_at hl 0 rfl) ?_
                            refine lv_if_eq (tgt := 146) hx hb dX9_fill_139 (by decide) (fun _ => ?_) (fun h => absurd (by decide) h)
                            refine lv_iconst (v := (-1)) hx hb dX9_fill_146 (by decide) ?_
                            refine lv_iadd hx hb dX9_fill_147 ?_
                            refine lv_topi (fun z_84 ez_84 => ?_)
                            have fz_84 : Int32.toInt z_84 = ((j_53 : Nat) : Int) + (-1) := by rw [ez_84]; exact gx_add (X := ((j_53 : Nat) : Int)) (C := (-1)) (nI_toInt (by omega)) (by decide) (by omega) (by omega)
                            refine lv_istore_n (lv' := [(3, .int z_84), (4, .int 0), (5, .int z_58), (0, .ref h0), (1, .int us), (2, .int (nI mm))]) hx hb dX9_fill_148 rfl hl (by decide) rfl (fun ls hl => ?_)
                            refine lv_goto (tgt := 5) hx hb dX9_fill_149 (by decide) ?_
                            exact ih_2 z_84 j_53 0 j_53 fcv (by omega) (by omega) (col_down hcol (by omega) hag) (Or.inr ⟨rfl, by omega, by omega⟩) (rf_end (rf_l0 (show RfI (bt us) (kB fag) mm fcx (j_53 + 1) 0 from by rw [show (j_53 + 1) = cm from (by omega)]; exact hrf) ec9 (by omega)) (by omega) (t_yes (by omega) c_54) hag hbz (by have q9 := ga_uu hw_57 (ag_upd (Nat.le_refl _) ef_56); omega)) (by have q9 : muF fcv j_53 0 < muF fcx cm 0 := (by rw [show cm = (j_53 + 1) from (by omega)]; exact mu_uu (n := j_53) hag (col_wt hcol (by omega))); omega) _ _ hP hD hS ls (lv_sub hl [1, 0, 3, 4, 5] rfl)
                          · have b_83 := gn_gt (X := ((cv : Nat) : Int)) (C := (Int32.toInt z_58)) (nI_toInt (by omega)) rfl c_82
                            refine lv_iconst (v := 1) hx hb dX9_fill_129 (by decide) ?_
                            refine lv_goto (tgt := 134) hx hb dX9_fill_130 (by decide) ?_
                            refine lv_istore (lv' := [(4, .int 1), (5, .int z_58), (3, .int (nI j_53)), (0, .ref h0), (1, .int us), (2, .int (nI mm))]) hx hb dX9_fill_134 hl (by decide) rfl (fun ls hl => ?_)
                            refine lv_iload_n hx hb dX9_fill_136 rfl (lv_at hl 2 rfl) ?_
                            refine lv_iload hx hb dX9_fill_137 (lv_at hl 0 rfl) ?_
                            refine lv_if_eq (tgt := 146) hx hb dX9_fill_139 (by decide) (fun h => absurd h (by decide)) (fun _ => ?_)
                            refine lv_iconst (v := 1) hx hb dX9_fill_142 (by decide) ?_
                            refine lv_goto (tgt := 147) hx hb dX9_fill_143 (by decide) ?_
                            refine lv_iadd hx hb dX9_fill_147 ?_
                            refine hx_top (y := (nI (j_53 + 1))) (nI_add j_53 1) ?_
                            refine lv_istore_n (lv' := [(3, .int (nI (j_53 + 1))), (4, .int 1), (5, .int z_58), (0, .ref h0), (1, .int us), (2, .int (nI mm))]) hx hb dX9_fill_148 rfl hl (by decide) rfl (fun ls hl => ?_)
                            refine lv_goto (tgt := 5) hx hb dX9_fill_149 (by decide) ?_
                            exact ih_2 (nI (j_53 + 1)) ((j_53 + 1) + 1) 1 (j_53 + 1) fcv (by rw [nI_toInt (by omega)]; omega) (by omega) (col_yes hcol (by omega) hag c_54 ecv (by omega) (by omega)) (Or.inl ⟨rfl, by omega⟩) (rf_ok (rf_l0 (show RfI (bt us) (kB fag) mm fcx (j_53 + 1) 0 from by rw [show (j_53 + 1) = cm from (by omega)]; exact hrf) ec9 (by omega)) (by omega) hmm (t_yes (by omega) c_54) hag ecv (by omega) (by have q9 := ga_uu hw_57 (ag_upd (Nat.le_refl _) ef_56); omega) p_78 hbz) (by have q9 : muF fcv (j_53 + 1) 1 < muF fcx cm 0 := (by rw [show cm = (j_53 + 1) from (by omega)]; exact mu_ud (n := j_53) (by omega) hag (by rw [ecv, ec9, wt_nI (by omega), wt_nI (by omega)]; omega)); omega) _ _ hP hD hS ls (lv_sub hl [1, 0, 3, 4, 5] rfl)
                      · skip
                        refine lv_if_ne (tgt := 108) hx hb dX9_fill_92 (by decide) (fun h => absurd h (by decide)) (fun _ => ?_)
                        refine lv_aload_n hx hb dX9_fill_95 rfl (lv_at hl 3 rfl) ?_
                        refine va_get (D := (dC, dI)) (ci := 8) (v := .ref cl1) (C := RX9) (T := TX9) (N := 35) hx hb hts inB_9 hown hK hP 0 rfl rfl 24 (by decide) (hts _ mw_3_206) (fun _ h9 => h9) rfl dX9_fill_96 ?_
                        refine lv_iload_n hx hb dX9_fill_99 rfl (lv_at hl 2 rfl) ?_
                        refine lv_dup2_11 hx hb dX9_fill_100 rfl rfl ?_
                        refine va_iald hx hb hK hP 2 1 rfl rfl (show vp_in (nI j_53) 8 from vp_in_nI (by omega) (by omega)) dX9_fill_101 ?_
                        refine hx_top (y := (fcv j_53)) (congrArg _ (nI_clamp (by omega))) ?_
                        refine hx_top (y := (nI cv)) ecv ?_
                        refine lv_iconst (v := 1) hx hb dX9_fill_102 (by decide) ?_
                        refine lv_iadd hx hb dX9_fill_103 ?_
                        refine hx_top (y := (nI (cv + 1))) (nI_add cv 1) ?_
                        refine va_iast hx hb hK hP hD hS 2 1 rfl rfl (show vp_in (nI j_53) 8 from vp_in_nI (by omega) (by omega)) dX9_fill_104 (fun H locs hP hD hS => ?_)
                        obtain ⟨f_85, ef_85⟩ : ∃ g : Nat → Int32, g = upd fcv (Int32.toNatClampNeg (nI j_53)) (nI (cv + 1)) := ⟨_, rfl⟩
                        rw [← ef_85] at hP hD
                        have ef_85 : f_85 = upd fcv j_53 (nI (cv + 1)) := by rw [ef_85, nI_clamp (by omega)]
                        have hP : va_P (dC, dI) vwCl [(h0, .inr (8, [w0, w1, w2, w3, w4, w5, w6, w7, w8, w9, w10, w11, w12, w13, w14, w15, w16, w17, w18, w19, w20, w21, w22, .ref cg0, .ref cl1, w25, w26, w27, w28, w29, w30, w31, w32, w33, w34])), (cg0, .inl (kcg0, 8, .inl fag)), (cl1, .inl (kcl1, 8, .inl f_85))] H := hP
                        have hD : va_D A [(h0, .inr (8, [w0, w1, w2, w3, w4, w5, w6, w7, w8, w9, w10, w11, w12, w13, w14, w15, w16, w17, w18, w19, w20, w21, w22, .ref cg0, .ref cl1, w25, w26, w27, w28, w29, w30, w31, w32, w33, w34])), (cg0, .inl (kcg0, 8, .inl fag)), (cl1, .inl (kcl1, 8, .inl f_85))] := hD
                        refine lv_goto (tgt := 66) hx hb dX9_fill_105 (by decide) ?_
                        exact ih_60 (cv + 1) f_85 (by rw [ef_85]; exact pk_us) (by omega) (ag_tr hag (ag_upd (Nat.le_refl _) ef_85)) (by omega) (bz_st hbz hag ecv p_78) (by omega) _ _ hP hD hS ls (lv_sub hl [0, 1, 2, 3, 4, 5] rfl)
              exact key_59 ((9 - (c9 + 1)) + 1) (c9 + 1) f_56 (by rw [ef_56]; exact pk_us) (by omega) (ag_upd (Nat.le_refl _) ef_56) (by omega) bz_0 (Nat.lt_succ_self _) _ _ hP hD hS ls (lv_sub hl [0, 1, 2, 3, 4, 5] rfl)
            · have b_55 := gn_ne (X := (Int32.toInt ((us >>> ((nI j_53) &&& 31)) &&& 1))) (C := 0) rfl (by decide) c_54
              refine lv_aload_n hx hb dX9_fill_23 rfl (lv_at hl 2 rfl) ?_
              refine va_get (D := (dC, dI)) (ci := 8) (v := .ref cl1) (C := RX9) (T := TX9) (N := 35) hx hb hts inB_9 hown hK hP 0 rfl rfl 24 (by decide) (hts _ mw_3_206) (fun _ h9 => h9) rfl dX9_fill_24 ?_
              refine lv_iload_n hx hb dX9_fill_27 rfl (lv_at hl 1 rfl) ?_
              refine lv_bipush (v := (-6)) hx hb dX9_fill_28 (by decide) ?_
              refine va_iast hx hb hK hP hD hS 2 1 rfl rfl (show vp_in (nI j_53) 8 from vp_in_nI (by omega) (by omega)) dX9_fill_30 (fun H locs hP hD hS => ?_)
              obtain ⟨f_86, ef_86⟩ : ∃ g : Nat → Int32, g = upd fcx (Int32.toNatClampNeg (nI j_53)) (-6) := ⟨_, rfl⟩
              rw [← ef_86] at hP hD
              have ef_86 : f_86 = upd fcx j_53 (-6) := by rw [ef_86, nI_clamp (by omega)]
              have hP : va_P (dC, dI) vwCl [(h0, .inr (8, [w0, w1, w2, w3, w4, w5, w6, w7, w8, w9, w10, w11, w12, w13, w14, w15, w16, w17, w18, w19, w20, w21, w22, .ref cg0, .ref cl1, w25, w26, w27, w28, w29, w30, w31, w32, w33, w34])), (cg0, .inl (kcg0, 8, .inl fag)), (cl1, .inl (kcl1, 8, .inl f_86))] H := hP
              have hD : va_D A [(h0, .inr (8, [w0, w1, w2, w3, w4, w5, w6, w7, w8, w9, w10, w11, w12, w13, w14, w15, w16, w17, w18, w19, w20, w21, w22, .ref cg0, .ref cl1, w25, w26, w27, w28, w29, w30, w31, w32, w33, w34])), (cg0, .inl (kcg0, 8, .inl fag)), (cl1, .inl (kcl1, 8, .inl f_86))] := hD
              refine lv_goto (tgt := 136) hx hb dX9_fill_31 (by decide) ?_
              refine lv_iload_n hx hb dX9_fill_136 rfl (lv_at hl 1 rfl) ?_
              refine lv_iload hx hb dX9_fill_137 (lv_at hl 0 rfl) ?_
              refine lv_if_eq (tgt := 146) hx hb dX9_fill_139 (by decide) (fun _ => ?_) (fun h => absurd (by decide) h)
              refine lv_iconst (v := (-1)) hx hb dX9_fill_146 (by decide) ?_
              refine lv_iadd hx hb dX9_fill_147 ?_
              refine lv_topi (fun z_87 ez_87 => ?_)
              have fz_87 : Int32.toInt z_87 = ((j_53 : Nat) : Int) + (-1) := by rw [ez_87]; exact gx_add (X := ((j_53 : Nat) : Int)) (C := (-1)) (nI_toInt (by omega)) (by decide) (by omega) (by omega)
              refine lv_istore_n (lv' := [(3, .int z_87), (4, .int 0), (0, .ref h0), (1, .int us), (2, .int (nI mm))]) hx hb dX9_fill_148 rfl hl (by decide) rfl (fun ls hl => ?_)
              refine lv_goto (tgt := 5) hx hb dX9_fill_149 (by decide) ?_
              exact ih_2 z_87 j_53 0 j_53 f_86 (by omega) (by omega) (col_down hcol (by omega) (ag_upd (Nat.le_refl _) ef_86)) (Or.inr ⟨rfl, by omega, by omega⟩) (rf_un0 (show RfI (bt us) (kB fag) mm fcx (j_53 + 1) 0 from by rw [show (j_53 + 1) = cm from (by omega)]; exact hrf) (by omega) (t_0 (by omega) c_54) (ag_upd (Nat.le_refl _) ef_86)) (by have q9 : muF f_86 j_53 0 < muF fcx cm 0 := (by rw [show cm = (j_53 + 1) from (by omega)]; exact mu_uu (n := j_53) (ag_upd (Nat.le_refl _) ef_86) (col_wt hcol (by omega))); omega) _ _ hP hD hS ls (lv_sub hl [1, 0, 2, 3, 4] rfl)
  exact key_1 ((muF fcl 0 1) + 1) 0 1 1 0 fcl (by decide) (by omega) col_0 (Or.inl ⟨rfl, rfl⟩) rf_0 (Nat.lt_succ_self _) _ _ hP hD hS ls (lv_sub hl [0, 1, 2, 3, 4] rfl)
