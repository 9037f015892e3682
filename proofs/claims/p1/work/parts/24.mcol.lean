theorem mw_3_206 : Cond.fieldLink RX9 65 "AnswerLinesModel" "columns" "[I" ∈ BG := mB (t3 (i := 206) (by decide +kernel)) (by decide +kernel)
theorem mw_3_205 : Cond.fieldLink RX9 62 "AnswerLinesModel" "against" "[I" ∈ BG := mB (t3 (i := 205) (by decide +kernel)) (by decide +kernel)
theorem mw_3_207 : Cond.fieldLink RX9 194 "AnswerLinesModel" "columnMany" "I" ∈ BG := mB (t3 (i := 207) (by decide +kernel)) (by decide +kernel)
theorem mw_4_213 : Cond.code yX9_fill cX9_fill 6 (some .boolean) ∈ BG := mB (t4 (i := 213) rfl) (by decide +kernel)
theorem mw_4_210 : Cond.methodLink RX9 197 yX9_fill ∈ BG := mB (t4 (i := 210) (by decide +kernel)) (by decide +kernel)
theorem mw_4_212 : Cond.instanceMethod yX9_fill ∈ BG := mB (t4 (i := 212) (by decide +kernel)) (by decide +kernel)
theorem mw_0_32 : Cond.selects RX9 yX9_fill yX9_fill ∈ BG := mB (t0 (i := 32) (by decide +kernel)) (by decide +kernel)
theorem mw_4_201 : Cond.code yX9_findColumns cX9_findColumns 5 none ∈ BG := mB (t4 (i := 201) rfl) (by decide +kernel)
theorem mw_4_198 : Cond.methodLink RX9 206 yX9_findColumns ∈ BG := mB (t4 (i := 198) (by decide +kernel)) (by decide +kernel)
theorem mw_4_200 : Cond.instanceMethod yX9_findColumns ∈ BG := mB (t4 (i := 200) (by decide +kernel)) (by decide +kernel)
theorem mw_0_29 : Cond.selects RX9 yX9_findColumns yX9_findColumns ∈ BG := mB (t0 (i := 29) (by decide +kernel)) (by decide +kernel)
theorem dX9_fill_0 : decode cX9_fill 0 = .ok (.iconst 0, 1) := by decide +kernel
theorem dX9_fill_1 : decode cX9_fill 1 = .ok (.istore_n 3, 1) := by decide +kernel
theorem dX9_fill_2 : decode cX9_fill 2 = .ok (.iconst 1, 1) := by decide +kernel
theorem dX9_fill_3 : decode cX9_fill 3 = .ok (.istore 4, 2) := by decide +kernel
theorem dX9_fill_5 : decode cX9_fill 5 = .ok (.iload_n 3, 1) := by decide +kernel
theorem dX9_fill_6 : decode cX9_fill 6 = .ok (.ifCond .lt 146, 3) := by decide +kernel
theorem dX9_fill_9 : decode cX9_fill 9 = .ok (.iload_n 3, 1) := by decide +kernel
theorem dX9_fill_10 : decode cX9_fill 10 = .ok (.bipush 8, 2) := by decide +kernel
theorem dX9_fill_12 : decode cX9_fill 12 = .ok (.if_icmp .ge 140, 3) := by decide +kernel
theorem dX9_fill_15 : decode cX9_fill 15 = .ok (.iload_n 1, 1) := by decide +kernel
theorem dX9_fill_16 : decode cX9_fill 16 = .ok (.iload_n 3, 1) := by decide +kernel
theorem dX9_fill_17 : decode cX9_fill 17 = .ok (.ishr, 1) := by decide +kernel
theorem dX9_fill_18 : decode cX9_fill 18 = .ok (.iconst 1, 1) := by decide +kernel
theorem dX9_fill_19 : decode cX9_fill 19 = .ok (.iand, 1) := by decide +kernel
theorem dX9_fill_20 : decode cX9_fill 20 = .ok (.ifCond .ne 14, 3) := by decide +kernel
theorem dX9_fill_23 : decode cX9_fill 23 = .ok (.aload_n 0, 1) := by decide +kernel
theorem dX9_fill_24 : decode cX9_fill 24 = .ok (.getfield 65, 3) := by decide +kernel
theorem dX9_fill_27 : decode cX9_fill 27 = .ok (.iload_n 3, 1) := by decide +kernel
theorem dX9_fill_28 : decode cX9_fill 28 = .ok (.bipush (-6), 2) := by decide +kernel
theorem dX9_fill_30 : decode cX9_fill 30 = .ok (.iastore, 1) := by decide +kernel
theorem dX9_fill_31 : decode cX9_fill 31 = .ok (.goto 105, 3) := by decide +kernel
theorem dX9_fill_136 : decode cX9_fill 136 = .ok (.iload_n 3, 1) := by decide +kernel
theorem dX9_fill_137 : decode cX9_fill 137 = .ok (.iload 4, 2) := by decide +kernel
theorem dX9_fill_139 : decode cX9_fill 139 = .ok (.ifCond .eq 7, 3) := by decide +kernel
theorem dX9_fill_142 : decode cX9_fill 142 = .ok (.iconst 1, 1) := by decide +kernel
theorem dX9_fill_143 : decode cX9_fill 143 = .ok (.goto 4, 3) := by decide +kernel
theorem dX9_fill_147 : decode cX9_fill 147 = .ok (.iadd, 1) := by decide +kernel
theorem dX9_fill_148 : decode cX9_fill 148 = .ok (.istore_n 3, 1) := by decide +kernel
theorem dX9_fill_149 : decode cX9_fill 149 = .ok (.goto (-144), 3) := by decide +kernel
theorem dX9_fill_152 : decode cX9_fill 152 = .ok (.iload_n 3, 1) := by decide +kernel
theorem dX9_fill_153 : decode cX9_fill 153 = .ok (.bipush 8, 2) := by decide +kernel
theorem dX9_fill_155 : decode cX9_fill 155 = .ok (.if_icmp .ne 7, 3) := by decide +kernel
theorem dX9_fill_158 : decode cX9_fill 158 = .ok (.iconst 1, 1) := by decide +kernel
theorem dX9_fill_159 : decode cX9_fill 159 = .ok (.goto 4, 3) := by decide +kernel
theorem dX9_fill_163 : decode cX9_fill 163 = .ok (.ireturn, 1) := by decide +kernel
theorem dX9_findColumns_0 : decode cX9_findColumns 0 = .ok (.iconst 0, 1) := by decide +kernel
theorem dX9_findColumns_1 : decode cX9_findColumns 1 = .ok (.istore_n 1, 1) := by decide +kernel
theorem dX9_findColumns_2 : decode cX9_findColumns 2 = .ok (.iconst 0, 1) := by decide +kernel
theorem dX9_findColumns_3 : decode cX9_findColumns 3 = .ok (.istore_n 2, 1) := by decide +kernel
theorem dX9_findColumns_4 : decode cX9_findColumns 4 = .ok (.iload_n 2, 1) := by decide +kernel
theorem dX9_findColumns_5 : decode cX9_findColumns 5 = .ok (.bipush 8, 2) := by decide +kernel
theorem dX9_findColumns_7 : decode cX9_findColumns 7 = .ok (.if_icmp .ge 16, 3) := by decide +kernel
theorem dX9_findColumns_10 : decode cX9_findColumns 10 = .ok (.aload_n 0, 1) := by decide +kernel
theorem dX9_findColumns_11 : decode cX9_findColumns 11 = .ok (.getfield 62, 3) := by decide +kernel
theorem dX9_findColumns_14 : decode cX9_findColumns 14 = .ok (.iload_n 2, 1) := by decide +kernel
theorem dX9_findColumns_15 : decode cX9_findColumns 15 = .ok (.iconst 0, 1) := by decide +kernel
theorem dX9_findColumns_16 : decode cX9_findColumns 16 = .ok (.iastore, 1) := by decide +kernel
theorem dX9_findColumns_17 : decode cX9_findColumns 17 = .ok (.iinc 2 1, 3) := by decide +kernel
theorem dX9_findColumns_20 : decode cX9_findColumns 20 = .ok (.goto (-16), 3) := by decide +kernel
theorem dX9_findColumns_23 : decode cX9_findColumns 23 = .ok (.iconst 0, 1) := by decide +kernel
theorem dX9_findColumns_24 : decode cX9_findColumns 24 = .ok (.istore_n 2, 1) := by decide +kernel
theorem dX9_findColumns_25 : decode cX9_findColumns 25 = .ok (.iload_n 2, 1) := by decide +kernel
theorem dX9_findColumns_26 : decode cX9_findColumns 26 = .ok (.aload_n 0, 1) := by decide +kernel
theorem dX9_findColumns_27 : decode cX9_findColumns 27 = .ok (.getfield 86, 3) := by decide +kernel
theorem dX9_findColumns_30 : decode cX9_findColumns 30 = .ok (.if_icmp .ge 67, 3) := by decide +kernel
theorem dX9_findColumns_97 : decode cX9_findColumns 97 = .ok (.aload_n 0, 1) := by decide +kernel
theorem dX9_findColumns_98 : decode cX9_findColumns 98 = .ok (.iconst 0, 1) := by decide +kernel
theorem dX9_findColumns_99 : decode cX9_findColumns 99 = .ok (.putfield 194, 3) := by decide +kernel
theorem dX9_findColumns_102 : decode cX9_findColumns 102 = .ok (.aload_n 0, 1) := by decide +kernel
theorem dX9_findColumns_103 : decode cX9_findColumns 103 = .ok (.iload_n 1, 1) := by decide +kernel
theorem dX9_findColumns_104 : decode cX9_findColumns 104 = .ok (.aload_n 0, 1) := by decide +kernel
theorem dX9_findColumns_105 : decode cX9_findColumns 105 = .ok (.getfield 194, 3) := by decide +kernel
theorem dX9_findColumns_108 : decode cX9_findColumns 108 = .ok (.invokevirtual 197, 3) := by decide +kernel
theorem dX9_findColumns_111 : decode cX9_findColumns 111 = .ok (.ifCond .ne 16, 3) := by decide +kernel
theorem dX9_findColumns_127 : decode cX9_findColumns 127 = .ok (.return_, 1) := by decide +kernel
theorem dX9_column_0 : decode cX9_column 0 = .ok (.iload_n 1, 1) := by decide +kernel
theorem dX9_column_1 : decode cX9_column 1 = .ok (.iconst (-1), 1) := by decide +kernel
theorem dX9_column_2 : decode cX9_column 2 = .ok (.if_icmp .eq 12, 3) := by decide +kernel
theorem dX9_column_14 : decode cX9_column 14 = .ok (.aload_n 0, 1) := by decide +kernel
theorem dX9_column_15 : decode cX9_column 15 = .ok (.invokevirtual 206, 3) := by decide +kernel
theorem dX9_column_18 : decode cX9_column 18 = .ok (.iload_n 1, 1) := by decide +kernel
theorem dX9_column_19 : decode cX9_column 19 = .ok (.iconst (-1), 1) := by decide +kernel
theorem dX9_column_20 : decode cX9_column 20 = .ok (.if_icmp .ne 10, 3) := by decide +kernel
theorem dX9_column_23 : decode cX9_column 23 = .ok (.aload_n 0, 1) := by decide +kernel
theorem dX9_column_24 : decode cX9_column 24 = .ok (.getfield 194, 3) := by decide +kernel
theorem dX9_column_27 : decode cX9_column 27 = .ok (.goto 9, 3) := by decide +kernel
theorem dX9_column_36 : decode cX9_column 36 = .ok (.ireturn, 1) := by decide +kernel
theorem dX9_column_5 : decode cX9_column 5 = .ok (.iload_n 1, 1) := by decide +kernel
theorem dX9_column_6 : decode cX9_column 6 = .ok (.invokestatic 132, 3) := by decide +kernel
theorem dX9_column_9 : decode cX9_column 9 = .ok (.ifCond .ne 5, 3) := by decide +kernel
theorem dX9_column_30 : decode cX9_column 30 = .ok (.aload_n 0, 1) := by decide +kernel
theorem dX9_column_31 : decode cX9_column 31 = .ok (.getfield 65, 3) := by decide +kernel
theorem dX9_column_34 : decode cX9_column 34 = .ok (.iload_n 1, 1) := by decide +kernel
theorem dX9_column_35 : decode cX9_column 35 = .ok (.iaload, 1) := by decide +kernel
theorem dX9_column_12 : decode cX9_column 12 = .ok (.iconst (-1), 1) := by decide +kernel
theorem dX9_column_13 : decode cX9_column 13 = .ok (.ireturn, 1) := by decide +kernel
set_option maxHeartbeats 4000000 in
set_option maxRecDepth 100000 in
theorem m_fill (l : Launch) (dC : Nat → ClassId) (dI : Nat → Nat → Nat) (sz : Nat) (h0 : Nat) (w0 : Value) (w1 : Value) (w2 : Value) (w3 : Value) (w4 : Value) (w5 : Value) (w6 : Value) (w7 : Value) (w8 : Value) (w9 : Value) (w10 : Value) (w11 : Value) (w12 : Value) (w13 : Value) (w14 : Value) (w15 : Value) (w16 : Value) (w17 : Value) (w18 : Value) (w19 : Value) (w20 : Value) (w21 : Value) (w22 : Value) (w23 : Value) (f2 : Nat) (w25 : Value) (w26 : Value) (w27 : Value) (w28 : Value) (w29 : Value) (w30 : Value) (w31 : Value) (w32 : Value) (w33 : Value) (w34 : Value) (kf2 : ClassId)  : Met l yX9_fill (wq yX9_fill cX9_fill 6 (some .boolean)) ({ frames := 0, cells := 0, slots := 0, locals := 0 }) (va_Pc [.ref h0, .int 0, .int 0] (pcW dC dI [(kf2, .int)] [(h0, .inr (8, [w0, w1, w2, w3, w4, w5, w6, w7, w8, w9, w10, w11, w12, w13, w14, w15, w16, w17, w18, w19, w20, w21, w22, w23, .ref f2, w25, w26, w27, w28, w29, w30, w31, w32, w33, w34])), (f2, .inl (kf2, 8, .inl (fun _ => 0)))] sz)) (va_Qi (fun (r : Int32) (_ : Unit) => r = 1) (fun _ t => va_P (dC, dI) vwCl [(h0, .inr (8, [w0, w1, w2, w3, w4, w5, w6, w7, w8, w9, w10, w11, w12, w13, w14, w15, w16, w17, w18, w19, w20, w21, w22, w23, .ref f2, w25, w26, w27, w28, w29, w30, w31, w32, w33, w34])), (f2, .inl (kf2, 8, .inl (slF (-6) 0 8)))] t.heap ∧ va_K (dC, dI) vwCl [(kf2, .int)] t ∧ va_D (va_A [(h0, .inr (8, [w0, w1, w2, w3, w4, w5, w6, w7, w8, w9, w10, w11, w12, w13, w14, w15, w16, w17, w18, w19, w20, w21, w22, w23, .ref f2, w25, w26, w27, w28, w29, w30, w31, w32, w33, w34])), (f2, .inl (kf2, 8, .inl (fun _ => 0)))] sz) [(h0, .inr (8, [w0, w1, w2, w3, w4, w5, w6, w7, w8, w9, w10, w11, w12, w13, w14, w15, w16, w17, w18, w19, w20, w21, w22, w23, .ref f2, w25, w26, w27, w28, w29, w30, w31, w32, w33, w34])), (f2, .inl (kf2, 8, .inl (slF (-6) 0 8)))]) (va_A [(h0, .inr (8, [w0, w1, w2, w3, w4, w5, w6, w7, w8, w9, w10, w11, w12, w13, w14, w15, w16, w17, w18, w19, w20, w21, w22, w23, .ref f2, w25, w26, w27, w28, w29, w30, w31, w32, w33, w34])), (f2, .inl (kf2, 8, .inl (fun _ => 0)))] sz)) 0 0 (va_A [(h0, .inr (8, [w0, w1, w2, w3, w4, w5, w6, w7, w8, w9, w10, w11, w12, w13, w14, w15, w16, w17, w18, w19, w20, w21, w22, w23, .ref f2, w25, w26, w27, w28, w29, w30, w31, w32, w33, w34])), (f2, .inl (kf2, 8, .inl (fun _ => 0)))] sz) := by
  refine Met.ofW (cc := cX9_fill) (maxL := 6) (ret := (some .boolean)) (by decide) rfl ?_
  intro p e s m args below meth c s₁ B hml hv
  obtain ⟨rfl, hsz, hN, hP, hK, hD0⟩ := hv
  have hx := B.exec
  have hb := B.bytes
  have hr := B.returns
  have hts0 := atoms_spec (ws := (wq yX9_fill cX9_fill 6 (some .boolean))) B.pre
  have hts : ∀ w ∈ BG, w.before _ s = true := fun w h => hts0 w (List.mem_cons_of_mem _ h)
  have hown : s.vm.findClass RX9 = some m.cls := findClass_of_methodNamed B.named
  have hlocks := B.notSynchronized
  subst hsz
  have hD := hD0.self (sz := s.heap.size)
  generalize hAe : va_A [(h0, .inr (8, [w0, w1, w2, w3, w4, w5, w6, w7, w8, w9, w10, w11, w12, w13, w14, w15, w16, w17, w18, w19, w20, w21, w22, w23, .ref f2, w25, w26, w27, w28, w29, w30, w31, w32, w33, w34])), (f2, .inl (kf2, 8, .inl (fun _ => 0)))] s.heap.size = A at hD ⊢
  have hA : ∀ q : Nat, s.heap.size ≤ q → A q := fun q h => by rw [← hAe]; exact Or.inr h
  have hS : va_S A s.heap s.heap [] := va_S.rf
  have hP : va_P (dC, dI) vwCl [(h0, .inr (8, [w0, w1, w2, w3, w4, w5, w6, w7, w8, w9, w10, w11, w12, w13, w14, w15, w16, w17, w18, w19, w20, w21, w22, w23, .ref f2, w25, w26, w27, w28, w29, w30, w31, w32, w33, w34])), (f2, .inl (kf2, 8, .inl (fun _ => 0)))] s.heap := hP
  have hl := lv_entry ([.ref h0, .int 0, .int 0]) (n := 6) (Nat.le_of_ble_eq_true rfl)
  rw [lg_entry_eq]
  generalize (lg_sl ([.ref h0, .int 0, .int 0]) ++ List.replicate (6 - (lg_sl ([.ref h0, .int 0, .int 0])).length) Slot.unset).toArray = ls at hl ⊢
  have hl : lv_has ls 6 [(0, .ref h0), (1, .int 0), (2, .int 0)] := hl
  skip
  refine lv_iconst (v := 0) hx hb dX9_fill_0 (by decide) ?_
  refine lv_istore_n (lv' := [(3, .int 0), (0, .ref h0), (1, .int 0), (2, .int 0)]) hx hb dX9_fill_1 rfl hl (by decide) rfl (fun ls hl => ?_)
  refine lv_iconst (v := 1) hx hb dX9_fill_2 (by decide) ?_
  refine lv_istore (lv' := [(4, .int 1), (3, .int 0), (0, .ref h0), (1, .int 0), (2, .int 0)]) hx hb dX9_fill_3 hl (by decide) rfl (fun ls hl => ?_)
  refine lv_iload_n hx hb dX9_fill_5 rfl (lv_at hl 1 rfl) ?_
  refine lv_if_lt (tgt := 152) hx hb dX9_fill_6 (by decide) (fun h => absurd h (by decide)) (fun _ => ?_)
  refine lv_iload_n hx hb dX9_fill_9 rfl (lv_at hl 1 rfl) ?_
  refine lv_bipush (v := 8) hx hb dX9_fill_10 (by decide) ?_
  refine lv_icmp_ge (tgt := 152) hx hb dX9_fill_12 (by decide) (fun h => absurd h (by decide)) (fun _ => ?_)
  refine lv_iload_n hx hb dX9_fill_15 rfl (lv_at hl 3 rfl) ?_
  refine lv_iload_n hx hb dX9_fill_16 rfl (lv_at hl 1 rfl) ?_
  refine lv_ishr hx hb dX9_fill_17 ?_
  refine hx_top (y := 0) (by decide) ?_
  refine lv_iconst (v := 1) hx hb dX9_fill_18 (by decide) ?_
  refine lv_iand hx hb dX9_fill_19 ?_
  refine hx_top (y := 0) (by decide) ?_
  refine lv_if_ne (tgt := 34) hx hb dX9_fill_20 (by decide) (fun h => absurd h (by decide)) (fun _ => ?_)
  refine lv_aload_n hx hb dX9_fill_23 rfl (lv_at hl 2 rfl) ?_
  refine va_get (D := (dC, dI)) (ci := 8) (v := .ref f2) (C := RX9) (T := TX9) (N := 35) hx hb hts inB_9 hown hK hP 0 rfl rfl 24 (by decide) (hts _ mw_3_206) (fun _ h9 => h9) rfl dX9_fill_24 ?_
  refine lv_iload_n hx hb dX9_fill_27 rfl (lv_at hl 1 rfl) ?_
  refine lv_bipush (v := (-6)) hx hb dX9_fill_28 (by decide) ?_
  refine va_iast hx hb hK hP hD hS 1 0 rfl rfl (show vp_in 0 8 by unfold vp_in; decide) dX9_fill_30 (fun H locs hP hD hS => ?_)
  rw [show upd (fun _ => 0) (Int32.toNatClampNeg 0) (-6) = (slF (-6) 0 1) from slF_u0 _ _] at hP hD
  have hP : va_P (dC, dI) vwCl [(h0, .inr (8, [w0, w1, w2, w3, w4, w5, w6, w7, w8, w9, w10, w11, w12, w13, w14, w15, w16, w17, w18, w19, w20, w21, w22, w23, .ref f2, w25, w26, w27, w28, w29, w30, w31, w32, w33, w34])), (f2, .inl (kf2, 8, .inl (slF (-6) 0 1)))] H := hP
  have hD : va_D A [(h0, .inr (8, [w0, w1, w2, w3, w4, w5, w6, w7, w8, w9, w10, w11, w12, w13, w14, w15, w16, w17, w18, w19, w20, w21, w22, w23, .ref f2, w25, w26, w27, w28, w29, w30, w31, w32, w33, w34])), (f2, .inl (kf2, 8, .inl (slF (-6) 0 1)))] := hD
  refine lv_goto (tgt := 136) hx hb dX9_fill_31 (by decide) ?_
  refine lv_iload_n hx hb dX9_fill_136 rfl (lv_at hl 1 rfl) ?_
  refine lv_iload hx hb dX9_fill_137 (lv_at hl 0 rfl) ?_
  refine lv_if_eq (tgt := 146) hx hb dX9_fill_139 (by decide) (fun h => absurd h (by decide)) (fun _ => ?_)
  refine lv_iconst (v := 1) hx hb dX9_fill_142 (by decide) ?_
  refine lv_goto (tgt := 147) hx hb dX9_fill_143 (by decide) ?_
  refine lv_iadd hx hb dX9_fill_147 ?_
  refine hx_top (y := 1) (by decide) ?_
  refine lv_istore_n (lv' := [(3, .int 1), (4, .int 1), (0, .ref h0), (1, .int 0), (2, .int 0)]) hx hb dX9_fill_148 rfl hl (by decide) rfl (fun ls hl => ?_)
  refine lv_goto (tgt := 5) hx hb dX9_fill_149 (by decide) ?_
  refine lv_iload_n hx hb dX9_fill_5 rfl (lv_at hl 0 rfl) ?_
  refine lv_if_lt (tgt := 152) hx hb dX9_fill_6 (by decide) (fun h => absurd h (by decide)) (fun _ => ?_)
  refine lv_iload_n hx hb dX9_fill_9 rfl (lv_at hl 0 rfl) ?_
  refine lv_bipush (v := 8) hx hb dX9_fill_10 (by decide) ?_
  refine lv_icmp_ge (tgt := 152) hx hb dX9_fill_12 (by decide) (fun h => absurd h (by decide)) (fun _ => ?_)
  refine lv_iload_n hx hb dX9_fill_15 rfl (lv_at hl 3 rfl) ?_
  refine lv_iload_n hx hb dX9_fill_16 rfl (lv_at hl 0 rfl) ?_
  refine lv_ishr hx hb dX9_fill_17 ?_
  refine hx_top (y := 0) (by decide) ?_
  refine lv_iconst (v := 1) hx hb dX9_fill_18 (by decide) ?_
  refine lv_iand hx hb dX9_fill_19 ?_
  refine hx_top (y := 0) (by decide) ?_
  refine lv_if_ne (tgt := 34) hx hb dX9_fill_20 (by decide) (fun h => absurd h (by decide)) (fun _ => ?_)
  refine lv_aload_n hx hb dX9_fill_23 rfl (lv_at hl 2 rfl) ?_
  refine va_get (D := (dC, dI)) (ci := 8) (v := .ref f2) (C := RX9) (T := TX9) (N := 35) hx hb hts inB_9 hown hK hP 0 rfl rfl 24 (by decide) (hts _ mw_3_206) (fun _ h9 => h9) rfl dX9_fill_24 ?_
  refine lv_iload_n hx hb dX9_fill_27 rfl (lv_at hl 0 rfl) ?_
  refine lv_bipush (v := (-6)) hx hb dX9_fill_28 (by decide) ?_
  refine va_iast hx hb hK hP hD hS 1 0 rfl rfl (show vp_in 1 8 by unfold vp_in; decide) dX9_fill_30 (fun H locs hP hD hS => ?_)
  rw [show upd (slF (-6) 0 1) (Int32.toNatClampNeg 1) (-6) = (slF (-6) 0 2) from slF_u _ _ 1] at hP hD
  have hP : va_P (dC, dI) vwCl [(h0, .inr (8, [w0, w1, w2, w3, w4, w5, w6, w7, w8, w9, w10, w11, w12, w13, w14, w15, w16, w17, w18, w19, w20, w21, w22, w23, .ref f2, w25, w26, w27, w28, w29, w30, w31, w32, w33, w34])), (f2, .inl (kf2, 8, .inl (slF (-6) 0 2)))] H := hP
  have hD : va_D A [(h0, .inr (8, [w0, w1, w2, w3, w4, w5, w6, w7, w8, w9, w10, w11, w12, w13, w14, w15, w16, w17, w18, w19, w20, w21, w22, w23, .ref f2, w25, w26, w27, w28, w29, w30, w31, w32, w33, w34])), (f2, .inl (kf2, 8, .inl (slF (-6) 0 2)))] := hD
  refine lv_goto (tgt := 136) hx hb dX9_fill_31 (by decide) ?_
  refine lv_iload_n hx hb dX9_fill_136 rfl (lv_at hl 0 rfl) ?_
  refine lv_iload hx hb dX9_fill_137 (lv_at hl 1 rfl) ?_
  refine lv_if_eq (tgt := 146) hx hb dX9_fill_139 (by decide) (fun h => absurd h (by decide)) (fun _ => ?_)
  refine lv_iconst (v := 1) hx hb dX9_fill_142 (by decide) ?_
  refine lv_goto (tgt := 147) hx hb dX9_fill_143 (by decide) ?_
  refine lv_iadd hx hb dX9_fill_147 ?_
  refine hx_top (y := 2) (by decide) ?_
  refine lv_istore_n (lv' := [(3, .int 2), (4, .int 1), (0, .ref h0), (1, .int 0), (2, .int 0)]) hx hb dX9_fill_148 rfl hl (by decide) rfl (fun ls hl => ?_)
  refine lv_goto (tgt := 5) hx hb dX9_fill_149 (by decide) ?_
  refine lv_iload_n hx hb dX9_fill_5 rfl (lv_at hl 0 rfl) ?_
  refine lv_if_lt (tgt := 152) hx hb dX9_fill_6 (by decide) (fun h => absurd h (by decide)) (fun _ => ?_)
  refine lv_iload_n hx hb dX9_fill_9 rfl (lv_at hl 0 rfl) ?_
  refine lv_bipush (v := 8) hx hb dX9_fill_10 (by decide) ?_
  refine lv_icmp_ge (tgt := 152) hx hb dX9_fill_12 (by decide) (fun h => absurd h (by decide)) (fun _ => ?_)
  refine lv_iload_n hx hb dX9_fill_15 rfl (lv_at hl 3 rfl) ?_
  refine lv_iload_n hx hb dX9_fill_16 rfl (lv_at hl 0 rfl) ?_
  refine lv_ishr hx hb dX9_fill_17 ?_
  refine hx_top (y := 0) (by decide) ?_
  refine lv_iconst (v := 1) hx hb dX9_fill_18 (by decide) ?_
  refine lv_iand hx hb dX9_fill_19 ?_
  refine hx_top (y := 0) (by decide) ?_
  refine lv_if_ne (tgt := 34) hx hb dX9_fill_20 (by decide) (fun h => absurd h (by decide)) (fun _ => ?_)
  refine lv_aload_n hx hb dX9_fill_23 rfl (lv_at hl 2 rfl) ?_
  refine va_get (D := (dC, dI)) (ci := 8) (v := .ref f2) (C := RX9) (T := TX9) (N := 35) hx hb hts inB_9 hown hK hP 0 rfl rfl 24 (by decide) (hts _ mw_3_206) (fun _ h9 => h9) rfl dX9_fill_24 ?_
  refine lv_iload_n hx hb dX9_fill_27 rfl (lv_at hl 0 rfl) ?_
  refine lv_bipush (v := (-6)) hx hb dX9_fill_28 (by decide) ?_
  refine va_iast hx hb hK hP hD hS 1 0 rfl rfl (show vp_in 2 8 by unfold vp_in; decide) dX9_fill_30 (fun H locs hP hD hS => ?_)
  rw [show upd (slF (-6) 0 2) (Int32.toNatClampNeg 2) (-6) = (slF (-6) 0 3) from slF_u _ _ 2] at hP hD
  have hP : va_P (dC, dI) vwCl [(h0, .inr (8, [w0, w1, w2, w3, w4, w5, w6, w7, w8, w9, w10, w11, w12, w13, w14, w15, w16, w17, w18, w19, w20, w21, w22, w23, .ref f2, w25, w26, w27, w28, w29, w30, w31, w32, w33, w34])), (f2, .inl (kf2, 8, .inl (slF (-6) 0 3)))] H := hP
  have hD : va_D A [(h0, .inr (8, [w0, w1, w2, w3, w4, w5, w6, w7, w8, w9, w10, w11, w12, w13, w14, w15, w16, w17, w18, w19, w20, w21, w22, w23, .ref f2, w25, w26, w27, w28, w29, w30, w31, w32, w33, w34])), (f2, .inl (kf2, 8, .inl (slF (-6) 0 3)))] := hD
  refine lv_goto (tgt := 136) hx hb dX9_fill_31 (by decide) ?_
  refine lv_iload_n hx hb dX9_fill_136 rfl (lv_at hl 0 rfl) ?_
  refine lv_iload hx hb dX9_fill_137 (lv_at hl 1 rfl) ?_
  refine lv_if_eq (tgt := 146) hx hb dX9_fill_139 (by decide) (fun h => absurd h (by decide)) (fun _ => ?_)
  refine lv_iconst (v := 1) hx hb dX9_fill_142 (by decide) ?_
  refine lv_goto (tgt := 147) hx hb dX9_fill_143 (by decide) ?_
  refine lv_iadd hx hb dX9_fill_147 ?_
  refine hx_top (y := 3) (by decide) ?_
  refine lv_istore_n (lv' := [(3, .int 3), (4, .int 1), (0, .ref h0), (1, .int 0), (2, .int 0)]) hx hb dX9_fill_148 rfl hl (by decide) rfl (fun ls hl => ?_)
  refine lv_goto (tgt := 5) hx hb dX9_fill_149 (by decide) ?_
  refine lv_iload_n hx hb dX9_fill_5 rfl (lv_at hl 0 rfl) ?_
  refine lv_if_lt (tgt := 152) hx hb dX9_fill_6 (by decide) (fun h => absurd h (by decide)) (fun _ => ?_)
  refine lv_iload_n hx hb dX9_fill_9 rfl (lv_at hl 0 rfl) ?_
  refine lv_bipush (v := 8) hx hb dX9_fill_10 (by decide) ?_
  refine lv_icmp_ge (tgt := 152) hx hb dX9_fill_12 (by decide) (fun h => absurd h (by decide)) (fun _ => ?_)
  refine lv_iload_n hx hb dX9_fill_15 rfl (lv_at hl 3 rfl) ?_
  refine lv_iload_n hx hb dX9_fill_16 rfl (lv_at hl 0 rfl) ?_
  refine lv_ishr hx hb dX9_fill_17 ?_
  refine hx_top (y := 0) (by decide) ?_
  refine lv_iconst (v := 1) hx hb dX9_fill_18 (by decide) ?_
  refine lv_iand hx hb dX9_fill_19 ?_
  refine hx_top (y := 0) (by decide) ?_
  refine lv_if_ne (tgt := 34) hx hb dX9_fill_20 (by decide) (fun h => absurd h (by decide)) (fun _ => ?_)
  refine lv_aload_n hx hb dX9_fill_23 rfl (lv_at hl 2 rfl) ?_
  refine va_get (D := (dC, dI)) (ci := 8) (v := .ref f2) (C := RX9) (T := TX9) (N := 35) hx hb hts inB_9 hown hK hP 0 rfl rfl 24 (by decide) (hts _ mw_3_206) (fun _ h9 => h9) rfl dX9_fill_24 ?_
  refine lv_iload_n hx hb dX9_fill_27 rfl (lv_at hl 0 rfl) ?_
  refine lv_bipush (v := (-6)) hx hb dX9_fill_28 (by decide) ?_
  refine va_iast hx hb hK hP hD hS 1 0 rfl rfl (show vp_in 3 8 by unfold vp_in; decide) dX9_fill_30 (fun H locs hP hD hS => ?_)
  rw [show upd (slF (-6) 0 3) (Int32.toNatClampNeg 3) (-6) = (slF (-6) 0 4) from slF_u _ _ 3] at hP hD
  have hP : va_P (dC, dI) vwCl [(h0, .inr (8, [w0, w1, w2, w3, w4, w5, w6, w7, w8, w9, w10, w11, w12, w13, w14, w15, w16, w17, w18, w19, w20, w21, w22, w23, .ref f2, w25, w26, w27, w28, w29, w30, w31, w32, w33, w34])), (f2, .inl (kf2, 8, .inl (slF (-6) 0 4)))] H := hP
  have hD : va_D A [(h0, .inr (8, [w0, w1, w2, w3, w4, w5, w6, w7, w8, w9, w10, w11, w12, w13, w14, w15, w16, w17, w18, w19, w20, w21, w22, w23, .ref f2, w25, w26, w27, w28, w29, w30, w31, w32, w33, w34])), (f2, .inl (kf2, 8, .inl (slF (-6) 0 4)))] := hD
  refine lv_goto (tgt := 136) hx hb dX9_fill_31 (by decide) ?_
  refine lv_iload_n hx hb dX9_fill_136 rfl (lv_at hl 0 rfl) ?_
  refine lv_iload hx hb dX9_fill_137 (lv_at hl 1 rfl) ?_
  refine lv_if_eq (tgt := 146) hx hb dX9_fill_139 (by decide) (fun h => absurd h (by decide)) (fun _ => ?_)
  refine lv_iconst (v := 1) hx hb dX9_fill_142 (by decide) ?_
  refine lv_goto (tgt := 147) hx hb dX9_fill_143 (by decide) ?_
  refine lv_iadd hx hb dX9_fill_147 ?_
  refine hx_top (y := 4) (by decide) ?_
  refine lv_istore_n (lv' := [(3, .int 4), (4, .int 1), (0, .ref h0), (1, .int 0), (2, .int 0)]) hx hb dX9_fill_148 rfl hl (by decide) rfl (fun ls hl => ?_)
  refine lv_goto (tgt := 5) hx hb dX9_fill_149 (by decide) ?_
  refine lv_iload_n hx hb dX9_fill_5 rfl (lv_at hl 0 rfl) ?_
  refine lv_if_lt (tgt := 152) hx hb dX9_fill_6 (by decide) (fun h => absurd h (by decide)) (fun _ => ?_)
  refine lv_iload_n hx hb dX9_fill_9 rfl (lv_at hl 0 rfl) ?_
  refine lv_bipush (v := 8) hx hb dX9_fill_10 (by decide) ?_
  refine lv_icmp_ge (tgt := 152) hx hb dX9_fill_12 (by decide) (fun h => absurd h (by decide)) (fun _ => ?_)
  refine lv_iload_n hx hb dX9_fill_15 rfl (lv_at hl 3 rfl) ?_
  refine lv_iload_n hx hb dX9_fill_16 rfl (lv_at hl 0 rfl) ?_
  refine lv_ishr hx hb dX9_fill_17 ?_
  refine hx_top (y := 0) (by decide) ?_
  refine lv_iconst (v := 1) hx hb dX9_fill_18 (by decide) ?_
  refine lv_iand hx hb dX9_fill_19 ?_
  refine hx_top (y := 0) (by decide) ?_
  refine lv_if_ne (tgt := 34) hx hb dX9_fill_20 (by decide) (fun h => absurd h (by decide)) (fun _ => ?_)
  refine lv_aload_n hx hb dX9_fill_23 rfl (lv_at hl 2 rfl) ?_
  refine va_get (D := (dC, dI)) (ci := 8) (v := .ref f2) (C := RX9) (T := TX9) (N := 35) hx hb hts inB_9 hown hK hP 0 rfl rfl 24 (by decide) (hts _ mw_3_206) (fun _ h9 => h9) rfl dX9_fill_24 ?_
  refine lv_iload_n hx hb dX9_fill_27 rfl (lv_at hl 0 rfl) ?_
  refine lv_bipush (v := (-6)) hx hb dX9_fill_28 (by decide) ?_
  refine va_iast hx hb hK hP hD hS 1 0 rfl rfl (show vp_in 4 8 by unfold vp_in; decide) dX9_fill_30 (fun H locs hP hD hS => ?_)
  rw [show upd (slF (-6) 0 4) (Int32.toNatClampNeg 4) (-6) = (slF (-6) 0 5) from slF_u _ _ 4] at hP hD
  have hP : va_P (dC, dI) vwCl [(h0, .inr (8, [w0, w1, w2, w3, w4, w5, w6, w7, w8, w9, w10, w11, w12, w13, w14, w15, w16, w17, w18, w19, w20, w21, w22, w23, .ref f2, w25, w26, w27, w28, w29, w30, w31, w32, w33, w34])), (f2, .inl (kf2, 8, .inl (slF (-6) 0 5)))] H := hP
  have hD : va_D A [(h0, .inr (8, [w0, w1, w2, w3, w4, w5, w6, w7, w8, w9, w10, w11, w12, w13, w14, w15, w16, w17, w18, w19, w20, w21, w22, w23, .ref f2, w25, w26, w27, w28, w29, w30, w31, w32, w33, w34])), (f2, .inl (kf2, 8, .inl (slF (-6) 0 5)))] := hD
  refine lv_goto (tgt := 136) hx hb dX9_fill_31 (by decide) ?_
  refine lv_iload_n hx hb dX9_fill_136 rfl (lv_at hl 0 rfl) ?_
  refine lv_iload hx hb dX9_fill_137 (lv_at hl 1 rfl) ?_
  refine lv_if_eq (tgt := 146) hx hb dX9_fill_139 (by decide) (fun h => absurd h (by decide)) (fun _ => ?_)
  refine lv_iconst (v := 1) hx hb dX9_fill_142 (by decide) ?_
  refine lv_goto (tgt := 147) hx hb dX9_fill_143 (by decide) ?_
  refine lv_iadd hx hb dX9_fill_147 ?_
  refine hx_top (y := 5) (by decide) ?_
  refine lv_istore_n (lv' := [(3, .int 5), (4, .int 1), (0, .ref h0), (1, .int 0), (2, .int 0)]) hx hb dX9_fill_148 rfl hl (by decide) rfl (fun ls hl => ?_)
  refine lv_goto (tgt := 5) hx hb dX9_fill_149 (by decide) ?_
  refine lv_iload_n hx hb dX9_fill_5 rfl (lv_at hl 0 rfl) ?_
  refine lv_if_lt (tgt := 152) hx hb dX9_fill_6 (by decide) (fun h => absurd h (by decide)) (fun _ => ?_)
  refine lv_iload_n hx hb dX9_fill_9 rfl (lv_at hl 0 rfl) ?_
  refine lv_bipush (v := 8) hx hb dX9_fill_10 (by decide) ?_
  refine lv_icmp_ge (tgt := 152) hx hb dX9_fill_12 (by decide) (fun h => absurd h (by decide)) (fun _ => ?_)
  refine lv_iload_n hx hb dX9_fill_15 rfl (lv_at hl 3 rfl) ?_
  refine lv_iload_n hx hb dX9_fill_16 rfl (lv_at hl 0 rfl) ?_
  refine lv_ishr hx hb dX9_fill_17 ?_
  refine hx_top (y := 0) (by decide) ?_
  refine lv_iconst (v := 1) hx hb dX9_fill_18 (by decide) ?_
  refine lv_iand hx hb dX9_fill_19 ?_
  refine hx_top (y := 0) (by decide) ?_
  refine lv_if_ne (tgt := 34) hx hb dX9_fill_20 (by decide) (fun h => absurd h (by decide)) (fun _ => ?_)
  refine lv_aload_n hx hb dX9_fill_23 rfl (lv_at hl 2 rfl) ?_
  refine va_get (D := (dC, dI)) (ci := 8) (v := .ref f2) (C := RX9) (T := TX9) (N := 35) hx hb hts inB_9 hown hK hP 0 rfl rfl 24 (by decide) (hts _ mw_3_206) (fun _ h9 => h9) rfl dX9_fill_24 ?_
  refine lv_iload_n hx hb dX9_fill_27 rfl (lv_at hl 0 rfl) ?_
  refine lv_bipush (v := (-6)) hx hb dX9_fill_28 (by decide) ?_
  refine va_iast hx hb hK hP hD hS 1 0 rfl rfl (show vp_in 5 8 by unfold vp_in; decide) dX9_fill_30 (fun H locs hP hD hS => ?_)
  rw [show upd (slF (-6) 0 5) (Int32.toNatClampNeg 5) (-6) = (slF (-6) 0 6) from slF_u _ _ 5] at hP hD
  have hP : va_P (dC, dI) vwCl [(h0, .inr (8, [w0, w1, w2, w3, w4, w5, w6, w7, w8, w9, w10, w11, w12, w13, w14, w15, w16, w17, w18, w19, w20, w21, w22, w23, .ref f2, w25, w26, w27, w28, w29, w30, w31, w32, w33, w34])), (f2, .inl (kf2, 8, .inl (slF (-6) 0 6)))] H := hP
  have hD : va_D A [(h0, .inr (8, [w0, w1, w2, w3, w4, w5, w6, w7, w8, w9, w10, w11, w12, w13, w14, w15, w16, w17, w18, w19, w20, w21, w22, w23, .ref f2, w25, w26, w27, w28, w29, w30, w31, w32, w33, w34])), (f2, .inl (kf2, 8, .inl (slF (-6) 0 6)))] := hD
  refine lv_goto (tgt := 136) hx hb dX9_fill_31 (by decide) ?_
  refine lv_iload_n hx hb dX9_fill_136 rfl (lv_at hl 0 rfl) ?_
  refine lv_iload hx hb dX9_fill_137 (lv_at hl 1 rfl) ?_
  refine lv_if_eq (tgt := 146) hx hb dX9_fill_139 (by decide) (fun h => absurd h (by decide)) (fun _ => ?_)
  refine lv_iconst (v := 1) hx hb dX9_fill_142 (by decide) ?_
  refine lv_goto (tgt := 147) hx hb dX9_fill_143 (by decide) ?_
  refine lv_iadd hx hb dX9_fill_147 ?_
  refine hx_top (y := 6) (by decide) ?_
  refine lv_istore_n (lv' := [(3, .int 6), (4, .int 1), (0, .ref h0), (1, .int 0), (2, .int 0)]) hx hb dX9_fill_148 rfl hl (by decide) rfl (fun ls hl => ?_)
  refine lv_goto (tgt := 5) hx hb dX9_fill_149 (by decide) ?_
  refine lv_iload_n hx hb dX9_fill_5 rfl (lv_at hl 0 rfl) ?_
  refine lv_if_lt (tgt := 152) hx hb dX9_fill_6 (by decide) (fun h => absurd h (by decide)) (fun _ => ?_)
  refine lv_iload_n hx hb dX9_fill_9 rfl (lv_at hl 0 rfl) ?_
  refine lv_bipush (v := 8) hx hb dX9_fill_10 (by decide) ?_
  refine lv_icmp_ge (tgt := 152) hx hb dX9_fill_12 (by decide) (fun h => absurd h (by decide)) (fun _ => ?_)
  refine lv_iload_n hx hb dX9_fill_15 rfl (lv_at hl 3 rfl) ?_
  refine lv_iload_n hx hb dX9_fill_16 rfl (lv_at hl 0 rfl) ?_
  refine lv_ishr hx hb dX9_fill_17 ?_
  refine hx_top (y := 0) (by decide) ?_
  refine lv_iconst (v := 1) hx hb dX9_fill_18 (by decide) ?_
  refine lv_iand hx hb dX9_fill_19 ?_
  refine hx_top (y := 0) (by decide) ?_
  refine lv_if_ne (tgt := 34) hx hb dX9_fill_20 (by decide) (fun h => absurd h (by decide)) (fun _ => ?_)
  refine lv_aload_n hx hb dX9_fill_23 rfl (lv_at hl 2 rfl) ?_
  refine va_get (D := (dC, dI)) (ci := 8) (v := .ref f2) (C := RX9) (T := TX9) (N := 35) hx hb hts inB_9 hown hK hP 0 rfl rfl 24 (by decide) (hts _ mw_3_206) (fun _ h9 => h9) rfl dX9_fill_24 ?_
  refine lv_iload_n hx hb dX9_fill_27 rfl (lv_at hl 0 rfl) ?_
  refine lv_bipush (v := (-6)) hx hb dX9_fill_28 (by decide) ?_
  refine va_iast hx hb hK hP hD hS 1 0 rfl rfl (show vp_in 6 8 by unfold vp_in; decide) dX9_fill_30 (fun H locs hP hD hS => ?_)
  rw [show upd (slF (-6) 0 6) (Int32.toNatClampNeg 6) (-6) = (slF (-6) 0 7) from slF_u _ _ 6] at hP hD
  have hP : va_P (dC, dI) vwCl [(h0, .inr (8, [w0, w1, w2, w3, w4, w5, w6, w7, w8, w9, w10, w11, w12, w13, w14, w15, w16, w17, w18, w19, w20, w21, w22, w23, .ref f2, w25, w26, w27, w28, w29, w30, w31, w32, w33, w34])), (f2, .inl (kf2, 8, .inl (slF (-6) 0 7)))] H := hP
  have hD : va_D A [(h0, .inr (8, [w0, w1, w2, w3, w4, w5, w6, w7, w8, w9, w10, w11, w12, w13, w14, w15, w16, w17, w18, w19, w20, w21, w22, w23, .ref f2, w25, w26, w27, w28, w29, w30, w31, w32, w33, w34])), (f2, .inl (kf2, 8, .inl (slF (-6) 0 7)))] := hD
  refine lv_goto (tgt := 136) hx hb dX9_fill_31 (by decide) ?_
  refine lv_iload_n hx hb dX9_fill_136 rfl (lv_at hl 0 rfl) ?_
  refine lv_iload hx hb dX9_fill_137 (lv_at hl 1 rfl) ?_
  refine lv_if_eq (tgt := 146) hx hb dX9_fill_139 (by decide) (fun h => absurd h (by decide)) (fun _ => ?_)
  refine lv_iconst (v := 1) hx hb dX9_fill_142 (by decide) ?_
  refine lv_goto (tgt := 147) hx hb dX9_fill_143 (by decide) ?_
  refine lv_iadd hx hb dX9_fill_147 ?_
  refine hx_top (y := 7) (by decide) ?_
  refine lv_istore_n (lv' := [(3, .int 7), (4, .int 1), (0, .ref h0), (1, .int 0), (2, .int 0)]) hx hb dX9_fill_148 rfl hl (by decide) rfl (fun ls hl => ?_)
  refine lv_goto (tgt := 5) hx hb dX9_fill_149 (by decide) ?_
  refine lv_iload_n hx hb dX9_fill_5 rfl (lv_at hl 0 rfl) ?_
  refine lv_if_lt (tgt := 152) hx hb dX9_fill_6 (by decide) (fun h => absurd h (by decide)) (fun _ => ?_)
  refine lv_iload_n hx hb dX9_fill_9 rfl (lv_at hl 0 rfl) ?_
  refine lv_bipush (v := 8) hx hb dX9_fill_10 (by decide) ?_
  refine lv_icmp_ge (tgt := 152) hx hb dX9_fill_12 (by decide) (fun h => absurd h (by decide)) (fun _ => ?_)
  refine lv_iload_n hx hb dX9_fill_15 rfl (lv_at hl 3 rfl) ?_
  refine lv_iload_n hx hb dX9_fill_16 rfl (lv_at hl 0 rfl) ?_
  refine lv_ishr hx hb dX9_fill_17 ?_
  refine hx_top (y := 0) (by decide) ?_
  refine lv_iconst (v := 1) hx hb dX9_fill_18 (by decide) ?_
  refine lv_iand hx hb dX9_fill_19 ?_
  refine hx_top (y := 0) (by decide) ?_
  refine lv_if_ne (tgt := 34) hx hb dX9_fill_20 (by decide) (fun h => absurd h (by decide)) (fun _ => ?_)
  refine lv_aload_n hx hb dX9_fill_23 rfl (lv_at hl 2 rfl) ?_
  refine va_get (D := (dC, dI)) (ci := 8) (v := .ref f2) (C := RX9) (T := TX9) (N := 35) hx hb hts inB_9 hown hK hP 0 rfl rfl 24 (by decide) (hts _ mw_3_206) (fun _ h9 => h9) rfl dX9_fill_24 ?_
  refine lv_iload_n hx hb dX9_fill_27 rfl (lv_at hl 0 rfl) ?_
  refine lv_bipush (v := (-6)) hx hb dX9_fill_28 (by decide) ?_
  refine va_iast hx hb hK hP hD hS 1 0 rfl rfl (show vp_in 7 8 by unfold vp_in; decide) dX9_fill_30 (fun H locs hP hD hS => ?_)
  rw [show upd (slF (-6) 0 7) (Int32.toNatClampNeg 7) (-6) = (slF (-6) 0 8) from slF_u _ _ 7] at hP hD
  have hP : va_P (dC, dI) vwCl [(h0, .inr (8, [w0, w1, w2, w3, w4, w5, w6, w7, w8, w9, w10, w11, w12, w13, w14, w15, w16, w17, w18, w19, w20, w21, w22, w23, .ref f2, w25, w26, w27, w28, w29, w30, w31, w32, w33, w34])), (f2, .inl (kf2, 8, .inl (slF (-6) 0 8)))] H := hP
  have hD : va_D A [(h0, .inr (8, [w0, w1, w2, w3, w4, w5, w6, w7, w8, w9, w10, w11, w12, w13, w14, w15, w16, w17, w18, w19, w20, w21, w22, w23, .ref f2, w25, w26, w27, w28, w29, w30, w31, w32, w33, w34])), (f2, .inl (kf2, 8, .inl (slF (-6) 0 8)))] := hD
  refine lv_goto (tgt := 136) hx hb dX9_fill_31 (by decide) ?_
  refine lv_iload_n hx hb dX9_fill_136 rfl (lv_at hl 0 rfl) ?_
  refine lv_iload hx hb dX9_fill_137 (lv_at hl 1 rfl) ?_
  refine lv_if_eq (tgt := 146) hx hb dX9_fill_139 (by decide) (fun h => absurd h (by decide)) (fun _ => ?_)
  refine lv_iconst (v := 1) hx hb dX9_fill_142 (by decide) ?_
  refine lv_goto (tgt := 147) hx hb dX9_fill_143 (by decide) ?_
  refine lv_iadd hx hb dX9_fill_147 ?_
  refine hx_top (y := 8) (by decide) ?_
  refine lv_istore_n (lv' := [(3, .int 8), (4, .int 1), (0, .ref h0), (1, .int 0), (2, .int 0)]) hx hb dX9_fill_148 rfl hl (by decide) rfl (fun ls hl => ?_)
  refine lv_goto (tgt := 5) hx hb dX9_fill_149 (by decide) ?_
  refine lv_iload_n hx hb dX9_fill_5 rfl (lv_at hl 0 rfl) ?_
  refine lv_if_lt (tgt := 152) hx hb dX9_fill_6 (by decide) (fun h => absurd h (by decide)) (fun _ => ?_)
  refine lv_iload_n hx hb dX9_fill_9 rfl (lv_at hl 0 rfl) ?_
  refine lv_bipush (v := 8) hx hb dX9_fill_10 (by decide) ?_
  refine lv_icmp_ge (tgt := 152) hx hb dX9_fill_12 (by decide) (fun _ => ?_) (fun h => absurd (by decide) h)
  refine lv_iload_n hx hb dX9_fill_152 rfl (lv_at hl 0 rfl) ?_
  refine lv_bipush (v := 8) hx hb dX9_fill_153 (by decide) ?_
  refine lv_icmp_ne (tgt := 162) hx hb dX9_fill_155 (by decide) (fun h => absurd h (by decide)) (fun _ => ?_)
  refine lv_iconst (v := 1) hx hb dX9_fill_158 (by decide) ?_
  refine lv_goto (tgt := 163) hx hb dX9_fill_159 (by decide) ?_
  exact W.zret (v := 1) hx hb hr (by decide) (fun t ht hW => ⟨⟨1, (), rfl, rfl, by rw [ht]; exact hP, va_K.moved hW.alike hK, hD⟩, hS.F ht⟩) hS.2.2 dX9_fill_163
set_option maxHeartbeats 4000000 in
set_option maxRecDepth 100000 in
theorem m_findC (l : Launch) (dC : Nat → ClassId) (dI : Nat → Nat → Nat) (sz : Nat) (h0 : Nat) (w0 : Value) (w1 : Value) (w2 : Value) (w3 : Value) (w5 : Value) (w6 : Value) (w7 : Value) (w8 : Value) (w9 : Value) (w10 : Value) (w11 : Value) (w12 : Value) (w13 : Value) (w14 : Value) (w15 : Value) (w16 : Value) (w17 : Value) (w18 : Value) (w19 : Value) (w20 : Value) (w21 : Value) (w22 : Value) (f1 : Nat) (f2 : Nat) (cm : Int32) (w26 : Value) (w27 : Value) (w28 : Value) (w29 : Value) (w30 : Value) (w31 : Value) (w32 : Value) (w33 : Value) (w34 : Value) (kf1 : ClassId) (kf2 : ClassId)  : Met l yX9_findColumns (wq yX9_findColumns cX9_findColumns 5 none) ({ frames := 1, cells := 0, slots := 0, locals := 25 }) (va_Pc [.ref h0] (pcW dC dI [(kf1, .int), (kf2, .int)] [(h0, .inr (8, [w0, w1, w2, w3, .int 0, w5, w6, w7, w8, w9, w10, w11, w12, w13, w14, w15, w16, w17, w18, w19, w20, w21, w22, .ref f1, .ref f2, .int cm, w26, w27, w28, w29, w30, w31, w32, w33, w34])), (f1, .inl (kf1, 8, .inl (fun _ => 0))), (f2, .inl (kf2, 8, .inl (fun _ => 0)))] sz)) (va_Qv (fun _ : Unit => True) (fun _ t => va_P (dC, dI) vwCl [(f1, .inl (kf1, 8, .inl (fun _ => 0))), (h0, .inr (8, [w0, w1, w2, w3, .int 0, w5, w6, w7, w8, w9, w10, w11, w12, w13, w14, w15, w16, w17, w18, w19, w20, w21, w22, .ref f1, .ref f2, .int 0, w26, w27, w28, w29, w30, w31, w32, w33, w34])), (f2, .inl (kf2, 8, .inl (slF (-6) 0 8)))] t.heap ∧ va_K (dC, dI) vwCl [(kf1, .int), (kf2, .int)] t ∧ va_D (va_A [(h0, .inr (8, [w0, w1, w2, w3, .int 0, w5, w6, w7, w8, w9, w10, w11, w12, w13, w14, w15, w16, w17, w18, w19, w20, w21, w22, .ref f1, .ref f2, .int cm, w26, w27, w28, w29, w30, w31, w32, w33, w34])), (f1, .inl (kf1, 8, .inl (fun _ => 0))), (f2, .inl (kf2, 8, .inl (fun _ => 0)))] sz) [(f1, .inl (kf1, 8, .inl (fun _ => 0))), (h0, .inr (8, [w0, w1, w2, w3, .int 0, w5, w6, w7, w8, w9, w10, w11, w12, w13, w14, w15, w16, w17, w18, w19, w20, w21, w22, .ref f1, .ref f2, .int 0, w26, w27, w28, w29, w30, w31, w32, w33, w34])), (f2, .inl (kf2, 8, .inl (slF (-6) 0 8)))]) (va_A [(h0, .inr (8, [w0, w1, w2, w3, .int 0, w5, w6, w7, w8, w9, w10, w11, w12, w13, w14, w15, w16, w17, w18, w19, w20, w21, w22, .ref f1, .ref f2, .int cm, w26, w27, w28, w29, w30, w31, w32, w33, w34])), (f1, .inl (kf1, 8, .inl (fun _ => 0))), (f2, .inl (kf2, 8, .inl (fun _ => 0)))] sz)) 0 0 (va_A [(h0, .inr (8, [w0, w1, w2, w3, .int 0, w5, w6, w7, w8, w9, w10, w11, w12, w13, w14, w15, w16, w17, w18, w19, w20, w21, w22, .ref f1, .ref f2, .int cm, w26, w27, w28, w29, w30, w31, w32, w33, w34])), (f1, .inl (kf1, 8, .inl (fun _ => 0))), (f2, .inl (kf2, 8, .inl (fun _ => 0)))] sz) := by
  refine Met.ofW (cc := cX9_findColumns) (maxL := 5) (ret := none) (by decide) rfl ?_
  intro p e s m args below meth c s₁ B hml hv
  obtain ⟨rfl, hsz, hN, hP, hK, hD0⟩ := hv
  have hx := B.exec
  have hb := B.bytes
  have hr := B.returns
  have hts0 := atoms_spec (ws := (wq yX9_findColumns cX9_findColumns 5 none)) B.pre
  have hts : ∀ w ∈ BG, w.before _ s = true := fun w h => hts0 w (List.mem_cons_of_mem _ h)
  have hown : s.vm.findClass RX9 = some m.cls := findClass_of_methodNamed B.named
  have hlocks := B.notSynchronized
  subst hsz
  have hD := hD0.self (sz := s.heap.size)
  generalize hAe : va_A [(h0, .inr (8, [w0, w1, w2, w3, .int 0, w5, w6, w7, w8, w9, w10, w11, w12, w13, w14, w15, w16, w17, w18, w19, w20, w21, w22, .ref f1, .ref f2, .int cm, w26, w27, w28, w29, w30, w31, w32, w33, w34])), (f1, .inl (kf1, 8, .inl (fun _ => 0))), (f2, .inl (kf2, 8, .inl (fun _ => 0)))] s.heap.size = A at hD ⊢
  have hA : ∀ q : Nat, s.heap.size ≤ q → A q := fun q h => by rw [← hAe]; exact Or.inr h
  have hS : va_S A s.heap s.heap [] := va_S.rf
  have hP : va_P (dC, dI) vwCl [(h0, .inr (8, [w0, w1, w2, w3, .int 0, w5, w6, w7, w8, w9, w10, w11, w12, w13, w14, w15, w16, w17, w18, w19, w20, w21, w22, .ref f1, .ref f2, .int cm, w26, w27, w28, w29, w30, w31, w32, w33, w34])), (f1, .inl (kf1, 8, .inl (fun _ => 0))), (f2, .inl (kf2, 8, .inl (fun _ => 0)))] s.heap := hP
  have hl := lv_entry ([.ref h0]) (n := 5) (Nat.le_of_ble_eq_true rfl)
  rw [lg_entry_eq]
  generalize (lg_sl ([.ref h0]) ++ List.replicate (5 - (lg_sl ([.ref h0])).length) Slot.unset).toArray = ls at hl ⊢
  have hl : lv_has ls 5 [(0, .ref h0)] := hl
  skip
  refine lv_iconst (v := 0) hx hb dX9_findColumns_0 (by decide) ?_
  refine lv_istore_n (lv' := [(1, .int 0), (0, .ref h0)]) hx hb dX9_findColumns_1 rfl hl (by decide) rfl (fun ls hl => ?_)
  refine lv_iconst (v := 0) hx hb dX9_findColumns_2 (by decide) ?_
  refine lv_istore_n (lv' := [(2, .int 0), (1, .int 0), (0, .ref h0)]) hx hb dX9_findColumns_3 rfl hl (by decide) rfl (fun ls hl => ?_)
  refine lv_iload_n hx hb dX9_findColumns_4 rfl (lv_at hl 0 rfl) ?_
  refine lv_bipush (v := 8) hx hb dX9_findColumns_5 (by decide) ?_
  refine lv_icmp_ge (tgt := 23) hx hb dX9_findColumns_7 (by decide) (fun h => absurd h (by decide)) (fun _ => ?_)
  refine lv_aload_n hx hb dX9_findColumns_10 rfl (lv_at hl 2 rfl) ?_
  refine va_get (D := (dC, dI)) (ci := 8) (v := .ref f1) (C := RX9) (T := TX9) (N := 35) hx hb hts inB_9 hown hK hP 0 rfl rfl 23 (by decide) (hts _ mw_3_205) (fun _ h9 => h9) rfl dX9_findColumns_11 ?_
  refine lv_iload_n hx hb dX9_findColumns_14 rfl (lv_at hl 0 rfl) ?_
  refine lv_iconst (v := 0) hx hb dX9_findColumns_15 (by decide) ?_
  refine va_iast hx hb hK hP hD hS 1 0 rfl rfl (show vp_in 0 8 by unfold vp_in; decide) dX9_findColumns_16 (fun H locs hP hD hS => ?_)
  rw [show upd (fun _ => 0) (Int32.toNatClampNeg 0) 0 = (fun _ => 0) from upd_const _ _] at hP hD
  have hP : va_P (dC, dI) vwCl [(h0, .inr (8, [w0, w1, w2, w3, .int 0, w5, w6, w7, w8, w9, w10, w11, w12, w13, w14, w15, w16, w17, w18, w19, w20, w21, w22, .ref f1, .ref f2, .int cm, w26, w27, w28, w29, w30, w31, w32, w33, w34])), (f1, .inl (kf1, 8, .inl (fun _ => 0))), (f2, .inl (kf2, 8, .inl (fun _ => 0)))] H := hP
  have hD : va_D A [(h0, .inr (8, [w0, w1, w2, w3, .int 0, w5, w6, w7, w8, w9, w10, w11, w12, w13, w14, w15, w16, w17, w18, w19, w20, w21, w22, .ref f1, .ref f2, .int cm, w26, w27, w28, w29, w30, w31, w32, w33, w34])), (f1, .inl (kf1, 8, .inl (fun _ => 0))), (f2, .inl (kf2, 8, .inl (fun _ => 0)))] := hD
  refine lv_iinc (v := 1) (lv' := [(2, .int 1), (1, .int 0), (0, .ref h0)]) hx hb dX9_findColumns_17 hl (k := 0) rfl (by decide) (by decide) rfl (fun ls hl => ?_)
  refine lv_goto (tgt := 4) hx hb dX9_findColumns_20 (by decide) ?_
  refine lv_iload_n hx hb dX9_findColumns_4 rfl (lv_at hl 0 rfl) ?_
  refine lv_bipush (v := 8) hx hb dX9_findColumns_5 (by decide) ?_
  refine lv_icmp_ge (tgt := 23) hx hb dX9_findColumns_7 (by decide) (fun h => absurd h (by decide)) (fun _ => ?_)
  refine lv_aload_n hx hb dX9_findColumns_10 rfl (lv_at hl 2 rfl) ?_
  refine va_get (D := (dC, dI)) (ci := 8) (v := .ref f1) (C := RX9) (T := TX9) (N := 35) hx hb hts inB_9 hown hK hP 0 rfl rfl 23 (by decide) (hts _ mw_3_205) (fun _ h9 => h9) rfl dX9_findColumns_11 ?_
  refine lv_iload_n hx hb dX9_findColumns_14 rfl (lv_at hl 0 rfl) ?_
  refine lv_iconst (v := 0) hx hb dX9_findColumns_15 (by decide) ?_
  refine va_iast hx hb hK hP hD hS 1 0 rfl rfl (show vp_in 1 8 by unfold vp_in; decide) dX9_findColumns_16 (fun H locs hP hD hS => ?_)
  rw [show upd (fun _ => 0) (Int32.toNatClampNeg 1) 0 = (fun _ => 0) from upd_const _ _] at hP hD
  have hP : va_P (dC, dI) vwCl [(h0, .inr (8, [w0, w1, w2, w3, .int 0, w5, w6, w7, w8, w9, w10, w11, w12, w13, w14, w15, w16, w17, w18, w19, w20, w21, w22, .ref f1, .ref f2, .int cm, w26, w27, w28, w29, w30, w31, w32, w33, w34])), (f1, .inl (kf1, 8, .inl (fun _ => 0))), (f2, .inl (kf2, 8, .inl (fun _ => 0)))] H := hP
  have hD : va_D A [(h0, .inr (8, [w0, w1, w2, w3, .int 0, w5, w6, w7, w8, w9, w10, w11, w12, w13, w14, w15, w16, w17, w18, w19, w20, w21, w22, .ref f1, .ref f2, .int cm, w26, w27, w28, w29, w30, w31, w32, w33, w34])), (f1, .inl (kf1, 8, .inl (fun _ => 0))), (f2, .inl (kf2, 8, .inl (fun _ => 0)))] := hD
  refine lv_iinc (v := 2) (lv' := [(2, .int 2), (1, .int 0), (0, .ref h0)]) hx hb dX9_findColumns_17 hl (k := 0) rfl (by decide) (by decide) rfl (fun ls hl => ?_)
  refine lv_goto (tgt := 4) hx hb dX9_findColumns_20 (by decide) ?_
  refine lv_iload_n hx hb dX9_findColumns_4 rfl (lv_at hl 0 rfl) ?_
  refine lv_bipush (v := 8) hx hb dX9_findColumns_5 (by decide) ?_
  refine lv_icmp_ge (tgt := 23) hx hb dX9_findColumns_7 (by decide) (fun h => absurd h (by decide)) (fun _ => ?_)
  refine lv_aload_n hx hb dX9_findColumns_10 rfl (lv_at hl 2 rfl) ?_
  refine va_get (D := (dC, dI)) (ci := 8) (v := .ref f1) (C := RX9) (T := TX9) (N := 35) hx hb hts inB_9 hown hK hP 0 rfl rfl 23 (by decide) (hts _ mw_3_205) (fun _ h9 => h9) rfl dX9_findColumns_11 ?_
  refine lv_iload_n hx hb dX9_findColumns_14 rfl (lv_at hl 0 rfl) ?_
  refine lv_iconst (v := 0) hx hb dX9_findColumns_15 (by decide) ?_
  refine va_iast hx hb hK hP hD hS 1 0 rfl rfl (show vp_in 2 8 by unfold vp_in; decide) dX9_findColumns_16 (fun H locs hP hD hS => ?_)
  rw [show upd (fun _ => 0) (Int32.toNatClampNeg 2) 0 = (fun _ => 0) from upd_const _ _] at hP hD
  have hP : va_P (dC, dI) vwCl [(h0, .inr (8, [w0, w1, w2, w3, .int 0, w5, w6, w7, w8, w9, w10, w11, w12, w13, w14, w15, w16, w17, w18, w19, w20, w21, w22, .ref f1, .ref f2, .int cm, w26, w27, w28, w29, w30, w31, w32, w33, w34])), (f1, .inl (kf1, 8, .inl (fun _ => 0))), (f2, .inl (kf2, 8, .inl (fun _ => 0)))] H := hP
  have hD : va_D A [(h0, .inr (8, [w0, w1, w2, w3, .int 0, w5, w6, w7, w8, w9, w10, w11, w12, w13, w14, w15, w16, w17, w18, w19, w20, w21, w22, .ref f1, .ref f2, .int cm, w26, w27, w28, w29, w30, w31, w32, w33, w34])), (f1, .inl (kf1, 8, .inl (fun _ => 0))), (f2, .inl (kf2, 8, .inl (fun _ => 0)))] := hD
  refine lv_iinc (v := 3) (lv' := [(2, .int 3), (1, .int 0), (0, .ref h0)]) hx hb dX9_findColumns_17 hl (k := 0) rfl (by decide) (by decide) rfl (fun ls hl => ?_)
  refine lv_goto (tgt := 4) hx hb dX9_findColumns_20 (by decide) ?_
  refine lv_iload_n hx hb dX9_findColumns_4 rfl (lv_at hl 0 rfl) ?_
  refine lv_bipush (v := 8) hx hb dX9_findColumns_5 (by decide) ?_
  refine lv_icmp_ge (tgt := 23) hx hb dX9_findColumns_7 (by decide) (fun h => absurd h (by decide)) (fun _ => ?_)
  refine lv_aload_n hx hb dX9_findColumns_10 rfl (lv_at hl 2 rfl) ?_
  refine va_get (D := (dC, dI)) (ci := 8) (v := .ref f1) (C := RX9) (T := TX9) (N := 35) hx hb hts inB_9 hown hK hP 0 rfl rfl 23 (by decide) (hts _ mw_3_205) (fun _ h9 => h9) rfl dX9_findColumns_11 ?_
  refine lv_iload_n hx hb dX9_findColumns_14 rfl (lv_at hl 0 rfl) ?_
  refine lv_iconst (v := 0) hx hb dX9_findColumns_15 (by decide) ?_
  refine va_iast hx hb hK hP hD hS 1 0 rfl rfl (show vp_in 3 8 by unfold vp_in; decide) dX9_findColumns_16 (fun H locs hP hD hS => ?_)
  rw [show upd (fun _ => 0) (Int32.toNatClampNeg 3) 0 = (fun _ => 0) from upd_const _ _] at hP hD
  have hP : va_P (dC, dI) vwCl [(h0, .inr (8, [w0, w1, w2, w3, .int 0, w5, w6, w7, w8, w9, w10, w11, w12, w13, w14, w15, w16, w17, w18, w19, w20, w21, w22, .ref f1, .ref f2, .int cm, w26, w27, w28, w29, w30, w31, w32, w33, w34])), (f1, .inl (kf1, 8, .inl (fun _ => 0))), (f2, .inl (kf2, 8, .inl (fun _ => 0)))] H := hP
  have hD : va_D A [(h0, .inr (8, [w0, w1, w2, w3, .int 0, w5, w6, w7, w8, w9, w10, w11, w12, w13, w14, w15, w16, w17, w18, w19, w20, w21, w22, .ref f1, .ref f2, .int cm, w26, w27, w28, w29, w30, w31, w32, w33, w34])), (f1, .inl (kf1, 8, .inl (fun _ => 0))), (f2, .inl (kf2, 8, .inl (fun _ => 0)))] := hD
  refine lv_iinc (v := 4) (lv' := [(2, .int 4), (1, .int 0), (0, .ref h0)]) hx hb dX9_findColumns_17 hl (k := 0) rfl (by decide) (by decide) rfl (fun ls hl => ?_)
  refine lv_goto (tgt := 4) hx hb dX9_findColumns_20 (by decide) ?_
  refine lv_iload_n hx hb dX9_findColumns_4 rfl (lv_at hl 0 rfl) ?_
  refine lv_bipush (v := 8) hx hb dX9_findColumns_5 (by decide) ?_
  refine lv_icmp_ge (tgt := 23) hx hb dX9_findColumns_7 (by decide) (fun h => absurd h (by decide)) (fun _ => ?_)
  refine lv_aload_n hx hb dX9_findColumns_10 rfl (lv_at hl 2 rfl) ?_
  refine va_get (D := (dC, dI)) (ci := 8) (v := .ref f1) (C := RX9) (T := TX9) (N := 35) hx hb hts inB_9 hown hK hP 0 rfl rfl 23 (by decide) (hts _ mw_3_205) (fun _ h9 => h9) rfl dX9_findColumns_11 ?_
  refine lv_iload_n hx hb dX9_findColumns_14 rfl (lv_at hl 0 rfl) ?_
  refine lv_iconst (v := 0) hx hb dX9_findColumns_15 (by decide) ?_
  refine va_iast hx hb hK hP hD hS 1 0 rfl rfl (show vp_in 4 8 by unfold vp_in; decide) dX9_findColumns_16 (fun H locs hP hD hS => ?_)
  rw [show upd (fun _ => 0) (Int32.toNatClampNeg 4) 0 = (fun _ => 0) from upd_const _ _] at hP hD
  have hP : va_P (dC, dI) vwCl [(h0, .inr (8, [w0, w1, w2, w3, .int 0, w5, w6, w7, w8, w9, w10, w11, w12, w13, w14, w15, w16, w17, w18, w19, w20, w21, w22, .ref f1, .ref f2, .int cm, w26, w27, w28, w29, w30, w31, w32, w33, w34])), (f1, .inl (kf1, 8, .inl (fun _ => 0))), (f2, .inl (kf2, 8, .inl (fun _ => 0)))] H := hP
  have hD : va_D A [(h0, .inr (8, [w0, w1, w2, w3, .int 0, w5, w6, w7, w8, w9, w10, w11, w12, w13, w14, w15, w16, w17, w18, w19, w20, w21, w22, .ref f1, .ref f2, .int cm, w26, w27, w28, w29, w30, w31, w32, w33, w34])), (f1, .inl (kf1, 8, .inl (fun _ => 0))), (f2, .inl (kf2, 8, .inl (fun _ => 0)))] := hD
  refine lv_iinc (v := 5) (lv' := [(2, .int 5), (1, .int 0), (0, .ref h0)]) hx hb dX9_findColumns_17 hl (k := 0) rfl (by decide) (by decide) rfl (fun ls hl => ?_)
  refine lv_goto (tgt := 4) hx hb dX9_findColumns_20 (by decide) ?_
  refine lv_iload_n hx hb dX9_findColumns_4 rfl (lv_at hl 0 rfl) ?_
  refine lv_bipush (v := 8) hx hb dX9_findColumns_5 (by decide) ?_
  refine lv_icmp_ge (tgt := 23) hx hb dX9_findColumns_7 (by decide) (fun h => absurd h (by decide)) (fun _ => ?_)
  refine lv_aload_n hx hb dX9_findColumns_10 rfl (lv_at hl 2 rfl) ?_
  refine va_get (D := (dC, dI)) (ci := 8) (v := .ref f1) (C := RX9) (T := TX9) (N := 35) hx hb hts inB_9 hown hK hP 0 rfl rfl 23 (by decide) (hts _ mw_3_205) (fun _ h9 => h9) rfl dX9_findColumns_11 ?_
  refine lv_iload_n hx hb dX9_findColumns_14 rfl (lv_at hl 0 rfl) ?_
  refine lv_iconst (v := 0) hx hb dX9_findColumns_15 (by decide) ?_
  refine va_iast hx hb hK hP hD hS 1 0 rfl rfl (show vp_in 5 8 by unfold vp_in; decide) dX9_findColumns_16 (fun H locs hP hD hS => ?_)
  rw [show upd (fun _ => 0) (Int32.toNatClampNeg 5) 0 = (fun _ => 0) from upd_const _ _] at hP hD
  have hP : va_P (dC, dI) vwCl [(h0, .inr (8, [w0, w1, w2, w3, .int 0, w5, w6, w7, w8, w9, w10, w11, w12, w13, w14, w15, w16, w17, w18, w19, w20, w21, w22, .ref f1, .ref f2, .int cm, w26, w27, w28, w29, w30, w31, w32, w33, w34])), (f1, .inl (kf1, 8, .inl (fun _ => 0))), (f2, .inl (kf2, 8, .inl (fun _ => 0)))] H := hP
  have hD : va_D A [(h0, .inr (8, [w0, w1, w2, w3, .int 0, w5, w6, w7, w8, w9, w10, w11, w12, w13, w14, w15, w16, w17, w18, w19, w20, w21, w22, .ref f1, .ref f2, .int cm, w26, w27, w28, w29, w30, w31, w32, w33, w34])), (f1, .inl (kf1, 8, .inl (fun _ => 0))), (f2, .inl (kf2, 8, .inl (fun _ => 0)))] := hD
  refine lv_iinc (v := 6) (lv' := [(2, .int 6), (1, .int 0), (0, .ref h0)]) hx hb dX9_findColumns_17 hl (k := 0) rfl (by decide) (by decide) rfl (fun ls hl => ?_)
  refine lv_goto (tgt := 4) hx hb dX9_findColumns_20 (by decide) ?_
  refine lv_iload_n hx hb dX9_findColumns_4 rfl (lv_at hl 0 rfl) ?_
  refine lv_bipush (v := 8) hx hb dX9_findColumns_5 (by decide) ?_
  refine lv_icmp_ge (tgt := 23) hx hb dX9_findColumns_7 (by decide) (fun h => absurd h (by decide)) (fun _ => ?_)
  refine lv_aload_n hx hb dX9_findColumns_10 rfl (lv_at hl 2 rfl) ?_
  refine va_get (D := (dC, dI)) (ci := 8) (v := .ref f1) (C := RX9) (T := TX9) (N := 35) hx hb hts inB_9 hown hK hP 0 rfl rfl 23 (by decide) (hts _ mw_3_205) (fun _ h9 => h9) rfl dX9_findColumns_11 ?_
  refine lv_iload_n hx hb dX9_findColumns_14 rfl (lv_at hl 0 rfl) ?_
  refine lv_iconst (v := 0) hx hb dX9_findColumns_15 (by decide) ?_
  refine va_iast hx hb hK hP hD hS 1 0 rfl rfl (show vp_in 6 8 by unfold vp_in; decide) dX9_findColumns_16 (fun H locs hP hD hS => ?_)
  rw [show upd (fun _ => 0) (Int32.toNatClampNeg 6) 0 = (fun _ => 0) from upd_const _ _] at hP hD
  have hP : va_P (dC, dI) vwCl [(h0, .inr (8, [w0, w1, w2, w3, .int 0, w5, w6, w7, w8, w9, w10, w11, w12, w13, w14, w15, w16, w17, w18, w19, w20, w21, w22, .ref f1, .ref f2, .int cm, w26, w27, w28, w29, w30, w31, w32, w33, w34])), (f1, .inl (kf1, 8, .inl (fun _ => 0))), (f2, .inl (kf2, 8, .inl (fun _ => 0)))] H := hP
  have hD : va_D A [(h0, .inr (8, [w0, w1, w2, w3, .int 0, w5, w6, w7, w8, w9, w10, w11, w12, w13, w14, w15, w16, w17, w18, w19, w20, w21, w22, .ref f1, .ref f2, .int cm, w26, w27, w28, w29, w30, w31, w32, w33, w34])), (f1, .inl (kf1, 8, .inl (fun _ => 0))), (f2, .inl (kf2, 8, .inl (fun _ => 0)))] := hD
  refine lv_iinc (v := 7) (lv' := [(2, .int 7), (1, .int 0), (0, .ref h0)]) hx hb dX9_findColumns_17 hl (k := 0) rfl (by decide) (by decide) rfl (fun ls hl => ?_)
  refine lv_goto (tgt := 4) hx hb dX9_findColumns_20 (by decide) ?_
  refine lv_iload_n hx hb dX9_findColumns_4 rfl (lv_at hl 0 rfl) ?_
  refine lv_bipush (v := 8) hx hb dX9_findColumns_5 (by decide) ?_
  refine lv_icmp_ge (tgt := 23) hx hb dX9_findColumns_7 (by decide) (fun h => absurd h (by decide)) (fun _ => ?_)
  refine lv_aload_n hx hb dX9_findColumns_10 rfl (lv_at hl 2 rfl) ?_
  refine va_get (D := (dC, dI)) (ci := 8) (v := .ref f1) (C := RX9) (T := TX9) (N := 35) hx hb hts inB_9 hown hK hP 0 rfl rfl 23 (by decide) (hts _ mw_3_205) (fun _ h9 => h9) rfl dX9_findColumns_11 ?_
  refine lv_iload_n hx hb dX9_findColumns_14 rfl (lv_at hl 0 rfl) ?_
  refine lv_iconst (v := 0) hx hb dX9_findColumns_15 (by decide) ?_
  refine va_iast hx hb hK hP hD hS 1 0 rfl rfl (show vp_in 7 8 by unfold vp_in; decide) dX9_findColumns_16 (fun H locs hP hD hS => ?_)
  rw [show upd (fun _ => 0) (Int32.toNatClampNeg 7) 0 = (fun _ => 0) from upd_const _ _] at hP hD
  have hP : va_P (dC, dI) vwCl [(h0, .inr (8, [w0, w1, w2, w3, .int 0, w5, w6, w7, w8, w9, w10, w11, w12, w13, w14, w15, w16, w17, w18, w19, w20, w21, w22, .ref f1, .ref f2, .int cm, w26, w27, w28, w29, w30, w31, w32, w33, w34])), (f1, .inl (kf1, 8, .inl (fun _ => 0))), (f2, .inl (kf2, 8, .inl (fun _ => 0)))] H := hP
  have hD : va_D A [(h0, .inr (8, [w0, w1, w2, w3, .int 0, w5, w6, w7, w8, w9, w10, w11, w12, w13, w14, w15, w16, w17, w18, w19, w20, w21, w22, .ref f1, .ref f2, .int cm, w26, w27, w28, w29, w30, w31, w32, w33, w34])), (f1, .inl (kf1, 8, .inl (fun _ => 0))), (f2, .inl (kf2, 8, .inl (fun _ => 0)))] := hD
  refine lv_iinc (v := 8) (lv' := [(2, .int 8), (1, .int 0), (0, .ref h0)]) hx hb dX9_findColumns_17 hl (k := 0) rfl (by decide) (by decide) rfl (fun ls hl => ?_)
  refine lv_goto (tgt := 4) hx hb dX9_findColumns_20 (by decide) ?_
  refine lv_iload_n hx hb dX9_findColumns_4 rfl (lv_at hl 0 rfl) ?_
  refine lv_bipush (v := 8) hx hb dX9_findColumns_5 (by decide) ?_
  refine lv_icmp_ge (tgt := 23) hx hb dX9_findColumns_7 (by decide) (fun _ => ?_) (fun h => absurd (by decide) h)
  refine lv_iconst (v := 0) hx hb dX9_findColumns_23 (by decide) ?_
  refine lv_istore_n (lv' := [(2, .int 0), (1, .int 0), (0, .ref h0)]) hx hb dX9_findColumns_24 rfl hl (by decide) rfl (fun ls hl => ?_)
  refine lv_iload_n hx hb dX9_findColumns_25 rfl (lv_at hl 0 rfl) ?_
  refine lv_aload_n hx hb dX9_findColumns_26 rfl (lv_at hl 2 rfl) ?_
  refine va_get (D := (dC, dI)) (ci := 8) (v := .int 0) (C := RX9) (T := TX9) (N := 35) hx hb hts inB_9 hown hK hP 0 rfl rfl 4 (by decide) (hts _ mw_3_186) (fun _ h9 => h9) rfl dX9_findColumns_27 ?_
  refine lv_icmp_ge (tgt := 97) hx hb dX9_findColumns_30 (by decide) (fun _ => ?_) (fun h => absurd (by decide) h)
  refine lv_aload_n hx hb dX9_findColumns_97 rfl (lv_at hl 2 rfl) ?_
  refine lv_iconst (v := 0) hx hb dX9_findColumns_98 (by decide) ?_
  refine va_put (D := (dC, dI)) (ci := 8) (v := .int 0) (ty := .int) (C := RX9) (T := TX9) (N := 35) hx hb hts inB_9 tyX9 tyX9_ok nmX9 hown hK hP hD hS 0 rfl rfl 25 (by decide) (hts _ mw_3_207) (fun _ h9 => h9) rfl (by decide +kernel) rfl rfl (Nat.le_of_ble_eq_true rfl) dX9_findColumns_99 (fun H locs hP hD hS => ?_)
  have hP : va_P (dC, dI) vwCl [(h0, .inr (8, [w0, w1, w2, w3, .int 0, w5, w6, w7, w8, w9, w10, w11, w12, w13, w14, w15, w16, w17, w18, w19, w20, w21, w22, .ref f1, .ref f2, .int 0, w26, w27, w28, w29, w30, w31, w32, w33, w34])), (f1, .inl (kf1, 8, .inl (fun _ => 0))), (f2, .inl (kf2, 8, .inl (fun _ => 0)))] H := hP
  have hD : va_D A [(h0, .inr (8, [w0, w1, w2, w3, .int 0, w5, w6, w7, w8, w9, w10, w11, w12, w13, w14, w15, w16, w17, w18, w19, w20, w21, w22, .ref f1, .ref f2, .int 0, w26, w27, w28, w29, w30, w31, w32, w33, w34])), (f1, .inl (kf1, 8, .inl (fun _ => 0))), (f2, .inl (kf2, 8, .inl (fun _ => 0)))] := hD
  refine lv_aload_n hx hb dX9_findColumns_102 rfl (lv_at hl 2 rfl) ?_
  refine lv_iload_n hx hb dX9_findColumns_103 rfl (lv_at hl 1 rfl) ?_
  refine lv_aload_n hx hb dX9_findColumns_104 rfl (lv_at hl 2 rfl) ?_
  refine va_get (D := (dC, dI)) (ci := 8) (v := .int 0) (C := RX9) (T := TX9) (N := 35) hx hb hts inB_9 hown hK hP 0 rfl rfl 25 (by decide) (hts _ mw_3_207) (fun _ h9 => h9) rfl dX9_findColumns_105 ?_
  have hPc := hP.sub (ws' := [(h0, .inr (8, [w0, w1, w2, w3, .int 0, w5, w6, w7, w8, w9, w10, w11, w12, w13, w14, w15, w16, w17, w18, w19, w20, w21, w22, .ref f1, .ref f2, .int 0, w26, w27, w28, w29, w30, w31, w32, w33, w34])), (f2, .inl (kf2, 8, .inl (fun _ => 0)))]) [0, 2] rfl
  have hDc := hD.sub (ws' := [(h0, .inr (8, [w0, w1, w2, w3, .int 0, w5, w6, w7, w8, w9, w10, w11, w12, w13, w14, w15, w16, w17, w18, w19, w20, w21, w22, .ref f1, .ref f2, .int 0, w26, w27, w28, w29, w30, w31, w32, w33, w34])), (f2, .inl (kf2, 8, .inl (fun _ => 0)))]) [0, 2] (by decide) rfl
  have hKc := hK.sub (tys' := [(kf2, .int)]) [1] rfl
  have hFc := va_free (wc := [(h0, .inr (8, [w0, w1, w2, w3, .int 0, w5, w6, w7, w8, w9, w10, w11, w12, w13, w14, w15, w16, w17, w18, w19, w20, w21, w22, .ref f1, .ref f2, .int 0, w26, w27, w28, w29, w30, w31, w32, w33, w34])), (f2, .inl (kf2, 8, .inl (fun _ => 0)))]) hD hS hA [0, 2] rfl
  refine va_calli (va_runV (As := [.int 0, .int 0]) (rest := []) ⟨hx, hb, hml, hown, hts⟩ (m_fill l dC dI H.size h0 (w0) (w1) (w2) (w3) (.int 0) (w5) (w6) (w7) (w8) (w9) (w10) (w11) (w12) (w13) (w14) (w15) (w16) (w17) (w18) (w19) (w20) (w21) (w22) (.ref f1) f2 (.int 0) (w26) (w27) (w28) (w29) (w30) (w31) (w32) (w33) (w34) kf2) (cwV 2 hts (gV mw_4_210 mw_4_212 mw_0_32 mw_1_9 mw_4_213) rfl rfl rfl (by decide +kernel) ⟨Nat.le_of_ble_eq_true rfl, Nat.le_of_ble_eq_true rfl⟩) ⟨pcW_blind, va_recv hKc hPc (ci := 8) (q0 := 0) rfl rfl, pcW_at hPc hKc hDc hN⟩ rfl rfl hl.1 rfl (lv_room (Nat.le_of_ble_eq_true rfl)) dX9_findColumns_108 ⟨Nat.le_of_ble_eq_true rfl, Nat.le_of_ble_eq_true rfl⟩) hS (fun q _ h => hFc q h) hFc (fun r_1 u t H1 locs ht hvm hw_1 hB hz1 hk1 hS => ?_)
  obtain ⟨hP1, hK1, hD1⟩ := hB
  rw [ht] at hP1
  have hK1 := va_K.moved hvm.symm hK1
  obtain ⟨hP, hD⟩ := va_join (wr := [(f1, .inl (kf1, 8, .inl (fun _ => 0)))]) (w1 := [(h0, .inr (8, [w0, w1, w2, w3, .int 0, w5, w6, w7, w8, w9, w10, w11, w12, w13, w14, w15, w16, w17, w18, w19, w20, w21, w22, .ref f1, .ref f2, .int 0, w26, w27, w28, w29, w30, w31, w32, w33, w34])), (f2, .inl (kf2, 8, .inl (slF (-6) 0 8)))]) hP hD [0, 2] [1] rfl rfl (by decide) (by decide) hk1 hFc hP1 hD1
  have hK := (hK.sub (tys' := [(kf1, .int)]) [0] rfl).app hK1
  clear hz1 hk1 hPc hDc hKc hFc
  generalize H1 = H at hP hS ⊢
  have hK : va_K (dC, dI) vwCl [(kf1, .int), (kf2, .int)] s := hK
  have hP : va_P (dC, dI) vwCl [(f1, .inl (kf1, 8, .inl (fun _ => 0))), (h0, .inr (8, [w0, w1, w2, w3, .int 0, w5, w6, w7, w8, w9, w10, w11, w12, w13, w14, w15, w16, w17, w18, w19, w20, w21, w22, .ref f1, .ref f2, .int 0, w26, w27, w28, w29, w30, w31, w32, w33, w34])), (f2, .inl (kf2, 8, .inl (slF (-6) 0 8)))] H := hP
  have hD : va_D A [(f1, .inl (kf1, 8, .inl (fun _ => 0))), (h0, .inr (8, [w0, w1, w2, w3, .int 0, w5, w6, w7, w8, w9, w10, w11, w12, w13, w14, w15, w16, w17, w18, w19, w20, w21, w22, .ref f1, .ref f2, .int 0, w26, w27, w28, w29, w30, w31, w32, w33, w34])), (f2, .inl (kf2, 8, .inl (slF (-6) 0 8)))] := hD
  obtain rfl : r_1 = 1 := hw_1
  refine lv_if_ne (tgt := 127) hx hb dX9_findColumns_111 (by decide) (fun _ => ?_) (fun h => absurd h (by decide))
  exact W.vret hx hb hr (fun t ht hW => ⟨⟨(), rfl, trivial, by rw [ht]; exact hP, va_K.moved hW.alike hK, hD⟩, hS.F ht⟩) hS.2.2 dX9_findColumns_127
set_option maxHeartbeats 4000000 in
set_option maxRecDepth 100000 in
theorem m_column (l : Launch) (dC : Nat → ClassId) (dI : Nat → Nat → Nat) (sz : Nat) (h0 : Nat) (w0 : Value) (w1 : Value) (w2 : Value) (w3 : Value) (w5 : Value) (w6 : Value) (w7 : Value) (w8 : Value) (w9 : Value) (w10 : Value) (w11 : Value) (w12 : Value) (w13 : Value) (w14 : Value) (w15 : Value) (w16 : Value) (w17 : Value) (w18 : Value) (w19 : Value) (w20 : Value) (w21 : Value) (w22 : Value) (f1 : Nat) (f2 : Nat) (w26 : Value) (w27 : Value) (w28 : Value) (w29 : Value) (w30 : Value) (w31 : Value) (w32 : Value) (w33 : Value) (w34 : Value) (kf1 : ClassId) (kf2 : ClassId) (n1 : Int32)  : Met l yX9_column (wq yX9_column cX9_column 2 (some .int)) ({ frames := 2, cells := 0, slots := 0, locals := 49 }) (va_Pc [.ref h0, .int n1] (pcW dC dI [(kf1, .int), (kf2, .int)] [(h0, .inr (8, [w0, w1, w2, w3, .int 0, w5, w6, w7, w8, w9, w10, w11, w12, w13, w14, w15, w16, w17, w18, w19, w20, w21, w22, .ref f1, .ref f2, .int 0, w26, w27, w28, w29, w30, w31, w32, w33, w34])), (f1, .inl (kf1, 8, .inl (fun _ => 0))), (f2, .inl (kf2, 8, .inl (fun _ => 0)))] sz)) (va_Qi (fun (r : Int32) (_ : Unit) => r = F_column n1) (fun _ _ => True) (va_A [(h0, .inr (8, [w0, w1, w2, w3, .int 0, w5, w6, w7, w8, w9, w10, w11, w12, w13, w14, w15, w16, w17, w18, w19, w20, w21, w22, .ref f1, .ref f2, .int 0, w26, w27, w28, w29, w30, w31, w32, w33, w34])), (f1, .inl (kf1, 8, .inl (fun _ => 0))), (f2, .inl (kf2, 8, .inl (fun _ => 0)))] sz)) 0 0 (va_A [(h0, .inr (8, [w0, w1, w2, w3, .int 0, w5, w6, w7, w8, w9, w10, w11, w12, w13, w14, w15, w16, w17, w18, w19, w20, w21, w22, .ref f1, .ref f2, .int 0, w26, w27, w28, w29, w30, w31, w32, w33, w34])), (f1, .inl (kf1, 8, .inl (fun _ => 0))), (f2, .inl (kf2, 8, .inl (fun _ => 0)))] sz) := by
  refine Met.ofW (cc := cX9_column) (maxL := 2) (ret := (some .int)) (by decide) rfl ?_
  intro p e s m args below meth c s₁ B hml hv
  obtain ⟨rfl, hsz, hN, hP, hK, hD0⟩ := hv
  have hx := B.exec
  have hb := B.bytes
  have hr := B.returns
  have hts0 := atoms_spec (ws := (wq yX9_column cX9_column 2 (some .int))) B.pre
  have hts : ∀ w ∈ BG, w.before _ s = true := fun w h => hts0 w (List.mem_cons_of_mem _ h)
  have hown : s.vm.findClass RX9 = some m.cls := findClass_of_methodNamed B.named
  have hlocks := B.notSynchronized
  subst hsz
  have hD := hD0.self (sz := s.heap.size)
  generalize hAe : va_A [(h0, .inr (8, [w0, w1, w2, w3, .int 0, w5, w6, w7, w8, w9, w10, w11, w12, w13, w14, w15, w16, w17, w18, w19, w20, w21, w22, .ref f1, .ref f2, .int 0, w26, w27, w28, w29, w30, w31, w32, w33, w34])), (f1, .inl (kf1, 8, .inl (fun _ => 0))), (f2, .inl (kf2, 8, .inl (fun _ => 0)))] s.heap.size = A at hD ⊢
  have hA : ∀ q : Nat, s.heap.size ≤ q → A q := fun q h => by rw [← hAe]; exact Or.inr h
  have hS : va_S A s.heap s.heap [] := va_S.rf
  have hP : va_P (dC, dI) vwCl [(h0, .inr (8, [w0, w1, w2, w3, .int 0, w5, w6, w7, w8, w9, w10, w11, w12, w13, w14, w15, w16, w17, w18, w19, w20, w21, w22, .ref f1, .ref f2, .int 0, w26, w27, w28, w29, w30, w31, w32, w33, w34])), (f1, .inl (kf1, 8, .inl (fun _ => 0))), (f2, .inl (kf2, 8, .inl (fun _ => 0)))] s.heap := hP
  have hl := lv_entry ([.ref h0, .int n1]) (n := 2) (Nat.le_of_ble_eq_true rfl)
  rw [lg_entry_eq]
  generalize (lg_sl ([.ref h0, .int n1]) ++ List.replicate (2 - (lg_sl ([.ref h0, .int n1])).length) Slot.unset).toArray = ls at hl ⊢
  have hl : lv_has ls 2 [(0, .ref h0), (1, .int n1)] := hl
  skip
  refine lv_iload_n hx hb dX9_column_0 rfl (lv_at hl 1 rfl) ?_
  refine lv_iconst (v := (-1)) hx hb dX9_column_1 (by decide) ?_
  refine lv_icmp_eq (tgt := 14) hx hb dX9_column_2 (by decide) (fun c_1 => ?_) (fun c_1 => ?_)
  · have b_2 := fx_eq (x := n1) (C := -1) (by decide) c_1
    refine lv_aload_n hx hb dX9_column_14 rfl (lv_at hl 0 rfl) ?_
    have hPc := hP.sub (ws' := [(h0, .inr (8, [w0, w1, w2, w3, .int 0, w5, w6, w7, w8, w9, w10, w11, w12, w13, w14, w15, w16, w17, w18, w19, w20, w21, w22, .ref f1, .ref f2, .int 0, w26, w27, w28, w29, w30, w31, w32, w33, w34])), (f1, .inl (kf1, 8, .inl (fun _ => 0))), (f2, .inl (kf2, 8, .inl (fun _ => 0)))]) [0, 1, 2] rfl
    have hDc := hD.sub (ws' := [(h0, .inr (8, [w0, w1, w2, w3, .int 0, w5, w6, w7, w8, w9, w10, w11, w12, w13, w14, w15, w16, w17, w18, w19, w20, w21, w22, .ref f1, .ref f2, .int 0, w26, w27, w28, w29, w30, w31, w32, w33, w34])), (f1, .inl (kf1, 8, .inl (fun _ => 0))), (f2, .inl (kf2, 8, .inl (fun _ => 0)))]) [0, 1, 2] (by decide) rfl
    have hKc := hK.sub (tys' := [(kf1, .int), (kf2, .int)]) [0, 1] rfl
    have hFc := va_free (wc := [(h0, .inr (8, [w0, w1, w2, w3, .int 0, w5, w6, w7, w8, w9, w10, w11, w12, w13, w14, w15, w16, w17, w18, w19, w20, w21, w22, .ref f1, .ref f2, .int 0, w26, w27, w28, w29, w30, w31, w32, w33, w34])), (f1, .inl (kf1, 8, .inl (fun _ => 0))), (f2, .inl (kf2, 8, .inl (fun _ => 0)))]) hD hS hA [0, 1, 2] rfl
    refine va_callv (va_runV (As := []) (rest := []) ⟨hx, hb, hml, hown, hts⟩ (m_findC l dC dI s.heap.size h0 (w0) (w1) (w2) (w3) (w5) (w6) (w7) (w8) (w9) (w10) (w11) (w12) (w13) (w14) (w15) (w16) (w17) (w18) (w19) (w20) (w21) (w22) f1 f2 0 (w26) (w27) (w28) (w29) (w30) (w31) (w32) (w33) (w34) kf1 kf2) (cwV 0 hts (gV mw_4_198 mw_4_200 mw_0_29 mw_1_9 mw_4_201) rfl rfl rfl (by decide +kernel) ⟨Nat.le_of_ble_eq_true rfl, Nat.le_of_ble_eq_true rfl⟩) ⟨pcW_blind, va_recv hKc hPc (ci := 8) (q0 := 0) rfl rfl, pcW_at hPc hKc hDc hN⟩ rfl rfl hl.1 rfl (lv_room (Nat.le_of_ble_eq_true rfl)) dX9_column_15 ⟨Nat.le_of_ble_eq_true rfl, Nat.le_of_ble_eq_true rfl⟩) hS (fun q _ h => hFc q h) hFc (fun u t H1 locs ht hvm hw_3 hB hz1 hk1 hS => ?_)
    obtain ⟨hP1, hK1, hD1⟩ := hB
    rw [ht] at hP1
    have hK1 := va_K.moved hvm.symm hK1
    obtain ⟨hP, hD⟩ := va_join (wr := []) (w1 := [(f1, .inl (kf1, 8, .inl (fun _ => 0))), (h0, .inr (8, [w0, w1, w2, w3, .int 0, w5, w6, w7, w8, w9, w10, w11, w12, w13, w14, w15, w16, w17, w18, w19, w20, w21, w22, .ref f1, .ref f2, .int 0, w26, w27, w28, w29, w30, w31, w32, w33, w34])), (f2, .inl (kf2, 8, .inl (slF (-6) 0 8)))]) hP hD [0, 1, 2] [] rfl rfl (by decide) (by decide) hk1 hFc hP1 hD1
    have hK := (hK.sub (tys' := []) [] rfl).app hK1
    clear hz1 hk1 hPc hDc hKc hFc
    generalize H1 = H at hP hS ⊢
    have hK : va_K (dC, dI) vwCl [(kf1, .int), (kf2, .int)] s := hK
    have hP : va_P (dC, dI) vwCl [(f1, .inl (kf1, 8, .inl (fun _ => 0))), (h0, .inr (8, [w0, w1, w2, w3, .int 0, w5, w6, w7, w8, w9, w10, w11, w12, w13, w14, w15, w16, w17, w18, w19, w20, w21, w22, .ref f1, .ref f2, .int 0, w26, w27, w28, w29, w30, w31, w32, w33, w34])), (f2, .inl (kf2, 8, .inl (slF (-6) 0 8)))] H := hP
    have hD : va_D A [(f1, .inl (kf1, 8, .inl (fun _ => 0))), (h0, .inr (8, [w0, w1, w2, w3, .int 0, w5, w6, w7, w8, w9, w10, w11, w12, w13, w14, w15, w16, w17, w18, w19, w20, w21, w22, .ref f1, .ref f2, .int 0, w26, w27, w28, w29, w30, w31, w32, w33, w34])), (f2, .inl (kf2, 8, .inl (slF (-6) 0 8)))] := hD
    refine lv_iload_n hx hb dX9_column_18 rfl (lv_at hl 1 rfl) ?_
    refine hx_top (y := (-1)) (fx_sing (C := -1) (by decide) (by omega)) ?_
    refine lv_iconst (v := (-1)) hx hb dX9_column_19 (by decide) ?_
    refine lv_icmp_ne (tgt := 30) hx hb dX9_column_20 (by decide) (fun h => absurd h (by decide)) (fun _ => ?_)
    refine lv_aload_n hx hb dX9_column_23 rfl (lv_at hl 0 rfl) ?_
    refine va_get (D := (dC, dI)) (ci := 8) (v := .int 0) (C := RX9) (T := TX9) (N := 35) hx hb hts inB_9 hown hK hP 1 rfl rfl 25 (by decide) (hts _ mw_3_207) (fun _ h9 => h9) rfl dX9_column_24 ?_
    refine lv_goto (tgt := 36) hx hb dX9_column_27 (by decide) ?_
    exact W.iret (v := 0) hx hb hr (fun t ht hW => ⟨⟨0, (), rfl, (by (unfold F_column; repeat' split) <;> first | rfl | (exfalso; omega)), trivial⟩, hS.F ht⟩) hS.2.2 dX9_column_36
  · have b_2 := fn_eq (x := n1) (C := -1) (by decide) c_1
    refine lv_iload_n hx hb dX9_column_5 rfl (lv_at hl 1 rfl) ?_
    have hPc := hP.sub (ws' := []) [] rfl
    have hDc := hD.sub (ws' := []) [] (by decide) rfl
    have hKc := hK.sub (tys' := []) [] rfl
    refine va_calli (va_runS (As := [.int n1]) (rest := []) ⟨hx, hb, hml, hown, hts⟩ (m_isName l dC dI s.heap.size n1) (va_cwS 1 hts (gS mw_4_115 mw_4_116 mw_1_9 mw_4_117) rfl rfl rfl (by decide +kernel) ⟨Nat.le_of_ble_eq_true rfl, Nat.le_of_ble_eq_true rfl⟩) ⟨pcW_blind, pcW_at hPc hKc hDc hN⟩ rfl rfl hl.1 rfl (lv_room (Nat.le_of_ble_eq_true rfl)) dX9_column_6 ⟨Nat.le_of_ble_eq_true rfl, Nat.le_of_ble_eq_true rfl⟩) hS (fun q h1 h2 => absurd h2 (Nat.not_le.mpr h1)) (fun q h => hA q (Nat.le_trans hS.1 h)) (fun r_4 u t H1 locs ht hvm hw_4 hB hz1 hk1 hS => ?_)
    have hP := keepP hP hk1
    clear hz1 hk1 hB ht hvm hPc hDc hKc
    generalize H1 = H at hP hS ⊢
    rcases fx_bool hw_4 with ⟨rfl, b_5⟩ | ⟨rfl, b_5⟩
    · skip
      refine lv_if_ne (tgt := 14) hx hb dX9_column_9 (by decide) (fun _ => ?_) (fun h => absurd h (by decide))
      refine lv_aload_n hx hb dX9_column_14 rfl (lv_at hl 0 rfl) ?_
      have hPc := hP.sub (ws' := [(h0, .inr (8, [w0, w1, w2, w3, .int 0, w5, w6, w7, w8, w9, w10, w11, w12, w13, w14, w15, w16, w17, w18, w19, w20, w21, w22, .ref f1, .ref f2, .int 0, w26, w27, w28, w29, w30, w31, w32, w33, w34])), (f1, .inl (kf1, 8, .inl (fun _ => 0))), (f2, .inl (kf2, 8, .inl (fun _ => 0)))]) [0, 1, 2] rfl
      have hDc := hD.sub (ws' := [(h0, .inr (8, [w0, w1, w2, w3, .int 0, w5, w6, w7, w8, w9, w10, w11, w12, w13, w14, w15, w16, w17, w18, w19, w20, w21, w22, .ref f1, .ref f2, .int 0, w26, w27, w28, w29, w30, w31, w32, w33, w34])), (f1, .inl (kf1, 8, .inl (fun _ => 0))), (f2, .inl (kf2, 8, .inl (fun _ => 0)))]) [0, 1, 2] (by decide) rfl
      have hKc := hK.sub (tys' := [(kf1, .int), (kf2, .int)]) [0, 1] rfl
      have hFc := va_free (wc := [(h0, .inr (8, [w0, w1, w2, w3, .int 0, w5, w6, w7, w8, w9, w10, w11, w12, w13, w14, w15, w16, w17, w18, w19, w20, w21, w22, .ref f1, .ref f2, .int 0, w26, w27, w28, w29, w30, w31, w32, w33, w34])), (f1, .inl (kf1, 8, .inl (fun _ => 0))), (f2, .inl (kf2, 8, .inl (fun _ => 0)))]) hD hS hA [0, 1, 2] rfl
      refine va_callv (va_runV (As := []) (rest := []) ⟨hx, hb, hml, hown, hts⟩ (m_findC l dC dI H.size h0 (w0) (w1) (w2) (w3) (w5) (w6) (w7) (w8) (w9) (w10) (w11) (w12) (w13) (w14) (w15) (w16) (w17) (w18) (w19) (w20) (w21) (w22) f1 f2 0 (w26) (w27) (w28) (w29) (w30) (w31) (w32) (w33) (w34) kf1 kf2) (cwV 0 hts (gV mw_4_198 mw_4_200 mw_0_29 mw_1_9 mw_4_201) rfl rfl rfl (by decide +kernel) ⟨Nat.le_of_ble_eq_true rfl, Nat.le_of_ble_eq_true rfl⟩) ⟨pcW_blind, va_recv hKc hPc (ci := 8) (q0 := 0) rfl rfl, pcW_at hPc hKc hDc hN⟩ rfl rfl hl.1 rfl (lv_room (Nat.le_of_ble_eq_true rfl)) dX9_column_15 ⟨Nat.le_of_ble_eq_true rfl, Nat.le_of_ble_eq_true rfl⟩) hS (fun q _ h => hFc q h) hFc (fun u t H1 locs ht hvm hw_6 hB hz1 hk1 hS => ?_)
      obtain ⟨hP1, hK1, hD1⟩ := hB
      rw [ht] at hP1
      have hK1 := va_K.moved hvm.symm hK1
      obtain ⟨hP, hD⟩ := va_join (wr := []) (w1 := [(f1, .inl (kf1, 8, .inl (fun _ => 0))), (h0, .inr (8, [w0, w1, w2, w3, .int 0, w5, w6, w7, w8, w9, w10, w11, w12, w13, w14, w15, w16, w17, w18, w19, w20, w21, w22, .ref f1, .ref f2, .int 0, w26, w27, w28, w29, w30, w31, w32, w33, w34])), (f2, .inl (kf2, 8, .inl (slF (-6) 0 8)))]) hP hD [0, 1, 2] [] rfl rfl (by decide) (by decide) hk1 hFc hP1 hD1
      have hK := (hK.sub (tys' := []) [] rfl).app hK1
      clear hz1 hk1 hPc hDc hKc hFc
      generalize H1 = H at hP hS ⊢
      have hK : va_K (dC, dI) vwCl [(kf1, .int), (kf2, .int)] s := hK
      have hP : va_P (dC, dI) vwCl [(f1, .inl (kf1, 8, .inl (fun _ => 0))), (h0, .inr (8, [w0, w1, w2, w3, .int 0, w5, w6, w7, w8, w9, w10, w11, w12, w13, w14, w15, w16, w17, w18, w19, w20, w21, w22, .ref f1, .ref f2, .int 0, w26, w27, w28, w29, w30, w31, w32, w33, w34])), (f2, .inl (kf2, 8, .inl (slF (-6) 0 8)))] H := hP
      have hD : va_D A [(f1, .inl (kf1, 8, .inl (fun _ => 0))), (h0, .inr (8, [w0, w1, w2, w3, .int 0, w5, w6, w7, w8, w9, w10, w11, w12, w13, w14, w15, w16, w17, w18, w19, w20, w21, w22, .ref f1, .ref f2, .int 0, w26, w27, w28, w29, w30, w31, w32, w33, w34])), (f2, .inl (kf2, 8, .inl (slF (-6) 0 8)))] := hD
      refine lv_iload_n hx hb dX9_column_18 rfl (lv_at hl 1 rfl) ?_
      refine lv_iconst (v := (-1)) hx hb dX9_column_19 (by decide) ?_
      refine lv_icmp_ne (tgt := 30) hx hb dX9_column_20 (by decide) (fun _ => ?_) (fun h => absurd (fn_ne (x := n1) (C := -1) (by decide) h) (by omega))
      refine lv_aload_n hx hb dX9_column_30 rfl (lv_at hl 0 rfl) ?_
      refine va_get (D := (dC, dI)) (ci := 8) (v := .ref f2) (C := RX9) (T := TX9) (N := 35) hx hb hts inB_9 hown hK hP 1 rfl rfl 24 (by decide) (hts _ mw_3_206) (fun _ h9 => h9) rfl dX9_column_31 ?_
      refine lv_iload_n hx hb dX9_column_34 rfl (lv_at hl 1 rfl) ?_
      refine va_iald hx hb hK hP 2 1 rfl rfl (show vp_in n1 8 from fx_in (by omega) (by omega)) dX9_column_35 ?_
      refine hx_top (y := (-6)) (slF_in (fx_cl (by omega) (by omega))) ?_
      exact W.iret (v := (-6)) hx hb hr (fun t ht hW => ⟨⟨(-6), (), rfl, (by (unfold F_column; repeat' split) <;> first | rfl | (exfalso; omega)), trivial⟩, hS.F ht⟩) hS.2.2 dX9_column_36
    · skip
      refine lv_if_ne (tgt := 14) hx hb dX9_column_9 (by decide) (fun h => absurd h (by decide)) (fun _ => ?_)
      refine lv_iconst (v := (-1)) hx hb dX9_column_12 (by decide) ?_
      exact W.iret (v := (-1)) hx hb hr (fun t ht hW => ⟨⟨(-1), (), rfl, (by (unfold F_column; repeat' split) <;> first | rfl | (exfalso; omega)), trivial⟩, hS.F ht⟩) hS.2.2 dX9_column_13
