theorem mw_3_217 : Cond.laysFinal RX9 "AnswerLinesModel" "parents" "[I" ∈ BG := mB (t3 (i := 217) (by decide +kernel)) (by decide +kernel)
theorem mw_3_219 : Cond.laysFinal RX9 "AnswerLinesModel" "parentMany" "[I" ∈ BG := mB (t3 (i := 219) (by decide +kernel)) (by decide +kernel)
theorem mw_3_221 : Cond.laysFinal RX9 "AnswerLinesModel" "above" "[I" ∈ BG := mB (t3 (i := 221) (by decide +kernel)) (by decide +kernel)
theorem mw_3_223 : Cond.laysFinal RX9 "AnswerLinesModel" "isBare" "[Z" ∈ BG := mB (t3 (i := 223) (by decide +kernel)) (by decide +kernel)
theorem mw_3_225 : Cond.lays RX9 "AnswerLinesModel" "kinds" "I" ∈ BG := mB (t3 (i := 225) (by decide +kernel)) (by decide +kernel)
theorem mw_3_227 : Cond.laysFinal RX9 "AnswerLinesModel" "lines" "[I" ∈ BG := mB (t3 (i := 227) (by decide +kernel)) (by decide +kernel)
theorem mw_3_229 : Cond.laysFinal RX9 "AnswerLinesModel" "lineLong" "[I" ∈ BG := mB (t3 (i := 229) (by decide +kernel)) (by decide +kernel)
theorem mw_3_231 : Cond.laysFinal RX9 "AnswerLinesModel" "quarrels" "[I" ∈ BG := mB (t3 (i := 231) (by decide +kernel)) (by decide +kernel)
theorem mw_3_233 : Cond.laysFinal RX9 "AnswerLinesModel" "rows" "[I" ∈ BG := mB (t3 (i := 233) (by decide +kernel)) (by decide +kernel)
theorem mw_3_235 : Cond.laysFinal RX9 "AnswerLinesModel" "rowAt" "[I" ∈ BG := mB (t3 (i := 235) (by decide +kernel)) (by decide +kernel)
theorem mw_3_237 : Cond.laysFinal RX9 "AnswerLinesModel" "rowEnd" "[I" ∈ BG := mB (t3 (i := 237) (by decide +kernel)) (by decide +kernel)
theorem mw_3_239 : Cond.lays RX9 "AnswerLinesModel" "rowMany" "I" ∈ BG := mB (t3 (i := 239) (by decide +kernel)) (by decide +kernel)
theorem mw_4_1 : Cond.laysFinal RX9 "AnswerLinesModel" "signs" "[I" ∈ BG := mB (t4 (i := 1) (by decide +kernel)) (by decide +kernel)
theorem mw_4_3 : Cond.laysFinal RX9 "AnswerLinesModel" "signMany" "[I" ∈ BG := mB (t4 (i := 3) (by decide +kernel)) (by decide +kernel)
theorem mw_4_5 : Cond.laysFinal RX9 "AnswerLinesModel" "names" "[I" ∈ BG := mB (t4 (i := 5) (by decide +kernel)) (by decide +kernel)
theorem mw_4_7 : Cond.laysFinal RX9 "AnswerLinesModel" "openPlace" "[I" ∈ BG := mB (t4 (i := 7) (by decide +kernel)) (by decide +kernel)
theorem mw_4_9 : Cond.laysFinal RX9 "AnswerLinesModel" "openName" "[I" ∈ BG := mB (t4 (i := 9) (by decide +kernel)) (by decide +kernel)
theorem mw_4_11 : Cond.laysFinal RX9 "AnswerLinesModel" "openSign" "[I" ∈ BG := mB (t4 (i := 11) (by decide +kernel)) (by decide +kernel)
theorem mw_4_13 : Cond.lays RX9 "AnswerLinesModel" "open" "I" ∈ BG := mB (t4 (i := 13) (by decide +kernel)) (by decide +kernel)
theorem mw_4_15 : Cond.lays RX9 "AnswerLinesModel" "worked" "I" ∈ BG := mB (t4 (i := 15) (by decide +kernel)) (by decide +kernel)
theorem mw_4_17 : Cond.laysFinal RX9 "AnswerLinesModel" "said" "[I" ∈ BG := mB (t4 (i := 17) (by decide +kernel)) (by decide +kernel)
theorem mw_4_19 : Cond.lays RX9 "AnswerLinesModel" "saidMany" "I" ∈ BG := mB (t4 (i := 19) (by decide +kernel)) (by decide +kernel)
theorem mw_4_21 : Cond.lays RX9 "AnswerLinesModel" "endIs" "I" ∈ BG := mB (t4 (i := 21) (by decide +kernel)) (by decide +kernel)
theorem mw_4_23 : Cond.laysFinal RX9 "AnswerLinesModel" "against" "[I" ∈ BG := mB (t4 (i := 23) (by decide +kernel)) (by decide +kernel)
theorem mw_4_25 : Cond.laysFinal RX9 "AnswerLinesModel" "columns" "[I" ∈ BG := mB (t4 (i := 25) (by decide +kernel)) (by decide +kernel)
theorem mw_4_27 : Cond.lays RX9 "AnswerLinesModel" "columnMany" "I" ∈ BG := mB (t4 (i := 27) (by decide +kernel)) (by decide +kernel)
theorem mw_4_29 : Cond.laysFinal RX9 "AnswerLinesModel" "slots" "[I" ∈ BG := mB (t4 (i := 29) (by decide +kernel)) (by decide +kernel)
theorem mw_4_31 : Cond.laysFinal RX9 "AnswerLinesModel" "pushed" "[I" ∈ BG := mB (t4 (i := 31) (by decide +kernel)) (by decide +kernel)
theorem mw_4_33 : Cond.lays RX9 "AnswerLinesModel" "packedLong" "I" ∈ BG := mB (t4 (i := 33) (by decide +kernel)) (by decide +kernel)
theorem mw_4_35 : Cond.laysFinal RX9 "AnswerLinesModel" "callPlace" "[I" ∈ BG := mB (t4 (i := 35) (by decide +kernel)) (by decide +kernel)
theorem mw_4_37 : Cond.laysFinal RX9 "AnswerLinesModel" "callKind" "[I" ∈ BG := mB (t4 (i := 37) (by decide +kernel)) (by decide +kernel)
theorem mw_4_39 : Cond.lays RX9 "AnswerLinesModel" "calls" "I" ∈ BG := mB (t4 (i := 39) (by decide +kernel)) (by decide +kernel)
theorem mw_4_41 : Cond.laysFinal RX9 "AnswerLinesModel" "sizes" "[I" ∈ BG := mB (t4 (i := 41) (by decide +kernel)) (by decide +kernel)
theorem mw_4_43 : Cond.laysFinal RX9 "AnswerLinesModel" "remembered" "[I" ∈ BG := mB (t4 (i := 43) (by decide +kernel)) (by decide +kernel)
theorem mw_4_45 : Cond.lays RX9 "AnswerLinesModel" "rememberedMany" "I" ∈ BG := mB (t4 (i := 45) (by decide +kernel)) (by decide +kernel)
theorem inB_9 : ∀ w ∈ u_ws RX9 TX9 35, w ∈ BG := fun w hw => by
  obtain ⟨k, hk, rfl⟩ := List.mem_map.mp hw
  have hk := List.mem_range.mp hk
  rcases (by omega : k = 0 ∨ k = 1 ∨ k = 2 ∨ k = 3 ∨ k = 4 ∨ k = 5 ∨ k = 6 ∨ k = 7 ∨ k = 8 ∨ k = 9 ∨ k = 10 ∨ k = 11 ∨ k = 12 ∨ k = 13 ∨ k = 14 ∨ k = 15 ∨ k = 16 ∨ k = 17 ∨ k = 18 ∨ k = 19 ∨ k = 20 ∨ k = 21 ∨ k = 22 ∨ k = 23 ∨ k = 24 ∨ k = 25 ∨ k = 26 ∨ k = 27 ∨ k = 28 ∨ k = 29 ∨ k = 30 ∨ k = 31 ∨ k = 32 ∨ k = 33 ∨ k = 34) with rfl | rfl | rfl | rfl | rfl | rfl | rfl | rfl | rfl | rfl | rfl | rfl | rfl | rfl | rfl | rfl | rfl | rfl | rfl | rfl | rfl | rfl | rfl | rfl | rfl | rfl | rfl | rfl | rfl | rfl | rfl | rfl | rfl | rfl | rfl
  · exact mw_3_217
  · exact mw_3_219
  · exact mw_3_221
  · exact mw_3_223
  · exact mw_3_225
  · exact mw_3_227
  · exact mw_3_229
  · exact mw_3_231
  · exact mw_3_233
  · exact mw_3_235
  · exact mw_3_237
  · exact mw_3_239
  · exact mw_4_1
  · exact mw_4_3
  · exact mw_4_5
  · exact mw_4_7
  · exact mw_4_9
  · exact mw_4_11
  · exact mw_4_13
  · exact mw_4_15
  · exact mw_4_17
  · exact mw_4_19
  · exact mw_4_21
  · exact mw_4_23
  · exact mw_4_25
  · exact mw_4_27
  · exact mw_4_29
  · exact mw_4_31
  · exact mw_4_33
  · exact mw_4_35
  · exact mw_4_37
  · exact mw_4_39
  · exact mw_4_41
  · exact mw_4_43
  · exact mw_4_45
theorem mw_3_186 : Cond.fieldLink RX9 86 "AnswerLinesModel" "kinds" "I" ∈ BG := mB (t3 (i := 186) (by decide +kernel)) (by decide +kernel)
theorem mw_4_59 : Cond.code yX9_in cX9_in 6 (some .boolean) ∈ BG := mB (t4 (i := 59) rfl) (by decide +kernel)
theorem mw_4_57 : Cond.methodLink RX9 90 yX9_in ∈ BG := mB (t4 (i := 57) (by decide +kernel)) (by decide +kernel)
theorem mw_4_58 : Cond.static yX9_in ∈ BG := mB (t4 (i := 58) (by decide +kernel)) (by decide +kernel)
theorem mw_1_9 : Cond.initialized RX9 ∈ BG := mB (t1 (i := 9) (by decide +kernel)) (by decide +kernel)
theorem mw_4_118 : Cond.constantLong RX9 94 (7) ∈ BG := mB (t4 (i := 118) (by decide +kernel)) (by decide +kernel)
theorem mw_4_60 : Cond.constantLong RX9 100 (3) ∈ BG := mB (t4 (i := 60) (by decide +kernel)) (by decide +kernel)
theorem dX9_in_0 : decode cX9_in 0 = .ok (.lload_n 0, 1) := by decide +kernel
theorem dX9_in_1 : decode cX9_in 1 = .ok (.lload_n 2, 1) := by decide +kernel
theorem dX9_in_2 : decode cX9_in 2 = .ok (.lcmp, 1) := by decide +kernel
theorem dX9_in_3 : decode cX9_in 3 = .ok (.ifCond .lt 14, 3) := by decide +kernel
theorem dX9_in_17 : decode cX9_in 17 = .ok (.iconst 0, 1) := by decide +kernel
theorem dX9_in_18 : decode cX9_in 18 = .ok (.ireturn, 1) := by decide +kernel
theorem dX9_in_6 : decode cX9_in 6 = .ok (.lload_n 0, 1) := by decide +kernel
theorem dX9_in_7 : decode cX9_in 7 = .ok (.lload 4, 2) := by decide +kernel
theorem dX9_in_9 : decode cX9_in 9 = .ok (.lcmp, 1) := by decide +kernel
theorem dX9_in_10 : decode cX9_in 10 = .ok (.ifCond .gt 7, 3) := by decide +kernel
theorem dX9_in_13 : decode cX9_in 13 = .ok (.iconst 1, 1) := by decide +kernel
theorem dX9_in_14 : decode cX9_in 14 = .ok (.goto 4, 3) := by decide +kernel
theorem dX9_ones_0 : decode cX9_ones 0 = .ok (.iconst 0, 1) := by decide +kernel
theorem dX9_ones_1 : decode cX9_ones 1 = .ok (.istore_n 1, 1) := by decide +kernel
theorem dX9_ones_2 : decode cX9_ones 2 = .ok (.iconst 0, 1) := by decide +kernel
theorem dX9_ones_3 : decode cX9_ones 3 = .ok (.istore_n 2, 1) := by decide +kernel
theorem dX9_ones_4 : decode cX9_ones 4 = .ok (.iload_n 2, 1) := by decide +kernel
theorem dX9_ones_5 : decode cX9_ones 5 = .ok (.bipush 10, 2) := by decide +kernel
theorem dX9_ones_7 : decode cX9_ones 7 = .ok (.if_icmp .ge 17, 3) := by decide +kernel
theorem dX9_ones_10 : decode cX9_ones 10 = .ok (.iload_n 1, 1) := by decide +kernel
theorem dX9_ones_11 : decode cX9_ones 11 = .ok (.iload_n 0, 1) := by decide +kernel
theorem dX9_ones_12 : decode cX9_ones 12 = .ok (.iload_n 2, 1) := by decide +kernel
theorem dX9_ones_13 : decode cX9_ones 13 = .ok (.ishr, 1) := by decide +kernel
theorem dX9_ones_14 : decode cX9_ones 14 = .ok (.iconst 1, 1) := by decide +kernel
theorem dX9_ones_15 : decode cX9_ones 15 = .ok (.iand, 1) := by decide +kernel
theorem dX9_ones_16 : decode cX9_ones 16 = .ok (.iadd, 1) := by decide +kernel
theorem dX9_ones_17 : decode cX9_ones 17 = .ok (.istore_n 1, 1) := by decide +kernel
theorem dX9_ones_18 : decode cX9_ones 18 = .ok (.iinc 2 1, 3) := by decide +kernel
theorem dX9_ones_21 : decode cX9_ones 21 = .ok (.goto (-17), 3) := by decide +kernel
theorem dX9_ones_24 : decode cX9_ones 24 = .ok (.iload_n 1, 1) := by decide +kernel
theorem dX9_ones_25 : decode cX9_ones 25 = .ok (.ireturn, 1) := by decide +kernel
theorem dX9_isKind_0 : decode cX9_isKind 0 = .ok (.iload_n 1, 1) := by decide +kernel
theorem dX9_isKind_1 : decode cX9_isKind 1 = .ok (.i2l, 1) := by decide +kernel
theorem dX9_isKind_2 : decode cX9_isKind 2 = .ok (.lconst 0, 1) := by decide +kernel
theorem dX9_isKind_3 : decode cX9_isKind 3 = .ok (.aload_n 0, 1) := by decide +kernel
theorem dX9_isKind_4 : decode cX9_isKind 4 = .ok (.getfield 86, 3) := by decide +kernel
theorem dX9_isKind_7 : decode cX9_isKind 7 = .ok (.iconst 1, 1) := by decide +kernel
theorem dX9_isKind_8 : decode cX9_isKind 8 = .ok (.isub, 1) := by decide +kernel
theorem dX9_isKind_9 : decode cX9_isKind 9 = .ok (.i2l, 1) := by decide +kernel
theorem dX9_isKind_10 : decode cX9_isKind 10 = .ok (.invokestatic 90, 3) := by decide +kernel
theorem dX9_isKind_13 : decode cX9_isKind 13 = .ok (.ireturn, 1) := by decide +kernel
theorem dX9_isName_0 : decode cX9_isName 0 = .ok (.iload_n 0, 1) := by decide +kernel
theorem dX9_isName_1 : decode cX9_isName 1 = .ok (.i2l, 1) := by decide +kernel
theorem dX9_isName_2 : decode cX9_isName 2 = .ok (.lconst 0, 1) := by decide +kernel
theorem dX9_isName_3 : decode cX9_isName 3 = .ok (.ldc2_w 94, 3) := by decide +kernel
theorem dX9_isName_6 : decode cX9_isName 6 = .ok (.invokestatic 90, 3) := by decide +kernel
theorem dX9_isName_9 : decode cX9_isName 9 = .ok (.ireturn, 1) := by decide +kernel
theorem dX9_isPlace_0 : decode cX9_isPlace 0 = .ok (.iload_n 0, 1) := by decide +kernel
theorem dX9_isPlace_1 : decode cX9_isPlace 1 = .ok (.i2l, 1) := by decide +kernel
theorem dX9_isPlace_2 : decode cX9_isPlace 2 = .ok (.lconst 0, 1) := by decide +kernel
theorem dX9_isPlace_3 : decode cX9_isPlace 3 = .ok (.ldc2_w 100, 3) := by decide +kernel
theorem dX9_isPlace_6 : decode cX9_isPlace 6 = .ok (.invokestatic 90, 3) := by decide +kernel
theorem dX9_isPlace_9 : decode cX9_isPlace 9 = .ok (.ireturn, 1) := by decide +kernel
set_option maxHeartbeats 4000000 in
set_option maxRecDepth 100000 in
theorem m_in (l : Launch) (dC : Nat → ClassId) (dI : Nat → Nat → Nat) (sz : Nat) (a : Int32) (b : Int32) (c9 : Int32) (B : Int) (E : Int) (hB : Int32.toInt b = B) (hE : Int32.toInt c9 = E) : Met l yX9_in (wq yX9_in cX9_in 6 (some .boolean)) ({ frames := 0, cells := 0, slots := 0, locals := 0 }) (va_Pc [.long (Int32.toInt64 a), .long (Int32.toInt64 b), .long (Int32.toInt64 c9)] (pcW dC dI [] [] sz)) (va_Qi (fun (r : Int32) (_ : Unit) => r = (if B ≤ Int32.toInt a ∧ Int32.toInt a ≤ E then 1 else 0)) (fun _ _ => True) (fun q : Nat => sz ≤ q)) 0 0 (fun q : Nat => sz ≤ q) := by
  refine Met.ofW (cc := cX9_in) (maxL := 6) (ret := (some .boolean)) (by decide) rfl ?_
  intro p e s m args below meth c s₁ B hml hv
  obtain ⟨rfl, hsz, hN, hP, hK, hD0⟩ := hv
  have hx := B.exec
  have hb := B.bytes
  have hr := B.returns
  have hts0 := atoms_spec (ws := (wq yX9_in cX9_in 6 (some .boolean))) B.pre
  have hts : ∀ w ∈ BG, w.before _ s = true := fun w h => hts0 w (List.mem_cons_of_mem _ h)
  have hown : s.vm.findClass RX9 = some m.cls := findClass_of_methodNamed B.named
  have hlocks := B.notSynchronized
  subst hsz
  have hA : ∀ q : Nat, s.heap.size ≤ q → (fun q : Nat => s.heap.size ≤ q) q := fun _ h => h
  have hD := hD0
  have hS : va_S (fun q : Nat => s.heap.size ≤ q) s.heap s.heap [] := va_S.rf
  have hP : va_P (dC, dI) vwCl [] s.heap := hP
  have hl := lv_entry ([.long (Int32.toInt64 a), .long (Int32.toInt64 b), .long (Int32.toInt64 c9)]) (n := 6) (Nat.le_of_ble_eq_true rfl)
  rw [lg_entry_eq]
  generalize (lg_sl ([.long (Int32.toInt64 a), .long (Int32.toInt64 b), .long (Int32.toInt64 c9)]) ++ List.replicate (6 - (lg_sl ([.long (Int32.toInt64 a), .long (Int32.toInt64 b), .long (Int32.toInt64 c9)])).length) Slot.unset).toArray = ls at hl ⊢
  have hl : lv_has ls 6 [(0, .long (Int32.toInt64 a)), (2, .long (Int32.toInt64 b)), (4, .long (Int32.toInt64 c9))] := hl
  skip
  refine lv_lload_n hx hb dX9_in_0 rfl (lv_at hl 0 rfl) ?_
  refine lv_lload_n hx hb dX9_in_1 rfl (lv_at hl 1 rfl) ?_
  refine W.lcmp hx hb dX9_in_2 ?_
  refine lv_if_lt (tgt := 17) hx hb dX9_in_3 (by decide) (fun c_1 => ?_) (fun c_1 => ?_)
  · have b_2 := lc_lt c_1
    refine lv_iconst (v := 0) hx hb dX9_in_17 (by decide) ?_
    exact W.zret (v := 0) hx hb hr (by decide) (fun t ht hW => ⟨⟨0, (), rfl, (by first | exact (if_pos (by omega)).symm | exact (if_neg (by omega)).symm), trivial⟩, hS.F ht⟩) hS.2.2 dX9_in_18
  · have b_2 := lc_ltn c_1
    refine lv_lload_n hx hb dX9_in_6 rfl (lv_at hl 0 rfl) ?_
    refine lv_lload hx hb dX9_in_7 (lv_at hl 2 rfl) ?_
    refine W.lcmp hx hb dX9_in_9 ?_
    refine lv_if_gt (tgt := 17) hx hb dX9_in_10 (by decide) (fun c_3 => ?_) (fun c_3 => ?_)
    · have b_4 := lc_gt c_3
      refine lv_iconst (v := 0) hx hb dX9_in_17 (by decide) ?_
      exact W.zret (v := 0) hx hb hr (by decide) (fun t ht hW => ⟨⟨0, (), rfl, (by first | exact (if_pos (by omega)).symm | exact (if_neg (by omega)).symm), trivial⟩, hS.F ht⟩) hS.2.2 dX9_in_18
    · have b_4 := lc_gtn c_3
      refine lv_iconst (v := 1) hx hb dX9_in_13 (by decide) ?_
      refine lv_goto (tgt := 18) hx hb dX9_in_14 (by decide) ?_
      exact W.zret (v := 1) hx hb hr (by decide) (fun t ht hW => ⟨⟨1, (), rfl, (by first | exact (if_pos (by omega)).symm | exact (if_neg (by omega)).symm), trivial⟩, hS.F ht⟩) hS.2.2 dX9_in_18
set_option maxHeartbeats 4000000 in
set_option maxRecDepth 100000 in
theorem m_ones (l : Launch) (dC : Nat → ClassId) (dI : Nat → Nat → Nat) (sz : Nat)   : Met l yX9_ones (wq yX9_ones cX9_ones 3 (some .int)) ({ frames := 0, cells := 0, slots := 0, locals := 0 }) (va_Pc [.int 0] (pcW dC dI [] [] sz)) (va_Qi (fun (r : Int32) (_ : Unit) => r = 0) (fun _ _ => True) (fun q : Nat => sz ≤ q)) 0 0 (fun q : Nat => sz ≤ q) := by
  refine Met.ofW (cc := cX9_ones) (maxL := 3) (ret := (some .int)) (by decide) rfl ?_
  intro p e s m args below meth c s₁ B hml hv
  obtain ⟨rfl, hsz, hN, hP, hK, hD0⟩ := hv
  have hx := B.exec
  have hb := B.bytes
  have hr := B.returns
  have hts0 := atoms_spec (ws := (wq yX9_ones cX9_ones 3 (some .int))) B.pre
  have hts : ∀ w ∈ BG, w.before _ s = true := fun w h => hts0 w (List.mem_cons_of_mem _ h)
  have hown : s.vm.findClass RX9 = some m.cls := findClass_of_methodNamed B.named
  have hlocks := B.notSynchronized
  subst hsz
  have hA : ∀ q : Nat, s.heap.size ≤ q → (fun q : Nat => s.heap.size ≤ q) q := fun _ h => h
  have hD := hD0
  have hS : va_S (fun q : Nat => s.heap.size ≤ q) s.heap s.heap [] := va_S.rf
  have hP : va_P (dC, dI) vwCl [] s.heap := hP
  have hl := lv_entry ([.int 0]) (n := 3) (Nat.le_of_ble_eq_true rfl)
  rw [lg_entry_eq]
  generalize (lg_sl ([.int 0]) ++ List.replicate (3 - (lg_sl ([.int 0])).length) Slot.unset).toArray = ls at hl ⊢
  have hl : lv_has ls 3 [(0, .int 0)] := hl
  skip
  refine lv_iconst (v := 0) hx hb dX9_ones_0 (by decide) ?_
  refine lv_istore_n (lv' := [(1, .int 0), (0, .int 0)]) hx hb dX9_ones_1 rfl hl (by decide) rfl (fun ls hl => ?_)
  refine lv_iconst (v := 0) hx hb dX9_ones_2 (by decide) ?_
  refine lv_istore_n (lv' := [(2, .int 0), (1, .int 0), (0, .int 0)]) hx hb dX9_ones_3 rfl hl (by decide) rfl (fun ls hl => ?_)
  refine lv_iload_n hx hb dX9_ones_4 rfl (lv_at hl 0 rfl) ?_
  refine lv_bipush (v := 10) hx hb dX9_ones_5 (by decide) ?_
  refine lv_icmp_ge (tgt := 24) hx hb dX9_ones_7 (by decide) (fun h => absurd h (by decide)) (fun _ => ?_)
  refine lv_iload_n hx hb dX9_ones_10 rfl (lv_at hl 1 rfl) ?_
  refine lv_iload_n hx hb dX9_ones_11 rfl (lv_at hl 2 rfl) ?_
  refine lv_iload_n hx hb dX9_ones_12 rfl (lv_at hl 0 rfl) ?_
  refine lv_ishr hx hb dX9_ones_13 ?_
  refine hx_top (y := 0) (by decide) ?_
  refine lv_iconst (v := 1) hx hb dX9_ones_14 (by decide) ?_
  refine lv_iand hx hb dX9_ones_15 ?_
  refine hx_top (y := 0) (by decide) ?_
  refine lv_iadd hx hb dX9_ones_16 ?_
  refine hx_top (y := 0) (by decide) ?_
  refine lv_istore_n (lv' := [(1, .int 0), (2, .int 0), (0, .int 0)]) hx hb dX9_ones_17 rfl hl (by decide) rfl (fun ls hl => ?_)
  refine lv_iinc (v := 1) (lv' := [(2, .int 1), (1, .int 0), (0, .int 0)]) hx hb dX9_ones_18 hl (k := 1) rfl (by decide) (by decide) rfl (fun ls hl => ?_)
  refine lv_goto (tgt := 4) hx hb dX9_ones_21 (by decide) ?_
  refine lv_iload_n hx hb dX9_ones_4 rfl (lv_at hl 0 rfl) ?_
  refine lv_bipush (v := 10) hx hb dX9_ones_5 (by decide) ?_
  refine lv_icmp_ge (tgt := 24) hx hb dX9_ones_7 (by decide) (fun h => absurd h (by decide)) (fun _ => ?_)
  refine lv_iload_n hx hb dX9_ones_10 rfl (lv_at hl 1 rfl) ?_
  refine lv_iload_n hx hb dX9_ones_11 rfl (lv_at hl 2 rfl) ?_
  refine lv_iload_n hx hb dX9_ones_12 rfl (lv_at hl 0 rfl) ?_
  refine lv_ishr hx hb dX9_ones_13 ?_
  refine hx_top (y := 0) (by decide) ?_
  refine lv_iconst (v := 1) hx hb dX9_ones_14 (by decide) ?_
  refine lv_iand hx hb dX9_ones_15 ?_
  refine hx_top (y := 0) (by decide) ?_
  refine lv_iadd hx hb dX9_ones_16 ?_
  refine hx_top (y := 0) (by decide) ?_
  refine lv_istore_n (lv' := [(1, .int 0), (2, .int 1), (0, .int 0)]) hx hb dX9_ones_17 rfl hl (by decide) rfl (fun ls hl => ?_)
  refine lv_iinc (v := 2) (lv' := [(2, .int 2), (1, .int 0), (0, .int 0)]) hx hb dX9_ones_18 hl (k := 1) rfl (by decide) (by decide) rfl (fun ls hl => ?_)
  refine lv_goto (tgt := 4) hx hb dX9_ones_21 (by decide) ?_
  refine lv_iload_n hx hb dX9_ones_4 rfl (lv_at hl 0 rfl) ?_
  refine lv_bipush (v := 10) hx hb dX9_ones_5 (by decide) ?_
  refine lv_icmp_ge (tgt := 24) hx hb dX9_ones_7 (by decide) (fun h => absurd h (by decide)) (fun _ => ?_)
  refine lv_iload_n hx hb dX9_ones_10 rfl (lv_at hl 1 rfl) ?_
  refine lv_iload_n hx hb dX9_ones_11 rfl (lv_at hl 2 rfl) ?_
  refine lv_iload_n hx hb dX9_ones_12 rfl (lv_at hl 0 rfl) ?_
  refine lv_ishr hx hb dX9_ones_13 ?_
  refine hx_top (y := 0) (by decide) ?_
  refine lv_iconst (v := 1) hx hb dX9_ones_14 (by decide) ?_
  refine lv_iand hx hb dX9_ones_15 ?_
  refine hx_top (y := 0) (by decide) ?_
  refine lv_iadd hx hb dX9_ones_16 ?_
  refine hx_top (y := 0) (by decide) ?_
  refine lv_istore_n (lv' := [(1, .int 0), (2, .int 2), (0, .int 0)]) hx hb dX9_ones_17 rfl hl (by decide) rfl (fun ls hl => ?_)
  refine lv_iinc (v := 3) (lv' := [(2, .int 3), (1, .int 0), (0, .int 0)]) hx hb dX9_ones_18 hl (k := 1) rfl (by decide) (by decide) rfl (fun ls hl => ?_)
  refine lv_goto (tgt := 4) hx hb dX9_ones_21 (by decide) ?_
  refine lv_iload_n hx hb dX9_ones_4 rfl (lv_at hl 0 rfl) ?_
  refine lv_bipush (v := 10) hx hb dX9_ones_5 (by decide) ?_
  refine lv_icmp_ge (tgt := 24) hx hb dX9_ones_7 (by decide) (fun h => absurd h (by decide)) (fun _ => ?_)
  refine lv_iload_n hx hb dX9_ones_10 rfl (lv_at hl 1 rfl) ?_
  refine lv_iload_n hx hb dX9_ones_11 rfl (lv_at hl 2 rfl) ?_
  refine lv_iload_n hx hb dX9_ones_12 rfl (lv_at hl 0 rfl) ?_
  refine lv_ishr hx hb dX9_ones_13 ?_
  refine hx_top (y := 0) (by decide) ?_
  refine lv_iconst (v := 1) hx hb dX9_ones_14 (by decide) ?_
  refine lv_iand hx hb dX9_ones_15 ?_
  refine hx_top (y := 0) (by decide) ?_
  refine lv_iadd hx hb dX9_ones_16 ?_
  refine hx_top (y := 0) (by decide) ?_
  refine lv_istore_n (lv' := [(1, .int 0), (2, .int 3), (0, .int 0)]) hx hb dX9_ones_17 rfl hl (by decide) rfl (fun ls hl => ?_)
  refine lv_iinc (v := 4) (lv' := [(2, .int 4), (1, .int 0), (0, .int 0)]) hx hb dX9_ones_18 hl (k := 1) rfl (by decide) (by decide) rfl (fun ls hl => ?_)
  refine lv_goto (tgt := 4) hx hb dX9_ones_21 (by decide) ?_
  refine lv_iload_n hx hb dX9_ones_4 rfl (lv_at hl 0 rfl) ?_
  refine lv_bipush (v := 10) hx hb dX9_ones_5 (by decide) ?_
  refine lv_icmp_ge (tgt := 24) hx hb dX9_ones_7 (by decide) (fun h => absurd h (by decide)) (fun _ => ?_)
  refine lv_iload_n hx hb dX9_ones_10 rfl (lv_at hl 1 rfl) ?_
  refine lv_iload_n hx hb dX9_ones_11 rfl (lv_at hl 2 rfl) ?_
  refine lv_iload_n hx hb dX9_ones_12 rfl (lv_at hl 0 rfl) ?_
  refine lv_ishr hx hb dX9_ones_13 ?_
  refine hx_top (y := 0) (by decide) ?_
  refine lv_iconst (v := 1) hx hb dX9_ones_14 (by decide) ?_
  refine lv_iand hx hb dX9_ones_15 ?_
  refine hx_top (y := 0) (by decide) ?_
  refine lv_iadd hx hb dX9_ones_16 ?_
  refine hx_top (y := 0) (by decide) ?_
  refine lv_istore_n (lv' := [(1, .int 0), (2, .int 4), (0, .int 0)]) hx hb dX9_ones_17 rfl hl (by decide) rfl (fun ls hl => ?_)
  refine lv_iinc (v := 5) (lv' := [(2, .int 5), (1, .int 0), (0, .int 0)]) hx hb dX9_ones_18 hl (k := 1) rfl (by decide) (by decide) rfl (fun ls hl => ?_)
  refine lv_goto (tgt := 4) hx hb dX9_ones_21 (by decide) ?_
  refine lv_iload_n hx hb dX9_ones_4 rfl (lv_at hl 0 rfl) ?_
  refine lv_bipush (v := 10) hx hb dX9_ones_5 (by decide) ?_
  refine lv_icmp_ge (tgt := 24) hx hb dX9_ones_7 (by decide) (fun h => absurd h (by decide)) (fun _ => ?_)
  refine lv_iload_n hx hb dX9_ones_10 rfl (lv_at hl 1 rfl) ?_
  refine lv_iload_n hx hb dX9_ones_11 rfl (lv_at hl 2 rfl) ?_
  refine lv_iload_n hx hb dX9_ones_12 rfl (lv_at hl 0 rfl) ?_
  refine lv_ishr hx hb dX9_ones_13 ?_
  refine hx_top (y := 0) (by decide) ?_
  refine lv_iconst (v := 1) hx hb dX9_ones_14 (by decide) ?_
  refine lv_iand hx hb dX9_ones_15 ?_
  refine hx_top (y := 0) (by decide) ?_
  refine lv_iadd hx hb dX9_ones_16 ?_
  refine hx_top (y := 0) (by decide) ?_
  refine lv_istore_n (lv' := [(1, .int 0), (2, .int 5), (0, .int 0)]) hx hb dX9_ones_17 rfl hl (by decide) rfl (fun ls hl => ?_)
  refine lv_iinc (v := 6) (lv' := [(2, .int 6), (1, .int 0), (0, .int 0)]) hx hb dX9_ones_18 hl (k := 1) rfl (by decide) (by decide) rfl (fun ls hl => ?_)
  refine lv_goto (tgt := 4) hx hb dX9_ones_21 (by decide) ?_
  refine lv_iload_n hx hb dX9_ones_4 rfl (lv_at hl 0 rfl) ?_
  refine lv_bipush (v := 10) hx hb dX9_ones_5 (by decide) ?_
  refine lv_icmp_ge (tgt := 24) hx hb dX9_ones_7 (by decide) (fun h => absurd h (by decide)) (fun _ => ?_)
  refine lv_iload_n hx hb dX9_ones_10 rfl (lv_at hl 1 rfl) ?_
  refine lv_iload_n hx hb dX9_ones_11 rfl (lv_at hl 2 rfl) ?_
  refine lv_iload_n hx hb dX9_ones_12 rfl (lv_at hl 0 rfl) ?_
  refine lv_ishr hx hb dX9_ones_13 ?_
  refine hx_top (y := 0) (by decide) ?_
  refine lv_iconst (v := 1) hx hb dX9_ones_14 (by decide) ?_
  refine lv_iand hx hb dX9_ones_15 ?_
  refine hx_top (y := 0) (by decide) ?_
  refine lv_iadd hx hb dX9_ones_16 ?_
  refine hx_top (y := 0) (by decide) ?_
  refine lv_istore_n (lv' := [(1, .int 0), (2, .int 6), (0, .int 0)]) hx hb dX9_ones_17 rfl hl (by decide) rfl (fun ls hl => ?_)
  refine lv_iinc (v := 7) (lv' := [(2, .int 7), (1, .int 0), (0, .int 0)]) hx hb dX9_ones_18 hl (k := 1) rfl (by decide) (by decide) rfl (fun ls hl => ?_)
  refine lv_goto (tgt := 4) hx hb dX9_ones_21 (by decide) ?_
  refine lv_iload_n hx hb dX9_ones_4 rfl (lv_at hl 0 rfl) ?_
  refine lv_bipush (v := 10) hx hb dX9_ones_5 (by decide) ?_
  refine lv_icmp_ge (tgt := 24) hx hb dX9_ones_7 (by decide) (fun h => absurd h (by decide)) (fun _ => ?_)
  refine lv_iload_n hx hb dX9_ones_10 rfl (lv_at hl 1 rfl) ?_
  refine lv_iload_n hx hb dX9_ones_11 rfl (lv_at hl 2 rfl) ?_
  refine lv_iload_n hx hb dX9_ones_12 rfl (lv_at hl 0 rfl) ?_
  refine lv_ishr hx hb dX9_ones_13 ?_
  refine hx_top (y := 0) (by decide) ?_
  refine lv_iconst (v := 1) hx hb dX9_ones_14 (by decide) ?_
  refine lv_iand hx hb dX9_ones_15 ?_
  refine hx_top (y := 0) (by decide) ?_
  refine lv_iadd hx hb dX9_ones_16 ?_
  refine hx_top (y := 0) (by decide) ?_
  refine lv_istore_n (lv' := [(1, .int 0), (2, .int 7), (0, .int 0)]) hx hb dX9_ones_17 rfl hl (by decide) rfl (fun ls hl => ?_)
  refine lv_iinc (v := 8) (lv' := [(2, .int 8), (1, .int 0), (0, .int 0)]) hx hb dX9_ones_18 hl (k := 1) rfl (by decide) (by decide) rfl (fun ls hl => ?_)
  refine lv_goto (tgt := 4) hx hb dX9_ones_21 (by decide) ?_
  refine lv_iload_n hx hb dX9_ones_4 rfl (lv_at hl 0 rfl) ?_
  refine lv_bipush (v := 10) hx hb dX9_ones_5 (by decide) ?_
  refine lv_icmp_ge (tgt := 24) hx hb dX9_ones_7 (by decide) (fun h => absurd h (by decide)) (fun _ => ?_)
  refine lv_iload_n hx hb dX9_ones_10 rfl (lv_at hl 1 rfl) ?_
  refine lv_iload_n hx hb dX9_ones_11 rfl (lv_at hl 2 rfl) ?_
  refine lv_iload_n hx hb dX9_ones_12 rfl (lv_at hl 0 rfl) ?_
  refine lv_ishr hx hb dX9_ones_13 ?_
  refine hx_top (y := 0) (by decide) ?_
  refine lv_iconst (v := 1) hx hb dX9_ones_14 (by decide) ?_
  refine lv_iand hx hb dX9_ones_15 ?_
  refine hx_top (y := 0) (by decide) ?_
  refine lv_iadd hx hb dX9_ones_16 ?_
  refine hx_top (y := 0) (by decide) ?_
  refine lv_istore_n (lv' := [(1, .int 0), (2, .int 8), (0, .int 0)]) hx hb dX9_ones_17 rfl hl (by decide) rfl (fun ls hl => ?_)
  refine lv_iinc (v := 9) (lv' := [(2, .int 9), (1, .int 0), (0, .int 0)]) hx hb dX9_ones_18 hl (k := 1) rfl (by decide) (by decide) rfl (fun ls hl => ?_)
  refine lv_goto (tgt := 4) hx hb dX9_ones_21 (by decide) ?_
  refine lv_iload_n hx hb dX9_ones_4 rfl (lv_at hl 0 rfl) ?_
  refine lv_bipush (v := 10) hx hb dX9_ones_5 (by decide) ?_
  refine lv_icmp_ge (tgt := 24) hx hb dX9_ones_7 (by decide) (fun h => absurd h (by decide)) (fun _ => ?_)
  refine lv_iload_n hx hb dX9_ones_10 rfl (lv_at hl 1 rfl) ?_
  refine lv_iload_n hx hb dX9_ones_11 rfl (lv_at hl 2 rfl) ?_
  refine lv_iload_n hx hb dX9_ones_12 rfl (lv_at hl 0 rfl) ?_
  refine lv_ishr hx hb dX9_ones_13 ?_
  refine hx_top (y := 0) (by decide) ?_
  refine lv_iconst (v := 1) hx hb dX9_ones_14 (by decide) ?_
  refine lv_iand hx hb dX9_ones_15 ?_
  refine hx_top (y := 0) (by decide) ?_
  refine lv_iadd hx hb dX9_ones_16 ?_
  refine hx_top (y := 0) (by decide) ?_
  refine lv_istore_n (lv' := [(1, .int 0), (2, .int 9), (0, .int 0)]) hx hb dX9_ones_17 rfl hl (by decide) rfl (fun ls hl => ?_)
  refine lv_iinc (v := 10) (lv' := [(2, .int 10), (1, .int 0), (0, .int 0)]) hx hb dX9_ones_18 hl (k := 1) rfl (by decide) (by decide) rfl (fun ls hl => ?_)
  refine lv_goto (tgt := 4) hx hb dX9_ones_21 (by decide) ?_
  refine lv_iload_n hx hb dX9_ones_4 rfl (lv_at hl 0 rfl) ?_
  refine lv_bipush (v := 10) hx hb dX9_ones_5 (by decide) ?_
  refine lv_icmp_ge (tgt := 24) hx hb dX9_ones_7 (by decide) (fun _ => ?_) (fun h => absurd (by decide) h)
  refine lv_iload_n hx hb dX9_ones_24 rfl (lv_at hl 1 rfl) ?_
  exact W.iret (v := 0) hx hb hr (fun t ht hW => ⟨⟨0, (), rfl, rfl, trivial⟩, hS.F ht⟩) hS.2.2 dX9_ones_25
set_option maxHeartbeats 4000000 in
set_option maxRecDepth 100000 in
theorem m_isKind (l : Launch) (dC : Nat → ClassId) (dI : Nat → Nat → Nat) (sz : Nat) (h0 : Nat) (w0 : Value) (w1 : Value) (w2 : Value) (w3 : Value) (w5 : Value) (w6 : Value) (w7 : Value) (w8 : Value) (w9 : Value) (w10 : Value) (w11 : Value) (w12 : Value) (w13 : Value) (w14 : Value) (w15 : Value) (w16 : Value) (w17 : Value) (w18 : Value) (w19 : Value) (w20 : Value) (w21 : Value) (w22 : Value) (w23 : Value) (w24 : Value) (w25 : Value) (w26 : Value) (w27 : Value) (w28 : Value) (w29 : Value) (w30 : Value) (w31 : Value) (w32 : Value) (w33 : Value) (w34 : Value) (n : Int32)  : Met l yX9_isKind (wq yX9_isKind cX9_isKind 2 (some .boolean)) ({ frames := 1, cells := 0, slots := 0, locals := 25 }) (va_Pc [.ref h0, .int n] (pcW dC dI [] [(h0, .inr (8, [w0, w1, w2, w3, .int 0, w5, w6, w7, w8, w9, w10, w11, w12, w13, w14, w15, w16, w17, w18, w19, w20, w21, w22, w23, w24, w25, w26, w27, w28, w29, w30, w31, w32, w33, w34]))] sz)) (va_Qi (fun (r : Int32) (_ : Unit) => r = 0) (fun _ _ => True) (fun q : Nat => sz ≤ q)) 0 0 (fun q : Nat => sz ≤ q) := by
  refine Met.ofW (cc := cX9_isKind) (maxL := 2) (ret := (some .boolean)) (by decide) rfl ?_
  intro p e s m args below meth c s₁ B hml hv
  obtain ⟨rfl, hsz, hN, hP, hK, hD0⟩ := hv
  have hx := B.exec
  have hb := B.bytes
  have hr := B.returns
  have hts0 := atoms_spec (ws := (wq yX9_isKind cX9_isKind 2 (some .boolean))) B.pre
  have hts : ∀ w ∈ BG, w.before _ s = true := fun w h => hts0 w (List.mem_cons_of_mem _ h)
  have hown : s.vm.findClass RX9 = some m.cls := findClass_of_methodNamed B.named
  have hlocks := B.notSynchronized
  subst hsz
  have hA : ∀ q : Nat, s.heap.size ≤ q → (fun q : Nat => s.heap.size ≤ q) q := fun _ h => h
  have hD := hD0
  have hS : va_S (fun q : Nat => s.heap.size ≤ q) s.heap s.heap [] := va_S.rf
  have hP : va_P (dC, dI) vwCl [(h0, .inr (8, [w0, w1, w2, w3, .int 0, w5, w6, w7, w8, w9, w10, w11, w12, w13, w14, w15, w16, w17, w18, w19, w20, w21, w22, w23, w24, w25, w26, w27, w28, w29, w30, w31, w32, w33, w34]))] s.heap := hP
  have hl := lv_entry ([.ref h0, .int n]) (n := 2) (Nat.le_of_ble_eq_true rfl)
  rw [lg_entry_eq]
  generalize (lg_sl ([.ref h0, .int n]) ++ List.replicate (2 - (lg_sl ([.ref h0, .int n])).length) Slot.unset).toArray = ls at hl ⊢
  have hl : lv_has ls 2 [(0, .ref h0), (1, .int n)] := hl
  skip
  refine lv_iload_n hx hb dX9_isKind_0 rfl (lv_at hl 1 rfl) ?_
  refine lv_i2l hx hb dX9_isKind_1 rfl ?_
  refine lv_lconst (v := Int32.toInt64 0) hx hb dX9_isKind_2 (by decide) ?_
  refine lv_aload_n hx hb dX9_isKind_3 rfl (lv_at hl 0 rfl) ?_
  refine va_get (D := (dC, dI)) (ci := 8) (v := .int 0) (C := RX9) (T := TX9) (N := 35) hx hb hts inB_9 hown hK hP 0 rfl rfl 4 (by decide) (hts _ mw_3_186) (fun _ h9 => h9) rfl dX9_isKind_4 ?_
  refine lv_iconst (v := 1) hx hb dX9_isKind_7 (by decide) ?_
  refine lv_isub hx hb dX9_isKind_8 ?_
  refine hx_top (y := (-1)) (by decide) ?_
  refine lv_i2l hx hb dX9_isKind_9 rfl ?_
  have hPc := hP.sub (ws' := []) [] rfl
  have hDc := hD.sub (ws' := []) [] (by decide) rfl
  have hKc := hK.sub (tys' := []) [] rfl
  refine va_calli (va_runS (As := [.long (Int32.toInt64 n), .long (Int32.toInt64 0), .long (Int32.toInt64 (-1))]) (rest := []) ⟨hx, hb, hml, hown, hts⟩ (m_in l dC dI s.heap.size n 0 ((-1)) 0 (-1) (by decide) (by decide)) (va_cwS 3 hts (gS mw_4_57 mw_4_58 mw_1_9 mw_4_59) rfl rfl rfl (by decide +kernel) ⟨Nat.le_of_ble_eq_true rfl, Nat.le_of_ble_eq_true rfl⟩) ⟨pcW_blind, pcW_at hPc hKc hDc hN⟩ rfl rfl hl.1 rfl (lv_room (Nat.le_of_ble_eq_true rfl)) dX9_isKind_10 ⟨Nat.le_of_ble_eq_true rfl, Nat.le_of_ble_eq_true rfl⟩) hS (fun q h1 h2 => absurd h2 (Nat.not_le.mpr h1)) (fun q h => hA q (Nat.le_trans hS.1 h)) (fun r_1 u t H1 locs ht hvm hw_1 hB hz1 hk1 hS => ?_)
  have hP := keepP hP hk1
  clear hz1 hk1 hB ht hvm hPc hDc hKc
  generalize H1 = H at hP hS ⊢
  obtain rfl : r_1 = 0 := hw_1.trans (if_neg (by omega))
  exact W.zret (v := 0) hx hb hr (by decide) (fun t ht hW => ⟨⟨0, (), rfl, rfl, trivial⟩, hS.F ht⟩) hS.2.2 dX9_isKind_13
set_option maxHeartbeats 4000000 in
set_option maxRecDepth 100000 in
theorem m_isName (l : Launch) (dC : Nat → ClassId) (dI : Nat → Nat → Nat) (sz : Nat) (n : Int32)  : Met l yX9_isName (wq yX9_isName cX9_isName 1 (some .boolean)) ({ frames := 1, cells := 0, slots := 0, locals := 25 }) (va_Pc [.int n] (pcW dC dI [] [] sz)) (va_Qi (fun (r : Int32) (_ : Unit) => r = (if 0 ≤ Int32.toInt n ∧ Int32.toInt n ≤ 7 then 1 else 0)) (fun _ _ => True) (fun q : Nat => sz ≤ q)) 0 0 (fun q : Nat => sz ≤ q) := by
  refine Met.ofW (cc := cX9_isName) (maxL := 1) (ret := (some .boolean)) (by decide) rfl ?_
  intro p e s m args below meth c s₁ B hml hv
  obtain ⟨rfl, hsz, hN, hP, hK, hD0⟩ := hv
  have hx := B.exec
  have hb := B.bytes
  have hr := B.returns
  have hts0 := atoms_spec (ws := (wq yX9_isName cX9_isName 1 (some .boolean))) B.pre
  have hts : ∀ w ∈ BG, w.before _ s = true := fun w h => hts0 w (List.mem_cons_of_mem _ h)
  have hown : s.vm.findClass RX9 = some m.cls := findClass_of_methodNamed B.named
  have hlocks := B.notSynchronized
  subst hsz
  have hA : ∀ q : Nat, s.heap.size ≤ q → (fun q : Nat => s.heap.size ≤ q) q := fun _ h => h
  have hD := hD0
  have hS : va_S (fun q : Nat => s.heap.size ≤ q) s.heap s.heap [] := va_S.rf
  have hP : va_P (dC, dI) vwCl [] s.heap := hP
  have hl := lv_entry ([.int n]) (n := 1) (Nat.le_of_ble_eq_true rfl)
  rw [lg_entry_eq]
  generalize (lg_sl ([.int n]) ++ List.replicate (1 - (lg_sl ([.int n])).length) Slot.unset).toArray = ls at hl ⊢
  have hl : lv_has ls 1 [(0, .int n)] := hl
  skip
  refine lv_iload_n hx hb dX9_isName_0 rfl (lv_at hl 0 rfl) ?_
  refine lv_i2l hx hb dX9_isName_1 rfl ?_
  refine lv_lconst (v := Int32.toInt64 0) hx hb dX9_isName_2 (by decide) ?_
  refine lv_ldc2 (v := Int32.toInt64 7) hx hb hown (show (Cond.constantLong RX9 94 (Int32.toInt64 7)).before _ s = true from (hts _ mw_4_118)) dX9_isName_3 ?_
  have hPc := hP.sub (ws' := []) [] rfl
  have hDc := hD.sub (ws' := []) [] (by decide) rfl
  have hKc := hK.sub (tys' := []) [] rfl
  refine va_calli (va_runS (As := [.long (Int32.toInt64 n), .long (Int32.toInt64 0), .long (Int32.toInt64 7)]) (rest := []) ⟨hx, hb, hml, hown, hts⟩ (m_in l dC dI s.heap.size n 0 7 0 7 (by decide) (by decide)) (va_cwS 3 hts (gS mw_4_57 mw_4_58 mw_1_9 mw_4_59) rfl rfl rfl (by decide +kernel) ⟨Nat.le_of_ble_eq_true rfl, Nat.le_of_ble_eq_true rfl⟩) ⟨pcW_blind, pcW_at hPc hKc hDc hN⟩ rfl rfl hl.1 rfl (lv_room (Nat.le_of_ble_eq_true rfl)) dX9_isName_6 ⟨Nat.le_of_ble_eq_true rfl, Nat.le_of_ble_eq_true rfl⟩) hS (fun q h1 h2 => absurd h2 (Nat.not_le.mpr h1)) (fun q h => hA q (Nat.le_trans hS.1 h)) (fun r_1 u t H1 locs ht hvm hw_1 hB hz1 hk1 hS => ?_)
  have hP := keepP hP hk1
  clear hz1 hk1 hB ht hvm hPc hDc hKc
  generalize H1 = H at hP hS ⊢
  rcases fx_bool hw_1 with ⟨rfl, b_2⟩ | ⟨rfl, b_2⟩
  · skip
    exact W.zret (v := 1) hx hb hr (by decide) (fun t ht hW => ⟨⟨1, (), rfl, (by first | exact (if_pos (by omega)).symm | exact (if_neg (by omega)).symm), trivial⟩, hS.F ht⟩) hS.2.2 dX9_isName_9
  · skip
    exact W.zret (v := 0) hx hb hr (by decide) (fun t ht hW => ⟨⟨0, (), rfl, (by first | exact (if_pos (by omega)).symm | exact (if_neg (by omega)).symm), trivial⟩, hS.F ht⟩) hS.2.2 dX9_isName_9
set_option maxHeartbeats 4000000 in
set_option maxRecDepth 100000 in
theorem m_isPlace (l : Launch) (dC : Nat → ClassId) (dI : Nat → Nat → Nat) (sz : Nat) (n : Int32)  : Met l yX9_isPlace (wq yX9_isPlace cX9_isPlace 1 (some .boolean)) ({ frames := 1, cells := 0, slots := 0, locals := 25 }) (va_Pc [.int n] (pcW dC dI [] [] sz)) (va_Qi (fun (r : Int32) (_ : Unit) => r = (if 0 ≤ Int32.toInt n ∧ Int32.toInt n ≤ 3 then 1 else 0)) (fun _ _ => True) (fun q : Nat => sz ≤ q)) 0 0 (fun q : Nat => sz ≤ q) := by
  refine Met.ofW (cc := cX9_isPlace) (maxL := 1) (ret := (some .boolean)) (by decide) rfl ?_
  intro p e s m args below meth c s₁ B hml hv
  obtain ⟨rfl, hsz, hN, hP, hK, hD0⟩ := hv
  have hx := B.exec
  have hb := B.bytes
  have hr := B.returns
  have hts0 := atoms_spec (ws := (wq yX9_isPlace cX9_isPlace 1 (some .boolean))) B.pre
  have hts : ∀ w ∈ BG, w.before _ s = true := fun w h => hts0 w (List.mem_cons_of_mem _ h)
  have hown : s.vm.findClass RX9 = some m.cls := findClass_of_methodNamed B.named
  have hlocks := B.notSynchronized
  subst hsz
  have hA : ∀ q : Nat, s.heap.size ≤ q → (fun q : Nat => s.heap.size ≤ q) q := fun _ h => h
  have hD := hD0
  have hS : va_S (fun q : Nat => s.heap.size ≤ q) s.heap s.heap [] := va_S.rf
  have hP : va_P (dC, dI) vwCl [] s.heap := hP
  have hl := lv_entry ([.int n]) (n := 1) (Nat.le_of_ble_eq_true rfl)
  rw [lg_entry_eq]
  generalize (lg_sl ([.int n]) ++ List.replicate (1 - (lg_sl ([.int n])).length) Slot.unset).toArray = ls at hl ⊢
  have hl : lv_has ls 1 [(0, .int n)] := hl
  skip
  refine lv_iload_n hx hb dX9_isPlace_0 rfl (lv_at hl 0 rfl) ?_
  refine lv_i2l hx hb dX9_isPlace_1 rfl ?_
  refine lv_lconst (v := Int32.toInt64 0) hx hb dX9_isPlace_2 (by decide) ?_
  refine lv_ldc2 (v := Int32.toInt64 3) hx hb hown (show (Cond.constantLong RX9 100 (Int32.toInt64 3)).before _ s = true from (hts _ mw_4_60)) dX9_isPlace_3 ?_
  have hPc := hP.sub (ws' := []) [] rfl
  have hDc := hD.sub (ws' := []) [] (by decide) rfl
  have hKc := hK.sub (tys' := []) [] rfl
  refine va_calli (va_runS (As := [.long (Int32.toInt64 n), .long (Int32.toInt64 0), .long (Int32.toInt64 3)]) (rest := []) ⟨hx, hb, hml, hown, hts⟩ (m_in l dC dI s.heap.size n 0 3 0 3 (by decide) (by decide)) (va_cwS 3 hts (gS mw_4_57 mw_4_58 mw_1_9 mw_4_59) rfl rfl rfl (by decide +kernel) ⟨Nat.le_of_ble_eq_true rfl, Nat.le_of_ble_eq_true rfl⟩) ⟨pcW_blind, pcW_at hPc hKc hDc hN⟩ rfl rfl hl.1 rfl (lv_room (Nat.le_of_ble_eq_true rfl)) dX9_isPlace_6 ⟨Nat.le_of_ble_eq_true rfl, Nat.le_of_ble_eq_true rfl⟩) hS (fun q h1 h2 => absurd h2 (Nat.not_le.mpr h1)) (fun q h => hA q (Nat.le_trans hS.1 h)) (fun r_1 u t H1 locs ht hvm hw_1 hB hz1 hk1 hS => ?_)
  have hP := keepP hP hk1
  clear hz1 hk1 hB ht hvm hPc hDc hKc
  generalize H1 = H at hP hS ⊢
  rcases fx_bool hw_1 with ⟨rfl, b_2⟩ | ⟨rfl, b_2⟩
  · skip
    exact W.zret (v := 1) hx hb hr (by decide) (fun t ht hW => ⟨⟨1, (), rfl, (by first | exact (if_pos (by omega)).symm | exact (if_neg (by omega)).symm), trivial⟩, hS.F ht⟩) hS.2.2 dX9_isPlace_9
  · skip
    exact W.zret (v := 0) hx hb hr (by decide) (fun t ht hW => ⟨⟨0, (), rfl, (by first | exact (if_pos (by omega)).symm | exact (if_neg (by omega)).symm), trivial⟩, hS.F ht⟩) hS.2.2 dX9_isPlace_9
