theorem mw_1_55 : Cond.laysFinal RX1 "AnswerLines$Kinds" "above" "[I" ∈ BG := mB (t1 (i := 55) (by decide +kernel)) (by decide +kernel)
theorem mw_1_57 : Cond.laysFinal RX1 "AnswerLines$Kinds" "lengths" "[I" ∈ BG := mB (t1 (i := 57) (by decide +kernel)) (by decide +kernel)
theorem mw_1_59 : Cond.laysFinal RX1 "AnswerLines$Kinds" "quarrels" "[I" ∈ BG := mB (t1 (i := 59) (by decide +kernel)) (by decide +kernel)
theorem mw_1_61 : Cond.laysFinal RX1 "AnswerLines$Kinds" "lines" "[I" ∈ BG := mB (t1 (i := 61) (by decide +kernel)) (by decide +kernel)
theorem mw_1_63 : Cond.laysFinal RX1 "AnswerLines$Kinds" "parents" "[I" ∈ BG := mB (t1 (i := 63) (by decide +kernel)) (by decide +kernel)
theorem mw_1_65 : Cond.laysFinal RX1 "AnswerLines$Kinds" "rows" "LAnswerLines$Rows;" ∈ BG := mB (t1 (i := 65) (by decide +kernel)) (by decide +kernel)
theorem mw_1_67 : Cond.lays RX1 "AnswerLines$Kinds" "count" "I" ∈ BG := mB (t1 (i := 67) (by decide +kernel)) (by decide +kernel)
theorem mw_1_69 : Cond.lays RX1 "AnswerLines$Kinds" "bareBits" "I" ∈ BG := mB (t1 (i := 69) (by decide +kernel)) (by decide +kernel)
theorem inB_1 : ∀ w ∈ u_ws RX1 TX1 8, w ∈ BG := fun w hw => by
  obtain ⟨k, hk, rfl⟩ := List.mem_map.mp hw
  have hk := List.mem_range.mp hk
  rcases (by omega : k = 0 ∨ k = 1 ∨ k = 2 ∨ k = 3 ∨ k = 4 ∨ k = 5 ∨ k = 6 ∨ k = 7) with rfl | rfl | rfl | rfl | rfl | rfl | rfl | rfl
  · exact mw_1_55
  · exact mw_1_57
  · exact mw_1_59
  · exact mw_1_61
  · exact mw_1_63
  · exact mw_1_65
  · exact mw_1_67
  · exact mw_1_69
theorem mw_1_53 : Cond.fieldLink RX1 34 "AnswerLines$Kinds" "count" "I" ∈ BG := mB (t1 (i := 53) (by decide +kernel)) (by decide +kernel)
theorem mw_1_194 : Cond.code yX1_knows cX1_knows 2 (some .boolean) ∈ BG := mB (t1 (i := 194) rfl) (by decide +kernel)
theorem mw_1_208 : Cond.methodLink RX1 38 yX1_knows ∈ BG := mB (t1 (i := 208) (by decide +kernel)) (by decide +kernel)
theorem mw_1_192 : Cond.instanceMethod yX1_knows ∈ BG := mB (t1 (i := 192) (by decide +kernel)) (by decide +kernel)
theorem mw_1_193 : Cond.selects RX1 yX1_knows yX1_knows ∈ BG := mB (t1 (i := 193) (by decide +kernel)) (by decide +kernel)
theorem mw_1_2 : Cond.initialized RX1 ∈ BG := mB (t1 (i := 2) (by decide +kernel)) (by decide +kernel)
theorem mw_1_54 : Cond.fieldLink RX1 42 "AnswerLines$Kinds" "bareBits" "I" ∈ BG := mB (t1 (i := 54) (by decide +kernel)) (by decide +kernel)
theorem mw_2_15 : Cond.code yX8_isIn cX8_isIn 2 (some .boolean) ∈ BG := mB (t2 (i := 15) rfl) (by decide +kernel)
theorem mw_1_1 : Cond.initialized RX8 ∈ BG := mB (t1 (i := 1) (by decide +kernel)) (by decide +kernel)
theorem mw_2_14 : Cond.static yX8_isIn ∈ BG := mB (t2 (i := 14) (by decide +kernel)) (by decide +kernel)
theorem mw_1_47 : Cond.fieldLink RX1 9 "AnswerLines$Kinds" "above" "[I" ∈ BG := mB (t1 (i := 47) (by decide +kernel)) (by decide +kernel)
theorem mw_1_49 : Cond.fieldLink RX1 18 "AnswerLines$Kinds" "quarrels" "[I" ∈ BG := mB (t1 (i := 49) (by decide +kernel)) (by decide +kernel)
theorem mw_1_48 : Cond.fieldLink RX1 15 "AnswerLines$Kinds" "lengths" "[I" ∈ BG := mB (t1 (i := 48) (by decide +kernel)) (by decide +kernel)
theorem mw_1_216 : Cond.code yX1_lengthOf cX1_lengthOf 2 (some .int) ∈ BG := mB (t1 (i := 216) rfl) (by decide +kernel)
theorem mw_1_213 : Cond.methodLink RX1 49 yX1_lengthOf ∈ BG := mB (t1 (i := 213) (by decide +kernel)) (by decide +kernel)
theorem mw_1_214 : Cond.instanceMethod yX1_lengthOf ∈ BG := mB (t1 (i := 214) (by decide +kernel)) (by decide +kernel)
theorem mw_1_215 : Cond.selects RX1 yX1_lengthOf yX1_lengthOf ∈ BG := mB (t1 (i := 215) (by decide +kernel)) (by decide +kernel)
theorem mw_1_212 : Cond.code yX1_isLaid cX1_isLaid 2 (some .boolean) ∈ BG := mB (t1 (i := 212) rfl) (by decide +kernel)
theorem mw_1_209 : Cond.methodLink RX1 53 yX1_isLaid ∈ BG := mB (t1 (i := 209) (by decide +kernel)) (by decide +kernel)
theorem mw_1_210 : Cond.instanceMethod yX1_isLaid ∈ BG := mB (t1 (i := 210) (by decide +kernel)) (by decide +kernel)
theorem mw_1_211 : Cond.selects RX1 yX1_isLaid yX1_isLaid ∈ BG := mB (t1 (i := 211) (by decide +kernel)) (by decide +kernel)
theorem mw_2_31 : Cond.code yX1_isBare cX1_isBare 2 (some .boolean) ∈ BG := mB (t2 (i := 31) rfl) (by decide +kernel)
theorem mw_3_14 : Cond.methodLink RX1 56 yX1_isBare ∈ BG := mB (t3 (i := 14) (by decide +kernel)) (by decide +kernel)
theorem mw_2_29 : Cond.instanceMethod yX1_isBare ∈ BG := mB (t2 (i := 29) (by decide +kernel)) (by decide +kernel)
theorem mw_2_30 : Cond.selects RX1 yX1_isBare yX1_isBare ∈ BG := mB (t2 (i := 30) (by decide +kernel)) (by decide +kernel)
theorem dX1_knows_0 : decode cX1_knows 0 = .ok (.iload_n 1, 1) := by decide +kernel
theorem dX1_knows_1 : decode cX1_knows 1 = .ok (.ifCond .lt 15, 3) := by decide +kernel
theorem dX1_knows_16 : decode cX1_knows 16 = .ok (.iconst 0, 1) := by decide +kernel
theorem dX1_knows_17 : decode cX1_knows 17 = .ok (.ireturn, 1) := by decide +kernel
theorem dX1_knows_4 : decode cX1_knows 4 = .ok (.iload_n 1, 1) := by decide +kernel
theorem dX1_knows_5 : decode cX1_knows 5 = .ok (.aload_n 0, 1) := by decide +kernel
theorem dX1_knows_6 : decode cX1_knows 6 = .ok (.getfield 34, 3) := by decide +kernel
theorem dX1_knows_9 : decode cX1_knows 9 = .ok (.if_icmp .ge 7, 3) := by decide +kernel
theorem dX1_knows_12 : decode cX1_knows 12 = .ok (.iconst 1, 1) := by decide +kernel
theorem dX1_knows_13 : decode cX1_knows 13 = .ok (.goto 4, 3) := by decide +kernel
theorem dX1_isFull_0 : decode cX1_isFull 0 = .ok (.aload_n 0, 1) := by decide +kernel
theorem dX1_isFull_1 : decode cX1_isFull 1 = .ok (.getfield 34, 3) := by decide +kernel
theorem dX1_isFull_4 : decode cX1_isFull 4 = .ok (.bipush 10, 2) := by decide +kernel
theorem dX1_isFull_6 : decode cX1_isFull 6 = .ok (.if_icmp .lt 7, 3) := by decide +kernel
theorem dX1_isFull_13 : decode cX1_isFull 13 = .ok (.iconst 0, 1) := by decide +kernel
theorem dX1_isFull_14 : decode cX1_isFull 14 = .ok (.ireturn, 1) := by decide +kernel
theorem dX1_isFull_9 : decode cX1_isFull 9 = .ok (.iconst 1, 1) := by decide +kernel
theorem dX1_isFull_10 : decode cX1_isFull 10 = .ok (.goto 4, 3) := by decide +kernel
theorem dX1_howMany_0 : decode cX1_howMany 0 = .ok (.aload_n 0, 1) := by decide +kernel
theorem dX1_howMany_1 : decode cX1_howMany 1 = .ok (.getfield 34, 3) := by decide +kernel
theorem dX1_howMany_4 : decode cX1_howMany 4 = .ok (.ireturn, 1) := by decide +kernel
theorem dX1_isBare_0 : decode cX1_isBare 0 = .ok (.aload_n 0, 1) := by decide +kernel
theorem dX1_isBare_1 : decode cX1_isBare 1 = .ok (.iload_n 1, 1) := by decide +kernel
theorem dX1_isBare_2 : decode cX1_isBare 2 = .ok (.invokevirtual 38, 3) := by decide +kernel
theorem dX1_isBare_5 : decode cX1_isBare 5 = .ok (.ifCond .eq 18, 3) := by decide +kernel
theorem dX1_isBare_8 : decode cX1_isBare 8 = .ok (.iload_n 1, 1) := by decide +kernel
theorem dX1_isBare_9 : decode cX1_isBare 9 = .ok (.aload_n 0, 1) := by decide +kernel
theorem dX1_isBare_10 : decode cX1_isBare 10 = .ok (.getfield 42, 3) := by decide +kernel
theorem dX1_isBare_13 : decode cX1_isBare 13 = .ok (.invokestatic 45, 3) := by decide +kernel
theorem dX1_isBare_16 : decode cX1_isBare 16 = .ok (.ifCond .eq 7, 3) := by decide +kernel
theorem dX1_isBare_19 : decode cX1_isBare 19 = .ok (.iconst 1, 1) := by decide +kernel
theorem dX1_isBare_20 : decode cX1_isBare 20 = .ok (.goto 4, 3) := by decide +kernel
theorem dX1_isBare_24 : decode cX1_isBare 24 = .ok (.ireturn, 1) := by decide +kernel
theorem dX1_isBare_23 : decode cX1_isBare 23 = .ok (.iconst 0, 1) := by decide +kernel
theorem dX1_aboveOf_0 : decode cX1_aboveOf 0 = .ok (.aload_n 0, 1) := by decide +kernel
theorem dX1_aboveOf_1 : decode cX1_aboveOf 1 = .ok (.iload_n 1, 1) := by decide +kernel
theorem dX1_aboveOf_2 : decode cX1_aboveOf 2 = .ok (.invokevirtual 38, 3) := by decide +kernel
theorem dX1_aboveOf_5 : decode cX1_aboveOf 5 = .ok (.ifCond .eq 12, 3) := by decide +kernel
theorem dX1_aboveOf_8 : decode cX1_aboveOf 8 = .ok (.aload_n 0, 1) := by decide +kernel
theorem dX1_aboveOf_9 : decode cX1_aboveOf 9 = .ok (.getfield 9, 3) := by decide +kernel
theorem dX1_aboveOf_12 : decode cX1_aboveOf 12 = .ok (.iload_n 1, 1) := by decide +kernel
theorem dX1_aboveOf_13 : decode cX1_aboveOf 13 = .ok (.iaload, 1) := by decide +kernel
theorem dX1_aboveOf_14 : decode cX1_aboveOf 14 = .ok (.goto 4, 3) := by decide +kernel
theorem dX1_aboveOf_18 : decode cX1_aboveOf 18 = .ok (.ireturn, 1) := by decide +kernel
theorem dX1_quarrelOf_0 : decode cX1_quarrelOf 0 = .ok (.aload_n 0, 1) := by decide +kernel
theorem dX1_quarrelOf_1 : decode cX1_quarrelOf 1 = .ok (.iload_n 1, 1) := by decide +kernel
theorem dX1_quarrelOf_2 : decode cX1_quarrelOf 2 = .ok (.invokevirtual 38, 3) := by decide +kernel
theorem dX1_quarrelOf_5 : decode cX1_quarrelOf 5 = .ok (.ifCond .eq 12, 3) := by decide +kernel
theorem dX1_quarrelOf_8 : decode cX1_quarrelOf 8 = .ok (.aload_n 0, 1) := by decide +kernel
theorem dX1_quarrelOf_9 : decode cX1_quarrelOf 9 = .ok (.getfield 18, 3) := by decide +kernel
theorem dX1_quarrelOf_12 : decode cX1_quarrelOf 12 = .ok (.iload_n 1, 1) := by decide +kernel
theorem dX1_quarrelOf_13 : decode cX1_quarrelOf 13 = .ok (.iaload, 1) := by decide +kernel
theorem dX1_quarrelOf_14 : decode cX1_quarrelOf 14 = .ok (.goto 5, 3) := by decide +kernel
theorem dX1_quarrelOf_19 : decode cX1_quarrelOf 19 = .ok (.ireturn, 1) := by decide +kernel
theorem dX1_lengthOf_0 : decode cX1_lengthOf 0 = .ok (.aload_n 0, 1) := by decide +kernel
theorem dX1_lengthOf_1 : decode cX1_lengthOf 1 = .ok (.iload_n 1, 1) := by decide +kernel
theorem dX1_lengthOf_2 : decode cX1_lengthOf 2 = .ok (.invokevirtual 38, 3) := by decide +kernel
theorem dX1_lengthOf_5 : decode cX1_lengthOf 5 = .ok (.ifCond .eq 12, 3) := by decide +kernel
theorem dX1_lengthOf_8 : decode cX1_lengthOf 8 = .ok (.aload_n 0, 1) := by decide +kernel
theorem dX1_lengthOf_9 : decode cX1_lengthOf 9 = .ok (.getfield 15, 3) := by decide +kernel
theorem dX1_lengthOf_12 : decode cX1_lengthOf 12 = .ok (.iload_n 1, 1) := by decide +kernel
theorem dX1_lengthOf_13 : decode cX1_lengthOf 13 = .ok (.iaload, 1) := by decide +kernel
theorem dX1_lengthOf_14 : decode cX1_lengthOf 14 = .ok (.goto 4, 3) := by decide +kernel
theorem dX1_lengthOf_18 : decode cX1_lengthOf 18 = .ok (.ireturn, 1) := by decide +kernel
theorem dX1_lengthOf_17 : decode cX1_lengthOf 17 = .ok (.iconst 0, 1) := by decide +kernel
theorem dX1_isLaid_0 : decode cX1_isLaid 0 = .ok (.aload_n 0, 1) := by decide +kernel
theorem dX1_isLaid_1 : decode cX1_isLaid 1 = .ok (.iload_n 1, 1) := by decide +kernel
theorem dX1_isLaid_2 : decode cX1_isLaid 2 = .ok (.invokevirtual 49, 3) := by decide +kernel
theorem dX1_isLaid_5 : decode cX1_isLaid 5 = .ok (.ifCond .le 7, 3) := by decide +kernel
theorem dX1_isLaid_12 : decode cX1_isLaid 12 = .ok (.iconst 0, 1) := by decide +kernel
theorem dX1_isLaid_13 : decode cX1_isLaid 13 = .ok (.ireturn, 1) := by decide +kernel
theorem dX1_isLaid_8 : decode cX1_isLaid 8 = .ok (.iconst 1, 1) := by decide +kernel
theorem dX1_isLaid_9 : decode cX1_isLaid 9 = .ok (.goto 4, 3) := by decide +kernel
theorem dX1_hasRow_0 : decode cX1_hasRow 0 = .ok (.aload_n 0, 1) := by decide +kernel
theorem dX1_hasRow_1 : decode cX1_hasRow 1 = .ok (.iload_n 1, 1) := by decide +kernel
theorem dX1_hasRow_2 : decode cX1_hasRow 2 = .ok (.invokevirtual 53, 3) := by decide +kernel
theorem dX1_hasRow_5 : decode cX1_hasRow 5 = .ok (.ifCond .eq 15, 3) := by decide +kernel
theorem dX1_hasRow_8 : decode cX1_hasRow 8 = .ok (.aload_n 0, 1) := by decide +kernel
theorem dX1_hasRow_9 : decode cX1_hasRow 9 = .ok (.iload_n 1, 1) := by decide +kernel
theorem dX1_hasRow_10 : decode cX1_hasRow 10 = .ok (.invokevirtual 56, 3) := by decide +kernel
theorem dX1_hasRow_13 : decode cX1_hasRow 13 = .ok (.ifCond .ne 7, 3) := by decide +kernel
theorem dX1_hasRow_20 : decode cX1_hasRow 20 = .ok (.iconst 0, 1) := by decide +kernel
theorem dX1_hasRow_21 : decode cX1_hasRow 21 = .ok (.ireturn, 1) := by decide +kernel
theorem dX1_hasRow_16 : decode cX1_hasRow 16 = .ok (.iconst 1, 1) := by decide +kernel
theorem dX1_hasRow_17 : decode cX1_hasRow 17 = .ok (.goto 4, 3) := by decide +kernel
set_option maxHeartbeats 4000000 in
set_option maxRecDepth 100000 in
theorem c_knows (l : Launch) (dC : Nat → ClassId) (dI : Nat → Nat → Nat) (sz : Nat) (h0 : Nat) (w0 : Value) (w1 : Value) (w2 : Value) (w3 : Value) (w4 : Value) (w5 : Value) (cn : Nat) (w7 : Value) (n : Int32) (hc : cn ≤ 10) : Met l yX1_knows (wq yX1_knows cX1_knows 2 (some .boolean)) ({ frames := 0, cells := 0, slots := 0, locals := 0 }) (va_Pc [.ref h0, .int n] (pcW dC dI [] [(h0, .inr (1, [w0, w1, w2, w3, w4, w5, .int (nI cn), w7]))] sz)) (va_Qi (fun (r : Int32) (_ : Unit) => r = (if (0 ≤ Int32.toInt n ∧ Int32.toInt n < ((cn : Nat) : Int)) then 1 else 0)) (fun _ _ => True) (fun q : Nat => sz ≤ q)) 0 0 (fun q : Nat => sz ≤ q) := by
  refine Met.ofW (cc := cX1_knows) (maxL := 2) (ret := (some .boolean)) (by decide) rfl ?_
  intro p e s m args below meth c s₁ B hml hv
  obtain ⟨rfl, hsz, hN, hP, hK, hD0⟩ := hv
  have hx := B.exec
  have hb := B.bytes
  have hr := B.returns
  have hts0 := atoms_spec (ws := (wq yX1_knows cX1_knows 2 (some .boolean))) B.pre
  have hts : ∀ w ∈ BG, w.before _ s = true := fun w h => hts0 w (List.mem_cons_of_mem _ h)
  have hown : s.vm.findClass RX1 = some m.cls := findClass_of_methodNamed B.named
  have hlocks := B.notSynchronized
  subst hsz
  have hA : ∀ q : Nat, s.heap.size ≤ q → (fun q : Nat => s.heap.size ≤ q) q := fun _ h => h
  have hD := hD0
  have hS : va_S (fun q : Nat => s.heap.size ≤ q) s.heap s.heap [] := va_S.rf
  have hP : va_P (dC, dI) vwCl [(h0, .inr (1, [w0, w1, w2, w3, w4, w5, .int (nI cn), w7]))] s.heap := hP
  have hl := lv_entry ([.ref h0, .int n]) (n := 2) (Nat.le_of_ble_eq_true rfl)
  rw [lg_entry_eq]
  generalize (lg_sl ([.ref h0, .int n]) ++ List.replicate (2 - (lg_sl ([.ref h0, .int n])).length) Slot.unset).toArray = ls at hl ⊢
  have hl : lv_has ls 2 [(0, .ref h0), (1, .int n)] := hl
  refine lv_iload_n hx hb dX1_knows_0 rfl (lv_at hl 1 rfl) ?_
  refine lv_if_lt (tgt := 16) hx hb dX1_knows_1 (by decide) (fun c_1 => ?_) (fun c_1 => ?_)
  · have b_2 := gx_lt (X := (Int32.toInt n)) (C := 0) rfl (by decide) c_1
    refine lv_iconst (v := 0) hx hb dX1_knows_16 (by decide) ?_
    exact W.zret (v := 0) hx hb hr (by decide) (fun t ht hW => ⟨⟨0, (), rfl, (by first | exact (if_pos (by omega)).symm | exact (if_neg (by omega)).symm), trivial⟩, hS.F ht⟩) hS.2.2 dX1_knows_17
  · have b_2 := gn_lt (X := (Int32.toInt n)) (C := 0) rfl (by decide) c_1
    refine lv_iload_n hx hb dX1_knows_4 rfl (lv_at hl 1 rfl) ?_
    refine lv_aload_n hx hb dX1_knows_5 rfl (lv_at hl 0 rfl) ?_
    refine va_get (D := (dC, dI)) (ci := 1) (v := .int (nI cn)) (C := RX1) (T := TX1) (N := 8) hx hb hts inB_1 hown hK hP 0 rfl rfl 6 (by decide) (hts _ mw_1_53) (fun _ h9 => h9) rfl dX1_knows_6 ?_
    refine lv_icmp_ge (tgt := 16) hx hb dX1_knows_9 (by decide) (fun c_3 => ?_) (fun c_3 => ?_)
    · have b_4 := gx_ge (X := (Int32.toInt n)) (C := ((cn : Nat) : Int)) rfl (nI_toInt (by omega)) c_3
      refine lv_iconst (v := 0) hx hb dX1_knows_16 (by decide) ?_
      exact W.zret (v := 0) hx hb hr (by decide) (fun t ht hW => ⟨⟨0, (), rfl, (by first | exact (if_pos (by omega)).symm | exact (if_neg (by omega)).symm), trivial⟩, hS.F ht⟩) hS.2.2 dX1_knows_17
    · have b_4 := gn_ge (X := (Int32.toInt n)) (C := ((cn : Nat) : Int)) rfl (nI_toInt (by omega)) c_3
      refine lv_iconst (v := 1) hx hb dX1_knows_12 (by decide) ?_
      refine lv_goto (tgt := 17) hx hb dX1_knows_13 (by decide) ?_
      exact W.zret (v := 1) hx hb hr (by decide) (fun t ht hW => ⟨⟨1, (), rfl, (by first | exact (if_pos (by omega)).symm | exact (if_neg (by omega)).symm), trivial⟩, hS.F ht⟩) hS.2.2 dX1_knows_17
set_option maxHeartbeats 4000000 in
set_option maxRecDepth 100000 in
theorem c_isFull (l : Launch) (dC : Nat → ClassId) (dI : Nat → Nat → Nat) (sz : Nat) (h0 : Nat) (w0 : Value) (w1 : Value) (w2 : Value) (w3 : Value) (w4 : Value) (w5 : Value) (cn : Nat) (w7 : Value) (hc : cn ≤ 10) : Met l yX1_isFull (wq yX1_isFull cX1_isFull 1 (some .boolean)) ({ frames := 0, cells := 0, slots := 0, locals := 0 }) (va_Pc [.ref h0] (pcW dC dI [] [(h0, .inr (1, [w0, w1, w2, w3, w4, w5, .int (nI cn), w7]))] sz)) (va_Qi (fun (r : Int32) (_ : Unit) => r = (if 10 ≤ cn then 1 else 0)) (fun _ _ => True) (fun q : Nat => sz ≤ q)) 0 0 (fun q : Nat => sz ≤ q) := by
  refine Met.ofW (cc := cX1_isFull) (maxL := 1) (ret := (some .boolean)) (by decide) rfl ?_
  intro p e s m args below meth c s₁ B hml hv
  obtain ⟨rfl, hsz, hN, hP, hK, hD0⟩ := hv
  have hx := B.exec
  have hb := B.bytes
  have hr := B.returns
  have hts0 := atoms_spec (ws := (wq yX1_isFull cX1_isFull 1 (some .boolean))) B.pre
  have hts : ∀ w ∈ BG, w.before _ s = true := fun w h => hts0 w (List.mem_cons_of_mem _ h)
  have hown : s.vm.findClass RX1 = some m.cls := findClass_of_methodNamed B.named
  have hlocks := B.notSynchronized
  subst hsz
  have hA : ∀ q : Nat, s.heap.size ≤ q → (fun q : Nat => s.heap.size ≤ q) q := fun _ h => h
  have hD := hD0
  have hS : va_S (fun q : Nat => s.heap.size ≤ q) s.heap s.heap [] := va_S.rf
  have hP : va_P (dC, dI) vwCl [(h0, .inr (1, [w0, w1, w2, w3, w4, w5, .int (nI cn), w7]))] s.heap := hP
  have hl := lv_entry ([.ref h0]) (n := 1) (Nat.le_of_ble_eq_true rfl)
  rw [lg_entry_eq]
  generalize (lg_sl ([.ref h0]) ++ List.replicate (1 - (lg_sl ([.ref h0])).length) Slot.unset).toArray = ls at hl ⊢
  have hl : lv_has ls 1 [(0, .ref h0)] := hl
  refine lv_aload_n hx hb dX1_isFull_0 rfl (lv_at hl 0 rfl) ?_
  refine va_get (D := (dC, dI)) (ci := 1) (v := .int (nI cn)) (C := RX1) (T := TX1) (N := 8) hx hb hts inB_1 hown hK hP 0 rfl rfl 6 (by decide) (hts _ mw_1_53) (fun _ h9 => h9) rfl dX1_isFull_1 ?_
  refine lv_bipush (v := 10) hx hb dX1_isFull_4 (by decide) ?_
  refine lv_icmp_lt (tgt := 13) hx hb dX1_isFull_6 (by decide) (fun c_1 => ?_) (fun c_1 => ?_)
  · have b_2 := gx_lt (X := ((cn : Nat) : Int)) (C := 10) (nI_toInt (by omega)) (by decide) c_1
    refine lv_iconst (v := 0) hx hb dX1_isFull_13 (by decide) ?_
    exact W.zret (v := 0) hx hb hr (by decide) (fun t ht hW => ⟨⟨0, (), rfl, (by first | exact (if_pos (by omega)).symm | exact (if_neg (by omega)).symm), trivial⟩, hS.F ht⟩) hS.2.2 dX1_isFull_14
  · have b_2 := gn_lt (X := ((cn : Nat) : Int)) (C := 10) (nI_toInt (by omega)) (by decide) c_1
    refine lv_iconst (v := 1) hx hb dX1_isFull_9 (by decide) ?_
    refine lv_goto (tgt := 14) hx hb dX1_isFull_10 (by decide) ?_
    exact W.zret (v := 1) hx hb hr (by decide) (fun t ht hW => ⟨⟨1, (), rfl, (by first | exact (if_pos (by omega)).symm | exact (if_neg (by omega)).symm), trivial⟩, hS.F ht⟩) hS.2.2 dX1_isFull_14
set_option maxHeartbeats 4000000 in
set_option maxRecDepth 100000 in
theorem c_howMany (l : Launch) (dC : Nat → ClassId) (dI : Nat → Nat → Nat) (sz : Nat) (h0 : Nat) (w0 : Value) (w1 : Value) (w2 : Value) (w3 : Value) (w4 : Value) (w5 : Value) (cn : Nat) (w7 : Value) (hc : cn ≤ 10) : Met l yX1_howMany (wq yX1_howMany cX1_howMany 1 (some .int)) ({ frames := 0, cells := 0, slots := 0, locals := 0 }) (va_Pc [.ref h0] (pcW dC dI [] [(h0, .inr (1, [w0, w1, w2, w3, w4, w5, .int (nI cn), w7]))] sz)) (va_Qi (fun (r : Int32) (_ : Unit) => r = nI cn) (fun _ _ => True) (fun q : Nat => sz ≤ q)) 0 0 (fun q : Nat => sz ≤ q) := by
  refine Met.ofW (cc := cX1_howMany) (maxL := 1) (ret := (some .int)) (by decide) rfl ?_
  intro p e s m args below meth c s₁ B hml hv
  obtain ⟨rfl, hsz, hN, hP, hK, hD0⟩ := hv
  have hx := B.exec
  have hb := B.bytes
  have hr := B.returns
  have hts0 := atoms_spec (ws := (wq yX1_howMany cX1_howMany 1 (some .int))) B.pre
  have hts : ∀ w ∈ BG, w.before _ s = true := fun w h => hts0 w (List.mem_cons_of_mem _ h)
  have hown : s.vm.findClass RX1 = some m.cls := findClass_of_methodNamed B.named
  have hlocks := B.notSynchronized
  subst hsz
  have hA : ∀ q : Nat, s.heap.size ≤ q → (fun q : Nat => s.heap.size ≤ q) q := fun _ h => h
  have hD := hD0
  have hS : va_S (fun q : Nat => s.heap.size ≤ q) s.heap s.heap [] := va_S.rf
  have hP : va_P (dC, dI) vwCl [(h0, .inr (1, [w0, w1, w2, w3, w4, w5, .int (nI cn), w7]))] s.heap := hP
  have hl := lv_entry ([.ref h0]) (n := 1) (Nat.le_of_ble_eq_true rfl)
  rw [lg_entry_eq]
  generalize (lg_sl ([.ref h0]) ++ List.replicate (1 - (lg_sl ([.ref h0])).length) Slot.unset).toArray = ls at hl ⊢
  have hl : lv_has ls 1 [(0, .ref h0)] := hl
  refine lv_aload_n hx hb dX1_howMany_0 rfl (lv_at hl 0 rfl) ?_
  refine va_get (D := (dC, dI)) (ci := 1) (v := .int (nI cn)) (C := RX1) (T := TX1) (N := 8) hx hb hts inB_1 hown hK hP 0 rfl rfl 6 (by decide) (hts _ mw_1_53) (fun _ h9 => h9) rfl dX1_howMany_1 ?_
  exact W.iret (v := (nI cn)) hx hb hr (fun t ht hW => ⟨⟨(nI cn), (), rfl, rfl, trivial⟩, hS.F ht⟩) hS.2.2 dX1_howMany_4
set_option maxHeartbeats 4000000 in
set_option maxRecDepth 100000 in
theorem c_isBare (l : Launch) (dC : Nat → ClassId) (dI : Nat → Nat → Nat) (sz : Nat) (h0 : Nat) (w0 : Value) (w1 : Value) (w2 : Value) (w3 : Value) (w4 : Value) (w5 : Value) (cn : Nat) (bb : Int32) (n : Int32) (hc : cn ≤ 10) : Met l yX1_isBare (wq yX1_isBare cX1_isBare 2 (some .boolean)) ({ frames := 1, cells := 0, slots := 0, locals := 21 }) (va_Pc [.ref h0, .int n] (pcW dC dI [] [(h0, .inr (1, [w0, w1, w2, w3, w4, w5, .int (nI cn), .int bb]))] sz)) (va_Qi (fun (r : Int32) (_ : Unit) => r = (if (0 ≤ Int32.toInt n ∧ Int32.toInt n < ((cn : Nat) : Int)) ∧ ¬ ((bb >>> (n &&& 31)) &&& 1) = 0 then 1 else 0)) (fun _ _ => True) (fun q : Nat => sz ≤ q)) 0 0 (fun q : Nat => sz ≤ q) := by
  refine Met.ofW (cc := cX1_isBare) (maxL := 2) (ret := (some .boolean)) (by decide) rfl ?_
  intro p e s m args below meth c s₁ B hml hv
  obtain ⟨rfl, hsz, hN, hP, hK, hD0⟩ := hv
  have hx := B.exec
  have hb := B.bytes
  have hr := B.returns
  have hts0 := atoms_spec (ws := (wq yX1_isBare cX1_isBare 2 (some .boolean))) B.pre
  have hts : ∀ w ∈ BG, w.before _ s = true := fun w h => hts0 w (List.mem_cons_of_mem _ h)
  have hown : s.vm.findClass RX1 = some m.cls := findClass_of_methodNamed B.named
  have hlocks := B.notSynchronized
  subst hsz
  have hA : ∀ q : Nat, s.heap.size ≤ q → (fun q : Nat => s.heap.size ≤ q) q := fun _ h => h
  have hD := hD0
  have hS : va_S (fun q : Nat => s.heap.size ≤ q) s.heap s.heap [] := va_S.rf
  have hP : va_P (dC, dI) vwCl [(h0, .inr (1, [w0, w1, w2, w3, w4, w5, .int (nI cn), .int bb]))] s.heap := hP
  have hl := lv_entry ([.ref h0, .int n]) (n := 2) (Nat.le_of_ble_eq_true rfl)
  rw [lg_entry_eq]
  generalize (lg_sl ([.ref h0, .int n]) ++ List.replicate (2 - (lg_sl ([.ref h0, .int n])).length) Slot.unset).toArray = ls at hl ⊢
  have hl : lv_has ls 2 [(0, .ref h0), (1, .int n)] := hl
  refine lv_aload_n hx hb dX1_isBare_0 rfl (lv_at hl 0 rfl) ?_
  refine lv_iload_n hx hb dX1_isBare_1 rfl (lv_at hl 1 rfl) ?_
  have hPc := hP.sub (ws' := [(h0, .inr (1, [w0, w1, w2, w3, w4, w5, .int (nI cn), .int bb]))]) [0] rfl
  have hDc := hD.sub (ws' := [(h0, .inr (1, [w0, w1, w2, w3, w4, w5, .int (nI cn), .int bb]))]) [0] (by decide) rfl
  have hKc := hK.sub (tys' := []) [] rfl
  refine va_calli (va_runV (As := [.int n]) (rest := []) ⟨hx, hb, hml, hown, hts⟩ (c_knows l dC dI s.heap.size h0 (w0) (w1) (w2) (w3) (w4) (w5) cn (.int bb) n hc) (cwV 1 hts (gV mw_1_208 mw_1_192 mw_1_193 mw_1_2 mw_1_194) rfl rfl rfl (by decide +kernel) ⟨Nat.le_of_ble_eq_true rfl, Nat.le_of_ble_eq_true rfl⟩) ⟨pcW_blind, va_recv hKc hPc (ci := 1) (q0 := 0) rfl rfl, pcW_at hPc hKc hDc hN⟩ rfl rfl hl.1 rfl (lv_room (Nat.le_of_ble_eq_true rfl)) dX1_isBare_2 ⟨Nat.le_of_ble_eq_true rfl, Nat.le_of_ble_eq_true rfl⟩) hS (fun q h1 h2 => absurd h2 (Nat.not_le.mpr h1)) (fun q h => hA q (Nat.le_trans hS.1 h)) (fun r_1 u t H1 locs ht hvm hw_1 hB hz1 hk1 hS => ?_)
  have hP := keepP hP hk1
  clear hz1 hk1 hB ht hvm hPc hDc hKc
  generalize H1 = H at hP hS ⊢
  rcases fx_bool hw_1 with ⟨rfl, b_2⟩ | ⟨rfl, b_2⟩
  · skip
    refine lv_if_eq (tgt := 23) hx hb dX1_isBare_5 (by decide) (fun h => absurd h (by decide)) (fun _ => ?_)
    refine lv_iload_n hx hb dX1_isBare_8 rfl (lv_at hl 1 rfl) ?_
    refine lv_aload_n hx hb dX1_isBare_9 rfl (lv_at hl 0 rfl) ?_
    refine va_get (D := (dC, dI)) (ci := 1) (v := .int bb) (C := RX1) (T := TX1) (N := 8) hx hb hts inB_1 hown hK hP 0 rfl rfl 7 (by decide) (hts _ mw_1_54) (fun _ h9 => h9) rfl dX1_isBare_10 ?_
    have hPc := hP.sub (ws' := []) [] rfl
    have hDc := hD.sub (ws' := []) [] (by decide) rfl
    have hKc := hK.sub (tys' := []) [] rfl
    refine va_calli (va_runSN (As := [.int n, .int bb]) (rest := []) ⟨hx, hb, hml, hown, hts⟩ (c_isIn l dC dI H.size n bb ) ⟨va_cnB 2 hts (gN mw_2_15) rfl rfl rfl (hN (RX1, 45, yX8_isIn, RX8) (List.mem_of_getElem? (i := 7) rfl)) (hts _ mw_1_1) (by decide +kernel) ⟨Nat.le_of_ble_eq_true rfl, Nat.le_of_ble_eq_true rfl⟩, (hts _ mw_2_14), trivial⟩ ⟨pcW_blind, pcW_at hPc hKc hDc hN⟩ rfl rfl hl.1 rfl (lv_room (Nat.le_of_ble_eq_true rfl)) dX1_isBare_13 ⟨Nat.le_of_ble_eq_true rfl, Nat.le_of_ble_eq_true rfl⟩) hS (fun q h1 h2 => absurd h2 (Nat.not_le.mpr h1)) (fun q h => hA q (Nat.le_trans hS.1 h)) (fun r_3 u t H1 locs ht hvm hw_3 hB hz1 hk1 hS => ?_)
    have hP := keepP hP hk1
    clear hz1 hk1 hB ht hvm hPc hDc hKc
    generalize H1 = H at hP hS ⊢
    rcases fx_bool hw_3 with ⟨rfl, b_4⟩ | ⟨rfl, b_4⟩
    · skip
      refine lv_if_eq (tgt := 23) hx hb dX1_isBare_16 (by decide) (fun h => absurd h (by decide)) (fun _ => ?_)
      refine lv_iconst (v := 1) hx hb dX1_isBare_19 (by decide) ?_
      refine lv_goto (tgt := 24) hx hb dX1_isBare_20 (by decide) ?_
      exact W.zret (v := 1) hx hb hr (by decide) (fun t ht hW => ⟨⟨1, (), rfl, (by first | exact (if_pos ⟨by assumption, by assumption⟩).symm | exact (if_neg (fun q => absurd q.1 (by assumption))).symm | exact (if_neg (fun q => absurd q.2 (by assumption))).symm), trivial⟩, hS.F ht⟩) hS.2.2 dX1_isBare_24
    · skip
      refine lv_if_eq (tgt := 23) hx hb dX1_isBare_16 (by decide) (fun _ => ?_) (fun h => absurd (by decide) h)
      refine lv_iconst (v := 0) hx hb dX1_isBare_23 (by decide) ?_
      exact W.zret (v := 0) hx hb hr (by decide) (fun t ht hW => ⟨⟨0, (), rfl, (by first | exact (if_pos ⟨by assumption, by assumption⟩).symm | exact (if_neg (fun q => absurd q.1 (by assumption))).symm | exact (if_neg (fun q => absurd q.2 (by assumption))).symm), trivial⟩, hS.F ht⟩) hS.2.2 dX1_isBare_24
  · skip
    refine lv_if_eq (tgt := 23) hx hb dX1_isBare_5 (by decide) (fun _ => ?_) (fun h => absurd (by decide) h)
    refine lv_iconst (v := 0) hx hb dX1_isBare_23 (by decide) ?_
    exact W.zret (v := 0) hx hb hr (by decide) (fun t ht hW => ⟨⟨0, (), rfl, (by first | exact (if_pos ⟨by assumption, by assumption⟩).symm | exact (if_neg (fun q => absurd q.1 (by assumption))).symm | exact (if_neg (fun q => absurd q.2 (by assumption))).symm), trivial⟩, hS.F ht⟩) hS.2.2 dX1_isBare_24
set_option maxHeartbeats 4000000 in
set_option maxRecDepth 100000 in
theorem c_aboveOf (l : Launch) (dC : Nat → ClassId) (dI : Nat → Nat → Nat) (sz : Nat) (h0 : Nat) (b0 : Nat) (w1 : Value) (w2 : Value) (w3 : Value) (w4 : Value) (w5 : Value) (cn : Nat) (w7 : Value) (kb0 : ClassId) (fab : Nat → Int32) (kq : Nat) (hc : cn ≤ 10) (hkq : kq < cn) : Met l yX1_aboveOf (wq yX1_aboveOf cX1_aboveOf 2 (some .int)) ({ frames := 1, cells := 0, slots := 0, locals := 21 }) (va_Pc [.ref h0, .int (nI kq)] (pcW dC dI [(kb0, .int)] [(h0, .inr (1, [.ref b0, w1, w2, w3, w4, w5, .int (nI cn), w7])), (b0, .inl (kb0, 10, .inl fab))] sz)) (va_Qi (fun (r : Int32) (_ : Unit) => r = (fab kq)) (fun _ _ => True) (fun q : Nat => sz ≤ q)) 0 0 (fun q : Nat => sz ≤ q) := by
  refine Met.ofW (cc := cX1_aboveOf) (maxL := 2) (ret := (some .int)) (by decide) rfl ?_
  intro p e s m args below meth c s₁ B hml hv
  obtain ⟨rfl, hsz, hN, hP, hK, hD0⟩ := hv
  have hx := B.exec
  have hb := B.bytes
  have hr := B.returns
  have hts0 := atoms_spec (ws := (wq yX1_aboveOf cX1_aboveOf 2 (some .int))) B.pre
  have hts : ∀ w ∈ BG, w.before _ s = true := fun w h => hts0 w (List.mem_cons_of_mem _ h)
  have hown : s.vm.findClass RX1 = some m.cls := findClass_of_methodNamed B.named
  have hlocks := B.notSynchronized
  subst hsz
  have hA : ∀ q : Nat, s.heap.size ≤ q → (fun q : Nat => s.heap.size ≤ q) q := fun _ h => h
  have hD := hD0
  have hS : va_S (fun q : Nat => s.heap.size ≤ q) s.heap s.heap [] := va_S.rf
  have hP : va_P (dC, dI) vwCl [(h0, .inr (1, [.ref b0, w1, w2, w3, w4, w5, .int (nI cn), w7])), (b0, .inl (kb0, 10, .inl fab))] s.heap := hP
  have hl := lv_entry ([.ref h0, .int (nI kq)]) (n := 2) (Nat.le_of_ble_eq_true rfl)
  rw [lg_entry_eq]
  generalize (lg_sl ([.ref h0, .int (nI kq)]) ++ List.replicate (2 - (lg_sl ([.ref h0, .int (nI kq)])).length) Slot.unset).toArray = ls at hl ⊢
  have hl : lv_has ls 2 [(0, .ref h0), (1, .int (nI kq))] := hl
  have ykq : Int32.toInt (nI kq) = ((kq : Nat) : Int) := nI_toInt (by omega)
  refine lv_aload_n hx hb dX1_aboveOf_0 rfl (lv_at hl 0 rfl) ?_
  refine lv_iload_n hx hb dX1_aboveOf_1 rfl (lv_at hl 1 rfl) ?_
  have hPc := hP.sub (ws' := [(h0, .inr (1, [.ref b0, w1, w2, w3, w4, w5, .int (nI cn), w7]))]) [0] rfl
  have hDc := hD.sub (ws' := [(h0, .inr (1, [.ref b0, w1, w2, w3, w4, w5, .int (nI cn), w7]))]) [0] (by decide) rfl
  have hKc := hK.sub (tys' := []) [] rfl
  refine va_calli (va_runV (As := [.int (nI kq)]) (rest := []) ⟨hx, hb, hml, hown, hts⟩ (c_knows l dC dI s.heap.size h0 (.ref b0) (w1) (w2) (w3) (w4) (w5) cn (w7) (nI kq) hc) (cwV 1 hts (gV mw_1_208 mw_1_192 mw_1_193 mw_1_2 mw_1_194) rfl rfl rfl (by decide +kernel) ⟨Nat.le_of_ble_eq_true rfl, Nat.le_of_ble_eq_true rfl⟩) ⟨pcW_blind, va_recv hKc hPc (ci := 1) (q0 := 0) rfl rfl, pcW_at hPc hKc hDc hN⟩ rfl rfl hl.1 rfl (lv_room (Nat.le_of_ble_eq_true rfl)) dX1_aboveOf_2 ⟨Nat.le_of_ble_eq_true rfl, Nat.le_of_ble_eq_true rfl⟩) hS (fun q h1 h2 => absurd h2 (Nat.not_le.mpr h1)) (fun q h => hA q (Nat.le_trans hS.1 h)) (fun r_1 u t H1 locs ht hvm hw_1 hB hz1 hk1 hS => ?_)
  have hP := keepP hP hk1
  clear hz1 hk1 hB ht hvm hPc hDc hKc
  generalize H1 = H at hP hS ⊢
  obtain rfl : r_1 = 1 := hw_1.trans (if_pos (by omega))
  refine lv_if_eq (tgt := 17) hx hb dX1_aboveOf_5 (by decide) (fun h => absurd h (by decide)) (fun _ => ?_)
  refine lv_aload_n hx hb dX1_aboveOf_8 rfl (lv_at hl 0 rfl) ?_
  refine va_get (D := (dC, dI)) (ci := 1) (v := .ref b0) (C := RX1) (T := TX1) (N := 8) hx hb hts inB_1 hown hK hP 0 rfl rfl 0 (by decide) (hts _ mw_1_47) (fun _ h9 => h9) rfl dX1_aboveOf_9 ?_
  refine lv_iload_n hx hb dX1_aboveOf_12 rfl (lv_at hl 1 rfl) ?_
  refine va_iald hx hb hK hP 1 0 rfl rfl (show vp_in (nI kq) 10 from vp_in_nI (by omega) (by omega)) dX1_aboveOf_13 ?_
  refine hx_top (y := (fab kq)) (congrArg _ (nI_clamp (by omega))) ?_
  refine lv_goto (tgt := 18) hx hb dX1_aboveOf_14 (by decide) ?_
  exact W.iret (v := (fab kq)) hx hb hr (fun t ht hW => ⟨⟨(fab kq), (), rfl, rfl, trivial⟩, hS.F ht⟩) hS.2.2 dX1_aboveOf_18
set_option maxHeartbeats 4000000 in
set_option maxRecDepth 100000 in
theorem c_quarrelOf (l : Launch) (dC : Nat → ClassId) (dI : Nat → Nat → Nat) (sz : Nat) (h0 : Nat) (w0 : Value) (w1 : Value) (b2 : Nat) (w3 : Value) (w4 : Value) (w5 : Value) (cn : Nat) (w7 : Value) (kb2 : ClassId) (fqu : Nat → Int32) (kq : Nat) (hc : cn ≤ 10) (hkq : kq < cn) : Met l yX1_quarrelOf (wq yX1_quarrelOf cX1_quarrelOf 2 (some .int)) ({ frames := 1, cells := 0, slots := 0, locals := 21 }) (va_Pc [.ref h0, .int (nI kq)] (pcW dC dI [(kb2, .int)] [(h0, .inr (1, [w0, w1, .ref b2, w3, w4, w5, .int (nI cn), w7])), (b2, .inl (kb2, 10, .inl fqu))] sz)) (va_Qi (fun (r : Int32) (_ : Unit) => r = (fqu kq)) (fun _ _ => True) (fun q : Nat => sz ≤ q)) 0 0 (fun q : Nat => sz ≤ q) := by
  refine Met.ofW (cc := cX1_quarrelOf) (maxL := 2) (ret := (some .int)) (by decide) rfl ?_
  intro p e s m args below meth c s₁ B hml hv
  obtain ⟨rfl, hsz, hN, hP, hK, hD0⟩ := hv
  have hx := B.exec
  have hb := B.bytes
  have hr := B.returns
  have hts0 := atoms_spec (ws := (wq yX1_quarrelOf cX1_quarrelOf 2 (some .int))) B.pre
  have hts : ∀ w ∈ BG, w.before _ s = true := fun w h => hts0 w (List.mem_cons_of_mem _ h)
  have hown : s.vm.findClass RX1 = some m.cls := findClass_of_methodNamed B.named
  have hlocks := B.notSynchronized
  subst hsz
  have hA : ∀ q : Nat, s.heap.size ≤ q → (fun q : Nat => s.heap.size ≤ q) q := fun _ h => h
  have hD := hD0
  have hS : va_S (fun q : Nat => s.heap.size ≤ q) s.heap s.heap [] := va_S.rf
  have hP : va_P (dC, dI) vwCl [(h0, .inr (1, [w0, w1, .ref b2, w3, w4, w5, .int (nI cn), w7])), (b2, .inl (kb2, 10, .inl fqu))] s.heap := hP
  have hl := lv_entry ([.ref h0, .int (nI kq)]) (n := 2) (Nat.le_of_ble_eq_true rfl)
  rw [lg_entry_eq]
  generalize (lg_sl ([.ref h0, .int (nI kq)]) ++ List.replicate (2 - (lg_sl ([.ref h0, .int (nI kq)])).length) Slot.unset).toArray = ls at hl ⊢
  have hl : lv_has ls 2 [(0, .ref h0), (1, .int (nI kq))] := hl
  have ykq : Int32.toInt (nI kq) = ((kq : Nat) : Int) := nI_toInt (by omega)
  refine lv_aload_n hx hb dX1_quarrelOf_0 rfl (lv_at hl 0 rfl) ?_
  refine lv_iload_n hx hb dX1_quarrelOf_1 rfl (lv_at hl 1 rfl) ?_
  have hPc := hP.sub (ws' := [(h0, .inr (1, [w0, w1, .ref b2, w3, w4, w5, .int (nI cn), w7]))]) [0] rfl
  have hDc := hD.sub (ws' := [(h0, .inr (1, [w0, w1, .ref b2, w3, w4, w5, .int (nI cn), w7]))]) [0] (by decide) rfl
  have hKc := hK.sub (tys' := []) [] rfl
  refine va_calli (va_runV (As := [.int (nI kq)]) (rest := []) ⟨hx, hb, hml, hown, hts⟩ (c_knows l dC dI s.heap.size h0 (w0) (w1) (.ref b2) (w3) (w4) (w5) cn (w7) (nI kq) hc) (cwV 1 hts (gV mw_1_208 mw_1_192 mw_1_193 mw_1_2 mw_1_194) rfl rfl rfl (by decide +kernel) ⟨Nat.le_of_ble_eq_true rfl, Nat.le_of_ble_eq_true rfl⟩) ⟨pcW_blind, va_recv hKc hPc (ci := 1) (q0 := 0) rfl rfl, pcW_at hPc hKc hDc hN⟩ rfl rfl hl.1 rfl (lv_room (Nat.le_of_ble_eq_true rfl)) dX1_quarrelOf_2 ⟨Nat.le_of_ble_eq_true rfl, Nat.le_of_ble_eq_true rfl⟩) hS (fun q h1 h2 => absurd h2 (Nat.not_le.mpr h1)) (fun q h => hA q (Nat.le_trans hS.1 h)) (fun r_1 u t H1 locs ht hvm hw_1 hB hz1 hk1 hS => ?_)
  have hP := keepP hP hk1
  clear hz1 hk1 hB ht hvm hPc hDc hKc
  generalize H1 = H at hP hS ⊢
  obtain rfl : r_1 = 1 := hw_1.trans (if_pos (by omega))
  refine lv_if_eq (tgt := 17) hx hb dX1_quarrelOf_5 (by decide) (fun h => absurd h (by decide)) (fun _ => ?_)
  refine lv_aload_n hx hb dX1_quarrelOf_8 rfl (lv_at hl 0 rfl) ?_
  refine va_get (D := (dC, dI)) (ci := 1) (v := .ref b2) (C := RX1) (T := TX1) (N := 8) hx hb hts inB_1 hown hK hP 0 rfl rfl 2 (by decide) (hts _ mw_1_49) (fun _ h9 => h9) rfl dX1_quarrelOf_9 ?_
  refine lv_iload_n hx hb dX1_quarrelOf_12 rfl (lv_at hl 1 rfl) ?_
  refine va_iald hx hb hK hP 1 0 rfl rfl (show vp_in (nI kq) 10 from vp_in_nI (by omega) (by omega)) dX1_quarrelOf_13 ?_
  refine hx_top (y := (fqu kq)) (congrArg _ (nI_clamp (by omega))) ?_
  refine lv_goto (tgt := 19) hx hb dX1_quarrelOf_14 (by decide) ?_
  exact W.iret (v := (fqu kq)) hx hb hr (fun t ht hW => ⟨⟨(fqu kq), (), rfl, rfl, trivial⟩, hS.F ht⟩) hS.2.2 dX1_quarrelOf_19
set_option maxHeartbeats 4000000 in
set_option maxRecDepth 100000 in
theorem c_lengthOf (l : Launch) (dC : Nat → ClassId) (dI : Nat → Nat → Nat) (sz : Nat) (h0 : Nat) (w0 : Value) (b1 : Nat) (w2 : Value) (w3 : Value) (w4 : Value) (w5 : Value) (cn : Nat) (w7 : Value) (kb1 : ClassId) (fle : Nat → Int32) (n : Int32) (hc : cn ≤ 10) (hle : BdOk 10 10 fle) : Met l yX1_lengthOf (wq yX1_lengthOf cX1_lengthOf 2 (some .int)) ({ frames := 1, cells := 0, slots := 0, locals := 21 }) (va_Pc [.ref h0, .int n] (pcW dC dI [(kb1, .int)] [(h0, .inr (1, [w0, .ref b1, w2, w3, w4, w5, .int (nI cn), w7])), (b1, .inl (kb1, 10, .inl fle))] sz)) (va_Qi (fun (r : Int32) (_ : Unit) => r = nI (lenN fle cn n)) (fun _ _ => True) (fun q : Nat => sz ≤ q)) 0 0 (fun q : Nat => sz ≤ q) := by
  refine Met.ofW (cc := cX1_lengthOf) (maxL := 2) (ret := (some .int)) (by decide) rfl ?_
  intro p e s m args below meth c s₁ B hml hv
  obtain ⟨rfl, hsz, hN, hP, hK, hD0⟩ := hv
  have hx := B.exec
  have hb := B.bytes
  have hr := B.returns
  have hts0 := atoms_spec (ws := (wq yX1_lengthOf cX1_lengthOf 2 (some .int))) B.pre
  have hts : ∀ w ∈ BG, w.before _ s = true := fun w h => hts0 w (List.mem_cons_of_mem _ h)
  have hown : s.vm.findClass RX1 = some m.cls := findClass_of_methodNamed B.named
  have hlocks := B.notSynchronized
  subst hsz
  have hA : ∀ q : Nat, s.heap.size ≤ q → (fun q : Nat => s.heap.size ≤ q) q := fun _ h => h
  have hD := hD0
  have hS : va_S (fun q : Nat => s.heap.size ≤ q) s.heap s.heap [] := va_S.rf
  have hP : va_P (dC, dI) vwCl [(h0, .inr (1, [w0, .ref b1, w2, w3, w4, w5, .int (nI cn), w7])), (b1, .inl (kb1, 10, .inl fle))] s.heap := hP
  have hl := lv_entry ([.ref h0, .int n]) (n := 2) (Nat.le_of_ble_eq_true rfl)
  rw [lg_entry_eq]
  generalize (lg_sl ([.ref h0, .int n]) ++ List.replicate (2 - (lg_sl ([.ref h0, .int n])).length) Slot.unset).toArray = ls at hl ⊢
  have hl : lv_has ls 2 [(0, .ref h0), (1, .int n)] := hl
  refine lv_aload_n hx hb dX1_lengthOf_0 rfl (lv_at hl 0 rfl) ?_
  refine lv_iload_n hx hb dX1_lengthOf_1 rfl (lv_at hl 1 rfl) ?_
  have hPc := hP.sub (ws' := [(h0, .inr (1, [w0, .ref b1, w2, w3, w4, w5, .int (nI cn), w7]))]) [0] rfl
  have hDc := hD.sub (ws' := [(h0, .inr (1, [w0, .ref b1, w2, w3, w4, w5, .int (nI cn), w7]))]) [0] (by decide) rfl
  have hKc := hK.sub (tys' := []) [] rfl
  refine va_calli (va_runV (As := [.int n]) (rest := []) ⟨hx, hb, hml, hown, hts⟩ (c_knows l dC dI s.heap.size h0 (w0) (.ref b1) (w2) (w3) (w4) (w5) cn (w7) n hc) (cwV 1 hts (gV mw_1_208 mw_1_192 mw_1_193 mw_1_2 mw_1_194) rfl rfl rfl (by decide +kernel) ⟨Nat.le_of_ble_eq_true rfl, Nat.le_of_ble_eq_true rfl⟩) ⟨pcW_blind, va_recv hKc hPc (ci := 1) (q0 := 0) rfl rfl, pcW_at hPc hKc hDc hN⟩ rfl rfl hl.1 rfl (lv_room (Nat.le_of_ble_eq_true rfl)) dX1_lengthOf_2 ⟨Nat.le_of_ble_eq_true rfl, Nat.le_of_ble_eq_true rfl⟩) hS (fun q h1 h2 => absurd h2 (Nat.not_le.mpr h1)) (fun q h => hA q (Nat.le_trans hS.1 h)) (fun r_1 u t H1 locs ht hvm hw_1 hB hz1 hk1 hS => ?_)
  have hP := keepP hP hk1
  clear hz1 hk1 hB ht hvm hPc hDc hKc
  generalize H1 = H at hP hS ⊢
  rcases fx_bool hw_1 with ⟨rfl, b_2⟩ | ⟨rfl, b_2⟩
  · skip
    refine lv_if_eq (tgt := 17) hx hb dX1_lengthOf_5 (by decide) (fun h => absurd h (by decide)) (fun _ => ?_)
    refine lv_aload_n hx hb dX1_lengthOf_8 rfl (lv_at hl 0 rfl) ?_
    refine va_get (D := (dC, dI)) (ci := 1) (v := .ref b1) (C := RX1) (T := TX1) (N := 8) hx hb hts inB_1 hown hK hP 0 rfl rfl 1 (by decide) (hts _ mw_1_48) (fun _ h9 => h9) rfl dX1_lengthOf_9 ?_
    refine lv_iload_n hx hb dX1_lengthOf_12 rfl (lv_at hl 1 rfl) ?_
    refine va_iald hx hb hK hP 1 0 rfl rfl (show vp_in n 10 from fx_in (by omega) (by omega)) dX1_lengthOf_13 ?_
    obtain ⟨n_3, hn_3, en_3⟩ := hle (Int32.toNatClampNeg n) (fx_cl (by omega) (by omega))
    refine hx_top (y := (nI n_3)) en_3 ?_
    refine lv_goto (tgt := 18) hx hb dX1_lengthOf_14 (by decide) ?_
    exact W.iret (v := (nI n_3)) hx hb hr (fun t ht hW => ⟨⟨(nI n_3), (), rfl, (lenN_yes b_2 en_3 hn_3), trivial⟩, hS.F ht⟩) hS.2.2 dX1_lengthOf_18
  · skip
    refine lv_if_eq (tgt := 17) hx hb dX1_lengthOf_5 (by decide) (fun _ => ?_) (fun h => absurd (by decide) h)
    refine lv_iconst (v := 0) hx hb dX1_lengthOf_17 (by decide) ?_
    exact W.iret (v := 0) hx hb hr (fun t ht hW => ⟨⟨0, (), rfl, (lenN_no b_2), trivial⟩, hS.F ht⟩) hS.2.2 dX1_lengthOf_18
set_option maxHeartbeats 4000000 in
set_option maxRecDepth 100000 in
theorem c_isLaid (l : Launch) (dC : Nat → ClassId) (dI : Nat → Nat → Nat) (sz : Nat) (h0 : Nat) (w0 : Value) (b1 : Nat) (w2 : Value) (w3 : Value) (w4 : Value) (w5 : Value) (cn : Nat) (w7 : Value) (kb1 : ClassId) (fle : Nat → Int32) (n : Int32) (hc : cn ≤ 10) (hle : BdOk 10 10 fle) : Met l yX1_isLaid (wq yX1_isLaid cX1_isLaid 2 (some .boolean)) ({ frames := 2, cells := 0, slots := 0, locals := 42 }) (va_Pc [.ref h0, .int n] (pcW dC dI [(kb1, .int)] [(h0, .inr (1, [w0, .ref b1, w2, w3, w4, w5, .int (nI cn), w7])), (b1, .inl (kb1, 10, .inl fle))] sz)) (va_Qi (fun (r : Int32) (_ : Unit) => r = (if 0 < lenN fle cn n then 1 else 0)) (fun _ _ => True) (fun q : Nat => sz ≤ q)) 0 0 (fun q : Nat => sz ≤ q) := by
  refine Met.ofW (cc := cX1_isLaid) (maxL := 2) (ret := (some .boolean)) (by decide) rfl ?_
  intro p e s m args below meth c s₁ B hml hv
  obtain ⟨rfl, hsz, hN, hP, hK, hD0⟩ := hv
  have hx := B.exec
  have hb := B.bytes
  have hr := B.returns
  have hts0 := atoms_spec (ws := (wq yX1_isLaid cX1_isLaid 2 (some .boolean))) B.pre
  have hts : ∀ w ∈ BG, w.before _ s = true := fun w h => hts0 w (List.mem_cons_of_mem _ h)
  have hown : s.vm.findClass RX1 = some m.cls := findClass_of_methodNamed B.named
  have hlocks := B.notSynchronized
  subst hsz
  have hA : ∀ q : Nat, s.heap.size ≤ q → (fun q : Nat => s.heap.size ≤ q) q := fun _ h => h
  have hD := hD0
  have hS : va_S (fun q : Nat => s.heap.size ≤ q) s.heap s.heap [] := va_S.rf
  have hP : va_P (dC, dI) vwCl [(h0, .inr (1, [w0, .ref b1, w2, w3, w4, w5, .int (nI cn), w7])), (b1, .inl (kb1, 10, .inl fle))] s.heap := hP
  have hl := lv_entry ([.ref h0, .int n]) (n := 2) (Nat.le_of_ble_eq_true rfl)
  rw [lg_entry_eq]
  generalize (lg_sl ([.ref h0, .int n]) ++ List.replicate (2 - (lg_sl ([.ref h0, .int n])).length) Slot.unset).toArray = ls at hl ⊢
  have hl : lv_has ls 2 [(0, .ref h0), (1, .int n)] := hl
  refine lv_aload_n hx hb dX1_isLaid_0 rfl (lv_at hl 0 rfl) ?_
  refine lv_iload_n hx hb dX1_isLaid_1 rfl (lv_at hl 1 rfl) ?_
  have hPc := hP.sub (ws' := [(h0, .inr (1, [w0, .ref b1, w2, w3, w4, w5, .int (nI cn), w7])), (b1, .inl (kb1, 10, .inl fle))]) [0, 1] rfl
  have hDc := hD.sub (ws' := [(h0, .inr (1, [w0, .ref b1, w2, w3, w4, w5, .int (nI cn), w7])), (b1, .inl (kb1, 10, .inl fle))]) [0, 1] (by decide) rfl
  have hKc := hK.sub (tys' := [(kb1, .int)]) [0] rfl
  refine va_calli (va_runV (As := [.int n]) (rest := []) ⟨hx, hb, hml, hown, hts⟩ (c_lengthOf l dC dI s.heap.size h0 (w0) b1 (w2) (w3) (w4) (w5) cn (w7) kb1 fle n hc hle) (cwV 1 hts (gV mw_1_213 mw_1_214 mw_1_215 mw_1_2 mw_1_216) rfl rfl rfl (by decide +kernel) ⟨Nat.le_of_ble_eq_true rfl, Nat.le_of_ble_eq_true rfl⟩) ⟨pcW_blind, va_recv hKc hPc (ci := 1) (q0 := 0) rfl rfl, pcW_at hPc hKc hDc hN⟩ rfl rfl hl.1 rfl (lv_room (Nat.le_of_ble_eq_true rfl)) dX1_isLaid_2 ⟨Nat.le_of_ble_eq_true rfl, Nat.le_of_ble_eq_true rfl⟩) hS (fun q h1 h2 => absurd h2 (Nat.not_le.mpr h1)) (fun q h => hA q (Nat.le_trans hS.1 h)) (fun r_1 u t H1 locs ht hvm hw_1 hB hz1 hk1 hS => ?_)
  have hP := keepP hP hk1
  clear hz1 hk1 hB ht hvm hPc hDc hKc
  generalize H1 = H at hP hS ⊢
  obtain rfl : r_1 = nI (lenN fle cn n) := hw_1
  have b_2 := (lenN_le hc hle : lenN fle cn n ≤ 10)
  refine lv_if_le (tgt := 12) hx hb dX1_isLaid_5 (by decide) (fun c_3 => ?_) (fun c_3 => ?_)
  · have b_4 := gx_le (X := ((lenN fle cn n : Nat) : Int)) (C := 0) (nI_toInt (by omega)) (by decide) c_3
    refine lv_iconst (v := 0) hx hb dX1_isLaid_12 (by decide) ?_
    exact W.zret (v := 0) hx hb hr (by decide) (fun t ht hW => ⟨⟨0, (), rfl, (by first | exact (if_pos (by omega)).symm | exact (if_neg (by omega)).symm), trivial⟩, hS.F ht⟩) hS.2.2 dX1_isLaid_13
  · have b_4 := gn_le (X := ((lenN fle cn n : Nat) : Int)) (C := 0) (nI_toInt (by omega)) (by decide) c_3
    refine lv_iconst (v := 1) hx hb dX1_isLaid_8 (by decide) ?_
    refine lv_goto (tgt := 13) hx hb dX1_isLaid_9 (by decide) ?_
    exact W.zret (v := 1) hx hb hr (by decide) (fun t ht hW => ⟨⟨1, (), rfl, (by first | exact (if_pos (by omega)).symm | exact (if_neg (by omega)).symm), trivial⟩, hS.F ht⟩) hS.2.2 dX1_isLaid_13
set_option maxHeartbeats 4000000 in
set_option maxRecDepth 100000 in
theorem c_hasRow (l : Launch) (dC : Nat → ClassId) (dI : Nat → Nat → Nat) (sz : Nat) (h0 : Nat) (w0 : Value) (b1 : Nat) (w2 : Value) (w3 : Value) (w4 : Value) (w5 : Value) (cn : Nat) (bb : Int32) (kb1 : ClassId) (fle : Nat → Int32) (kq : Nat) (hc : cn ≤ 10) (hle : BdOk 10 10 fle) (hk10 : kq < 10) : Met l yX1_hasRow (wq yX1_hasRow cX1_hasRow 2 (some .boolean)) ({ frames := 3, cells := 0, slots := 0, locals := 63 }) (va_Pc [.ref h0, .int (nI kq)] (pcW dC dI [(kb1, .int)] [(h0, .inr (1, [w0, .ref b1, w2, w3, w4, w5, .int (nI cn), .int bb])), (b1, .inl (kb1, 10, .inl fle))] sz)) (va_Qi (fun (r : Int32) (_ : Unit) => r = (if 0 < lenN fle cn (nI kq) ∧ ¬ bt bb kq = true then 1 else 0)) (fun _ _ => True) (fun q : Nat => sz ≤ q)) 0 0 (fun q : Nat => sz ≤ q) := by
  refine Met.ofW (cc := cX1_hasRow) (maxL := 2) (ret := (some .boolean)) (by decide) rfl ?_
  intro p e s m args below meth c s₁ B hml hv
  obtain ⟨rfl, hsz, hN, hP, hK, hD0⟩ := hv
  have hx := B.exec
  have hb := B.bytes
  have hr := B.returns
  have hts0 := atoms_spec (ws := (wq yX1_hasRow cX1_hasRow 2 (some .boolean))) B.pre
  have hts : ∀ w ∈ BG, w.before _ s = true := fun w h => hts0 w (List.mem_cons_of_mem _ h)
  have hown : s.vm.findClass RX1 = some m.cls := findClass_of_methodNamed B.named
  have hlocks := B.notSynchronized
  subst hsz
  have hA : ∀ q : Nat, s.heap.size ≤ q → (fun q : Nat => s.heap.size ≤ q) q := fun _ h => h
  have hD := hD0
  have hS : va_S (fun q : Nat => s.heap.size ≤ q) s.heap s.heap [] := va_S.rf
  have hP : va_P (dC, dI) vwCl [(h0, .inr (1, [w0, .ref b1, w2, w3, w4, w5, .int (nI cn), .int bb])), (b1, .inl (kb1, 10, .inl fle))] s.heap := hP
  have hl := lv_entry ([.ref h0, .int (nI kq)]) (n := 2) (Nat.le_of_ble_eq_true rfl)
  rw [lg_entry_eq]
  generalize (lg_sl ([.ref h0, .int (nI kq)]) ++ List.replicate (2 - (lg_sl ([.ref h0, .int (nI kq)])).length) Slot.unset).toArray = ls at hl ⊢
  have hl : lv_has ls 2 [(0, .ref h0), (1, .int (nI kq))] := hl
  refine lv_aload_n hx hb dX1_hasRow_0 rfl (lv_at hl 0 rfl) ?_
  refine lv_iload_n hx hb dX1_hasRow_1 rfl (lv_at hl 1 rfl) ?_
  have hPc := hP.sub (ws' := [(h0, .inr (1, [w0, .ref b1, w2, w3, w4, w5, .int (nI cn), .int bb])), (b1, .inl (kb1, 10, .inl fle))]) [0, 1] rfl
  have hDc := hD.sub (ws' := [(h0, .inr (1, [w0, .ref b1, w2, w3, w4, w5, .int (nI cn), .int bb])), (b1, .inl (kb1, 10, .inl fle))]) [0, 1] (by decide) rfl
  have hKc := hK.sub (tys' := [(kb1, .int)]) [0] rfl
  refine va_calli (va_runV (As := [.int (nI kq)]) (rest := []) ⟨hx, hb, hml, hown, hts⟩ (c_isLaid l dC dI s.heap.size h0 (w0) b1 (w2) (w3) (w4) (w5) cn (.int bb) kb1 fle (nI kq) hc hle) (cwV 1 hts (gV mw_1_209 mw_1_210 mw_1_211 mw_1_2 mw_1_212) rfl rfl rfl (by decide +kernel) ⟨Nat.le_of_ble_eq_true rfl, Nat.le_of_ble_eq_true rfl⟩) ⟨pcW_blind, va_recv hKc hPc (ci := 1) (q0 := 0) rfl rfl, pcW_at hPc hKc hDc hN⟩ rfl rfl hl.1 rfl (lv_room (Nat.le_of_ble_eq_true rfl)) dX1_hasRow_2 ⟨Nat.le_of_ble_eq_true rfl, Nat.le_of_ble_eq_true rfl⟩) hS (fun q h1 h2 => absurd h2 (Nat.not_le.mpr h1)) (fun q h => hA q (Nat.le_trans hS.1 h)) (fun r_1 u t H1 locs ht hvm hw_1 hB hz1 hk1 hS => ?_)
  have hP := keepP hP hk1
  clear hz1 hk1 hB ht hvm hPc hDc hKc
  generalize H1 = H at hP hS ⊢
  rcases fx_bool hw_1 with ⟨rfl, b_2⟩ | ⟨rfl, b_2⟩
  · skip
    refine lv_if_eq (tgt := 20) hx hb dX1_hasRow_5 (by decide) (fun h => absurd h (by decide)) (fun _ => ?_)
    refine lv_aload_n hx hb dX1_hasRow_8 rfl (lv_at hl 0 rfl) ?_
    refine lv_iload_n hx hb dX1_hasRow_9 rfl (lv_at hl 1 rfl) ?_
    have hPc := hP.sub (ws' := [(h0, .inr (1, [w0, .ref b1, w2, w3, w4, w5, .int (nI cn), .int bb]))]) [0] rfl
    have hDc := hD.sub (ws' := [(h0, .inr (1, [w0, .ref b1, w2, w3, w4, w5, .int (nI cn), .int bb]))]) [0] (by decide) rfl
    have hKc := hK.sub (tys' := []) [] rfl
    refine va_calli (va_runV (As := [.int (nI kq)]) (rest := []) ⟨hx, hb, hml, hown, hts⟩ (c_isBare l dC dI H.size h0 (w0) (.ref b1) (w2) (w3) (w4) (w5) cn bb (nI kq) hc) (cwV 1 hts (gV mw_3_14 mw_2_29 mw_2_30 mw_1_2 mw_2_31) rfl rfl rfl (by decide +kernel) ⟨Nat.le_of_ble_eq_true rfl, Nat.le_of_ble_eq_true rfl⟩) ⟨pcW_blind, va_recv hKc hPc (ci := 1) (q0 := 0) rfl rfl, pcW_at hPc hKc hDc hN⟩ rfl rfl hl.1 rfl (lv_room (Nat.le_of_ble_eq_true rfl)) dX1_hasRow_10 ⟨Nat.le_of_ble_eq_true rfl, Nat.le_of_ble_eq_true rfl⟩) hS (fun q h1 h2 => absurd h2 (Nat.not_le.mpr h1)) (fun q h => hA q (Nat.le_trans hS.1 h)) (fun r_3 u t H1 locs ht hvm hw_3 hB hz1 hk1 hS => ?_)
    have hP := keepP hP hk1
    clear hz1 hk1 hB ht hvm hPc hDc hKc
    generalize H1 = H at hP hS ⊢
    rcases fx_bool hw_3 with ⟨rfl, b_4⟩ | ⟨rfl, b_4⟩
    · skip
      refine lv_if_ne (tgt := 20) hx hb dX1_hasRow_13 (by decide) (fun _ => ?_) (fun h => absurd h (by decide))
      refine lv_iconst (v := 0) hx hb dX1_hasRow_20 (by decide) ?_
      exact W.zret (v := 0) hx hb hr (by decide) (fun t ht hW => ⟨⟨0, (), rfl, (if_neg (fun q => q.2 (t_yes (by omega) b_4.2))).symm, trivial⟩, hS.F ht⟩) hS.2.2 dX1_hasRow_21
    · skip
      refine lv_if_ne (tgt := 20) hx hb dX1_hasRow_13 (by decide) (fun h => absurd h (by decide)) (fun _ => ?_)
      refine lv_iconst (v := 1) hx hb dX1_hasRow_16 (by decide) ?_
      refine lv_goto (tgt := 21) hx hb dX1_hasRow_17 (by decide) ?_
      exact W.zret (v := 1) hx hb hr (by decide) (fun t ht hW => ⟨⟨1, (), rfl, (if_pos ⟨b_2, fun q => b_4 ⟨lenN_pos b_2, (t_iff (by omega)).mpr q⟩⟩).symm, trivial⟩, hS.F ht⟩) hS.2.2 dX1_hasRow_21
  · skip
    refine lv_if_eq (tgt := 20) hx hb dX1_hasRow_5 (by decide) (fun _ => ?_) (fun h => absurd (by decide) h)
    refine lv_iconst (v := 0) hx hb dX1_hasRow_20 (by decide) ?_
    exact W.zret (v := 0) hx hb hr (by decide) (fun t ht hW => ⟨⟨0, (), rfl, (if_neg (fun q => b_2 q.1)).symm, trivial⟩, hS.F ht⟩) hS.2.2 dX1_hasRow_21
