theorem mw_1_55 : Cond.laysFinal RX1 "AnswerLines$Kinds" "above" "[I" ∈ BG := mB (t1 (i := 55) (by decide +kernel)) (by decide +kernel)
theorem mw_1_57 : Cond.laysFinal RX1 "AnswerLines$Kinds" "lengths" "[I" ∈ BG := mB (t1 (i := 57) (by decide +kernel)) (by decide +kernel)
theorem mw_1_59 : Cond.laysFinal RX1 "AnswerLines$Kinds" "quarrels" "[I" ∈ BG := mB (t1 (i := 59) (by decide +kernel)) (by decide +kernel)
theorem mw_1_61 : Cond.laysFinal RX1 "AnswerLines$Kinds" "lines" "[I" ∈ BG := mB (t1 (i := 61) (by decide +kernel)) (by decide +kernel)
theorem mw_1_63 : Cond.laysFinal RX1 "AnswerLines$Kinds" "parents" "[I" ∈ BG := mB (t1 (i := 63) (by decide +kernel)) (by decide +kernel)
theorem mw_1_65 : Cond.laysFinal RX1 "AnswerLines$Kinds" "rows" "LAnswerLines$Rows;" ∈ BG := mB (t1 (i := 65) (by decide +kernel)) (by decide +kernel)
theorem mw_1_67 : Cond.lays RX1 "AnswerLines$Kinds" "count" "I" ∈ BG := mB (t1 (i := 67) (by decide +kernel)) (by decide +kernel)
theorem mw_1_69 : Cond.lays RX1 "AnswerLines$Kinds" "bareBits" "I" ∈ BG := mB (t1 (i := 69) (by decide +kernel)) (by decide +kernel)
theorem inB_1 : ∀ w ∈ u_ws RX1 TX1 8, w ∈ BG := fun w hw => by
  obtain ⟨k, hk, rfl⟩ := List.mem_map.mp hw
  have hk := List.mem_range.mp hk
  rcases (by omega : k = 0 ∨ k = 1 ∨ k = 2 ∨ k = 3 ∨ k = 4 ∨ k = 5 ∨ k = 6 ∨ k = 7) with rfl | rfl | rfl | rfl | rfl | rfl | rfl | rfl
  · exact mw_1_55
  · exact mw_1_57
  · exact mw_1_59
  · exact mw_1_61
  · exact mw_1_63
  · exact mw_1_65
  · exact mw_1_67
  · exact mw_1_69
theorem mw_1_53 : Cond.fieldLink RX1 34 "AnswerLines$Kinds" "count" "I" ∈ BG := mB (t1 (i := 53) (by decide +kernel)) (by decide +kernel)
theorem mw_1_194 : Cond.code yX1_knows cX1_knows 2 (some .boolean) ∈ BG := mB (t1 (i := 194) rfl) (by decide +kernel)
theorem mw_1_208 : Cond.methodLink RX1 38 yX1_knows ∈ BG := mB (t1 (i := 208) (by decide +kernel)) (by decide +kernel)
theorem mw_1_192 : Cond.instanceMethod yX1_knows ∈ BG := mB (t1 (i := 192) (by decide +kernel)) (by decide +kernel)
theorem mw_1_193 : Cond.selects RX1 yX1_knows yX1_knows ∈ BG := mB (t1 (i := 193) (by decide +kernel)) (by decide +kernel)
theorem mw_1_2 : Cond.initialized RX1 ∈ BG := mB (t1 (i := 2) (by decide +kernel)) (by decide +kernel)
theorem mw_1_216 : Cond.code yX1_lengthOf cX1_lengthOf 2 (some .int) ∈ BG := mB (t1 (i := 216) rfl) (by decide +kernel)
theorem mw_1_213 : Cond.methodLink RX1 49 yX1_lengthOf ∈ BG := mB (t1 (i := 213) (by decide +kernel)) (by decide +kernel)
theorem mw_1_214 : Cond.instanceMethod yX1_lengthOf ∈ BG := mB (t1 (i := 214) (by decide +kernel)) (by decide +kernel)
theorem mw_1_215 : Cond.selects RX1 yX1_lengthOf yX1_lengthOf ∈ BG := mB (t1 (i := 215) (by decide +kernel)) (by decide +kernel)
theorem mw_1_212 : Cond.code yX1_isLaid cX1_isLaid 2 (some .boolean) ∈ BG := mB (t1 (i := 212) rfl) (by decide +kernel)
theorem mw_1_209 : Cond.methodLink RX1 53 yX1_isLaid ∈ BG := mB (t1 (i := 209) (by decide +kernel)) (by decide +kernel)
theorem mw_1_210 : Cond.instanceMethod yX1_isLaid ∈ BG := mB (t1 (i := 210) (by decide +kernel)) (by decide +kernel)
theorem mw_1_211 : Cond.selects RX1 yX1_isLaid yX1_isLaid ∈ BG := mB (t1 (i := 211) (by decide +kernel)) (by decide +kernel)
theorem dX1_knows_0 : decode cX1_knows 0 = .ok (.iload_n 1, 1) := by decide +kernel
theorem dX1_knows_1 : decode cX1_knows 1 = .ok (.ifCond .lt 15, 3) := by decide +kernel
theorem dX1_knows_16 : decode cX1_knows 16 = .ok (.iconst 0, 1) := by decide +kernel
theorem dX1_knows_17 : decode cX1_knows 17 = .ok (.ireturn, 1) := by decide +kernel
theorem dX1_knows_4 : decode cX1_knows 4 = .ok (.iload_n 1, 1) := by decide +kernel
theorem dX1_knows_5 : decode cX1_knows 5 = .ok (.aload_n 0, 1) := by decide +kernel
theorem dX1_knows_6 : decode cX1_knows 6 = .ok (.getfield 34, 3) := by decide +kernel
theorem dX1_knows_9 : decode cX1_knows 9 = .ok (.if_icmp .ge 7, 3) := by decide +kernel
theorem dX1_isFull_0 : decode cX1_isFull 0 = .ok (.aload_n 0, 1) := by decide +kernel
theorem dX1_isFull_1 : decode cX1_isFull 1 = .ok (.getfield 34, 3) := by decide +kernel
theorem dX1_isFull_4 : decode cX1_isFull 4 = .ok (.bipush 10, 2) := by decide +kernel
theorem dX1_isFull_6 : decode cX1_isFull 6 = .ok (.if_icmp .lt 7, 3) := by decide +kernel
theorem dX1_isFull_13 : decode cX1_isFull 13 = .ok (.iconst 0, 1) := by decide +kernel
theorem dX1_isFull_14 : decode cX1_isFull 14 = .ok (.ireturn, 1) := by decide +kernel
theorem dX1_howMany_0 : decode cX1_howMany 0 = .ok (.aload_n 0, 1) := by decide +kernel
theorem dX1_howMany_1 : decode cX1_howMany 1 = .ok (.getfield 34, 3) := by decide +kernel
theorem dX1_howMany_4 : decode cX1_howMany 4 = .ok (.ireturn, 1) := by decide +kernel
theorem dX1_isBare_0 : decode cX1_isBare 0 = .ok (.aload_n 0, 1) := by decide +kernel
theorem dX1_isBare_1 : decode cX1_isBare 1 = .ok (.iload_n 1, 1) := by decide +kernel
theorem dX1_isBare_2 : decode cX1_isBare 2 = .ok (.invokevirtual 38, 3) := by decide +kernel
theorem dX1_isBare_5 : decode cX1_isBare 5 = .ok (.ifCond .eq 18, 3) := by decide +kernel
theorem dX1_isBare_23 : decode cX1_isBare 23 = .ok (.iconst 0, 1) := by decide +kernel
theorem dX1_isBare_24 : decode cX1_isBare 24 = .ok (.ireturn, 1) := by decide +kernel
theorem dX1_lengthOf_0 : decode cX1_lengthOf 0 = .ok (.aload_n 0, 1) := by decide +kernel
theorem dX1_lengthOf_1 : decode cX1_lengthOf 1 = .ok (.iload_n 1, 1) := by decide +kernel
theorem dX1_lengthOf_2 : decode cX1_lengthOf 2 = .ok (.invokevirtual 38, 3) := by decide +kernel
theorem dX1_lengthOf_5 : decode cX1_lengthOf 5 = .ok (.ifCond .eq 12, 3) := by decide +kernel
theorem dX1_lengthOf_17 : decode cX1_lengthOf 17 = .ok (.iconst 0, 1) := by decide +kernel
theorem dX1_lengthOf_18 : decode cX1_lengthOf 18 = .ok (.ireturn, 1) := by decide +kernel
theorem dX1_isLaid_0 : decode cX1_isLaid 0 = .ok (.aload_n 0, 1) := by decide +kernel
theorem dX1_isLaid_1 : decode cX1_isLaid 1 = .ok (.iload_n 1, 1) := by decide +kernel
theorem dX1_isLaid_2 : decode cX1_isLaid 2 = .ok (.invokevirtual 49, 3) := by decide +kernel
theorem dX1_isLaid_5 : decode cX1_isLaid 5 = .ok (.ifCond .le 7, 3) := by decide +kernel
theorem dX1_isLaid_12 : decode cX1_isLaid 12 = .ok (.iconst 0, 1) := by decide +kernel
theorem dX1_isLaid_13 : decode cX1_isLaid 13 = .ok (.ireturn, 1) := by decide +kernel
theorem dX1_hasRow_0 : decode cX1_hasRow 0 = .ok (.aload_n 0, 1) := by decide +kernel
theorem dX1_hasRow_1 : decode cX1_hasRow 1 = .ok (.iload_n 1, 1) := by decide +kernel
theorem dX1_hasRow_2 : decode cX1_hasRow 2 = .ok (.invokevirtual 53, 3) := by decide +kernel
theorem dX1_hasRow_5 : decode cX1_hasRow 5 = .ok (.ifCond .eq 15, 3) := by decide +kernel
theorem dX1_hasRow_20 : decode cX1_hasRow 20 = .ok (.iconst 0, 1) := by decide +kernel
theorem dX1_hasRow_21 : decode cX1_hasRow 21 = .ok (.ireturn, 1) := by decide +kernel
set_option maxHeartbeats 4000000 in
set_option maxRecDepth 100000 in
theorem c_knows0 (l : Launch) (dC : Nat → ClassId) (dI : Nat → Nat → Nat) (sz : Nat) (h0 : Nat) (w0 : Value) (w1 : Value) (w2 : Value) (w3 : Value) (w4 : Value) (w5 : Value) (w7 : Value) (n : Int32)  : Met l yX1_knows (wq yX1_knows cX1_knows 2 (some .boolean)) ({ frames := 0, cells := 0, slots := 0, locals := 0 }) (va_Pc [.ref h0, .int n] (pcW dC dI [] [(h0, .inr (1, [w0, w1, w2, w3, w4, w5, .int 0, w7]))] sz)) (va_Qi (fun (r : Int32) (_ : Unit) => r = 0) (fun _ _ => True) (fun q : Nat => sz ≤ q)) 0 0 (fun q : Nat => sz ≤ q) := by
  refine Met.ofW (cc := cX1_knows) (maxL := 2) (ret := (some .boolean)) (by decide) rfl ?_
  intro p e s m args below meth c s₁ B hml hv
  obtain ⟨rfl, hsz, hN, hP, hK, hD0⟩ := hv
  have hx := B.exec
  have hb := B.bytes
  have hr := B.returns
  have hts0 := atoms_spec (ws := (wq yX1_knows cX1_knows 2 (some .boolean))) B.pre
  have hts : ∀ w ∈ BG, w.before _ s = true := fun w h => hts0 w (List.mem_cons_of_mem _ h)
  have hown : s.vm.findClass RX1 = some m.cls := findClass_of_methodNamed B.named
  have hlocks := B.notSynchronized
  subst hsz
  have hA : ∀ q : Nat, s.heap.size ≤ q → (fun q : Nat => s.heap.size ≤ q) q := fun _ h => h
  have hD := hD0
  have hS : va_S (fun q : Nat => s.heap.size ≤ q) s.heap s.heap [] := va_S.rf
  have hP : va_P (dC, dI) vwCl [(h0, .inr (1, [w0, w1, w2, w3, w4, w5, .int 0, w7]))] s.heap := hP
  have hl := lv_entry ([.ref h0, .int n]) (n := 2) (Nat.le_of_ble_eq_true rfl)
  rw [lg_entry_eq]
  generalize (lg_sl ([.ref h0, .int n]) ++ List.replicate (2 - (lg_sl ([.ref h0, .int n])).length) Slot.unset).toArray = ls at hl ⊢
  have hl : lv_has ls 2 [(0, .ref h0), (1, .int n)] := hl
  skip
  refine lv_iload_n hx hb dX1_knows_0 rfl (lv_at hl 1 rfl) ?_
  refine lv_if_lt (tgt := 16) hx hb dX1_knows_1 (by decide) (fun c_1 => ?_) (fun c_1 => ?_)
  · have b_2 := fx_lt (x := n) (C := 0) (by decide) c_1
    refine lv_iconst (v := 0) hx hb dX1_knows_16 (by decide) ?_
    exact W.zret (v := 0) hx hb hr (by decide) (fun t ht hW => ⟨⟨0, (), rfl, rfl, trivial⟩, hS.F ht⟩) hS.2.2 dX1_knows_17
  · have b_2 := fn_lt (x := n) (C := 0) (by decide) c_1
    refine lv_iload_n hx hb dX1_knows_4 rfl (lv_at hl 1 rfl) ?_
    refine lv_aload_n hx hb dX1_knows_5 rfl (lv_at hl 0 rfl) ?_
    refine va_get (D := (dC, dI)) (ci := 1) (v := .int 0) (C := RX1) (T := TX1) (N := 8) hx hb hts inB_1 hown hK hP 0 rfl rfl 6 (by decide) (hts _ mw_1_53) (fun _ h9 => h9) rfl dX1_knows_6 ?_
    refine lv_icmp_ge (tgt := 16) hx hb dX1_knows_9 (by decide) (fun _ => ?_) (fun h => absurd (fn_ge (x := n) (C := 0) (by decide) h) (by omega))
    refine lv_iconst (v := 0) hx hb dX1_knows_16 (by decide) ?_
    exact W.zret (v := 0) hx hb hr (by decide) (fun t ht hW => ⟨⟨0, (), rfl, rfl, trivial⟩, hS.F ht⟩) hS.2.2 dX1_knows_17
set_option maxHeartbeats 4000000 in
set_option maxRecDepth 100000 in
theorem c_isFull (l : Launch) (dC : Nat → ClassId) (dI : Nat → Nat → Nat) (sz : Nat) (h0 : Nat) (w0 : Value) (w1 : Value) (w2 : Value) (w3 : Value) (w4 : Value) (w5 : Value) (w7 : Value)  : Met l yX1_isFull (wq yX1_isFull cX1_isFull 1 (some .boolean)) ({ frames := 0, cells := 0, slots := 0, locals := 0 }) (va_Pc [.ref h0] (pcW dC dI [] [(h0, .inr (1, [w0, w1, w2, w3, w4, w5, .int 0, w7]))] sz)) (va_Qi (fun (r : Int32) (_ : Unit) => r = 0) (fun _ _ => True) (fun q : Nat => sz ≤ q)) 0 0 (fun q : Nat => sz ≤ q) := by
  refine Met.ofW (cc := cX1_isFull) (maxL := 1) (ret := (some .boolean)) (by decide) rfl ?_
  intro p e s m args below meth c s₁ B hml hv
  obtain ⟨rfl, hsz, hN, hP, hK, hD0⟩ := hv
  have hx := B.exec
  have hb := B.bytes
  have hr := B.returns
  have hts0 := atoms_spec (ws := (wq yX1_isFull cX1_isFull 1 (some .boolean))) B.pre
  have hts : ∀ w ∈ BG, w.before _ s = true := fun w h => hts0 w (List.mem_cons_of_mem _ h)
  have hown : s.vm.findClass RX1 = some m.cls := findClass_of_methodNamed B.named
  have hlocks := B.notSynchronized
  subst hsz
  have hA : ∀ q : Nat, s.heap.size ≤ q → (fun q : Nat => s.heap.size ≤ q) q := fun _ h => h
  have hD := hD0
  have hS : va_S (fun q : Nat => s.heap.size ≤ q) s.heap s.heap [] := va_S.rf
  have hP : va_P (dC, dI) vwCl [(h0, .inr (1, [w0, w1, w2, w3, w4, w5, .int 0, w7]))] s.heap := hP
  have hl := lv_entry ([.ref h0]) (n := 1) (Nat.le_of_ble_eq_true rfl)
  rw [lg_entry_eq]
  generalize (lg_sl ([.ref h0]) ++ List.replicate (1 - (lg_sl ([.ref h0])).length) Slot.unset).toArray = ls at hl ⊢
  have hl : lv_has ls 1 [(0, .ref h0)] := hl
  skip
  refine lv_aload_n hx hb dX1_isFull_0 rfl (lv_at hl 0 rfl) ?_
  refine va_get (D := (dC, dI)) (ci := 1) (v := .int 0) (C := RX1) (T := TX1) (N := 8) hx hb hts inB_1 hown hK hP 0 rfl rfl 6 (by decide) (hts _ mw_1_53) (fun _ h9 => h9) rfl dX1_isFull_1 ?_
  refine lv_bipush (v := 10) hx hb dX1_isFull_4 (by decide) ?_
  refine lv_icmp_lt (tgt := 13) hx hb dX1_isFull_6 (by decide) (fun _ => ?_) (fun h => absurd (by decide) h)
  refine lv_iconst (v := 0) hx hb dX1_isFull_13 (by decide) ?_
  exact W.zret (v := 0) hx hb hr (by decide) (fun t ht hW => ⟨⟨0, (), rfl, rfl, trivial⟩, hS.F ht⟩) hS.2.2 dX1_isFull_14
set_option maxHeartbeats 4000000 in
set_option maxRecDepth 100000 in
theorem c_howMany (l : Launch) (dC : Nat → ClassId) (dI : Nat → Nat → Nat) (sz : Nat) (h0 : Nat) (w0 : Value) (w1 : Value) (w2 : Value) (w3 : Value) (w4 : Value) (w5 : Value) (w7 : Value)  : Met l yX1_howMany (wq yX1_howMany cX1_howMany 1 (some .int)) ({ frames := 0, cells := 0, slots := 0, locals := 0 }) (va_Pc [.ref h0] (pcW dC dI [] [(h0, .inr (1, [w0, w1, w2, w3, w4, w5, .int 0, w7]))] sz)) (va_Qi (fun (r : Int32) (_ : Unit) => r = 0) (fun _ _ => True) (fun q : Nat => sz ≤ q)) 0 0 (fun q : Nat => sz ≤ q) := by
  refine Met.ofW (cc := cX1_howMany) (maxL := 1) (ret := (some .int)) (by decide) rfl ?_
  intro p e s m args below meth c s₁ B hml hv
  obtain ⟨rfl, hsz, hN, hP, hK, hD0⟩ := hv
  have hx := B.exec
  have hb := B.bytes
  have hr := B.returns
  have hts0 := atoms_spec (ws := (wq yX1_howMany cX1_howMany 1 (some .int))) B.pre
  have hts : ∀ w ∈ BG, w.before _ s = true := fun w h => hts0 w (List.mem_cons_of_mem _ h)
  have hown : s.vm.findClass RX1 = some m.cls := findClass_of_methodNamed B.named
  have hlocks := B.notSynchronized
  subst hsz
  have hA : ∀ q : Nat, s.heap.size ≤ q → (fun q : Nat => s.heap.size ≤ q) q := fun _ h => h
  have hD := hD0
  have hS : va_S (fun q : Nat => s.heap.size ≤ q) s.heap s.heap [] := va_S.rf
  have hP : va_P (dC, dI) vwCl [(h0, .inr (1, [w0, w1, w2, w3, w4, w5, .int 0, w7]))] s.heap := hP
  have hl := lv_entry ([.ref h0]) (n := 1) (Nat.le_of_ble_eq_true rfl)
  rw [lg_entry_eq]
  generalize (lg_sl ([.ref h0]) ++ List.replicate (1 - (lg_sl ([.ref h0])).length) Slot.unset).toArray = ls at hl ⊢
  have hl : lv_has ls 1 [(0, .ref h0)] := hl
  skip
  refine lv_aload_n hx hb dX1_howMany_0 rfl (lv_at hl 0 rfl) ?_
  refine va_get (D := (dC, dI)) (ci := 1) (v := .int 0) (C := RX1) (T := TX1) (N := 8) hx hb hts inB_1 hown hK hP 0 rfl rfl 6 (by decide) (hts _ mw_1_53) (fun _ h9 => h9) rfl dX1_howMany_1 ?_
  exact W.iret (v := 0) hx hb hr (fun t ht hW => ⟨⟨0, (), rfl, rfl, trivial⟩, hS.F ht⟩) hS.2.2 dX1_howMany_4
set_option maxHeartbeats 4000000 in
set_option maxRecDepth 100000 in
theorem c_isBare0 (l : Launch) (dC : Nat → ClassId) (dI : Nat → Nat → Nat) (sz : Nat) (h0 : Nat) (w0 : Value) (w1 : Value) (w2 : Value) (w3 : Value) (w4 : Value) (w5 : Value) (w7 : Value) (n : Int32)  : Met l yX1_isBare (wq yX1_isBare cX1_isBare 2 (some .boolean)) ({ frames := 1, cells := 0, slots := 0, locals := 21 }) (va_Pc [.ref h0, .int n] (pcW dC dI [] [(h0, .inr (1, [w0, w1, w2, w3, w4, w5, .int 0, w7]))] sz)) (va_Qi (fun (r : Int32) (_ : Unit) => r = 0) (fun _ _ => True) (fun q : Nat => sz ≤ q)) 0 0 (fun q : Nat => sz ≤ q) := by
  refine Met.ofW (cc := cX1_isBare) (maxL := 2) (ret := (some .boolean)) (by decide) rfl ?_
  intro p e s m args below meth c s₁ B hml hv
  obtain ⟨rfl, hsz, hN, hP, hK, hD0⟩ := hv
  have hx := B.exec
  have hb := B.bytes
  have hr := B.returns
  have hts0 := atoms_spec (ws := (wq yX1_isBare cX1_isBare 2 (some .boolean))) B.pre
  have hts : ∀ w ∈ BG, w.before _ s = true := fun w h => hts0 w (List.mem_cons_of_mem _ h)
  have hown : s.vm.findClass RX1 = some m.cls := findClass_of_methodNamed B.named
  have hlocks := B.notSynchronized
  subst hsz
  have hA : ∀ q : Nat, s.heap.size ≤ q → (fun q : Nat => s.heap.size ≤ q) q := fun _ h => h
  have hD := hD0
  have hS : va_S (fun q : Nat => s.heap.size ≤ q) s.heap s.heap [] := va_S.rf
  have hP : va_P (dC, dI) vwCl [(h0, .inr (1, [w0, w1, w2, w3, w4, w5, .int 0, w7]))] s.heap := hP
  have hl := lv_entry ([.ref h0, .int n]) (n := 2) (Nat.le_of_ble_eq_true rfl)
  rw [lg_entry_eq]
  generalize (lg_sl ([.ref h0, .int n]) ++ List.replicate (2 - (lg_sl ([.ref h0, .int n])).length) Slot.unset).toArray = ls at hl ⊢
  have hl : lv_has ls 2 [(0, .ref h0), (1, .int n)] := hl
  skip
  refine lv_aload_n hx hb dX1_isBare_0 rfl (lv_at hl 0 rfl) ?_
  refine lv_iload_n hx hb dX1_isBare_1 rfl (lv_at hl 1 rfl) ?_
  have hPc := hP.sub (ws' := [(h0, .inr (1, [w0, w1, w2, w3, w4, w5, .int 0, w7]))]) [0] rfl
  have hDc := hD.sub (ws' := [(h0, .inr (1, [w0, w1, w2, w3, w4, w5, .int 0, w7]))]) [0] (by decide) rfl
  have hKc := hK.sub (tys' := []) [] rfl
  refine va_calli (va_runV (As := [.int n]) (rest := []) ⟨hx, hb, hml, hown, hts⟩ (c_knows0 l dC dI s.heap.size h0 (w0) (w1) (w2) (w3) (w4) (w5) (w7) n) (cwV 1 hts (gV mw_1_208 mw_1_192 mw_1_193 mw_1_2 mw_1_194) rfl rfl rfl (by decide +kernel) ⟨Nat.le_of_ble_eq_true rfl, Nat.le_of_ble_eq_true rfl⟩) ⟨pcW_blind, va_recv hKc hPc (ci := 1) (q0 := 0) rfl rfl, pcW_at hPc hKc hDc hN⟩ rfl rfl hl.1 rfl (lv_room (Nat.le_of_ble_eq_true rfl)) dX1_isBare_2 ⟨Nat.le_of_ble_eq_true rfl, Nat.le_of_ble_eq_true rfl⟩) hS (fun q h1 h2 => absurd h2 (Nat.not_le.mpr h1)) (fun q h => hA q (Nat.le_trans hS.1 h)) (fun r_1 u t H1 locs ht hvm hw_1 hB hz1 hk1 hS => ?_)
  have hP := keepP hP hk1
  clear hz1 hk1 hB ht hvm hPc hDc hKc
  generalize H1 = H at hP hS ⊢
  obtain rfl : r_1 = 0 := hw_1
  refine lv_if_eq (tgt := 23) hx hb dX1_isBare_5 (by decide) (fun _ => ?_) (fun h => absurd (by decide) h)
  refine lv_iconst (v := 0) hx hb dX1_isBare_23 (by decide) ?_
  exact W.zret (v := 0) hx hb hr (by decide) (fun t ht hW => ⟨⟨0, (), rfl, rfl, trivial⟩, hS.F ht⟩) hS.2.2 dX1_isBare_24
set_option maxHeartbeats 4000000 in
set_option maxRecDepth 100000 in
theorem c_lengthOf0 (l : Launch) (dC : Nat → ClassId) (dI : Nat → Nat → Nat) (sz : Nat) (h0 : Nat) (w0 : Value) (w1 : Value) (w2 : Value) (w3 : Value) (w4 : Value) (w5 : Value) (w7 : Value) (n : Int32)  : Met l yX1_lengthOf (wq yX1_lengthOf cX1_lengthOf 2 (some .int)) ({ frames := 1, cells := 0, slots := 0, locals := 21 }) (va_Pc [.ref h0, .int n] (pcW dC dI [] [(h0, .inr (1, [w0, w1, w2, w3, w4, w5, .int 0, w7]))] sz)) (va_Qi (fun (r : Int32) (_ : Unit) => r = 0) (fun _ _ => True) (fun q : Nat => sz ≤ q)) 0 0 (fun q : Nat => sz ≤ q) := by
  refine Met.ofW (cc := cX1_lengthOf) (maxL := 2) (ret := (some .int)) (by decide) rfl ?_
  intro p e s m args below meth c s₁ B hml hv
  obtain ⟨rfl, hsz, hN, hP, hK, hD0⟩ := hv
  have hx := B.exec
  have hb := B.bytes
  have hr := B.returns
  have hts0 := atoms_spec (ws := (wq yX1_lengthOf cX1_lengthOf 2 (some .int))) B.pre
  have hts : ∀ w ∈ BG, w.before _ s = true := fun w h => hts0 w (List.mem_cons_of_mem _ h)
  have hown : s.vm.findClass RX1 = some m.cls := findClass_of_methodNamed B.named
  have hlocks := B.notSynchronized
  subst hsz
  have hA : ∀ q : Nat, s.heap.size ≤ q → (fun q : Nat => s.heap.size ≤ q) q := fun _ h => h
  have hD := hD0
  have hS : va_S (fun q : Nat => s.heap.size ≤ q) s.heap s.heap [] := va_S.rf
  have hP : va_P (dC, dI) vwCl [(h0, .inr (1, [w0, w1, w2, w3, w4, w5, .int 0, w7]))] s.heap := hP
  have hl := lv_entry ([.ref h0, .int n]) (n := 2) (Nat.le_of_ble_eq_true rfl)
  rw [lg_entry_eq]
  generalize (lg_sl ([.ref h0, .int n]) ++ List.replicate (2 - (lg_sl ([.ref h0, .int n])).length) Slot.unset).toArray = ls at hl ⊢
  have hl : lv_has ls 2 [(0, .ref h0), (1, .int n)] := hl
  skip
  refine lv_aload_n hx hb dX1_lengthOf_0 rfl (lv_at hl 0 rfl) ?_
  refine lv_iload_n hx hb dX1_lengthOf_1 rfl (lv_at hl 1 rfl) ?_
  have hPc := hP.sub (ws' := [(h0, .inr (1, [w0, w1, w2, w3, w4, w5, .int 0, w7]))]) [0] rfl
  have hDc := hD.sub (ws' := [(h0, .inr (1, [w0, w1, w2, w3, w4, w5, .int 0, w7]))]) [0] (by decide) rfl
  have hKc := hK.sub (tys' := []) [] rfl
  refine va_calli (va_runV (As := [.int n]) (rest := []) ⟨hx, hb, hml, hown, hts⟩ (c_knows0 l dC dI s.heap.size h0 (w0) (w1) (w2) (w3) (w4) (w5) (w7) n) (cwV 1 hts (gV mw_1_208 mw_1_192 mw_1_193 mw_1_2 mw_1_194) rfl rfl rfl (by decide +kernel) ⟨Nat.le_of_ble_eq_true rfl, Nat.le_of_ble_eq_true rfl⟩) ⟨pcW_blind, va_recv hKc hPc (ci := 1) (q0 := 0) rfl rfl, pcW_at hPc hKc hDc hN⟩ rfl rfl hl.1 rfl (lv_room (Nat.le_of_ble_eq_true rfl)) dX1_lengthOf_2 ⟨Nat.le_of_ble_eq_true rfl, Nat.le_of_ble_eq_true rfl⟩) hS (fun q h1 h2 => absurd h2 (Nat.not_le.mpr h1)) (fun q h => hA q (Nat.le_trans hS.1 h)) (fun r_1 u t H1 locs ht hvm hw_1 hB hz1 hk1 hS => ?_)
  have hP := keepP hP hk1
  clear hz1 hk1 hB ht hvm hPc hDc hKc
  generalize H1 = H at hP hS ⊢
  obtain rfl : r_1 = 0 := hw_1
  refine lv_if_eq (tgt := 17) hx hb dX1_lengthOf_5 (by decide) (fun _ => ?_) (fun h => absurd (by decide) h)
  refine lv_iconst (v := 0) hx hb dX1_lengthOf_17 (by decide) ?_
  exact W.iret (v := 0) hx hb hr (fun t ht hW => ⟨⟨0, (), rfl, rfl, trivial⟩, hS.F ht⟩) hS.2.2 dX1_lengthOf_18
set_option maxHeartbeats 4000000 in
set_option maxRecDepth 100000 in
theorem c_isLaid0 (l : Launch) (dC : Nat → ClassId) (dI : Nat → Nat → Nat) (sz : Nat) (h0 : Nat) (w0 : Value) (w1 : Value) (w2 : Value) (w3 : Value) (w4 : Value) (w5 : Value) (w7 : Value) (n : Int32)  : Met l yX1_isLaid (wq yX1_isLaid cX1_isLaid 2 (some .boolean)) ({ frames := 2, cells := 0, slots := 0, locals := 42 }) (va_Pc [.ref h0, .int n] (pcW dC dI [] [(h0, .inr (1, [w0, w1, w2, w3, w4, w5, .int 0, w7]))] sz)) (va_Qi (fun (r : Int32) (_ : Unit) => r = 0) (fun _ _ => True) (fun q : Nat => sz ≤ q)) 0 0 (fun q : Nat => sz ≤ q) := by
  refine Met.ofW (cc := cX1_isLaid) (maxL := 2) (ret := (some .boolean)) (by decide) rfl ?_
  intro p e s m args below meth c s₁ B hml hv
  obtain ⟨rfl, hsz, hN, hP, hK, hD0⟩ := hv
  have hx := B.exec
  have hb := B.bytes
  have hr := B.returns
  have hts0 := atoms_spec (ws := (wq yX1_isLaid cX1_isLaid 2 (some .boolean))) B.pre
  have hts : ∀ w ∈ BG, w.before _ s = true := fun w h => hts0 w (List.mem_cons_of_mem _ h)
  have hown : s.vm.findClass RX1 = some m.cls := findClass_of_methodNamed B.named
  have hlocks := B.notSynchronized
  subst hsz
  have hA : ∀ q : Nat, s.heap.size ≤ q → (fun q : Nat => s.heap.size ≤ q) q := fun _ h => h
  have hD := hD0
  have hS : va_S (fun q : Nat => s.heap.size ≤ q) s.heap s.heap [] := va_S.rf
  have hP : va_P (dC, dI) vwCl [(h0, .inr (1, [w0, w1, w2, w3, w4, w5, .int 0, w7]))] s.heap := hP
  have hl := lv_entry ([.ref h0, .int n]) (n := 2) (Nat.le_of_ble_eq_true rfl)
  rw [lg_entry_eq]
  generalize (lg_sl ([.ref h0, .int n]) ++ List.replicate (2 - (lg_sl ([.ref h0, .int n])).length) Slot.unset).toArray = ls at hl ⊢
  have hl : lv_has ls 2 [(0, .ref h0), (1, .int n)] := hl
  skip
  refine lv_aload_n hx hb dX1_isLaid_0 rfl (lv_at hl 0 rfl) ?_
  refine lv_iload_n hx hb dX1_isLaid_1 rfl (lv_at hl 1 rfl) ?_
  have hPc := hP.sub (ws' := [(h0, .inr (1, [w0, w1, w2, w3, w4, w5, .int 0, w7]))]) [0] rfl
  have hDc := hD.sub (ws' := [(h0, .inr (1, [w0, w1, w2, w3, w4, w5, .int 0, w7]))]) [0] (by decide) rfl
  have hKc := hK.sub (tys' := []) [] rfl
  refine va_calli (va_runV (As := [.int n]) (rest := []) ⟨hx, hb, hml, hown, hts⟩ (c_lengthOf0 l dC dI s.heap.size h0 (w0) (w1) (w2) (w3) (w4) (w5) (w7) n) (cwV 1 hts (gV mw_1_213 mw_1_214 mw_1_215 mw_1_2 mw_1_216) rfl rfl rfl (by decide +kernel) ⟨Nat.le_of_ble_eq_true rfl, Nat.le_of_ble_eq_true rfl⟩) ⟨pcW_blind, va_recv hKc hPc (ci := 1) (q0 := 0) rfl rfl, pcW_at hPc hKc hDc hN⟩ rfl rfl hl.1 rfl (lv_room (Nat.le_of_ble_eq_true rfl)) dX1_isLaid_2 ⟨Nat.le_of_ble_eq_true rfl, Nat.le_of_ble_eq_true rfl⟩) hS (fun q h1 h2 => absurd h2 (Nat.not_le.mpr h1)) (fun q h => hA q (Nat.le_trans hS.1 h)) (fun r_1 u t H1 locs ht hvm hw_1 hB hz1 hk1 hS => ?_)
  have hP := keepP hP hk1
  clear hz1 hk1 hB ht hvm hPc hDc hKc
  generalize H1 = H at hP hS ⊢
  obtain rfl : r_1 = 0 := hw_1
  refine lv_if_le (tgt := 12) hx hb dX1_isLaid_5 (by decide) (fun _ => ?_) (fun h => absurd (by decide) h)
  refine lv_iconst (v := 0) hx hb dX1_isLaid_12 (by decide) ?_
  exact W.zret (v := 0) hx hb hr (by decide) (fun t ht hW => ⟨⟨0, (), rfl, rfl, trivial⟩, hS.F ht⟩) hS.2.2 dX1_isLaid_13
set_option maxHeartbeats 4000000 in
set_option maxRecDepth 100000 in
theorem c_hasRow0 (l : Launch) (dC : Nat → ClassId) (dI : Nat → Nat → Nat) (sz : Nat) (h0 : Nat) (w0 : Value) (w1 : Value) (w2 : Value) (w3 : Value) (w4 : Value) (w5 : Value) (w7 : Value) (n : Int32)  : Met l yX1_hasRow (wq yX1_hasRow cX1_hasRow 2 (some .boolean)) ({ frames := 3, cells := 0, slots := 0, locals := 63 }) (va_Pc [.ref h0, .int n] (pcW dC dI [] [(h0, .inr (1, [w0, w1, w2, w3, w4, w5, .int 0, w7]))] sz)) (va_Qi (fun (r : Int32) (_ : Unit) => r = 0) (fun _ _ => True) (fun q : Nat => sz ≤ q)) 0 0 (fun q : Nat => sz ≤ q) := by
  refine Met.ofW (cc := cX1_hasRow) (maxL := 2) (ret := (some .boolean)) (by decide) rfl ?_
  intro p e s m args below meth c s₁ B hml hv
  obtain ⟨rfl, hsz, hN, hP, hK, hD0⟩ := hv
  have hx := B.exec
  have hb := B.bytes
  have hr := B.returns
  have hts0 := atoms_spec (ws := (wq yX1_hasRow cX1_hasRow 2 (some .boolean))) B.pre
  have hts : ∀ w ∈ BG, w.before _ s = true := fun w h => hts0 w (List.mem_cons_of_mem _ h)
  have hown : s.vm.findClass RX1 = some m.cls := findClass_of_methodNamed B.named
  have hlocks := B.notSynchronized
  subst hsz
  have hA : ∀ q : Nat, s.heap.size ≤ q → (fun q : Nat => s.heap.size ≤ q) q := fun _ h => h
  have hD := hD0
  have hS : va_S (fun q : Nat => s.heap.size ≤ q) s.heap s.heap [] := va_S.rf
  have hP : va_P (dC, dI) vwCl [(h0, .inr (1, [w0, w1, w2, w3, w4, w5, .int 0, w7]))] s.heap := hP
  have hl := lv_entry ([.ref h0, .int n]) (n := 2) (Nat.le_of_ble_eq_true rfl)
  rw [lg_entry_eq]
  generalize (lg_sl ([.ref h0, .int n]) ++ List.replicate (2 - (lg_sl ([.ref h0, .int n])).length) Slot.unset).toArray = ls at hl ⊢
  have hl : lv_has ls 2 [(0, .ref h0), (1, .int n)] := hl
  skip
  refine lv_aload_n hx hb dX1_hasRow_0 rfl (lv_at hl 0 rfl) ?_
  refine lv_iload_n hx hb dX1_hasRow_1 rfl (lv_at hl 1 rfl) ?_
  have hPc := hP.sub (ws' := [(h0, .inr (1, [w0, w1, w2, w3, w4, w5, .int 0, w7]))]) [0] rfl
  have hDc := hD.sub (ws' := [(h0, .inr (1, [w0, w1, w2, w3, w4, w5, .int 0, w7]))]) [0] (by decide) rfl
  have hKc := hK.sub (tys' := []) [] rfl
  refine va_calli (va_runV (As := [.int n]) (rest := []) ⟨hx, hb, hml, hown, hts⟩ (c_isLaid0 l dC dI s.heap.size h0 (w0) (w1) (w2) (w3) (w4) (w5) (w7) n) (cwV 1 hts (gV mw_1_209 mw_1_210 mw_1_211 mw_1_2 mw_1_212) rfl rfl rfl (by decide +kernel) ⟨Nat.le_of_ble_eq_true rfl, Nat.le_of_ble_eq_true rfl⟩) ⟨pcW_blind, va_recv hKc hPc (ci := 1) (q0 := 0) rfl rfl, pcW_at hPc hKc hDc hN⟩ rfl rfl hl.1 rfl (lv_room (Nat.le_of_ble_eq_true rfl)) dX1_hasRow_2 ⟨Nat.le_of_ble_eq_true rfl, Nat.le_of_ble_eq_true rfl⟩) hS (fun q h1 h2 => absurd h2 (Nat.not_le.mpr h1)) (fun q h => hA q (Nat.le_trans hS.1 h)) (fun r_1 u t H1 locs ht hvm hw_1 hB hz1 hk1 hS => ?_)
  have hP := keepP hP hk1
  clear hz1 hk1 hB ht hvm hPc hDc hKc
  generalize H1 = H at hP hS ⊢
  obtain rfl : r_1 = 0 := hw_1
  refine lv_if_eq (tgt := 20) hx hb dX1_hasRow_5 (by decide) (fun _ => ?_) (fun h => absurd (by decide) h)
  refine lv_iconst (v := 0) hx hb dX1_hasRow_20 (by decide) ?_
  exact W.zret (v := 0) hx hb hr (by decide) (fun t ht hW => ⟨⟨0, (), rfl, rfl, trivial⟩, hS.F ht⟩) hS.2.2 dX1_hasRow_21
