theorem mw_3_87 : Cond.code yX8_isPlace cX8_isPlace 1 (some .boolean) ∈ BG := mB (t3 (i := 87) rfl) (by decide +kernel)
theorem mw_3_86 : Cond.static yX8_isPlace ∈ BG := mB (t3 (i := 86) (by decide +kernel)) (by decide +kernel)
theorem mw_1_155 : Cond.laysFinal RX3 "AnswerLines$Places" "sizes" "[I" ∈ BG := mB (t1 (i := 155) (by decide +kernel)) (by decide +kernel)
theorem mw_1_157 : Cond.laysFinal RX3 "AnswerLines$Places" "calledPlaces" "[I" ∈ BG := mB (t1 (i := 157) (by decide +kernel)) (by decide +kernel)
theorem mw_1_159 : Cond.laysFinal RX3 "AnswerLines$Places" "calledKinds" "[I" ∈ BG := mB (t1 (i := 159) (by decide +kernel)) (by decide +kernel)
theorem mw_1_161 : Cond.laysFinal RX3 "AnswerLines$Places" "recent" "[I" ∈ BG := mB (t1 (i := 161) (by decide +kernel)) (by decide +kernel)
theorem mw_1_163 : Cond.lays RX3 "AnswerLines$Places" "count" "I" ∈ BG := mB (t1 (i := 163) (by decide +kernel)) (by decide +kernel)
theorem mw_1_165 : Cond.lays RX3 "AnswerLines$Places" "remembered" "I" ∈ BG := mB (t1 (i := 165) (by decide +kernel)) (by decide +kernel)
theorem inB_3 : ∀ w ∈ u_ws RX3 TX3 6, w ∈ BG := fun w hw => by
  obtain ⟨k, hk, rfl⟩ := List.mem_map.mp hw
  have hk := List.mem_range.mp hk
  rcases (by omega : k = 0 ∨ k = 1 ∨ k = 2 ∨ k = 3 ∨ k = 4 ∨ k = 5) with rfl | rfl | rfl | rfl | rfl | rfl
  · exact mw_1_155
  · exact mw_1_157
  · exact mw_1_159
  · exact mw_1_161
  · exact mw_1_163
  · exact mw_1_165
theorem mw_1_149 : Cond.fieldLink RX3 9 "AnswerLines$Places" "sizes" "[I" ∈ BG := mB (t1 (i := 149) (by decide +kernel)) (by decide +kernel)
theorem mw_3_116 : Cond.code yX3_sizeOf cX3_sizeOf 2 (some .int) ∈ BG := mB (t3 (i := 116) rfl) (by decide +kernel)
theorem mw_3_113 : Cond.methodLink RX3 36 yX3_sizeOf ∈ BG := mB (t3 (i := 113) (by decide +kernel)) (by decide +kernel)
theorem mw_3_114 : Cond.instanceMethod yX3_sizeOf ∈ BG := mB (t3 (i := 114) (by decide +kernel)) (by decide +kernel)
theorem mw_3_115 : Cond.selects RX3 yX3_sizeOf yX3_sizeOf ∈ BG := mB (t3 (i := 115) (by decide +kernel)) (by decide +kernel)
theorem mw_1_8 : Cond.initialized RX3 ∈ BG := mB (t1 (i := 8) (by decide +kernel)) (by decide +kernel)
theorem mw_1_153 : Cond.fieldLink RX3 24 "AnswerLines$Places" "count" "I" ∈ BG := mB (t1 (i := 153) (by decide +kernel)) (by decide +kernel)
theorem mw_1_154 : Cond.fieldLink RX3 40 "AnswerLines$Places" "remembered" "I" ∈ BG := mB (t1 (i := 154) (by decide +kernel)) (by decide +kernel)
theorem dX3_sizeOf_0 : decode cX3_sizeOf 0 = .ok (.iload_n 1, 1) := by decide +kernel
theorem dX3_sizeOf_1 : decode cX3_sizeOf 1 = .ok (.invokestatic 32, 3) := by decide +kernel
theorem dX3_sizeOf_4 : decode cX3_sizeOf 4 = .ok (.ifCond .eq 12, 3) := by decide +kernel
theorem dX3_sizeOf_7 : decode cX3_sizeOf 7 = .ok (.aload_n 0, 1) := by decide +kernel
theorem dX3_sizeOf_8 : decode cX3_sizeOf 8 = .ok (.getfield 9, 3) := by decide +kernel
theorem dX3_sizeOf_11 : decode cX3_sizeOf 11 = .ok (.iload_n 1, 1) := by decide +kernel
theorem dX3_sizeOf_12 : decode cX3_sizeOf 12 = .ok (.iaload, 1) := by decide +kernel
theorem dX3_sizeOf_13 : decode cX3_sizeOf 13 = .ok (.goto 4, 3) := by decide +kernel
theorem dX3_sizeOf_17 : decode cX3_sizeOf 17 = .ok (.ireturn, 1) := by decide +kernel
theorem dX3_sizeOf_16 : decode cX3_sizeOf 16 = .ok (.iconst 1, 1) := by decide +kernel
theorem dX3_resize_0 : decode cX3_resize 0 = .ok (.aload_n 0, 1) := by decide +kernel
theorem dX3_resize_1 : decode cX3_resize 1 = .ok (.iload_n 1, 1) := by decide +kernel
theorem dX3_resize_2 : decode cX3_resize 2 = .ok (.invokevirtual 36, 3) := by decide +kernel
theorem dX3_resize_5 : decode cX3_resize 5 = .ok (.istore_n 3, 1) := by decide +kernel
theorem dX3_resize_6 : decode cX3_resize 6 = .ok (.iload_n 1, 1) := by decide +kernel
theorem dX3_resize_7 : decode cX3_resize 7 = .ok (.invokestatic 32, 3) := by decide +kernel
theorem dX3_resize_10 : decode cX3_resize 10 = .ok (.ifCond .eq 10, 3) := by decide +kernel
theorem dX3_resize_13 : decode cX3_resize 13 = .ok (.aload_n 0, 1) := by decide +kernel
theorem dX3_resize_14 : decode cX3_resize 14 = .ok (.getfield 9, 3) := by decide +kernel
theorem dX3_resize_17 : decode cX3_resize 17 = .ok (.iload_n 1, 1) := by decide +kernel
theorem dX3_resize_18 : decode cX3_resize 18 = .ok (.iload_n 2, 1) := by decide +kernel
theorem dX3_resize_19 : decode cX3_resize 19 = .ok (.iastore, 1) := by decide +kernel
theorem dX3_resize_20 : decode cX3_resize 20 = .ok (.iload_n 3, 1) := by decide +kernel
theorem dX3_resize_21 : decode cX3_resize 21 = .ok (.ireturn, 1) := by decide +kernel
theorem dX3_callsAt_0 : decode cX3_callsAt 0 = .ok (.iconst 0, 1) := by decide +kernel
theorem dX3_callsAt_1 : decode cX3_callsAt 1 = .ok (.istore_n 2, 1) := by decide +kernel
theorem dX3_callsAt_2 : decode cX3_callsAt 2 = .ok (.iconst 0, 1) := by decide +kernel
theorem dX3_callsAt_3 : decode cX3_callsAt 3 = .ok (.istore_n 3, 1) := by decide +kernel
theorem dX3_callsAt_4 : decode cX3_callsAt 4 = .ok (.iload_n 3, 1) := by decide +kernel
theorem dX3_callsAt_5 : decode cX3_callsAt 5 = .ok (.aload_n 0, 1) := by decide +kernel
theorem dX3_callsAt_6 : decode cX3_callsAt 6 = .ok (.getfield 24, 3) := by decide +kernel
theorem dX3_callsAt_9 : decode cX3_callsAt 9 = .ok (.if_icmp .ge 22, 3) := by decide +kernel
theorem dX3_callsAt_31 : decode cX3_callsAt 31 = .ok (.iload_n 2, 1) := by decide +kernel
theorem dX3_callsAt_32 : decode cX3_callsAt 32 = .ok (.ireturn, 1) := by decide +kernel
theorem dX3_hitsBySize_0 : decode cX3_hitsBySize 0 = .ok (.aload_n 0, 1) := by decide +kernel
theorem dX3_hitsBySize_1 : decode cX3_hitsBySize 1 = .ok (.iconst 0, 1) := by decide +kernel
theorem dX3_hitsBySize_2 : decode cX3_hitsBySize 2 = .ok (.putfield 40, 3) := by decide +kernel
theorem dX3_hitsBySize_5 : decode cX3_hitsBySize 5 = .ok (.iconst 0, 1) := by decide +kernel
theorem dX3_hitsBySize_6 : decode cX3_hitsBySize 6 = .ok (.istore_n 3, 1) := by decide +kernel
theorem dX3_hitsBySize_7 : decode cX3_hitsBySize 7 = .ok (.iconst 0, 1) := by decide +kernel
theorem dX3_hitsBySize_8 : decode cX3_hitsBySize 8 = .ok (.istore 4, 2) := by decide +kernel
theorem dX3_hitsBySize_10 : decode cX3_hitsBySize 10 = .ok (.iload 4, 2) := by decide +kernel
theorem dX3_hitsBySize_12 : decode cX3_hitsBySize 12 = .ok (.aload_n 0, 1) := by decide +kernel
theorem dX3_hitsBySize_13 : decode cX3_hitsBySize 13 = .ok (.getfield 24, 3) := by decide +kernel
theorem dX3_hitsBySize_16 : decode cX3_hitsBySize 16 = .ok (.if_icmp .ge 102, 3) := by decide +kernel
theorem dX3_hitsBySize_118 : decode cX3_hitsBySize 118 = .ok (.iload_n 3, 1) := by decide +kernel
theorem dX3_hitsBySize_119 : decode cX3_hitsBySize 119 = .ok (.ireturn, 1) := by decide +kernel
theorem dX3_bestHits_0 : decode cX3_bestHits 0 = .ok (.aload_n 0, 1) := by decide +kernel
theorem dX3_bestHits_1 : decode cX3_bestHits 1 = .ok (.iload_n 1, 1) := by decide +kernel
theorem dX3_bestHits_2 : decode cX3_bestHits 2 = .ok (.invokevirtual 36, 3) := by decide +kernel
theorem dX3_bestHits_5 : decode cX3_bestHits 5 = .ok (.istore_n 2, 1) := by decide +kernel
theorem dX3_bestHits_6 : decode cX3_bestHits 6 = .ok (.iconst 0, 1) := by decide +kernel
theorem dX3_bestHits_7 : decode cX3_bestHits 7 = .ok (.istore_n 3, 1) := by decide +kernel
theorem dX3_bestHits_8 : decode cX3_bestHits 8 = .ok (.iconst 0, 1) := by decide +kernel
theorem dX3_bestHits_9 : decode cX3_bestHits 9 = .ok (.istore 4, 2) := by decide +kernel
theorem dX3_bestHits_11 : decode cX3_bestHits 11 = .ok (.iconst 0, 1) := by decide +kernel
theorem dX3_bestHits_12 : decode cX3_bestHits 12 = .ok (.istore 5, 2) := by decide +kernel
theorem dX3_bestHits_14 : decode cX3_bestHits 14 = .ok (.iload 5, 2) := by decide +kernel
theorem dX3_bestHits_16 : decode cX3_bestHits 16 = .ok (.aload_n 0, 1) := by decide +kernel
theorem dX3_bestHits_17 : decode cX3_bestHits 17 = .ok (.getfield 24, 3) := by decide +kernel
theorem dX3_bestHits_20 : decode cX3_bestHits 20 = .ok (.if_icmp .ge 78, 3) := by decide +kernel
theorem dX3_bestHits_98 : decode cX3_bestHits 98 = .ok (.iload 4, 2) := by decide +kernel
theorem dX3_bestHits_100 : decode cX3_bestHits 100 = .ok (.ireturn, 1) := by decide +kernel
theorem dX3_latest_0 : decode cX3_latest 0 = .ok (.iload_n 1, 1) := by decide +kernel
theorem dX3_latest_1 : decode cX3_latest 1 = .ok (.ifCond .lt 25, 3) := by decide +kernel
theorem dX3_latest_26 : decode cX3_latest 26 = .ok (.bipush (-6), 2) := by decide +kernel
theorem dX3_latest_28 : decode cX3_latest 28 = .ok (.ireturn, 1) := by decide +kernel
theorem dX3_latest_4 : decode cX3_latest 4 = .ok (.iload_n 1, 1) := by decide +kernel
theorem dX3_latest_5 : decode cX3_latest 5 = .ok (.aload_n 0, 1) := by decide +kernel
theorem dX3_latest_6 : decode cX3_latest 6 = .ok (.getfield 40, 3) := by decide +kernel
theorem dX3_latest_9 : decode cX3_latest 9 = .ok (.if_icmp .ge 17, 3) := by decide +kernel
theorem dX3_howMany_0 : decode cX3_howMany 0 = .ok (.aload_n 0, 1) := by decide +kernel
theorem dX3_howMany_1 : decode cX3_howMany 1 = .ok (.getfield 24, 3) := by decide +kernel
theorem dX3_howMany_4 : decode cX3_howMany 4 = .ok (.ireturn, 1) := by decide +kernel
theorem dX3_clear_0 : decode cX3_clear 0 = .ok (.aload_n 0, 1) := by decide +kernel
theorem dX3_clear_1 : decode cX3_clear 1 = .ok (.getfield 24, 3) := by decide +kernel
theorem dX3_clear_4 : decode cX3_clear 4 = .ok (.istore_n 1, 1) := by decide +kernel
theorem dX3_clear_5 : decode cX3_clear 5 = .ok (.aload_n 0, 1) := by decide +kernel
theorem dX3_clear_6 : decode cX3_clear 6 = .ok (.iconst 0, 1) := by decide +kernel
theorem dX3_clear_7 : decode cX3_clear 7 = .ok (.putfield 24, 3) := by decide +kernel
theorem dX3_clear_10 : decode cX3_clear 10 = .ok (.iload_n 1, 1) := by decide +kernel
theorem dX3_clear_11 : decode cX3_clear 11 = .ok (.ireturn, 1) := by decide +kernel
set_option maxHeartbeats 4000000 in
set_option maxRecDepth 100000 in
theorem c_sizeOf (l : Launch) (dC : Nat → ClassId) (dI : Nat → Nat → Nat) (sz : Nat) (h0 : Nat) (a0 : Nat) (w1 : Value) (w2 : Value) (w3 : Value) (ka0 : ClassId) (n : Int32)  : Met l yX3_sizeOf (wq yX3_sizeOf cX3_sizeOf 2 (some .int)) ({ frames := 1, cells := 0, slots := 0, locals := 20 }) (va_Pc [.ref h0, .int n] (pcW dC dI [(ka0, .int)] [(h0, .inr (3, [.ref a0, w1, w2, w3, .int 0, .int 0])), (a0, .inl (ka0, 4, .inl (slF 1 0 4)))] sz)) (va_Qi (fun (r : Int32) (_ : Unit) => r = 1) (fun _ _ => True) (fun q : Nat => sz ≤ q)) 0 0 (fun q : Nat => sz ≤ q) := by
  refine Met.ofW (cc := cX3_sizeOf) (maxL := 2) (ret := (some .int)) (by decide) rfl ?_
  intro p e s m args below meth c s₁ B hml hv
  obtain ⟨rfl, hsz, hN, hP, hK, hD0⟩ := hv
  have hx := B.exec
  have hb := B.bytes
  have hr := B.returns
  have hts0 := atoms_spec (ws := (wq yX3_sizeOf cX3_sizeOf 2 (some .int))) B.pre
  have hts : ∀ w ∈ BG, w.before _ s = true := fun w h => hts0 w (List.mem_cons_of_mem _ h)
  have hown : s.vm.findClass RX3 = some m.cls := findClass_of_methodNamed B.named
  have hlocks := B.notSynchronized
  subst hsz
  have hA : ∀ q : Nat, s.heap.size ≤ q → (fun q : Nat => s.heap.size ≤ q) q := fun _ h => h
  have hD := hD0
  have hS : va_S (fun q : Nat => s.heap.size ≤ q) s.heap s.heap [] := va_S.rf
  have hP : va_P (dC, dI) vwCl [(h0, .inr (3, [.ref a0, w1, w2, w3, .int 0, .int 0])), (a0, .inl (ka0, 4, .inl (slF 1 0 4)))] s.heap := hP
  have hl := lv_entry ([.ref h0, .int n]) (n := 2) (Nat.le_of_ble_eq_true rfl)
  rw [lg_entry_eq]
  generalize (lg_sl ([.ref h0, .int n]) ++ List.replicate (2 - (lg_sl ([.ref h0, .int n])).length) Slot.unset).toArray = ls at hl ⊢
  have hl : lv_has ls 2 [(0, .ref h0), (1, .int n)] := hl
  skip
  refine lv_iload_n hx hb dX3_sizeOf_0 rfl (lv_at hl 1 rfl) ?_
  have hPc := hP.sub (ws' := []) [] rfl
  have hDc := hD.sub (ws' := []) [] (by decide) rfl
  have hKc := hK.sub (tys' := []) [] rfl
  refine va_calli (va_runSN (As := [.int n]) (rest := []) ⟨hx, hb, hml, hown, hts⟩ (c_isPlace l dC dI s.heap.size n) ⟨va_cnB 1 hts (gN mw_3_87) rfl rfl rfl (hN (RX3, 32, yX8_isPlace, RX8) (List.mem_of_getElem? (i := 13) rfl)) (hts _ mw_1_1) (by decide +kernel) ⟨Nat.le_of_ble_eq_true rfl, Nat.le_of_ble_eq_true rfl⟩, (hts _ mw_3_86), trivial⟩ ⟨pcW_blind, pcW_at hPc hKc hDc hN⟩ rfl rfl hl.1 rfl (lv_room (Nat.le_of_ble_eq_true rfl)) dX3_sizeOf_1 ⟨Nat.le_of_ble_eq_true rfl, Nat.le_of_ble_eq_true rfl⟩) hS (fun q h1 h2 => absurd h2 (Nat.not_le.mpr h1)) (fun q h => hA q (Nat.le_trans hS.1 h)) (fun r_1 u t H1 locs ht hvm hw_1 hB hz1 hk1 hS => ?_)
  have hP := keepP hP hk1
  clear hz1 hk1 hB ht hvm hPc hDc hKc
  generalize H1 = H at hP hS ⊢
  rcases fx_bool hw_1 with ⟨rfl, b_2⟩ | ⟨rfl, b_2⟩
  · skip
    refine lv_if_eq (tgt := 16) hx hb dX3_sizeOf_4 (by decide) (fun h => absurd h (by decide)) (fun _ => ?_)
    refine lv_aload_n hx hb dX3_sizeOf_7 rfl (lv_at hl 0 rfl) ?_
    refine va_get (D := (dC, dI)) (ci := 3) (v := .ref a0) (C := RX3) (T := TX3) (N := 6) hx hb hts inB_3 hown hK hP 0 rfl rfl 0 (by decide) (hts _ mw_1_149) (fun _ h9 => h9) rfl dX3_sizeOf_8 ?_
    refine lv_iload_n hx hb dX3_sizeOf_11 rfl (lv_at hl 1 rfl) ?_
    refine va_iald hx hb hK hP 1 0 rfl rfl (show vp_in n 4 from fx_in (by omega) (by omega)) dX3_sizeOf_12 ?_
    refine hx_top (y := 1) (slF_in (fx_cl (by omega) (by omega))) ?_
    refine lv_goto (tgt := 17) hx hb dX3_sizeOf_13 (by decide) ?_
    exact W.iret (v := 1) hx hb hr (fun t ht hW => ⟨⟨1, (), rfl, rfl, trivial⟩, hS.F ht⟩) hS.2.2 dX3_sizeOf_17
  · skip
    refine lv_if_eq (tgt := 16) hx hb dX3_sizeOf_4 (by decide) (fun _ => ?_) (fun h => absurd (by decide) h)
    refine lv_iconst (v := 1) hx hb dX3_sizeOf_16 (by decide) ?_
    exact W.iret (v := 1) hx hb hr (fun t ht hW => ⟨⟨1, (), rfl, rfl, trivial⟩, hS.F ht⟩) hS.2.2 dX3_sizeOf_17
set_option maxHeartbeats 4000000 in
set_option maxRecDepth 100000 in
theorem c_resize (l : Launch) (dC : Nat → ClassId) (dI : Nat → Nat → Nat) (sz : Nat) (h0 : Nat) (a0 : Nat) (w1 : Value) (w2 : Value) (w3 : Value) (ka0 : ClassId) (n : Int32) (v : Int32)  : Met l yX3_resize (wq yX3_resize cX3_resize 4 (some .int)) ({ frames := 2, cells := 0, slots := 0, locals := 41 }) (va_Pc [.ref h0, .int n, .int v] (pcW dC dI [(ka0, .int)] [(h0, .inr (3, [.ref a0, w1, w2, w3, .int 0, .int 0])), (a0, .inl (ka0, 4, .inl (slF 1 0 4)))] sz)) (va_Qi (fun (r : Int32) (_ : Unit) => r = 1) (fun _ _ => True) (va_A [(h0, .inr (3, [.ref a0, w1, w2, w3, .int 0, .int 0])), (a0, .inl (ka0, 4, .inl (slF 1 0 4)))] sz)) 0 0 (va_A [(h0, .inr (3, [.ref a0, w1, w2, w3, .int 0, .int 0])), (a0, .inl (ka0, 4, .inl (slF 1 0 4)))] sz) := by
  refine Met.ofW (cc := cX3_resize) (maxL := 4) (ret := (some .int)) (by decide) rfl ?_
  intro p e s m args below meth c s₁ B hml hv
  obtain ⟨rfl, hsz, hN, hP, hK, hD0⟩ := hv
  have hx := B.exec
  have hb := B.bytes
  have hr := B.returns
  have hts0 := atoms_spec (ws := (wq yX3_resize cX3_resize 4 (some .int))) B.pre
  have hts : ∀ w ∈ BG, w.before _ s = true := fun w h => hts0 w (List.mem_cons_of_mem _ h)
  have hown : s.vm.findClass RX3 = some m.cls := findClass_of_methodNamed B.named
  have hlocks := B.notSynchronized
  subst hsz
  have hD := hD0.self (sz := s.heap.size)
  generalize hAe : va_A [(h0, .inr (3, [.ref a0, w1, w2, w3, .int 0, .int 0])), (a0, .inl (ka0, 4, .inl (slF 1 0 4)))] s.heap.size = A at hD ⊢
  have hA : ∀ q : Nat, s.heap.size ≤ q → A q := fun q h => by rw [← hAe]; exact Or.inr h
  have hS : va_S A s.heap s.heap [] := va_S.rf
  have hP : va_P (dC, dI) vwCl [(h0, .inr (3, [.ref a0, w1, w2, w3, .int 0, .int 0])), (a0, .inl (ka0, 4, .inl (slF 1 0 4)))] s.heap := hP
  have hl := lv_entry ([.ref h0, .int n, .int v]) (n := 4) (Nat.le_of_ble_eq_true rfl)
  rw [lg_entry_eq]
  generalize (lg_sl ([.ref h0, .int n, .int v]) ++ List.replicate (4 - (lg_sl ([.ref h0, .int n, .int v])).length) Slot.unset).toArray = ls at hl ⊢
  have hl : lv_has ls 4 [(0, .ref h0), (1, .int n), (2, .int v)] := hl
  skip
  refine lv_aload_n hx hb dX3_resize_0 rfl (lv_at hl 0 rfl) ?_
  refine lv_iload_n hx hb dX3_resize_1 rfl (lv_at hl 1 rfl) ?_
  have hPc := hP.sub (ws' := [(h0, .inr (3, [.ref a0, w1, w2, w3, .int 0, .int 0])), (a0, .inl (ka0, 4, .inl (slF 1 0 4)))]) [0, 1] rfl
  have hDc := hD.sub (ws' := [(h0, .inr (3, [.ref a0, w1, w2, w3, .int 0, .int 0])), (a0, .inl (ka0, 4, .inl (slF 1 0 4)))]) [0, 1] (by decide) rfl
  have hKc := hK.sub (tys' := [(ka0, .int)]) [0] rfl
  refine va_calli (va_runV (As := [.int n]) (rest := []) ⟨hx, hb, hml, hown, hts⟩ (c_sizeOf l dC dI s.heap.size h0 a0 (w1) (w2) (w3) ka0 n) (cwV 1 hts (gV mw_3_113 mw_3_114 mw_3_115 mw_1_8 mw_3_116) rfl rfl rfl (by decide +kernel) ⟨Nat.le_of_ble_eq_true rfl, Nat.le_of_ble_eq_true rfl⟩) ⟨pcW_blind, va_recv hKc hPc (ci := 3) (q0 := 0) rfl rfl, pcW_at hPc hKc hDc hN⟩ rfl rfl hl.1 rfl (lv_room (Nat.le_of_ble_eq_true rfl)) dX3_resize_2 ⟨Nat.le_of_ble_eq_true rfl, Nat.le_of_ble_eq_true rfl⟩) hS (fun q h1 h2 => absurd h2 (Nat.not_le.mpr h1)) (fun q h => hA q (Nat.le_trans hS.1 h)) (fun r_1 u t H1 locs ht hvm hw_1 hB hz1 hk1 hS => ?_)
  have hP := keepP hP hk1
  clear hz1 hk1 hB ht hvm hPc hDc hKc
  generalize H1 = H at hP hS ⊢
  obtain rfl : r_1 = 1 := hw_1
  refine lv_istore_n (lv' := [(3, .int 1), (0, .ref h0), (1, .int n), (2, .int v)]) hx hb dX3_resize_5 rfl hl (by decide) rfl (fun ls hl => ?_)
  refine lv_iload_n hx hb dX3_resize_6 rfl (lv_at hl 2 rfl) ?_
  have hPc := hP.sub (ws' := []) [] rfl
  have hDc := hD.sub (ws' := []) [] (by decide) rfl
  have hKc := hK.sub (tys' := []) [] rfl
  refine va_calli (va_runSN (As := [.int n]) (rest := []) ⟨hx, hb, hml, hown, hts⟩ (c_isPlace l dC dI H.size n) ⟨va_cnB 1 hts (gN mw_3_87) rfl rfl rfl (hN (RX3, 32, yX8_isPlace, RX8) (List.mem_of_getElem? (i := 13) rfl)) (hts _ mw_1_1) (by decide +kernel) ⟨Nat.le_of_ble_eq_true rfl, Nat.le_of_ble_eq_true rfl⟩, (hts _ mw_3_86), trivial⟩ ⟨pcW_blind, pcW_at hPc hKc hDc hN⟩ rfl rfl hl.1 rfl (lv_room (Nat.le_of_ble_eq_true rfl)) dX3_resize_7 ⟨Nat.le_of_ble_eq_true rfl, Nat.le_of_ble_eq_true rfl⟩) hS (fun q h1 h2 => absurd h2 (Nat.not_le.mpr h1)) (fun q h => hA q (Nat.le_trans hS.1 h)) (fun r_2 u t H1 locs ht hvm hw_2 hB hz1 hk1 hS => ?_)
  have hP := keepP hP hk1
  clear hz1 hk1 hB ht hvm hPc hDc hKc
  generalize H1 = H at hP hS ⊢
  rcases fx_bool hw_2 with ⟨rfl, b_3⟩ | ⟨rfl, b_3⟩
  · skip
    refine lv_if_eq (tgt := 20) hx hb dX3_resize_10 (by decide) (fun h => absurd h (by decide)) (fun _ => ?_)
    refine lv_aload_n hx hb dX3_resize_13 rfl (lv_at hl 1 rfl) ?_
    refine va_get (D := (dC, dI)) (ci := 3) (v := .ref a0) (C := RX3) (T := TX3) (N := 6) hx hb hts inB_3 hown hK hP 0 rfl rfl 0 (by decide) (hts _ mw_1_149) (fun _ h9 => h9) rfl dX3_resize_14 ?_
    refine lv_iload_n hx hb dX3_resize_17 rfl (lv_at hl 2 rfl) ?_
    refine lv_iload_n hx hb dX3_resize_18 rfl (lv_at hl 3 rfl) ?_
    refine va_iast hx hb hK hP hD hS 1 0 rfl rfl (show vp_in n 4 from fx_in (by omega) (by omega)) dX3_resize_19 (fun H locs hP hD hS => ?_)
    have hP : va_P (dC, dI) vwCl [(h0, .inr (3, [.ref a0, w1, w2, w3, .int 0, .int 0])), (a0, .inl (ka0, 4, .inl (upd (slF 1 0 4) (Int32.toNatClampNeg n) v)))] H := hP
    have hD : va_D A [(h0, .inr (3, [.ref a0, w1, w2, w3, .int 0, .int 0])), (a0, .inl (ka0, 4, .inl (upd (slF 1 0 4) (Int32.toNatClampNeg n) v)))] := hD
    refine lv_iload_n hx hb dX3_resize_20 rfl (lv_at hl 0 rfl) ?_
    exact W.iret (v := 1) hx hb hr (fun t ht hW => ⟨⟨1, (), rfl, rfl, trivial⟩, hS.F ht⟩) hS.2.2 dX3_resize_21
  · skip
    refine lv_if_eq (tgt := 20) hx hb dX3_resize_10 (by decide) (fun _ => ?_) (fun h => absurd (by decide) h)
    refine lv_iload_n hx hb dX3_resize_20 rfl (lv_at hl 0 rfl) ?_
    exact W.iret (v := 1) hx hb hr (fun t ht hW => ⟨⟨1, (), rfl, rfl, trivial⟩, hS.F ht⟩) hS.2.2 dX3_resize_21
set_option maxHeartbeats 4000000 in
set_option maxRecDepth 100000 in
theorem c_callsAt (l : Launch) (dC : Nat → ClassId) (dI : Nat → Nat → Nat) (sz : Nat) (h0 : Nat) (w0 : Value) (w1 : Value) (w2 : Value) (w3 : Value) (n : Int32)  : Met l yX3_callsAt (wq yX3_callsAt cX3_callsAt 4 (some .int)) ({ frames := 0, cells := 0, slots := 0, locals := 0 }) (va_Pc [.ref h0, .int n] (pcW dC dI [] [(h0, .inr (3, [w0, w1, w2, w3, .int 0, .int 0]))] sz)) (va_Qi (fun (r : Int32) (_ : Unit) => r = 0) (fun _ _ => True) (fun q : Nat => sz ≤ q)) 0 0 (fun q : Nat => sz ≤ q) := by
  refine Met.ofW (cc := cX3_callsAt) (maxL := 4) (ret := (some .int)) (by decide) rfl ?_
  intro p e s m args below meth c s₁ B hml hv
  obtain ⟨rfl, hsz, hN, hP, hK, hD0⟩ := hv
  have hx := B.exec
  have hb := B.bytes
  have hr := B.returns
  have hts0 := atoms_spec (ws := (wq yX3_callsAt cX3_callsAt 4 (some .int))) B.pre
  have hts : ∀ w ∈ BG, w.before _ s = true := fun w h => hts0 w (List.mem_cons_of_mem _ h)
  have hown : s.vm.findClass RX3 = some m.cls := findClass_of_methodNamed B.named
  have hlocks := B.notSynchronized
  subst hsz
  have hA : ∀ q : Nat, s.heap.size ≤ q → (fun q : Nat => s.heap.size ≤ q) q := fun _ h => h
  have hD := hD0
  have hS : va_S (fun q : Nat => s.heap.size ≤ q) s.heap s.heap [] := va_S.rf
  have hP : va_P (dC, dI) vwCl [(h0, .inr (3, [w0, w1, w2, w3, .int 0, .int 0]))] s.heap := hP
  have hl := lv_entry ([.ref h0, .int n]) (n := 4) (Nat.le_of_ble_eq_true rfl)
  rw [lg_entry_eq]
  generalize (lg_sl ([.ref h0, .int n]) ++ List.replicate (4 - (lg_sl ([.ref h0, .int n])).length) Slot.unset).toArray = ls at hl ⊢
  have hl : lv_has ls 4 [(0, .ref h0), (1, .int n)] := hl
  skip
  refine lv_iconst (v := 0) hx hb dX3_callsAt_0 (by decide) ?_
  refine lv_istore_n (lv' := [(2, .int 0), (0, .ref h0), (1, .int n)]) hx hb dX3_callsAt_1 rfl hl (by decide) rfl (fun ls hl => ?_)
  refine lv_iconst (v := 0) hx hb dX3_callsAt_2 (by decide) ?_
  refine lv_istore_n (lv' := [(3, .int 0), (2, .int 0), (0, .ref h0), (1, .int n)]) hx hb dX3_callsAt_3 rfl hl (by decide) rfl (fun ls hl => ?_)
  refine lv_iload_n hx hb dX3_callsAt_4 rfl (lv_at hl 0 rfl) ?_
  refine lv_aload_n hx hb dX3_callsAt_5 rfl (lv_at hl 2 rfl) ?_
  refine va_get (D := (dC, dI)) (ci := 3) (v := .int 0) (C := RX3) (T := TX3) (N := 6) hx hb hts inB_3 hown hK hP 0 rfl rfl 4 (by decide) (hts _ mw_1_153) (fun _ h9 => h9) rfl dX3_callsAt_6 ?_
  refine lv_icmp_ge (tgt := 31) hx hb dX3_callsAt_9 (by decide) (fun _ => ?_) (fun h => absurd (by decide) h)
  refine lv_iload_n hx hb dX3_callsAt_31 rfl (lv_at hl 1 rfl) ?_
  exact W.iret (v := 0) hx hb hr (fun t ht hW => ⟨⟨0, (), rfl, rfl, trivial⟩, hS.F ht⟩) hS.2.2 dX3_callsAt_32
set_option maxHeartbeats 4000000 in
set_option maxRecDepth 100000 in
theorem c_hbs (l : Launch) (dC : Nat → ClassId) (dI : Nat → Nat → Nat) (sz : Nat) (h0 : Nat) (w0 : Value) (w1 : Value) (w2 : Value) (w3 : Value) (n : Int32) (v : Int32)  : Met l yX3_hitsBySize (wq yX3_hitsBySize cX3_hitsBySize 6 (some .int)) ({ frames := 0, cells := 0, slots := 0, locals := 0 }) (va_Pc [.ref h0, .int n, .int v] (pcW dC dI [] [(h0, .inr (3, [w0, w1, w2, w3, .int 0, .int 0]))] sz)) (va_Qi (fun (r : Int32) (_ : Unit) => r = 0) (fun _ t => va_P (dC, dI) vwCl [(h0, .inr (3, [w0, w1, w2, w3, .int 0, .int 0]))] t.heap ∧ va_K (dC, dI) vwCl [] t ∧ va_D (va_A [(h0, .inr (3, [w0, w1, w2, w3, .int 0, .int 0]))] sz) [(h0, .inr (3, [w0, w1, w2, w3, .int 0, .int 0]))]) (va_A [(h0, .inr (3, [w0, w1, w2, w3, .int 0, .int 0]))] sz)) 0 0 (va_A [(h0, .inr (3, [w0, w1, w2, w3, .int 0, .int 0]))] sz) := by
  refine Met.ofW (cc := cX3_hitsBySize) (maxL := 6) (ret := (some .int)) (by decide) rfl ?_
  intro p e s m args below meth c s₁ B hml hv
  obtain ⟨rfl, hsz, hN, hP, hK, hD0⟩ := hv
  have hx := B.exec
  have hb := B.bytes
  have hr := B.returns
  have hts0 := atoms_spec (ws := (wq yX3_hitsBySize cX3_hitsBySize 6 (some .int))) B.pre
  have hts : ∀ w ∈ BG, w.before _ s = true := fun w h => hts0 w (List.mem_cons_of_mem _ h)
  have hown : s.vm.findClass RX3 = some m.cls := findClass_of_methodNamed B.named
  have hlocks := B.notSynchronized
  subst hsz
  have hD := hD0.self (sz := s.heap.size)
  generalize hAe : va_A [(h0, .inr (3, [w0, w1, w2, w3, .int 0, .int 0]))] s.heap.size = A at hD ⊢
  have hA : ∀ q : Nat, s.heap.size ≤ q → A q := fun q h => by rw [← hAe]; exact Or.inr h
  have hS : va_S A s.heap s.heap [] := va_S.rf
  have hP : va_P (dC, dI) vwCl [(h0, .inr (3, [w0, w1, w2, w3, .int 0, .int 0]))] s.heap := hP
  have hl := lv_entry ([.ref h0, .int n, .int v]) (n := 6) (Nat.le_of_ble_eq_true rfl)
  rw [lg_entry_eq]
  generalize (lg_sl ([.ref h0, .int n, .int v]) ++ List.replicate (6 - (lg_sl ([.ref h0, .int n, .int v])).length) Slot.unset).toArray = ls at hl ⊢
  have hl : lv_has ls 6 [(0, .ref h0), (1, .int n), (2, .int v)] := hl
  skip
  refine lv_aload_n hx hb dX3_hitsBySize_0 rfl (lv_at hl 0 rfl) ?_
  refine lv_iconst (v := 0) hx hb dX3_hitsBySize_1 (by decide) ?_
  refine va_put (D := (dC, dI)) (ci := 3) (v := .int 0) (ty := .int) (C := RX3) (T := TX3) (N := 6) hx hb hts inB_3 tyX3 tyX3_ok nmX3 hown hK hP hD hS 0 rfl rfl 5 (by decide) (hts _ mw_1_154) (fun _ h9 => h9) rfl (by decide +kernel) rfl rfl (Nat.le_of_ble_eq_true rfl) dX3_hitsBySize_2 (fun H locs hP hD hS => ?_)
  have hP : va_P (dC, dI) vwCl [(h0, .inr (3, [w0, w1, w2, w3, .int 0, .int 0]))] H := hP
  have hD : va_D A [(h0, .inr (3, [w0, w1, w2, w3, .int 0, .int 0]))] := hD
  refine lv_iconst (v := 0) hx hb dX3_hitsBySize_5 (by decide) ?_
  refine lv_istore_n (lv' := [(3, .int 0), (0, .ref h0), (1, .int n), (2, .int v)]) hx hb dX3_hitsBySize_6 rfl hl (by decide) rfl (fun ls hl => ?_)
  refine lv_iconst (v := 0) hx hb dX3_hitsBySize_7 (by decide) ?_
  refine lv_istore (lv' := [(4, .int 0), (3, .int 0), (0, .ref h0), (1, .int n), (2, .int v)]) hx hb dX3_hitsBySize_8 hl (by decide) rfl (fun ls hl => ?_)
  refine lv_iload hx hb dX3_hitsBySize_10 (lv_at hl 0 rfl) ?_
  refine lv_aload_n hx hb dX3_hitsBySize_12 rfl (lv_at hl 2 rfl) ?_
  refine va_get (D := (dC, dI)) (ci := 3) (v := .int 0) (C := RX3) (T := TX3) (N := 6) hx hb hts inB_3 hown hK hP 0 rfl rfl 4 (by decide) (hts _ mw_1_153) (fun _ h9 => h9) rfl dX3_hitsBySize_13 ?_
  refine lv_icmp_ge (tgt := 118) hx hb dX3_hitsBySize_16 (by decide) (fun _ => ?_) (fun h => absurd (by decide) h)
  refine lv_iload_n hx hb dX3_hitsBySize_118 rfl (lv_at hl 1 rfl) ?_
  exact W.iret (v := 0) hx hb hr (fun t ht hW => ⟨⟨0, (), rfl, rfl, by rw [ht]; exact hP, va_K.moved hW.alike hK, hD⟩, hS.F ht⟩) hS.2.2 dX3_hitsBySize_119
set_option maxHeartbeats 4000000 in
set_option maxRecDepth 100000 in
theorem c_best (l : Launch) (dC : Nat → ClassId) (dI : Nat → Nat → Nat) (sz : Nat) (h0 : Nat) (a0 : Nat) (w1 : Value) (w2 : Value) (w3 : Value) (ka0 : ClassId) (n : Int32)  : Met l yX3_bestHits (wq yX3_bestHits cX3_bestHits 6 (some .int)) ({ frames := 2, cells := 0, slots := 0, locals := 41 }) (va_Pc [.ref h0, .int n] (pcW dC dI [(ka0, .int)] [(h0, .inr (3, [.ref a0, w1, w2, w3, .int 0, .int 0])), (a0, .inl (ka0, 4, .inl (slF 1 0 4)))] sz)) (va_Qi (fun (r : Int32) (_ : Unit) => r = 0) (fun _ _ => True) (fun q : Nat => sz ≤ q)) 0 0 (fun q : Nat => sz ≤ q) := by
  refine Met.ofW (cc := cX3_bestHits) (maxL := 6) (ret := (some .int)) (by decide) rfl ?_
  intro p e s m args below meth c s₁ B hml hv
  obtain ⟨rfl, hsz, hN, hP, hK, hD0⟩ := hv
  have hx := B.exec
  have hb := B.bytes
  have hr := B.returns
  have hts0 := atoms_spec (ws := (wq yX3_bestHits cX3_bestHits 6 (some .int))) B.pre
  have hts : ∀ w ∈ BG, w.before _ s = true := fun w h => hts0 w (List.mem_cons_of_mem _ h)
  have hown : s.vm.findClass RX3 = some m.cls := findClass_of_methodNamed B.named
  have hlocks := B.notSynchronized
  subst hsz
  have hA : ∀ q : Nat, s.heap.size ≤ q → (fun q : Nat => s.heap.size ≤ q) q := fun _ h => h
  have hD := hD0
  have hS : va_S (fun q : Nat => s.heap.size ≤ q) s.heap s.heap [] := va_S.rf
  have hP : va_P (dC, dI) vwCl [(h0, .inr (3, [.ref a0, w1, w2, w3, .int 0, .int 0])), (a0, .inl (ka0, 4, .inl (slF 1 0 4)))] s.heap := hP
  have hl := lv_entry ([.ref h0, .int n]) (n := 6) (Nat.le_of_ble_eq_true rfl)
  rw [lg_entry_eq]
  generalize (lg_sl ([.ref h0, .int n]) ++ List.replicate (6 - (lg_sl ([.ref h0, .int n])).length) Slot.unset).toArray = ls at hl ⊢
  have hl : lv_has ls 6 [(0, .ref h0), (1, .int n)] := hl
  skip
  refine lv_aload_n hx hb dX3_bestHits_0 rfl (lv_at hl 0 rfl) ?_
  refine lv_iload_n hx hb dX3_bestHits_1 rfl (lv_at hl 1 rfl) ?_
  have hPc := hP.sub (ws' := [(h0, .inr (3, [.ref a0, w1, w2, w3, .int 0, .int 0])), (a0, .inl (ka0, 4, .inl (slF 1 0 4)))]) [0, 1] rfl
  have hDc := hD.sub (ws' := [(h0, .inr (3, [.ref a0, w1, w2, w3, .int 0, .int 0])), (a0, .inl (ka0, 4, .inl (slF 1 0 4)))]) [0, 1] (by decide) rfl
  have hKc := hK.sub (tys' := [(ka0, .int)]) [0] rfl
  refine va_calli (va_runV (As := [.int n]) (rest := []) ⟨hx, hb, hml, hown, hts⟩ (c_sizeOf l dC dI s.heap.size h0 a0 (w1) (w2) (w3) ka0 n) (cwV 1 hts (gV mw_3_113 mw_3_114 mw_3_115 mw_1_8 mw_3_116) rfl rfl rfl (by decide +kernel) ⟨Nat.le_of_ble_eq_true rfl, Nat.le_of_ble_eq_true rfl⟩) ⟨pcW_blind, va_recv hKc hPc (ci := 3) (q0 := 0) rfl rfl, pcW_at hPc hKc hDc hN⟩ rfl rfl hl.1 rfl (lv_room (Nat.le_of_ble_eq_true rfl)) dX3_bestHits_2 ⟨Nat.le_of_ble_eq_true rfl, Nat.le_of_ble_eq_true rfl⟩) hS (fun q h1 h2 => absurd h2 (Nat.not_le.mpr h1)) (fun q h => hA q (Nat.le_trans hS.1 h)) (fun r_1 u t H1 locs ht hvm hw_1 hB hz1 hk1 hS => ?_)
  have hP := keepP hP hk1
  clear hz1 hk1 hB ht hvm hPc hDc hKc
  generalize H1 = H at hP hS ⊢
  obtain rfl : r_1 = 1 := hw_1
  refine lv_istore_n (lv' := [(2, .int 1), (0, .ref h0), (1, .int n)]) hx hb dX3_bestHits_5 rfl hl (by decide) rfl (fun ls hl => ?_)
  refine lv_iconst (v := 0) hx hb dX3_bestHits_6 (by decide) ?_
  refine lv_istore_n (lv' := [(3, .int 0), (2, .int 1), (0, .ref h0), (1, .int n)]) hx hb dX3_bestHits_7 rfl hl (by decide) rfl (fun ls hl => ?_)
  refine lv_iconst (v := 0) hx hb dX3_bestHits_8 (by decide) ?_
  refine lv_istore (lv' := [(4, .int 0), (3, .int 0), (2, .int 1), (0, .ref h0), (1, .int n)]) hx hb dX3_bestHits_9 hl (by decide) rfl (fun ls hl => ?_)
  refine lv_iconst (v := 0) hx hb dX3_bestHits_11 (by decide) ?_
  refine lv_istore (lv' := [(5, .int 0), (4, .int 0), (3, .int 0), (2, .int 1), (0, .ref h0), (1, .int n)]) hx hb dX3_bestHits_12 hl (by decide) rfl (fun ls hl => ?_)
  refine lv_iload hx hb dX3_bestHits_14 (lv_at hl 0 rfl) ?_
  refine lv_aload_n hx hb dX3_bestHits_16 rfl (lv_at hl 4 rfl) ?_
  refine va_get (D := (dC, dI)) (ci := 3) (v := .int 0) (C := RX3) (T := TX3) (N := 6) hx hb hts inB_3 hown hK hP 0 rfl rfl 4 (by decide) (hts _ mw_1_153) (fun _ h9 => h9) rfl dX3_bestHits_17 ?_
  refine lv_icmp_ge (tgt := 98) hx hb dX3_bestHits_20 (by decide) (fun _ => ?_) (fun h => absurd (by decide) h)
  refine lv_iload hx hb dX3_bestHits_98 (lv_at hl 1 rfl) ?_
  exact W.iret (v := 0) hx hb hr (fun t ht hW => ⟨⟨0, (), rfl, rfl, trivial⟩, hS.F ht⟩) hS.2.2 dX3_bestHits_100
set_option maxHeartbeats 4000000 in
set_option maxRecDepth 100000 in
theorem c_latest (l : Launch) (dC : Nat → ClassId) (dI : Nat → Nat → Nat) (sz : Nat) (h0 : Nat) (w0 : Value) (w1 : Value) (w2 : Value) (w3 : Value) (n : Int32)  : Met l yX3_latest (wq yX3_latest cX3_latest 2 (some .int)) ({ frames := 0, cells := 0, slots := 0, locals := 0 }) (va_Pc [.ref h0, .int n] (pcW dC dI [] [(h0, .inr (3, [w0, w1, w2, w3, .int 0, .int 0]))] sz)) (va_Qi (fun (r : Int32) (_ : Unit) => r = (-6)) (fun _ _ => True) (fun q : Nat => sz ≤ q)) 0 0 (fun q : Nat => sz ≤ q) := by
  refine Met.ofW (cc := cX3_latest) (maxL := 2) (ret := (some .int)) (by decide) rfl ?_
  intro p e s m args below meth c s₁ B hml hv
  obtain ⟨rfl, hsz, hN, hP, hK, hD0⟩ := hv
  have hx := B.exec
  have hb := B.bytes
  have hr := B.returns
  have hts0 := atoms_spec (ws := (wq yX3_latest cX3_latest 2 (some .int))) B.pre
  have hts : ∀ w ∈ BG, w.before _ s = true := fun w h => hts0 w (List.mem_cons_of_mem _ h)
  have hown : s.vm.findClass RX3 = some m.cls := findClass_of_methodNamed B.named
  have hlocks := B.notSynchronized
  subst hsz
  have hA : ∀ q : Nat, s.heap.size ≤ q → (fun q : Nat => s.heap.size ≤ q) q := fun _ h => h
  have hD := hD0
  have hS : va_S (fun q : Nat => s.heap.size ≤ q) s.heap s.heap [] := va_S.rf
  have hP : va_P (dC, dI) vwCl [(h0, .inr (3, [w0, w1, w2, w3, .int 0, .int 0]))] s.heap := hP
  have hl := lv_entry ([.ref h0, .int n]) (n := 2) (Nat.le_of_ble_eq_true rfl)
  rw [lg_entry_eq]
  generalize (lg_sl ([.ref h0, .int n]) ++ List.replicate (2 - (lg_sl ([.ref h0, .int n])).length) Slot.unset).toArray = ls at hl ⊢
  have hl : lv_has ls 2 [(0, .ref h0), (1, .int n)] := hl
  skip
  refine lv_iload_n hx hb dX3_latest_0 rfl (lv_at hl 1 rfl) ?_
  refine lv_if_lt (tgt := 26) hx hb dX3_latest_1 (by decide) (fun c_1 => ?_) (fun c_1 => ?_)
  · have b_2 := fx_lt (x := n) (C := 0) (by decide) c_1
    refine lv_bipush (v := (-6)) hx hb dX3_latest_26 (by decide) ?_
    exact W.iret (v := (-6)) hx hb hr (fun t ht hW => ⟨⟨(-6), (), rfl, rfl, trivial⟩, hS.F ht⟩) hS.2.2 dX3_latest_28
  · have b_2 := fn_lt (x := n) (C := 0) (by decide) c_1
    refine lv_iload_n hx hb dX3_latest_4 rfl (lv_at hl 1 rfl) ?_
    refine lv_aload_n hx hb dX3_latest_5 rfl (lv_at hl 0 rfl) ?_
    refine va_get (D := (dC, dI)) (ci := 3) (v := .int 0) (C := RX3) (T := TX3) (N := 6) hx hb hts inB_3 hown hK hP 0 rfl rfl 5 (by decide) (hts _ mw_1_154) (fun _ h9 => h9) rfl dX3_latest_6 ?_
    refine lv_icmp_ge (tgt := 26) hx hb dX3_latest_9 (by decide) (fun _ => ?_) (fun h => absurd (fn_ge (x := n) (C := 0) (by decide) h) (by omega))
    refine lv_bipush (v := (-6)) hx hb dX3_latest_26 (by decide) ?_
    exact W.iret (v := (-6)) hx hb hr (fun t ht hW => ⟨⟨(-6), (), rfl, rfl, trivial⟩, hS.F ht⟩) hS.2.2 dX3_latest_28
set_option maxHeartbeats 4000000 in
set_option maxRecDepth 100000 in
theorem c_plHow (l : Launch) (dC : Nat → ClassId) (dI : Nat → Nat → Nat) (sz : Nat) (h0 : Nat) (w0 : Value) (w1 : Value) (w2 : Value) (w3 : Value)  : Met l yX3_howMany (wq yX3_howMany cX3_howMany 1 (some .int)) ({ frames := 0, cells := 0, slots := 0, locals := 0 }) (va_Pc [.ref h0] (pcW dC dI [] [(h0, .inr (3, [w0, w1, w2, w3, .int 0, .int 0]))] sz)) (va_Qi (fun (r : Int32) (_ : Unit) => r = 0) (fun _ _ => True) (fun q : Nat => sz ≤ q)) 0 0 (fun q : Nat => sz ≤ q) := by
  refine Met.ofW (cc := cX3_howMany) (maxL := 1) (ret := (some .int)) (by decide) rfl ?_
  intro p e s m args below meth c s₁ B hml hv
  obtain ⟨rfl, hsz, hN, hP, hK, hD0⟩ := hv
  have hx := B.exec
  have hb := B.bytes
  have hr := B.returns
  have hts0 := atoms_spec (ws := (wq yX3_howMany cX3_howMany 1 (some .int))) B.pre
  have hts : ∀ w ∈ BG, w.before _ s = true := fun w h => hts0 w (List.mem_cons_of_mem _ h)
  have hown : s.vm.findClass RX3 = some m.cls := findClass_of_methodNamed B.named
  have hlocks := B.notSynchronized
  subst hsz
  have hA : ∀ q : Nat, s.heap.size ≤ q → (fun q : Nat => s.heap.size ≤ q) q := fun _ h => h
  have hD := hD0
  have hS : va_S (fun q : Nat => s.heap.size ≤ q) s.heap s.heap [] := va_S.rf
  have hP : va_P (dC, dI) vwCl [(h0, .inr (3, [w0, w1, w2, w3, .int 0, .int 0]))] s.heap := hP
  have hl := lv_entry ([.ref h0]) (n := 1) (Nat.le_of_ble_eq_true rfl)
  rw [lg_entry_eq]
  generalize (lg_sl ([.ref h0]) ++ List.replicate (1 - (lg_sl ([.ref h0])).length) Slot.unset).toArray = ls at hl ⊢
  have hl : lv_has ls 1 [(0, .ref h0)] := hl
  skip
  refine lv_aload_n hx hb dX3_howMany_0 rfl (lv_at hl 0 rfl) ?_
  refine va_get (D := (dC, dI)) (ci := 3) (v := .int 0) (C := RX3) (T := TX3) (N := 6) hx hb hts inB_3 hown hK hP 0 rfl rfl 4 (by decide) (hts _ mw_1_153) (fun _ h9 => h9) rfl dX3_howMany_1 ?_
  exact W.iret (v := 0) hx hb hr (fun t ht hW => ⟨⟨0, (), rfl, rfl, trivial⟩, hS.F ht⟩) hS.2.2 dX3_howMany_4
set_option maxHeartbeats 4000000 in
set_option maxRecDepth 100000 in
theorem c_plClear (l : Launch) (dC : Nat → ClassId) (dI : Nat → Nat → Nat) (sz : Nat) (h0 : Nat) (w0 : Value) (w1 : Value) (w2 : Value) (w3 : Value)  : Met l yX3_clear (wq yX3_clear cX3_clear 2 (some .int)) ({ frames := 0, cells := 0, slots := 0, locals := 0 }) (va_Pc [.ref h0] (pcW dC dI [] [(h0, .inr (3, [w0, w1, w2, w3, .int 0, .int 0]))] sz)) (va_Qi (fun (r : Int32) (_ : Unit) => r = 0) (fun _ _ => True) (va_A [(h0, .inr (3, [w0, w1, w2, w3, .int 0, .int 0]))] sz)) 0 0 (va_A [(h0, .inr (3, [w0, w1, w2, w3, .int 0, .int 0]))] sz) := by
  refine Met.ofW (cc := cX3_clear) (maxL := 2) (ret := (some .int)) (by decide) rfl ?_
  intro p e s m args below meth c s₁ B hml hv
  obtain ⟨rfl, hsz, hN, hP, hK, hD0⟩ := hv
  have hx := B.exec
  have hb := B.bytes
  have hr := B.returns
  have hts0 := atoms_spec (ws := (wq yX3_clear cX3_clear 2 (some .int))) B.pre
  have hts : ∀ w ∈ BG, w.before _ s = true := fun w h => hts0 w (List.mem_cons_of_mem _ h)
  have hown : s.vm.findClass RX3 = some m.cls := findClass_of_methodNamed B.named
  have hlocks := B.notSynchronized
  subst hsz
  have hD := hD0.self (sz := s.heap.size)
  generalize hAe : va_A [(h0, .inr (3, [w0, w1, w2, w3, .int 0, .int 0]))] s.heap.size = A at hD ⊢
  have hA : ∀ q : Nat, s.heap.size ≤ q → A q := fun q h => by rw [← hAe]; exact Or.inr h
  have hS : va_S A s.heap s.heap [] := va_S.rf
  have hP : va_P (dC, dI) vwCl [(h0, .inr (3, [w0, w1, w2, w3, .int 0, .int 0]))] s.heap := hP
  have hl := lv_entry ([.ref h0]) (n := 2) (Nat.le_of_ble_eq_true rfl)
  rw [lg_entry_eq]
  generalize (lg_sl ([.ref h0]) ++ List.replicate (2 - (lg_sl ([.ref h0])).length) Slot.unset).toArray = ls at hl ⊢
  have hl : lv_has ls 2 [(0, .ref h0)] := hl
  skip
  refine lv_aload_n hx hb dX3_clear_0 rfl (lv_at hl 0 rfl) ?_
  refine va_get (D := (dC, dI)) (ci := 3) (v := .int 0) (C := RX3) (T := TX3) (N := 6) hx hb hts inB_3 hown hK hP 0 rfl rfl 4 (by decide) (hts _ mw_1_153) (fun _ h9 => h9) rfl dX3_clear_1 ?_
  refine lv_istore_n (lv' := [(1, .int 0), (0, .ref h0)]) hx hb dX3_clear_4 rfl hl (by decide) rfl (fun ls hl => ?_)
  refine lv_aload_n hx hb dX3_clear_5 rfl (lv_at hl 1 rfl) ?_
  refine lv_iconst (v := 0) hx hb dX3_clear_6 (by decide) ?_
  refine va_put (D := (dC, dI)) (ci := 3) (v := .int 0) (ty := .int) (C := RX3) (T := TX3) (N := 6) hx hb hts inB_3 tyX3 tyX3_ok nmX3 hown hK hP hD hS 0 rfl rfl 4 (by decide) (hts _ mw_1_153) (fun _ h9 => h9) rfl (by decide +kernel) rfl rfl (Nat.le_of_ble_eq_true rfl) dX3_clear_7 (fun H locs hP hD hS => ?_)
  have hP : va_P (dC, dI) vwCl [(h0, .inr (3, [w0, w1, w2, w3, .int 0, .int 0]))] H := hP
  have hD : va_D A [(h0, .inr (3, [w0, w1, w2, w3, .int 0, .int 0]))] := hD
  refine lv_iload_n hx hb dX3_clear_10 rfl (lv_at hl 0 rfl) ?_
  exact W.iret (v := 0) hx hb hr (fun t ht hW => ⟨⟨0, (), rfl, rfl, trivial⟩, hS.F ht⟩) hS.2.2 dX3_clear_11
