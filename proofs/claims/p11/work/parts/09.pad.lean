theorem mw_1_80 : Cond.laysFinal RX2 "AnswerLines$Pad" "signs" "[C" ∈ BG := mB (t1 (i := 80) (by decide +kernel)) (by decide +kernel)
theorem mw_1_82 : Cond.lays RX2 "AnswerLines$Pad" "count" "I" ∈ BG := mB (t1 (i := 82) (by decide +kernel)) (by decide +kernel)
theorem inB_2 : ∀ w ∈ u_ws RX2 TX2 2, w ∈ BG := fun w hw => by
  obtain ⟨k, hk, rfl⟩ := List.mem_map.mp hw
  have hk := List.mem_range.mp hk
  rcases (by omega : k = 0 ∨ k = 1) with rfl | rfl
  · exact mw_1_80
  · exact mw_1_82
theorem mw_1_79 : Cond.fieldLink RX2 15 "AnswerLines$Pad" "count" "I" ∈ BG := mB (t1 (i := 79) (by decide +kernel)) (by decide +kernel)
theorem mw_2_68 : Cond.code yX2_isFull cX2_isFull 1 (some .boolean) ∈ BG := mB (t2 (i := 68) rfl) (by decide +kernel)
theorem mw_2_73 : Cond.methodLink RX2 19 yX2_isFull ∈ BG := mB (t2 (i := 73) (by decide +kernel)) (by decide +kernel)
theorem mw_2_66 : Cond.instanceMethod yX2_isFull ∈ BG := mB (t2 (i := 66) (by decide +kernel)) (by decide +kernel)
theorem mw_2_67 : Cond.selects RX2 yX2_isFull yX2_isFull ∈ BG := mB (t2 (i := 67) (by decide +kernel)) (by decide +kernel)
theorem mw_1_4 : Cond.initialized RX2 ∈ BG := mB (t1 (i := 4) (by decide +kernel)) (by decide +kernel)
theorem mw_1_78 : Cond.fieldLink RX2 9 "AnswerLines$Pad" "signs" "[C" ∈ BG := mB (t1 (i := 78) (by decide +kernel)) (by decide +kernel)
theorem mw_2_92 : Cond.code yX2_canStand cX2_canStand 1 (some .boolean) ∈ BG := mB (t2 (i := 92) rfl) (by decide +kernel)
theorem mw_2_90 : Cond.methodLink RX2 23 yX2_canStand ∈ BG := mB (t2 (i := 90) (by decide +kernel)) (by decide +kernel)
theorem mw_2_91 : Cond.static yX2_canStand ∈ BG := mB (t2 (i := 91) (by decide +kernel)) (by decide +kernel)
theorem dX2_isFull_0 : decode cX2_isFull 0 = .ok (.aload_n 0, 1) := by decide +kernel
theorem dX2_isFull_1 : decode cX2_isFull 1 = .ok (.getfield 15, 3) := by decide +kernel
theorem dX2_isFull_4 : decode cX2_isFull 4 = .ok (.bipush 12, 2) := by decide +kernel
theorem dX2_isFull_6 : decode cX2_isFull 6 = .ok (.if_icmp .lt 7, 3) := by decide +kernel
theorem dX2_isFull_13 : decode cX2_isFull 13 = .ok (.iconst 0, 1) := by decide +kernel
theorem dX2_isFull_14 : decode cX2_isFull 14 = .ok (.ireturn, 1) := by decide +kernel
theorem dX2_isFull_9 : decode cX2_isFull 9 = .ok (.iconst 1, 1) := by decide +kernel
theorem dX2_isFull_10 : decode cX2_isFull 10 = .ok (.goto 4, 3) := by decide +kernel
theorem dX2_length_0 : decode cX2_length 0 = .ok (.aload_n 0, 1) := by decide +kernel
theorem dX2_length_1 : decode cX2_length 1 = .ok (.getfield 15, 3) := by decide +kernel
theorem dX2_length_4 : decode cX2_length 4 = .ok (.ireturn, 1) := by decide +kernel
theorem dX2_put_0 : decode cX2_put 0 = .ok (.aload_n 0, 1) := by decide +kernel
theorem dX2_put_1 : decode cX2_put 1 = .ok (.invokevirtual 19, 3) := by decide +kernel
theorem dX2_put_4 : decode cX2_put 4 = .ok (.ifCond .eq 6, 3) := by decide +kernel
theorem dX2_put_10 : decode cX2_put 10 = .ok (.aload_n 0, 1) := by decide +kernel
theorem dX2_put_11 : decode cX2_put 11 = .ok (.getfield 9, 3) := by decide +kernel
theorem dX2_put_14 : decode cX2_put 14 = .ok (.aload_n 0, 1) := by decide +kernel
theorem dX2_put_15 : decode cX2_put 15 = .ok (.getfield 15, 3) := by decide +kernel
theorem dX2_put_18 : decode cX2_put 18 = .ok (.iload_n 1, 1) := by decide +kernel
theorem dX2_put_19 : decode cX2_put 19 = .ok (.i2c, 1) := by decide +kernel
theorem dX2_put_20 : decode cX2_put 20 = .ok (.castore, 1) := by decide +kernel
theorem dX2_put_21 : decode cX2_put 21 = .ok (.aload_n 0, 1) := by decide +kernel
theorem dX2_put_22 : decode cX2_put 22 = .ok (.dup, 1) := by decide +kernel
theorem dX2_put_23 : decode cX2_put 23 = .ok (.getfield 15, 3) := by decide +kernel
theorem dX2_put_26 : decode cX2_put 26 = .ok (.iconst 1, 1) := by decide +kernel
theorem dX2_put_27 : decode cX2_put 27 = .ok (.iadd, 1) := by decide +kernel
theorem dX2_put_28 : decode cX2_put 28 = .ok (.putfield 15, 3) := by decide +kernel
theorem dX2_put_31 : decode cX2_put 31 = .ok (.aload_n 0, 1) := by decide +kernel
theorem dX2_put_32 : decode cX2_put 32 = .ok (.getfield 15, 3) := by decide +kernel
theorem dX2_put_35 : decode cX2_put 35 = .ok (.ireturn, 1) := by decide +kernel
theorem dX2_empty_0 : decode cX2_empty 0 = .ok (.aload_n 0, 1) := by decide +kernel
theorem dX2_empty_1 : decode cX2_empty 1 = .ok (.getfield 15, 3) := by decide +kernel
theorem dX2_empty_4 : decode cX2_empty 4 = .ok (.istore_n 1, 1) := by decide +kernel
theorem dX2_empty_5 : decode cX2_empty 5 = .ok (.aload_n 0, 1) := by decide +kernel
theorem dX2_empty_6 : decode cX2_empty 6 = .ok (.iconst 0, 1) := by decide +kernel
theorem dX2_empty_7 : decode cX2_empty 7 = .ok (.putfield 15, 3) := by decide +kernel
theorem dX2_empty_10 : decode cX2_empty 10 = .ok (.iload_n 1, 1) := by decide +kernel
theorem dX2_empty_11 : decode cX2_empty 11 = .ok (.ireturn, 1) := by decide +kernel
theorem dX2_sign_0 : decode cX2_sign 0 = .ok (.iload_n 1, 1) := by decide +kernel
theorem dX2_sign_1 : decode cX2_sign 1 = .ok (.ifCond .lt 20, 3) := by decide +kernel
theorem dX2_sign_4 : decode cX2_sign 4 = .ok (.iload_n 1, 1) := by decide +kernel
theorem dX2_sign_5 : decode cX2_sign 5 = .ok (.aload_n 0, 1) := by decide +kernel
theorem dX2_sign_6 : decode cX2_sign 6 = .ok (.getfield 15, 3) := by decide +kernel
theorem dX2_sign_9 : decode cX2_sign 9 = .ok (.if_icmp .ge 12, 3) := by decide +kernel
theorem dX2_sign_12 : decode cX2_sign 12 = .ok (.aload_n 0, 1) := by decide +kernel
theorem dX2_sign_13 : decode cX2_sign 13 = .ok (.getfield 9, 3) := by decide +kernel
theorem dX2_sign_16 : decode cX2_sign 16 = .ok (.iload_n 1, 1) := by decide +kernel
theorem dX2_sign_17 : decode cX2_sign 17 = .ok (.caload, 1) := by decide +kernel
theorem dX2_sign_18 : decode cX2_sign 18 = .ok (.goto 4, 3) := by decide +kernel
theorem dX2_sign_22 : decode cX2_sign 22 = .ok (.ireturn, 1) := by decide +kernel
theorem dX2_canStand_0 : decode cX2_canStand 0 = .ok (.iload_n 0, 1) := by decide +kernel
theorem dX2_canStand_1 : decode cX2_canStand 1 = .ok (.bipush 48, 2) := by decide +kernel
theorem dX2_canStand_3 : decode cX2_canStand 3 = .ok (.if_icmp .lt 9, 3) := by decide +kernel
theorem dX2_canStand_12 : decode cX2_canStand 12 = .ok (.iload_n 0, 1) := by decide +kernel
theorem dX2_canStand_13 : decode cX2_canStand 13 = .ok (.bipush 97, 2) := by decide +kernel
theorem dX2_canStand_15 : decode cX2_canStand 15 = .ok (.if_icmp .lt 9, 3) := by decide +kernel
theorem dX2_canStand_24 : decode cX2_canStand 24 = .ok (.iload_n 0, 1) := by decide +kernel
theorem dX2_canStand_25 : decode cX2_canStand 25 = .ok (.bipush 94, 2) := by decide +kernel
theorem dX2_canStand_27 : decode cX2_canStand 27 = .ok (.if_icmp .ne 7, 3) := by decide +kernel
theorem dX2_canStand_34 : decode cX2_canStand 34 = .ok (.iconst 0, 1) := by decide +kernel
theorem dX2_canStand_35 : decode cX2_canStand 35 = .ok (.ireturn, 1) := by decide +kernel
theorem dX2_canStand_6 : decode cX2_canStand 6 = .ok (.iload_n 0, 1) := by decide +kernel
theorem dX2_canStand_7 : decode cX2_canStand 7 = .ok (.bipush 57, 2) := by decide +kernel
theorem dX2_canStand_9 : decode cX2_canStand 9 = .ok (.if_icmp .le 21, 3) := by decide +kernel
theorem dX2_canStand_30 : decode cX2_canStand 30 = .ok (.iconst 1, 1) := by decide +kernel
theorem dX2_canStand_31 : decode cX2_canStand 31 = .ok (.goto 4, 3) := by decide +kernel
theorem dX2_canStand_18 : decode cX2_canStand 18 = .ok (.iload_n 0, 1) := by decide +kernel
theorem dX2_canStand_19 : decode cX2_canStand 19 = .ok (.bipush 104, 2) := by decide +kernel
theorem dX2_canStand_21 : decode cX2_canStand 21 = .ok (.if_icmp .le 9, 3) := by decide +kernel
theorem dX2_firstFault_0 : decode cX2_firstFault 0 = .ok (.iconst 0, 1) := by decide +kernel
theorem dX2_firstFault_1 : decode cX2_firstFault 1 = .ok (.istore_n 1, 1) := by decide +kernel
theorem dX2_firstFault_2 : decode cX2_firstFault 2 = .ok (.iload_n 1, 1) := by decide +kernel
theorem dX2_firstFault_3 : decode cX2_firstFault 3 = .ok (.aload_n 0, 1) := by decide +kernel
theorem dX2_firstFault_4 : decode cX2_firstFault 4 = .ok (.getfield 15, 3) := by decide +kernel
theorem dX2_firstFault_7 : decode cX2_firstFault 7 = .ok (.if_icmp .ge 23, 3) := by decide +kernel
theorem dX2_firstFault_30 : decode cX2_firstFault 30 = .ok (.bipush (-6), 2) := by decide +kernel
theorem dX2_firstFault_32 : decode cX2_firstFault 32 = .ok (.ireturn, 1) := by decide +kernel
theorem dX2_firstFault_10 : decode cX2_firstFault 10 = .ok (.aload_n 0, 1) := by decide +kernel
theorem dX2_firstFault_11 : decode cX2_firstFault 11 = .ok (.getfield 9, 3) := by decide +kernel
theorem dX2_firstFault_14 : decode cX2_firstFault 14 = .ok (.iload_n 1, 1) := by decide +kernel
theorem dX2_firstFault_15 : decode cX2_firstFault 15 = .ok (.caload, 1) := by decide +kernel
theorem dX2_firstFault_16 : decode cX2_firstFault 16 = .ok (.invokestatic 23, 3) := by decide +kernel
theorem dX2_firstFault_19 : decode cX2_firstFault 19 = .ok (.ifCond .ne 5, 3) := by decide +kernel
theorem dX2_firstFault_24 : decode cX2_firstFault 24 = .ok (.iinc 1 1, 3) := by decide +kernel
theorem dX2_firstFault_27 : decode cX2_firstFault 27 = .ok (.goto (-25), 3) := by decide +kernel
theorem dX2_firstFault_22 : decode cX2_firstFault 22 = .ok (.iload_n 1, 1) := by decide +kernel
theorem dX2_firstFault_23 : decode cX2_firstFault 23 = .ok (.ireturn, 1) := by decide +kernel
set_option maxHeartbeats 4000000 in
set_option maxRecDepth 100000 in
theorem c_pFull (l : Launch) (dC : Nat → ClassId) (dI : Nat → Nat → Nat) (sz : Nat) (h0 : Nat) (w0 : Value) (pn : Nat) (hpn : pn ≤ 12) : Met l yX2_isFull (wq yX2_isFull cX2_isFull 1 (some .boolean)) ({ frames := 0, cells := 0, slots := 0, locals := 0 }) (va_Pc [.ref h0] (pcW dC dI [] [(h0, .inr (2, [w0, .int (nI pn)]))] sz)) (va_Qi (fun (r : Int32) (_ : Unit) => r = (if 12 ≤ pn then 1 else 0)) (fun _ _ => True) (fun q : Nat => sz ≤ q)) 0 0 (fun q : Nat => sz ≤ q) := by
  refine Met.ofW (cc := cX2_isFull) (maxL := 1) (ret := (some .boolean)) (by decide) rfl ?_
  intro p e s m args below meth c s₁ B hml hv
  obtain ⟨rfl, hsz, hN, hP, hK, hD0⟩ := hv
  have hx := B.exec
  have hb := B.bytes
  have hr := B.returns
  have hts0 := atoms_spec (ws := (wq yX2_isFull cX2_isFull 1 (some .boolean))) B.pre
  have hts : ∀ w ∈ BG, w.before _ s = true := fun w h => hts0 w (List.mem_cons_of_mem _ h)
  have hown : s.vm.findClass RX2 = some m.cls := findClass_of_methodNamed B.named
  have hlocks := B.notSynchronized
  subst hsz
  have hA : ∀ q : Nat, s.heap.size ≤ q → (fun q : Nat => s.heap.size ≤ q) q := fun _ h => h
  have hD := hD0
  have hS : va_S (fun q : Nat => s.heap.size ≤ q) s.heap s.heap [] := va_S.rf
  have hP : va_P (dC, dI) vwCl [(h0, .inr (2, [w0, .int (nI pn)]))] s.heap := hP
  have hl := lv_entry ([.ref h0]) (n := 1) (Nat.le_of_ble_eq_true rfl)
  rw [lg_entry_eq]
  generalize (lg_sl ([.ref h0]) ++ List.replicate (1 - (lg_sl ([.ref h0])).length) Slot.unset).toArray = ls at hl ⊢
  have hl : lv_has ls 1 [(0, .ref h0)] := hl
  refine lv_aload_n hx hb dX2_isFull_0 rfl (lv_at hl 0 rfl) ?_
  refine va_get (D := (dC, dI)) (ci := 2) (v := .int (nI pn)) (C := RX2) (T := TX2) (N := 2) hx hb hts inB_2 hown hK hP 0 rfl rfl 1 (by decide) (hts _ mw_1_79) (fun _ h9 => h9) rfl dX2_isFull_1 ?_
  refine lv_bipush (v := 12) hx hb dX2_isFull_4 (by decide) ?_
  refine lv_icmp_lt (tgt := 13) hx hb dX2_isFull_6 (by decide) (fun c_1 => ?_) (fun c_1 => ?_)
  · have b_2 := gx_lt (X := ((pn : Nat) : Int)) (C := 12) (nI_toInt (by omega)) (by decide) c_1
    refine lv_iconst (v := 0) hx hb dX2_isFull_13 (by decide) ?_
    exact W.zret (v := 0) hx hb hr (by decide) (fun t ht hW => ⟨⟨0, (), rfl, (by first | exact (if_pos (by omega)).symm | exact (if_neg (by omega)).symm), trivial⟩, hS.F ht⟩) hS.2.2 dX2_isFull_14
  · have b_2 := gn_lt (X := ((pn : Nat) : Int)) (C := 12) (nI_toInt (by omega)) (by decide) c_1
    refine lv_iconst (v := 1) hx hb dX2_isFull_9 (by decide) ?_
    refine lv_goto (tgt := 14) hx hb dX2_isFull_10 (by decide) ?_
    exact W.zret (v := 1) hx hb hr (by decide) (fun t ht hW => ⟨⟨1, (), rfl, (by first | exact (if_pos (by omega)).symm | exact (if_neg (by omega)).symm), trivial⟩, hS.F ht⟩) hS.2.2 dX2_isFull_14
set_option maxHeartbeats 4000000 in
set_option maxRecDepth 100000 in
theorem c_pLen (l : Launch) (dC : Nat → ClassId) (dI : Nat → Nat → Nat) (sz : Nat) (h0 : Nat) (w0 : Value) (pn : Nat)  : Met l yX2_length (wq yX2_length cX2_length 1 (some .int)) ({ frames := 0, cells := 0, slots := 0, locals := 0 }) (va_Pc [.ref h0] (pcW dC dI [] [(h0, .inr (2, [w0, .int (nI pn)]))] sz)) (va_Qi (fun (r : Int32) (_ : Unit) => r = nI pn) (fun _ _ => True) (fun q : Nat => sz ≤ q)) 0 0 (fun q : Nat => sz ≤ q) := by
  refine Met.ofW (cc := cX2_length) (maxL := 1) (ret := (some .int)) (by decide) rfl ?_
  intro p e s m args below meth c s₁ B hml hv
  obtain ⟨rfl, hsz, hN, hP, hK, hD0⟩ := hv
  have hx := B.exec
  have hb := B.bytes
  have hr := B.returns
  have hts0 := atoms_spec (ws := (wq yX2_length cX2_length 1 (some .int))) B.pre
  have hts : ∀ w ∈ BG, w.before _ s = true := fun w h => hts0 w (List.mem_cons_of_mem _ h)
  have hown : s.vm.findClass RX2 = some m.cls := findClass_of_methodNamed B.named
  have hlocks := B.notSynchronized
  subst hsz
  have hA : ∀ q : Nat, s.heap.size ≤ q → (fun q : Nat => s.heap.size ≤ q) q := fun _ h => h
  have hD := hD0
  have hS : va_S (fun q : Nat => s.heap.size ≤ q) s.heap s.heap [] := va_S.rf
  have hP : va_P (dC, dI) vwCl [(h0, .inr (2, [w0, .int (nI pn)]))] s.heap := hP
  have hl := lv_entry ([.ref h0]) (n := 1) (Nat.le_of_ble_eq_true rfl)
  rw [lg_entry_eq]
  generalize (lg_sl ([.ref h0]) ++ List.replicate (1 - (lg_sl ([.ref h0])).length) Slot.unset).toArray = ls at hl ⊢
  have hl : lv_has ls 1 [(0, .ref h0)] := hl
  refine lv_aload_n hx hb dX2_length_0 rfl (lv_at hl 0 rfl) ?_
  refine va_get (D := (dC, dI)) (ci := 2) (v := .int (nI pn)) (C := RX2) (T := TX2) (N := 2) hx hb hts inB_2 hown hK hP 0 rfl rfl 1 (by decide) (hts _ mw_1_79) (fun _ h9 => h9) rfl dX2_length_1 ?_
  exact W.iret (v := (nI pn)) hx hb hr (fun t ht hW => ⟨⟨(nI pn), (), rfl, rfl, trivial⟩, hS.F ht⟩) hS.2.2 dX2_length_4
set_option maxHeartbeats 4000000 in
set_option maxRecDepth 100000 in
theorem c_pPut (l : Launch) (dC : Nat → ClassId) (dI : Nat → Nat → Nat) (sz : Nat) (h0 : Nat) (d0 : Nat) (pn : Nat) (kd0 : ClassId) (fps : Nat → Int32) (n : Int32) (hp9 : pn < 12) (hch : ChOk fps) (hs9 : 33 ≤ Int32.toInt n ∧ Int32.toInt n ≤ 126) : Met l yX2_put (wq yX2_put cX2_put 2 (some .int)) ({ frames := 1, cells := 0, slots := 0, locals := 20 }) (va_Pc [.ref h0, .int n] (pcW dC dI [(kd0, .char)] [(h0, .inr (2, [.ref d0, .int (nI pn)])), (d0, .inl (kd0, 12, .inl fps))] sz)) (va_Qi (fun (r : Int32) (_ : Unit) => r = nI (pn + 1)) (fun _ t => ∃ (fps2 : Nat → Int32), (fps2 = upd fps pn n) ∧ (ChOk fps2) ∧ va_P (dC, dI) vwCl [(h0, .inr (2, [.ref d0, .int (nI (pn + 1))])), (d0, .inl (kd0, 12, .inl fps2))] t.heap ∧ va_K (dC, dI) vwCl [(kd0, .char)] t ∧ va_D (va_A [(h0, .inr (2, [.ref d0, .int (nI pn)])), (d0, .inl (kd0, 12, .inl fps))] sz) [(h0, .inr (2, [.ref d0, .int (nI (pn + 1))])), (d0, .inl (kd0, 12, .inl fps2))]) (va_A [(h0, .inr (2, [.ref d0, .int (nI pn)])), (d0, .inl (kd0, 12, .inl fps))] sz)) 0 0 (va_A [(h0, .inr (2, [.ref d0, .int (nI pn)])), (d0, .inl (kd0, 12, .inl fps))] sz) := by
  refine Met.ofW (cc := cX2_put) (maxL := 2) (ret := (some .int)) (by decide) rfl ?_
  intro p e s m args below meth c s₁ B hml hv
  obtain ⟨rfl, hsz, hN, hP, hK, hD0⟩ := hv
  have hx := B.exec
  have hb := B.bytes
  have hr := B.returns
  have hts0 := atoms_spec (ws := (wq yX2_put cX2_put 2 (some .int))) B.pre
  have hts : ∀ w ∈ BG, w.before _ s = true := fun w h => hts0 w (List.mem_cons_of_mem _ h)
  have hown : s.vm.findClass RX2 = some m.cls := findClass_of_methodNamed B.named
  have hlocks := B.notSynchronized
  subst hsz
  have hD := hD0.self (sz := s.heap.size)
  generalize hAe : va_A [(h0, .inr (2, [.ref d0, .int (nI pn)])), (d0, .inl (kd0, 12, .inl fps))] s.heap.size = A at hD ⊢
  have hA : ∀ q : Nat, s.heap.size ≤ q → A q := fun q h => by rw [← hAe]; exact Or.inr h
  have hS : va_S A s.heap s.heap [] := va_S.rf
  clear hAe hD0
  have hP : va_P (dC, dI) vwCl [(h0, .inr (2, [.ref d0, .int (nI pn)])), (d0, .inl (kd0, 12, .inl fps))] s.heap := hP
  have hl := lv_entry ([.ref h0, .int n]) (n := 2) (Nat.le_of_ble_eq_true rfl)
  rw [lg_entry_eq]
  generalize (lg_sl ([.ref h0, .int n]) ++ List.replicate (2 - (lg_sl ([.ref h0, .int n])).length) Slot.unset).toArray = ls at hl ⊢
  have hl : lv_has ls 2 [(0, .ref h0), (1, .int n)] := hl
  refine lv_aload_n hx hb dX2_put_0 rfl (lv_at hl 0 rfl) ?_
  have hPc := hP.sub (ws' := [(h0, .inr (2, [.ref d0, .int (nI pn)]))]) [0] rfl
  have hDc := hD.sub (ws' := [(h0, .inr (2, [.ref d0, .int (nI pn)]))]) [0] (by decide) rfl
  have hKc := hK.sub (tys' := []) [] rfl
  refine va_calli (va_runV (As := []) (rest := []) ⟨hx, hb, hml, hown, hts⟩ (c_pFull l dC dI s.heap.size h0 (.ref d0) pn (by omega)) (cwV 0 hts (gV mw_2_73 mw_2_66 mw_2_67 mw_1_4 mw_2_68) rfl rfl rfl (by decide +kernel) ⟨Nat.le_of_ble_eq_true rfl, Nat.le_of_ble_eq_true rfl⟩) ⟨pcW_blind, va_recv hKc hPc (ci := 2) (q0 := 0) rfl rfl, pcW_at hPc hKc hDc hN⟩ rfl rfl hl.1 rfl (lv_room (Nat.le_of_ble_eq_true rfl)) dX2_put_1 ⟨Nat.le_of_ble_eq_true rfl, Nat.le_of_ble_eq_true rfl⟩) hS (fun q h1 h2 => absurd h2 (Nat.not_le.mpr h1)) (fun q h => hA q (Nat.le_trans hS.1 h)) (fun r_1 u t H1 locs ht hvm hw_1 hB hz1 hk1 hS => ?_)
  have hP := keepP hP hk1
  clear hz1 hk1 hB ht hvm hPc hDc hKc
  generalize H1 = H at hP hS ⊢
  obtain rfl : r_1 = 0 := hw_1.trans (if_neg (by omega))
  refine lv_if_eq (tgt := 10) hx hb dX2_put_4 (by decide) (fun _ => ?_) (fun h => absurd (by decide) h)
  refine lv_aload_n hx hb dX2_put_10 rfl (lv_at hl 0 rfl) ?_
  refine va_get (D := (dC, dI)) (ci := 2) (v := .ref d0) (C := RX2) (T := TX2) (N := 2) hx hb hts inB_2 hown hK hP 0 rfl rfl 0 (by decide) (hts _ mw_1_78) (fun _ h9 => h9) rfl dX2_put_11 ?_
  refine lv_aload_n hx hb dX2_put_14 rfl (lv_at hl 0 rfl) ?_
  refine va_get (D := (dC, dI)) (ci := 2) (v := .int (nI pn)) (C := RX2) (T := TX2) (N := 2) hx hb hts inB_2 hown hK hP 0 rfl rfl 1 (by decide) (hts _ mw_1_79) (fun _ h9 => h9) rfl dX2_put_15 ?_
  refine lv_iload_n hx hb dX2_put_18 rfl (lv_at hl 1 rfl) ?_
  refine lv_i2c hx hb dX2_put_19 rfl ?_
  refine va_cast hx hb hK hP hD hS 1 0 rfl rfl (show vp_in (nI pn) 12 from vp_in_nI (by omega) (by omega)) dX2_put_20 (fun H locs hP hD hS => ?_)
  obtain ⟨f_3, ef_3⟩ : ∃ g : Nat → Int32, g = upd fps (Int32.toNatClampNeg (nI pn)) (vp_nar .char (n.toUInt32 % 65536).toInt32) := ⟨_, rfl⟩
  rw [← ef_3] at hP hD
  have ef_3 : f_3 = upd fps pn (vp_nar .char (n.toUInt32 % 65536).toInt32) := by rw [ef_3, nI_clamp (by omega)]
  have pf_3 : ChOk f_3 := by rw [ef_3]; exact ch_upd hch
  have hP : va_P (dC, dI) vwCl [(h0, .inr (2, [.ref d0, .int (nI pn)])), (d0, .inl (kd0, 12, .inl f_3))] H := hP
  have hD : va_D A [(h0, .inr (2, [.ref d0, .int (nI pn)])), (d0, .inl (kd0, 12, .inl f_3))] := hD
  refine lv_aload_n hx hb dX2_put_21 rfl (lv_at hl 0 rfl) ?_
  refine lv_dup hx hb dX2_put_22 rfl ?_
  refine va_get (D := (dC, dI)) (ci := 2) (v := .int (nI pn)) (C := RX2) (T := TX2) (N := 2) hx hb hts inB_2 hown hK hP 0 rfl rfl 1 (by decide) (hts _ mw_1_79) (fun _ h9 => h9) rfl dX2_put_23 ?_
  refine lv_iconst (v := 1) hx hb dX2_put_26 (by decide) ?_
  refine lv_iadd hx hb dX2_put_27 ?_
  refine hx_top (y := (nI (pn + 1))) (nI_add pn 1) ?_
  refine va_put (D := (dC, dI)) (ci := 2) (v := .int (nI (pn + 1))) (ty := .int) (C := RX2) (T := TX2) (N := 2) hx hb hts inB_2 tyX2 tyX2_ok nmX2 hown hK hP hD hS 0 rfl rfl 1 (by decide) (hts _ mw_1_79) (fun _ h9 => h9) rfl (by decide +kernel) rfl rfl (Nat.le_of_ble_eq_true rfl) dX2_put_28 (fun H locs hP hD hS => ?_)
  have hP : va_P (dC, dI) vwCl [(h0, .inr (2, [.ref d0, .int (nI (pn + 1))])), (d0, .inl (kd0, 12, .inl f_3))] H := hP
  have hD : va_D A [(h0, .inr (2, [.ref d0, .int (nI (pn + 1))])), (d0, .inl (kd0, 12, .inl f_3))] := hD
  refine lv_aload_n hx hb dX2_put_31 rfl (lv_at hl 0 rfl) ?_
  refine va_get (D := (dC, dI)) (ci := 2) (v := .int (nI (pn + 1))) (C := RX2) (T := TX2) (N := 2) hx hb hts inB_2 hown hK hP 0 rfl rfl 1 (by decide) (hts _ mw_1_79) (fun _ h9 => h9) rfl dX2_put_32 ?_
  have hP9 := hP.sub (ws' := [(h0, .inr (2, [.ref d0, .int (nI (pn + 1))])), (d0, .inl (kd0, 12, .inl f_3))]) [0, 1] rfl
  have hD9 := hD.sub (ws' := [(h0, .inr (2, [.ref d0, .int (nI (pn + 1))])), (d0, .inl (kd0, 12, .inl f_3))]) [0, 1] (by decide) rfl
  have hK9 := hK.sub (tys' := [(kd0, .char)]) [0] rfl
  exact W.iret (v := (nI (pn + 1))) hx hb hr (fun t ht hW => ⟨⟨(nI (pn + 1)), (), rfl, rfl, f_3, (by rw [ef_3, sg_nar hs9]), pf_3, by rw [ht]; exact hP9, va_K.moved hW.alike hK9, hD9⟩, hS.F ht⟩) hS.2.2 dX2_put_35
set_option maxHeartbeats 4000000 in
set_option maxRecDepth 100000 in
theorem c_pEmpty (l : Launch) (dC : Nat → ClassId) (dI : Nat → Nat → Nat) (sz : Nat) (h0 : Nat) (w0 : Value) (pn : Nat)  : Met l yX2_empty (wq yX2_empty cX2_empty 2 (some .int)) ({ frames := 0, cells := 0, slots := 0, locals := 0 }) (va_Pc [.ref h0] (pcW dC dI [] [(h0, .inr (2, [w0, .int (nI pn)]))] sz)) (va_Qi (fun (r : Int32) (_ : Unit) => r = nI pn) (fun _ t => va_P (dC, dI) vwCl [(h0, .inr (2, [w0, .int 0]))] t.heap ∧ va_K (dC, dI) vwCl [] t ∧ va_D (va_A [(h0, .inr (2, [w0, .int (nI pn)]))] sz) [(h0, .inr (2, [w0, .int 0]))]) (va_A [(h0, .inr (2, [w0, .int (nI pn)]))] sz)) 0 0 (va_A [(h0, .inr (2, [w0, .int (nI pn)]))] sz) := by
  refine Met.ofW (cc := cX2_empty) (maxL := 2) (ret := (some .int)) (by decide) rfl ?_
  intro p e s m args below meth c s₁ B hml hv
  obtain ⟨rfl, hsz, hN, hP, hK, hD0⟩ := hv
  have hx := B.exec
  have hb := B.bytes
  have hr := B.returns
  have hts0 := atoms_spec (ws := (wq yX2_empty cX2_empty 2 (some .int))) B.pre
  have hts : ∀ w ∈ BG, w.before _ s = true := fun w h => hts0 w (List.mem_cons_of_mem _ h)
  have hown : s.vm.findClass RX2 = some m.cls := findClass_of_methodNamed B.named
  have hlocks := B.notSynchronized
  subst hsz
  have hD := hD0.self (sz := s.heap.size)
  generalize hAe : va_A [(h0, .inr (2, [w0, .int (nI pn)]))] s.heap.size = A at hD ⊢
  have hA : ∀ q : Nat, s.heap.size ≤ q → A q := fun q h => by rw [← hAe]; exact Or.inr h
  have hS : va_S A s.heap s.heap [] := va_S.rf
  clear hAe hD0
  have hP : va_P (dC, dI) vwCl [(h0, .inr (2, [w0, .int (nI pn)]))] s.heap := hP
  have hl := lv_entry ([.ref h0]) (n := 2) (Nat.le_of_ble_eq_true rfl)
  rw [lg_entry_eq]
  generalize (lg_sl ([.ref h0]) ++ List.replicate (2 - (lg_sl ([.ref h0])).length) Slot.unset).toArray = ls at hl ⊢
  have hl : lv_has ls 2 [(0, .ref h0)] := hl
  refine lv_aload_n hx hb dX2_empty_0 rfl (lv_at hl 0 rfl) ?_
  refine va_get (D := (dC, dI)) (ci := 2) (v := .int (nI pn)) (C := RX2) (T := TX2) (N := 2) hx hb hts inB_2 hown hK hP 0 rfl rfl 1 (by decide) (hts _ mw_1_79) (fun _ h9 => h9) rfl dX2_empty_1 ?_
  refine lv_istore_n (lv' := [(1, .int (nI pn)), (0, .ref h0)]) hx hb dX2_empty_4 rfl hl (by decide) rfl (fun ls hl => ?_)
  refine lv_aload_n hx hb dX2_empty_5 rfl (lv_at hl 1 rfl) ?_
  refine lv_iconst (v := 0) hx hb dX2_empty_6 (by decide) ?_
  refine va_put (D := (dC, dI)) (ci := 2) (v := .int 0) (ty := .int) (C := RX2) (T := TX2) (N := 2) hx hb hts inB_2 tyX2 tyX2_ok nmX2 hown hK hP hD hS 0 rfl rfl 1 (by decide) (hts _ mw_1_79) (fun _ h9 => h9) rfl (by decide +kernel) rfl rfl (Nat.le_of_ble_eq_true rfl) dX2_empty_7 (fun H locs hP hD hS => ?_)
  have hP : va_P (dC, dI) vwCl [(h0, .inr (2, [w0, .int 0]))] H := hP
  have hD : va_D A [(h0, .inr (2, [w0, .int 0]))] := hD
  refine lv_iload_n hx hb dX2_empty_10 rfl (lv_at hl 0 rfl) ?_
  have hP9 := hP.sub (ws' := [(h0, .inr (2, [w0, .int 0]))]) [0] rfl
  have hD9 := hD.sub (ws' := [(h0, .inr (2, [w0, .int 0]))]) [0] (by decide) rfl
  have hK9 := hK.sub (tys' := []) [] rfl
  exact W.iret (v := (nI pn)) hx hb hr (fun t ht hW => ⟨⟨(nI pn), (), rfl, rfl, by rw [ht]; exact hP9, va_K.moved hW.alike hK9, hD9⟩, hS.F ht⟩) hS.2.2 dX2_empty_11
set_option maxHeartbeats 4000000 in
set_option maxRecDepth 100000 in
theorem c_pSign (l : Launch) (dC : Nat → ClassId) (dI : Nat → Nat → Nat) (sz : Nat) (h0 : Nat) (d0 : Nat) (pn : Nat) (kd0 : ClassId) (fps : Nat → Int32) (kq : Nat) (hkp : kq < pn) (hpn : pn ≤ 12) (hch : ChOk fps) : Met l yX2_sign (wq yX2_sign cX2_sign 2 (some .char)) ({ frames := 0, cells := 0, slots := 0, locals := 0 }) (va_Pc [.ref h0, .int (nI kq)] (pcW dC dI [(kd0, .char)] [(h0, .inr (2, [.ref d0, .int (nI pn)])), (d0, .inl (kd0, 12, .inl fps))] sz)) (va_Qi (fun (r : Int32) (_ : Unit) => r = (fps kq)) (fun _ _ => True) (fun q : Nat => sz ≤ q)) 0 0 (fun q : Nat => sz ≤ q) := by
  refine Met.ofW (cc := cX2_sign) (maxL := 2) (ret := (some .char)) (by decide) rfl ?_
  intro p e s m args below meth c s₁ B hml hv
  obtain ⟨rfl, hsz, hN, hP, hK, hD0⟩ := hv
  have hx := B.exec
  have hb := B.bytes
  have hr := B.returns
  have hts0 := atoms_spec (ws := (wq yX2_sign cX2_sign 2 (some .char))) B.pre
  have hts : ∀ w ∈ BG, w.before _ s = true := fun w h => hts0 w (List.mem_cons_of_mem _ h)
  have hown : s.vm.findClass RX2 = some m.cls := findClass_of_methodNamed B.named
  have hlocks := B.notSynchronized
  subst hsz
  have hA : ∀ q : Nat, s.heap.size ≤ q → (fun q : Nat => s.heap.size ≤ q) q := fun _ h => h
  have hD := hD0
  have hS : va_S (fun q : Nat => s.heap.size ≤ q) s.heap s.heap [] := va_S.rf
  have hP : va_P (dC, dI) vwCl [(h0, .inr (2, [.ref d0, .int (nI pn)])), (d0, .inl (kd0, 12, .inl fps))] s.heap := hP
  have hl := lv_entry ([.ref h0, .int (nI kq)]) (n := 2) (Nat.le_of_ble_eq_true rfl)
  rw [lg_entry_eq]
  generalize (lg_sl ([.ref h0, .int (nI kq)]) ++ List.replicate (2 - (lg_sl ([.ref h0, .int (nI kq)])).length) Slot.unset).toArray = ls at hl ⊢
  have hl : lv_has ls 2 [(0, .ref h0), (1, .int (nI kq))] := hl
  have ykq : Int32.toInt (nI kq) = ((kq : Nat) : Int) := nI_toInt (by omega)
  refine lv_iload_n hx hb dX2_sign_0 rfl (lv_at hl 1 rfl) ?_
  refine lv_if_lt (tgt := 21) hx hb dX2_sign_1 (by decide) (fun h => absurd (gx_lt (X := ((kq : Nat) : Int)) (C := 0) (nI_toInt (by omega)) (by decide) h) (by omega)) (fun c_1 => ?_)
  have b_2 := gn_lt (X := ((kq : Nat) : Int)) (C := 0) (nI_toInt (by omega)) (by decide) c_1
  refine lv_iload_n hx hb dX2_sign_4 rfl (lv_at hl 1 rfl) ?_
  refine lv_aload_n hx hb dX2_sign_5 rfl (lv_at hl 0 rfl) ?_
  refine va_get (D := (dC, dI)) (ci := 2) (v := .int (nI pn)) (C := RX2) (T := TX2) (N := 2) hx hb hts inB_2 hown hK hP 0 rfl rfl 1 (by decide) (hts _ mw_1_79) (fun _ h9 => h9) rfl dX2_sign_6 ?_
  refine lv_icmp_ge (tgt := 21) hx hb dX2_sign_9 (by decide) (fun h => absurd (gx_ge (X := ((kq : Nat) : Int)) (C := ((pn : Nat) : Int)) (nI_toInt (by omega)) (nI_toInt (by omega)) h) (by omega)) (fun c_3 => ?_)
  have b_4 := gn_ge (X := ((kq : Nat) : Int)) (C := ((pn : Nat) : Int)) (nI_toInt (by omega)) (nI_toInt (by omega)) c_3
  refine lv_aload_n hx hb dX2_sign_12 rfl (lv_at hl 0 rfl) ?_
  refine va_get (D := (dC, dI)) (ci := 2) (v := .ref d0) (C := RX2) (T := TX2) (N := 2) hx hb hts inB_2 hown hK hP 0 rfl rfl 0 (by decide) (hts _ mw_1_78) (fun _ h9 => h9) rfl dX2_sign_13 ?_
  refine lv_iload_n hx hb dX2_sign_16 rfl (lv_at hl 1 rfl) ?_
  refine va_cald hx hb hK hP 1 0 rfl rfl (show vp_in (nI kq) 12 from vp_in_nI (by omega) (by omega)) dX2_sign_17 ?_
  refine hx_top (y := (fps kq)) (congrArg _ (nI_clamp (by omega))) ?_
  refine lv_goto (tgt := 22) hx hb dX2_sign_18 (by decide) ?_
  exact W.zret (v := (fps kq)) hx hb hr (hch _) (fun t ht hW => ⟨⟨(fps kq), (), rfl, rfl, trivial⟩, hS.F ht⟩) hS.2.2 dX2_sign_22
set_option maxHeartbeats 4000000 in
set_option maxRecDepth 100000 in
theorem c_canStand (l : Launch) (dC : Nat → ClassId) (dI : Nat → Nat → Nat) (sz : Nat) (n : Int32)  : Met l yX2_canStand (wq yX2_canStand cX2_canStand 1 (some .boolean)) ({ frames := 0, cells := 0, slots := 0, locals := 0 }) (va_Pc [.int n] (pcW dC dI [] [] sz)) (va_Qi (fun (r : Int32) (_ : Unit) => r = (if can n = true then 1 else 0)) (fun _ _ => True) (fun q : Nat => sz ≤ q)) 0 0 (fun q : Nat => sz ≤ q) := by
  refine Met.ofW (cc := cX2_canStand) (maxL := 1) (ret := (some .boolean)) (by decide) rfl ?_
  intro p e s m args below meth c s₁ B hml hv
  obtain ⟨rfl, hsz, hN, hP, hK, hD0⟩ := hv
  have hx := B.exec
  have hb := B.bytes
  have hr := B.returns
  have hts0 := atoms_spec (ws := (wq yX2_canStand cX2_canStand 1 (some .boolean))) B.pre
  have hts : ∀ w ∈ BG, w.before _ s = true := fun w h => hts0 w (List.mem_cons_of_mem _ h)
  have hown : s.vm.findClass RX2 = some m.cls := findClass_of_methodNamed B.named
  have hlocks := B.notSynchronized
  subst hsz
  have hA : ∀ q : Nat, s.heap.size ≤ q → (fun q : Nat => s.heap.size ≤ q) q := fun _ h => h
  have hD := hD0
  have hS : va_S (fun q : Nat => s.heap.size ≤ q) s.heap s.heap [] := va_S.rf
  have hP : va_P (dC, dI) vwCl [] s.heap := hP
  have hl := lv_entry ([.int n]) (n := 1) (Nat.le_of_ble_eq_true rfl)
  rw [lg_entry_eq]
  generalize (lg_sl ([.int n]) ++ List.replicate (1 - (lg_sl ([.int n])).length) Slot.unset).toArray = ls at hl ⊢
  have hl : lv_has ls 1 [(0, .int n)] := hl
  refine lv_iload_n hx hb dX2_canStand_0 rfl (lv_at hl 0 rfl) ?_
  refine lv_bipush (v := 48) hx hb dX2_canStand_1 (by decide) ?_
  refine lv_icmp_lt (tgt := 12) hx hb dX2_canStand_3 (by decide) (fun c_1 => ?_) (fun c_1 => ?_)
  · have b_2 := gx_lt (X := (Int32.toInt n)) (C := 48) rfl (by decide) c_1
    refine lv_iload_n hx hb dX2_canStand_12 rfl (lv_at hl 0 rfl) ?_
    refine lv_bipush (v := 97) hx hb dX2_canStand_13 (by decide) ?_
    refine lv_icmp_lt (tgt := 24) hx hb dX2_canStand_15 (by decide) (fun c_3 => ?_) (fun h => absurd (gn_lt (X := (Int32.toInt n)) (C := 97) rfl (by decide) h) (by omega))
    have b_4 := gx_lt (X := (Int32.toInt n)) (C := 97) rfl (by decide) c_3
    refine lv_iload_n hx hb dX2_canStand_24 rfl (lv_at hl 0 rfl) ?_
    refine lv_bipush (v := 94) hx hb dX2_canStand_25 (by decide) ?_
    refine lv_icmp_ne (tgt := 34) hx hb dX2_canStand_27 (by decide) (fun c_5 => ?_) (fun h => absurd (gn_ne (X := (Int32.toInt n)) (C := 94) rfl (by decide) h) (by omega))
    have b_6 := gx_ne (X := (Int32.toInt n)) (C := 94) rfl (by decide) c_5
    refine lv_iconst (v := 0) hx hb dX2_canStand_34 (by decide) ?_
    exact W.zret (v := 0) hx hb hr (by decide) (fun t ht hW => ⟨⟨0, (), rfl, (if_neg (by rw [can_f (by omega)]; decide)).symm, trivial⟩, hS.F ht⟩) hS.2.2 dX2_canStand_35
  · have b_2 := gn_lt (X := (Int32.toInt n)) (C := 48) rfl (by decide) c_1
    refine lv_iload_n hx hb dX2_canStand_6 rfl (lv_at hl 0 rfl) ?_
    refine lv_bipush (v := 57) hx hb dX2_canStand_7 (by decide) ?_
    refine lv_icmp_le (tgt := 30) hx hb dX2_canStand_9 (by decide) (fun c_7 => ?_) (fun c_7 => ?_)
    · have b_8 := gx_le (X := (Int32.toInt n)) (C := 57) rfl (by decide) c_7
      refine lv_iconst (v := 1) hx hb dX2_canStand_30 (by decide) ?_
      refine lv_goto (tgt := 35) hx hb dX2_canStand_31 (by decide) ?_
      exact W.zret (v := 1) hx hb hr (by decide) (fun t ht hW => ⟨⟨1, (), rfl, (if_pos (can_t (by omega))).symm, trivial⟩, hS.F ht⟩) hS.2.2 dX2_canStand_35
    · have b_8 := gn_le (X := (Int32.toInt n)) (C := 57) rfl (by decide) c_7
      refine lv_iload_n hx hb dX2_canStand_12 rfl (lv_at hl 0 rfl) ?_
      refine lv_bipush (v := 97) hx hb dX2_canStand_13 (by decide) ?_
      refine lv_icmp_lt (tgt := 24) hx hb dX2_canStand_15 (by decide) (fun c_9 => ?_) (fun c_9 => ?_)
      · have b_10 := gx_lt (X := (Int32.toInt n)) (C := 97) rfl (by decide) c_9
        refine lv_iload_n hx hb dX2_canStand_24 rfl (lv_at hl 0 rfl) ?_
        refine lv_bipush (v := 94) hx hb dX2_canStand_25 (by decide) ?_
        refine lv_icmp_ne (tgt := 34) hx hb dX2_canStand_27 (by decide) (fun c_11 => ?_) (fun c_11 => ?_)
        · have b_12 := gx_ne (X := (Int32.toInt n)) (C := 94) rfl (by decide) c_11
          refine lv_iconst (v := 0) hx hb dX2_canStand_34 (by decide) ?_
          exact W.zret (v := 0) hx hb hr (by decide) (fun t ht hW => ⟨⟨0, (), rfl, (if_neg (by rw [can_f (by omega)]; decide)).symm, trivial⟩, hS.F ht⟩) hS.2.2 dX2_canStand_35
        · have b_12 := gn_ne (X := (Int32.toInt n)) (C := 94) rfl (by decide) c_11
          refine lv_iconst (v := 1) hx hb dX2_canStand_30 (by decide) ?_
          refine lv_goto (tgt := 35) hx hb dX2_canStand_31 (by decide) ?_
          exact W.zret (v := 1) hx hb hr (by decide) (fun t ht hW => ⟨⟨1, (), rfl, (if_pos (can_t (by omega))).symm, trivial⟩, hS.F ht⟩) hS.2.2 dX2_canStand_35
      · have b_10 := gn_lt (X := (Int32.toInt n)) (C := 97) rfl (by decide) c_9
        refine lv_iload_n hx hb dX2_canStand_18 rfl (lv_at hl 0 rfl) ?_
        refine lv_bipush (v := 104) hx hb dX2_canStand_19 (by decide) ?_
        refine lv_icmp_le (tgt := 30) hx hb dX2_canStand_21 (by decide) (fun c_13 => ?_) (fun c_13 => ?_)
        · have b_14 := gx_le (X := (Int32.toInt n)) (C := 104) rfl (by decide) c_13
          refine lv_iconst (v := 1) hx hb dX2_canStand_30 (by decide) ?_
          refine lv_goto (tgt := 35) hx hb dX2_canStand_31 (by decide) ?_
          exact W.zret (v := 1) hx hb hr (by decide) (fun t ht hW => ⟨⟨1, (), rfl, (if_pos (can_t (by omega))).symm, trivial⟩, hS.F ht⟩) hS.2.2 dX2_canStand_35
        · have b_14 := gn_le (X := (Int32.toInt n)) (C := 104) rfl (by decide) c_13
          refine lv_iload_n hx hb dX2_canStand_24 rfl (lv_at hl 0 rfl) ?_
          refine lv_bipush (v := 94) hx hb dX2_canStand_25 (by decide) ?_
          refine lv_icmp_ne (tgt := 34) hx hb dX2_canStand_27 (by decide) (fun c_15 => ?_) (fun h => absurd (gn_ne (X := (Int32.toInt n)) (C := 94) rfl (by decide) h) (by omega))
          have b_16 := gx_ne (X := (Int32.toInt n)) (C := 94) rfl (by decide) c_15
          refine lv_iconst (v := 0) hx hb dX2_canStand_34 (by decide) ?_
          exact W.zret (v := 0) hx hb hr (by decide) (fun t ht hW => ⟨⟨0, (), rfl, (if_neg (by rw [can_f (by omega)]; decide)).symm, trivial⟩, hS.F ht⟩) hS.2.2 dX2_canStand_35
set_option maxHeartbeats 4000000 in
set_option maxRecDepth 100000 in
theorem c_pFault (l : Launch) (dC : Nat → ClassId) (dI : Nat → Nat → Nat) (sz : Nat) (h0 : Nat) (d0 : Nat) (pn : Nat) (kd0 : ClassId) (fps : Nat → Int32) (hpn : pn ≤ 12) : Met l yX2_firstFault (wq yX2_firstFault cX2_firstFault 2 (some .int)) ({ frames := 1, cells := 0, slots := 0, locals := 20 }) (va_Pc [.ref h0] (pcW dC dI [(kd0, .char)] [(h0, .inr (2, [.ref d0, .int (nI pn)])), (d0, .inl (kd0, 12, .inl fps))] sz)) (va_Qi (fun (r : Int32) (_ : Unit) => r = (fltF fps pn)) (fun _ _ => True) (fun q : Nat => sz ≤ q)) 0 0 (fun q : Nat => sz ≤ q) := by
  refine Met.ofW (cc := cX2_firstFault) (maxL := 2) (ret := (some .int)) (by decide) rfl ?_
  intro p e s m args below meth c s₁ B hml hv
  obtain ⟨rfl, hsz, hN, hP, hK, hD0⟩ := hv
  have hx := B.exec
  have hb := B.bytes
  have hr := B.returns
  have hts0 := atoms_spec (ws := (wq yX2_firstFault cX2_firstFault 2 (some .int))) B.pre
  have hts : ∀ w ∈ BG, w.before _ s = true := fun w h => hts0 w (List.mem_cons_of_mem _ h)
  have hown : s.vm.findClass RX2 = some m.cls := findClass_of_methodNamed B.named
  have hlocks := B.notSynchronized
  subst hsz
  have hA : ∀ q : Nat, s.heap.size ≤ q → (fun q : Nat => s.heap.size ≤ q) q := fun _ h => h
  have hD := hD0
  have hS : va_S (fun q : Nat => s.heap.size ≤ q) s.heap s.heap [] := va_S.rf
  have hP : va_P (dC, dI) vwCl [(h0, .inr (2, [.ref d0, .int (nI pn)])), (d0, .inl (kd0, 12, .inl fps))] s.heap := hP
  have hl := lv_entry ([.ref h0]) (n := 2) (Nat.le_of_ble_eq_true rfl)
  rw [lg_entry_eq]
  generalize (lg_sl ([.ref h0]) ++ List.replicate (2 - (lg_sl ([.ref h0])).length) Slot.unset).toArray = ls at hl ⊢
  have hl : lv_has ls 2 [(0, .ref h0)] := hl
  refine lv_iconst (v := 0) hx hb dX2_firstFault_0 (by decide) ?_
  refine lv_istore_n (lv' := [(1, .int 0), (0, .ref h0)]) hx hb dX2_firstFault_1 rfl hl (by decide) rfl (fun ls hl => ?_)
  have key_1 : ∀ (fu : Nat) (k : Nat), (k ≤ pn) → (fnd (fun i => !can (fps i)) k (pn - k) = fltF fps pn) → pn - k < fu → ∀ (H : Heap) (locs : List Loc), va_P (dC, dI) vwCl [(h0, .inr (2, [.ref d0, .int (nI pn)])), (d0, .inl (kd0, 12, .inl fps))] H → va_S (fun q : Nat => s.heap.size ≤ q) s.heap H locs → ∀ (ls : Array Slot), lv_has ls 2 [(1, .int (nI k)), (0, .ref h0)] → W p l e (headSpec (wq yX2_firstFault cX2_firstFault 2 (some .int)) ({ frames := 1, cells := 0, slots := 0, locals := 20 })).room s m (([.ref h0] : List Value)).toArray below meth c H locs 0 0 (MQ below (va_Qi (fun (r : Int32) (_ : Unit) => r = (fltF fps pn)) (fun _ _ => True) (fun q : Nat => s.heap.size ≤ q)) (([.ref h0] : List Value)).toArray s 0 0 (fun q : Nat => s.heap.size ≤ q)) (F0 m 2 ls []) := by
    intro fu
    induction fu with
    | zero => intro k hk hf hme; exact absurd hme (Nat.not_lt_zero _)
    | succ fu ih_2 =>
      intro k hk hf hme H locs hP hS ls hl
      refine lv_iload_n hx hb dX2_firstFault_2 rfl (lv_at hl 0 rfl) ?_
      refine lv_aload_n hx hb dX2_firstFault_3 rfl (lv_at hl 1 rfl) ?_
      refine va_get (D := (dC, dI)) (ci := 2) (v := .int (nI pn)) (C := RX2) (T := TX2) (N := 2) hx hb hts inB_2 hown hK hP 0 rfl rfl 1 (by decide) (hts _ mw_1_79) (fun _ h9 => h9) rfl dX2_firstFault_4 ?_
      refine lv_icmp_ge (tgt := 30) hx hb dX2_firstFault_7 (by decide) (fun c_3 => ?_) (fun c_3 => ?_)
      · have b_4 := gx_ge (X := ((k : Nat) : Int)) (C := ((pn : Nat) : Int)) (nI_toInt (by omega)) (nI_toInt (by omega)) c_3
        refine lv_bipush (v := (-6)) hx hb dX2_firstFault_30 (by decide) ?_
        exact W.iret (v := (-6)) hx hb hr (fun t ht hW => ⟨⟨(-6), (), rfl, (by rw [← hf]; exact (fnd_end (by omega)).symm), trivial⟩, hS.F ht⟩) hS.2.2 dX2_firstFault_32
      · have b_4 := gn_ge (X := ((k : Nat) : Int)) (C := ((pn : Nat) : Int)) (nI_toInt (by omega)) (nI_toInt (by omega)) c_3
        refine lv_aload_n hx hb dX2_firstFault_10 rfl (lv_at hl 1 rfl) ?_
        refine va_get (D := (dC, dI)) (ci := 2) (v := .ref d0) (C := RX2) (T := TX2) (N := 2) hx hb hts inB_2 hown hK hP 0 rfl rfl 0 (by decide) (hts _ mw_1_78) (fun _ h9 => h9) rfl dX2_firstFault_11 ?_
        refine lv_iload_n hx hb dX2_firstFault_14 rfl (lv_at hl 0 rfl) ?_
        refine va_cald hx hb hK hP 1 0 rfl rfl (show vp_in (nI k) 12 from vp_in_nI (by omega) (by omega)) dX2_firstFault_15 ?_
        refine hx_top (y := (fps k)) (congrArg _ (nI_clamp (by omega))) ?_
        have hPc := hP.sub (ws' := []) [] rfl
        have hDc := hD.sub (ws' := []) [] (by decide) rfl
        have hKc := hK.sub (tys' := []) [] rfl
        refine va_calli (va_runS (As := [.int (fps k)]) (rest := []) ⟨hx, hb, hml, hown, hts⟩ (c_canStand l dC dI H.size (fps k) ) (va_cwS 1 hts (gS mw_2_90 mw_2_91 mw_1_4 mw_2_92) rfl rfl rfl (by decide +kernel) ⟨Nat.le_of_ble_eq_true rfl, Nat.le_of_ble_eq_true rfl⟩) ⟨pcW_blind, pcW_at hPc hKc hDc hN⟩ rfl rfl hl.1 rfl (lv_room (Nat.le_of_ble_eq_true rfl)) dX2_firstFault_16 ⟨Nat.le_of_ble_eq_true rfl, Nat.le_of_ble_eq_true rfl⟩) hS (fun q h1 h2 => absurd h2 (Nat.not_le.mpr h1)) (fun q h => hA q (Nat.le_trans hS.1 h)) (fun r_5 u t H1 locs ht hvm hw_5 hB hz1 hk1 hS => ?_)
        have hP := keepP hP hk1
        clear hz1 hk1 hB ht hvm hPc hDc hKc
        generalize H1 = H at hP hS ⊢
        rcases fx_bool hw_5 with ⟨rfl, b_6⟩ | ⟨rfl, b_6⟩
        · skip
          refine lv_if_ne (tgt := 24) hx hb dX2_firstFault_19 (by decide) (fun _ => ?_) (fun h => absurd h (by decide))
          refine lv_iinc (v := (nI (k + 1))) (lv' := [(1, .int (nI (k + 1))), (0, .ref h0)]) hx hb dX2_firstFault_24 hl (k := 0) rfl (nI_add k 1) (by decide) rfl (fun ls hl => ?_)
          refine lv_goto (tgt := 2) hx hb dX2_firstFault_27 (by decide) ?_
          exact ih_2 (k + 1) (by omega) ((fnd_miss (nb_f b_6) (by omega)).symm.trans hf) (by omega) _ _ hP hS ls (lv_sub hl [0, 1] rfl)
        · skip
          refine lv_if_ne (tgt := 24) hx hb dX2_firstFault_19 (by decide) (fun h => absurd h (by decide)) (fun _ => ?_)
          refine lv_iload_n hx hb dX2_firstFault_22 rfl (lv_at hl 0 rfl) ?_
          exact W.iret (v := (nI k)) hx hb hr (fun t ht hW => ⟨⟨(nI k), (), rfl, (by rw [← hf]; exact (fnd_hit (nb_t b_6) (by omega)).symm), trivial⟩, hS.F ht⟩) hS.2.2 dX2_firstFault_23
  exact key_1 ((pn - 0) + 1) 0 (by omega) rfl (Nat.lt_succ_self _) _ _ hP hS ls (lv_sub hl [0, 1] rfl)
