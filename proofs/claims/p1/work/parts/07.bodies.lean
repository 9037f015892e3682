theorem mw_2_99 : Cond.code yX8_isName cX8_isName 1 (some .boolean) ∈ BG := mB (t2 (i := 99) rfl) (by decide +kernel)
theorem mw_1_1 : Cond.initialized RX8 ∈ BG := mB (t1 (i := 1) (by decide +kernel)) (by decide +kernel)
theorem mw_2_98 : Cond.static yX8_isName ∈ BG := mB (t2 (i := 98) (by decide +kernel)) (by decide +kernel)
theorem mw_1_95 : Cond.laysFinal RX0 "AnswerLines$Bodies" "owners" "[I" ∈ BG := mB (t1 (i := 95) (by decide +kernel)) (by decide +kernel)
theorem mw_1_97 : Cond.laysFinal RX0 "AnswerLines$Bodies" "lengths" "[I" ∈ BG := mB (t1 (i := 97) (by decide +kernel)) (by decide +kernel)
theorem mw_1_99 : Cond.laysFinal RX0 "AnswerLines$Bodies" "signs" "[C" ∈ BG := mB (t1 (i := 99) (by decide +kernel)) (by decide +kernel)
theorem inB_0 : ∀ w ∈ u_ws RX0 TX0 3, w ∈ BG := fun w hw => by
  obtain ⟨k, hk, rfl⟩ := List.mem_map.mp hw
  have hk := List.mem_range.mp hk
  rcases (by omega : k = 0 ∨ k = 1 ∨ k = 2) with rfl | rfl | rfl
  · exact mw_1_95
  · exact mw_1_97
  · exact mw_1_99
theorem mw_1_92 : Cond.fieldLink RX0 9 "AnswerLines$Bodies" "owners" "[I" ∈ BG := mB (t1 (i := 92) (by decide +kernel)) (by decide +kernel)
theorem mw_2_107 : Cond.code yX0_ownersOf cX0_ownersOf 2 (some .int) ∈ BG := mB (t2 (i := 107) rfl) (by decide +kernel)
theorem mw_2_104 : Cond.methodLink RX0 26 yX0_ownersOf ∈ BG := mB (t2 (i := 104) (by decide +kernel)) (by decide +kernel)
theorem mw_2_105 : Cond.instanceMethod yX0_ownersOf ∈ BG := mB (t2 (i := 105) (by decide +kernel)) (by decide +kernel)
theorem mw_2_106 : Cond.selects RX0 yX0_ownersOf yX0_ownersOf ∈ BG := mB (t2 (i := 106) (by decide +kernel)) (by decide +kernel)
theorem mw_1_5 : Cond.initialized RX0 ∈ BG := mB (t1 (i := 5) (by decide +kernel)) (by decide +kernel)
theorem mw_2_15 : Cond.code yX8_isIn cX8_isIn 2 (some .boolean) ∈ BG := mB (t2 (i := 15) rfl) (by decide +kernel)
theorem mw_2_14 : Cond.static yX8_isIn ∈ BG := mB (t2 (i := 14) (by decide +kernel)) (by decide +kernel)
theorem mw_2_103 : Cond.code yX0_isOwner cX0_isOwner 3 (some .boolean) ∈ BG := mB (t2 (i := 103) rfl) (by decide +kernel)
theorem mw_3_175 : Cond.methodLink RX0 34 yX0_isOwner ∈ BG := mB (t3 (i := 175) (by decide +kernel)) (by decide +kernel)
theorem mw_2_101 : Cond.instanceMethod yX0_isOwner ∈ BG := mB (t2 (i := 101) (by decide +kernel)) (by decide +kernel)
theorem mw_2_102 : Cond.selects RX0 yX0_isOwner yX0_isOwner ∈ BG := mB (t2 (i := 102) (by decide +kernel)) (by decide +kernel)
theorem dX0_ownersOf_0 : decode cX0_ownersOf 0 = .ok (.iload_n 1, 1) := by decide +kernel
theorem dX0_ownersOf_1 : decode cX0_ownersOf 1 = .ok (.invokestatic 22, 3) := by decide +kernel
theorem dX0_ownersOf_4 : decode cX0_ownersOf 4 = .ok (.ifCond .eq 12, 3) := by decide +kernel
theorem dX0_ownersOf_7 : decode cX0_ownersOf 7 = .ok (.aload_n 0, 1) := by decide +kernel
theorem dX0_ownersOf_8 : decode cX0_ownersOf 8 = .ok (.getfield 9, 3) := by decide +kernel
theorem dX0_ownersOf_11 : decode cX0_ownersOf 11 = .ok (.iload_n 1, 1) := by decide +kernel
theorem dX0_ownersOf_12 : decode cX0_ownersOf 12 = .ok (.iaload, 1) := by decide +kernel
theorem dX0_ownersOf_13 : decode cX0_ownersOf 13 = .ok (.goto 4, 3) := by decide +kernel
theorem dX0_ownersOf_17 : decode cX0_ownersOf 17 = .ok (.ireturn, 1) := by decide +kernel
theorem dX0_ownersOf_16 : decode cX0_ownersOf 16 = .ok (.iconst 0, 1) := by decide +kernel
theorem dX0_isOwner_0 : decode cX0_isOwner 0 = .ok (.iload_n 1, 1) := by decide +kernel
theorem dX0_isOwner_1 : decode cX0_isOwner 1 = .ok (.aload_n 0, 1) := by decide +kernel
theorem dX0_isOwner_2 : decode cX0_isOwner 2 = .ok (.iload_n 2, 1) := by decide +kernel
theorem dX0_isOwner_3 : decode cX0_isOwner 3 = .ok (.invokevirtual 26, 3) := by decide +kernel
theorem dX0_isOwner_6 : decode cX0_isOwner 6 = .ok (.invokestatic 30, 3) := by decide +kernel
theorem dX0_isOwner_9 : decode cX0_isOwner 9 = .ok (.ireturn, 1) := by decide +kernel
theorem dX0_namesOf_0 : decode cX0_namesOf 0 = .ok (.iconst 0, 1) := by decide +kernel
theorem dX0_namesOf_1 : decode cX0_namesOf 1 = .ok (.istore_n 2, 1) := by decide +kernel
theorem dX0_namesOf_2 : decode cX0_namesOf 2 = .ok (.iconst 0, 1) := by decide +kernel
theorem dX0_namesOf_3 : decode cX0_namesOf 3 = .ok (.istore_n 3, 1) := by decide +kernel
theorem dX0_namesOf_4 : decode cX0_namesOf 4 = .ok (.iload_n 3, 1) := by decide +kernel
theorem dX0_namesOf_5 : decode cX0_namesOf 5 = .ok (.bipush 8, 2) := by decide +kernel
theorem dX0_namesOf_7 : decode cX0_namesOf 7 = .ok (.if_icmp .ge 24, 3) := by decide +kernel
theorem dX0_namesOf_10 : decode cX0_namesOf 10 = .ok (.aload_n 0, 1) := by decide +kernel
theorem dX0_namesOf_11 : decode cX0_namesOf 11 = .ok (.iload_n 1, 1) := by decide +kernel
theorem dX0_namesOf_12 : decode cX0_namesOf 12 = .ok (.iload_n 3, 1) := by decide +kernel
theorem dX0_namesOf_13 : decode cX0_namesOf 13 = .ok (.invokevirtual 34, 3) := by decide +kernel
theorem dX0_namesOf_16 : decode cX0_namesOf 16 = .ok (.ifCond .eq 9, 3) := by decide +kernel
theorem dX0_namesOf_25 : decode cX0_namesOf 25 = .ok (.iinc 3 1, 3) := by decide +kernel
theorem dX0_namesOf_28 : decode cX0_namesOf 28 = .ok (.goto (-24), 3) := by decide +kernel
theorem dX0_namesOf_31 : decode cX0_namesOf 31 = .ok (.iload_n 2, 1) := by decide +kernel
theorem dX0_namesOf_32 : decode cX0_namesOf 32 = .ok (.ireturn, 1) := by decide +kernel
set_option maxHeartbeats 4000000 in
set_option maxRecDepth 100000 in
theorem c_own (l : Launch) (dC : Nat → ClassId) (dI : Nat → Nat → Nat) (sz : Nat) (h0 : Nat) (a0 : Nat) (w1 : Value) (w2 : Value) (ka0 : ClassId) (n : Int32)  : Met l yX0_ownersOf (wq yX0_ownersOf cX0_ownersOf 2 (some .int)) ({ frames := 1, cells := 0, slots := 0, locals := 20 }) (va_Pc [.ref h0, .int n] (pcW dC dI [(ka0, .int)] [(h0, .inr (0, [.ref a0, w1, w2])), (a0, .inl (ka0, 8, .inl (fun _ => 0)))] sz)) (va_Qi (fun (r : Int32) (_ : Unit) => r = 0) (fun _ _ => True) (fun q : Nat => sz ≤ q)) 0 0 (fun q : Nat => sz ≤ q) := by
  refine Met.ofW (cc := cX0_ownersOf) (maxL := 2) (ret := (some .int)) (by decide) rfl ?_
  intro p e s m args below meth c s₁ B hml hv
  obtain ⟨rfl, hsz, hN, hP, hK, hD0⟩ := hv
  have hx := B.exec
  have hb := B.bytes
  have hr := B.returns
  have hts0 := atoms_spec (ws := (wq yX0_ownersOf cX0_ownersOf 2 (some .int))) B.pre
  have hts : ∀ w ∈ BG, w.before _ s = true := fun w h => hts0 w (List.mem_cons_of_mem _ h)
  have hown : s.vm.findClass RX0 = some m.cls := findClass_of_methodNamed B.named
  have hlocks := B.notSynchronized
  subst hsz
  have hA : ∀ q : Nat, s.heap.size ≤ q → (fun q : Nat => s.heap.size ≤ q) q := fun _ h => h
  have hD := hD0
  have hS : va_S (fun q : Nat => s.heap.size ≤ q) s.heap s.heap [] := va_S.rf
  have hP : va_P (dC, dI) vwCl [(h0, .inr (0, [.ref a0, w1, w2])), (a0, .inl (ka0, 8, .inl (fun _ => 0)))] s.heap := hP
  have hl := lv_entry ([.ref h0, .int n]) (n := 2) (Nat.le_of_ble_eq_true rfl)
  rw [lg_entry_eq]
  generalize (lg_sl ([.ref h0, .int n]) ++ List.replicate (2 - (lg_sl ([.ref h0, .int n])).length) Slot.unset).toArray = ls at hl ⊢
  have hl : lv_has ls 2 [(0, .ref h0), (1, .int n)] := hl
  skip
  refine lv_iload_n hx hb dX0_ownersOf_0 rfl (lv_at hl 1 rfl) ?_
  have hPc := hP.sub (ws' := []) [] rfl
  have hDc := hD.sub (ws' := []) [] (by decide) rfl
  have hKc := hK.sub (tys' := []) [] rfl
  refine va_calli (va_runSN (As := [.int n]) (rest := []) ⟨hx, hb, hml, hown, hts⟩ (c_isName l dC dI s.heap.size n) ⟨va_cnB 1 hts (gN mw_2_99) rfl rfl rfl (hN (RX0, 22, yX8_isName, RX8) (List.mem_of_getElem? (i := 8) rfl)) (hts _ mw_1_1) (by decide +kernel) ⟨Nat.le_of_ble_eq_true rfl, Nat.le_of_ble_eq_true rfl⟩, (hts _ mw_2_98), trivial⟩ ⟨pcW_blind, pcW_at hPc hKc hDc hN⟩ rfl rfl hl.1 rfl (lv_room (Nat.le_of_ble_eq_true rfl)) dX0_ownersOf_1 ⟨Nat.le_of_ble_eq_true rfl, Nat.le_of_ble_eq_true rfl⟩) hS (fun q h1 h2 => absurd h2 (Nat.not_le.mpr h1)) (fun q h => hA q (Nat.le_trans hS.1 h)) (fun r_1 u t H1 locs ht hvm hw_1 hB hz1 hk1 hS => ?_)
  have hP := keepP hP hk1
  clear hz1 hk1 hB ht hvm hPc hDc hKc
  generalize H1 = H at hP hS ⊢
  rcases fx_bool hw_1 with ⟨rfl, b_2⟩ | ⟨rfl, b_2⟩
  · skip
    refine lv_if_eq (tgt := 16) hx hb dX0_ownersOf_4 (by decide) (fun h => absurd h (by decide)) (fun _ => ?_)
    refine lv_aload_n hx hb dX0_ownersOf_7 rfl (lv_at hl 0 rfl) ?_
    refine va_get (D := (dC, dI)) (ci := 0) (v := .ref a0) (C := RX0) (T := TX0) (N := 3) hx hb hts inB_0 hown hK hP 0 rfl rfl 0 (by decide) (hts _ mw_1_92) (fun _ h9 => h9) rfl dX0_ownersOf_8 ?_
    refine lv_iload_n hx hb dX0_ownersOf_11 rfl (lv_at hl 1 rfl) ?_
    refine va_iald hx hb hK hP 1 0 rfl rfl (show vp_in n 8 from fx_in (by omega) (by omega)) dX0_ownersOf_12 ?_
    refine hx_top (y := 0) rfl ?_
    refine lv_goto (tgt := 17) hx hb dX0_ownersOf_13 (by decide) ?_
    exact W.iret (v := 0) hx hb hr (fun t ht hW => ⟨⟨0, (), rfl, rfl, trivial⟩, hS.F ht⟩) hS.2.2 dX0_ownersOf_17
  · skip
    refine lv_if_eq (tgt := 16) hx hb dX0_ownersOf_4 (by decide) (fun _ => ?_) (fun h => absurd (by decide) h)
    refine lv_iconst (v := 0) hx hb dX0_ownersOf_16 (by decide) ?_
    exact W.iret (v := 0) hx hb hr (fun t ht hW => ⟨⟨0, (), rfl, rfl, trivial⟩, hS.F ht⟩) hS.2.2 dX0_ownersOf_17
set_option maxHeartbeats 4000000 in
set_option maxRecDepth 100000 in
theorem c_isOwn (l : Launch) (dC : Nat → ClassId) (dI : Nat → Nat → Nat) (sz : Nat) (h0 : Nat) (a0 : Nat) (w1 : Value) (w2 : Value) (ka0 : ClassId) (j : Int32) (n : Int32)  : Met l yX0_isOwner (wq yX0_isOwner cX0_isOwner 3 (some .boolean)) ({ frames := 2, cells := 0, slots := 0, locals := 41 }) (va_Pc [.ref h0, .int j, .int n] (pcW dC dI [(ka0, .int)] [(h0, .inr (0, [.ref a0, w1, w2])), (a0, .inl (ka0, 8, .inl (fun _ => 0)))] sz)) (va_Qi (fun (r : Int32) (_ : Unit) => r = 0) (fun _ _ => True) (fun q : Nat => sz ≤ q)) 0 0 (fun q : Nat => sz ≤ q) := by
  refine Met.ofW (cc := cX0_isOwner) (maxL := 3) (ret := (some .boolean)) (by decide) rfl ?_
  intro p e s m args below meth c s₁ B hml hv
  obtain ⟨rfl, hsz, hN, hP, hK, hD0⟩ := hv
  have hx := B.exec
  have hb := B.bytes
  have hr := B.returns
  have hts0 := atoms_spec (ws := (wq yX0_isOwner cX0_isOwner 3 (some .boolean))) B.pre
  have hts : ∀ w ∈ BG, w.before _ s = true := fun w h => hts0 w (List.mem_cons_of_mem _ h)
  have hown : s.vm.findClass RX0 = some m.cls := findClass_of_methodNamed B.named
  have hlocks := B.notSynchronized
  subst hsz
  have hA : ∀ q : Nat, s.heap.size ≤ q → (fun q : Nat => s.heap.size ≤ q) q := fun _ h => h
  have hD := hD0
  have hS : va_S (fun q : Nat => s.heap.size ≤ q) s.heap s.heap [] := va_S.rf
  have hP : va_P (dC, dI) vwCl [(h0, .inr (0, [.ref a0, w1, w2])), (a0, .inl (ka0, 8, .inl (fun _ => 0)))] s.heap := hP
  have hl := lv_entry ([.ref h0, .int j, .int n]) (n := 3) (Nat.le_of_ble_eq_true rfl)
  rw [lg_entry_eq]
  generalize (lg_sl ([.ref h0, .int j, .int n]) ++ List.replicate (3 - (lg_sl ([.ref h0, .int j, .int n])).length) Slot.unset).toArray = ls at hl ⊢
  have hl : lv_has ls 3 [(0, .ref h0), (1, .int j), (2, .int n)] := hl
  skip
  refine lv_iload_n hx hb dX0_isOwner_0 rfl (lv_at hl 1 rfl) ?_
  refine lv_aload_n hx hb dX0_isOwner_1 rfl (lv_at hl 0 rfl) ?_
  refine lv_iload_n hx hb dX0_isOwner_2 rfl (lv_at hl 2 rfl) ?_
  have hPc := hP.sub (ws' := [(h0, .inr (0, [.ref a0, w1, w2])), (a0, .inl (ka0, 8, .inl (fun _ => 0)))]) [0, 1] rfl
  have hDc := hD.sub (ws' := [(h0, .inr (0, [.ref a0, w1, w2])), (a0, .inl (ka0, 8, .inl (fun _ => 0)))]) [0, 1] (by decide) rfl
  have hKc := hK.sub (tys' := [(ka0, .int)]) [0] rfl
  refine va_calli (va_runV (As := [.int n]) (rest := [.int j]) ⟨hx, hb, hml, hown, hts⟩ (c_own l dC dI s.heap.size h0 a0 (w1) (w2) ka0 n) (cwV 1 hts (gV mw_2_104 mw_2_105 mw_2_106 mw_1_5 mw_2_107) rfl rfl rfl (by decide +kernel) ⟨Nat.le_of_ble_eq_true rfl, Nat.le_of_ble_eq_true rfl⟩) ⟨pcW_blind, va_recv hKc hPc (ci := 0) (q0 := 0) rfl rfl, pcW_at hPc hKc hDc hN⟩ rfl rfl hl.1 rfl (lv_room (Nat.le_of_ble_eq_true rfl)) dX0_isOwner_3 ⟨Nat.le_of_ble_eq_true rfl, Nat.le_of_ble_eq_true rfl⟩) hS (fun q h1 h2 => absurd h2 (Nat.not_le.mpr h1)) (fun q h => hA q (Nat.le_trans hS.1 h)) (fun r_1 u t H1 locs ht hvm hw_1 hB hz1 hk1 hS => ?_)
  have hP := keepP hP hk1
  clear hz1 hk1 hB ht hvm hPc hDc hKc
  generalize H1 = H at hP hS ⊢
  obtain rfl : r_1 = 0 := hw_1
  have hPc := hP.sub (ws' := []) [] rfl
  have hDc := hD.sub (ws' := []) [] (by decide) rfl
  have hKc := hK.sub (tys' := []) [] rfl
  refine va_calli (va_runSN (As := [.int j, .int 0]) (rest := []) ⟨hx, hb, hml, hown, hts⟩ (c_isIn0 l dC dI H.size j) ⟨va_cnB 2 hts (gN mw_2_15) rfl rfl rfl (hN (RX0, 30, yX8_isIn, RX8) (List.mem_of_getElem? (i := 9) rfl)) (hts _ mw_1_1) (by decide +kernel) ⟨Nat.le_of_ble_eq_true rfl, Nat.le_of_ble_eq_true rfl⟩, (hts _ mw_2_14), trivial⟩ ⟨pcW_blind, pcW_at hPc hKc hDc hN⟩ rfl rfl hl.1 rfl (lv_room (Nat.le_of_ble_eq_true rfl)) dX0_isOwner_6 ⟨Nat.le_of_ble_eq_true rfl, Nat.le_of_ble_eq_true rfl⟩) hS (fun q h1 h2 => absurd h2 (Nat.not_le.mpr h1)) (fun q h => hA q (Nat.le_trans hS.1 h)) (fun r_2 u t H1 locs ht hvm hw_2 hB hz1 hk1 hS => ?_)
  have hP := keepP hP hk1
  clear hz1 hk1 hB ht hvm hPc hDc hKc
  generalize H1 = H at hP hS ⊢
  obtain rfl : r_2 = 0 := hw_2
  exact W.zret (v := 0) hx hb hr (by decide) (fun t ht hW => ⟨⟨0, (), rfl, rfl, trivial⟩, hS.F ht⟩) hS.2.2 dX0_isOwner_9
set_option maxHeartbeats 4000000 in
set_option maxRecDepth 100000 in
theorem c_names (l : Launch) (dC : Nat → ClassId) (dI : Nat → Nat → Nat) (sz : Nat) (h0 : Nat) (a0 : Nat) (w1 : Value) (w2 : Value) (ka0 : ClassId) (j : Int32)  : Met l yX0_namesOf (wq yX0_namesOf cX0_namesOf 4 (some .int)) ({ frames := 3, cells := 0, slots := 0, locals := 63 }) (va_Pc [.ref h0, .int j] (pcW dC dI [(ka0, .int)] [(h0, .inr (0, [.ref a0, w1, w2])), (a0, .inl (ka0, 8, .inl (fun _ => 0)))] sz)) (va_Qi (fun (r : Int32) (_ : Unit) => r = 0) (fun _ _ => True) (fun q : Nat => sz ≤ q)) 0 0 (fun q : Nat => sz ≤ q) := by
  refine Met.ofW (cc := cX0_namesOf) (maxL := 4) (ret := (some .int)) (by decide) rfl ?_
  intro p e s m args below meth c s₁ B hml hv
  obtain ⟨rfl, hsz, hN, hP, hK, hD0⟩ := hv
  have hx := B.exec
  have hb := B.bytes
  have hr := B.returns
  have hts0 := atoms_spec (ws := (wq yX0_namesOf cX0_namesOf 4 (some .int))) B.pre
  have hts : ∀ w ∈ BG, w.before _ s = true := fun w h => hts0 w (List.mem_cons_of_mem _ h)
  have hown : s.vm.findClass RX0 = some m.cls := findClass_of_methodNamed B.named
  have hlocks := B.notSynchronized
  subst hsz
  have hA : ∀ q : Nat, s.heap.size ≤ q → (fun q : Nat => s.heap.size ≤ q) q := fun _ h => h
  have hD := hD0
  have hS : va_S (fun q : Nat => s.heap.size ≤ q) s.heap s.heap [] := va_S.rf
  have hP : va_P (dC, dI) vwCl [(h0, .inr (0, [.ref a0, w1, w2])), (a0, .inl (ka0, 8, .inl (fun _ => 0)))] s.heap := hP
  have hl := lv_entry ([.ref h0, .int j]) (n := 4) (Nat.le_of_ble_eq_true rfl)
  rw [lg_entry_eq]
  generalize (lg_sl ([.ref h0, .int j]) ++ List.replicate (4 - (lg_sl ([.ref h0, .int j])).length) Slot.unset).toArray = ls at hl ⊢
  have hl : lv_has ls 4 [(0, .ref h0), (1, .int j)] := hl
  skip
  refine lv_iconst (v := 0) hx hb dX0_namesOf_0 (by decide) ?_
  refine lv_istore_n (lv' := [(2, .int 0), (0, .ref h0), (1, .int j)]) hx hb dX0_namesOf_1 rfl hl (by decide) rfl (fun ls hl => ?_)
  refine lv_iconst (v := 0) hx hb dX0_namesOf_2 (by decide) ?_
  refine lv_istore_n (lv' := [(3, .int 0), (2, .int 0), (0, .ref h0), (1, .int j)]) hx hb dX0_namesOf_3 rfl hl (by decide) rfl (fun ls hl => ?_)
  refine lv_iload_n hx hb dX0_namesOf_4 rfl (lv_at hl 0 rfl) ?_
  refine lv_bipush (v := 8) hx hb dX0_namesOf_5 (by decide) ?_
  refine lv_icmp_ge (tgt := 31) hx hb dX0_namesOf_7 (by decide) (fun h => absurd h (by decide)) (fun _ => ?_)
  refine lv_aload_n hx hb dX0_namesOf_10 rfl (lv_at hl 2 rfl) ?_
  refine lv_iload_n hx hb dX0_namesOf_11 rfl (lv_at hl 3 rfl) ?_
  refine lv_iload_n hx hb dX0_namesOf_12 rfl (lv_at hl 0 rfl) ?_
  have hPc := hP.sub (ws' := [(h0, .inr (0, [.ref a0, w1, w2])), (a0, .inl (ka0, 8, .inl (fun _ => 0)))]) [0, 1] rfl
  have hDc := hD.sub (ws' := [(h0, .inr (0, [.ref a0, w1, w2])), (a0, .inl (ka0, 8, .inl (fun _ => 0)))]) [0, 1] (by decide) rfl
  have hKc := hK.sub (tys' := [(ka0, .int)]) [0] rfl
  refine va_calli (va_runV (As := [.int j, .int 0]) (rest := []) ⟨hx, hb, hml, hown, hts⟩ (c_isOwn l dC dI s.heap.size h0 a0 (w1) (w2) ka0 j 0) (cwV 2 hts (gV mw_3_175 mw_2_101 mw_2_102 mw_1_5 mw_2_103) rfl rfl rfl (by decide +kernel) ⟨Nat.le_of_ble_eq_true rfl, Nat.le_of_ble_eq_true rfl⟩) ⟨pcW_blind, va_recv hKc hPc (ci := 0) (q0 := 0) rfl rfl, pcW_at hPc hKc hDc hN⟩ rfl rfl hl.1 rfl (lv_room (Nat.le_of_ble_eq_true rfl)) dX0_namesOf_13 ⟨Nat.le_of_ble_eq_true rfl, Nat.le_of_ble_eq_true rfl⟩) hS (fun q h1 h2 => absurd h2 (Nat.not_le.mpr h1)) (fun q h => hA q (Nat.le_trans hS.1 h)) (fun r_1 u t H1 locs ht hvm hw_1 hB hz1 hk1 hS => ?_)
  have hP := keepP hP hk1
  clear hz1 hk1 hB ht hvm hPc hDc hKc
  generalize H1 = H at hP hS ⊢
  obtain rfl : r_1 = 0 := hw_1
  refine lv_if_eq (tgt := 25) hx hb dX0_namesOf_16 (by decide) (fun _ => ?_) (fun h => absurd (by decide) h)
  refine lv_iinc (v := 1) (lv' := [(3, .int 1), (2, .int 0), (0, .ref h0), (1, .int j)]) hx hb dX0_namesOf_25 hl (k := 0) rfl (by decide) (by decide) rfl (fun ls hl => ?_)
  refine lv_goto (tgt := 4) hx hb dX0_namesOf_28 (by decide) ?_
  refine lv_iload_n hx hb dX0_namesOf_4 rfl (lv_at hl 0 rfl) ?_
  refine lv_bipush (v := 8) hx hb dX0_namesOf_5 (by decide) ?_
  refine lv_icmp_ge (tgt := 31) hx hb dX0_namesOf_7 (by decide) (fun h => absurd h (by decide)) (fun _ => ?_)
  refine lv_aload_n hx hb dX0_namesOf_10 rfl (lv_at hl 2 rfl) ?_
  refine lv_iload_n hx hb dX0_namesOf_11 rfl (lv_at hl 3 rfl) ?_
  refine lv_iload_n hx hb dX0_namesOf_12 rfl (lv_at hl 0 rfl) ?_
  have hPc := hP.sub (ws' := [(h0, .inr (0, [.ref a0, w1, w2])), (a0, .inl (ka0, 8, .inl (fun _ => 0)))]) [0, 1] rfl
  have hDc := hD.sub (ws' := [(h0, .inr (0, [.ref a0, w1, w2])), (a0, .inl (ka0, 8, .inl (fun _ => 0)))]) [0, 1] (by decide) rfl
  have hKc := hK.sub (tys' := [(ka0, .int)]) [0] rfl
  refine va_calli (va_runV (As := [.int j, .int 1]) (rest := []) ⟨hx, hb, hml, hown, hts⟩ (c_isOwn l dC dI H.size h0 a0 (w1) (w2) ka0 j 1) (cwV 2 hts (gV mw_3_175 mw_2_101 mw_2_102 mw_1_5 mw_2_103) rfl rfl rfl (by decide +kernel) ⟨Nat.le_of_ble_eq_true rfl, Nat.le_of_ble_eq_true rfl⟩) ⟨pcW_blind, va_recv hKc hPc (ci := 0) (q0 := 0) rfl rfl, pcW_at hPc hKc hDc hN⟩ rfl rfl hl.1 rfl (lv_room (Nat.le_of_ble_eq_true rfl)) dX0_namesOf_13 ⟨Nat.le_of_ble_eq_true rfl, Nat.le_of_ble_eq_true rfl⟩) hS (fun q h1 h2 => absurd h2 (Nat.not_le.mpr h1)) (fun q h => hA q (Nat.le_trans hS.1 h)) (fun r_2 u t H1 locs ht hvm hw_2 hB hz1 hk1 hS => ?_)
  have hP := keepP hP hk1
  clear hz1 hk1 hB ht hvm hPc hDc hKc
  generalize H1 = H at hP hS ⊢
  obtain rfl : r_2 = 0 := hw_2
  refine lv_if_eq (tgt := 25) hx hb dX0_namesOf_16 (by decide) (fun _ => ?_) (fun h => absurd (by decide) h)
  refine lv_iinc (v := 2) (lv' := [(3, .int 2), (2, .int 0), (0, .ref h0), (1, .int j)]) hx hb dX0_namesOf_25 hl (k := 0) rfl (by decide) (by decide) rfl (fun ls hl => ?_)
  refine lv_goto (tgt := 4) hx hb dX0_namesOf_28 (by decide) ?_
  refine lv_iload_n hx hb dX0_namesOf_4 rfl (lv_at hl 0 rfl) ?_
  refine lv_bipush (v := 8) hx hb dX0_namesOf_5 (by decide) ?_
  refine lv_icmp_ge (tgt := 31) hx hb dX0_namesOf_7 (by decide) (fun h => absurd h (by decide)) (fun _ => ?_)
  refine lv_aload_n hx hb dX0_namesOf_10 rfl (lv_at hl 2 rfl) ?_
  refine lv_iload_n hx hb dX0_namesOf_11 rfl (lv_at hl 3 rfl) ?_
  refine lv_iload_n hx hb dX0_namesOf_12 rfl (lv_at hl 0 rfl) ?_
  have hPc := hP.sub (ws' := [(h0, .inr (0, [.ref a0, w1, w2])), (a0, .inl (ka0, 8, .inl (fun _ => 0)))]) [0, 1] rfl
  have hDc := hD.sub (ws' := [(h0, .inr (0, [.ref a0, w1, w2])), (a0, .inl (ka0, 8, .inl (fun _ => 0)))]) [0, 1] (by decide) rfl
  have hKc := hK.sub (tys' := [(ka0, .int)]) [0] rfl
  refine va_calli (va_runV (As := [.int j, .int 2]) (rest := []) ⟨hx, hb, hml, hown, hts⟩ (c_isOwn l dC dI H.size h0 a0 (w1) (w2) ka0 j 2) (cwV 2 hts (gV mw_3_175 mw_2_101 mw_2_102 mw_1_5 mw_2_103) rfl rfl rfl (by decide +kernel) ⟨Nat.le_of_ble_eq_true rfl, Nat.le_of_ble_eq_true rfl⟩) ⟨pcW_blind, va_recv hKc hPc (ci := 0) (q0 := 0) rfl rfl, pcW_at hPc hKc hDc hN⟩ rfl rfl hl.1 rfl (lv_room (Nat.le_of_ble_eq_true rfl)) dX0_namesOf_13 ⟨Nat.le_of_ble_eq_true rfl, Nat.le_of_ble_eq_true rfl⟩) hS (fun q h1 h2 => absurd h2 (Nat.not_le.mpr h1)) (fun q h => hA q (Nat.le_trans hS.1 h)) (fun r_3 u t H1 locs ht hvm hw_3 hB hz1 hk1 hS => ?_)
  have hP := keepP hP hk1
  clear hz1 hk1 hB ht hvm hPc hDc hKc
  generalize H1 = H at hP hS ⊢
  obtain rfl : r_3 = 0 := hw_3
  refine lv_if_eq (tgt := 25) hx hb dX0_namesOf_16 (by decide) (fun _ => ?_) (fun h => absurd (by decide) h)
  refine lv_iinc (v := 3) (lv' := [(3, .int 3), (2, .int 0), (0, .ref h0), (1, .int j)]) hx hb dX0_namesOf_25 hl (k := 0) rfl (by decide) (by decide) rfl (fun ls hl => ?_)
  refine lv_goto (tgt := 4) hx hb dX0_namesOf_28 (by decide) ?_
  refine lv_iload_n hx hb dX0_namesOf_4 rfl (lv_at hl 0 rfl) ?_
  refine lv_bipush (v := 8) hx hb dX0_namesOf_5 (by decide) ?_
  refine lv_icmp_ge (tgt := 31) hx hb dX0_namesOf_7 (by decide) (fun h => absurd h (by decide)) (fun _ => ?_)
  refine lv_aload_n hx hb dX0_namesOf_10 rfl (lv_at hl 2 rfl) ?_
  refine lv_iload_n hx hb dX0_namesOf_11 rfl (lv_at hl 3 rfl) ?_
  refine lv_iload_n hx hb dX0_namesOf_12 rfl (lv_at hl 0 rfl) ?_
  have hPc := hP.sub (ws' := [(h0, .inr (0, [.ref a0, w1, w2])), (a0, .inl (ka0, 8, .inl (fun _ => 0)))]) [0, 1] rfl
  have hDc := hD.sub (ws' := [(h0, .inr (0, [.ref a0, w1, w2])), (a0, .inl (ka0, 8, .inl (fun _ => 0)))]) [0, 1] (by decide) rfl
  have hKc := hK.sub (tys' := [(ka0, .int)]) [0] rfl
  refine va_calli (va_runV (As := [.int j, .int 3]) (rest := []) ⟨hx, hb, hml, hown, hts⟩ (c_isOwn l dC dI H.size h0 a0 (w1) (w2) ka0 j 3) (cwV 2 hts (gV mw_3_175 mw_2_101 mw_2_102 mw_1_5 mw_2_103) rfl rfl rfl (by decide +kernel) ⟨Nat.le_of_ble_eq_true rfl, Nat.le_of_ble_eq_true rfl⟩) ⟨pcW_blind, va_recv hKc hPc (ci := 0) (q0 := 0) rfl rfl, pcW_at hPc hKc hDc hN⟩ rfl rfl hl.1 rfl (lv_room (Nat.le_of_ble_eq_true rfl)) dX0_namesOf_13 ⟨Nat.le_of_ble_eq_true rfl, Nat.le_of_ble_eq_true rfl⟩) hS (fun q h1 h2 => absurd h2 (Nat.not_le.mpr h1)) (fun q h => hA q (Nat.le_trans hS.1 h)) (fun r_4 u t H1 locs ht hvm hw_4 hB hz1 hk1 hS => ?_)
  have hP := keepP hP hk1
  clear hz1 hk1 hB ht hvm hPc hDc hKc
  generalize H1 = H at hP hS ⊢
  obtain rfl : r_4 = 0 := hw_4
  refine lv_if_eq (tgt := 25) hx hb dX0_namesOf_16 (by decide) (fun _ => ?_) (fun h => absurd (by decide) h)
  refine lv_iinc (v := 4) (lv' := [(3, .int 4), (2, .int 0), (0, .ref h0), (1, .int j)]) hx hb dX0_namesOf_25 hl (k := 0) rfl (by decide) (by decide) rfl (fun ls hl => ?_)
  refine lv_goto (tgt := 4) hx hb dX0_namesOf_28 (by decide) ?_
  refine lv_iload_n hx hb dX0_namesOf_4 rfl (lv_at hl 0 rfl) ?_
  refine lv_bipush (v := 8) hx hb dX0_namesOf_5 (by decide) ?_
  refine lv_icmp_ge (tgt := 31) hx hb dX0_namesOf_7 (by decide) (fun h => absurd h (by decide)) (fun _ => ?_)
  refine lv_aload_n hx hb dX0_namesOf_10 rfl (lv_at hl 2 rfl) ?_
  refine lv_iload_n hx hb dX0_namesOf_11 rfl (lv_at hl 3 rfl) ?_
  refine lv_iload_n hx hb dX0_namesOf_12 rfl (lv_at hl 0 rfl) ?_
  have hPc := hP.sub (ws' := [(h0, .inr (0, [.ref a0, w1, w2])), (a0, .inl (ka0, 8, .inl (fun _ => 0)))]) [0, 1] rfl
  have hDc := hD.sub (ws' := [(h0, .inr (0, [.ref a0, w1, w2])), (a0, .inl (ka0, 8, .inl (fun _ => 0)))]) [0, 1] (by decide) rfl
  have hKc := hK.sub (tys' := [(ka0, .int)]) [0] rfl
  refine va_calli (va_runV (As := [.int j, .int 4]) (rest := []) ⟨hx, hb, hml, hown, hts⟩ (c_isOwn l dC dI H.size h0 a0 (w1) (w2) ka0 j 4) (cwV 2 hts (gV mw_3_175 mw_2_101 mw_2_102 mw_1_5 mw_2_103) rfl rfl rfl (by decide +kernel) ⟨Nat.le_of_ble_eq_true rfl, Nat.le_of_ble_eq_true rfl⟩) ⟨pcW_blind, va_recv hKc hPc (ci := 0) (q0 := 0) rfl rfl, pcW_at hPc hKc hDc hN⟩ rfl rfl hl.1 rfl (lv_room (Nat.le_of_ble_eq_true rfl)) dX0_namesOf_13 ⟨Nat.le_of_ble_eq_true rfl, Nat.le_of_ble_eq_true rfl⟩) hS (fun q h1 h2 => absurd h2 (Nat.not_le.mpr h1)) (fun q h => hA q (Nat.le_trans hS.1 h)) (fun r_5 u t H1 locs ht hvm hw_5 hB hz1 hk1 hS => ?_)
  have hP := keepP hP hk1
  clear hz1 hk1 hB ht hvm hPc hDc hKc
  generalize H1 = H at hP hS ⊢
  obtain rfl : r_5 = 0 := hw_5
  refine lv_if_eq (tgt := 25) hx hb dX0_namesOf_16 (by decide) (fun _ => ?_) (fun h => absurd (by decide) h)
  refine lv_iinc (v := 5) (lv' := [(3, .int 5), (2, .int 0), (0, .ref h0), (1, .int j)]) hx hb dX0_namesOf_25 hl (k := 0) rfl (by decide) (by decide) rfl (fun ls hl => ?_)
  refine lv_goto (tgt := 4) hx hb dX0_namesOf_28 (by decide) ?_
  refine lv_iload_n hx hb dX0_namesOf_4 rfl (lv_at hl 0 rfl) ?_
  refine lv_bipush (v := 8) hx hb dX0_namesOf_5 (by decide) ?_
  refine lv_icmp_ge (tgt := 31) hx hb dX0_namesOf_7 (by decide) (fun h => absurd h (by decide)) (fun _ => ?_)
  refine lv_aload_n hx hb dX0_namesOf_10 rfl (lv_at hl 2 rfl) ?_
  refine lv_iload_n hx hb dX0_namesOf_11 rfl (lv_at hl 3 rfl) ?_
  refine lv_iload_n hx hb dX0_namesOf_12 rfl (lv_at hl 0 rfl) ?_
  have hPc := hP.sub (ws' := [(h0, .inr (0, [.ref a0, w1, w2])), (a0, .inl (ka0, 8, .inl (fun _ => 0)))]) [0, 1] rfl
  have hDc := hD.sub (ws' := [(h0, .inr (0, [.ref a0, w1, w2])), (a0, .inl (ka0, 8, .inl (fun _ => 0)))]) [0, 1] (by decide) rfl
  have hKc := hK.sub (tys' := [(ka0, .int)]) [0] rfl
  refine va_calli (va_runV (As := [.int j, .int 5]) (rest := []) ⟨hx, hb, hml, hown, hts⟩ (c_isOwn l dC dI H.size h0 a0 (w1) (w2) ka0 j 5) (cwV 2 hts (gV mw_3_175 mw_2_101 mw_2_102 mw_1_5 mw_2_103) rfl rfl rfl (by decide +kernel) ⟨Nat.le_of_ble_eq_true rfl, Nat.le_of_ble_eq_true rfl⟩) ⟨pcW_blind, va_recv hKc hPc (ci := 0) (q0 := 0) rfl rfl, pcW_at hPc hKc hDc hN⟩ rfl rfl hl.1 rfl (lv_room (Nat.le_of_ble_eq_true rfl)) dX0_namesOf_13 ⟨Nat.le_of_ble_eq_true rfl, Nat.le_of_ble_eq_true rfl⟩) hS (fun q h1 h2 => absurd h2 (Nat.not_le.mpr h1)) (fun q h => hA q (Nat.le_trans hS.1 h)) (fun r_6 u t H1 locs ht hvm hw_6 hB hz1 hk1 hS => ?_)
  have hP := keepP hP hk1
  clear hz1 hk1 hB ht hvm hPc hDc hKc
  generalize H1 = H at hP hS ⊢
  obtain rfl : r_6 = 0 := hw_6
  refine lv_if_eq (tgt := 25) hx hb dX0_namesOf_16 (by decide) (fun _ => ?_) (fun h => absurd (by decide) h)
  refine lv_iinc (v := 6) (lv' := [(3, .int 6), (2, .int 0), (0, .ref h0), (1, .int j)]) hx hb dX0_namesOf_25 hl (k := 0) rfl (by decide) (by decide) rfl (fun ls hl => ?_)
  refine lv_goto (tgt := 4) hx hb dX0_namesOf_28 (by decide) ?_
  refine lv_iload_n hx hb dX0_namesOf_4 rfl (lv_at hl 0 rfl) ?_
  refine lv_bipush (v := 8) hx hb dX0_namesOf_5 (by decide) ?_
  refine lv_icmp_ge (tgt := 31) hx hb dX0_namesOf_7 (by decide) (fun h => absurd h (by decide)) (fun _ => ?_)
  refine lv_aload_n hx hb dX0_namesOf_10 rfl (lv_at hl 2 rfl) ?_
  refine lv_iload_n hx hb dX0_namesOf_11 rfl (lv_at hl 3 rfl) ?_
  refine lv_iload_n hx hb dX0_namesOf_12 rfl (lv_at hl 0 rfl) ?_
  have hPc := hP.sub (ws' := [(h0, .inr (0, [.ref a0, w1, w2])), (a0, .inl (ka0, 8, .inl (fun _ => 0)))]) [0, 1] rfl
  have hDc := hD.sub (ws' := [(h0, .inr (0, [.ref a0, w1, w2])), (a0, .inl (ka0, 8, .inl (fun _ => 0)))]) [0, 1] (by decide) rfl
  have hKc := hK.sub (tys' := [(ka0, .int)]) [0] rfl
  refine va_calli (va_runV (As := [.int j, .int 6]) (rest := []) ⟨hx, hb, hml, hown, hts⟩ (c_isOwn l dC dI H.size h0 a0 (w1) (w2) ka0 j 6) (cwV 2 hts (gV mw_3_175 mw_2_101 mw_2_102 mw_1_5 mw_2_103) rfl rfl rfl (by decide +kernel) ⟨Nat.le_of_ble_eq_true rfl, Nat.le_of_ble_eq_true rfl⟩) ⟨pcW_blind, va_recv hKc hPc (ci := 0) (q0 := 0) rfl rfl, pcW_at hPc hKc hDc hN⟩ rfl rfl hl.1 rfl (lv_room (Nat.le_of_ble_eq_true rfl)) dX0_namesOf_13 ⟨Nat.le_of_ble_eq_true rfl, Nat.le_of_ble_eq_true rfl⟩) hS (fun q h1 h2 => absurd h2 (Nat.not_le.mpr h1)) (fun q h => hA q (Nat.le_trans hS.1 h)) (fun r_7 u t H1 locs ht hvm hw_7 hB hz1 hk1 hS => ?_)
  have hP := keepP hP hk1
  clear hz1 hk1 hB ht hvm hPc hDc hKc
  generalize H1 = H at hP hS ⊢
  obtain rfl : r_7 = 0 := hw_7
  refine lv_if_eq (tgt := 25) hx hb dX0_namesOf_16 (by decide) (fun _ => ?_) (fun h => absurd (by decide) h)
  refine lv_iinc (v := 7) (lv' := [(3, .int 7), (2, .int 0), (0, .ref h0), (1, .int j)]) hx hb dX0_namesOf_25 hl (k := 0) rfl (by decide) (by decide) rfl (fun ls hl => ?_)
  refine lv_goto (tgt := 4) hx hb dX0_namesOf_28 (by decide) ?_
  refine lv_iload_n hx hb dX0_namesOf_4 rfl (lv_at hl 0 rfl) ?_
  refine lv_bipush (v := 8) hx hb dX0_namesOf_5 (by decide) ?_
  refine lv_icmp_ge (tgt := 31) hx hb dX0_namesOf_7 (by decide) (fun h => absurd h (by decide)) (fun _ => ?_)
  refine lv_aload_n hx hb dX0_namesOf_10 rfl (lv_at hl 2 rfl) ?_
  refine lv_iload_n hx hb dX0_namesOf_11 rfl (lv_at hl 3 rfl) ?_
  refine lv_iload_n hx hb dX0_namesOf_12 rfl (lv_at hl 0 rfl) ?_
  have hPc := hP.sub (ws' := [(h0, .inr (0, [.ref a0, w1, w2])), (a0, .inl (ka0, 8, .inl (fun _ => 0)))]) [0, 1] rfl
  have hDc := hD.sub (ws' := [(h0, .inr (0, [.ref a0, w1, w2])), (a0, .inl (ka0, 8, .inl (fun _ => 0)))]) [0, 1] (by decide) rfl
  have hKc := hK.sub (tys' := [(ka0, .int)]) [0] rfl
  refine va_calli (va_runV (As := [.int j, .int 7]) (rest := []) ⟨hx, hb, hml, hown, hts⟩ (c_isOwn l dC dI H.size h0 a0 (w1) (w2) ka0 j 7) (cwV 2 hts (gV mw_3_175 mw_2_101 mw_2_102 mw_1_5 mw_2_103) rfl rfl rfl (by decide +kernel) ⟨Nat.le_of_ble_eq_true rfl, Nat.le_of_ble_eq_true rfl⟩) ⟨pcW_blind, va_recv hKc hPc (ci := 0) (q0 := 0) rfl rfl, pcW_at hPc hKc hDc hN⟩ rfl rfl hl.1 rfl (lv_room (Nat.le_of_ble_eq_true rfl)) dX0_namesOf_13 ⟨Nat.le_of_ble_eq_true rfl, Nat.le_of_ble_eq_true rfl⟩) hS (fun q h1 h2 => absurd h2 (Nat.not_le.mpr h1)) (fun q h => hA q (Nat.le_trans hS.1 h)) (fun r_8 u t H1 locs ht hvm hw_8 hB hz1 hk1 hS => ?_)
  have hP := keepP hP hk1
  clear hz1 hk1 hB ht hvm hPc hDc hKc
  generalize H1 = H at hP hS ⊢
  obtain rfl : r_8 = 0 := hw_8
  refine lv_if_eq (tgt := 25) hx hb dX0_namesOf_16 (by decide) (fun _ => ?_) (fun h => absurd (by decide) h)
  refine lv_iinc (v := 8) (lv' := [(3, .int 8), (2, .int 0), (0, .ref h0), (1, .int j)]) hx hb dX0_namesOf_25 hl (k := 0) rfl (by decide) (by decide) rfl (fun ls hl => ?_)
  refine lv_goto (tgt := 4) hx hb dX0_namesOf_28 (by decide) ?_
  refine lv_iload_n hx hb dX0_namesOf_4 rfl (lv_at hl 0 rfl) ?_
  refine lv_bipush (v := 8) hx hb dX0_namesOf_5 (by decide) ?_
  refine lv_icmp_ge (tgt := 31) hx hb dX0_namesOf_7 (by decide) (fun _ => ?_) (fun h => absurd (by decide) h)
  refine lv_iload_n hx hb dX0_namesOf_31 rfl (lv_at hl 1 rfl) ?_
  exact W.iret (v := 0) hx hb hr (fun t ht hW => ⟨⟨0, (), rfl, rfl, trivial⟩, hS.F ht⟩) hS.2.2 dX0_namesOf_32
