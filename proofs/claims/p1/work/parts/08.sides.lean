theorem mw_2_212 : Cond.code yX1_howMany cX1_howMany 1 (some .int) ∈ BG := mB (t2 (i := 212) rfl) (by decide +kernel)
theorem mw_2_209 : Cond.methodLink RX6 19 yX1_howMany ∈ BG := mB (t2 (i := 209) (by decide +kernel)) (by decide +kernel)
theorem mw_2_210 : Cond.instanceMethod yX1_howMany ∈ BG := mB (t2 (i := 210) (by decide +kernel)) (by decide +kernel)
theorem mw_2_211 : Cond.selects RX1 yX1_howMany yX1_howMany ∈ BG := mB (t2 (i := 211) (by decide +kernel)) (by decide +kernel)
theorem dX6_doubtful_0 : decode cX6_doubtful 0 = .ok (.iconst 0, 1) := by decide +kernel
theorem dX6_doubtful_1 : decode cX6_doubtful 1 = .ok (.istore_n 2, 1) := by decide +kernel
theorem dX6_doubtful_2 : decode cX6_doubtful 2 = .ok (.aload_n 0, 1) := by decide +kernel
theorem dX6_doubtful_3 : decode cX6_doubtful 3 = .ok (.invokevirtual 19, 3) := by decide +kernel
theorem dX6_doubtful_6 : decode cX6_doubtful 6 = .ok (.istore_n 3, 1) := by decide +kernel
theorem dX6_doubtful_7 : decode cX6_doubtful 7 = .ok (.iconst 0, 1) := by decide +kernel
theorem dX6_doubtful_8 : decode cX6_doubtful 8 = .ok (.istore 4, 2) := by decide +kernel
theorem dX6_doubtful_10 : decode cX6_doubtful 10 = .ok (.iload 4, 2) := by decide +kernel
theorem dX6_doubtful_12 : decode cX6_doubtful 12 = .ok (.iload_n 3, 1) := by decide +kernel
theorem dX6_doubtful_13 : decode cX6_doubtful 13 = .ok (.if_icmp .ge 26, 3) := by decide +kernel
theorem dX6_doubtful_39 : decode cX6_doubtful 39 = .ok (.iload_n 2, 1) := by decide +kernel
theorem dX6_doubtful_40 : decode cX6_doubtful 40 = .ok (.ireturn, 1) := by decide +kernel
theorem dX6_settlers_0 : decode cX6_settlers 0 = .ok (.iconst 0, 1) := by decide +kernel
theorem dX6_settlers_1 : decode cX6_settlers 1 = .ok (.istore_n 2, 1) := by decide +kernel
theorem dX6_settlers_2 : decode cX6_settlers 2 = .ok (.aload_n 0, 1) := by decide +kernel
theorem dX6_settlers_3 : decode cX6_settlers 3 = .ok (.invokevirtual 19, 3) := by decide +kernel
theorem dX6_settlers_6 : decode cX6_settlers 6 = .ok (.istore_n 3, 1) := by decide +kernel
theorem dX6_settlers_7 : decode cX6_settlers 7 = .ok (.iconst 0, 1) := by decide +kernel
theorem dX6_settlers_8 : decode cX6_settlers 8 = .ok (.istore 4, 2) := by decide +kernel
theorem dX6_settlers_10 : decode cX6_settlers 10 = .ok (.iload 4, 2) := by decide +kernel
theorem dX6_settlers_12 : decode cX6_settlers 12 = .ok (.iload_n 3, 1) := by decide +kernel
theorem dX6_settlers_13 : decode cX6_settlers 13 = .ok (.if_icmp .ge 28, 3) := by decide +kernel
theorem dX6_settlers_41 : decode cX6_settlers 41 = .ok (.iload_n 2, 1) := by decide +kernel
theorem dX6_settlers_42 : decode cX6_settlers 42 = .ok (.ireturn, 1) := by decide +kernel
set_option maxHeartbeats 4000000 in
set_option maxRecDepth 100000 in
theorem c_doubtful (l : Launch) (dC : Nat → ClassId) (dI : Nat → Nat → Nat) (sz : Nat) (h0 : Nat) (w0 : Value) (w1 : Value) (w2 : Value) (w3 : Value) (w4 : Value) (w5 : Value) (w7 : Value) (o : Int32)  : Met l yX6_doubtful (wq yX6_doubtful cX6_doubtful 5 (some .int)) ({ frames := 1, cells := 0, slots := 0, locals := 20 }) (va_Pc [.ref h0, .int o] (pcW dC dI [] [(h0, .inr (1, [w0, w1, w2, w3, w4, w5, .int 0, w7]))] sz)) (va_Qi (fun (r : Int32) (_ : Unit) => r = 0) (fun _ _ => True) (fun q : Nat => sz ≤ q)) 0 0 (fun q : Nat => sz ≤ q) := by
  refine Met.ofW (cc := cX6_doubtful) (maxL := 5) (ret := (some .int)) (by decide) rfl ?_
  intro p e s m args below meth c s₁ B hml hv
  obtain ⟨rfl, hsz, hN, hP, hK, hD0⟩ := hv
  have hx := B.exec
  have hb := B.bytes
  have hr := B.returns
  have hts0 := atoms_spec (ws := (wq yX6_doubtful cX6_doubtful 5 (some .int))) B.pre
  have hts : ∀ w ∈ BG, w.before _ s = true := fun w h => hts0 w (List.mem_cons_of_mem _ h)
  have hown : s.vm.findClass RX6 = some m.cls := findClass_of_methodNamed B.named
  have hlocks := B.notSynchronized
  subst hsz
  have hA : ∀ q : Nat, s.heap.size ≤ q → (fun q : Nat => s.heap.size ≤ q) q := fun _ h => h
  have hD := hD0
  have hS : va_S (fun q : Nat => s.heap.size ≤ q) s.heap s.heap [] := va_S.rf
  have hP : va_P (dC, dI) vwCl [(h0, .inr (1, [w0, w1, w2, w3, w4, w5, .int 0, w7]))] s.heap := hP
  have hl := lv_entry ([.ref h0, .int o]) (n := 5) (Nat.le_of_ble_eq_true rfl)
  rw [lg_entry_eq]
  generalize (lg_sl ([.ref h0, .int o]) ++ List.replicate (5 - (lg_sl ([.ref h0, .int o])).length) Slot.unset).toArray = ls at hl ⊢
  have hl : lv_has ls 5 [(0, .ref h0), (1, .int o)] := hl
  skip
  refine lv_iconst (v := 0) hx hb dX6_doubtful_0 (by decide) ?_
  refine lv_istore_n (lv' := [(2, .int 0), (0, .ref h0), (1, .int o)]) hx hb dX6_doubtful_1 rfl hl (by decide) rfl (fun ls hl => ?_)
  refine lv_aload_n hx hb dX6_doubtful_2 rfl (lv_at hl 1 rfl) ?_
  have hPc := hP.sub (ws' := [(h0, .inr (1, [w0, w1, w2, w3, w4, w5, .int 0, w7]))]) [0] rfl
  have hDc := hD.sub (ws' := [(h0, .inr (1, [w0, w1, w2, w3, w4, w5, .int 0, w7]))]) [0] (by decide) rfl
  have hKc := hK.sub (tys' := []) [] rfl
  refine va_calli (va_runV (As := []) (rest := []) ⟨hx, hb, hml, hown, hts⟩ (c_howMany l dC dI s.heap.size h0 (w0) (w1) (w2) (w3) (w4) (w5) (w7)) (cwV 0 hts (gV mw_2_209 mw_2_210 mw_2_211 mw_1_2 mw_2_212) rfl rfl rfl (by decide +kernel) ⟨Nat.le_of_ble_eq_true rfl, Nat.le_of_ble_eq_true rfl⟩) ⟨pcW_blind, va_recv hKc hPc (ci := 1) (q0 := 0) rfl rfl, pcW_at hPc hKc hDc hN⟩ rfl rfl hl.1 rfl (lv_room (Nat.le_of_ble_eq_true rfl)) dX6_doubtful_3 ⟨Nat.le_of_ble_eq_true rfl, Nat.le_of_ble_eq_true rfl⟩) hS (fun q h1 h2 => absurd h2 (Nat.not_le.mpr h1)) (fun q h => hA q (Nat.le_trans hS.1 h)) (fun r_1 u t H1 locs ht hvm hw_1 hB hz1 hk1 hS => ?_)
  have hP := keepP hP hk1
  clear hz1 hk1 hB ht hvm hPc hDc hKc
  generalize H1 = H at hP hS ⊢
  obtain rfl : r_1 = 0 := hw_1
  refine lv_istore_n (lv' := [(3, .int 0), (2, .int 0), (0, .ref h0), (1, .int o)]) hx hb dX6_doubtful_6 rfl hl (by decide) rfl (fun ls hl => ?_)
  refine lv_iconst (v := 0) hx hb dX6_doubtful_7 (by decide) ?_
  refine lv_istore (lv' := [(4, .int 0), (3, .int 0), (2, .int 0), (0, .ref h0), (1, .int o)]) hx hb dX6_doubtful_8 hl (by decide) rfl (fun ls hl => ?_)
  refine lv_iload hx hb dX6_doubtful_10 (lv_at hl 0 rfl) ?_
  refine lv_iload_n hx hb dX6_doubtful_12 rfl (lv_at hl 1 rfl) ?_
  refine lv_icmp_ge (tgt := 39) hx hb dX6_doubtful_13 (by decide) (fun _ => ?_) (fun h => absurd (by decide) h)
  refine lv_iload_n hx hb dX6_doubtful_39 rfl (lv_at hl 2 rfl) ?_
  exact W.iret (v := 0) hx hb hr (fun t ht hW => ⟨⟨0, (), rfl, rfl, trivial⟩, hS.F ht⟩) hS.2.2 dX6_doubtful_40
set_option maxHeartbeats 4000000 in
set_option maxRecDepth 100000 in
theorem c_settlers (l : Launch) (dC : Nat → ClassId) (dI : Nat → Nat → Nat) (sz : Nat) (h0 : Nat) (w0 : Value) (w1 : Value) (w2 : Value) (w3 : Value) (w4 : Value) (w5 : Value) (w7 : Value) (o : Int32)  : Met l yX6_settlers (wq yX6_settlers cX6_settlers 5 (some .int)) ({ frames := 1, cells := 0, slots := 0, locals := 20 }) (va_Pc [.ref h0, .int o] (pcW dC dI [] [(h0, .inr (1, [w0, w1, w2, w3, w4, w5, .int 0, w7]))] sz)) (va_Qi (fun (r : Int32) (_ : Unit) => r = 0) (fun _ _ => True) (fun q : Nat => sz ≤ q)) 0 0 (fun q : Nat => sz ≤ q) := by
  refine Met.ofW (cc := cX6_settlers) (maxL := 5) (ret := (some .int)) (by decide) rfl ?_
  intro p e s m args below meth c s₁ B hml hv
  obtain ⟨rfl, hsz, hN, hP, hK, hD0⟩ := hv
  have hx := B.exec
  have hb := B.bytes
  have hr := B.returns
  have hts0 := atoms_spec (ws := (wq yX6_settlers cX6_settlers 5 (some .int))) B.pre
  have hts : ∀ w ∈ BG, w.before _ s = true := fun w h => hts0 w (List.mem_cons_of_mem _ h)
  have hown : s.vm.findClass RX6 = some m.cls := findClass_of_methodNamed B.named
  have hlocks := B.notSynchronized
  subst hsz
  have hA : ∀ q : Nat, s.heap.size ≤ q → (fun q : Nat => s.heap.size ≤ q) q := fun _ h => h
  have hD := hD0
  have hS : va_S (fun q : Nat => s.heap.size ≤ q) s.heap s.heap [] := va_S.rf
  have hP : va_P (dC, dI) vwCl [(h0, .inr (1, [w0, w1, w2, w3, w4, w5, .int 0, w7]))] s.heap := hP
  have hl := lv_entry ([.ref h0, .int o]) (n := 5) (Nat.le_of_ble_eq_true rfl)
  rw [lg_entry_eq]
  generalize (lg_sl ([.ref h0, .int o]) ++ List.replicate (5 - (lg_sl ([.ref h0, .int o])).length) Slot.unset).toArray = ls at hl ⊢
  have hl : lv_has ls 5 [(0, .ref h0), (1, .int o)] := hl
  skip
  refine lv_iconst (v := 0) hx hb dX6_settlers_0 (by decide) ?_
  refine lv_istore_n (lv' := [(2, .int 0), (0, .ref h0), (1, .int o)]) hx hb dX6_settlers_1 rfl hl (by decide) rfl (fun ls hl => ?_)
  refine lv_aload_n hx hb dX6_settlers_2 rfl (lv_at hl 1 rfl) ?_
  have hPc := hP.sub (ws' := [(h0, .inr (1, [w0, w1, w2, w3, w4, w5, .int 0, w7]))]) [0] rfl
  have hDc := hD.sub (ws' := [(h0, .inr (1, [w0, w1, w2, w3, w4, w5, .int 0, w7]))]) [0] (by decide) rfl
  have hKc := hK.sub (tys' := []) [] rfl
  refine va_calli (va_runV (As := []) (rest := []) ⟨hx, hb, hml, hown, hts⟩ (c_howMany l dC dI s.heap.size h0 (w0) (w1) (w2) (w3) (w4) (w5) (w7)) (cwV 0 hts (gV mw_2_209 mw_2_210 mw_2_211 mw_1_2 mw_2_212) rfl rfl rfl (by decide +kernel) ⟨Nat.le_of_ble_eq_true rfl, Nat.le_of_ble_eq_true rfl⟩) ⟨pcW_blind, va_recv hKc hPc (ci := 1) (q0 := 0) rfl rfl, pcW_at hPc hKc hDc hN⟩ rfl rfl hl.1 rfl (lv_room (Nat.le_of_ble_eq_true rfl)) dX6_settlers_3 ⟨Nat.le_of_ble_eq_true rfl, Nat.le_of_ble_eq_true rfl⟩) hS (fun q h1 h2 => absurd h2 (Nat.not_le.mpr h1)) (fun q h => hA q (Nat.le_trans hS.1 h)) (fun r_1 u t H1 locs ht hvm hw_1 hB hz1 hk1 hS => ?_)
  have hP := keepP hP hk1
  clear hz1 hk1 hB ht hvm hPc hDc hKc
  generalize H1 = H at hP hS ⊢
  obtain rfl : r_1 = 0 := hw_1
  refine lv_istore_n (lv' := [(3, .int 0), (2, .int 0), (0, .ref h0), (1, .int o)]) hx hb dX6_settlers_6 rfl hl (by decide) rfl (fun ls hl => ?_)
  refine lv_iconst (v := 0) hx hb dX6_settlers_7 (by decide) ?_
  refine lv_istore (lv' := [(4, .int 0), (3, .int 0), (2, .int 0), (0, .ref h0), (1, .int o)]) hx hb dX6_settlers_8 hl (by decide) rfl (fun ls hl => ?_)
  refine lv_iload hx hb dX6_settlers_10 (lv_at hl 0 rfl) ?_
  refine lv_iload_n hx hb dX6_settlers_12 rfl (lv_at hl 1 rfl) ?_
  refine lv_icmp_ge (tgt := 41) hx hb dX6_settlers_13 (by decide) (fun _ => ?_) (fun h => absurd (by decide) h)
  refine lv_iload_n hx hb dX6_settlers_41 rfl (lv_at hl 2 rfl) ?_
  exact W.iret (v := 0) hx hb hr (fun t ht hW => ⟨⟨0, (), rfl, rfl, trivial⟩, hS.F ht⟩) hS.2.2 dX6_settlers_42
