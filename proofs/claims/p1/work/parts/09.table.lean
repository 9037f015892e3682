theorem mw_1_132 : Cond.laysFinal RX7 "AnswerLines$Table" "rows" "[I" ∈ BG := mB (t1 (i := 132) (by decide +kernel)) (by decide +kernel)
theorem mw_1_134 : Cond.laysFinal RX7 "AnswerLines$Table" "together" "[I" ∈ BG := mB (t1 (i := 134) (by decide +kernel)) (by decide +kernel)
theorem mw_1_136 : Cond.laysFinal RX7 "AnswerLines$Table" "columns" "[I" ∈ BG := mB (t1 (i := 136) (by decide +kernel)) (by decide +kernel)
theorem mw_1_138 : Cond.laysFinal RX7 "AnswerLines$Table" "pushedTo" "[I" ∈ BG := mB (t1 (i := 138) (by decide +kernel)) (by decide +kernel)
theorem mw_1_140 : Cond.laysFinal RX7 "AnswerLines$Table" "slots" "[I" ∈ BG := mB (t1 (i := 140) (by decide +kernel)) (by decide +kernel)
theorem inB_7 : ∀ w ∈ u_ws RX7 TX7 5, w ∈ BG := fun w hw => by
  obtain ⟨k, hk, rfl⟩ := List.mem_map.mp hw
  have hk := List.mem_range.mp hk
  rcases (by omega : k = 0 ∨ k = 1 ∨ k = 2 ∨ k = 3 ∨ k = 4) with rfl | rfl | rfl | rfl | rfl
  · exact mw_1_132
  · exact mw_1_134
  · exact mw_1_136
  · exact mw_1_138
  · exact mw_1_140
theorem mw_1_127 : Cond.fieldLink RX7 9 "AnswerLines$Table" "rows" "[I" ∈ BG := mB (t1 (i := 127) (by decide +kernel)) (by decide +kernel)
theorem mw_3_13 : Cond.code yX1_hasRow cX1_hasRow 2 (some .boolean) ∈ BG := mB (t3 (i := 13) rfl) (by decide +kernel)
theorem mw_3_10 : Cond.methodLink RX7 27 yX1_hasRow ∈ BG := mB (t3 (i := 10) (by decide +kernel)) (by decide +kernel)
theorem mw_3_11 : Cond.instanceMethod yX1_hasRow ∈ BG := mB (t3 (i := 11) (by decide +kernel)) (by decide +kernel)
theorem mw_3_12 : Cond.selects RX1 yX1_hasRow yX1_hasRow ∈ BG := mB (t3 (i := 12) (by decide +kernel)) (by decide +kernel)
theorem dX7_fill_0 : decode cX7_fill 0 = .ok (.iconst 0, 1) := by decide +kernel
theorem dX7_fill_1 : decode cX7_fill 1 = .ok (.istore_n 3, 1) := by decide +kernel
theorem dX7_fill_2 : decode cX7_fill 2 = .ok (.iload_n 3, 1) := by decide +kernel
theorem dX7_fill_3 : decode cX7_fill 3 = .ok (.bipush 10, 2) := by decide +kernel
theorem dX7_fill_5 : decode cX7_fill 5 = .ok (.if_icmp .ge 73, 3) := by decide +kernel
theorem dX7_fill_8 : decode cX7_fill 8 = .ok (.aload_n 0, 1) := by decide +kernel
theorem dX7_fill_9 : decode cX7_fill 9 = .ok (.getfield 9, 3) := by decide +kernel
theorem dX7_fill_12 : decode cX7_fill 12 = .ok (.iload_n 3, 1) := by decide +kernel
theorem dX7_fill_13 : decode cX7_fill 13 = .ok (.iconst 0, 1) := by decide +kernel
theorem dX7_fill_14 : decode cX7_fill 14 = .ok (.iastore, 1) := by decide +kernel
theorem dX7_fill_15 : decode cX7_fill 15 = .ok (.aload_n 1, 1) := by decide +kernel
theorem dX7_fill_16 : decode cX7_fill 16 = .ok (.iload_n 3, 1) := by decide +kernel
theorem dX7_fill_17 : decode cX7_fill 17 = .ok (.invokevirtual 27, 3) := by decide +kernel
theorem dX7_fill_20 : decode cX7_fill 20 = .ok (.ifCond .ne 6, 3) := by decide +kernel
theorem dX7_fill_23 : decode cX7_fill 23 = .ok (.goto 49, 3) := by decide +kernel
theorem dX7_fill_72 : decode cX7_fill 72 = .ok (.iinc 3 1, 3) := by decide +kernel
theorem dX7_fill_75 : decode cX7_fill 75 = .ok (.goto (-73), 3) := by decide +kernel
theorem dX7_fill_78 : decode cX7_fill 78 = .ok (.return_, 1) := by decide +kernel
set_option maxHeartbeats 4000000 in
set_option maxRecDepth 100000 in
theorem c_fill (l : Launch) (dC : Nat → ClassId) (dI : Nat → Nat → Nat) (sz : Nat) (h0 : Nat) (a0 : Nat) (w1 : Value) (w2 : Value) (w3 : Value) (w4 : Value) (ka0 : ClassId) (h1 : Nat) (v0 : Value) (v1 : Value) (v2 : Value) (v3 : Value) (v4 : Value) (v5 : Value) (v7 : Value) (h9 : Nat)  : Met l yX7_fill (wq yX7_fill cX7_fill 5 none) ({ frames := 4, cells := 0, slots := 0, locals := 84 }) (va_Pc [.ref h0, .ref h1, .ref h9] (pcW dC dI [(ka0, .int)] [(h0, .inr (6, [.ref a0, w1, w2, w3, w4])), (a0, .inl (ka0, 10, .inl (fun _ => 0))), (h1, .inr (1, [v0, v1, v2, v3, v4, v5, .int 0, v7]))] sz)) (va_Qv (fun _ : Unit => True) (fun _ t => va_P (dC, dI) vwCl [(h0, .inr (6, [.ref a0, w1, w2, w3, w4])), (a0, .inl (ka0, 10, .inl (fun _ => 0))), (h1, .inr (1, [v0, v1, v2, v3, v4, v5, .int 0, v7]))] t.heap ∧ va_K (dC, dI) vwCl [(ka0, .int)] t ∧ va_D (va_A [(h0, .inr (6, [.ref a0, w1, w2, w3, w4])), (a0, .inl (ka0, 10, .inl (fun _ => 0))), (h1, .inr (1, [v0, v1, v2, v3, v4, v5, .int 0, v7]))] sz) [(h0, .inr (6, [.ref a0, w1, w2, w3, w4])), (a0, .inl (ka0, 10, .inl (fun _ => 0))), (h1, .inr (1, [v0, v1, v2, v3, v4, v5, .int 0, v7]))]) (va_A [(h0, .inr (6, [.ref a0, w1, w2, w3, w4])), (a0, .inl (ka0, 10, .inl (fun _ => 0))), (h1, .inr (1, [v0, v1, v2, v3, v4, v5, .int 0, v7]))] sz)) 0 0 (va_A [(h0, .inr (6, [.ref a0, w1, w2, w3, w4])), (a0, .inl (ka0, 10, .inl (fun _ => 0))), (h1, .inr (1, [v0, v1, v2, v3, v4, v5, .int 0, v7]))] sz) := by
  refine Met.ofW (cc := cX7_fill) (maxL := 5) (ret := none) (by decide) rfl ?_
  intro p e s m args below meth c s₁ B hml hv
  obtain ⟨rfl, hsz, hN, hP, hK, hD0⟩ := hv
  have hx := B.exec
  have hb := B.bytes
  have hr := B.returns
  have hts0 := atoms_spec (ws := (wq yX7_fill cX7_fill 5 none)) B.pre
  have hts : ∀ w ∈ BG, w.before _ s = true := fun w h => hts0 w (List.mem_cons_of_mem _ h)
  have hown : s.vm.findClass RX7 = some m.cls := findClass_of_methodNamed B.named
  have hlocks := B.notSynchronized
  subst hsz
  have hD := hD0.self (sz := s.heap.size)
  generalize hAe : va_A [(h0, .inr (6, [.ref a0, w1, w2, w3, w4])), (a0, .inl (ka0, 10, .inl (fun _ => 0))), (h1, .inr (1, [v0, v1, v2, v3, v4, v5, .int 0, v7]))] s.heap.size = A at hD ⊢
  have hA : ∀ q : Nat, s.heap.size ≤ q → A q := fun q h => by rw [← hAe]; exact Or.inr h
  have hS : va_S A s.heap s.heap [] := va_S.rf
  have hP : va_P (dC, dI) vwCl [(h0, .inr (6, [.ref a0, w1, w2, w3, w4])), (a0, .inl (ka0, 10, .inl (fun _ => 0))), (h1, .inr (1, [v0, v1, v2, v3, v4, v5, .int 0, v7]))] s.heap := hP
  have hl := lv_entry ([.ref h0, .ref h1, .ref h9]) (n := 5) (Nat.le_of_ble_eq_true rfl)
  rw [lg_entry_eq]
  generalize (lg_sl ([.ref h0, .ref h1, .ref h9]) ++ List.replicate (5 - (lg_sl ([.ref h0, .ref h1, .ref h9])).length) Slot.unset).toArray = ls at hl ⊢
  have hl : lv_has ls 5 [(0, .ref h0), (1, .ref h1), (2, .ref h9)] := hl
  skip
  refine lv_iconst (v := 0) hx hb dX7_fill_0 (by decide) ?_
  refine lv_istore_n (lv' := [(3, .int 0), (0, .ref h0), (1, .ref h1), (2, .ref h9)]) hx hb dX7_fill_1 rfl hl (by decide) rfl (fun ls hl => ?_)
  refine lv_iload_n hx hb dX7_fill_2 rfl (lv_at hl 0 rfl) ?_
  refine lv_bipush (v := 10) hx hb dX7_fill_3 (by decide) ?_
  refine lv_icmp_ge (tgt := 78) hx hb dX7_fill_5 (by decide) (fun h => absurd h (by decide)) (fun _ => ?_)
  refine lv_aload_n hx hb dX7_fill_8 rfl (lv_at hl 1 rfl) ?_
  refine va_get (D := (dC, dI)) (ci := 6) (v := .ref a0) (C := RX7) (T := TX7) (N := 5) hx hb hts inB_7 hown hK hP 0 rfl rfl 0 (by decide) (hts _ mw_1_127) (fun _ h9 => h9) rfl dX7_fill_9 ?_
  refine lv_iload_n hx hb dX7_fill_12 rfl (lv_at hl 0 rfl) ?_
  refine lv_iconst (v := 0) hx hb dX7_fill_13 (by decide) ?_
  refine va_iast hx hb hK hP hD hS 1 0 rfl rfl (show vp_in 0 10 by unfold vp_in; decide) dX7_fill_14 (fun H locs hP hD hS => ?_)
  rw [show upd (fun _ => 0) (Int32.toNatClampNeg 0) 0 = (fun _ => 0) from upd_const _ _] at hP hD
  have hP : va_P (dC, dI) vwCl [(h0, .inr (6, [.ref a0, w1, w2, w3, w4])), (a0, .inl (ka0, 10, .inl (fun _ => 0))), (h1, .inr (1, [v0, v1, v2, v3, v4, v5, .int 0, v7]))] H := hP
  have hD : va_D A [(h0, .inr (6, [.ref a0, w1, w2, w3, w4])), (a0, .inl (ka0, 10, .inl (fun _ => 0))), (h1, .inr (1, [v0, v1, v2, v3, v4, v5, .int 0, v7]))] := hD
  refine lv_aload_n hx hb dX7_fill_15 rfl (lv_at hl 2 rfl) ?_
  refine lv_iload_n hx hb dX7_fill_16 rfl (lv_at hl 0 rfl) ?_
  have hPc := hP.sub (ws' := [(h1, .inr (1, [v0, v1, v2, v3, v4, v5, .int 0, v7]))]) [2] rfl
  have hDc := hD.sub (ws' := [(h1, .inr (1, [v0, v1, v2, v3, v4, v5, .int 0, v7]))]) [2] (by decide) rfl
  have hKc := hK.sub (tys' := []) [] rfl
  refine va_calli (va_runV (As := [.int 0]) (rest := []) ⟨hx, hb, hml, hown, hts⟩ (c_hasRow0 l dC dI H.size h1 (v0) (v1) (v2) (v3) (v4) (v5) (v7) 0) (cwV 1 hts (gV mw_3_10 mw_3_11 mw_3_12 mw_1_2 mw_3_13) rfl rfl rfl (by decide +kernel) ⟨Nat.le_of_ble_eq_true rfl, Nat.le_of_ble_eq_true rfl⟩) ⟨pcW_blind, va_recv hKc hPc (ci := 1) (q0 := 0) rfl rfl, pcW_at hPc hKc hDc hN⟩ rfl rfl hl.1 rfl (lv_room (Nat.le_of_ble_eq_true rfl)) dX7_fill_17 ⟨Nat.le_of_ble_eq_true rfl, Nat.le_of_ble_eq_true rfl⟩) hS (fun q h1 h2 => absurd h2 (Nat.not_le.mpr h1)) (fun q h => hA q (Nat.le_trans hS.1 h)) (fun r_1 u t H1 locs ht hvm hw_1 hB hz1 hk1 hS => ?_)
  have hP := keepP hP hk1
  clear hz1 hk1 hB ht hvm hPc hDc hKc
  generalize H1 = H at hP hS ⊢
  obtain rfl : r_1 = 0 := hw_1
  refine lv_if_ne (tgt := 26) hx hb dX7_fill_20 (by decide) (fun h => absurd h (by decide)) (fun _ => ?_)
  refine lv_goto (tgt := 72) hx hb dX7_fill_23 (by decide) ?_
  refine lv_iinc (v := 1) (lv' := [(3, .int 1), (0, .ref h0), (1, .ref h1), (2, .ref h9)]) hx hb dX7_fill_72 hl (k := 0) rfl (by decide) (by decide) rfl (fun ls hl => ?_)
  refine lv_goto (tgt := 2) hx hb dX7_fill_75 (by decide) ?_
  refine lv_iload_n hx hb dX7_fill_2 rfl (lv_at hl 0 rfl) ?_
  refine lv_bipush (v := 10) hx hb dX7_fill_3 (by decide) ?_
  refine lv_icmp_ge (tgt := 78) hx hb dX7_fill_5 (by decide) (fun h => absurd h (by decide)) (fun _ => ?_)
  refine lv_aload_n hx hb dX7_fill_8 rfl (lv_at hl 1 rfl) ?_
  refine va_get (D := (dC, dI)) (ci := 6) (v := .ref a0) (C := RX7) (T := TX7) (N := 5) hx hb hts inB_7 hown hK hP 0 rfl rfl 0 (by decide) (hts _ mw_1_127) (fun _ h9 => h9) rfl dX7_fill_9 ?_
  refine lv_iload_n hx hb dX7_fill_12 rfl (lv_at hl 0 rfl) ?_
  refine lv_iconst (v := 0) hx hb dX7_fill_13 (by decide) ?_
  refine va_iast hx hb hK hP hD hS 1 0 rfl rfl (show vp_in 1 10 by unfold vp_in; decide) dX7_fill_14 (fun H locs hP hD hS => ?_)
  rw [show upd (fun _ => 0) (Int32.toNatClampNeg 1) 0 = (fun _ => 0) from upd_const _ _] at hP hD
  have hP : va_P (dC, dI) vwCl [(h0, .inr (6, [.ref a0, w1, w2, w3, w4])), (a0, .inl (ka0, 10, .inl (fun _ => 0))), (h1, .inr (1, [v0, v1, v2, v3, v4, v5, .int 0, v7]))] H := hP
  have hD : va_D A [(h0, .inr (6, [.ref a0, w1, w2, w3, w4])), (a0, .inl (ka0, 10, .inl (fun _ => 0))), (h1, .inr (1, [v0, v1, v2, v3, v4, v5, .int 0, v7]))] := hD
  refine lv_aload_n hx hb dX7_fill_15 rfl (lv_at hl 2 rfl) ?_
  refine lv_iload_n hx hb dX7_fill_16 rfl (lv_at hl 0 rfl) ?_
  have hPc := hP.sub (ws' := [(h1, .inr (1, [v0, v1, v2, v3, v4, v5, .int 0, v7]))]) [2] rfl
  have hDc := hD.sub (ws' := [(h1, .inr (1, [v0, v1, v2, v3, v4, v5, .int 0, v7]))]) [2] (by decide) rfl
  have hKc := hK.sub (tys' := []) [] rfl
  refine va_calli (va_runV (As := [.int 1]) (rest := []) ⟨hx, hb, hml, hown, hts⟩ (c_hasRow0 l dC dI H.size h1 (v0) (v1) (v2) (v3) (v4) (v5) (v7) 1) (cwV 1 hts (gV mw_3_10 mw_3_11 mw_3_12 mw_1_2 mw_3_13) rfl rfl rfl (by decide +kernel) ⟨Nat.le_of_ble_eq_true rfl, Nat.le_of_ble_eq_true rfl⟩) ⟨pcW_blind, va_recv hKc hPc (ci := 1) (q0 := 0) rfl rfl, pcW_at hPc hKc hDc hN⟩ rfl rfl hl.1 rfl (lv_room (Nat.le_of_ble_eq_true rfl)) dX7_fill_17 ⟨Nat.le_of_ble_eq_true rfl, Nat.le_of_ble_eq_true rfl⟩) hS (fun q h1 h2 => absurd h2 (Nat.not_le.mpr h1)) (fun q h => hA q (Nat.le_trans hS.1 h)) (fun r_2 u t H1 locs ht hvm hw_2 hB hz1 hk1 hS => ?_)
  have hP := keepP hP hk1
  clear hz1 hk1 hB ht hvm hPc hDc hKc
  generalize H1 = H at hP hS ⊢
  obtain rfl : r_2 = 0 := hw_2
  refine lv_if_ne (tgt := 26) hx hb dX7_fill_20 (by decide) (fun h => absurd h (by decide)) (fun _ => ?_)
  refine lv_goto (tgt := 72) hx hb dX7_fill_23 (by decide) ?_
  refine lv_iinc (v := 2) (lv' := [(3, .int 2), (0, .ref h0), (1, .ref h1), (2, .ref h9)]) hx hb dX7_fill_72 hl (k := 0) rfl (by decide) (by decide) rfl (fun ls hl => ?_)
  refine lv_goto (tgt := 2) hx hb dX7_fill_75 (by decide) ?_
  refine lv_iload_n hx hb dX7_fill_2 rfl (lv_at hl 0 rfl) ?_
  refine lv_bipush (v := 10) hx hb dX7_fill_3 (by decide) ?_
  refine lv_icmp_ge (tgt := 78) hx hb dX7_fill_5 (by decide) (fun h => absurd h (by decide)) (fun _ => ?_)
  refine lv_aload_n hx hb dX7_fill_8 rfl (lv_at hl 1 rfl) ?_
  refine va_get (D := (dC, dI)) (ci := 6) (v := .ref a0) (C := RX7) (T := TX7) (N := 5) hx hb hts inB_7 hown hK hP 0 rfl rfl 0 (by decide) (hts _ mw_1_127) (fun _ h9 => h9) rfl dX7_fill_9 ?_
  refine lv_iload_n hx hb dX7_fill_12 rfl (lv_at hl 0 rfl) ?_
  refine lv_iconst (v := 0) hx hb dX7_fill_13 (by decide) ?_
  refine va_iast hx hb hK hP hD hS 1 0 rfl rfl (show vp_in 2 10 by unfold vp_in; decide) dX7_fill_14 (fun H locs hP hD hS => ?_)
  rw [show upd (fun _ => 0) (Int32.toNatClampNeg 2) 0 = (fun _ => 0) from upd_const _ _] at hP hD
  have hP : va_P (dC, dI) vwCl [(h0, .inr (6, [.ref a0, w1, w2, w3, w4])), (a0, .inl (ka0, 10, .inl (fun _ => 0))), (h1, .inr (1, [v0, v1, v2, v3, v4, v5, .int 0, v7]))] H := hP
  have hD : va_D A [(h0, .inr (6, [.ref a0, w1, w2, w3, w4])), (a0, .inl (ka0, 10, .inl (fun _ => 0))), (h1, .inr (1, [v0, v1, v2, v3, v4, v5, .int 0, v7]))] := hD
  refine lv_aload_n hx hb dX7_fill_15 rfl (lv_at hl 2 rfl) ?_
  refine lv_iload_n hx hb dX7_fill_16 rfl (lv_at hl 0 rfl) ?_
  have hPc := hP.sub (ws' := [(h1, .inr (1, [v0, v1, v2, v3, v4, v5, .int 0, v7]))]) [2] rfl
  have hDc := hD.sub (ws' := [(h1, .inr (1, [v0, v1, v2, v3, v4, v5, .int 0, v7]))]) [2] (by decide) rfl
  have hKc := hK.sub (tys' := []) [] rfl
  refine va_calli (va_runV (As := [.int 2]) (rest := []) ⟨hx, hb, hml, hown, hts⟩ (c_hasRow0 l dC dI H.size h1 (v0) (v1) (v2) (v3) (v4) (v5) (v7) 2) (cwV 1 hts (gV mw_3_10 mw_3_11 mw_3_12 mw_1_2 mw_3_13) rfl rfl rfl (by decide +kernel) ⟨Nat.le_of_ble_eq_true rfl, Nat.le_of_ble_eq_true rfl⟩) ⟨pcW_blind, va_recv hKc hPc (ci := 1) (q0 := 0) rfl rfl, pcW_at hPc hKc hDc hN⟩ rfl rfl hl.1 rfl (lv_room (Nat.le_of_ble_eq_true rfl)) dX7_fill_17 ⟨Nat.le_of_ble_eq_true rfl, Nat.le_of_ble_eq_true rfl⟩) hS (fun q h1 h2 => absurd h2 (Nat.not_le.mpr h1)) (fun q h => hA q (Nat.le_trans hS.1 h)) (fun r_3 u t H1 locs ht hvm hw_3 hB hz1 hk1 hS => ?_)
  have hP := keepP hP hk1
  clear hz1 hk1 hB ht hvm hPc hDc hKc
  generalize H1 = H at hP hS ⊢
  obtain rfl : r_3 = 0 := hw_3
  refine lv_if_ne (tgt := 26) hx hb dX7_fill_20 (by decide) (fun h => absurd h (by decide)) (fun _ => ?_)
  refine lv_goto (tgt := 72) hx hb dX7_fill_23 (by decide) ?_
  refine lv_iinc (v := 3) (lv' := [(3, .int 3), (0, .ref h0), (1, .ref h1), (2, .ref h9)]) hx hb dX7_fill_72 hl (k := 0) rfl (by decide) (by decide) rfl (fun ls hl => ?_)
  refine lv_goto (tgt := 2) hx hb dX7_fill_75 (by decide) ?_
  refine lv_iload_n hx hb dX7_fill_2 rfl (lv_at hl 0 rfl) ?_
  refine lv_bipush (v := 10) hx hb dX7_fill_3 (by decide) ?_
  refine lv_icmp_ge (tgt := 78) hx hb dX7_fill_5 (by decide) (fun h => absurd h (by decide)) (fun _ => ?_)
  refine lv_aload_n hx hb dX7_fill_8 rfl (lv_at hl 1 rfl) ?_
  refine va_get (D := (dC, dI)) (ci := 6) (v := .ref a0) (C := RX7) (T := TX7) (N := 5) hx hb hts inB_7 hown hK hP 0 rfl rfl 0 (by decide) (hts _ mw_1_127) (fun _ h9 => h9) rfl dX7_fill_9 ?_
  refine lv_iload_n hx hb dX7_fill_12 rfl (lv_at hl 0 rfl) ?_
  refine lv_iconst (v := 0) hx hb dX7_fill_13 (by decide) ?_
  refine va_iast hx hb hK hP hD hS 1 0 rfl rfl (show vp_in 3 10 by unfold vp_in; decide) dX7_fill_14 (fun H locs hP hD hS => ?_)
  rw [show upd (fun _ => 0) (Int32.toNatClampNeg 3) 0 = (fun _ => 0) from upd_const _ _] at hP hD
  have hP : va_P (dC, dI) vwCl [(h0, .inr (6, [.ref a0, w1, w2, w3, w4])), (a0, .inl (ka0, 10, .inl (fun _ => 0))), (h1, .inr (1, [v0, v1, v2, v3, v4, v5, .int 0, v7]))] H := hP
  have hD : va_D A [(h0, .inr (6, [.ref a0, w1, w2, w3, w4])), (a0, .inl (ka0, 10, .inl (fun _ => 0))), (h1, .inr (1, [v0, v1, v2, v3, v4, v5, .int 0, v7]))] := hD
  refine lv_aload_n hx hb dX7_fill_15 rfl (lv_at hl 2 rfl) ?_
  refine lv_iload_n hx hb dX7_fill_16 rfl (lv_at hl 0 rfl) ?_
  have hPc := hP.sub (ws' := [(h1, .inr (1, [v0, v1, v2, v3, v4, v5, .int 0, v7]))]) [2] rfl
  have hDc := hD.sub (ws' := [(h1, .inr (1, [v0, v1, v2, v3, v4, v5, .int 0, v7]))]) [2] (by decide) rfl
  have hKc := hK.sub (tys' := []) [] rfl
  refine va_calli (va_runV (As := [.int 3]) (rest := []) ⟨hx, hb, hml, hown, hts⟩ (c_hasRow0 l dC dI H.size h1 (v0) (v1) (v2) (v3) (v4) (v5) (v7) 3) (cwV 1 hts (gV mw_3_10 mw_3_11 mw_3_12 mw_1_2 mw_3_13) rfl rfl rfl (by decide +kernel) ⟨Nat.le_of_ble_eq_true rfl, Nat.le_of_ble_eq_true rfl⟩) ⟨pcW_blind, va_recv hKc hPc (ci := 1) (q0 := 0) rfl rfl, pcW_at hPc hKc hDc hN⟩ rfl rfl hl.1 rfl (lv_room (Nat.le_of_ble_eq_true rfl)) dX7_fill_17 ⟨Nat.le_of_ble_eq_true rfl, Nat.le_of_ble_eq_true rfl⟩) hS (fun q h1 h2 => absurd h2 (Nat.not_le.mpr h1)) (fun q h => hA q (Nat.le_trans hS.1 h)) (fun r_4 u t H1 locs ht hvm hw_4 hB hz1 hk1 hS => ?_)
  have hP := keepP hP hk1
  clear hz1 hk1 hB ht hvm hPc hDc hKc
  generalize H1 = H at hP hS ⊢
  obtain rfl : r_4 = 0 := hw_4
  refine lv_if_ne (tgt := 26) hx hb dX7_fill_20 (by decide) (fun h => absurd h (by decide)) (fun _ => ?_)
  refine lv_goto (tgt := 72) hx hb dX7_fill_23 (by decide) ?_
  refine lv_iinc (v := 4) (lv' := [(3, .int 4), (0, .ref h0), (1, .ref h1), (2, .ref h9)]) hx hb dX7_fill_72 hl (k := 0) rfl (by decide) (by decide) rfl (fun ls hl => ?_)
  refine lv_goto (tgt := 2) hx hb dX7_fill_75 (by decide) ?_
  refine lv_iload_n hx hb dX7_fill_2 rfl (lv_at hl 0 rfl) ?_
  refine lv_bipush (v := 10) hx hb dX7_fill_3 (by decide) ?_
  refine lv_icmp_ge (tgt := 78) hx hb dX7_fill_5 (by decide) (fun h => absurd h (by decide)) (fun _ => ?_)
  refine lv_aload_n hx hb dX7_fill_8 rfl (lv_at hl 1 rfl) ?_
  refine va_get (D := (dC, dI)) (ci := 6) (v := .ref a0) (C := RX7) (T := TX7) (N := 5) hx hb hts inB_7 hown hK hP 0 rfl rfl 0 (by decide) (hts _ mw_1_127) (fun _ h9 => h9) rfl dX7_fill_9 ?_
  refine lv_iload_n hx hb dX7_fill_12 rfl (lv_at hl 0 rfl) ?_
  refine lv_iconst (v := 0) hx hb dX7_fill_13 (by decide) ?_
  refine va_iast hx hb hK hP hD hS 1 0 rfl rfl (show vp_in 4 10 by unfold vp_in; decide) dX7_fill_14 (fun H locs hP hD hS => ?_)
  rw [show upd (fun _ => 0) (Int32.toNatClampNeg 4) 0 = (fun _ => 0) from upd_const _ _] at hP hD
  have hP : va_P (dC, dI) vwCl [(h0, .inr (6, [.ref a0, w1, w2, w3, w4])), (a0, .inl (ka0, 10, .inl (fun _ => 0))), (h1, .inr (1, [v0, v1, v2, v3, v4, v5, .int 0, v7]))] H := hP
  have hD : va_D A [(h0, .inr (6, [.ref a0, w1, w2, w3, w4])), (a0, .inl (ka0, 10, .inl (fun _ => 0))), (h1, .inr (1, [v0, v1, v2, v3, v4, v5, .int 0, v7]))] := hD
  refine lv_aload_n hx hb dX7_fill_15 rfl (lv_at hl 2 rfl) ?_
  refine lv_iload_n hx hb dX7_fill_16 rfl (lv_at hl 0 rfl) ?_
  have hPc := hP.sub (ws' := [(h1, .inr (1, [v0, v1, v2, v3, v4, v5, .int 0, v7]))]) [2] rfl
  have hDc := hD.sub (ws' := [(h1, .inr (1, [v0, v1, v2, v3, v4, v5, .int 0, v7]))]) [2] (by decide) rfl
  have hKc := hK.sub (tys' := []) [] rfl
  refine va_calli (va_runV (As := [.int 4]) (rest := []) ⟨hx, hb, hml, hown, hts⟩ (c_hasRow0 l dC dI H.size h1 (v0) (v1) (v2) (v3) (v4) (v5) (v7) 4) (cwV 1 hts (gV mw_3_10 mw_3_11 mw_3_12 mw_1_2 mw_3_13) rfl rfl rfl (by decide +kernel) ⟨Nat.le_of_ble_eq_true rfl, Nat.le_of_ble_eq_true rfl⟩) ⟨pcW_blind, va_recv hKc hPc (ci := 1) (q0 := 0) rfl rfl, pcW_at hPc hKc hDc hN⟩ rfl rfl hl.1 rfl (lv_room (Nat.le_of_ble_eq_true rfl)) dX7_fill_17 ⟨Nat.le_of_ble_eq_true rfl, Nat.le_of_ble_eq_true rfl⟩) hS (fun q h1 h2 => absurd h2 (Nat.not_le.mpr h1)) (fun q h => hA q (Nat.le_trans hS.1 h)) (fun r_5 u t H1 locs ht hvm hw_5 hB hz1 hk1 hS => ?_)
  have hP := keepP hP hk1
  clear hz1 hk1 hB ht hvm hPc hDc hKc
  generalize H1 = H at hP hS ⊢
  obtain rfl : r_5 = 0 := hw_5
  refine lv_if_ne (tgt := 26) hx hb dX7_fill_20 (by decide) (fun h => absurd h (by decide)) (fun _ => ?_)
  refine lv_goto (tgt := 72) hx hb dX7_fill_23 (by decide) ?_
  refine lv_iinc (v := 5) (lv' := [(3, .int 5), (0, .ref h0), (1, .ref h1), (2, .ref h9)]) hx hb dX7_fill_72 hl (k := 0) rfl (by decide) (by decide) rfl (fun ls hl => ?_)
  refine lv_goto (tgt := 2) hx hb dX7_fill_75 (by decide) ?_
  refine lv_iload_n hx hb dX7_fill_2 rfl (lv_at hl 0 rfl) ?_
  refine lv_bipush (v := 10) hx hb dX7_fill_3 (by decide) ?_
  refine lv_icmp_ge (tgt := 78) hx hb dX7_fill_5 (by decide) (fun h => absurd h (by decide)) (fun _ => ?_)
  refine lv_aload_n hx hb dX7_fill_8 rfl (lv_at hl 1 rfl) ?_
  refine va_get (D := (dC, dI)) (ci := 6) (v := .ref a0) (C := RX7) (T := TX7) (N := 5) hx hb hts inB_7 hown hK hP 0 rfl rfl 0 (by decide) (hts _ mw_1_127) (fun _ h9 => h9) rfl dX7_fill_9 ?_
  refine lv_iload_n hx hb dX7_fill_12 rfl (lv_at hl 0 rfl) ?_
  refine lv_iconst (v := 0) hx hb dX7_fill_13 (by decide) ?_
  refine va_iast hx hb hK hP hD hS 1 0 rfl rfl (show vp_in 5 10 by unfold vp_in; decide) dX7_fill_14 (fun H locs hP hD hS => ?_)
  rw [show upd (fun _ => 0) (Int32.toNatClampNeg 5) 0 = (fun _ => 0) from upd_const _ _] at hP hD
  have hP : va_P (dC, dI) vwCl [(h0, .inr (6, [.ref a0, w1, w2, w3, w4])), (a0, .inl (ka0, 10, .inl (fun _ => 0))), (h1, .inr (1, [v0, v1, v2, v3, v4, v5, .int 0, v7]))] H := hP
  have hD : va_D A [(h0, .inr (6, [.ref a0, w1, w2, w3, w4])), (a0, .inl (ka0, 10, .inl (fun _ => 0))), (h1, .inr (1, [v0, v1, v2, v3, v4, v5, .int 0, v7]))] := hD
  refine lv_aload_n hx hb dX7_fill_15 rfl (lv_at hl 2 rfl) ?_
  refine lv_iload_n hx hb dX7_fill_16 rfl (lv_at hl 0 rfl) ?_
  have hPc := hP.sub (ws' := [(h1, .inr (1, [v0, v1, v2, v3, v4, v5, .int 0, v7]))]) [2] rfl
  have hDc := hD.sub (ws' := [(h1, .inr (1, [v0, v1, v2, v3, v4, v5, .int 0, v7]))]) [2] (by decide) rfl
  have hKc := hK.sub (tys' := []) [] rfl
  refine va_calli (va_runV (As := [.int 5]) (rest := []) ⟨hx, hb, hml, hown, hts⟩ (c_hasRow0 l dC dI H.size h1 (v0) (v1) (v2) (v3) (v4) (v5) (v7) 5) (cwV 1 hts (gV mw_3_10 mw_3_11 mw_3_12 mw_1_2 mw_3_13) rfl rfl rfl (by decide +kernel) ⟨Nat.le_of_ble_eq_true rfl, Nat.le_of_ble_eq_true rfl⟩) ⟨pcW_blind, va_recv hKc hPc (ci := 1) (q0 := 0) rfl rfl, pcW_at hPc hKc hDc hN⟩ rfl rfl hl.1 rfl (lv_room (Nat.le_of_ble_eq_true rfl)) dX7_fill_17 ⟨Nat.le_of_ble_eq_true rfl, Nat.le_of_ble_eq_true rfl⟩) hS (fun q h1 h2 => absurd h2 (Nat.not_le.mpr h1)) (fun q h => hA q (Nat.le_trans hS.1 h)) (fun r_6 u t H1 locs ht hvm hw_6 hB hz1 hk1 hS => ?_)
  have hP := keepP hP hk1
  clear hz1 hk1 hB ht hvm hPc hDc hKc
  generalize H1 = H at hP hS ⊢
  obtain rfl : r_6 = 0 := hw_6
  refine lv_if_ne (tgt := 26) hx hb dX7_fill_20 (by decide) (fun h => absurd h (by decide)) (fun _ => ?_)
  refine lv_goto (tgt := 72) hx hb dX7_fill_23 (by decide) ?_
  refine lv_iinc (v := 6) (lv' := [(3, .int 6), (0, .ref h0), (1, .ref h1), (2, .ref h9)]) hx hb dX7_fill_72 hl (k := 0) rfl (by decide) (by decide) rfl (fun ls hl => ?_)
  refine lv_goto (tgt := 2) hx hb dX7_fill_75 (by decide) ?_
  refine lv_iload_n hx hb dX7_fill_2 rfl (lv_at hl 0 rfl) ?_
  refine lv_bipush (v := 10) hx hb dX7_fill_3 (by decide) ?_
  refine lv_icmp_ge (tgt := 78) hx hb dX7_fill_5 (by decide) (fun h => absurd h (by decide)) (fun _ => ?_)
  refine lv_aload_n hx hb dX7_fill_8 rfl (lv_at hl 1 rfl) ?_
  refine va_get (D := (dC, dI)) (ci := 6) (v := .ref a0) (C := RX7) (T := TX7) (N := 5) hx hb hts inB_7 hown hK hP 0 rfl rfl 0 (by decide) (hts _ mw_1_127) (fun _ h9 => h9) rfl dX7_fill_9 ?_
  refine lv_iload_n hx hb dX7_fill_12 rfl (lv_at hl 0 rfl) ?_
  refine lv_iconst (v := 0) hx hb dX7_fill_13 (by decide) ?_
  refine va_iast hx hb hK hP hD hS 1 0 rfl rfl (show vp_in 6 10 by unfold vp_in; decide) dX7_fill_14 (fun H locs hP hD hS => ?_)
  rw [show upd (fun _ => 0) (Int32.toNatClampNeg 6) 0 = (fun _ => 0) from upd_const _ _] at hP hD
  have hP : va_P (dC, dI) vwCl [(h0, .inr (6, [.ref a0, w1, w2, w3, w4])), (a0, .inl (ka0, 10, .inl (fun _ => 0))), (h1, .inr (1, [v0, v1, v2, v3, v4, v5, .int 0, v7]))] H := hP
  have hD : va_D A [(h0, .inr (6, [.ref a0, w1, w2, w3, w4])), (a0, .inl (ka0, 10, .inl (fun _ => 0))), (h1, .inr (1, [v0, v1, v2, v3, v4, v5, .int 0, v7]))] := hD
  refine lv_aload_n hx hb dX7_fill_15 rfl (lv_at hl 2 rfl) ?_
  refine lv_iload_n hx hb dX7_fill_16 rfl (lv_at hl 0 rfl) ?_
  have hPc := hP.sub (ws' := [(h1, .inr (1, [v0, v1, v2, v3, v4, v5, .int 0, v7]))]) [2] rfl
  have hDc := hD.sub (ws' := [(h1, .inr (1, [v0, v1, v2, v3, v4, v5, .int 0, v7]))]) [2] (by decide) rfl
  have hKc := hK.sub (tys' := []) [] rfl
  refine va_calli (va_runV (As := [.int 6]) (rest := []) ⟨hx, hb, hml, hown, hts⟩ (c_hasRow0 l dC dI H.size h1 (v0) (v1) (v2) (v3) (v4) (v5) (v7) 6) (cwV 1 hts (gV mw_3_10 mw_3_11 mw_3_12 mw_1_2 mw_3_13) rfl rfl rfl (by decide +kernel) ⟨Nat.le_of_ble_eq_true rfl, Nat.le_of_ble_eq_true rfl⟩) ⟨pcW_blind, va_recv hKc hPc (ci := 1) (q0 := 0) rfl rfl, pcW_at hPc hKc hDc hN⟩ rfl rfl hl.1 rfl (lv_room (Nat.le_of_ble_eq_true rfl)) dX7_fill_17 ⟨Nat.le_of_ble_eq_true rfl, Nat.le_of_ble_eq_true rfl⟩) hS (fun q h1 h2 => absurd h2 (Nat.not_le.mpr h1)) (fun q h => hA q (Nat.le_trans hS.1 h)) (fun r_7 u t H1 locs ht hvm hw_7 hB hz1 hk1 hS => ?_)
  have hP := keepP hP hk1
  clear hz1 hk1 hB ht hvm hPc hDc hKc
  generalize H1 = H at hP hS ⊢
  obtain rfl : r_7 = 0 := hw_7
  refine lv_if_ne (tgt := 26) hx hb dX7_fill_20 (by decide) (fun h => absurd h (by decide)) (fun _ => ?_)
  refine lv_goto (tgt := 72) hx hb dX7_fill_23 (by decide) ?_
  refine lv_iinc (v := 7) (lv' := [(3, .int 7), (0, .ref h0), (1, .ref h1), (2, .ref h9)]) hx hb dX7_fill_72 hl (k := 0) rfl (by decide) (by decide) rfl (fun ls hl => ?_)
  refine lv_goto (tgt := 2) hx hb dX7_fill_75 (by decide) ?_
  refine lv_iload_n hx hb dX7_fill_2 rfl (lv_at hl 0 rfl) ?_
  refine lv_bipush (v := 10) hx hb dX7_fill_3 (by decide) ?_
  refine lv_icmp_ge (tgt := 78) hx hb dX7_fill_5 (by decide) (fun h => absurd h (by decide)) (fun _ => ?_)
  refine lv_aload_n hx hb dX7_fill_8 rfl (lv_at hl 1 rfl) ?_
  refine va_get (D := (dC, dI)) (ci := 6) (v := .ref a0) (C := RX7) (T := TX7) (N := 5) hx hb hts inB_7 hown hK hP 0 rfl rfl 0 (by decide) (hts _ mw_1_127) (fun _ h9 => h9) rfl dX7_fill_9 ?_
  refine lv_iload_n hx hb dX7_fill_12 rfl (lv_at hl 0 rfl) ?_
  refine lv_iconst (v := 0) hx hb dX7_fill_13 (by decide) ?_
  refine va_iast hx hb hK hP hD hS 1 0 rfl rfl (show vp_in 7 10 by unfold vp_in; decide) dX7_fill_14 (fun H locs hP hD hS => ?_)
  rw [show upd (fun _ => 0) (Int32.toNatClampNeg 7) 0 = (fun _ => 0) from upd_const _ _] at hP hD
  have hP : va_P (dC, dI) vwCl [(h0, .inr (6, [.ref a0, w1, w2, w3, w4])), (a0, .inl (ka0, 10, .inl (fun _ => 0))), (h1, .inr (1, [v0, v1, v2, v3, v4, v5, .int 0, v7]))] H := hP
  have hD : va_D A [(h0, .inr (6, [.ref a0, w1, w2, w3, w4])), (a0, .inl (ka0, 10, .inl (fun _ => 0))), (h1, .inr (1, [v0, v1, v2, v3, v4, v5, .int 0, v7]))] := hD
  refine lv_aload_n hx hb dX7_fill_15 rfl (lv_at hl 2 rfl) ?_
  refine lv_iload_n hx hb dX7_fill_16 rfl (lv_at hl 0 rfl) ?_
  have hPc := hP.sub (ws' := [(h1, .inr (1, [v0, v1, v2, v3, v4, v5, .int 0, v7]))]) [2] rfl
  have hDc := hD.sub (ws' := [(h1, .inr (1, [v0, v1, v2, v3, v4, v5, .int 0, v7]))]) [2] (by decide) rfl
  have hKc := hK.sub (tys' := []) [] rfl
  refine va_calli (va_runV (As := [.int 7]) (rest := []) ⟨hx, hb, hml, hown, hts⟩ (c_hasRow0 l dC dI H.size h1 (v0) (v1) (v2) (v3) (v4) (v5) (v7) 7) (cwV 1 hts (gV mw_3_10 mw_3_11 mw_3_12 mw_1_2 mw_3_13) rfl rfl rfl (by decide +kernel) ⟨Nat.le_of_ble_eq_true rfl, Nat.le_of_ble_eq_true rfl⟩) ⟨pcW_blind, va_recv hKc hPc (ci := 1) (q0 := 0) rfl rfl, pcW_at hPc hKc hDc hN⟩ rfl rfl hl.1 rfl (lv_room (Nat.le_of_ble_eq_true rfl)) dX7_fill_17 ⟨Nat.le_of_ble_eq_true rfl, Nat.le_of_ble_eq_true rfl⟩) hS (fun q h1 h2 => absurd h2 (Nat.not_le.mpr h1)) (fun q h => hA q (Nat.le_trans hS.1 h)) (fun r_8 u t H1 locs ht hvm hw_8 hB hz1 hk1 hS => ?_)
  have hP := keepP hP hk1
  clear hz1 hk1 hB ht hvm hPc hDc hKc
  generalize H1 = H at hP hS ⊢
  obtain rfl : r_8 = 0 := hw_8
  refine lv_if_ne (tgt := 26) hx hb dX7_fill_20 (by decide) (fun h => absurd h (by decide)) (fun _ => ?_)
  refine lv_goto (tgt := 72) hx hb dX7_fill_23 (by decide) ?_
  refine lv_iinc (v := 8) (lv' := [(3, .int 8), (0, .ref h0), (1, .ref h1), (2, .ref h9)]) hx hb dX7_fill_72 hl (k := 0) rfl (by decide) (by decide) rfl (fun ls hl => ?_)
  refine lv_goto (tgt := 2) hx hb dX7_fill_75 (by decide) ?_
  refine lv_iload_n hx hb dX7_fill_2 rfl (lv_at hl 0 rfl) ?_
  refine lv_bipush (v := 10) hx hb dX7_fill_3 (by decide) ?_
  refine lv_icmp_ge (tgt := 78) hx hb dX7_fill_5 (by decide) (fun h => absurd h (by decide)) (fun _ => ?_)
  refine lv_aload_n hx hb dX7_fill_8 rfl (lv_at hl 1 rfl) ?_
  refine va_get (D := (dC, dI)) (ci := 6) (v := .ref a0) (C := RX7) (T := TX7) (N := 5) hx hb hts inB_7 hown hK hP 0 rfl rfl 0 (by decide) (hts _ mw_1_127) (fun _ h9 => h9) rfl dX7_fill_9 ?_
  refine lv_iload_n hx hb dX7_fill_12 rfl (lv_at hl 0 rfl) ?_
  refine lv_iconst (v := 0) hx hb dX7_fill_13 (by decide) ?_
  refine va_iast hx hb hK hP hD hS 1 0 rfl rfl (show vp_in 8 10 by unfold vp_in; decide) dX7_fill_14 (fun H locs hP hD hS => ?_)
  rw [show upd (fun _ => 0) (Int32.toNatClampNeg 8) 0 = (fun _ => 0) from upd_const _ _] at hP hD
  have hP : va_P (dC, dI) vwCl [(h0, .inr (6, [.ref a0, w1, w2, w3, w4])), (a0, .inl (ka0, 10, .inl (fun _ => 0))), (h1, .inr (1, [v0, v1, v2, v3, v4, v5, .int 0, v7]))] H := hP
  have hD : va_D A [(h0, .inr (6, [.ref a0, w1, w2, w3, w4])), (a0, .inl (ka0, 10, .inl (fun _ => 0))), (h1, .inr (1, [v0, v1, v2, v3, v4, v5, .int 0, v7]))] := hD
  refine lv_aload_n hx hb dX7_fill_15 rfl (lv_at hl 2 rfl) ?_
  refine lv_iload_n hx hb dX7_fill_16 rfl (lv_at hl 0 rfl) ?_
  have hPc := hP.sub (ws' := [(h1, .inr (1, [v0, v1, v2, v3, v4, v5, .int 0, v7]))]) [2] rfl
  have hDc := hD.sub (ws' := [(h1, .inr (1, [v0, v1, v2, v3, v4, v5, .int 0, v7]))]) [2] (by decide) rfl
  have hKc := hK.sub (tys' := []) [] rfl
  refine va_calli (va_runV (As := [.int 8]) (rest := []) ⟨hx, hb, hml, hown, hts⟩ (c_hasRow0 l dC dI H.size h1 (v0) (v1) (v2) (v3) (v4) (v5) (v7) 8) (cwV 1 hts (gV mw_3_10 mw_3_11 mw_3_12 mw_1_2 mw_3_13) rfl rfl rfl (by decide +kernel) ⟨Nat.le_of_ble_eq_true rfl, Nat.le_of_ble_eq_true rfl⟩) ⟨pcW_blind, va_recv hKc hPc (ci := 1) (q0 := 0) rfl rfl, pcW_at hPc hKc hDc hN⟩ rfl rfl hl.1 rfl (lv_room (Nat.le_of_ble_eq_true rfl)) dX7_fill_17 ⟨Nat.le_of_ble_eq_true rfl, Nat.le_of_ble_eq_true rfl⟩) hS (fun q h1 h2 => absurd h2 (Nat.not_le.mpr h1)) (fun q h => hA q (Nat.le_trans hS.1 h)) (fun r_9 u t H1 locs ht hvm hw_9 hB hz1 hk1 hS => ?_)
  have hP := keepP hP hk1
  clear hz1 hk1 hB ht hvm hPc hDc hKc
  generalize H1 = H at hP hS ⊢
  obtain rfl : r_9 = 0 := hw_9
  refine lv_if_ne (tgt := 26) hx hb dX7_fill_20 (by decide) (fun h => absurd h (by decide)) (fun _ => ?_)
  refine lv_goto (tgt := 72) hx hb dX7_fill_23 (by decide) ?_
  refine lv_iinc (v := 9) (lv' := [(3, .int 9), (0, .ref h0), (1, .ref h1), (2, .ref h9)]) hx hb dX7_fill_72 hl (k := 0) rfl (by decide) (by decide) rfl (fun ls hl => ?_)
  refine lv_goto (tgt := 2) hx hb dX7_fill_75 (by decide) ?_
  refine lv_iload_n hx hb dX7_fill_2 rfl (lv_at hl 0 rfl) ?_
  refine lv_bipush (v := 10) hx hb dX7_fill_3 (by decide) ?_
  refine lv_icmp_ge (tgt := 78) hx hb dX7_fill_5 (by decide) (fun h => absurd h (by decide)) (fun _ => ?_)
  refine lv_aload_n hx hb dX7_fill_8 rfl (lv_at hl 1 rfl) ?_
  refine va_get (D := (dC, dI)) (ci := 6) (v := .ref a0) (C := RX7) (T := TX7) (N := 5) hx hb hts inB_7 hown hK hP 0 rfl rfl 0 (by decide) (hts _ mw_1_127) (fun _ h9 => h9) rfl dX7_fill_9 ?_
  refine lv_iload_n hx hb dX7_fill_12 rfl (lv_at hl 0 rfl) ?_
  refine lv_iconst (v := 0) hx hb dX7_fill_13 (by decide) ?_
  refine va_iast hx hb hK hP hD hS 1 0 rfl rfl (show vp_in 9 10 by unfold vp_in; decide) dX7_fill_14 (fun H locs hP hD hS => ?_)
  rw [show upd (fun _ => 0) (Int32.toNatClampNeg 9) 0 = (fun _ => 0) from upd_const _ _] at hP hD
  have hP : va_P (dC, dI) vwCl [(h0, .inr (6, [.ref a0, w1, w2, w3, w4])), (a0, .inl (ka0, 10, .inl (fun _ => 0))), (h1, .inr (1, [v0, v1, v2, v3, v4, v5, .int 0, v7]))] H := hP
  have hD : va_D A [(h0, .inr (6, [.ref a0, w1, w2, w3, w4])), (a0, .inl (ka0, 10, .inl (fun _ => 0))), (h1, .inr (1, [v0, v1, v2, v3, v4, v5, .int 0, v7]))] := hD
  refine lv_aload_n hx hb dX7_fill_15 rfl (lv_at hl 2 rfl) ?_
  refine lv_iload_n hx hb dX7_fill_16 rfl (lv_at hl 0 rfl) ?_
  have hPc := hP.sub (ws' := [(h1, .inr (1, [v0, v1, v2, v3, v4, v5, .int 0, v7]))]) [2] rfl
  have hDc := hD.sub (ws' := [(h1, .inr (1, [v0, v1, v2, v3, v4, v5, .int 0, v7]))]) [2] (by decide) rfl
  have hKc := hK.sub (tys' := []) [] rfl
  refine va_calli (va_runV (As := [.int 9]) (rest := []) ⟨hx, hb, hml, hown, hts⟩ (c_hasRow0 l dC dI H.size h1 (v0) (v1) (v2) (v3) (v4) (v5) (v7) 9) (cwV 1 hts (gV mw_3_10 mw_3_11 mw_3_12 mw_1_2 mw_3_13) rfl rfl rfl (by decide +kernel) ⟨Nat.le_of_ble_eq_true rfl, Nat.le_of_ble_eq_true rfl⟩) ⟨pcW_blind, va_recv hKc hPc (ci := 1) (q0 := 0) rfl rfl, pcW_at hPc hKc hDc hN⟩ rfl rfl hl.1 rfl (lv_room (Nat.le_of_ble_eq_true rfl)) dX7_fill_17 ⟨Nat.le_of_ble_eq_true rfl, Nat.le_of_ble_eq_true rfl⟩) hS (fun q h1 h2 => absurd h2 (Nat.not_le.mpr h1)) (fun q h => hA q (Nat.le_trans hS.1 h)) (fun r_10 u t H1 locs ht hvm hw_10 hB hz1 hk1 hS => ?_)
  have hP := keepP hP hk1
  clear hz1 hk1 hB ht hvm hPc hDc hKc
  generalize H1 = H at hP hS ⊢
  obtain rfl : r_10 = 0 := hw_10
  refine lv_if_ne (tgt := 26) hx hb dX7_fill_20 (by decide) (fun h => absurd h (by decide)) (fun _ => ?_)
  refine lv_goto (tgt := 72) hx hb dX7_fill_23 (by decide) ?_
  refine lv_iinc (v := 10) (lv' := [(3, .int 10), (0, .ref h0), (1, .ref h1), (2, .ref h9)]) hx hb dX7_fill_72 hl (k := 0) rfl (by decide) (by decide) rfl (fun ls hl => ?_)
  refine lv_goto (tgt := 2) hx hb dX7_fill_75 (by decide) ?_
  refine lv_iload_n hx hb dX7_fill_2 rfl (lv_at hl 0 rfl) ?_
  refine lv_bipush (v := 10) hx hb dX7_fill_3 (by decide) ?_
  refine lv_icmp_ge (tgt := 78) hx hb dX7_fill_5 (by decide) (fun _ => ?_) (fun h => absurd (by decide) h)
  exact W.vret hx hb hr (fun t ht hW => ⟨⟨(), rfl, trivial, by rw [ht]; exact hP, va_K.moved hW.alike hK, hD⟩, hS.F ht⟩) hS.2.2 dX7_fill_78
