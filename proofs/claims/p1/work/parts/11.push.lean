theorem mw_1_130 : Cond.fieldLink RX7 21 "AnswerLines$Table" "pushedTo" "[I" ∈ BG := mB (t1 (i := 130) (by decide +kernel)) (by decide +kernel)
theorem mw_1_131 : Cond.fieldLink RX7 24 "AnswerLines$Table" "slots" "[I" ∈ BG := mB (t1 (i := 131) (by decide +kernel)) (by decide +kernel)
theorem dX7_push_0 : decode cX7_push 0 = .ok (.iconst 0, 1) := by decide +kernel
theorem dX7_push_1 : decode cX7_push 1 = .ok (.istore_n 1, 1) := by decide +kernel
theorem dX7_push_2 : decode cX7_push 2 = .ok (.iload_n 1, 1) := by decide +kernel
theorem dX7_push_3 : decode cX7_push 3 = .ok (.bipush 100, 2) := by decide +kernel
theorem dX7_push_5 : decode cX7_push 5 = .ok (.if_icmp .ge 17, 3) := by decide +kernel
theorem dX7_push_22 : decode cX7_push 22 = .ok (.iconst 0, 1) := by decide +kernel
theorem dX7_push_23 : decode cX7_push 23 = .ok (.istore_n 1, 1) := by decide +kernel
theorem dX7_push_24 : decode cX7_push 24 = .ok (.iconst 0, 1) := by decide +kernel
theorem dX7_push_25 : decode cX7_push 25 = .ok (.istore_n 2, 1) := by decide +kernel
theorem dX7_push_26 : decode cX7_push 26 = .ok (.iload_n 2, 1) := by decide +kernel
theorem dX7_push_27 : decode cX7_push 27 = .ok (.bipush 10, 2) := by decide +kernel
theorem dX7_push_29 : decode cX7_push 29 = .ok (.if_icmp .ge 36, 3) := by decide +kernel
theorem dX7_push_32 : decode cX7_push 32 = .ok (.aload_n 0, 1) := by decide +kernel
theorem dX7_push_33 : decode cX7_push 33 = .ok (.getfield 21, 3) := by decide +kernel
theorem dX7_push_36 : decode cX7_push 36 = .ok (.iload_n 2, 1) := by decide +kernel
theorem dX7_push_37 : decode cX7_push 37 = .ok (.bipush (-6), 2) := by decide +kernel
theorem dX7_push_39 : decode cX7_push 39 = .ok (.iastore, 1) := by decide +kernel
theorem dX7_push_40 : decode cX7_push 40 = .ok (.aload_n 0, 1) := by decide +kernel
theorem dX7_push_41 : decode cX7_push 41 = .ok (.getfield 9, 3) := by decide +kernel
theorem dX7_push_44 : decode cX7_push 44 = .ok (.iload_n 2, 1) := by decide +kernel
theorem dX7_push_45 : decode cX7_push 45 = .ok (.iaload, 1) := by decide +kernel
theorem dX7_push_46 : decode cX7_push 46 = .ok (.ifCond .eq 13, 3) := by decide +kernel
theorem dX7_push_59 : decode cX7_push 59 = .ok (.iinc 2 1, 3) := by decide +kernel
theorem dX7_push_62 : decode cX7_push 62 = .ok (.goto (-36), 3) := by decide +kernel
theorem dX7_push_65 : decode cX7_push 65 = .ok (.iload_n 1, 1) := by decide +kernel
theorem dX7_push_66 : decode cX7_push 66 = .ok (.ireturn, 1) := by decide +kernel
theorem dX7_push_8 : decode cX7_push 8 = .ok (.aload_n 0, 1) := by decide +kernel
theorem dX7_push_9 : decode cX7_push 9 = .ok (.getfield 24, 3) := by decide +kernel
theorem dX7_push_12 : decode cX7_push 12 = .ok (.iload_n 1, 1) := by decide +kernel
theorem dX7_push_13 : decode cX7_push 13 = .ok (.bipush (-6), 2) := by decide +kernel
theorem dX7_push_15 : decode cX7_push 15 = .ok (.iastore, 1) := by decide +kernel
theorem dX7_push_16 : decode cX7_push 16 = .ok (.iinc 1 1, 3) := by decide +kernel
theorem dX7_push_19 : decode cX7_push 19 = .ok (.goto (-17), 3) := by decide +kernel
theorem dX7_standsAt_0 : decode cX7_standsAt 0 = .ok (.iload_n 1, 1) := by decide +kernel
theorem dX7_standsAt_1 : decode cX7_standsAt 1 = .ok (.ifCond .lt 18, 3) := by decide +kernel
theorem dX7_standsAt_19 : decode cX7_standsAt 19 = .ok (.bipush (-6), 2) := by decide +kernel
theorem dX7_standsAt_21 : decode cX7_standsAt 21 = .ok (.ireturn, 1) := by decide +kernel
theorem dX7_standsAt_4 : decode cX7_standsAt 4 = .ok (.iload_n 1, 1) := by decide +kernel
theorem dX7_standsAt_5 : decode cX7_standsAt 5 = .ok (.bipush 100, 2) := by decide +kernel
theorem dX7_standsAt_7 : decode cX7_standsAt 7 = .ok (.if_icmp .ge 12, 3) := by decide +kernel
theorem dX7_standsAt_10 : decode cX7_standsAt 10 = .ok (.aload_n 0, 1) := by decide +kernel
theorem dX7_standsAt_11 : decode cX7_standsAt 11 = .ok (.getfield 24, 3) := by decide +kernel
theorem dX7_standsAt_14 : decode cX7_standsAt 14 = .ok (.iload_n 1, 1) := by decide +kernel
theorem dX7_standsAt_15 : decode cX7_standsAt 15 = .ok (.iaload, 1) := by decide +kernel
theorem dX7_standsAt_16 : decode cX7_standsAt 16 = .ok (.goto 5, 3) := by decide +kernel
set_option maxHeartbeats 4000000 in
set_option maxRecDepth 100000 in
theorem c_push (l : Launch) (dC : Nat → ClassId) (dI : Nat → Nat → Nat) (sz : Nat) (h0 : Nat) (a0 : Nat) (w1 : Value) (w2 : Value) (a3 : Nat) (a4 : Nat) (ka0 : ClassId) (ka3 : ClassId) (ka4 : ClassId)  : Met l yX7_push (wq yX7_push cX7_push 3 (some .int)) ({ frames := 0, cells := 0, slots := 0, locals := 0 }) (va_Pc [.ref h0] (pcW dC dI [(ka0, .int), (ka3, .int), (ka4, .int)] [(h0, .inr (6, [.ref a0, w1, w2, .ref a3, .ref a4])), (a0, .inl (ka0, 10, .inl (fun _ => 0))), (a3, .inl (ka3, 10, .inl (fun _ => 0))), (a4, .inl (ka4, 100, .inl (fun _ => 0)))] sz)) (va_Qi (fun (r : Int32) (_ : Unit) => r = 0) (fun _ t => va_P (dC, dI) vwCl [(h0, .inr (6, [.ref a0, w1, w2, .ref a3, .ref a4])), (a0, .inl (ka0, 10, .inl (fun _ => 0))), (a3, .inl (ka3, 10, .inl (slF (-6) 0 10))), (a4, .inl (ka4, 100, .inl (slF (-6) 0 100)))] t.heap ∧ va_K (dC, dI) vwCl [(ka0, .int), (ka3, .int), (ka4, .int)] t ∧ va_D (va_A [(h0, .inr (6, [.ref a0, w1, w2, .ref a3, .ref a4])), (a0, .inl (ka0, 10, .inl (fun _ => 0))), (a3, .inl (ka3, 10, .inl (fun _ => 0))), (a4, .inl (ka4, 100, .inl (fun _ => 0)))] sz) [(h0, .inr (6, [.ref a0, w1, w2, .ref a3, .ref a4])), (a0, .inl (ka0, 10, .inl (fun _ => 0))), (a3, .inl (ka3, 10, .inl (slF (-6) 0 10))), (a4, .inl (ka4, 100, .inl (slF (-6) 0 100)))]) (va_A [(h0, .inr (6, [.ref a0, w1, w2, .ref a3, .ref a4])), (a0, .inl (ka0, 10, .inl (fun _ => 0))), (a3, .inl (ka3, 10, .inl (fun _ => 0))), (a4, .inl (ka4, 100, .inl (fun _ => 0)))] sz)) 0 0 (va_A [(h0, .inr (6, [.ref a0, w1, w2, .ref a3, .ref a4])), (a0, .inl (ka0, 10, .inl (fun _ => 0))), (a3, .inl (ka3, 10, .inl (fun _ => 0))), (a4, .inl (ka4, 100, .inl (fun _ => 0)))] sz) := by
  refine Met.ofW (cc := cX7_push) (maxL := 3) (ret := (some .int)) (by decide) rfl ?_
  intro p e s m args below meth c s₁ B hml hv
  obtain ⟨rfl, hsz, hN, hP, hK, hD0⟩ := hv
  have hx := B.exec
  have hb := B.bytes
  have hr := B.returns
  have hts0 := atoms_spec (ws := (wq yX7_push cX7_push 3 (some .int))) B.pre
  have hts : ∀ w ∈ BG, w.before _ s = true := fun w h => hts0 w (List.mem_cons_of_mem _ h)
  have hown : s.vm.findClass RX7 = some m.cls := findClass_of_methodNamed B.named
  have hlocks := B.notSynchronized
  subst hsz
  have hD := hD0.self (sz := s.heap.size)
  generalize hAe : va_A [(h0, .inr (6, [.ref a0, w1, w2, .ref a3, .ref a4])), (a0, .inl (ka0, 10, .inl (fun _ => 0))), (a3, .inl (ka3, 10, .inl (fun _ => 0))), (a4, .inl (ka4, 100, .inl (fun _ => 0)))] s.heap.size = A at hD ⊢
  have hA : ∀ q : Nat, s.heap.size ≤ q → A q := fun q h => by rw [← hAe]; exact Or.inr h
  have hS : va_S A s.heap s.heap [] := va_S.rf
  have hP : va_P (dC, dI) vwCl [(h0, .inr (6, [.ref a0, w1, w2, .ref a3, .ref a4])), (a0, .inl (ka0, 10, .inl (fun _ => 0))), (a3, .inl (ka3, 10, .inl (fun _ => 0))), (a4, .inl (ka4, 100, .inl (fun _ => 0)))] s.heap := hP
  have hl := lv_entry ([.ref h0]) (n := 3) (Nat.le_of_ble_eq_true rfl)
  rw [lg_entry_eq]
  generalize (lg_sl ([.ref h0]) ++ List.replicate (3 - (lg_sl ([.ref h0])).length) Slot.unset).toArray = ls at hl ⊢
  have hl : lv_has ls 3 [(0, .ref h0)] := hl
  skip
  refine lv_iconst (v := 0) hx hb dX7_push_0 (by decide) ?_
  refine lv_istore_n (lv' := [(1, .int 0), (0, .ref h0)]) hx hb dX7_push_1 rfl hl (by decide) rfl (fun ls hl => ?_)
  have key_1 : ∀ (n : Nat) (k : Nat), k ≤ 100 → 100 - k < n → ∀ (H : Heap) (locs : List Loc), va_P (dC, dI) vwCl [(h0, .inr (6, [.ref a0, w1, w2, .ref a3, .ref a4])), (a0, .inl (ka0, 10, .inl (fun _ => 0))), (a3, .inl (ka3, 10, .inl (fun _ => 0))), (a4, .inl (ka4, 100, .inl (slF (-6) 0 k)))] H → va_D A [(h0, .inr (6, [.ref a0, w1, w2, .ref a3, .ref a4])), (a0, .inl (ka0, 10, .inl (fun _ => 0))), (a3, .inl (ka3, 10, .inl (fun _ => 0))), (a4, .inl (ka4, 100, .inl (slF (-6) 0 k)))] → va_S A s.heap H locs → ∀ (ls : Array Slot), lv_has ls 3 [(1, .int (nI k)), (0, .ref h0)] → W p l e (headSpec (wq yX7_push cX7_push 3 (some .int)) ({ frames := 0, cells := 0, slots := 0, locals := 0 })).room s m (([.ref h0] : List Value)).toArray below meth c H locs 0 0 (MQ below (va_Qi (fun (r : Int32) (_ : Unit) => r = 0) (fun _ t => va_P (dC, dI) vwCl [(h0, .inr (6, [.ref a0, w1, w2, .ref a3, .ref a4])), (a0, .inl (ka0, 10, .inl (fun _ => 0))), (a3, .inl (ka3, 10, .inl (slF (-6) 0 10))), (a4, .inl (ka4, 100, .inl (slF (-6) 0 100)))] t.heap ∧ va_K (dC, dI) vwCl [(ka0, .int), (ka3, .int), (ka4, .int)] t ∧ va_D A [(h0, .inr (6, [.ref a0, w1, w2, .ref a3, .ref a4])), (a0, .inl (ka0, 10, .inl (fun _ => 0))), (a3, .inl (ka3, 10, .inl (slF (-6) 0 10))), (a4, .inl (ka4, 100, .inl (slF (-6) 0 100)))]) A) (([.ref h0] : List Value)).toArray s 0 0 A) (F0 m 2 ls []) := by
    intro n
    induction n with
    | zero => intro k hk hme; exact absurd hme (Nat.not_lt_zero _)
    | succ n ih_2 =>
      intro k hk hme H locs hP hD hS ls hl
      refine lv_iload_n hx hb dX7_push_2 rfl (lv_at hl 0 rfl) ?_
      refine lv_bipush (v := 100) hx hb dX7_push_3 (by decide) ?_
      refine lv_icmp_ge (tgt := 22) hx hb dX7_push_5 (by decide) (fun c_3 => ?_) (fun c_3 => ?_)
      · have b_4 : k ≥ 100 := nz_ge (by omega) (by omega) c_3
        obtain rfl : k = 100 := by omega
        refine lv_iconst (v := 0) hx hb dX7_push_22 (by decide) ?_
        refine lv_istore_n (lv' := [(1, .int 0), (0, .ref h0)]) hx hb dX7_push_23 rfl hl (by decide) rfl (fun ls hl => ?_)
        refine lv_iconst (v := 0) hx hb dX7_push_24 (by decide) ?_
        refine lv_istore_n (lv' := [(2, .int 0), (1, .int 0), (0, .ref h0)]) hx hb dX7_push_25 rfl hl (by decide) rfl (fun ls hl => ?_)
        refine lv_iload_n hx hb dX7_push_26 rfl (lv_at hl 0 rfl) ?_
        refine lv_bipush (v := 10) hx hb dX7_push_27 (by decide) ?_
        refine lv_icmp_ge (tgt := 65) hx hb dX7_push_29 (by decide) (fun h => absurd h (by decide)) (fun _ => ?_)
        refine lv_aload_n hx hb dX7_push_32 rfl (lv_at hl 2 rfl) ?_
        refine va_get (D := (dC, dI)) (ci := 6) (v := .ref a3) (C := RX7) (T := TX7) (N := 5) hx hb hts inB_7 hown hK hP 0 rfl rfl 3 (by decide) (hts _ mw_1_130) (fun _ h9 => h9) rfl dX7_push_33 ?_
        refine lv_iload_n hx hb dX7_push_36 rfl (lv_at hl 0 rfl) ?_
        refine lv_bipush (v := (-6)) hx hb dX7_push_37 (by decide) ?_
        refine va_iast hx hb hK hP hD hS 2 1 rfl rfl (show vp_in 0 10 by unfold vp_in; decide) dX7_push_39 (fun H locs hP hD hS => ?_)
        rw [show upd (fun _ => 0) (Int32.toNatClampNeg 0) (-6) = (slF (-6) 0 1) from slF_u0 _ _] at hP hD
        have hP : va_P (dC, dI) vwCl [(h0, .inr (6, [.ref a0, w1, w2, .ref a3, .ref a4])), (a0, .inl (ka0, 10, .inl (fun _ => 0))), (a3, .inl (ka3, 10, .inl (slF (-6) 0 1))), (a4, .inl (ka4, 100, .inl (slF (-6) 0 100)))] H := hP
        have hD : va_D A [(h0, .inr (6, [.ref a0, w1, w2, .ref a3, .ref a4])), (a0, .inl (ka0, 10, .inl (fun _ => 0))), (a3, .inl (ka3, 10, .inl (slF (-6) 0 1))), (a4, .inl (ka4, 100, .inl (slF (-6) 0 100)))] := hD
        refine lv_aload_n hx hb dX7_push_40 rfl (lv_at hl 2 rfl) ?_
        refine va_get (D := (dC, dI)) (ci := 6) (v := .ref a0) (C := RX7) (T := TX7) (N := 5) hx hb hts inB_7 hown hK hP 0 rfl rfl 0 (by decide) (hts _ mw_1_127) (fun _ h9 => h9) rfl dX7_push_41 ?_
        refine lv_iload_n hx hb dX7_push_44 rfl (lv_at hl 0 rfl) ?_
        refine va_iald hx hb hK hP 1 0 rfl rfl (show vp_in 0 10 by unfold vp_in; decide) dX7_push_45 ?_
        refine hx_top (y := 0) rfl ?_
        refine lv_if_eq (tgt := 59) hx hb dX7_push_46 (by decide) (fun _ => ?_) (fun h => absurd (by decide) h)
        refine lv_iinc (v := 1) (lv' := [(2, .int 1), (1, .int 0), (0, .ref h0)]) hx hb dX7_push_59 hl (k := 0) rfl (by decide) (by decide) rfl (fun ls hl => ?_)
        refine lv_goto (tgt := 26) hx hb dX7_push_62 (by decide) ?_
        refine lv_iload_n hx hb dX7_push_26 rfl (lv_at hl 0 rfl) ?_
        refine lv_bipush (v := 10) hx hb dX7_push_27 (by decide) ?_
        refine lv_icmp_ge (tgt := 65) hx hb dX7_push_29 (by decide) (fun h => absurd h (by decide)) (fun _ => ?_)
        refine lv_aload_n hx hb dX7_push_32 rfl (lv_at hl 2 rfl) ?_
        refine va_get (D := (dC, dI)) (ci := 6) (v := .ref a3) (C := RX7) (T := TX7) (N := 5) hx hb hts inB_7 hown hK hP 0 rfl rfl 3 (by decide) (hts _ mw_1_130) (fun _ h9 => h9) rfl dX7_push_33 ?_
        refine lv_iload_n hx hb dX7_push_36 rfl (lv_at hl 0 rfl) ?_
        refine lv_bipush (v := (-6)) hx hb dX7_push_37 (by decide) ?_
        refine va_iast hx hb hK hP hD hS 2 1 rfl rfl (show vp_in 1 10 by unfold vp_in; decide) dX7_push_39 (fun H locs hP hD hS => ?_)
        rw [show upd (slF (-6) 0 1) (Int32.toNatClampNeg 1) (-6) = (slF (-6) 0 2) from slF_u _ _ 1] at hP hD
        have hP : va_P (dC, dI) vwCl [(h0, .inr (6, [.ref a0, w1, w2, .ref a3, .ref a4])), (a0, .inl (ka0, 10, .inl (fun _ => 0))), (a3, .inl (ka3, 10, .inl (slF (-6) 0 2))), (a4, .inl (ka4, 100, .inl (slF (-6) 0 100)))] H := hP
        have hD : va_D A [(h0, .inr (6, [.ref a0, w1, w2, .ref a3, .ref a4])), (a0, .inl (ka0, 10, .inl (fun _ => 0))), (a3, .inl (ka3, 10, .inl (slF (-6) 0 2))), (a4, .inl (ka4, 100, .inl (slF (-6) 0 100)))] := hD
        refine lv_aload_n hx hb dX7_push_40 rfl (lv_at hl 2 rfl) ?_
        refine va_get (D := (dC, dI)) (ci := 6) (v := .ref a0) (C := RX7) (T := TX7) (N := 5) hx hb hts inB_7 hown hK hP 0 rfl rfl 0 (by decide) (hts _ mw_1_127) (fun _ h9 => h9) rfl dX7_push_41 ?_
        refine lv_iload_n hx hb dX7_push_44 rfl (lv_at hl 0 rfl) ?_
        refine va_iald hx hb hK hP 1 0 rfl rfl (show vp_in 1 10 by unfold vp_in; decide) dX7_push_45 ?_
        refine hx_top (y := 0) rfl ?_
        refine lv_if_eq (tgt := 59) hx hb dX7_push_46 (by decide) (fun _ => ?_) (fun h => absurd (by decide) h)
        refine lv_iinc (v := 2) (lv' := [(2, .int 2), (1, .int 0), (0, .ref h0)]) hx hb dX7_push_59 hl (k := 0) rfl (by decide) (by decide) rfl (fun ls hl => ?_)
        refine lv_goto (tgt := 26) hx hb dX7_push_62 (by decide) ?_
        refine lv_iload_n hx hb dX7_push_26 rfl (lv_at hl 0 rfl) ?_
        refine lv_bipush (v := 10) hx hb dX7_push_27 (by decide) ?_
        refine lv_icmp_ge (tgt := 65) hx hb dX7_push_29 (by decide) (fun h => absurd h (by decide)) (fun _ => ?_)
        refine lv_aload_n hx hb dX7_push_32 rfl (lv_at hl 2 rfl) ?_
        refine va_get (D := (dC, dI)) (ci := 6) (v := .ref a3) (C := RX7) (T := TX7) (N := 5) hx hb hts inB_7 hown hK hP 0 rfl rfl 3 (by decide) (hts _ mw_1_130) (fun _ h9 => h9) rfl dX7_push_33 ?_
        refine lv_iload_n hx hb dX7_push_36 rfl (lv_at hl 0 rfl) ?_
        refine lv_bipush (v := (-6)) hx hb dX7_push_37 (by decide) ?_
        refine va_iast hx hb hK hP hD hS 2 1 rfl rfl (show vp_in 2 10 by unfold vp_in; decide) dX7_push_39 (fun H locs hP hD hS => ?_)
        rw [show upd (slF (-6) 0 2) (Int32.toNatClampNeg 2) (-6) = (slF (-6) 0 3) from slF_u _ _ 2] at hP hD
        have hP : va_P (dC, dI) vwCl [(h0, .inr (6, [.ref a0, w1, w2, .ref a3, .ref a4])), (a0, .inl (ka0, 10, .inl (fun _ => 0))), (a3, .inl (ka3, 10, .inl (slF (-6) 0 3))), (a4, .inl (ka4, 100, .inl (slF (-6) 0 100)))] H := hP
        have hD : va_D A [(h0, .inr (6, [.ref a0, w1, w2, .ref a3, .ref a4])), (a0, .inl (ka0, 10, .inl (fun _ => 0))), (a3, .inl (ka3, 10, .inl (slF (-6) 0 3))), (a4, .inl (ka4, 100, .inl (slF (-6) 0 100)))] := hD
        refine lv_aload_n hx hb dX7_push_40 rfl (lv_at hl 2 rfl) ?_
        refine va_get (D := (dC, dI)) (ci := 6) (v := .ref a0) (C := RX7) (T := TX7) (N := 5) hx hb hts inB_7 hown hK hP 0 rfl rfl 0 (by decide) (hts _ mw_1_127) (fun _ h9 => h9) rfl dX7_push_41 ?_
        refine lv_iload_n hx hb dX7_push_44 rfl (lv_at hl 0 rfl) ?_
        refine va_iald hx hb hK hP 1 0 rfl rfl (show vp_in 2 10 by unfold vp_in; decide) dX7_push_45 ?_
        refine hx_top (y := 0) rfl ?_
        refine lv_if_eq (tgt := 59) hx hb dX7_push_46 (by decide) (fun _ => ?_) (fun h => absurd (by decide) h)
        refine lv_iinc (v := 3) (lv' := [(2, .int 3), (1, .int 0), (0, .ref h0)]) hx hb dX7_push_59 hl (k := 0) rfl (by decide) (by decide) rfl (fun ls hl => ?_)
        refine lv_goto (tgt := 26) hx hb dX7_push_62 (by decide) ?_
        refine lv_iload_n hx hb dX7_push_26 rfl (lv_at hl 0 rfl) ?_
        refine lv_bipush (v := 10) hx hb dX7_push_27 (by decide) ?_
        refine lv_icmp_ge (tgt := 65) hx hb dX7_push_29 (by decide) (fun h => absurd h (by decide)) (fun _ => ?_)
        refine lv_aload_n hx hb dX7_push_32 rfl (lv_at hl 2 rfl) ?_
        refine va_get (D := (dC, dI)) (ci := 6) (v := .ref a3) (C := RX7) (T := TX7) (N := 5) hx hb hts inB_7 hown hK hP 0 rfl rfl 3 (by decide) (hts _ mw_1_130) (fun _ h9 => h9) rfl dX7_push_33 ?_
        refine lv_iload_n hx hb dX7_push_36 rfl (lv_at hl 0 rfl) ?_
        refine lv_bipush (v := (-6)) hx hb dX7_push_37 (by decide) ?_
        refine va_iast hx hb hK hP hD hS 2 1 rfl rfl (show vp_in 3 10 by unfold vp_in; decide) dX7_push_39 (fun H locs hP hD hS => ?_)
        rw [show upd (slF (-6) 0 3) (Int32.toNatClampNeg 3) (-6) = (slF (-6) 0 4) from slF_u _ _ 3] at hP hD
        have hP : va_P (dC, dI) vwCl [(h0, .inr (6, [.ref a0, w1, w2, .ref a3, .ref a4])), (a0, .inl (ka0, 10, .inl (fun _ => 0))), (a3, .inl (ka3, 10, .inl (slF (-6) 0 4))), (a4, .inl (ka4, 100, .inl (slF (-6) 0 100)))] H := hP
        have hD : va_D A [(h0, .inr (6, [.ref a0, w1, w2, .ref a3, .ref a4])), (a0, .inl (ka0, 10, .inl (fun _ => 0))), (a3, .inl (ka3, 10, .inl (slF (-6) 0 4))), (a4, .inl (ka4, 100, .inl (slF (-6) 0 100)))] := hD
        refine lv_aload_n hx hb dX7_push_40 rfl (lv_at hl 2 rfl) ?_
        refine va_get (D := (dC, dI)) (ci := 6) (v := .ref a0) (C := RX7) (T := TX7) (N := 5) hx hb hts inB_7 hown hK hP 0 rfl rfl 0 (by decide) (hts _ mw_1_127) (fun _ h9 => h9) rfl dX7_push_41 ?_
        refine lv_iload_n hx hb dX7_push_44 rfl (lv_at hl 0 rfl) ?_
        refine va_iald hx hb hK hP 1 0 rfl rfl (show vp_in 3 10 by unfold vp_in; decide) dX7_push_45 ?_
        refine hx_top (y := 0) rfl ?_
        refine lv_if_eq (tgt := 59) hx hb dX7_push_46 (by decide) (fun _ => ?_) (fun h => absurd (by decide) h)
        refine lv_iinc (v := 4) (lv' := [(2, .int 4), (1, .int 0), (0, .ref h0)]) hx hb dX7_push_59 hl (k := 0) rfl (by decide) (by decide) rfl (fun ls hl => ?_)
        refine lv_goto (tgt := 26) hx hb dX7_push_62 (by decide) ?_
        refine lv_iload_n hx hb dX7_push_26 rfl (lv_at hl 0 rfl) ?_
        refine lv_bipush (v := 10) hx hb dX7_push_27 (by decide) ?_
        refine lv_icmp_ge (tgt := 65) hx hb dX7_push_29 (by decide) (fun h => absurd h (by decide)) (fun _ => ?_)
        refine lv_aload_n hx hb dX7_push_32 rfl (lv_at hl 2 rfl) ?_
        refine va_get (D := (dC, dI)) (ci := 6) (v := .ref a3) (C := RX7) (T := TX7) (N := 5) hx hb hts inB_7 hown hK hP 0 rfl rfl 3 (by decide) (hts _ mw_1_130) (fun _ h9 => h9) rfl dX7_push_33 ?_
        refine lv_iload_n hx hb dX7_push_36 rfl (lv_at hl 0 rfl) ?_
        refine lv_bipush (v := (-6)) hx hb dX7_push_37 (by decide) ?_
        refine va_iast hx hb hK hP hD hS 2 1 rfl rfl (show vp_in 4 10 by unfold vp_in; decide) dX7_push_39 (fun H locs hP hD hS => ?_)
        rw [show upd (slF (-6) 0 4) (Int32.toNatClampNeg 4) (-6) = (slF (-6) 0 5) from slF_u _ _ 4] at hP hD
        have hP : va_P (dC, dI) vwCl [(h0, .inr (6, [.ref a0, w1, w2, .ref a3, .ref a4])), (a0, .inl (ka0, 10, .inl (fun _ => 0))), (a3, .inl (ka3, 10, .inl (slF (-6) 0 5))), (a4, .inl (ka4, 100, .inl (slF (-6) 0 100)))] H := hP
        have hD : va_D A [(h0, .inr (6, [.ref a0, w1, w2, .ref a3, .ref a4])), (a0, .inl (ka0, 10, .inl (fun _ => 0))), (a3, .inl (ka3, 10, .inl (slF (-6) 0 5))), (a4, .inl (ka4, 100, .inl (slF (-6) 0 100)))] := hD
        refine lv_aload_n hx hb dX7_push_40 rfl (lv_at hl 2 rfl) ?_
        refine va_get (D := (dC, dI)) (ci := 6) (v := .ref a0) (C := RX7) (T := TX7) (N := 5) hx hb hts inB_7 hown hK hP 0 rfl rfl 0 (by decide) (hts _ mw_1_127) (fun _ h9 => h9) rfl dX7_push_41 ?_
        refine lv_iload_n hx hb dX7_push_44 rfl (lv_at hl 0 rfl) ?_
        refine va_iald hx hb hK hP 1 0 rfl rfl (show vp_in 4 10 by unfold vp_in; decide) dX7_push_45 ?_
        refine hx_top (y := 0) rfl ?_
        refine lv_if_eq (tgt := 59) hx hb dX7_push_46 (by decide) (fun _ => ?_) (fun h => absurd (by decide) h)
        refine lv_iinc (v := 5) (lv' := [(2, .int 5), (1, .int 0), (0, .ref h0)]) hx hb dX7_push_59 hl (k := 0) rfl (by decide) (by decide) rfl (fun ls hl => ?_)
        refine lv_goto (tgt := 26) hx hb dX7_push_62 (by decide) ?_
        refine lv_iload_n hx hb dX7_push_26 rfl (lv_at hl 0 rfl) ?_
        refine lv_bipush (v := 10) hx hb dX7_push_27 (by decide) ?_
        refine lv_icmp_ge (tgt := 65) hx hb dX7_push_29 (by decide) (fun h => absurd h (by decide)) (fun _ => ?_)
        refine lv_aload_n hx hb dX7_push_32 rfl (lv_at hl 2 rfl) ?_
        refine va_get (D := (dC, dI)) (ci := 6) (v := .ref a3) (C := RX7) (T := TX7) (N := 5) hx hb hts inB_7 hown hK hP 0 rfl rfl 3 (by decide) (hts _ mw_1_130) (fun _ h9 => h9) rfl dX7_push_33 ?_
        refine lv_iload_n hx hb dX7_push_36 rfl (lv_at hl 0 rfl) ?_
        refine lv_bipush (v := (-6)) hx hb dX7_push_37 (by decide) ?_
        refine va_iast hx hb hK hP hD hS 2 1 rfl rfl (show vp_in 5 10 by unfold vp_in; decide) dX7_push_39 (fun H locs hP hD hS => ?_)
        rw [show upd (slF (-6) 0 5) (Int32.toNatClampNeg 5) (-6) = (slF (-6) 0 6) from slF_u _ _ 5] at hP hD
        have hP : va_P (dC, dI) vwCl [(h0, .inr (6, [.ref a0, w1, w2, .ref a3, .ref a4])), (a0, .inl (ka0, 10, .inl (fun _ => 0))), (a3, .inl (ka3, 10, .inl (slF (-6) 0 6))), (a4, .inl (ka4, 100, .inl (slF (-6) 0 100)))] H := hP
        have hD : va_D A [(h0, .inr (6, [.ref a0, w1, w2, .ref a3, .ref a4])), (a0, .inl (ka0, 10, .inl (fun _ => 0))), (a3, .inl (ka3, 10, .inl (slF (-6) 0 6))), (a4, .inl (ka4, 100, .inl (slF (-6) 0 100)))] := hD
        refine lv_aload_n hx hb dX7_push_40 rfl (lv_at hl 2 rfl) ?_
        refine va_get (D := (dC, dI)) (ci := 6) (v := .ref a0) (C := RX7) (T := TX7) (N := 5) hx hb hts inB_7 hown hK hP 0 rfl rfl 0 (by decide) (hts _ mw_1_127) (fun _ h9 => h9) rfl dX7_push_41 ?_
        refine lv_iload_n hx hb dX7_push_44 rfl (lv_at hl 0 rfl) ?_
        refine va_iald hx hb hK hP 1 0 rfl rfl (show vp_in 5 10 by unfold vp_in; decide) dX7_push_45 ?_
        refine hx_top (y := 0) rfl ?_
        refine lv_if_eq (tgt := 59) hx hb dX7_push_46 (by decide) (fun _ => ?_) (fun h => absurd (by decide) h)
        refine lv_iinc (v := 6) (lv' := [(2, .int 6), (1, .int 0), (0, .ref h0)]) hx hb dX7_push_59 hl (k := 0) rfl (by decide) (by decide) rfl (fun ls hl => ?_)
        refine lv_goto (tgt := 26) hx hb dX7_push_62 (by decide) ?_
        refine lv_iload_n hx hb dX7_push_26 rfl (lv_at hl 0 rfl) ?_
        refine lv_bipush (v := 10) hx hb dX7_push_27 (by decide) ?_
        refine lv_icmp_ge (tgt := 65) hx hb dX7_push_29 (by decide) (fun h => absurd h (by decide)) (fun _ => ?_)
        refine lv_aload_n hx hb dX7_push_32 rfl (lv_at hl 2 rfl) ?_
        refine va_get (D := (dC, dI)) (ci := 6) (v := .ref a3) (C := RX7) (T := TX7) (N := 5) hx hb hts inB_7 hown hK hP 0 rfl rfl 3 (by decide) (hts _ mw_1_130) (fun _ h9 => h9) rfl dX7_push_33 ?_
        refine lv_iload_n hx hb dX7_push_36 rfl (lv_at hl 0 rfl) ?_
        refine lv_bipush (v := (-6)) hx hb dX7_push_37 (by decide) ?_
        refine va_iast hx hb hK hP hD hS 2 1 rfl rfl (show vp_in 6 10 by unfold vp_in; decide) dX7_push_39 (fun H locs hP hD hS => ?_)
        rw [show upd (slF (-6) 0 6) (Int32.toNatClampNeg 6) (-6) = (slF (-6) 0 7) from slF_u _ _ 6] at hP hD
        have hP : va_P (dC, dI) vwCl [(h0, .inr (6, [.ref a0, w1, w2, .ref a3, .ref a4])), (a0, .inl (ka0, 10, .inl (fun _ => 0))), (a3, .inl (ka3, 10, .inl (slF (-6) 0 7))), (a4, .inl (ka4, 100, .inl (slF (-6) 0 100)))] H := hP
        have hD : va_D A [(h0, .inr (6, [.ref a0, w1, w2, .ref a3, .ref a4])), (a0, .inl (ka0, 10, .inl (fun _ => 0))), (a3, .inl (ka3, 10, .inl (slF (-6) 0 7))), (a4, .inl (ka4, 100, .inl (slF (-6) 0 100)))] := hD
        refine lv_aload_n hx hb dX7_push_40 rfl (lv_at hl 2 rfl) ?_
        refine va_get (D := (dC, dI)) (ci := 6) (v := .ref a0) (C := RX7) (T := TX7) (N := 5) hx hb hts inB_7 hown hK hP 0 rfl rfl 0 (by decide) (hts _ mw_1_127) (fun _ h9 => h9) rfl dX7_push_41 ?_
        refine lv_iload_n hx hb dX7_push_44 rfl (lv_at hl 0 rfl) ?_
        refine va_iald hx hb hK hP 1 0 rfl rfl (show vp_in 6 10 by unfold vp_in; decide) dX7_push_45 ?_
        refine hx_top (y := 0) rfl ?_
        refine lv_if_eq (tgt := 59) hx hb dX7_push_46 (by decide) (fun _ => ?_) (fun h => absurd (by decide) h)
        refine lv_iinc (v := 7) (lv' := [(2, .int 7), (1, .int 0), (0, .ref h0)]) hx hb dX7_push_59 hl (k := 0) rfl (by decide) (by decide) rfl (fun ls hl => ?_)
        refine lv_goto (tgt := 26) hx hb dX7_push_62 (by decide) ?_
        refine lv_iload_n hx hb dX7_push_26 rfl (lv_at hl 0 rfl) ?_
        refine lv_bipush (v := 10) hx hb dX7_push_27 (by decide) ?_
        refine lv_icmp_ge (tgt := 65) hx hb dX7_push_29 (by decide) (fun h => absurd h (by decide)) (fun _ => ?_)
        refine lv_aload_n hx hb dX7_push_32 rfl (lv_at hl 2 rfl) ?_
        refine va_get (D := (dC, dI)) (ci := 6) (v := .ref a3) (C := RX7) (T := TX7) (N := 5) hx hb hts inB_7 hown hK hP 0 rfl rfl 3 (by decide) (hts _ mw_1_130) (fun _ h9 => h9) rfl dX7_push_33 ?_
        refine lv_iload_n hx hb dX7_push_36 rfl (lv_at hl 0 rfl) ?_
        refine lv_bipush (v := (-6)) hx hb dX7_push_37 (by decide) ?_
        refine va_iast hx hb hK hP hD hS 2 1 rfl rfl (show vp_in 7 10 by unfold vp_in; decide) dX7_push_39 (fun H locs hP hD hS => ?_)
        rw [show upd (slF (-6) 0 7) (Int32.toNatClampNeg 7) (-6) = (slF (-6) 0 8) from slF_u _ _ 7] at hP hD
        have hP : va_P (dC, dI) vwCl [(h0, .inr (6, [.ref a0, w1, w2, .ref a3, .ref a4])), (a0, .inl (ka0, 10, .inl (fun _ => 0))), (a3, .inl (ka3, 10, .inl (slF (-6) 0 8))), (a4, .inl (ka4, 100, .inl (slF (-6) 0 100)))] H := hP
        have hD : va_D A [(h0, .inr (6, [.ref a0, w1, w2, .ref a3, .ref a4])), (a0, .inl (ka0, 10, .inl (fun _ => 0))), (a3, .inl (ka3, 10, .inl (slF (-6) 0 8))), (a4, .inl (ka4, 100, .inl (slF (-6) 0 100)))] := hD
        refine lv_aload_n hx hb dX7_push_40 rfl (lv_at hl 2 rfl) ?_
        refine va_get (D := (dC, dI)) (ci := 6) (v := .ref a0) (C := RX7) (T := TX7) (N := 5) hx hb hts inB_7 hown hK hP 0 rfl rfl 0 (by decide) (hts _ mw_1_127) (fun _ h9 => h9) rfl dX7_push_41 ?_
        refine lv_iload_n hx hb dX7_push_44 rfl (lv_at hl 0 rfl) ?_
        refine va_iald hx hb hK hP 1 0 rfl rfl (show vp_in 7 10 by unfold vp_in; decide) dX7_push_45 ?_
        refine hx_top (y := 0) rfl ?_
        refine lv_if_eq (tgt := 59) hx hb dX7_push_46 (by decide) (fun _ => ?_) (fun h => absurd (by decide) h)
        refine lv_iinc (v := 8) (lv' := [(2, .int 8), (1, .int 0), (0, .ref h0)]) hx hb dX7_push_59 hl (k := 0) rfl (by decide) (by decide) rfl (fun ls hl => ?_)
        refine lv_goto (tgt := 26) hx hb dX7_push_62 (by decide) ?_
        refine lv_iload_n hx hb dX7_push_26 rfl (lv_at hl 0 rfl) ?_
        refine lv_bipush (v := 10) hx hb dX7_push_27 (by decide) ?_
        refine lv_icmp_ge (tgt := 65) hx hb dX7_push_29 (by decide) (fun h => absurd h (by decide)) (fun _ => ?_)
        refine lv_aload_n hx hb dX7_push_32 rfl (lv_at hl 2 rfl) ?_
        refine va_get (D := (dC, dI)) (ci := 6) (v := .ref a3) (C := RX7) (T := TX7) (N := 5) hx hb hts inB_7 hown hK hP 0 rfl rfl 3 (by decide) (hts _ mw_1_130) (fun _ h9 => h9) rfl dX7_push_33 ?_
        refine lv_iload_n hx hb dX7_push_36 rfl (lv_at hl 0 rfl) ?_
        refine lv_bipush (v := (-6)) hx hb dX7_push_37 (by decide) ?_
        refine va_iast hx hb hK hP hD hS 2 1 rfl rfl (show vp_in 8 10 by unfold vp_in; decide) dX7_push_39 (fun H locs hP hD hS => ?_)
        rw [show upd (slF (-6) 0 8) (Int32.toNatClampNeg 8) (-6) = (slF (-6) 0 9) from slF_u _ _ 8] at hP hD
        have hP : va_P (dC, dI) vwCl [(h0, .inr (6, [.ref a0, w1, w2, .ref a3, .ref a4])), (a0, .inl (ka0, 10, .inl (fun _ => 0))), (a3, .inl (ka3, 10, .inl (slF (-6) 0 9))), (a4, .inl (ka4, 100, .inl (slF (-6) 0 100)))] H := hP
        have hD : va_D A [(h0, .inr (6, [.ref a0, w1, w2, .ref a3, .ref a4])), (a0, .inl (ka0, 10, .inl (fun _ => 0))), (a3, .inl (ka3, 10, .inl (slF (-6) 0 9))), (a4, .inl (ka4, 100, .inl (slF (-6) 0 100)))] := hD
        refine lv_aload_n hx hb dX7_push_40 rfl (lv_at hl 2 rfl) ?_
        refine va_get (D := (dC, dI)) (ci := 6) (v := .ref a0) (C := RX7) (T := TX7) (N := 5) hx hb hts inB_7 hown hK hP 0 rfl rfl 0 (by decide) (hts _ mw_1_127) (fun _ h9 => h9) rfl dX7_push_41 ?_
        refine lv_iload_n hx hb dX7_push_44 rfl (lv_at hl 0 rfl) ?_
        refine va_iald hx hb hK hP 1 0 rfl rfl (show vp_in 8 10 by unfold vp_in; decide) dX7_push_45 ?_
        refine hx_top (y := 0) rfl ?_
        refine lv_if_eq (tgt := 59) hx hb dX7_push_46 (by decide) (fun _ => ?_) (fun h => absurd (by decide) h)
        refine lv_iinc (v := 9) (lv' := [(2, .int 9), (1, .int 0), (0, .ref h0)]) hx hb dX7_push_59 hl (k := 0) rfl (by decide) (by decide) rfl (fun ls hl => ?_)
        refine lv_goto (tgt := 26) hx hb dX7_push_62 (by decide) ?_
        refine lv_iload_n hx hb dX7_push_26 rfl (lv_at hl 0 rfl) ?_
        refine lv_bipush (v := 10) hx hb dX7_push_27 (by decide) ?_
        refine lv_icmp_ge (tgt := 65) hx hb dX7_push_29 (by decide) (fun h => absurd h (by decide)) (fun _ => ?_)
        refine lv_aload_n hx hb dX7_push_32 rfl (lv_at hl 2 rfl) ?_
        refine va_get (D := (dC, dI)) (ci := 6) (v := .ref a3) (C := RX7) (T := TX7) (N := 5) hx hb hts inB_7 hown hK hP 0 rfl rfl 3 (by decide) (hts _ mw_1_130) (fun _ h9 => h9) rfl dX7_push_33 ?_
        refine lv_iload_n hx hb dX7_push_36 rfl (lv_at hl 0 rfl) ?_
        refine lv_bipush (v := (-6)) hx hb dX7_push_37 (by decide) ?_
        refine va_iast hx hb hK hP hD hS 2 1 rfl rfl (show vp_in 9 10 by unfold vp_in; decide) dX7_push_39 (fun H locs hP hD hS => ?_)
        rw [show upd (slF (-6) 0 9) (Int32.toNatClampNeg 9) (-6) = (slF (-6) 0 10) from slF_u _ _ 9] at hP hD
        have hP : va_P (dC, dI) vwCl [(h0, .inr (6, [.ref a0, w1, w2, .ref a3, .ref a4])), (a0, .inl (ka0, 10, .inl (fun _ => 0))), (a3, .inl (ka3, 10, .inl (slF (-6) 0 10))), (a4, .inl (ka4, 100, .inl (slF (-6) 0 100)))] H := hP
        have hD : va_D A [(h0, .inr (6, [.ref a0, w1, w2, .ref a3, .ref a4])), (a0, .inl (ka0, 10, .inl (fun _ => 0))), (a3, .inl (ka3, 10, .inl (slF (-6) 0 10))), (a4, .inl (ka4, 100, .inl (slF (-6) 0 100)))] := hD
        refine lv_aload_n hx hb dX7_push_40 rfl (lv_at hl 2 rfl) ?_
        refine va_get (D := (dC, dI)) (ci := 6) (v := .ref a0) (C := RX7) (T := TX7) (N := 5) hx hb hts inB_7 hown hK hP 0 rfl rfl 0 (by decide) (hts _ mw_1_127) (fun _ h9 => h9) rfl dX7_push_41 ?_
        refine lv_iload_n hx hb dX7_push_44 rfl (lv_at hl 0 rfl) ?_
        refine va_iald hx hb hK hP 1 0 rfl rfl (show vp_in 9 10 by unfold vp_in; decide) dX7_push_45 ?_
        refine hx_top (y := 0) rfl ?_
        refine lv_if_eq (tgt := 59) hx hb dX7_push_46 (by decide) (fun _ => ?_) (fun h => absurd (by decide) h)
        refine lv_iinc (v := 10) (lv' := [(2, .int 10), (1, .int 0), (0, .ref h0)]) hx hb dX7_push_59 hl (k := 0) rfl (by decide) (by decide) rfl (fun ls hl => ?_)
        refine lv_goto (tgt := 26) hx hb dX7_push_62 (by decide) ?_
        refine lv_iload_n hx hb dX7_push_26 rfl (lv_at hl 0 rfl) ?_
        refine lv_bipush (v := 10) hx hb dX7_push_27 (by decide) ?_
        refine lv_icmp_ge (tgt := 65) hx hb dX7_push_29 (by decide) (fun _ => ?_) (fun h => absurd (by decide) h)
        refine lv_iload_n hx hb dX7_push_65 rfl (lv_at hl 1 rfl) ?_
        exact W.iret (v := 0) hx hb hr (fun t ht hW => ⟨⟨0, (), rfl, rfl, by rw [ht]; exact hP, va_K.moved hW.alike hK, hD⟩, hS.F ht⟩) hS.2.2 dX7_push_66
      · have b_4 : ¬ (k ≥ 100) := nz_gen (by omega) (by omega) c_3
        refine lv_aload_n hx hb dX7_push_8 rfl (lv_at hl 1 rfl) ?_
        refine va_get (D := (dC, dI)) (ci := 6) (v := .ref a4) (C := RX7) (T := TX7) (N := 5) hx hb hts inB_7 hown hK hP 0 rfl rfl 4 (by decide) (hts _ mw_1_131) (fun _ h9 => h9) rfl dX7_push_9 ?_
        refine lv_iload_n hx hb dX7_push_12 rfl (lv_at hl 0 rfl) ?_
        refine lv_bipush (v := (-6)) hx hb dX7_push_13 (by decide) ?_
        refine va_iast hx hb hK hP hD hS 3 2 rfl rfl (show vp_in (nI k) 100 from vp_in_nI (by omega) (by omega)) dX7_push_15 (fun H locs hP hD hS => ?_)
        rw [show upd (slF (-6) 0 k) (Int32.toNatClampNeg (nI k)) (-6) = (slF (-6) 0 (k + 1)) from slF_n (by omega)] at hP hD
        have hP : va_P (dC, dI) vwCl [(h0, .inr (6, [.ref a0, w1, w2, .ref a3, .ref a4])), (a0, .inl (ka0, 10, .inl (fun _ => 0))), (a3, .inl (ka3, 10, .inl (fun _ => 0))), (a4, .inl (ka4, 100, .inl (slF (-6) 0 (k + 1))))] H := hP
        have hD : va_D A [(h0, .inr (6, [.ref a0, w1, w2, .ref a3, .ref a4])), (a0, .inl (ka0, 10, .inl (fun _ => 0))), (a3, .inl (ka3, 10, .inl (fun _ => 0))), (a4, .inl (ka4, 100, .inl (slF (-6) 0 (k + 1))))] := hD
        refine lv_iinc (v := (nI (k + 1))) (lv' := [(1, .int (nI (k + 1))), (0, .ref h0)]) hx hb dX7_push_16 hl (k := 0) rfl (nI_1 _) (by decide) rfl (fun ls hl => ?_)
        refine lv_goto (tgt := 2) hx hb dX7_push_19 (by decide) ?_
        exact ih_2 (k + 1) (by omega) (by omega) _ _ (by exact hP) (by exact hD) hS ls (by exact lv_sub hl [0, 1] rfl)
  exact key_1 ((100 - 0) + 1) (0) (by omega) (Nat.lt_succ_self _) _ _ (by rw [slF_0]; exact hP) (by rw [slF_0]; exact hD) hS ls (lv_sub hl [0, 1] rfl)
set_option maxHeartbeats 4000000 in
set_option maxRecDepth 100000 in
theorem c_stands (l : Launch) (dC : Nat → ClassId) (dI : Nat → Nat → Nat) (sz : Nat) (h0 : Nat) (w0 : Value) (w1 : Value) (w2 : Value) (w3 : Value) (a4 : Nat) (ka4 : ClassId) (n : Int32)  : Met l yX7_standsAt (wq yX7_standsAt cX7_standsAt 2 (some .int)) ({ frames := 0, cells := 0, slots := 0, locals := 0 }) (va_Pc [.ref h0, .int n] (pcW dC dI [(ka4, .int)] [(h0, .inr (6, [w0, w1, w2, w3, .ref a4])), (a4, .inl (ka4, 100, .inl (slF (-6) 0 100)))] sz)) (va_Qi (fun (r : Int32) (_ : Unit) => r = (-6)) (fun _ _ => True) (fun q : Nat => sz ≤ q)) 0 0 (fun q : Nat => sz ≤ q) := by
  refine Met.ofW (cc := cX7_standsAt) (maxL := 2) (ret := (some .int)) (by decide) rfl ?_
  intro p e s m args below meth c s₁ B hml hv
  obtain ⟨rfl, hsz, hN, hP, hK, hD0⟩ := hv
  have hx := B.exec
  have hb := B.bytes
  have hr := B.returns
  have hts0 := atoms_spec (ws := (wq yX7_standsAt cX7_standsAt 2 (some .int))) B.pre
  have hts : ∀ w ∈ BG, w.before _ s = true := fun w h => hts0 w (List.mem_cons_of_mem _ h)
  have hown : s.vm.findClass RX7 = some m.cls := findClass_of_methodNamed B.named
  have hlocks := B.notSynchronized
  subst hsz
  have hA : ∀ q : Nat, s.heap.size ≤ q → (fun q : Nat => s.heap.size ≤ q) q := fun _ h => h
  have hD := hD0
  have hS : va_S (fun q : Nat => s.heap.size ≤ q) s.heap s.heap [] := va_S.rf
  have hP : va_P (dC, dI) vwCl [(h0, .inr (6, [w0, w1, w2, w3, .ref a4])), (a4, .inl (ka4, 100, .inl (slF (-6) 0 100)))] s.heap := hP
  have hl := lv_entry ([.ref h0, .int n]) (n := 2) (Nat.le_of_ble_eq_true rfl)
  rw [lg_entry_eq]
  generalize (lg_sl ([.ref h0, .int n]) ++ List.replicate (2 - (lg_sl ([.ref h0, .int n])).length) Slot.unset).toArray = ls at hl ⊢
  have hl : lv_has ls 2 [(0, .ref h0), (1, .int n)] := hl
  skip
  refine lv_iload_n hx hb dX7_standsAt_0 rfl (lv_at hl 1 rfl) ?_
  refine lv_if_lt (tgt := 19) hx hb dX7_standsAt_1 (by decide) (fun c_1 => ?_) (fun c_1 => ?_)
  · have b_2 := fx_lt (x := n) (C := 0) (by decide) c_1
    refine lv_bipush (v := (-6)) hx hb dX7_standsAt_19 (by decide) ?_
    exact W.iret (v := (-6)) hx hb hr (fun t ht hW => ⟨⟨(-6), (), rfl, rfl, trivial⟩, hS.F ht⟩) hS.2.2 dX7_standsAt_21
  · have b_2 := fn_lt (x := n) (C := 0) (by decide) c_1
    refine lv_iload_n hx hb dX7_standsAt_4 rfl (lv_at hl 1 rfl) ?_
    refine lv_bipush (v := 100) hx hb dX7_standsAt_5 (by decide) ?_
    refine lv_icmp_ge (tgt := 19) hx hb dX7_standsAt_7 (by decide) (fun c_3 => ?_) (fun c_3 => ?_)
    · have b_4 := fx_ge (x := n) (C := 100) (by decide) c_3
      refine lv_bipush (v := (-6)) hx hb dX7_standsAt_19 (by decide) ?_
      exact W.iret (v := (-6)) hx hb hr (fun t ht hW => ⟨⟨(-6), (), rfl, rfl, trivial⟩, hS.F ht⟩) hS.2.2 dX7_standsAt_21
    · have b_4 := fn_ge (x := n) (C := 100) (by decide) c_3
      refine lv_aload_n hx hb dX7_standsAt_10 rfl (lv_at hl 0 rfl) ?_
      refine va_get (D := (dC, dI)) (ci := 6) (v := .ref a4) (C := RX7) (T := TX7) (N := 5) hx hb hts inB_7 hown hK hP 0 rfl rfl 4 (by decide) (hts _ mw_1_131) (fun _ h9 => h9) rfl dX7_standsAt_11 ?_
      refine lv_iload_n hx hb dX7_standsAt_14 rfl (lv_at hl 1 rfl) ?_
      refine va_iald hx hb hK hP 1 0 rfl rfl (show vp_in n 100 from fx_in (by omega) (by omega)) dX7_standsAt_15 ?_
      refine hx_top (y := (-6)) (slF_in (fx_cl (by omega) (by omega))) ?_
      refine lv_goto (tgt := 21) hx hb dX7_standsAt_16 (by decide) ?_
      exact W.iret (v := (-6)) hx hb hr (fun t ht hW => ⟨⟨(-6), (), rfl, rfl, trivial⟩, hS.F ht⟩) hS.2.2 dX7_standsAt_21
