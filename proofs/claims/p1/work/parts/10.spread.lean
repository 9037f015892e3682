theorem mw_1_128 : Cond.fieldLink RX7 15 "AnswerLines$Table" "together" "[I" ∈ BG := mB (t1 (i := 128) (by decide +kernel)) (by decide +kernel)
theorem mw_1_129 : Cond.fieldLink RX7 18 "AnswerLines$Table" "columns" "[I" ∈ BG := mB (t1 (i := 129) (by decide +kernel)) (by decide +kernel)
theorem mw_3_29 : Cond.code yX7_fitInto cX7_fitInto 5 (some .boolean) ∈ BG := mB (t3 (i := 29) rfl) (by decide +kernel)
theorem mw_3_26 : Cond.methodLink RX7 46 yX7_fitInto ∈ BG := mB (t3 (i := 26) (by decide +kernel)) (by decide +kernel)
theorem mw_3_28 : Cond.instanceMethod yX7_fitInto ∈ BG := mB (t3 (i := 28) (by decide +kernel)) (by decide +kernel)
theorem mw_0_7 : Cond.selects RX7 yX7_fitInto yX7_fitInto ∈ BG := mB (t0 (i := 7) (by decide +kernel)) (by decide +kernel)
theorem mw_1_7 : Cond.initialized RX7 ∈ BG := mB (t1 (i := 7) (by decide +kernel)) (by decide +kernel)
theorem mw_3_24 : Cond.code yX7_findTogether cX7_findTogether 3 none ∈ BG := mB (t3 (i := 24) rfl) (by decide +kernel)
theorem mw_3_21 : Cond.methodLink RX7 43 yX7_findTogether ∈ BG := mB (t3 (i := 21) (by decide +kernel)) (by decide +kernel)
theorem mw_3_23 : Cond.instanceMethod yX7_findTogether ∈ BG := mB (t3 (i := 23) (by decide +kernel)) (by decide +kernel)
theorem mw_0_6 : Cond.selects RX7 yX7_findTogether yX7_findTogether ∈ BG := mB (t0 (i := 6) (by decide +kernel)) (by decide +kernel)
theorem dX7_findTogether_0 : decode cX7_findTogether 0 = .ok (.iconst 0, 1) := by decide +kernel
theorem dX7_findTogether_1 : decode cX7_findTogether 1 = .ok (.istore_n 1, 1) := by decide +kernel
theorem dX7_findTogether_2 : decode cX7_findTogether 2 = .ok (.iload_n 1, 1) := by decide +kernel
theorem dX7_findTogether_3 : decode cX7_findTogether 3 = .ok (.bipush 8, 2) := by decide +kernel
theorem dX7_findTogether_5 : decode cX7_findTogether 5 = .ok (.if_icmp .ge 58, 3) := by decide +kernel
theorem dX7_findTogether_63 : decode cX7_findTogether 63 = .ok (.return_, 1) := by decide +kernel
theorem dX7_findTogether_8 : decode cX7_findTogether 8 = .ok (.aload_n 0, 1) := by decide +kernel
theorem dX7_findTogether_9 : decode cX7_findTogether 9 = .ok (.getfield 15, 3) := by decide +kernel
theorem dX7_findTogether_12 : decode cX7_findTogether 12 = .ok (.iload_n 1, 1) := by decide +kernel
theorem dX7_findTogether_13 : decode cX7_findTogether 13 = .ok (.iconst 0, 1) := by decide +kernel
theorem dX7_findTogether_14 : decode cX7_findTogether 14 = .ok (.iastore, 1) := by decide +kernel
theorem dX7_findTogether_15 : decode cX7_findTogether 15 = .ok (.iconst 0, 1) := by decide +kernel
theorem dX7_findTogether_16 : decode cX7_findTogether 16 = .ok (.istore_n 2, 1) := by decide +kernel
theorem dX7_findTogether_17 : decode cX7_findTogether 17 = .ok (.iload_n 2, 1) := by decide +kernel
theorem dX7_findTogether_18 : decode cX7_findTogether 18 = .ok (.bipush 10, 2) := by decide +kernel
theorem dX7_findTogether_20 : decode cX7_findTogether 20 = .ok (.if_icmp .ge 37, 3) := by decide +kernel
theorem dX7_findTogether_57 : decode cX7_findTogether 57 = .ok (.iinc 1 1, 3) := by decide +kernel
theorem dX7_findTogether_60 : decode cX7_findTogether 60 = .ok (.goto (-58), 3) := by decide +kernel
theorem dX7_findTogether_23 : decode cX7_findTogether 23 = .ok (.iload_n 1, 1) := by decide +kernel
theorem dX7_findTogether_24 : decode cX7_findTogether 24 = .ok (.aload_n 0, 1) := by decide +kernel
theorem dX7_findTogether_25 : decode cX7_findTogether 25 = .ok (.getfield 9, 3) := by decide +kernel
theorem dX7_findTogether_28 : decode cX7_findTogether 28 = .ok (.iload_n 2, 1) := by decide +kernel
theorem dX7_findTogether_29 : decode cX7_findTogether 29 = .ok (.iaload, 1) := by decide +kernel
theorem dX7_findTogether_30 : decode cX7_findTogether 30 = .ok (.invokestatic 62, 3) := by decide +kernel
theorem dX7_findTogether_33 : decode cX7_findTogether 33 = .ok (.ifCond .eq 18, 3) := by decide +kernel
theorem dX7_findTogether_51 : decode cX7_findTogether 51 = .ok (.iinc 2 1, 3) := by decide +kernel
theorem dX7_findTogether_54 : decode cX7_findTogether 54 = .ok (.goto (-37), 3) := by decide +kernel
theorem dX7_fitInto_0 : decode cX7_fitInto 0 = .ok (.iload_n 2, 1) := by decide +kernel
theorem dX7_fitInto_1 : decode cX7_fitInto 1 = .ok (.ifCond .lt 9, 3) := by decide +kernel
theorem dX7_fitInto_4 : decode cX7_fitInto 4 = .ok (.iload_n 2, 1) := by decide +kernel
theorem dX7_fitInto_5 : decode cX7_fitInto 5 = .ok (.bipush 8, 2) := by decide +kernel
theorem dX7_fitInto_7 : decode cX7_fitInto 7 = .ok (.if_icmp .lt 5, 3) := by decide +kernel
theorem dX7_fitInto_10 : decode cX7_fitInto 10 = .ok (.iconst 1, 1) := by decide +kernel
theorem dX7_fitInto_11 : decode cX7_fitInto 11 = .ok (.ireturn, 1) := by decide +kernel
theorem dX7_fitInto_12 : decode cX7_fitInto 12 = .ok (.aload_n 0, 1) := by decide +kernel
theorem dX7_fitInto_13 : decode cX7_fitInto 13 = .ok (.getfield 18, 3) := by decide +kernel
theorem dX7_fitInto_16 : decode cX7_fitInto 16 = .ok (.iload_n 2, 1) := by decide +kernel
theorem dX7_fitInto_17 : decode cX7_fitInto 17 = .ok (.bipush (-6), 2) := by decide +kernel
theorem dX7_fitInto_19 : decode cX7_fitInto 19 = .ok (.iastore, 1) := by decide +kernel
theorem dX7_fitInto_20 : decode cX7_fitInto 20 = .ok (.aload_n 0, 1) := by decide +kernel
theorem dX7_fitInto_21 : decode cX7_fitInto 21 = .ok (.getfield 15, 3) := by decide +kernel
theorem dX7_fitInto_24 : decode cX7_fitInto 24 = .ok (.iload_n 2, 1) := by decide +kernel
theorem dX7_fitInto_25 : decode cX7_fitInto 25 = .ok (.iaload, 1) := by decide +kernel
theorem dX7_fitInto_26 : decode cX7_fitInto 26 = .ok (.ifCond .ne 13, 3) := by decide +kernel
theorem dX7_fitInto_29 : decode cX7_fitInto 29 = .ok (.aload_n 0, 1) := by decide +kernel
theorem dX7_fitInto_30 : decode cX7_fitInto 30 = .ok (.iload_n 1, 1) := by decide +kernel
theorem dX7_fitInto_31 : decode cX7_fitInto 31 = .ok (.iload_n 2, 1) := by decide +kernel
theorem dX7_fitInto_32 : decode cX7_fitInto 32 = .ok (.iconst 1, 1) := by decide +kernel
theorem dX7_fitInto_33 : decode cX7_fitInto 33 = .ok (.iadd, 1) := by decide +kernel
theorem dX7_fitInto_34 : decode cX7_fitInto 34 = .ok (.iload_n 3, 1) := by decide +kernel
theorem dX7_fitInto_35 : decode cX7_fitInto 35 = .ok (.invokevirtual 46, 3) := by decide +kernel
theorem dX7_fitInto_38 : decode cX7_fitInto 38 = .ok (.ireturn, 1) := by decide +kernel
theorem dX7_spread_0 : decode cX7_spread 0 = .ok (.aload_n 0, 1) := by decide +kernel
theorem dX7_spread_1 : decode cX7_spread 1 = .ok (.invokevirtual 43, 3) := by decide +kernel
theorem dX7_spread_4 : decode cX7_spread 4 = .ok (.iconst 0, 1) := by decide +kernel
theorem dX7_spread_5 : decode cX7_spread 5 = .ok (.istore_n 1, 1) := by decide +kernel
theorem dX7_spread_6 : decode cX7_spread 6 = .ok (.iload_n 1, 1) := by decide +kernel
theorem dX7_spread_7 : decode cX7_spread 7 = .ok (.bipush 8, 2) := by decide +kernel
theorem dX7_spread_9 : decode cX7_spread 9 = .ok (.if_icmp .gt 21, 3) := by decide +kernel
theorem dX7_spread_12 : decode cX7_spread 12 = .ok (.aload_n 0, 1) := by decide +kernel
theorem dX7_spread_13 : decode cX7_spread 13 = .ok (.iload_n 1, 1) := by decide +kernel
theorem dX7_spread_14 : decode cX7_spread 14 = .ok (.iconst 0, 1) := by decide +kernel
theorem dX7_spread_15 : decode cX7_spread 15 = .ok (.iconst 0, 1) := by decide +kernel
theorem dX7_spread_16 : decode cX7_spread 16 = .ok (.invokevirtual 46, 3) := by decide +kernel
theorem dX7_spread_19 : decode cX7_spread 19 = .ok (.ifCond .eq 5, 3) := by decide +kernel
theorem dX7_spread_22 : decode cX7_spread 22 = .ok (.iload_n 1, 1) := by decide +kernel
theorem dX7_spread_23 : decode cX7_spread 23 = .ok (.ireturn, 1) := by decide +kernel
theorem dX7_columnOf_0 : decode cX7_columnOf 0 = .ok (.iload_n 1, 1) := by decide +kernel
theorem dX7_columnOf_1 : decode cX7_columnOf 1 = .ok (.invokestatic 50, 3) := by decide +kernel
theorem dX7_columnOf_4 : decode cX7_columnOf 4 = .ok (.ifCond .eq 12, 3) := by decide +kernel
theorem dX7_columnOf_7 : decode cX7_columnOf 7 = .ok (.aload_n 0, 1) := by decide +kernel
theorem dX7_columnOf_8 : decode cX7_columnOf 8 = .ok (.getfield 18, 3) := by decide +kernel
theorem dX7_columnOf_11 : decode cX7_columnOf 11 = .ok (.iload_n 1, 1) := by decide +kernel
theorem dX7_columnOf_12 : decode cX7_columnOf 12 = .ok (.iaload, 1) := by decide +kernel
theorem dX7_columnOf_13 : decode cX7_columnOf 13 = .ok (.goto 5, 3) := by decide +kernel
theorem dX7_columnOf_18 : decode cX7_columnOf 18 = .ok (.ireturn, 1) := by decide +kernel
theorem dX7_columnOf_16 : decode cX7_columnOf 16 = .ok (.bipush (-6), 2) := by decide +kernel
set_option maxHeartbeats 4000000 in
set_option maxRecDepth 100000 in
theorem c_findT (l : Launch) (dC : Nat → ClassId) (dI : Nat → Nat → Nat) (sz : Nat) (h0 : Nat) (a0 : Nat) (a1 : Nat) (w2 : Value) (w3 : Value) (w4 : Value) (ka0 : ClassId) (ka1 : ClassId)  : Met l yX7_findTogether (wq yX7_findTogether cX7_findTogether 3 none) ({ frames := 1, cells := 0, slots := 0, locals := 21 }) (va_Pc [.ref h0] (pcW dC dI [(ka0, .int), (ka1, .int)] [(h0, .inr (6, [.ref a0, .ref a1, w2, w3, w4])), (a0, .inl (ka0, 10, .inl (fun _ => 0))), (a1, .inl (ka1, 8, .inl (fun _ => 0)))] sz)) (va_Qv (fun _ : Unit => True) (fun _ t => va_P (dC, dI) vwCl [(h0, .inr (6, [.ref a0, .ref a1, w2, w3, w4])), (a0, .inl (ka0, 10, .inl (fun _ => 0))), (a1, .inl (ka1, 8, .inl (fun _ => 0)))] t.heap ∧ va_K (dC, dI) vwCl [(ka0, .int), (ka1, .int)] t ∧ va_D (va_A [(h0, .inr (6, [.ref a0, .ref a1, w2, w3, w4])), (a0, .inl (ka0, 10, .inl (fun _ => 0))), (a1, .inl (ka1, 8, .inl (fun _ => 0)))] sz) [(h0, .inr (6, [.ref a0, .ref a1, w2, w3, w4])), (a0, .inl (ka0, 10, .inl (fun _ => 0))), (a1, .inl (ka1, 8, .inl (fun _ => 0)))]) (va_A [(h0, .inr (6, [.ref a0, .ref a1, w2, w3, w4])), (a0, .inl (ka0, 10, .inl (fun _ => 0))), (a1, .inl (ka1, 8, .inl (fun _ => 0)))] sz)) 0 0 (va_A [(h0, .inr (6, [.ref a0, .ref a1, w2, w3, w4])), (a0, .inl (ka0, 10, .inl (fun _ => 0))), (a1, .inl (ka1, 8, .inl (fun _ => 0)))] sz) := by
  refine Met.ofW (cc := cX7_findTogether) (maxL := 3) (ret := none) (by decide) rfl ?_
  intro p e s m args below meth c s₁ B hml hv
  obtain ⟨rfl, hsz, hN, hP, hK, hD0⟩ := hv
  have hx := B.exec
  have hb := B.bytes
  have hr := B.returns
  have hts0 := atoms_spec (ws := (wq yX7_findTogether cX7_findTogether 3 none)) B.pre
  have hts : ∀ w ∈ BG, w.before _ s = true := fun w h => hts0 w (List.mem_cons_of_mem _ h)
  have hown : s.vm.findClass RX7 = some m.cls := findClass_of_methodNamed B.named
  have hlocks := B.notSynchronized
  subst hsz
  have hD := hD0.self (sz := s.heap.size)
  generalize hAe : va_A [(h0, .inr (6, [.ref a0, .ref a1, w2, w3, w4])), (a0, .inl (ka0, 10, .inl (fun _ => 0))), (a1, .inl (ka1, 8, .inl (fun _ => 0)))] s.heap.size = A at hD ⊢
  have hA : ∀ q : Nat, s.heap.size ≤ q → A q := fun q h => by rw [← hAe]; exact Or.inr h
  have hS : va_S A s.heap s.heap [] := va_S.rf
  have hP : va_P (dC, dI) vwCl [(h0, .inr (6, [.ref a0, .ref a1, w2, w3, w4])), (a0, .inl (ka0, 10, .inl (fun _ => 0))), (a1, .inl (ka1, 8, .inl (fun _ => 0)))] s.heap := hP
  have hl := lv_entry ([.ref h0]) (n := 3) (Nat.le_of_ble_eq_true rfl)
  rw [lg_entry_eq]
  generalize (lg_sl ([.ref h0]) ++ List.replicate (3 - (lg_sl ([.ref h0])).length) Slot.unset).toArray = ls at hl ⊢
  have hl : lv_has ls 3 [(0, .ref h0)] := hl
  skip
  refine lv_iconst (v := 0) hx hb dX7_findTogether_0 (by decide) ?_
  refine lv_istore_n (lv' := [(1, .int 0), (0, .ref h0)]) hx hb dX7_findTogether_1 rfl hl (by decide) rfl (fun ls hl => ?_)
  have key_1 : ∀ (n : Nat) (k : Nat), k ≤ 8 → 8 - k < n → ∀ (H : Heap) (locs : List Loc), va_P (dC, dI) vwCl [(h0, .inr (6, [.ref a0, .ref a1, w2, w3, w4])), (a0, .inl (ka0, 10, .inl (fun _ => 0))), (a1, .inl (ka1, 8, .inl (fun _ => 0)))] H → va_D A [(h0, .inr (6, [.ref a0, .ref a1, w2, w3, w4])), (a0, .inl (ka0, 10, .inl (fun _ => 0))), (a1, .inl (ka1, 8, .inl (fun _ => 0)))] → va_S A s.heap H locs → ∀ (ls : Array Slot), lv_has ls 3 [(1, .int (nI k)), (0, .ref h0)] → W p l e (headSpec (wq yX7_findTogether cX7_findTogether 3 none) ({ frames := 1, cells := 0, slots := 0, locals := 21 })).room s m (([.ref h0] : List Value)).toArray below meth c H locs 0 0 (MQ below (va_Qv (fun _ : Unit => True) (fun _ t => va_P (dC, dI) vwCl [(h0, .inr (6, [.ref a0, .ref a1, w2, w3, w4])), (a0, .inl (ka0, 10, .inl (fun _ => 0))), (a1, .inl (ka1, 8, .inl (fun _ => 0)))] t.heap ∧ va_K (dC, dI) vwCl [(ka0, .int), (ka1, .int)] t ∧ va_D A [(h0, .inr (6, [.ref a0, .ref a1, w2, w3, w4])), (a0, .inl (ka0, 10, .inl (fun _ => 0))), (a1, .inl (ka1, 8, .inl (fun _ => 0)))]) A) (([.ref h0] : List Value)).toArray s 0 0 A) (F0 m 2 ls []) := by
    intro n
    induction n with
    | zero => intro k hk hme; exact absurd hme (Nat.not_lt_zero _)
    | succ n ih_2 =>
      intro k hk hme H locs hP hD hS ls hl
      refine lv_iload_n hx hb dX7_findTogether_2 rfl (lv_at hl 0 rfl) ?_
      refine lv_bipush (v := 8) hx hb dX7_findTogether_3 (by decide) ?_
      refine lv_icmp_ge (tgt := 63) hx hb dX7_findTogether_5 (by decide) (fun c_3 => ?_) (fun c_3 => ?_)
      · have b_4 : k ≥ 8 := nz_ge (by omega) (by omega) c_3
        obtain rfl : k = 8 := by omega
        exact W.vret hx hb hr (fun t ht hW => ⟨⟨(), rfl, trivial, by rw [ht]; exact hP, va_K.moved hW.alike hK, hD⟩, hS.F ht⟩) hS.2.2 dX7_findTogether_63
      · have b_4 : ¬ (k ≥ 8) := nz_gen (by omega) (by omega) c_3
        refine lv_aload_n hx hb dX7_findTogether_8 rfl (lv_at hl 1 rfl) ?_
        refine va_get (D := (dC, dI)) (ci := 6) (v := .ref a1) (C := RX7) (T := TX7) (N := 5) hx hb hts inB_7 hown hK hP 0 rfl rfl 1 (by decide) (hts _ mw_1_128) (fun _ h9 => h9) rfl dX7_findTogether_9 ?_
        refine lv_iload_n hx hb dX7_findTogether_12 rfl (lv_at hl 0 rfl) ?_
        refine lv_iconst (v := 0) hx hb dX7_findTogether_13 (by decide) ?_
        refine va_iast hx hb hK hP hD hS 2 1 rfl rfl (show vp_in (nI k) 8 from vp_in_nI (by omega) (by omega)) dX7_findTogether_14 (fun H locs hP hD hS => ?_)
        rw [show upd (fun _ => 0) (Int32.toNatClampNeg (nI k)) 0 = (fun _ => 0) from upd_const _ _] at hP hD
        have hP : va_P (dC, dI) vwCl [(h0, .inr (6, [.ref a0, .ref a1, w2, w3, w4])), (a0, .inl (ka0, 10, .inl (fun _ => 0))), (a1, .inl (ka1, 8, .inl (fun _ => 0)))] H := hP
        have hD : va_D A [(h0, .inr (6, [.ref a0, .ref a1, w2, w3, w4])), (a0, .inl (ka0, 10, .inl (fun _ => 0))), (a1, .inl (ka1, 8, .inl (fun _ => 0)))] := hD
        refine lv_iconst (v := 0) hx hb dX7_findTogether_15 (by decide) ?_
        refine lv_istore_n (lv' := [(2, .int 0), (1, .int (nI k)), (0, .ref h0)]) hx hb dX7_findTogether_16 rfl hl (by decide) rfl (fun ls hl => ?_)
        have key_5 : ∀ (n : Nat) (j : Nat), j ≤ 10 → 10 - j < n → ∀ (H : Heap) (locs : List Loc), va_P (dC, dI) vwCl [(h0, .inr (6, [.ref a0, .ref a1, w2, w3, w4])), (a0, .inl (ka0, 10, .inl (fun _ => 0))), (a1, .inl (ka1, 8, .inl (fun _ => 0)))] H → va_D A [(h0, .inr (6, [.ref a0, .ref a1, w2, w3, w4])), (a0, .inl (ka0, 10, .inl (fun _ => 0))), (a1, .inl (ka1, 8, .inl (fun _ => 0)))] → va_S A s.heap H locs → ∀ (ls : Array Slot), lv_has ls 3 [(2, .int (nI j)), (1, .int (nI k)), (0, .ref h0)] → W p l e (headSpec (wq yX7_findTogether cX7_findTogether 3 none) ({ frames := 1, cells := 0, slots := 0, locals := 21 })).room s m (([.ref h0] : List Value)).toArray below meth c H locs 0 0 (MQ below (va_Qv (fun _ : Unit => True) (fun _ t => va_P (dC, dI) vwCl [(h0, .inr (6, [.ref a0, .ref a1, w2, w3, w4])), (a0, .inl (ka0, 10, .inl (fun _ => 0))), (a1, .inl (ka1, 8, .inl (fun _ => 0)))] t.heap ∧ va_K (dC, dI) vwCl [(ka0, .int), (ka1, .int)] t ∧ va_D A [(h0, .inr (6, [.ref a0, .ref a1, w2, w3, w4])), (a0, .inl (ka0, 10, .inl (fun _ => 0))), (a1, .inl (ka1, 8, .inl (fun _ => 0)))]) A) (([.ref h0] : List Value)).toArray s 0 0 A) (F0 m 17 ls []) := by
          intro n
          induction n with
          | zero => intro j hj hme; exact absurd hme (Nat.not_lt_zero _)
          | succ n ih_6 =>
            intro j hj hme H locs hP hD hS ls hl
            refine lv_iload_n hx hb dX7_findTogether_17 rfl (lv_at hl 0 rfl) ?_
            refine lv_bipush (v := 10) hx hb dX7_findTogether_18 (by decide) ?_
            refine lv_icmp_ge (tgt := 57) hx hb dX7_findTogether_20 (by decide) (fun c_7 => ?_) (fun c_7 => ?_)
            · have b_8 : j ≥ 10 := nz_ge (by omega) (by omega) c_7
              obtain rfl : j = 10 := by omega
              refine lv_iinc (v := (nI (k + 1))) (lv' := [(1, .int (nI (k + 1))), (2, .int (nI 10)), (0, .ref h0)]) hx hb dX7_findTogether_57 hl (k := 1) rfl (nI_1 _) (by decide) rfl (fun ls hl => ?_)
              refine lv_goto (tgt := 2) hx hb dX7_findTogether_60 (by decide) ?_
              exact ih_2 (k + 1) (by omega) (by omega) _ _ (by exact hP) (by exact hD) hS ls (by exact lv_sub hl [0, 2] rfl)
            · have b_8 : ¬ (j ≥ 10) := nz_gen (by omega) (by omega) c_7
              refine lv_iload_n hx hb dX7_findTogether_23 rfl (lv_at hl 1 rfl) ?_
              refine lv_aload_n hx hb dX7_findTogether_24 rfl (lv_at hl 2 rfl) ?_
              refine va_get (D := (dC, dI)) (ci := 6) (v := .ref a0) (C := RX7) (T := TX7) (N := 5) hx hb hts inB_7 hown hK hP 0 rfl rfl 0 (by decide) (hts _ mw_1_127) (fun _ h9 => h9) rfl dX7_findTogether_25 ?_
              refine lv_iload_n hx hb dX7_findTogether_28 rfl (lv_at hl 0 rfl) ?_
              refine va_iald hx hb hK hP 1 0 rfl rfl (show vp_in (nI j) 10 from vp_in_nI (by omega) (by omega)) dX7_findTogether_29 ?_
              refine hx_top (y := 0) rfl ?_
              have hPc := hP.sub (ws' := []) [] rfl
              have hDc := hD.sub (ws' := []) [] (by decide) rfl
              have hKc := hK.sub (tys' := []) [] rfl
              refine va_calli (va_runSN (As := [.int (nI k), .int 0]) (rest := []) ⟨hx, hb, hml, hown, hts⟩ (c_isIn0 l dC dI H.size (nI k)) ⟨va_cnB 2 hts (gN mw_2_15) rfl rfl rfl (hN (RX7, 62, yX8_isIn, RX8) (List.mem_of_getElem? (i := 11) rfl)) (hts _ mw_1_1) (by decide +kernel) ⟨Nat.le_of_ble_eq_true rfl, Nat.le_of_ble_eq_true rfl⟩, (hts _ mw_2_14), trivial⟩ ⟨pcW_blind, pcW_at hPc hKc hDc hN⟩ rfl rfl hl.1 rfl (lv_room (Nat.le_of_ble_eq_true rfl)) dX7_findTogether_30 ⟨Nat.le_of_ble_eq_true rfl, Nat.le_of_ble_eq_true rfl⟩) hS (fun q h1 h2 => absurd h2 (Nat.not_le.mpr h1)) (fun q h => hA q (Nat.le_trans hS.1 h)) (fun r_9 u t H1 locs ht hvm hw_9 hB hz1 hk1 hS => ?_)
              have hP := keepP hP hk1
              clear hz1 hk1 hB ht hvm hPc hDc hKc
              generalize H1 = H at hP hS ⊢
              obtain rfl : r_9 = 0 := hw_9
              refine lv_if_eq (tgt := 51) hx hb dX7_findTogether_33 (by decide) (fun _ => ?_) (fun h => absurd (by decide) h)
              refine lv_iinc (v := (nI (j + 1))) (lv' := [(2, .int (nI (j + 1))), (1, .int (nI k)), (0, .ref h0)]) hx hb dX7_findTogether_51 hl (k := 0) rfl (nI_1 _) (by decide) rfl (fun ls hl => ?_)
              refine lv_goto (tgt := 17) hx hb dX7_findTogether_54 (by decide) ?_
              exact ih_6 (j + 1) (by omega) (by omega) _ _ (by exact hP) (by exact hD) hS ls (by exact lv_sub hl [0, 1, 2] rfl)
        exact key_5 ((10 - 0) + 1) (0) (by omega) (Nat.lt_succ_self _) _ _ (by exact hP) (by exact hD) hS ls (lv_sub hl [0, 1, 2] rfl)
  exact key_1 ((8 - 0) + 1) (0) (by omega) (Nat.lt_succ_self _) _ _ (by exact hP) (by exact hD) hS ls (lv_sub hl [0, 1] rfl)
set_option maxHeartbeats 4000000 in
set_option maxRecDepth 100000 in
theorem c_fit8 (l : Launch) (dC : Nat → ClassId) (dI : Nat → Nat → Nat) (sz : Nat) (h0 : Nat) (w0 : Value) (a1 : Nat) (a2 : Nat) (w3 : Value) (w4 : Value) (ka1 : ClassId) (ka2 : ClassId)  : Met l yX7_fitInto (wq yX7_fitInto cX7_fitInto 5 (some .boolean)) ({ frames := 0, cells := 0, slots := 0, locals := 0 }) (va_Pc [.ref h0, .int 0, .int 8, .int 0] (pcW dC dI [(ka1, .int), (ka2, .int)] [(h0, .inr (6, [w0, .ref a1, .ref a2, w3, w4])), (a1, .inl (ka1, 8, .inl (fun _ => 0))), (a2, .inl (ka2, 8, .inl (slF (-6) 0 8)))] sz)) (va_Qi (fun (r : Int32) (_ : Unit) => r = 1) (fun _ t => va_P (dC, dI) vwCl [(h0, .inr (6, [w0, .ref a1, .ref a2, w3, w4])), (a1, .inl (ka1, 8, .inl (fun _ => 0))), (a2, .inl (ka2, 8, .inl (slF (-6) 0 8)))] t.heap ∧ va_K (dC, dI) vwCl [(ka1, .int), (ka2, .int)] t ∧ va_D (va_A [(h0, .inr (6, [w0, .ref a1, .ref a2, w3, w4])), (a1, .inl (ka1, 8, .inl (fun _ => 0))), (a2, .inl (ka2, 8, .inl (slF (-6) 0 8)))] sz) [(h0, .inr (6, [w0, .ref a1, .ref a2, w3, w4])), (a1, .inl (ka1, 8, .inl (fun _ => 0))), (a2, .inl (ka2, 8, .inl (slF (-6) 0 8)))]) (va_A [(h0, .inr (6, [w0, .ref a1, .ref a2, w3, w4])), (a1, .inl (ka1, 8, .inl (fun _ => 0))), (a2, .inl (ka2, 8, .inl (slF (-6) 0 8)))] sz)) 0 0 (va_A [(h0, .inr (6, [w0, .ref a1, .ref a2, w3, w4])), (a1, .inl (ka1, 8, .inl (fun _ => 0))), (a2, .inl (ka2, 8, .inl (slF (-6) 0 8)))] sz) := by
  refine Met.ofW (cc := cX7_fitInto) (maxL := 5) (ret := (some .boolean)) (by decide) rfl ?_
  intro p e s m args below meth c s₁ B hml hv
  obtain ⟨rfl, hsz, hN, hP, hK, hD0⟩ := hv
  have hx := B.exec
  have hb := B.bytes
  have hr := B.returns
  have hts0 := atoms_spec (ws := (wq yX7_fitInto cX7_fitInto 5 (some .boolean))) B.pre
  have hts : ∀ w ∈ BG, w.before _ s = true := fun w h => hts0 w (List.mem_cons_of_mem _ h)
  have hown : s.vm.findClass RX7 = some m.cls := findClass_of_methodNamed B.named
  have hlocks := B.notSynchronized
  subst hsz
  have hD := hD0.self (sz := s.heap.size)
  generalize hAe : va_A [(h0, .inr (6, [w0, .ref a1, .ref a2, w3, w4])), (a1, .inl (ka1, 8, .inl (fun _ => 0))), (a2, .inl (ka2, 8, .inl (slF (-6) 0 8)))] s.heap.size = A at hD ⊢
  have hA : ∀ q : Nat, s.heap.size ≤ q → A q := fun q h => by rw [← hAe]; exact Or.inr h
  have hS : va_S A s.heap s.heap [] := va_S.rf
  have hP : va_P (dC, dI) vwCl [(h0, .inr (6, [w0, .ref a1, .ref a2, w3, w4])), (a1, .inl (ka1, 8, .inl (fun _ => 0))), (a2, .inl (ka2, 8, .inl (slF (-6) 0 8)))] s.heap := hP
  have hl := lv_entry ([.ref h0, .int 0, .int 8, .int 0]) (n := 5) (Nat.le_of_ble_eq_true rfl)
  rw [lg_entry_eq]
  generalize (lg_sl ([.ref h0, .int 0, .int 8, .int 0]) ++ List.replicate (5 - (lg_sl ([.ref h0, .int 0, .int 8, .int 0])).length) Slot.unset).toArray = ls at hl ⊢
  have hl : lv_has ls 5 [(0, .ref h0), (1, .int 0), (2, .int 8), (3, .int 0)] := hl
  skip
  refine lv_iload_n hx hb dX7_fitInto_0 rfl (lv_at hl 2 rfl) ?_
  refine lv_if_lt (tgt := 10) hx hb dX7_fitInto_1 (by decide) (fun h => absurd h (by decide)) (fun _ => ?_)
  refine lv_iload_n hx hb dX7_fitInto_4 rfl (lv_at hl 2 rfl) ?_
  refine lv_bipush (v := 8) hx hb dX7_fitInto_5 (by decide) ?_
  refine lv_icmp_lt (tgt := 12) hx hb dX7_fitInto_7 (by decide) (fun h => absurd h (by decide)) (fun _ => ?_)
  refine lv_iconst (v := 1) hx hb dX7_fitInto_10 (by decide) ?_
  exact W.zret (v := 1) hx hb hr (by decide) (fun t ht hW => ⟨⟨1, (), rfl, rfl, by rw [ht]; exact hP, va_K.moved hW.alike hK, hD⟩, hS.F ht⟩) hS.2.2 dX7_fitInto_11
set_option maxHeartbeats 4000000 in
set_option maxRecDepth 100000 in
theorem c_fit7 (l : Launch) (dC : Nat → ClassId) (dI : Nat → Nat → Nat) (sz : Nat) (h0 : Nat) (w0 : Value) (a1 : Nat) (a2 : Nat) (w3 : Value) (w4 : Value) (ka1 : ClassId) (ka2 : ClassId)  : Met l yX7_fitInto (wq yX7_fitInto cX7_fitInto 5 (some .boolean)) ({ frames := 1, cells := 0, slots := 0, locals := 24 }) (va_Pc [.ref h0, .int 0, .int 7, .int 0] (pcW dC dI [(ka1, .int), (ka2, .int)] [(h0, .inr (6, [w0, .ref a1, .ref a2, w3, w4])), (a1, .inl (ka1, 8, .inl (fun _ => 0))), (a2, .inl (ka2, 8, .inl (slF (-6) 0 7)))] sz)) (va_Qi (fun (r : Int32) (_ : Unit) => r = 1) (fun _ t => va_P (dC, dI) vwCl [(h0, .inr (6, [w0, .ref a1, .ref a2, w3, w4])), (a1, .inl (ka1, 8, .inl (fun _ => 0))), (a2, .inl (ka2, 8, .inl (slF (-6) 0 8)))] t.heap ∧ va_K (dC, dI) vwCl [(ka1, .int), (ka2, .int)] t ∧ va_D (va_A [(h0, .inr (6, [w0, .ref a1, .ref a2, w3, w4])), (a1, .inl (ka1, 8, .inl (fun _ => 0))), (a2, .inl (ka2, 8, .inl (slF (-6) 0 7)))] sz) [(h0, .inr (6, [w0, .ref a1, .ref a2, w3, w4])), (a1, .inl (ka1, 8, .inl (fun _ => 0))), (a2, .inl (ka2, 8, .inl (slF (-6) 0 8)))]) (va_A [(h0, .inr (6, [w0, .ref a1, .ref a2, w3, w4])), (a1, .inl (ka1, 8, .inl (fun _ => 0))), (a2, .inl (ka2, 8, .inl (slF (-6) 0 7)))] sz)) 0 0 (va_A [(h0, .inr (6, [w0, .ref a1, .ref a2, w3, w4])), (a1, .inl (ka1, 8, .inl (fun _ => 0))), (a2, .inl (ka2, 8, .inl (slF (-6) 0 7)))] sz) := by
  refine Met.ofW (cc := cX7_fitInto) (maxL := 5) (ret := (some .boolean)) (by decide) rfl ?_
  intro p e s m args below meth c s₁ B hml hv
  obtain ⟨rfl, hsz, hN, hP, hK, hD0⟩ := hv
  have hx := B.exec
  have hb := B.bytes
  have hr := B.returns
  have hts0 := atoms_spec (ws := (wq yX7_fitInto cX7_fitInto 5 (some .boolean))) B.pre
  have hts : ∀ w ∈ BG, w.before _ s = true := fun w h => hts0 w (List.mem_cons_of_mem _ h)
  have hown : s.vm.findClass RX7 = some m.cls := findClass_of_methodNamed B.named
  have hlocks := B.notSynchronized
  subst hsz
  have hD := hD0.self (sz := s.heap.size)
  generalize hAe : va_A [(h0, .inr (6, [w0, .ref a1, .ref a2, w3, w4])), (a1, .inl (ka1, 8, .inl (fun _ => 0))), (a2, .inl (ka2, 8, .inl (slF (-6) 0 7)))] s.heap.size = A at hD ⊢
  have hA : ∀ q : Nat, s.heap.size ≤ q → A q := fun q h => by rw [← hAe]; exact Or.inr h
  have hS : va_S A s.heap s.heap [] := va_S.rf
  have hP : va_P (dC, dI) vwCl [(h0, .inr (6, [w0, .ref a1, .ref a2, w3, w4])), (a1, .inl (ka1, 8, .inl (fun _ => 0))), (a2, .inl (ka2, 8, .inl (slF (-6) 0 7)))] s.heap := hP
  have hl := lv_entry ([.ref h0, .int 0, .int 7, .int 0]) (n := 5) (Nat.le_of_ble_eq_true rfl)
  rw [lg_entry_eq]
  generalize (lg_sl ([.ref h0, .int 0, .int 7, .int 0]) ++ List.replicate (5 - (lg_sl ([.ref h0, .int 0, .int 7, .int 0])).length) Slot.unset).toArray = ls at hl ⊢
  have hl : lv_has ls 5 [(0, .ref h0), (1, .int 0), (2, .int 7), (3, .int 0)] := hl
  skip
  refine lv_iload_n hx hb dX7_fitInto_0 rfl (lv_at hl 2 rfl) ?_
  refine lv_if_lt (tgt := 10) hx hb dX7_fitInto_1 (by decide) (fun h => absurd h (by decide)) (fun _ => ?_)
  refine lv_iload_n hx hb dX7_fitInto_4 rfl (lv_at hl 2 rfl) ?_
  refine lv_bipush (v := 8) hx hb dX7_fitInto_5 (by decide) ?_
  refine lv_icmp_lt (tgt := 12) hx hb dX7_fitInto_7 (by decide) (fun _ => ?_) (fun h => absurd (by decide) h)
  refine lv_aload_n hx hb dX7_fitInto_12 rfl (lv_at hl 0 rfl) ?_
  refine va_get (D := (dC, dI)) (ci := 6) (v := .ref a2) (C := RX7) (T := TX7) (N := 5) hx hb hts inB_7 hown hK hP 0 rfl rfl 2 (by decide) (hts _ mw_1_129) (fun _ h9 => h9) rfl dX7_fitInto_13 ?_
  refine lv_iload_n hx hb dX7_fitInto_16 rfl (lv_at hl 2 rfl) ?_
  refine lv_bipush (v := (-6)) hx hb dX7_fitInto_17 (by decide) ?_
  refine va_iast hx hb hK hP hD hS 2 1 rfl rfl (show vp_in 7 8 by unfold vp_in; decide) dX7_fitInto_19 (fun H locs hP hD hS => ?_)
  rw [show upd (slF (-6) 0 7) (Int32.toNatClampNeg 7) (-6) = (slF (-6) 0 8) from slF_u _ _ 7] at hP hD
  have hP : va_P (dC, dI) vwCl [(h0, .inr (6, [w0, .ref a1, .ref a2, w3, w4])), (a1, .inl (ka1, 8, .inl (fun _ => 0))), (a2, .inl (ka2, 8, .inl (slF (-6) 0 8)))] H := hP
  have hD : va_D A [(h0, .inr (6, [w0, .ref a1, .ref a2, w3, w4])), (a1, .inl (ka1, 8, .inl (fun _ => 0))), (a2, .inl (ka2, 8, .inl (slF (-6) 0 8)))] := hD
  refine lv_aload_n hx hb dX7_fitInto_20 rfl (lv_at hl 0 rfl) ?_
  refine va_get (D := (dC, dI)) (ci := 6) (v := .ref a1) (C := RX7) (T := TX7) (N := 5) hx hb hts inB_7 hown hK hP 0 rfl rfl 1 (by decide) (hts _ mw_1_128) (fun _ h9 => h9) rfl dX7_fitInto_21 ?_
  refine lv_iload_n hx hb dX7_fitInto_24 rfl (lv_at hl 2 rfl) ?_
  refine va_iald hx hb hK hP 1 0 rfl rfl (show vp_in 7 8 by unfold vp_in; decide) dX7_fitInto_25 ?_
  refine hx_top (y := 0) rfl ?_
  refine lv_if_ne (tgt := 39) hx hb dX7_fitInto_26 (by decide) (fun h => absurd h (by decide)) (fun _ => ?_)
  refine lv_aload_n hx hb dX7_fitInto_29 rfl (lv_at hl 0 rfl) ?_
  refine lv_iload_n hx hb dX7_fitInto_30 rfl (lv_at hl 1 rfl) ?_
  refine lv_iload_n hx hb dX7_fitInto_31 rfl (lv_at hl 2 rfl) ?_
  refine lv_iconst (v := 1) hx hb dX7_fitInto_32 (by decide) ?_
  refine lv_iadd hx hb dX7_fitInto_33 ?_
  refine hx_top (y := 8) (by decide) ?_
  refine lv_iload_n hx hb dX7_fitInto_34 rfl (lv_at hl 3 rfl) ?_
  have hPc := hP.sub (ws' := [(h0, .inr (6, [w0, .ref a1, .ref a2, w3, w4])), (a1, .inl (ka1, 8, .inl (fun _ => 0))), (a2, .inl (ka2, 8, .inl (slF (-6) 0 8)))]) [0, 1, 2] rfl
  have hDc := hD.sub (ws' := [(h0, .inr (6, [w0, .ref a1, .ref a2, w3, w4])), (a1, .inl (ka1, 8, .inl (fun _ => 0))), (a2, .inl (ka2, 8, .inl (slF (-6) 0 8)))]) [0, 1, 2] (by decide) rfl
  have hKc := hK.sub (tys' := [(ka1, .int), (ka2, .int)]) [0, 1] rfl
  have hFc := va_free (wc := [(h0, .inr (6, [w0, .ref a1, .ref a2, w3, w4])), (a1, .inl (ka1, 8, .inl (fun _ => 0))), (a2, .inl (ka2, 8, .inl (slF (-6) 0 8)))]) hD hS hA [0, 1, 2] rfl
  refine va_calli (va_runV (As := [.int 0, .int 8, .int 0]) (rest := []) ⟨hx, hb, hml, hown, hts⟩ (c_fit8 l dC dI H.size h0 (w0) a1 a2 (w3) (w4) ka1 ka2) (cwV 3 hts (gV mw_3_26 mw_3_28 mw_0_7 mw_1_7 mw_3_29) rfl rfl rfl (by decide +kernel) ⟨Nat.le_of_ble_eq_true rfl, Nat.le_of_ble_eq_true rfl⟩) ⟨pcW_blind, va_recv hKc hPc (ci := 6) (q0 := 0) rfl rfl, pcW_at hPc hKc hDc hN⟩ rfl rfl hl.1 rfl (lv_room (Nat.le_of_ble_eq_true rfl)) dX7_fitInto_35 ⟨Nat.le_of_ble_eq_true rfl, Nat.le_of_ble_eq_true rfl⟩) hS (fun q _ h => hFc q h) hFc (fun r_1 u t H1 locs ht hvm hw_1 hB hz1 hk1 hS => ?_)
  obtain ⟨hP1, hK1, hD1⟩ := hB
  rw [ht] at hP1
  have hK1 := va_K.moved hvm.symm hK1
  obtain ⟨hP, hD⟩ := va_join (wr := []) (w1 := [(h0, .inr (6, [w0, .ref a1, .ref a2, w3, w4])), (a1, .inl (ka1, 8, .inl (fun _ => 0))), (a2, .inl (ka2, 8, .inl (slF (-6) 0 8)))]) hP hD [0, 1, 2] [] rfl rfl (by decide) (by decide) hk1 hFc hP1 hD1
  have hK := (hK.sub (tys' := []) [] rfl).app hK1
  clear hz1 hk1 hPc hDc hKc hFc
  generalize H1 = H at hP hS ⊢
  have hK : va_K (dC, dI) vwCl [(ka1, .int), (ka2, .int)] s := hK
  have hP : va_P (dC, dI) vwCl [(h0, .inr (6, [w0, .ref a1, .ref a2, w3, w4])), (a1, .inl (ka1, 8, .inl (fun _ => 0))), (a2, .inl (ka2, 8, .inl (slF (-6) 0 8)))] H := hP
  have hD : va_D A [(h0, .inr (6, [w0, .ref a1, .ref a2, w3, w4])), (a1, .inl (ka1, 8, .inl (fun _ => 0))), (a2, .inl (ka2, 8, .inl (slF (-6) 0 8)))] := hD
  obtain rfl : r_1 = 1 := hw_1
  exact W.zret (v := 1) hx hb hr (by decide) (fun t ht hW => ⟨⟨1, (), rfl, rfl, by rw [ht]; exact hP, va_K.moved hW.alike hK, hD⟩, hS.F ht⟩) hS.2.2 dX7_fitInto_38
set_option maxHeartbeats 4000000 in
set_option maxRecDepth 100000 in
theorem c_fit6 (l : Launch) (dC : Nat → ClassId) (dI : Nat → Nat → Nat) (sz : Nat) (h0 : Nat) (w0 : Value) (a1 : Nat) (a2 : Nat) (w3 : Value) (w4 : Value) (ka1 : ClassId) (ka2 : ClassId)  : Met l yX7_fitInto (wq yX7_fitInto cX7_fitInto 5 (some .boolean)) ({ frames := 2, cells := 0, slots := 0, locals := 48 }) (va_Pc [.ref h0, .int 0, .int 6, .int 0] (pcW dC dI [(ka1, .int), (ka2, .int)] [(h0, .inr (6, [w0, .ref a1, .ref a2, w3, w4])), (a1, .inl (ka1, 8, .inl (fun _ => 0))), (a2, .inl (ka2, 8, .inl (slF (-6) 0 6)))] sz)) (va_Qi (fun (r : Int32) (_ : Unit) => r = 1) (fun _ t => va_P (dC, dI) vwCl [(h0, .inr (6, [w0, .ref a1, .ref a2, w3, w4])), (a1, .inl (ka1, 8, .inl (fun _ => 0))), (a2, .inl (ka2, 8, .inl (slF (-6) 0 8)))] t.heap ∧ va_K (dC, dI) vwCl [(ka1, .int), (ka2, .int)] t ∧ va_D (va_A [(h0, .inr (6, [w0, .ref a1, .ref a2, w3, w4])), (a1, .inl (ka1, 8, .inl (fun _ => 0))), (a2, .inl (ka2, 8, .inl (slF (-6) 0 6)))] sz) [(h0, .inr (6, [w0, .ref a1, .ref a2, w3, w4])), (a1, .inl (ka1, 8, .inl (fun _ => 0))), (a2, .inl (ka2, 8, .inl (slF (-6) 0 8)))]) (va_A [(h0, .inr (6, [w0, .ref a1, .ref a2, w3, w4])), (a1, .inl (ka1, 8, .inl (fun _ => 0))), (a2, .inl (ka2, 8, .inl (slF (-6) 0 6)))] sz)) 0 0 (va_A [(h0, .inr (6, [w0, .ref a1, .ref a2, w3, w4])), (a1, .inl (ka1, 8, .inl (fun _ => 0))), (a2, .inl (ka2, 8, .inl (slF (-6) 0 6)))] sz) := by
  refine Met.ofW (cc := cX7_fitInto) (maxL := 5) (ret := (some .boolean)) (by decide) rfl ?_
  intro p e s m args below meth c s₁ B hml hv
  obtain ⟨rfl, hsz, hN, hP, hK, hD0⟩ := hv
  have hx := B.exec
  have hb := B.bytes
  have hr := B.returns
  have hts0 := atoms_spec (ws := (wq yX7_fitInto cX7_fitInto 5 (some .boolean))) B.pre
  have hts : ∀ w ∈ BG, w.before _ s = true := fun w h => hts0 w (List.mem_cons_of_mem _ h)
  have hown : s.vm.findClass RX7 = some m.cls := findClass_of_methodNamed B.named
  have hlocks := B.notSynchronized
  subst hsz
  have hD := hD0.self (sz := s.heap.size)
  generalize hAe : va_A [(h0, .inr (6, [w0, .ref a1, .ref a2, w3, w4])), (a1, .inl (ka1, 8, .inl (fun _ => 0))), (a2, .inl (ka2, 8, .inl (slF (-6) 0 6)))] s.heap.size = A at hD ⊢
  have hA : ∀ q : Nat, s.heap.size ≤ q → A q := fun q h => by rw [← hAe]; exact Or.inr h
  have hS : va_S A s.heap s.heap [] := va_S.rf
  have hP : va_P (dC, dI) vwCl [(h0, .inr (6, [w0, .ref a1, .ref a2, w3, w4])), (a1, .inl (ka1, 8, .inl (fun _ => 0))), (a2, .inl (ka2, 8, .inl (slF (-6) 0 6)))] s.heap := hP
  have hl := lv_entry ([.ref h0, .int 0, .int 6, .int 0]) (n := 5) (Nat.le_of_ble_eq_true rfl)
  rw [lg_entry_eq]
  generalize (lg_sl ([.ref h0, .int 0, .int 6, .int 0]) ++ List.replicate (5 - (lg_sl ([.ref h0, .int 0, .int 6, .int 0])).length) Slot.unset).toArray = ls at hl ⊢
  have hl : lv_has ls 5 [(0, .ref h0), (1, .int 0), (2, .int 6), (3, .int 0)] := hl
  skip
  refine lv_iload_n hx hb dX7_fitInto_0 rfl (lv_at hl 2 rfl) ?_
  refine lv_if_lt (tgt := 10) hx hb dX7_fitInto_1 (by decide) (fun h => absurd h (by decide)) (fun _ => ?_)
  refine lv_iload_n hx hb dX7_fitInto_4 rfl (lv_at hl 2 rfl) ?_
  refine lv_bipush (v := 8) hx hb dX7_fitInto_5 (by decide) ?_
  refine lv_icmp_lt (tgt := 12) hx hb dX7_fitInto_7 (by decide) (fun _ => ?_) (fun h => absurd (by decide) h)
  refine lv_aload_n hx hb dX7_fitInto_12 rfl (lv_at hl 0 rfl) ?_
  refine va_get (D := (dC, dI)) (ci := 6) (v := .ref a2) (C := RX7) (T := TX7) (N := 5) hx hb hts inB_7 hown hK hP 0 rfl rfl 2 (by decide) (hts _ mw_1_129) (fun _ h9 => h9) rfl dX7_fitInto_13 ?_
  refine lv_iload_n hx hb dX7_fitInto_16 rfl (lv_at hl 2 rfl) ?_
  refine lv_bipush (v := (-6)) hx hb dX7_fitInto_17 (by decide) ?_
  refine va_iast hx hb hK hP hD hS 2 1 rfl rfl (show vp_in 6 8 by unfold vp_in; decide) dX7_fitInto_19 (fun H locs hP hD hS => ?_)
  rw [show upd (slF (-6) 0 6) (Int32.toNatClampNeg 6) (-6) = (slF (-6) 0 7) from slF_u _ _ 6] at hP hD
  have hP : va_P (dC, dI) vwCl [(h0, .inr (6, [w0, .ref a1, .ref a2, w3, w4])), (a1, .inl (ka1, 8, .inl (fun _ => 0))), (a2, .inl (ka2, 8, .inl (slF (-6) 0 7)))] H := hP
  have hD : va_D A [(h0, .inr (6, [w0, .ref a1, .ref a2, w3, w4])), (a1, .inl (ka1, 8, .inl (fun _ => 0))), (a2, .inl (ka2, 8, .inl (slF (-6) 0 7)))] := hD
  refine lv_aload_n hx hb dX7_fitInto_20 rfl (lv_at hl 0 rfl) ?_
  refine va_get (D := (dC, dI)) (ci := 6) (v := .ref a1) (C := RX7) (T := TX7) (N := 5) hx hb hts inB_7 hown hK hP 0 rfl rfl 1 (by decide) (hts _ mw_1_128) (fun _ h9 => h9) rfl dX7_fitInto_21 ?_
  refine lv_iload_n hx hb dX7_fitInto_24 rfl (lv_at hl 2 rfl) ?_
  refine va_iald hx hb hK hP 1 0 rfl rfl (show vp_in 6 8 by unfold vp_in; decide) dX7_fitInto_25 ?_
  refine hx_top (y := 0) rfl ?_
  refine lv_if_ne (tgt := 39) hx hb dX7_fitInto_26 (by decide) (fun h => absurd h (by decide)) (fun _ => ?_)
  refine lv_aload_n hx hb dX7_fitInto_29 rfl (lv_at hl 0 rfl) ?_
  refine lv_iload_n hx hb dX7_fitInto_30 rfl (lv_at hl 1 rfl) ?_
  refine lv_iload_n hx hb dX7_fitInto_31 rfl (lv_at hl 2 rfl) ?_
  refine lv_iconst (v := 1) hx hb dX7_fitInto_32 (by decide) ?_
  refine lv_iadd hx hb dX7_fitInto_33 ?_
  refine hx_top (y := 7) (by decide) ?_
  refine lv_iload_n hx hb dX7_fitInto_34 rfl (lv_at hl 3 rfl) ?_
  have hPc := hP.sub (ws' := [(h0, .inr (6, [w0, .ref a1, .ref a2, w3, w4])), (a1, .inl (ka1, 8, .inl (fun _ => 0))), (a2, .inl (ka2, 8, .inl (slF (-6) 0 7)))]) [0, 1, 2] rfl
  have hDc := hD.sub (ws' := [(h0, .inr (6, [w0, .ref a1, .ref a2, w3, w4])), (a1, .inl (ka1, 8, .inl (fun _ => 0))), (a2, .inl (ka2, 8, .inl (slF (-6) 0 7)))]) [0, 1, 2] (by decide) rfl
  have hKc := hK.sub (tys' := [(ka1, .int), (ka2, .int)]) [0, 1] rfl
  have hFc := va_free (wc := [(h0, .inr (6, [w0, .ref a1, .ref a2, w3, w4])), (a1, .inl (ka1, 8, .inl (fun _ => 0))), (a2, .inl (ka2, 8, .inl (slF (-6) 0 7)))]) hD hS hA [0, 1, 2] rfl
  refine va_calli (va_runV (As := [.int 0, .int 7, .int 0]) (rest := []) ⟨hx, hb, hml, hown, hts⟩ (c_fit7 l dC dI H.size h0 (w0) a1 a2 (w3) (w4) ka1 ka2) (cwV 3 hts (gV mw_3_26 mw_3_28 mw_0_7 mw_1_7 mw_3_29) rfl rfl rfl (by decide +kernel) ⟨Nat.le_of_ble_eq_true rfl, Nat.le_of_ble_eq_true rfl⟩) ⟨pcW_blind, va_recv hKc hPc (ci := 6) (q0 := 0) rfl rfl, pcW_at hPc hKc hDc hN⟩ rfl rfl hl.1 rfl (lv_room (Nat.le_of_ble_eq_true rfl)) dX7_fitInto_35 ⟨Nat.le_of_ble_eq_true rfl, Nat.le_of_ble_eq_true rfl⟩) hS (fun q _ h => hFc q h) hFc (fun r_1 u t H1 locs ht hvm hw_1 hB hz1 hk1 hS => ?_)
  obtain ⟨hP1, hK1, hD1⟩ := hB
  rw [ht] at hP1
  have hK1 := va_K.moved hvm.symm hK1
  obtain ⟨hP, hD⟩ := va_join (wr := []) (w1 := [(h0, .inr (6, [w0, .ref a1, .ref a2, w3, w4])), (a1, .inl (ka1, 8, .inl (fun _ => 0))), (a2, .inl (ka2, 8, .inl (slF (-6) 0 8)))]) hP hD [0, 1, 2] [] rfl rfl (by decide) (by decide) hk1 hFc hP1 hD1
  have hK := (hK.sub (tys' := []) [] rfl).app hK1
  clear hz1 hk1 hPc hDc hKc hFc
  generalize H1 = H at hP hS ⊢
  have hK : va_K (dC, dI) vwCl [(ka1, .int), (ka2, .int)] s := hK
  have hP : va_P (dC, dI) vwCl [(h0, .inr (6, [w0, .ref a1, .ref a2, w3, w4])), (a1, .inl (ka1, 8, .inl (fun _ => 0))), (a2, .inl (ka2, 8, .inl (slF (-6) 0 8)))] H := hP
  have hD : va_D A [(h0, .inr (6, [w0, .ref a1, .ref a2, w3, w4])), (a1, .inl (ka1, 8, .inl (fun _ => 0))), (a2, .inl (ka2, 8, .inl (slF (-6) 0 8)))] := hD
  obtain rfl : r_1 = 1 := hw_1
  exact W.zret (v := 1) hx hb hr (by decide) (fun t ht hW => ⟨⟨1, (), rfl, rfl, by rw [ht]; exact hP, va_K.moved hW.alike hK, hD⟩, hS.F ht⟩) hS.2.2 dX7_fitInto_38
set_option maxHeartbeats 4000000 in
set_option maxRecDepth 100000 in
theorem c_fit5 (l : Launch) (dC : Nat → ClassId) (dI : Nat → Nat → Nat) (sz : Nat) (h0 : Nat) (w0 : Value) (a1 : Nat) (a2 : Nat) (w3 : Value) (w4 : Value) (ka1 : ClassId) (ka2 : ClassId)  : Met l yX7_fitInto (wq yX7_fitInto cX7_fitInto 5 (some .boolean)) ({ frames := 3, cells := 0, slots := 0, locals := 72 }) (va_Pc [.ref h0, .int 0, .int 5, .int 0] (pcW dC dI [(ka1, .int), (ka2, .int)] [(h0, .inr (6, [w0, .ref a1, .ref a2, w3, w4])), (a1, .inl (ka1, 8, .inl (fun _ => 0))), (a2, .inl (ka2, 8, .inl (slF (-6) 0 5)))] sz)) (va_Qi (fun (r : Int32) (_ : Unit) => r = 1) (fun _ t => va_P (dC, dI) vwCl [(h0, .inr (6, [w0, .ref a1, .ref a2, w3, w4])), (a1, .inl (ka1, 8, .inl (fun _ => 0))), (a2, .inl (ka2, 8, .inl (slF (-6) 0 8)))] t.heap ∧ va_K (dC, dI) vwCl [(ka1, .int), (ka2, .int)] t ∧ va_D (va_A [(h0, .inr (6, [w0, .ref a1, .ref a2, w3, w4])), (a1, .inl (ka1, 8, .inl (fun _ => 0))), (a2, .inl (ka2, 8, .inl (slF (-6) 0 5)))] sz) [(h0, .inr (6, [w0, .ref a1, .ref a2, w3, w4])), (a1, .inl (ka1, 8, .inl (fun _ => 0))), (a2, .inl (ka2, 8, .inl (slF (-6) 0 8)))]) (va_A [(h0, .inr (6, [w0, .ref a1, .ref a2, w3, w4])), (a1, .inl (ka1, 8, .inl (fun _ => 0))), (a2, .inl (ka2, 8, .inl (slF (-6) 0 5)))] sz)) 0 0 (va_A [(h0, .inr (6, [w0, .ref a1, .ref a2, w3, w4])), (a1, .inl (ka1, 8, .inl (fun _ => 0))), (a2, .inl (ka2, 8, .inl (slF (-6) 0 5)))] sz) := by
  refine Met.ofW (cc := cX7_fitInto) (maxL := 5) (ret := (some .boolean)) (by decide) rfl ?_
  intro p e s m args below meth c s₁ B hml hv
  obtain ⟨rfl, hsz, hN, hP, hK, hD0⟩ := hv
  have hx := B.exec
  have hb := B.bytes
  have hr := B.returns
  have hts0 := atoms_spec (ws := (wq yX7_fitInto cX7_fitInto 5 (some .boolean))) B.pre
  have hts : ∀ w ∈ BG, w.before _ s = true := fun w h => hts0 w (List.mem_cons_of_mem _ h)
  have hown : s.vm.findClass RX7 = some m.cls := findClass_of_methodNamed B.named
  have hlocks := B.notSynchronized
  subst hsz
  have hD := hD0.self (sz := s.heap.size)
  generalize hAe : va_A [(h0, .inr (6, [w0, .ref a1, .ref a2, w3, w4])), (a1, .inl (ka1, 8, .inl (fun _ => 0))), (a2, .inl (ka2, 8, .inl (slF (-6) 0 5)))] s.heap.size = A at hD ⊢
  have hA : ∀ q : Nat, s.heap.size ≤ q → A q := fun q h => by rw [← hAe]; exact Or.inr h
  have hS : va_S A s.heap s.heap [] := va_S.rf
  have hP : va_P (dC, dI) vwCl [(h0, .inr (6, [w0, .ref a1, .ref a2, w3, w4])), (a1, .inl (ka1, 8, .inl (fun _ => 0))), (a2, .inl (ka2, 8, .inl (slF (-6) 0 5)))] s.heap := hP
  have hl := lv_entry ([.ref h0, .int 0, .int 5, .int 0]) (n := 5) (Nat.le_of_ble_eq_true rfl)
  rw [lg_entry_eq]
  generalize (lg_sl ([.ref h0, .int 0, .int 5, .int 0]) ++ List.replicate (5 - (lg_sl ([.ref h0, .int 0, .int 5, .int 0])).length) Slot.unset).toArray = ls at hl ⊢
  have hl : lv_has ls 5 [(0, .ref h0), (1, .int 0), (2, .int 5), (3, .int 0)] := hl
  skip
  refine lv_iload_n hx hb dX7_fitInto_0 rfl (lv_at hl 2 rfl) ?_
  refine lv_if_lt (tgt := 10) hx hb dX7_fitInto_1 (by decide) (fun h => absurd h (by decide)) (fun _ => ?_)
  refine lv_iload_n hx hb dX7_fitInto_4 rfl (lv_at hl 2 rfl) ?_
  refine lv_bipush (v := 8) hx hb dX7_fitInto_5 (by decide) ?_
  refine lv_icmp_lt (tgt := 12) hx hb dX7_fitInto_7 (by decide) (fun _ => ?_) (fun h => absurd (by decide) h)
  refine lv_aload_n hx hb dX7_fitInto_12 rfl (lv_at hl 0 rfl) ?_
  refine va_get (D := (dC, dI)) (ci := 6) (v := .ref a2) (C := RX7) (T := TX7) (N := 5) hx hb hts inB_7 hown hK hP 0 rfl rfl 2 (by decide) (hts _ mw_1_129) (fun _ h9 => h9) rfl dX7_fitInto_13 ?_
  refine lv_iload_n hx hb dX7_fitInto_16 rfl (lv_at hl 2 rfl) ?_
  refine lv_bipush (v := (-6)) hx hb dX7_fitInto_17 (by decide) ?_
  refine va_iast hx hb hK hP hD hS 2 1 rfl rfl (show vp_in 5 8 by unfold vp_in; decide) dX7_fitInto_19 (fun H locs hP hD hS => ?_)
  rw [show upd (slF (-6) 0 5) (Int32.toNatClampNeg 5) (-6) = (slF (-6) 0 6) from slF_u _ _ 5] at hP hD
  have hP : va_P (dC, dI) vwCl [(h0, .inr (6, [w0, .ref a1, .ref a2, w3, w4])), (a1, .inl (ka1, 8, .inl (fun _ => 0))), (a2, .inl (ka2, 8, .inl (slF (-6) 0 6)))] H := hP
  have hD : va_D A [(h0, .inr (6, [w0, .ref a1, .ref a2, w3, w4])), (a1, .inl (ka1, 8, .inl (fun _ => 0))), (a2, .inl (ka2, 8, .inl (slF (-6) 0 6)))] := hD
  refine lv_aload_n hx hb dX7_fitInto_20 rfl (lv_at hl 0 rfl) ?_
  refine va_get (D := (dC, dI)) (ci := 6) (v := .ref a1) (C := RX7) (T := TX7) (N := 5) hx hb hts inB_7 hown hK hP 0 rfl rfl 1 (by decide) (hts _ mw_1_128) (fun _ h9 => h9) rfl dX7_fitInto_21 ?_
  refine lv_iload_n hx hb dX7_fitInto_24 rfl (lv_at hl 2 rfl) ?_
  refine va_iald hx hb hK hP 1 0 rfl rfl (show vp_in 5 8 by unfold vp_in; decide) dX7_fitInto_25 ?_
  refine hx_top (y := 0) rfl ?_
  refine lv_if_ne (tgt := 39) hx hb dX7_fitInto_26 (by decide) (fun h => absurd h (by decide)) (fun _ => ?_)
  refine lv_aload_n hx hb dX7_fitInto_29 rfl (lv_at hl 0 rfl) ?_
  refine lv_iload_n hx hb dX7_fitInto_30 rfl (lv_at hl 1 rfl) ?_
  refine lv_iload_n hx hb dX7_fitInto_31 rfl (lv_at hl 2 rfl) ?_
  refine lv_iconst (v := 1) hx hb dX7_fitInto_32 (by decide) ?_
  refine lv_iadd hx hb dX7_fitInto_33 ?_
  refine hx_top (y := 6) (by decide) ?_
  refine lv_iload_n hx hb dX7_fitInto_34 rfl (lv_at hl 3 rfl) ?_
  have hPc := hP.sub (ws' := [(h0, .inr (6, [w0, .ref a1, .ref a2, w3, w4])), (a1, .inl (ka1, 8, .inl (fun _ => 0))), (a2, .inl (ka2, 8, .inl (slF (-6) 0 6)))]) [0, 1, 2] rfl
  have hDc := hD.sub (ws' := [(h0, .inr (6, [w0, .ref a1, .ref a2, w3, w4])), (a1, .inl (ka1, 8, .inl (fun _ => 0))), (a2, .inl (ka2, 8, .inl (slF (-6) 0 6)))]) [0, 1, 2] (by decide) rfl
  have hKc := hK.sub (tys' := [(ka1, .int), (ka2, .int)]) [0, 1] rfl
  have hFc := va_free (wc := [(h0, .inr (6, [w0, .ref a1, .ref a2, w3, w4])), (a1, .inl (ka1, 8, .inl (fun _ => 0))), (a2, .inl (ka2, 8, .inl (slF (-6) 0 6)))]) hD hS hA [0, 1, 2] rfl
  refine va_calli (va_runV (As := [.int 0, .int 6, .int 0]) (rest := []) ⟨hx, hb, hml, hown, hts⟩ (c_fit6 l dC dI H.size h0 (w0) a1 a2 (w3) (w4) ka1 ka2) (cwV 3 hts (gV mw_3_26 mw_3_28 mw_0_7 mw_1_7 mw_3_29) rfl rfl rfl (by decide +kernel) ⟨Nat.le_of_ble_eq_true rfl, Nat.le_of_ble_eq_true rfl⟩) ⟨pcW_blind, va_recv hKc hPc (ci := 6) (q0 := 0) rfl rfl, pcW_at hPc hKc hDc hN⟩ rfl rfl hl.1 rfl (lv_room (Nat.le_of_ble_eq_true rfl)) dX7_fitInto_35 ⟨Nat.le_of_ble_eq_true rfl, Nat.le_of_ble_eq_true rfl⟩) hS (fun q _ h => hFc q h) hFc (fun r_1 u t H1 locs ht hvm hw_1 hB hz1 hk1 hS => ?_)
  obtain ⟨hP1, hK1, hD1⟩ := hB
  rw [ht] at hP1
  have hK1 := va_K.moved hvm.symm hK1
  obtain ⟨hP, hD⟩ := va_join (wr := []) (w1 := [(h0, .inr (6, [w0, .ref a1, .ref a2, w3, w4])), (a1, .inl (ka1, 8, .inl (fun _ => 0))), (a2, .inl (ka2, 8, .inl (slF (-6) 0 8)))]) hP hD [0, 1, 2] [] rfl rfl (by decide) (by decide) hk1 hFc hP1 hD1
  have hK := (hK.sub (tys' := []) [] rfl).app hK1
  clear hz1 hk1 hPc hDc hKc hFc
  generalize H1 = H at hP hS ⊢
  have hK : va_K (dC, dI) vwCl [(ka1, .int), (ka2, .int)] s := hK
  have hP : va_P (dC, dI) vwCl [(h0, .inr (6, [w0, .ref a1, .ref a2, w3, w4])), (a1, .inl (ka1, 8, .inl (fun _ => 0))), (a2, .inl (ka2, 8, .inl (slF (-6) 0 8)))] H := hP
  have hD : va_D A [(h0, .inr (6, [w0, .ref a1, .ref a2, w3, w4])), (a1, .inl (ka1, 8, .inl (fun _ => 0))), (a2, .inl (ka2, 8, .inl (slF (-6) 0 8)))] := hD
  obtain rfl : r_1 = 1 := hw_1
  exact W.zret (v := 1) hx hb hr (by decide) (fun t ht hW => ⟨⟨1, (), rfl, rfl, by rw [ht]; exact hP, va_K.moved hW.alike hK, hD⟩, hS.F ht⟩) hS.2.2 dX7_fitInto_38
set_option maxHeartbeats 4000000 in
set_option maxRecDepth 100000 in
theorem c_fit4 (l : Launch) (dC : Nat → ClassId) (dI : Nat → Nat → Nat) (sz : Nat) (h0 : Nat) (w0 : Value) (a1 : Nat) (a2 : Nat) (w3 : Value) (w4 : Value) (ka1 : ClassId) (ka2 : ClassId)  : Met l yX7_fitInto (wq yX7_fitInto cX7_fitInto 5 (some .boolean)) ({ frames := 4, cells := 0, slots := 0, locals := 96 }) (va_Pc [.ref h0, .int 0, .int 4, .int 0] (pcW dC dI [(ka1, .int), (ka2, .int)] [(h0, .inr (6, [w0, .ref a1, .ref a2, w3, w4])), (a1, .inl (ka1, 8, .inl (fun _ => 0))), (a2, .inl (ka2, 8, .inl (slF (-6) 0 4)))] sz)) (va_Qi (fun (r : Int32) (_ : Unit) => r = 1) (fun _ t => va_P (dC, dI) vwCl [(h0, .inr (6, [w0, .ref a1, .ref a2, w3, w4])), (a1, .inl (ka1, 8, .inl (fun _ => 0))), (a2, .inl (ka2, 8, .inl (slF (-6) 0 8)))] t.heap ∧ va_K (dC, dI) vwCl [(ka1, .int), (ka2, .int)] t ∧ va_D (va_A [(h0, .inr (6, [w0, .ref a1, .ref a2, w3, w4])), (a1, .inl (ka1, 8, .inl (fun _ => 0))), (a2, .inl (ka2, 8, .inl (slF (-6) 0 4)))] sz) [(h0, .inr (6, [w0, .ref a1, .ref a2, w3, w4])), (a1, .inl (ka1, 8, .inl (fun _ => 0))), (a2, .inl (ka2, 8, .inl (slF (-6) 0 8)))]) (va_A [(h0, .inr (6, [w0, .ref a1, .ref a2, w3, w4])), (a1, .inl (ka1, 8, .inl (fun _ => 0))), (a2, .inl (ka2, 8, .inl (slF (-6) 0 4)))] sz)) 0 0 (va_A [(h0, .inr (6, [w0, .ref a1, .ref a2, w3, w4])), (a1, .inl (ka1, 8, .inl (fun _ => 0))), (a2, .inl (ka2, 8, .inl (slF (-6) 0 4)))] sz) := by
  refine Met.ofW (cc := cX7_fitInto) (maxL := 5) (ret := (some .boolean)) (by decide) rfl ?_
  intro p e s m args below meth c s₁ B hml hv
  obtain ⟨rfl, hsz, hN, hP, hK, hD0⟩ := hv
  have hx := B.exec
  have hb := B.bytes
  have hr := B.returns
  have hts0 := atoms_spec (ws := (wq yX7_fitInto cX7_fitInto 5 (some .boolean))) B.pre
  have hts : ∀ w ∈ BG, w.before _ s = true := fun w h => hts0 w (List.mem_cons_of_mem _ h)
  have hown : s.vm.findClass RX7 = some m.cls := findClass_of_methodNamed B.named
  have hlocks := B.notSynchronized
  subst hsz
  have hD := hD0.self (sz := s.heap.size)
  generalize hAe : va_A [(h0, .inr (6, [w0, .ref a1, .ref a2, w3, w4])), (a1, .inl (ka1, 8, .inl (fun _ => 0))), (a2, .inl (ka2, 8, .inl (slF (-6) 0 4)))] s.heap.size = A at hD ⊢
  have hA : ∀ q : Nat, s.heap.size ≤ q → A q := fun q h => by rw [← hAe]; exact Or.inr h
  have hS : va_S A s.heap s.heap [] := va_S.rf
  have hP : va_P (dC, dI) vwCl [(h0, .inr (6, [w0, .ref a1, .ref a2, w3, w4])), (a1, .inl (ka1, 8, .inl (fun _ => 0))), (a2, .inl (ka2, 8, .inl (slF (-6) 0 4)))] s.heap := hP
  have hl := lv_entry ([.ref h0, .int 0, .int 4, .int 0]) (n := 5) (Nat.le_of_ble_eq_true rfl)
  rw [lg_entry_eq]
  generalize (lg_sl ([.ref h0, .int 0, .int 4, .int 0]) ++ List.replicate (5 - (lg_sl ([.ref h0, .int 0, .int 4, .int 0])).length) Slot.unset).toArray = ls at hl ⊢
  have hl : lv_has ls 5 [(0, .ref h0), (1, .int 0), (2, .int 4), (3, .int 0)] := hl
  skip
  refine lv_iload_n hx hb dX7_fitInto_0 rfl (lv_at hl 2 rfl) ?_
  refine lv_if_lt (tgt := 10) hx hb dX7_fitInto_1 (by decide) (fun h => absurd h (by decide)) (fun _ => ?_)
  refine lv_iload_n hx hb dX7_fitInto_4 rfl (lv_at hl 2 rfl) ?_
  refine lv_bipush (v := 8) hx hb dX7_fitInto_5 (by decide) ?_
  refine lv_icmp_lt (tgt := 12) hx hb dX7_fitInto_7 (by decide) (fun _ => ?_) (fun h => absurd (by decide) h)
  refine lv_aload_n hx hb dX7_fitInto_12 rfl (lv_at hl 0 rfl) ?_
  refine va_get (D := (dC, dI)) (ci := 6) (v := .ref a2) (C := RX7) (T := TX7) (N := 5) hx hb hts inB_7 hown hK hP 0 rfl rfl 2 (by decide) (hts _ mw_1_129) (fun _ h9 => h9) rfl dX7_fitInto_13 ?_
  refine lv_iload_n hx hb dX7_fitInto_16 rfl (lv_at hl 2 rfl) ?_
  refine lv_bipush (v := (-6)) hx hb dX7_fitInto_17 (by decide) ?_
  refine va_iast hx hb hK hP hD hS 2 1 rfl rfl (show vp_in 4 8 by unfold vp_in; decide) dX7_fitInto_19 (fun H locs hP hD hS => ?_)
  rw [show upd (slF (-6) 0 4) (Int32.toNatClampNeg 4) (-6) = (slF (-6) 0 5) from slF_u _ _ 4] at hP hD
  have hP : va_P (dC, dI) vwCl [(h0, .inr (6, [w0, .ref a1, .ref a2, w3, w4])), (a1, .inl (ka1, 8, .inl (fun _ => 0))), (a2, .inl (ka2, 8, .inl (slF (-6) 0 5)))] H := hP
  have hD : va_D A [(h0, .inr (6, [w0, .ref a1, .ref a2, w3, w4])), (a1, .inl (ka1, 8, .inl (fun _ => 0))), (a2, .inl (ka2, 8, .inl (slF (-6) 0 5)))] := hD
  refine lv_aload_n hx hb dX7_fitInto_20 rfl (lv_at hl 0 rfl) ?_
  refine va_get (D := (dC, dI)) (ci := 6) (v := .ref a1) (C := RX7) (T := TX7) (N := 5) hx hb hts inB_7 hown hK hP 0 rfl rfl 1 (by decide) (hts _ mw_1_128) (fun _ h9 => h9) rfl dX7_fitInto_21 ?_
  refine lv_iload_n hx hb dX7_fitInto_24 rfl (lv_at hl 2 rfl) ?_
  refine va_iald hx hb hK hP 1 0 rfl rfl (show vp_in 4 8 by unfold vp_in; decide) dX7_fitInto_25 ?_
  refine hx_top (y := 0) rfl ?_
  refine lv_if_ne (tgt := 39) hx hb dX7_fitInto_26 (by decide) (fun h => absurd h (by decide)) (fun _ => ?_)
  refine lv_aload_n hx hb dX7_fitInto_29 rfl (lv_at hl 0 rfl) ?_
  refine lv_iload_n hx hb dX7_fitInto_30 rfl (lv_at hl 1 rfl) ?_
  refine lv_iload_n hx hb dX7_fitInto_31 rfl (lv_at hl 2 rfl) ?_
  refine lv_iconst (v := 1) hx hb dX7_fitInto_32 (by decide) ?_
  refine lv_iadd hx hb dX7_fitInto_33 ?_
  refine hx_top (y := 5) (by decide) ?_
  refine lv_iload_n hx hb dX7_fitInto_34 rfl (lv_at hl 3 rfl) ?_
  have hPc := hP.sub (ws' := [(h0, .inr (6, [w0, .ref a1, .ref a2, w3, w4])), (a1, .inl (ka1, 8, .inl (fun _ => 0))), (a2, .inl (ka2, 8, .inl (slF (-6) 0 5)))]) [0, 1, 2] rfl
  have hDc := hD.sub (ws' := [(h0, .inr (6, [w0, .ref a1, .ref a2, w3, w4])), (a1, .inl (ka1, 8, .inl (fun _ => 0))), (a2, .inl (ka2, 8, .inl (slF (-6) 0 5)))]) [0, 1, 2] (by decide) rfl
  have hKc := hK.sub (tys' := [(ka1, .int), (ka2, .int)]) [0, 1] rfl
  have hFc := va_free (wc := [(h0, .inr (6, [w0, .ref a1, .ref a2, w3, w4])), (a1, .inl (ka1, 8, .inl (fun _ => 0))), (a2, .inl (ka2, 8, .inl (slF (-6) 0 5)))]) hD hS hA [0, 1, 2] rfl
  refine va_calli (va_runV (As := [.int 0, .int 5, .int 0]) (rest := []) ⟨hx, hb, hml, hown, hts⟩ (c_fit5 l dC dI H.size h0 (w0) a1 a2 (w3) (w4) ka1 ka2) (cwV 3 hts (gV mw_3_26 mw_3_28 mw_0_7 mw_1_7 mw_3_29) rfl rfl rfl (by decide +kernel) ⟨Nat.le_of_ble_eq_true rfl, Nat.le_of_ble_eq_true rfl⟩) ⟨pcW_blind, va_recv hKc hPc (ci := 6) (q0 := 0) rfl rfl, pcW_at hPc hKc hDc hN⟩ rfl rfl hl.1 rfl (lv_room (Nat.le_of_ble_eq_true rfl)) dX7_fitInto_35 ⟨Nat.le_of_ble_eq_true rfl, Nat.le_of_ble_eq_true rfl⟩) hS (fun q _ h => hFc q h) hFc (fun r_1 u t H1 locs ht hvm hw_1 hB hz1 hk1 hS => ?_)
  obtain ⟨hP1, hK1, hD1⟩ := hB
  rw [ht] at hP1
  have hK1 := va_K.moved hvm.symm hK1
  obtain ⟨hP, hD⟩ := va_join (wr := []) (w1 := [(h0, .inr (6, [w0, .ref a1, .ref a2, w3, w4])), (a1, .inl (ka1, 8, .inl (fun _ => 0))), (a2, .inl (ka2, 8, .inl (slF (-6) 0 8)))]) hP hD [0, 1, 2] [] rfl rfl (by decide) (by decide) hk1 hFc hP1 hD1
  have hK := (hK.sub (tys' := []) [] rfl).app hK1
  clear hz1 hk1 hPc hDc hKc hFc
  generalize H1 = H at hP hS ⊢
  have hK : va_K (dC, dI) vwCl [(ka1, .int), (ka2, .int)] s := hK
  have hP : va_P (dC, dI) vwCl [(h0, .inr (6, [w0, .ref a1, .ref a2, w3, w4])), (a1, .inl (ka1, 8, .inl (fun _ => 0))), (a2, .inl (ka2, 8, .inl (slF (-6) 0 8)))] H := hP
  have hD : va_D A [(h0, .inr (6, [w0, .ref a1, .ref a2, w3, w4])), (a1, .inl (ka1, 8, .inl (fun _ => 0))), (a2, .inl (ka2, 8, .inl (slF (-6) 0 8)))] := hD
  obtain rfl : r_1 = 1 := hw_1
  exact W.zret (v := 1) hx hb hr (by decide) (fun t ht hW => ⟨⟨1, (), rfl, rfl, by rw [ht]; exact hP, va_K.moved hW.alike hK, hD⟩, hS.F ht⟩) hS.2.2 dX7_fitInto_38
set_option maxHeartbeats 4000000 in
set_option maxRecDepth 100000 in
theorem c_fit3 (l : Launch) (dC : Nat → ClassId) (dI : Nat → Nat → Nat) (sz : Nat) (h0 : Nat) (w0 : Value) (a1 : Nat) (a2 : Nat) (w3 : Value) (w4 : Value) (ka1 : ClassId) (ka2 : ClassId)  : Met l yX7_fitInto (wq yX7_fitInto cX7_fitInto 5 (some .boolean)) ({ frames := 5, cells := 0, slots := 0, locals := 120 }) (va_Pc [.ref h0, .int 0, .int 3, .int 0] (pcW dC dI [(ka1, .int), (ka2, .int)] [(h0, .inr (6, [w0, .ref a1, .ref a2, w3, w4])), (a1, .inl (ka1, 8, .inl (fun _ => 0))), (a2, .inl (ka2, 8, .inl (slF (-6) 0 3)))] sz)) (va_Qi (fun (r : Int32) (_ : Unit) => r = 1) (fun _ t => va_P (dC, dI) vwCl [(h0, .inr (6, [w0, .ref a1, .ref a2, w3, w4])), (a1, .inl (ka1, 8, .inl (fun _ => 0))), (a2, .inl (ka2, 8, .inl (slF (-6) 0 8)))] t.heap ∧ va_K (dC, dI) vwCl [(ka1, .int), (ka2, .int)] t ∧ va_D (va_A [(h0, .inr (6, [w0, .ref a1, .ref a2, w3, w4])), (a1, .inl (ka1, 8, .inl (fun _ => 0))), (a2, .inl (ka2, 8, .inl (slF (-6) 0 3)))] sz) [(h0, .inr (6, [w0, .ref a1, .ref a2, w3, w4])), (a1, .inl (ka1, 8, .inl (fun _ => 0))), (a2, .inl (ka2, 8, .inl (slF (-6) 0 8)))]) (va_A [(h0, .inr (6, [w0, .ref a1, .ref a2, w3, w4])), (a1, .inl (ka1, 8, .inl (fun _ => 0))), (a2, .inl (ka2, 8, .inl (slF (-6) 0 3)))] sz)) 0 0 (va_A [(h0, .inr (6, [w0, .ref a1, .ref a2, w3, w4])), (a1, .inl (ka1, 8, .inl (fun _ => 0))), (a2, .inl (ka2, 8, .inl (slF (-6) 0 3)))] sz) := by
  refine Met.ofW (cc := cX7_fitInto) (maxL := 5) (ret := (some .boolean)) (by decide) rfl ?_
  intro p e s m args below meth c s₁ B hml hv
  obtain ⟨rfl, hsz, hN, hP, hK, hD0⟩ := hv
  have hx := B.exec
  have hb := B.bytes
  have hr := B.returns
  have hts0 := atoms_spec (ws := (wq yX7_fitInto cX7_fitInto 5 (some .boolean))) B.pre
  have hts : ∀ w ∈ BG, w.before _ s = true := fun w h => hts0 w (List.mem_cons_of_mem _ h)
  have hown : s.vm.findClass RX7 = some m.cls := findClass_of_methodNamed B.named
  have hlocks := B.notSynchronized
  subst hsz
  have hD := hD0.self (sz := s.heap.size)
  generalize hAe : va_A [(h0, .inr (6, [w0, .ref a1, .ref a2, w3, w4])), (a1, .inl (ka1, 8, .inl (fun _ => 0))), (a2, .inl (ka2, 8, .inl (slF (-6) 0 3)))] s.heap.size = A at hD ⊢
  have hA : ∀ q : Nat, s.heap.size ≤ q → A q := fun q h => by rw [← hAe]; exact Or.inr h
  have hS : va_S A s.heap s.heap [] := va_S.rf
  have hP : va_P (dC, dI) vwCl [(h0, .inr (6, [w0, .ref a1, .ref a2, w3, w4])), (a1, .inl (ka1, 8, .inl (fun _ => 0))), (a2, .inl (ka2, 8, .inl (slF (-6) 0 3)))] s.heap := hP
  have hl := lv_entry ([.ref h0, .int 0, .int 3, .int 0]) (n := 5) (Nat.le_of_ble_eq_true rfl)
  rw [lg_entry_eq]
  generalize (lg_sl ([.ref h0, .int 0, .int 3, .int 0]) ++ List.replicate (5 - (lg_sl ([.ref h0, .int 0, .int 3, .int 0])).length) Slot.unset).toArray = ls at hl ⊢
  have hl : lv_has ls 5 [(0, .ref h0), (1, .int 0), (2, .int 3), (3, .int 0)] := hl
  skip
  refine lv_iload_n hx hb dX7_fitInto_0 rfl (lv_at hl 2 rfl) ?_
  refine lv_if_lt (tgt := 10) hx hb dX7_fitInto_1 (by decide) (fun h => absurd h (by decide)) (fun _ => ?_)
  refine lv_iload_n hx hb dX7_fitInto_4 rfl (lv_at hl 2 rfl) ?_
  refine lv_bipush (v := 8) hx hb dX7_fitInto_5 (by decide) ?_
  refine lv_icmp_lt (tgt := 12) hx hb dX7_fitInto_7 (by decide) (fun _ => ?_) (fun h => absurd (by decide) h)
  refine lv_aload_n hx hb dX7_fitInto_12 rfl (lv_at hl 0 rfl) ?_
  refine va_get (D := (dC, dI)) (ci := 6) (v := .ref a2) (C := RX7) (T := TX7) (N := 5) hx hb hts inB_7 hown hK hP 0 rfl rfl 2 (by decide) (hts _ mw_1_129) (fun _ h9 => h9) rfl dX7_fitInto_13 ?_
  refine lv_iload_n hx hb dX7_fitInto_16 rfl (lv_at hl 2 rfl) ?_
  refine lv_bipush (v := (-6)) hx hb dX7_fitInto_17 (by decide) ?_
  refine va_iast hx hb hK hP hD hS 2 1 rfl rfl (show vp_in 3 8 by unfold vp_in; decide) dX7_fitInto_19 (fun H locs hP hD hS => ?_)
  rw [show upd (slF (-6) 0 3) (Int32.toNatClampNeg 3) (-6) = (slF (-6) 0 4) from slF_u _ _ 3] at hP hD
  have hP : va_P (dC, dI) vwCl [(h0, .inr (6, [w0, .ref a1, .ref a2, w3, w4])), (a1, .inl (ka1, 8, .inl (fun _ => 0))), (a2, .inl (ka2, 8, .inl (slF (-6) 0 4)))] H := hP
  have hD : va_D A [(h0, .inr (6, [w0, .ref a1, .ref a2, w3, w4])), (a1, .inl (ka1, 8, .inl (fun _ => 0))), (a2, .inl (ka2, 8, .inl (slF (-6) 0 4)))] := hD
  refine lv_aload_n hx hb dX7_fitInto_20 rfl (lv_at hl 0 rfl) ?_
  refine va_get (D := (dC, dI)) (ci := 6) (v := .ref a1) (C := RX7) (T := TX7) (N := 5) hx hb hts inB_7 hown hK hP 0 rfl rfl 1 (by decide) (hts _ mw_1_128) (fun _ h9 => h9) rfl dX7_fitInto_21 ?_
  refine lv_iload_n hx hb dX7_fitInto_24 rfl (lv_at hl 2 rfl) ?_
  refine va_iald hx hb hK hP 1 0 rfl rfl (show vp_in 3 8 by unfold vp_in; decide) dX7_fitInto_25 ?_
  refine hx_top (y := 0) rfl ?_
  refine lv_if_ne (tgt := 39) hx hb dX7_fitInto_26 (by decide) (fun h => absurd h (by decide)) (fun _ => ?_)
  refine lv_aload_n hx hb dX7_fitInto_29 rfl (lv_at hl 0 rfl) ?_
  refine lv_iload_n hx hb dX7_fitInto_30 rfl (lv_at hl 1 rfl) ?_
  refine lv_iload_n hx hb dX7_fitInto_31 rfl (lv_at hl 2 rfl) ?_
  refine lv_iconst (v := 1) hx hb dX7_fitInto_32 (by decide) ?_
  refine lv_iadd hx hb dX7_fitInto_33 ?_
  refine hx_top (y := 4) (by decide) ?_
  refine lv_iload_n hx hb dX7_fitInto_34 rfl (lv_at hl 3 rfl) ?_
  have hPc := hP.sub (ws' := [(h0, .inr (6, [w0, .ref a1, .ref a2, w3, w4])), (a1, .inl (ka1, 8, .inl (fun _ => 0))), (a2, .inl (ka2, 8, .inl (slF (-6) 0 4)))]) [0, 1, 2] rfl
  have hDc := hD.sub (ws' := [(h0, .inr (6, [w0, .ref a1, .ref a2, w3, w4])), (a1, .inl (ka1, 8, .inl (fun _ => 0))), (a2, .inl (ka2, 8, .inl (slF (-6) 0 4)))]) [0, 1, 2] (by decide) rfl
  have hKc := hK.sub (tys' := [(ka1, .int), (ka2, .int)]) [0, 1] rfl
  have hFc := va_free (wc := [(h0, .inr (6, [w0, .ref a1, .ref a2, w3, w4])), (a1, .inl (ka1, 8, .inl (fun _ => 0))), (a2, .inl (ka2, 8, .inl (slF (-6) 0 4)))]) hD hS hA [0, 1, 2] rfl
  refine va_calli (va_runV (As := [.int 0, .int 4, .int 0]) (rest := []) ⟨hx, hb, hml, hown, hts⟩ (c_fit4 l dC dI H.size h0 (w0) a1 a2 (w3) (w4) ka1 ka2) (cwV 3 hts (gV mw_3_26 mw_3_28 mw_0_7 mw_1_7 mw_3_29) rfl rfl rfl (by decide +kernel) ⟨Nat.le_of_ble_eq_true rfl, Nat.le_of_ble_eq_true rfl⟩) ⟨pcW_blind, va_recv hKc hPc (ci := 6) (q0 := 0) rfl rfl, pcW_at hPc hKc hDc hN⟩ rfl rfl hl.1 rfl (lv_room (Nat.le_of_ble_eq_true rfl)) dX7_fitInto_35 ⟨Nat.le_of_ble_eq_true rfl, Nat.le_of_ble_eq_true rfl⟩) hS (fun q _ h => hFc q h) hFc (fun r_1 u t H1 locs ht hvm hw_1 hB hz1 hk1 hS => ?_)
  obtain ⟨hP1, hK1, hD1⟩ := hB
  rw [ht] at hP1
  have hK1 := va_K.moved hvm.symm hK1
  obtain ⟨hP, hD⟩ := va_join (wr := []) (w1 := [(h0, .inr (6, [w0, .ref a1, .ref a2, w3, w4])), (a1, .inl (ka1, 8, .inl (fun _ => 0))), (a2, .inl (ka2, 8, .inl (slF (-6) 0 8)))]) hP hD [0, 1, 2] [] rfl rfl (by decide) (by decide) hk1 hFc hP1 hD1
  have hK := (hK.sub (tys' := []) [] rfl).app hK1
  clear hz1 hk1 hPc hDc hKc hFc
  generalize H1 = H at hP hS ⊢
  have hK : va_K (dC, dI) vwCl [(ka1, .int), (ka2, .int)] s := hK
  have hP : va_P (dC, dI) vwCl [(h0, .inr (6, [w0, .ref a1, .ref a2, w3, w4])), (a1, .inl (ka1, 8, .inl (fun _ => 0))), (a2, .inl (ka2, 8, .inl (slF (-6) 0 8)))] H := hP
  have hD : va_D A [(h0, .inr (6, [w0, .ref a1, .ref a2, w3, w4])), (a1, .inl (ka1, 8, .inl (fun _ => 0))), (a2, .inl (ka2, 8, .inl (slF (-6) 0 8)))] := hD
  obtain rfl : r_1 = 1 := hw_1
  exact W.zret (v := 1) hx hb hr (by decide) (fun t ht hW => ⟨⟨1, (), rfl, rfl, by rw [ht]; exact hP, va_K.moved hW.alike hK, hD⟩, hS.F ht⟩) hS.2.2 dX7_fitInto_38
set_option maxHeartbeats 4000000 in
set_option maxRecDepth 100000 in
theorem c_fit2 (l : Launch) (dC : Nat → ClassId) (dI : Nat → Nat → Nat) (sz : Nat) (h0 : Nat) (w0 : Value) (a1 : Nat) (a2 : Nat) (w3 : Value) (w4 : Value) (ka1 : ClassId) (ka2 : ClassId)  : Met l yX7_fitInto (wq yX7_fitInto cX7_fitInto 5 (some .boolean)) ({ frames := 6, cells := 0, slots := 0, locals := 144 }) (va_Pc [.ref h0, .int 0, .int 2, .int 0] (pcW dC dI [(ka1, .int), (ka2, .int)] [(h0, .inr (6, [w0, .ref a1, .ref a2, w3, w4])), (a1, .inl (ka1, 8, .inl (fun _ => 0))), (a2, .inl (ka2, 8, .inl (slF (-6) 0 2)))] sz)) (va_Qi (fun (r : Int32) (_ : Unit) => r = 1) (fun _ t => va_P (dC, dI) vwCl [(h0, .inr (6, [w0, .ref a1, .ref a2, w3, w4])), (a1, .inl (ka1, 8, .inl (fun _ => 0))), (a2, .inl (ka2, 8, .inl (slF (-6) 0 8)))] t.heap ∧ va_K (dC, dI) vwCl [(ka1, .int), (ka2, .int)] t ∧ va_D (va_A [(h0, .inr (6, [w0, .ref a1, .ref a2, w3, w4])), (a1, .inl (ka1, 8, .inl (fun _ => 0))), (a2, .inl (ka2, 8, .inl (slF (-6) 0 2)))] sz) [(h0, .inr (6, [w0, .ref a1, .ref a2, w3, w4])), (a1, .inl (ka1, 8, .inl (fun _ => 0))), (a2, .inl (ka2, 8, .inl (slF (-6) 0 8)))]) (va_A [(h0, .inr (6, [w0, .ref a1, .ref a2, w3, w4])), (a1, .inl (ka1, 8, .inl (fun _ => 0))), (a2, .inl (ka2, 8, .inl (slF (-6) 0 2)))] sz)) 0 0 (va_A [(h0, .inr (6, [w0, .ref a1, .ref a2, w3, w4])), (a1, .inl (ka1, 8, .inl (fun _ => 0))), (a2, .inl (ka2, 8, .inl (slF (-6) 0 2)))] sz) := by
  refine Met.ofW (cc := cX7_fitInto) (maxL := 5) (ret := (some .boolean)) (by decide) rfl ?_
  intro p e s m args below meth c s₁ B hml hv
  obtain ⟨rfl, hsz, hN, hP, hK, hD0⟩ := hv
  have hx := B.exec
  have hb := B.bytes
  have hr := B.returns
  have hts0 := atoms_spec (ws := (wq yX7_fitInto cX7_fitInto 5 (some .boolean))) B.pre
  have hts : ∀ w ∈ BG, w.before _ s = true := fun w h => hts0 w (List.mem_cons_of_mem _ h)
  have hown : s.vm.findClass RX7 = some m.cls := findClass_of_methodNamed B.named
  have hlocks := B.notSynchronized
  subst hsz
  have hD := hD0.self (sz := s.heap.size)
  generalize hAe : va_A [(h0, .inr (6, [w0, .ref a1, .ref a2, w3, w4])), (a1, .inl (ka1, 8, .inl (fun _ => 0))), (a2, .inl (ka2, 8, .inl (slF (-6) 0 2)))] s.heap.size = A at hD ⊢
  have hA : ∀ q : Nat, s.heap.size ≤ q → A q := fun q h => by rw [← hAe]; exact Or.inr h
  have hS : va_S A s.heap s.heap [] := va_S.rf
  have hP : va_P (dC, dI) vwCl [(h0, .inr (6, [w0, .ref a1, .ref a2, w3, w4])), (a1, .inl (ka1, 8, .inl (fun _ => 0))), (a2, .inl (ka2, 8, .inl (slF (-6) 0 2)))] s.heap := hP
  have hl := lv_entry ([.ref h0, .int 0, .int 2, .int 0]) (n := 5) (Nat.le_of_ble_eq_true rfl)
  rw [lg_entry_eq]
  generalize (lg_sl ([.ref h0, .int 0, .int 2, .int 0]) ++ List.replicate (5 - (lg_sl ([.ref h0, .int 0, .int 2, .int 0])).length) Slot.unset).toArray = ls at hl ⊢
  have hl : lv_has ls 5 [(0, .ref h0), (1, .int 0), (2, .int 2), (3, .int 0)] := hl
  skip
  refine lv_iload_n hx hb dX7_fitInto_0 rfl (lv_at hl 2 rfl) ?_
  refine lv_if_lt (tgt := 10) hx hb dX7_fitInto_1 (by decide) (fun h => absurd h (by decide)) (fun _ => ?_)
  refine lv_iload_n hx hb dX7_fitInto_4 rfl (lv_at hl 2 rfl) ?_
  refine lv_bipush (v := 8) hx hb dX7_fitInto_5 (by decide) ?_
  refine lv_icmp_lt (tgt := 12) hx hb dX7_fitInto_7 (by decide) (fun _ => ?_) (fun h => absurd (by decide) h)
  refine lv_aload_n hx hb dX7_fitInto_12 rfl (lv_at hl 0 rfl) ?_
  refine va_get (D := (dC, dI)) (ci := 6) (v := .ref a2) (C := RX7) (T := TX7) (N := 5) hx hb hts inB_7 hown hK hP 0 rfl rfl 2 (by decide) (hts _ mw_1_129) (fun _ h9 => h9) rfl dX7_fitInto_13 ?_
  refine lv_iload_n hx hb dX7_fitInto_16 rfl (lv_at hl 2 rfl) ?_
  refine lv_bipush (v := (-6)) hx hb dX7_fitInto_17 (by decide) ?_
  refine va_iast hx hb hK hP hD hS 2 1 rfl rfl (show vp_in 2 8 by unfold vp_in; decide) dX7_fitInto_19 (fun H locs hP hD hS => ?_)
  rw [show upd (slF (-6) 0 2) (Int32.toNatClampNeg 2) (-6) = (slF (-6) 0 3) from slF_u _ _ 2] at hP hD
  have hP : va_P (dC, dI) vwCl [(h0, .inr (6, [w0, .ref a1, .ref a2, w3, w4])), (a1, .inl (ka1, 8, .inl (fun _ => 0))), (a2, .inl (ka2, 8, .inl (slF (-6) 0 3)))] H := hP
  have hD : va_D A [(h0, .inr (6, [w0, .ref a1, .ref a2, w3, w4])), (a1, .inl (ka1, 8, .inl (fun _ => 0))), (a2, .inl (ka2, 8, .inl (slF (-6) 0 3)))] := hD
  refine lv_aload_n hx hb dX7_fitInto_20 rfl (lv_at hl 0 rfl) ?_
  refine va_get (D := (dC, dI)) (ci := 6) (v := .ref a1) (C := RX7) (T := TX7) (N := 5) hx hb hts inB_7 hown hK hP 0 rfl rfl 1 (by decide) (hts _ mw_1_128) (fun _ h9 => h9) rfl dX7_fitInto_21 ?_
  refine lv_iload_n hx hb dX7_fitInto_24 rfl (lv_at hl 2 rfl) ?_
  refine va_iald hx hb hK hP 1 0 rfl rfl (show vp_in 2 8 by unfold vp_in; decide) dX7_fitInto_25 ?_
  refine hx_top (y := 0) rfl ?_
  refine lv_if_ne (tgt := 39) hx hb dX7_fitInto_26 (by decide) (fun h => absurd h (by decide)) (fun _ => ?_)
  refine lv_aload_n hx hb dX7_fitInto_29 rfl (lv_at hl 0 rfl) ?_
  refine lv_iload_n hx hb dX7_fitInto_30 rfl (lv_at hl 1 rfl) ?_
  refine lv_iload_n hx hb dX7_fitInto_31 rfl (lv_at hl 2 rfl) ?_
  refine lv_iconst (v := 1) hx hb dX7_fitInto_32 (by decide) ?_
  refine lv_iadd hx hb dX7_fitInto_33 ?_
  refine hx_top (y := 3) (by decide) ?_
  refine lv_iload_n hx hb dX7_fitInto_34 rfl (lv_at hl 3 rfl) ?_
  have hPc := hP.sub (ws' := [(h0, .inr (6, [w0, .ref a1, .ref a2, w3, w4])), (a1, .inl (ka1, 8, .inl (fun _ => 0))), (a2, .inl (ka2, 8, .inl (slF (-6) 0 3)))]) [0, 1, 2] rfl
  have hDc := hD.sub (ws' := [(h0, .inr (6, [w0, .ref a1, .ref a2, w3, w4])), (a1, .inl (ka1, 8, .inl (fun _ => 0))), (a2, .inl (ka2, 8, .inl (slF (-6) 0 3)))]) [0, 1, 2] (by decide) rfl
  have hKc := hK.sub (tys' := [(ka1, .int), (ka2, .int)]) [0, 1] rfl
  have hFc := va_free (wc := [(h0, .inr (6, [w0, .ref a1, .ref a2, w3, w4])), (a1, .inl (ka1, 8, .inl (fun _ => 0))), (a2, .inl (ka2, 8, .inl (slF (-6) 0 3)))]) hD hS hA [0, 1, 2] rfl
  refine va_calli (va_runV (As := [.int 0, .int 3, .int 0]) (rest := []) ⟨hx, hb, hml, hown, hts⟩ (c_fit3 l dC dI H.size h0 (w0) a1 a2 (w3) (w4) ka1 ka2) (cwV 3 hts (gV mw_3_26 mw_3_28 mw_0_7 mw_1_7 mw_3_29) rfl rfl rfl (by decide +kernel) ⟨Nat.le_of_ble_eq_true rfl, Nat.le_of_ble_eq_true rfl⟩) ⟨pcW_blind, va_recv hKc hPc (ci := 6) (q0 := 0) rfl rfl, pcW_at hPc hKc hDc hN⟩ rfl rfl hl.1 rfl (lv_room (Nat.le_of_ble_eq_true rfl)) dX7_fitInto_35 ⟨Nat.le_of_ble_eq_true rfl, Nat.le_of_ble_eq_true rfl⟩) hS (fun q _ h => hFc q h) hFc (fun r_1 u t H1 locs ht hvm hw_1 hB hz1 hk1 hS => ?_)
  obtain ⟨hP1, hK1, hD1⟩ := hB
  rw [ht] at hP1
  have hK1 := va_K.moved hvm.symm hK1
  obtain ⟨hP, hD⟩ := va_join (wr := []) (w1 := [(h0, .inr (6, [w0, .ref a1, .ref a2, w3, w4])), (a1, .inl (ka1, 8, .inl (fun _ => 0))), (a2, .inl (ka2, 8, .inl (slF (-6) 0 8)))]) hP hD [0, 1, 2] [] rfl rfl (by decide) (by decide) hk1 hFc hP1 hD1
  have hK := (hK.sub (tys' := []) [] rfl).app hK1
  clear hz1 hk1 hPc hDc hKc hFc
  generalize H1 = H at hP hS ⊢
  have hK : va_K (dC, dI) vwCl [(ka1, .int), (ka2, .int)] s := hK
  have hP : va_P (dC, dI) vwCl [(h0, .inr (6, [w0, .ref a1, .ref a2, w3, w4])), (a1, .inl (ka1, 8, .inl (fun _ => 0))), (a2, .inl (ka2, 8, .inl (slF (-6) 0 8)))] H := hP
  have hD : va_D A [(h0, .inr (6, [w0, .ref a1, .ref a2, w3, w4])), (a1, .inl (ka1, 8, .inl (fun _ => 0))), (a2, .inl (ka2, 8, .inl (slF (-6) 0 8)))] := hD
  obtain rfl : r_1 = 1 := hw_1
  exact W.zret (v := 1) hx hb hr (by decide) (fun t ht hW => ⟨⟨1, (), rfl, rfl, by rw [ht]; exact hP, va_K.moved hW.alike hK, hD⟩, hS.F ht⟩) hS.2.2 dX7_fitInto_38
set_option maxHeartbeats 4000000 in
set_option maxRecDepth 100000 in
theorem c_fit1 (l : Launch) (dC : Nat → ClassId) (dI : Nat → Nat → Nat) (sz : Nat) (h0 : Nat) (w0 : Value) (a1 : Nat) (a2 : Nat) (w3 : Value) (w4 : Value) (ka1 : ClassId) (ka2 : ClassId)  : Met l yX7_fitInto (wq yX7_fitInto cX7_fitInto 5 (some .boolean)) ({ frames := 7, cells := 0, slots := 0, locals := 168 }) (va_Pc [.ref h0, .int 0, .int 1, .int 0] (pcW dC dI [(ka1, .int), (ka2, .int)] [(h0, .inr (6, [w0, .ref a1, .ref a2, w3, w4])), (a1, .inl (ka1, 8, .inl (fun _ => 0))), (a2, .inl (ka2, 8, .inl (slF (-6) 0 1)))] sz)) (va_Qi (fun (r : Int32) (_ : Unit) => r = 1) (fun _ t => va_P (dC, dI) vwCl [(h0, .inr (6, [w0, .ref a1, .ref a2, w3, w4])), (a1, .inl (ka1, 8, .inl (fun _ => 0))), (a2, .inl (ka2, 8, .inl (slF (-6) 0 8)))] t.heap ∧ va_K (dC, dI) vwCl [(ka1, .int), (ka2, .int)] t ∧ va_D (va_A [(h0, .inr (6, [w0, .ref a1, .ref a2, w3, w4])), (a1, .inl (ka1, 8, .inl (fun _ => 0))), (a2, .inl (ka2, 8, .inl (slF (-6) 0 1)))] sz) [(h0, .inr (6, [w0, .ref a1, .ref a2, w3, w4])), (a1, .inl (ka1, 8, .inl (fun _ => 0))), (a2, .inl (ka2, 8, .inl (slF (-6) 0 8)))]) (va_A [(h0, .inr (6, [w0, .ref a1, .ref a2, w3, w4])), (a1, .inl (ka1, 8, .inl (fun _ => 0))), (a2, .inl (ka2, 8, .inl (slF (-6) 0 1)))] sz)) 0 0 (va_A [(h0, .inr (6, [w0, .ref a1, .ref a2, w3, w4])), (a1, .inl (ka1, 8, .inl (fun _ => 0))), (a2, .inl (ka2, 8, .inl (slF (-6) 0 1)))] sz) := by
  refine Met.ofW (cc := cX7_fitInto) (maxL := 5) (ret := (some .boolean)) (by decide) rfl ?_
  intro p e s m args below meth c s₁ B hml hv
  obtain ⟨rfl, hsz, hN, hP, hK, hD0⟩ := hv
  have hx := B.exec
  have hb := B.bytes
  have hr := B.returns
  have hts0 := atoms_spec (ws := (wq yX7_fitInto cX7_fitInto 5 (some .boolean))) B.pre
  have hts : ∀ w ∈ BG, w.before _ s = true := fun w h => hts0 w (List.mem_cons_of_mem _ h)
  have hown : s.vm.findClass RX7 = some m.cls := findClass_of_methodNamed B.named
  have hlocks := B.notSynchronized
  subst hsz
  have hD := hD0.self (sz := s.heap.size)
  generalize hAe : va_A [(h0, .inr (6, [w0, .ref a1, .ref a2, w3, w4])), (a1, .inl (ka1, 8, .inl (fun _ => 0))), (a2, .inl (ka2, 8, .inl (slF (-6) 0 1)))] s.heap.size = A at hD ⊢
  have hA : ∀ q : Nat, s.heap.size ≤ q → A q := fun q h => by rw [← hAe]; exact Or.inr h
  have hS : va_S A s.heap s.heap [] := va_S.rf
  have hP : va_P (dC, dI) vwCl [(h0, .inr (6, [w0, .ref a1, .ref a2, w3, w4])), (a1, .inl (ka1, 8, .inl (fun _ => 0))), (a2, .inl (ka2, 8, .inl (slF (-6) 0 1)))] s.heap := hP
  have hl := lv_entry ([.ref h0, .int 0, .int 1, .int 0]) (n := 5) (Nat.le_of_ble_eq_true rfl)
  rw [lg_entry_eq]
  generalize (lg_sl ([.ref h0, .int 0, .int 1, .int 0]) ++ List.replicate (5 - (lg_sl ([.ref h0, .int 0, .int 1, .int 0])).length) Slot.unset).toArray = ls at hl ⊢
  have hl : lv_has ls 5 [(0, .ref h0), (1, .int 0), (2, .int 1), (3, .int 0)] := hl
  skip
  refine lv_iload_n hx hb dX7_fitInto_0 rfl (lv_at hl 2 rfl) ?_
  refine lv_if_lt (tgt := 10) hx hb dX7_fitInto_1 (by decide) (fun h => absurd h (by decide)) (fun _ => ?_)
  refine lv_iload_n hx hb dX7_fitInto_4 rfl (lv_at hl 2 rfl) ?_
  refine lv_bipush (v := 8) hx hb dX7_fitInto_5 (by decide) ?_
  refine lv_icmp_lt (tgt := 12) hx hb dX7_fitInto_7 (by decide) (fun _ => ?_) (fun h => absurd (by decide) h)
  refine lv_aload_n hx hb dX7_fitInto_12 rfl (lv_at hl 0 rfl) ?_
  refine va_get (D := (dC, dI)) (ci := 6) (v := .ref a2) (C := RX7) (T := TX7) (N := 5) hx hb hts inB_7 hown hK hP 0 rfl rfl 2 (by decide) (hts _ mw_1_129) (fun _ h9 => h9) rfl dX7_fitInto_13 ?_
  refine lv_iload_n hx hb dX7_fitInto_16 rfl (lv_at hl 2 rfl) ?_
  refine lv_bipush (v := (-6)) hx hb dX7_fitInto_17 (by decide) ?_
  refine va_iast hx hb hK hP hD hS 2 1 rfl rfl (show vp_in 1 8 by unfold vp_in; decide) dX7_fitInto_19 (fun H locs hP hD hS => ?_)
  rw [show upd (slF (-6) 0 1) (Int32.toNatClampNeg 1) (-6) = (slF (-6) 0 2) from slF_u _ _ 1] at hP hD
  have hP : va_P (dC, dI) vwCl [(h0, .inr (6, [w0, .ref a1, .ref a2, w3, w4])), (a1, .inl (ka1, 8, .inl (fun _ => 0))), (a2, .inl (ka2, 8, .inl (slF (-6) 0 2)))] H := hP
  have hD : va_D A [(h0, .inr (6, [w0, .ref a1, .ref a2, w3, w4])), (a1, .inl (ka1, 8, .inl (fun _ => 0))), (a2, .inl (ka2, 8, .inl (slF (-6) 0 2)))] := hD
  refine lv_aload_n hx hb dX7_fitInto_20 rfl (lv_at hl 0 rfl) ?_
  refine va_get (D := (dC, dI)) (ci := 6) (v := .ref a1) (C := RX7) (T := TX7) (N := 5) hx hb hts inB_7 hown hK hP 0 rfl rfl 1 (by decide) (hts _ mw_1_128) (fun _ h9 => h9) rfl dX7_fitInto_21 ?_
  refine lv_iload_n hx hb dX7_fitInto_24 rfl (lv_at hl 2 rfl) ?_
  refine va_iald hx hb hK hP 1 0 rfl rfl (show vp_in 1 8 by unfold vp_in; decide) dX7_fitInto_25 ?_
  refine hx_top (y := 0) rfl ?_
  refine lv_if_ne (tgt := 39) hx hb dX7_fitInto_26 (by decide) (fun h => absurd h (by decide)) (fun _ => ?_)
  refine lv_aload_n hx hb dX7_fitInto_29 rfl (lv_at hl 0 rfl) ?_
  refine lv_iload_n hx hb dX7_fitInto_30 rfl (lv_at hl 1 rfl) ?_
  refine lv_iload_n hx hb dX7_fitInto_31 rfl (lv_at hl 2 rfl) ?_
  refine lv_iconst (v := 1) hx hb dX7_fitInto_32 (by decide) ?_
  refine lv_iadd hx hb dX7_fitInto_33 ?_
  refine hx_top (y := 2) (by decide) ?_
  refine lv_iload_n hx hb dX7_fitInto_34 rfl (lv_at hl 3 rfl) ?_
  have hPc := hP.sub (ws' := [(h0, .inr (6, [w0, .ref a1, .ref a2, w3, w4])), (a1, .inl (ka1, 8, .inl (fun _ => 0))), (a2, .inl (ka2, 8, .inl (slF (-6) 0 2)))]) [0, 1, 2] rfl
  have hDc := hD.sub (ws' := [(h0, .inr (6, [w0, .ref a1, .ref a2, w3, w4])), (a1, .inl (ka1, 8, .inl (fun _ => 0))), (a2, .inl (ka2, 8, .inl (slF (-6) 0 2)))]) [0, 1, 2] (by decide) rfl
  have hKc := hK.sub (tys' := [(ka1, .int), (ka2, .int)]) [0, 1] rfl
  have hFc := va_free (wc := [(h0, .inr (6, [w0, .ref a1, .ref a2, w3, w4])), (a1, .inl (ka1, 8, .inl (fun _ => 0))), (a2, .inl (ka2, 8, .inl (slF (-6) 0 2)))]) hD hS hA [0, 1, 2] rfl
  refine va_calli (va_runV (As := [.int 0, .int 2, .int 0]) (rest := []) ⟨hx, hb, hml, hown, hts⟩ (c_fit2 l dC dI H.size h0 (w0) a1 a2 (w3) (w4) ka1 ka2) (cwV 3 hts (gV mw_3_26 mw_3_28 mw_0_7 mw_1_7 mw_3_29) rfl rfl rfl (by decide +kernel) ⟨Nat.le_of_ble_eq_true rfl, Nat.le_of_ble_eq_true rfl⟩) ⟨pcW_blind, va_recv hKc hPc (ci := 6) (q0 := 0) rfl rfl, pcW_at hPc hKc hDc hN⟩ rfl rfl hl.1 rfl (lv_room (Nat.le_of_ble_eq_true rfl)) dX7_fitInto_35 ⟨Nat.le_of_ble_eq_true rfl, Nat.le_of_ble_eq_true rfl⟩) hS (fun q _ h => hFc q h) hFc (fun r_1 u t H1 locs ht hvm hw_1 hB hz1 hk1 hS => ?_)
  obtain ⟨hP1, hK1, hD1⟩ := hB
  rw [ht] at hP1
  have hK1 := va_K.moved hvm.symm hK1
  obtain ⟨hP, hD⟩ := va_join (wr := []) (w1 := [(h0, .inr (6, [w0, .ref a1, .ref a2, w3, w4])), (a1, .inl (ka1, 8, .inl (fun _ => 0))), (a2, .inl (ka2, 8, .inl (slF (-6) 0 8)))]) hP hD [0, 1, 2] [] rfl rfl (by decide) (by decide) hk1 hFc hP1 hD1
  have hK := (hK.sub (tys' := []) [] rfl).app hK1
  clear hz1 hk1 hPc hDc hKc hFc
  generalize H1 = H at hP hS ⊢
  have hK : va_K (dC, dI) vwCl [(ka1, .int), (ka2, .int)] s := hK
  have hP : va_P (dC, dI) vwCl [(h0, .inr (6, [w0, .ref a1, .ref a2, w3, w4])), (a1, .inl (ka1, 8, .inl (fun _ => 0))), (a2, .inl (ka2, 8, .inl (slF (-6) 0 8)))] H := hP
  have hD : va_D A [(h0, .inr (6, [w0, .ref a1, .ref a2, w3, w4])), (a1, .inl (ka1, 8, .inl (fun _ => 0))), (a2, .inl (ka2, 8, .inl (slF (-6) 0 8)))] := hD
  obtain rfl : r_1 = 1 := hw_1
  exact W.zret (v := 1) hx hb hr (by decide) (fun t ht hW => ⟨⟨1, (), rfl, rfl, by rw [ht]; exact hP, va_K.moved hW.alike hK, hD⟩, hS.F ht⟩) hS.2.2 dX7_fitInto_38
set_option maxHeartbeats 4000000 in
set_option maxRecDepth 100000 in
theorem c_fit0 (l : Launch) (dC : Nat → ClassId) (dI : Nat → Nat → Nat) (sz : Nat) (h0 : Nat) (w0 : Value) (a1 : Nat) (a2 : Nat) (w3 : Value) (w4 : Value) (ka1 : ClassId) (ka2 : ClassId)  : Met l yX7_fitInto (wq yX7_fitInto cX7_fitInto 5 (some .boolean)) ({ frames := 8, cells := 0, slots := 0, locals := 192 }) (va_Pc [.ref h0, .int 0, .int 0, .int 0] (pcW dC dI [(ka1, .int), (ka2, .int)] [(h0, .inr (6, [w0, .ref a1, .ref a2, w3, w4])), (a1, .inl (ka1, 8, .inl (fun _ => 0))), (a2, .inl (ka2, 8, .inl (fun _ => 0)))] sz)) (va_Qi (fun (r : Int32) (_ : Unit) => r = 1) (fun _ t => va_P (dC, dI) vwCl [(h0, .inr (6, [w0, .ref a1, .ref a2, w3, w4])), (a1, .inl (ka1, 8, .inl (fun _ => 0))), (a2, .inl (ka2, 8, .inl (slF (-6) 0 8)))] t.heap ∧ va_K (dC, dI) vwCl [(ka1, .int), (ka2, .int)] t ∧ va_D (va_A [(h0, .inr (6, [w0, .ref a1, .ref a2, w3, w4])), (a1, .inl (ka1, 8, .inl (fun _ => 0))), (a2, .inl (ka2, 8, .inl (fun _ => 0)))] sz) [(h0, .inr (6, [w0, .ref a1, .ref a2, w3, w4])), (a1, .inl (ka1, 8, .inl (fun _ => 0))), (a2, .inl (ka2, 8, .inl (slF (-6) 0 8)))]) (va_A [(h0, .inr (6, [w0, .ref a1, .ref a2, w3, w4])), (a1, .inl (ka1, 8, .inl (fun _ => 0))), (a2, .inl (ka2, 8, .inl (fun _ => 0)))] sz)) 0 0 (va_A [(h0, .inr (6, [w0, .ref a1, .ref a2, w3, w4])), (a1, .inl (ka1, 8, .inl (fun _ => 0))), (a2, .inl (ka2, 8, .inl (fun _ => 0)))] sz) := by
  refine Met.ofW (cc := cX7_fitInto) (maxL := 5) (ret := (some .boolean)) (by decide) rfl ?_
  intro p e s m args below meth c s₁ B hml hv
  obtain ⟨rfl, hsz, hN, hP, hK, hD0⟩ := hv
  have hx := B.exec
  have hb := B.bytes
  have hr := B.returns
  have hts0 := atoms_spec (ws := (wq yX7_fitInto cX7_fitInto 5 (some .boolean))) B.pre
  have hts : ∀ w ∈ BG, w.before _ s = true := fun w h => hts0 w (List.mem_cons_of_mem _ h)
  have hown : s.vm.findClass RX7 = some m.cls := findClass_of_methodNamed B.named
  have hlocks := B.notSynchronized
  subst hsz
  have hD := hD0.self (sz := s.heap.size)
  generalize hAe : va_A [(h0, .inr (6, [w0, .ref a1, .ref a2, w3, w4])), (a1, .inl (ka1, 8, .inl (fun _ => 0))), (a2, .inl (ka2, 8, .inl (fun _ => 0)))] s.heap.size = A at hD ⊢
  have hA : ∀ q : Nat, s.heap.size ≤ q → A q := fun q h => by rw [← hAe]; exact Or.inr h
  have hS : va_S A s.heap s.heap [] := va_S.rf
  have hP : va_P (dC, dI) vwCl [(h0, .inr (6, [w0, .ref a1, .ref a2, w3, w4])), (a1, .inl (ka1, 8, .inl (fun _ => 0))), (a2, .inl (ka2, 8, .inl (fun _ => 0)))] s.heap := hP
  have hl := lv_entry ([.ref h0, .int 0, .int 0, .int 0]) (n := 5) (Nat.le_of_ble_eq_true rfl)
  rw [lg_entry_eq]
  generalize (lg_sl ([.ref h0, .int 0, .int 0, .int 0]) ++ List.replicate (5 - (lg_sl ([.ref h0, .int 0, .int 0, .int 0])).length) Slot.unset).toArray = ls at hl ⊢
  have hl : lv_has ls 5 [(0, .ref h0), (1, .int 0), (2, .int 0), (3, .int 0)] := hl
  skip
  refine lv_iload_n hx hb dX7_fitInto_0 rfl (lv_at hl 2 rfl) ?_
  refine lv_if_lt (tgt := 10) hx hb dX7_fitInto_1 (by decide) (fun h => absurd h (by decide)) (fun _ => ?_)
  refine lv_iload_n hx hb dX7_fitInto_4 rfl (lv_at hl 2 rfl) ?_
  refine lv_bipush (v := 8) hx hb dX7_fitInto_5 (by decide) ?_
  refine lv_icmp_lt (tgt := 12) hx hb dX7_fitInto_7 (by decide) (fun _ => ?_) (fun h => absurd (by decide) h)
  refine lv_aload_n hx hb dX7_fitInto_12 rfl (lv_at hl 0 rfl) ?_
  refine va_get (D := (dC, dI)) (ci := 6) (v := .ref a2) (C := RX7) (T := TX7) (N := 5) hx hb hts inB_7 hown hK hP 0 rfl rfl 2 (by decide) (hts _ mw_1_129) (fun _ h9 => h9) rfl dX7_fitInto_13 ?_
  refine lv_iload_n hx hb dX7_fitInto_16 rfl (lv_at hl 2 rfl) ?_
  refine lv_bipush (v := (-6)) hx hb dX7_fitInto_17 (by decide) ?_
  refine va_iast hx hb hK hP hD hS 2 1 rfl rfl (show vp_in 0 8 by unfold vp_in; decide) dX7_fitInto_19 (fun H locs hP hD hS => ?_)
  rw [show upd (fun _ => 0) (Int32.toNatClampNeg 0) (-6) = (slF (-6) 0 1) from slF_u0 _ _] at hP hD
  have hP : va_P (dC, dI) vwCl [(h0, .inr (6, [w0, .ref a1, .ref a2, w3, w4])), (a1, .inl (ka1, 8, .inl (fun _ => 0))), (a2, .inl (ka2, 8, .inl (slF (-6) 0 1)))] H := hP
  have hD : va_D A [(h0, .inr (6, [w0, .ref a1, .ref a2, w3, w4])), (a1, .inl (ka1, 8, .inl (fun _ => 0))), (a2, .inl (ka2, 8, .inl (slF (-6) 0 1)))] := hD
  refine lv_aload_n hx hb dX7_fitInto_20 rfl (lv_at hl 0 rfl) ?_
  refine va_get (D := (dC, dI)) (ci := 6) (v := .ref a1) (C := RX7) (T := TX7) (N := 5) hx hb hts inB_7 hown hK hP 0 rfl rfl 1 (by decide) (hts _ mw_1_128) (fun _ h9 => h9) rfl dX7_fitInto_21 ?_
  refine lv_iload_n hx hb dX7_fitInto_24 rfl (lv_at hl 2 rfl) ?_
  refine va_iald hx hb hK hP 1 0 rfl rfl (show vp_in 0 8 by unfold vp_in; decide) dX7_fitInto_25 ?_
  refine hx_top (y := 0) rfl ?_
  refine lv_if_ne (tgt := 39) hx hb dX7_fitInto_26 (by decide) (fun h => absurd h (by decide)) (fun _ => ?_)
  refine lv_aload_n hx hb dX7_fitInto_29 rfl (lv_at hl 0 rfl) ?_
  refine lv_iload_n hx hb dX7_fitInto_30 rfl (lv_at hl 1 rfl) ?_
  refine lv_iload_n hx hb dX7_fitInto_31 rfl (lv_at hl 2 rfl) ?_
  refine lv_iconst (v := 1) hx hb dX7_fitInto_32 (by decide) ?_
  refine lv_iadd hx hb dX7_fitInto_33 ?_
  refine hx_top (y := 1) (by decide) ?_
  refine lv_iload_n hx hb dX7_fitInto_34 rfl (lv_at hl 3 rfl) ?_
  have hPc := hP.sub (ws' := [(h0, .inr (6, [w0, .ref a1, .ref a2, w3, w4])), (a1, .inl (ka1, 8, .inl (fun _ => 0))), (a2, .inl (ka2, 8, .inl (slF (-6) 0 1)))]) [0, 1, 2] rfl
  have hDc := hD.sub (ws' := [(h0, .inr (6, [w0, .ref a1, .ref a2, w3, w4])), (a1, .inl (ka1, 8, .inl (fun _ => 0))), (a2, .inl (ka2, 8, .inl (slF (-6) 0 1)))]) [0, 1, 2] (by decide) rfl
  have hKc := hK.sub (tys' := [(ka1, .int), (ka2, .int)]) [0, 1] rfl
  have hFc := va_free (wc := [(h0, .inr (6, [w0, .ref a1, .ref a2, w3, w4])), (a1, .inl (ka1, 8, .inl (fun _ => 0))), (a2, .inl (ka2, 8, .inl (slF (-6) 0 1)))]) hD hS hA [0, 1, 2] rfl
  refine va_calli (va_runV (As := [.int 0, .int 1, .int 0]) (rest := []) ⟨hx, hb, hml, hown, hts⟩ (c_fit1 l dC dI H.size h0 (w0) a1 a2 (w3) (w4) ka1 ka2) (cwV 3 hts (gV mw_3_26 mw_3_28 mw_0_7 mw_1_7 mw_3_29) rfl rfl rfl (by decide +kernel) ⟨Nat.le_of_ble_eq_true rfl, Nat.le_of_ble_eq_true rfl⟩) ⟨pcW_blind, va_recv hKc hPc (ci := 6) (q0 := 0) rfl rfl, pcW_at hPc hKc hDc hN⟩ rfl rfl hl.1 rfl (lv_room (Nat.le_of_ble_eq_true rfl)) dX7_fitInto_35 ⟨Nat.le_of_ble_eq_true rfl, Nat.le_of_ble_eq_true rfl⟩) hS (fun q _ h => hFc q h) hFc (fun r_1 u t H1 locs ht hvm hw_1 hB hz1 hk1 hS => ?_)
  obtain ⟨hP1, hK1, hD1⟩ := hB
  rw [ht] at hP1
  have hK1 := va_K.moved hvm.symm hK1
  obtain ⟨hP, hD⟩ := va_join (wr := []) (w1 := [(h0, .inr (6, [w0, .ref a1, .ref a2, w3, w4])), (a1, .inl (ka1, 8, .inl (fun _ => 0))), (a2, .inl (ka2, 8, .inl (slF (-6) 0 8)))]) hP hD [0, 1, 2] [] rfl rfl (by decide) (by decide) hk1 hFc hP1 hD1
  have hK := (hK.sub (tys' := []) [] rfl).app hK1
  clear hz1 hk1 hPc hDc hKc hFc
  generalize H1 = H at hP hS ⊢
  have hK : va_K (dC, dI) vwCl [(ka1, .int), (ka2, .int)] s := hK
  have hP : va_P (dC, dI) vwCl [(h0, .inr (6, [w0, .ref a1, .ref a2, w3, w4])), (a1, .inl (ka1, 8, .inl (fun _ => 0))), (a2, .inl (ka2, 8, .inl (slF (-6) 0 8)))] H := hP
  have hD : va_D A [(h0, .inr (6, [w0, .ref a1, .ref a2, w3, w4])), (a1, .inl (ka1, 8, .inl (fun _ => 0))), (a2, .inl (ka2, 8, .inl (slF (-6) 0 8)))] := hD
  obtain rfl : r_1 = 1 := hw_1
  exact W.zret (v := 1) hx hb hr (by decide) (fun t ht hW => ⟨⟨1, (), rfl, rfl, by rw [ht]; exact hP, va_K.moved hW.alike hK, hD⟩, hS.F ht⟩) hS.2.2 dX7_fitInto_38
set_option maxHeartbeats 4000000 in
set_option maxRecDepth 100000 in
theorem c_spread (l : Launch) (dC : Nat → ClassId) (dI : Nat → Nat → Nat) (sz : Nat) (h0 : Nat) (a0 : Nat) (a1 : Nat) (a2 : Nat) (w3 : Value) (w4 : Value) (ka0 : ClassId) (ka1 : ClassId) (ka2 : ClassId)  : Met l yX7_spread (wq yX7_spread cX7_spread 2 (some .int)) ({ frames := 9, cells := 0, slots := 0, locals := 216 }) (va_Pc [.ref h0] (pcW dC dI [(ka0, .int), (ka1, .int), (ka2, .int)] [(h0, .inr (6, [.ref a0, .ref a1, .ref a2, w3, w4])), (a0, .inl (ka0, 10, .inl (fun _ => 0))), (a1, .inl (ka1, 8, .inl (fun _ => 0))), (a2, .inl (ka2, 8, .inl (fun _ => 0)))] sz)) (va_Qi (fun (r : Int32) (_ : Unit) => r = 0) (fun _ t => va_P (dC, dI) vwCl [(a0, .inl (ka0, 10, .inl (fun _ => 0))), (h0, .inr (6, [.ref a0, .ref a1, .ref a2, w3, w4])), (a1, .inl (ka1, 8, .inl (fun _ => 0))), (a2, .inl (ka2, 8, .inl (slF (-6) 0 8)))] t.heap ∧ va_K (dC, dI) vwCl [(ka0, .int), (ka1, .int), (ka2, .int)] t ∧ va_D (va_A [(h0, .inr (6, [.ref a0, .ref a1, .ref a2, w3, w4])), (a0, .inl (ka0, 10, .inl (fun _ => 0))), (a1, .inl (ka1, 8, .inl (fun _ => 0))), (a2, .inl (ka2, 8, .inl (fun _ => 0)))] sz) [(a0, .inl (ka0, 10, .inl (fun _ => 0))), (h0, .inr (6, [.ref a0, .ref a1, .ref a2, w3, w4])), (a1, .inl (ka1, 8, .inl (fun _ => 0))), (a2, .inl (ka2, 8, .inl (slF (-6) 0 8)))]) (va_A [(h0, .inr (6, [.ref a0, .ref a1, .ref a2, w3, w4])), (a0, .inl (ka0, 10, .inl (fun _ => 0))), (a1, .inl (ka1, 8, .inl (fun _ => 0))), (a2, .inl (ka2, 8, .inl (fun _ => 0)))] sz)) 0 0 (va_A [(h0, .inr (6, [.ref a0, .ref a1, .ref a2, w3, w4])), (a0, .inl (ka0, 10, .inl (fun _ => 0))), (a1, .inl (ka1, 8, .inl (fun _ => 0))), (a2, .inl (ka2, 8, .inl (fun _ => 0)))] sz) := by
  refine Met.ofW (cc := cX7_spread) (maxL := 2) (ret := (some .int)) (by decide) rfl ?_
  intro p e s m args below meth c s₁ B hml hv
  obtain ⟨rfl, hsz, hN, hP, hK, hD0⟩ := hv
  have hx := B.exec
  have hb := B.bytes
  have hr := B.returns
  have hts0 := atoms_spec (ws := (wq yX7_spread cX7_spread 2 (some .int))) B.pre
  have hts : ∀ w ∈ BG, w.before _ s = true := fun w h => hts0 w (List.mem_cons_of_mem _ h)
  have hown : s.vm.findClass RX7 = some m.cls := findClass_of_methodNamed B.named
  have hlocks := B.notSynchronized
  subst hsz
  have hD := hD0.self (sz := s.heap.size)
  generalize hAe : va_A [(h0, .inr (6, [.ref a0, .ref a1, .ref a2, w3, w4])), (a0, .inl (ka0, 10, .inl (fun _ => 0))), (a1, .inl (ka1, 8, .inl (fun _ => 0))), (a2, .inl (ka2, 8, .inl (fun _ => 0)))] s.heap.size = A at hD ⊢
  have hA : ∀ q : Nat, s.heap.size ≤ q → A q := fun q h => by rw [← hAe]; exact Or.inr h
  have hS : va_S A s.heap s.heap [] := va_S.rf
  have hP : va_P (dC, dI) vwCl [(h0, .inr (6, [.ref a0, .ref a1, .ref a2, w3, w4])), (a0, .inl (ka0, 10, .inl (fun _ => 0))), (a1, .inl (ka1, 8, .inl (fun _ => 0))), (a2, .inl (ka2, 8, .inl (fun _ => 0)))] s.heap := hP
  have hl := lv_entry ([.ref h0]) (n := 2) (Nat.le_of_ble_eq_true rfl)
  rw [lg_entry_eq]
  generalize (lg_sl ([.ref h0]) ++ List.replicate (2 - (lg_sl ([.ref h0])).length) Slot.unset).toArray = ls at hl ⊢
  have hl : lv_has ls 2 [(0, .ref h0)] := hl
  skip
  refine lv_aload_n hx hb dX7_spread_0 rfl (lv_at hl 0 rfl) ?_
  have hPc := hP.sub (ws' := [(h0, .inr (6, [.ref a0, .ref a1, .ref a2, w3, w4])), (a0, .inl (ka0, 10, .inl (fun _ => 0))), (a1, .inl (ka1, 8, .inl (fun _ => 0)))]) [0, 1, 2] rfl
  have hDc := hD.sub (ws' := [(h0, .inr (6, [.ref a0, .ref a1, .ref a2, w3, w4])), (a0, .inl (ka0, 10, .inl (fun _ => 0))), (a1, .inl (ka1, 8, .inl (fun _ => 0)))]) [0, 1, 2] (by decide) rfl
  have hKc := hK.sub (tys' := [(ka0, .int), (ka1, .int)]) [0, 1] rfl
  have hFc := va_free (wc := [(h0, .inr (6, [.ref a0, .ref a1, .ref a2, w3, w4])), (a0, .inl (ka0, 10, .inl (fun _ => 0))), (a1, .inl (ka1, 8, .inl (fun _ => 0)))]) hD hS hA [0, 1, 2] rfl
  refine va_callv (va_runV (As := []) (rest := []) ⟨hx, hb, hml, hown, hts⟩ (c_findT l dC dI s.heap.size h0 a0 a1 (.ref a2) (w3) (w4) ka0 ka1) (cwV 0 hts (gV mw_3_21 mw_3_23 mw_0_6 mw_1_7 mw_3_24) rfl rfl rfl (by decide +kernel) ⟨Nat.le_of_ble_eq_true rfl, Nat.le_of_ble_eq_true rfl⟩) ⟨pcW_blind, va_recv hKc hPc (ci := 6) (q0 := 0) rfl rfl, pcW_at hPc hKc hDc hN⟩ rfl rfl hl.1 rfl (lv_room (Nat.le_of_ble_eq_true rfl)) dX7_spread_1 ⟨Nat.le_of_ble_eq_true rfl, Nat.le_of_ble_eq_true rfl⟩) hS (fun q _ h => hFc q h) hFc (fun u t H1 locs ht hvm hw_1 hB hz1 hk1 hS => ?_)
  obtain ⟨hP1, hK1, hD1⟩ := hB
  rw [ht] at hP1
  have hK1 := va_K.moved hvm.symm hK1
  obtain ⟨hP, hD⟩ := va_join (wr := [(a2, .inl (ka2, 8, .inl (fun _ => 0)))]) (w1 := [(h0, .inr (6, [.ref a0, .ref a1, .ref a2, w3, w4])), (a0, .inl (ka0, 10, .inl (fun _ => 0))), (a1, .inl (ka1, 8, .inl (fun _ => 0)))]) hP hD [0, 1, 2] [3] rfl rfl (by decide) (by decide) hk1 hFc hP1 hD1
  have hK := (hK.sub (tys' := [(ka2, .int)]) [2] rfl).app hK1
  clear hz1 hk1 hPc hDc hKc hFc
  generalize H1 = H at hP hS ⊢
  have hK : va_K (dC, dI) vwCl [(ka2, .int), (ka0, .int), (ka1, .int)] s := hK
  have hP : va_P (dC, dI) vwCl [(a2, .inl (ka2, 8, .inl (fun _ => 0))), (h0, .inr (6, [.ref a0, .ref a1, .ref a2, w3, w4])), (a0, .inl (ka0, 10, .inl (fun _ => 0))), (a1, .inl (ka1, 8, .inl (fun _ => 0)))] H := hP
  have hD : va_D A [(a2, .inl (ka2, 8, .inl (fun _ => 0))), (h0, .inr (6, [.ref a0, .ref a1, .ref a2, w3, w4])), (a0, .inl (ka0, 10, .inl (fun _ => 0))), (a1, .inl (ka1, 8, .inl (fun _ => 0)))] := hD
  refine lv_iconst (v := 0) hx hb dX7_spread_4 (by decide) ?_
  refine lv_istore_n (lv' := [(1, .int 0), (0, .ref h0)]) hx hb dX7_spread_5 rfl hl (by decide) rfl (fun ls hl => ?_)
  refine lv_iload_n hx hb dX7_spread_6 rfl (lv_at hl 0 rfl) ?_
  refine lv_bipush (v := 8) hx hb dX7_spread_7 (by decide) ?_
  refine lv_icmp_gt (tgt := 30) hx hb dX7_spread_9 (by decide) (fun h => absurd h (by decide)) (fun _ => ?_)
  refine lv_aload_n hx hb dX7_spread_12 rfl (lv_at hl 1 rfl) ?_
  refine lv_iload_n hx hb dX7_spread_13 rfl (lv_at hl 0 rfl) ?_
  refine lv_iconst (v := 0) hx hb dX7_spread_14 (by decide) ?_
  refine lv_iconst (v := 0) hx hb dX7_spread_15 (by decide) ?_
  have hPc := hP.sub (ws' := [(h0, .inr (6, [.ref a0, .ref a1, .ref a2, w3, w4])), (a1, .inl (ka1, 8, .inl (fun _ => 0))), (a2, .inl (ka2, 8, .inl (fun _ => 0)))]) [1, 3, 0] rfl
  have hDc := hD.sub (ws' := [(h0, .inr (6, [.ref a0, .ref a1, .ref a2, w3, w4])), (a1, .inl (ka1, 8, .inl (fun _ => 0))), (a2, .inl (ka2, 8, .inl (fun _ => 0)))]) [1, 3, 0] (by decide) rfl
  have hKc := hK.sub (tys' := [(ka1, .int), (ka2, .int)]) [2, 0] rfl
  have hFc := va_free (wc := [(h0, .inr (6, [.ref a0, .ref a1, .ref a2, w3, w4])), (a1, .inl (ka1, 8, .inl (fun _ => 0))), (a2, .inl (ka2, 8, .inl (fun _ => 0)))]) hD hS hA [1, 3, 0] rfl
  refine va_calli (va_runV (As := [.int 0, .int 0, .int 0]) (rest := []) ⟨hx, hb, hml, hown, hts⟩ (c_fit0 l dC dI H.size h0 (.ref a0) a1 a2 (w3) (w4) ka1 ka2) (cwV 3 hts (gV mw_3_26 mw_3_28 mw_0_7 mw_1_7 mw_3_29) rfl rfl rfl (by decide +kernel) ⟨Nat.le_of_ble_eq_true rfl, Nat.le_of_ble_eq_true rfl⟩) ⟨pcW_blind, va_recv hKc hPc (ci := 6) (q0 := 0) rfl rfl, pcW_at hPc hKc hDc hN⟩ rfl rfl hl.1 rfl (lv_room (Nat.le_of_ble_eq_true rfl)) dX7_spread_16 ⟨Nat.le_of_ble_eq_true rfl, Nat.le_of_ble_eq_true rfl⟩) hS (fun q _ h => hFc q h) hFc (fun r_2 u t H1 locs ht hvm hw_2 hB hz1 hk1 hS => ?_)
  obtain ⟨hP1, hK1, hD1⟩ := hB
  rw [ht] at hP1
  have hK1 := va_K.moved hvm.symm hK1
  obtain ⟨hP, hD⟩ := va_join (wr := [(a0, .inl (ka0, 10, .inl (fun _ => 0)))]) (w1 := [(h0, .inr (6, [.ref a0, .ref a1, .ref a2, w3, w4])), (a1, .inl (ka1, 8, .inl (fun _ => 0))), (a2, .inl (ka2, 8, .inl (slF (-6) 0 8)))]) hP hD [1, 3, 0] [2] rfl rfl (by decide) (by decide) hk1 hFc hP1 hD1
  have hK := (hK.sub (tys' := [(ka0, .int)]) [1] rfl).app hK1
  clear hz1 hk1 hPc hDc hKc hFc
  generalize H1 = H at hP hS ⊢
  have hK : va_K (dC, dI) vwCl [(ka0, .int), (ka1, .int), (ka2, .int)] s := hK
  have hP : va_P (dC, dI) vwCl [(a0, .inl (ka0, 10, .inl (fun _ => 0))), (h0, .inr (6, [.ref a0, .ref a1, .ref a2, w3, w4])), (a1, .inl (ka1, 8, .inl (fun _ => 0))), (a2, .inl (ka2, 8, .inl (slF (-6) 0 8)))] H := hP
  have hD : va_D A [(a0, .inl (ka0, 10, .inl (fun _ => 0))), (h0, .inr (6, [.ref a0, .ref a1, .ref a2, w3, w4])), (a1, .inl (ka1, 8, .inl (fun _ => 0))), (a2, .inl (ka2, 8, .inl (slF (-6) 0 8)))] := hD
  obtain rfl : r_2 = 1 := hw_2
  refine lv_if_eq (tgt := 24) hx hb dX7_spread_19 (by decide) (fun h => absurd h (by decide)) (fun _ => ?_)
  refine lv_iload_n hx hb dX7_spread_22 rfl (lv_at hl 0 rfl) ?_
  exact W.iret (v := 0) hx hb hr (fun t ht hW => ⟨⟨0, (), rfl, rfl, by rw [ht]; exact hP, va_K.moved hW.alike hK, hD⟩, hS.F ht⟩) hS.2.2 dX7_spread_23
set_option maxHeartbeats 4000000 in
set_option maxRecDepth 100000 in
theorem c_colOf (l : Launch) (dC : Nat → ClassId) (dI : Nat → Nat → Nat) (sz : Nat) (h0 : Nat) (w0 : Value) (w1 : Value) (a2 : Nat) (w3 : Value) (w4 : Value) (ka2 : ClassId) (n : Int32)  : Met l yX7_columnOf (wq yX7_columnOf cX7_columnOf 2 (some .int)) ({ frames := 1, cells := 0, slots := 0, locals := 20 }) (va_Pc [.ref h0, .int n] (pcW dC dI [(ka2, .int)] [(h0, .inr (6, [w0, w1, .ref a2, w3, w4])), (a2, .inl (ka2, 8, .inl (slF (-6) 0 8)))] sz)) (va_Qi (fun (r : Int32) (_ : Unit) => r = (-6)) (fun _ _ => True) (fun q : Nat => sz ≤ q)) 0 0 (fun q : Nat => sz ≤ q) := by
  refine Met.ofW (cc := cX7_columnOf) (maxL := 2) (ret := (some .int)) (by decide) rfl ?_
  intro p e s m args below meth c s₁ B hml hv
  obtain ⟨rfl, hsz, hN, hP, hK, hD0⟩ := hv
  have hx := B.exec
  have hb := B.bytes
  have hr := B.returns
  have hts0 := atoms_spec (ws := (wq yX7_columnOf cX7_columnOf 2 (some .int))) B.pre
  have hts : ∀ w ∈ BG, w.before _ s = true := fun w h => hts0 w (List.mem_cons_of_mem _ h)
  have hown : s.vm.findClass RX7 = some m.cls := findClass_of_methodNamed B.named
  have hlocks := B.notSynchronized
  subst hsz
  have hA : ∀ q : Nat, s.heap.size ≤ q → (fun q : Nat => s.heap.size ≤ q) q := fun _ h => h
  have hD := hD0
  have hS : va_S (fun q : Nat => s.heap.size ≤ q) s.heap s.heap [] := va_S.rf
  have hP : va_P (dC, dI) vwCl [(h0, .inr (6, [w0, w1, .ref a2, w3, w4])), (a2, .inl (ka2, 8, .inl (slF (-6) 0 8)))] s.heap := hP
  have hl := lv_entry ([.ref h0, .int n]) (n := 2) (Nat.le_of_ble_eq_true rfl)
  rw [lg_entry_eq]
  generalize (lg_sl ([.ref h0, .int n]) ++ List.replicate (2 - (lg_sl ([.ref h0, .int n])).length) Slot.unset).toArray = ls at hl ⊢
  have hl : lv_has ls 2 [(0, .ref h0), (1, .int n)] := hl
  skip
  refine lv_iload_n hx hb dX7_columnOf_0 rfl (lv_at hl 1 rfl) ?_
  have hPc := hP.sub (ws' := []) [] rfl
  have hDc := hD.sub (ws' := []) [] (by decide) rfl
  have hKc := hK.sub (tys' := []) [] rfl
  refine va_calli (va_runSN (As := [.int n]) (rest := []) ⟨hx, hb, hml, hown, hts⟩ (c_isName l dC dI s.heap.size n) ⟨va_cnB 1 hts (gN mw_2_99) rfl rfl rfl (hN (RX7, 50, yX8_isName, RX8) (List.mem_of_getElem? (i := 12) rfl)) (hts _ mw_1_1) (by decide +kernel) ⟨Nat.le_of_ble_eq_true rfl, Nat.le_of_ble_eq_true rfl⟩, (hts _ mw_2_98), trivial⟩ ⟨pcW_blind, pcW_at hPc hKc hDc hN⟩ rfl rfl hl.1 rfl (lv_room (Nat.le_of_ble_eq_true rfl)) dX7_columnOf_1 ⟨Nat.le_of_ble_eq_true rfl, Nat.le_of_ble_eq_true rfl⟩) hS (fun q h1 h2 => absurd h2 (Nat.not_le.mpr h1)) (fun q h => hA q (Nat.le_trans hS.1 h)) (fun r_1 u t H1 locs ht hvm hw_1 hB hz1 hk1 hS => ?_)
  have hP := keepP hP hk1
  clear hz1 hk1 hB ht hvm hPc hDc hKc
  generalize H1 = H at hP hS ⊢
  rcases fx_bool hw_1 with ⟨rfl, b_2⟩ | ⟨rfl, b_2⟩
  · skip
    refine lv_if_eq (tgt := 16) hx hb dX7_columnOf_4 (by decide) (fun h => absurd h (by decide)) (fun _ => ?_)
    refine lv_aload_n hx hb dX7_columnOf_7 rfl (lv_at hl 0 rfl) ?_
    refine va_get (D := (dC, dI)) (ci := 6) (v := .ref a2) (C := RX7) (T := TX7) (N := 5) hx hb hts inB_7 hown hK hP 0 rfl rfl 2 (by decide) (hts _ mw_1_129) (fun _ h9 => h9) rfl dX7_columnOf_8 ?_
    refine lv_iload_n hx hb dX7_columnOf_11 rfl (lv_at hl 1 rfl) ?_
    refine va_iald hx hb hK hP 1 0 rfl rfl (show vp_in n 8 from fx_in (by omega) (by omega)) dX7_columnOf_12 ?_
    refine hx_top (y := (-6)) (slF_in (fx_cl (by omega) (by omega))) ?_
    refine lv_goto (tgt := 18) hx hb dX7_columnOf_13 (by decide) ?_
    exact W.iret (v := (-6)) hx hb hr (fun t ht hW => ⟨⟨(-6), (), rfl, rfl, trivial⟩, hS.F ht⟩) hS.2.2 dX7_columnOf_18
  · skip
    refine lv_if_eq (tgt := 16) hx hb dX7_columnOf_4 (by decide) (fun _ => ?_) (fun h => absurd (by decide) h)
    refine lv_bipush (v := (-6)) hx hb dX7_columnOf_16 (by decide) ?_
    exact W.iret (v := (-6)) hx hb hr (fun t ht hW => ⟨⟨(-6), (), rfl, rfl, trivial⟩, hS.F ht⟩) hS.2.2 dX7_columnOf_18
