theorem mw_3_210 : Cond.fieldLink RX9 209 "AnswerLinesModel" "packedLong" "I" ∈ BG := mB (t3 (i := 210) (by decide +kernel)) (by decide +kernel)
theorem mw_3_208 : Cond.fieldLink RX9 68 "AnswerLinesModel" "slots" "[I" ∈ BG := mB (t3 (i := 208) (by decide +kernel)) (by decide +kernel)
theorem mw_4_229 : Cond.code yX9_pack cX9_pack 5 none ∈ BG := mB (t4 (i := 229) rfl) (by decide +kernel)
theorem mw_4_226 : Cond.methodLink RX9 215 yX9_pack ∈ BG := mB (t4 (i := 226) (by decide +kernel)) (by decide +kernel)
theorem mw_4_228 : Cond.instanceMethod yX9_pack ∈ BG := mB (t4 (i := 228) (by decide +kernel)) (by decide +kernel)
theorem mw_0_35 : Cond.selects RX9 yX9_pack yX9_pack ∈ BG := mB (t0 (i := 35) (by decide +kernel)) (by decide +kernel)
theorem mw_4_238 : Cond.constantLong RX9 218 (99) ∈ BG := mB (t4 (i := 238) (by decide +kernel)) (by decide +kernel)
theorem dX9_pack_0 : decode cX9_pack 0 = .ok (.aload_n 0, 1) := by decide +kernel
theorem dX9_pack_1 : decode cX9_pack 1 = .ok (.iconst 0, 1) := by decide +kernel
theorem dX9_pack_2 : decode cX9_pack 2 = .ok (.putfield 209, 3) := by decide +kernel
theorem dX9_pack_5 : decode cX9_pack 5 = .ok (.iconst 0, 1) := by decide +kernel
theorem dX9_pack_6 : decode cX9_pack 6 = .ok (.istore_n 1, 1) := by decide +kernel
theorem dX9_pack_7 : decode cX9_pack 7 = .ok (.iload_n 1, 1) := by decide +kernel
theorem dX9_pack_8 : decode cX9_pack 8 = .ok (.bipush 100, 2) := by decide +kernel
theorem dX9_pack_10 : decode cX9_pack 10 = .ok (.if_icmp .ge 17, 3) := by decide +kernel
theorem dX9_pack_27 : decode cX9_pack 27 = .ok (.iconst 0, 1) := by decide +kernel
theorem dX9_pack_28 : decode cX9_pack 28 = .ok (.istore_n 1, 1) := by decide +kernel
theorem dX9_pack_29 : decode cX9_pack 29 = .ok (.iload_n 1, 1) := by decide +kernel
theorem dX9_pack_30 : decode cX9_pack 30 = .ok (.aload_n 0, 1) := by decide +kernel
theorem dX9_pack_31 : decode cX9_pack 31 = .ok (.getfield 86, 3) := by decide +kernel
theorem dX9_pack_34 : decode cX9_pack 34 = .ok (.if_icmp .ge 134, 3) := by decide +kernel
theorem dX9_pack_168 : decode cX9_pack 168 = .ok (.return_, 1) := by decide +kernel
theorem dX9_pack_13 : decode cX9_pack 13 = .ok (.aload_n 0, 1) := by decide +kernel
theorem dX9_pack_14 : decode cX9_pack 14 = .ok (.getfield 68, 3) := by decide +kernel
theorem dX9_pack_17 : decode cX9_pack 17 = .ok (.iload_n 1, 1) := by decide +kernel
theorem dX9_pack_18 : decode cX9_pack 18 = .ok (.bipush (-6), 2) := by decide +kernel
theorem dX9_pack_20 : decode cX9_pack 20 = .ok (.iastore, 1) := by decide +kernel
theorem dX9_pack_21 : decode cX9_pack 21 = .ok (.iinc 1 1, 3) := by decide +kernel
theorem dX9_pack_24 : decode cX9_pack 24 = .ok (.goto (-17), 3) := by decide +kernel
theorem dX9_packed_0 : decode cX9_packed 0 = .ok (.iload_n 1, 1) := by decide +kernel
theorem dX9_packed_1 : decode cX9_packed 1 = .ok (.iconst (-1), 1) := by decide +kernel
theorem dX9_packed_2 : decode cX9_packed 2 = .ok (.if_icmp .eq 13, 3) := by decide +kernel
theorem dX9_packed_15 : decode cX9_packed 15 = .ok (.aload_n 0, 1) := by decide +kernel
theorem dX9_packed_16 : decode cX9_packed 16 = .ok (.invokevirtual 215, 3) := by decide +kernel
theorem dX9_packed_19 : decode cX9_packed 19 = .ok (.iload_n 1, 1) := by decide +kernel
theorem dX9_packed_20 : decode cX9_packed 20 = .ok (.iconst (-1), 1) := by decide +kernel
theorem dX9_packed_21 : decode cX9_packed 21 = .ok (.if_icmp .ne 10, 3) := by decide +kernel
theorem dX9_packed_24 : decode cX9_packed 24 = .ok (.aload_n 0, 1) := by decide +kernel
theorem dX9_packed_25 : decode cX9_packed 25 = .ok (.getfield 209, 3) := by decide +kernel
theorem dX9_packed_28 : decode cX9_packed 28 = .ok (.goto 9, 3) := by decide +kernel
theorem dX9_packed_37 : decode cX9_packed 37 = .ok (.ireturn, 1) := by decide +kernel
theorem dX9_packed_5 : decode cX9_packed 5 = .ok (.aload_n 0, 1) := by decide +kernel
theorem dX9_packed_6 : decode cX9_packed 6 = .ok (.iload_n 1, 1) := by decide +kernel
theorem dX9_packed_7 : decode cX9_packed 7 = .ok (.invokevirtual 96, 3) := by decide +kernel
theorem dX9_packed_10 : decode cX9_packed 10 = .ok (.ifCond .ne 5, 3) := by decide +kernel
theorem dX9_packed_13 : decode cX9_packed 13 = .ok (.iconst (-1), 1) := by decide +kernel
theorem dX9_packed_14 : decode cX9_packed 14 = .ok (.ireturn, 1) := by decide +kernel
theorem dX9_slot_0 : decode cX9_slot 0 = .ok (.iload_n 1, 1) := by decide +kernel
theorem dX9_slot_1 : decode cX9_slot 1 = .ok (.i2l, 1) := by decide +kernel
theorem dX9_slot_2 : decode cX9_slot 2 = .ok (.lconst 0, 1) := by decide +kernel
theorem dX9_slot_3 : decode cX9_slot 3 = .ok (.ldc2_w 218, 3) := by decide +kernel
theorem dX9_slot_6 : decode cX9_slot 6 = .ok (.invokestatic 90, 3) := by decide +kernel
theorem dX9_slot_9 : decode cX9_slot 9 = .ok (.ifCond .ne 6, 3) := by decide +kernel
theorem dX9_slot_15 : decode cX9_slot 15 = .ok (.aload_n 0, 1) := by decide +kernel
theorem dX9_slot_16 : decode cX9_slot 16 = .ok (.invokevirtual 215, 3) := by decide +kernel
theorem dX9_slot_19 : decode cX9_slot 19 = .ok (.aload_n 0, 1) := by decide +kernel
theorem dX9_slot_20 : decode cX9_slot 20 = .ok (.getfield 68, 3) := by decide +kernel
theorem dX9_slot_23 : decode cX9_slot 23 = .ok (.iload_n 1, 1) := by decide +kernel
theorem dX9_slot_24 : decode cX9_slot 24 = .ok (.iaload, 1) := by decide +kernel
theorem dX9_slot_25 : decode cX9_slot 25 = .ok (.ireturn, 1) := by decide +kernel
theorem dX9_slot_12 : decode cX9_slot 12 = .ok (.bipush (-2), 2) := by decide +kernel
theorem dX9_slot_14 : decode cX9_slot 14 = .ok (.ireturn, 1) := by decide +kernel
set_option maxHeartbeats 4000000 in
set_option maxRecDepth 100000 in
theorem m_pack (l : Launch) (dC : Nat → ClassId) (dI : Nat → Nat → Nat) (sz : Nat) (h0 : Nat) (w0 : Value) (w1 : Value) (w2 : Value) (w3 : Value) (w5 : Value) (w6 : Value) (w7 : Value) (w8 : Value) (w9 : Value) (w10 : Value) (w11 : Value) (w12 : Value) (w13 : Value) (w14 : Value) (w15 : Value) (w16 : Value) (w17 : Value) (w18 : Value) (w19 : Value) (w20 : Value) (w21 : Value) (w22 : Value) (w23 : Value) (w24 : Value) (w25 : Value) (f3 : Nat) (w27 : Value) (w29 : Value) (w30 : Value) (w31 : Value) (w32 : Value) (w33 : Value) (w34 : Value) (kf3 : ClassId)  : Met l yX9_pack (wq yX9_pack cX9_pack 5 none) ({ frames := 0, cells := 0, slots := 0, locals := 0 }) (va_Pc [.ref h0] (pcW dC dI [(kf3, .int)] [(h0, .inr (8, [w0, w1, w2, w3, .int 0, w5, w6, w7, w8, w9, w10, w11, w12, w13, w14, w15, w16, w17, w18, w19, w20, w21, w22, w23, w24, w25, .ref f3, w27, .int 0, w29, w30, w31, w32, w33, w34])), (f3, .inl (kf3, 100, .inl (fun _ => 0)))] sz)) (va_Qv (fun _ : Unit => True) (fun _ t => va_P (dC, dI) vwCl [(h0, .inr (8, [w0, w1, w2, w3, .int 0, w5, w6, w7, w8, w9, w10, w11, w12, w13, w14, w15, w16, w17, w18, w19, w20, w21, w22, w23, w24, w25, .ref f3, w27, .int 0, w29, w30, w31, w32, w33, w34])), (f3, .inl (kf3, 100, .inl (slF (-6) 0 100)))] t.heap ∧ va_K (dC, dI) vwCl [(kf3, .int)] t ∧ va_D (va_A [(h0, .inr (8, [w0, w1, w2, w3, .int 0, w5, w6, w7, w8, w9, w10, w11, w12, w13, w14, w15, w16, w17, w18, w19, w20, w21, w22, w23, w24, w25, .ref f3, w27, .int 0, w29, w30, w31, w32, w33, w34])), (f3, .inl (kf3, 100, .inl (fun _ => 0)))] sz) [(h0, .inr (8, [w0, w1, w2, w3, .int 0, w5, w6, w7, w8, w9, w10, w11, w12, w13, w14, w15, w16, w17, w18, w19, w20, w21, w22, w23, w24, w25, .ref f3, w27, .int 0, w29, w30, w31, w32, w33, w34])), (f3, .inl (kf3, 100, .inl (slF (-6) 0 100)))]) (va_A [(h0, .inr (8, [w0, w1, w2, w3, .int 0, w5, w6, w7, w8, w9, w10, w11, w12, w13, w14, w15, w16, w17, w18, w19, w20, w21, w22, w23, w24, w25, .ref f3, w27, .int 0, w29, w30, w31, w32, w33, w34])), (f3, .inl (kf3, 100, .inl (fun _ => 0)))] sz)) 0 0 (va_A [(h0, .inr (8, [w0, w1, w2, w3, .int 0, w5, w6, w7, w8, w9, w10, w11, w12, w13, w14, w15, w16, w17, w18, w19, w20, w21, w22, w23, w24, w25, .ref f3, w27, .int 0, w29, w30, w31, w32, w33, w34])), (f3, .inl (kf3, 100, .inl (fun _ => 0)))] sz) := by
  refine Met.ofW (cc := cX9_pack) (maxL := 5) (ret := none) (by decide) rfl ?_
  intro p e s m args below meth c s₁ B hml hv
  obtain ⟨rfl, hsz, hN, hP, hK, hD0⟩ := hv
  have hx := B.exec
  have hb := B.bytes
  have hr := B.returns
  have hts0 := atoms_spec (ws := (wq yX9_pack cX9_pack 5 none)) B.pre
  have hts : ∀ w ∈ BG, w.before _ s = true := fun w h => hts0 w (List.mem_cons_of_mem _ h)
  have hown : s.vm.findClass RX9 = some m.cls := findClass_of_methodNamed B.named
  have hlocks := B.notSynchronized
  subst hsz
  have hD := hD0.self (sz := s.heap.size)
  generalize hAe : va_A [(h0, .inr (8, [w0, w1, w2, w3, .int 0, w5, w6, w7, w8, w9, w10, w11, w12, w13, w14, w15, w16, w17, w18, w19, w20, w21, w22, w23, w24, w25, .ref f3, w27, .int 0, w29, w30, w31, w32, w33, w34])), (f3, .inl (kf3, 100, .inl (fun _ => 0)))] s.heap.size = A at hD ⊢
  have hA : ∀ q : Nat, s.heap.size ≤ q → A q := fun q h => by rw [← hAe]; exact Or.inr h
  have hS : va_S A s.heap s.heap [] := va_S.rf
  have hP : va_P (dC, dI) vwCl [(h0, .inr (8, [w0, w1, w2, w3, .int 0, w5, w6, w7, w8, w9, w10, w11, w12, w13, w14, w15, w16, w17, w18, w19, w20, w21, w22, w23, w24, w25, .ref f3, w27, .int 0, w29, w30, w31, w32, w33, w34])), (f3, .inl (kf3, 100, .inl (fun _ => 0)))] s.heap := hP
  have hl := lv_entry ([.ref h0]) (n := 5) (Nat.le_of_ble_eq_true rfl)
  rw [lg_entry_eq]
  generalize (lg_sl ([.ref h0]) ++ List.replicate (5 - (lg_sl ([.ref h0])).length) Slot.unset).toArray = ls at hl ⊢
  have hl : lv_has ls 5 [(0, .ref h0)] := hl
  skip
  refine lv_aload_n hx hb dX9_pack_0 rfl (lv_at hl 0 rfl) ?_
  refine lv_iconst (v := 0) hx hb dX9_pack_1 (by decide) ?_
  refine va_put (D := (dC, dI)) (ci := 8) (v := .int 0) (ty := .int) (C := RX9) (T := TX9) (N := 35) hx hb hts inB_9 tyX9 tyX9_ok nmX9 hown hK hP hD hS 0 rfl rfl 28 (by decide) (hts _ mw_3_210) (fun _ h9 => h9) rfl (by decide +kernel) rfl rfl (Nat.le_of_ble_eq_true rfl) dX9_pack_2 (fun H locs hP hD hS => ?_)
  have hP : va_P (dC, dI) vwCl [(h0, .inr (8, [w0, w1, w2, w3, .int 0, w5, w6, w7, w8, w9, w10, w11, w12, w13, w14, w15, w16, w17, w18, w19, w20, w21, w22, w23, w24, w25, .ref f3, w27, .int 0, w29, w30, w31, w32, w33, w34])), (f3, .inl (kf3, 100, .inl (fun _ => 0)))] H := hP
  have hD : va_D A [(h0, .inr (8, [w0, w1, w2, w3, .int 0, w5, w6, w7, w8, w9, w10, w11, w12, w13, w14, w15, w16, w17, w18, w19, w20, w21, w22, w23, w24, w25, .ref f3, w27, .int 0, w29, w30, w31, w32, w33, w34])), (f3, .inl (kf3, 100, .inl (fun _ => 0)))] := hD
  refine lv_iconst (v := 0) hx hb dX9_pack_5 (by decide) ?_
  refine lv_istore_n (lv' := [(1, .int 0), (0, .ref h0)]) hx hb dX9_pack_6 rfl hl (by decide) rfl (fun ls hl => ?_)
  have key_1 : ∀ (n : Nat) (k : Nat), k ≤ 100 → 100 - k < n → ∀ (H : Heap) (locs : List Loc), va_P (dC, dI) vwCl [(h0, .inr (8, [w0, w1, w2, w3, .int 0, w5, w6, w7, w8, w9, w10, w11, w12, w13, w14, w15, w16, w17, w18, w19, w20, w21, w22, w23, w24, w25, .ref f3, w27, .int 0, w29, w30, w31, w32, w33, w34])), (f3, .inl (kf3, 100, .inl (slF (-6) 0 k)))] H → va_D A [(h0, .inr (8, [w0, w1, w2, w3, .int 0, w5, w6, w7, w8, w9, w10, w11, w12, w13, w14, w15, w16, w17, w18, w19, w20, w21, w22, w23, w24, w25, .ref f3, w27, .int 0, w29, w30, w31, w32, w33, w34])), (f3, .inl (kf3, 100, .inl (slF (-6) 0 k)))] → va_S A s.heap H locs → ∀ (ls : Array Slot), lv_has ls 5 [(1, .int (nI k)), (0, .ref h0)] → W p l e (headSpec (wq yX9_pack cX9_pack 5 none) ({ frames := 0, cells := 0, slots := 0, locals := 0 })).room s m (([.ref h0] : List Value)).toArray below meth c H locs 0 0 (MQ below (va_Qv (fun _ : Unit => True) (fun _ t => va_P (dC, dI) vwCl [(h0, .inr (8, [w0, w1, w2, w3, .int 0, w5, w6, w7, w8, w9, w10, w11, w12, w13, w14, w15, w16, w17, w18, w19, w20, w21, w22, w23, w24, w25, .ref f3, w27, .int 0, w29, w30, w31, w32, w33, w34])), (f3, .inl (kf3, 100, .inl (slF (-6) 0 100)))] t.heap ∧ va_K (dC, dI) vwCl [(kf3, .int)] t ∧ va_D A [(h0, .inr (8, [w0, w1, w2, w3, .int 0, w5, w6, w7, w8, w9, w10, w11, w12, w13, w14, w15, w16, w17, w18, w19, w20, w21, w22, w23, w24, w25, .ref f3, w27, .int 0, w29, w30, w31, w32, w33, w34])), (f3, .inl (kf3, 100, .inl (slF (-6) 0 100)))]) A) (([.ref h0] : List Value)).toArray s 0 0 A) (F0 m 7 ls []) := by
    intro n
    induction n with
    | zero => intro k hk hme; exact absurd hme (Nat.not_lt_zero _)
    | succ n ih_2 =>
      intro k hk hme H locs hP hD hS ls hl
      refine lv_iload_n hx hb dX9_pack_7 rfl (lv_at hl 0 rfl) ?_
      refine lv_bipush (v := 100) hx hb dX9_pack_8 (by decide) ?_
      refine lv_icmp_ge (tgt := 27) hx hb dX9_pack_10 (by decide) (fun c_3 => ?_) (fun c_3 => ?_)
      · have b_4 : k ≥ 100 := nz_ge (by omega) (by omega) c_3
        obtain rfl : k = 100 := by omega
        refine lv_iconst (v := 0) hx hb dX9_pack_27 (by decide) ?_
        refine lv_istore_n (lv' := [(1, .int 0), (0, .ref h0)]) hx hb dX9_pack_28 rfl hl (by decide) rfl (fun ls hl => ?_)
        refine lv_iload_n hx hb dX9_pack_29 rfl (lv_at hl 0 rfl) ?_
        refine lv_aload_n hx hb dX9_pack_30 rfl (lv_at hl 1 rfl) ?_
        refine va_get (D := (dC, dI)) (ci := 8) (v := .int 0) (C := RX9) (T := TX9) (N := 35) hx hb hts inB_9 hown hK hP 0 rfl rfl 4 (by decide) (hts _ mw_3_186) (fun _ h9 => h9) rfl dX9_pack_31 ?_
        refine lv_icmp_ge (tgt := 168) hx hb dX9_pack_34 (by decide) (fun _ => ?_) (fun h => absurd (by decide) h)
        exact W.vret hx hb hr (fun t ht hW => ⟨⟨(), rfl, trivial, by rw [ht]; exact hP, va_K.moved hW.alike hK, hD⟩, hS.F ht⟩) hS.2.2 dX9_pack_168
      · have b_4 : ¬ (k ≥ 100) := nz_gen (by omega) (by omega) c_3
        refine lv_aload_n hx hb dX9_pack_13 rfl (lv_at hl 1 rfl) ?_
        refine va_get (D := (dC, dI)) (ci := 8) (v := .ref f3) (C := RX9) (T := TX9) (N := 35) hx hb hts inB_9 hown hK hP 0 rfl rfl 26 (by decide) (hts _ mw_3_208) (fun _ h9 => h9) rfl dX9_pack_14 ?_
        refine lv_iload_n hx hb dX9_pack_17 rfl (lv_at hl 0 rfl) ?_
        refine lv_bipush (v := (-6)) hx hb dX9_pack_18 (by decide) ?_
        refine va_iast hx hb hK hP hD hS 1 0 rfl rfl (show vp_in (nI k) 100 from vp_in_nI (by omega) (by omega)) dX9_pack_20 (fun H locs hP hD hS => ?_)
        rw [show upd (slF (-6) 0 k) (Int32.toNatClampNeg (nI k)) (-6) = (slF (-6) 0 (k + 1)) from slF_n (by omega)] at hP hD
        have hP : va_P (dC, dI) vwCl [(h0, .inr (8, [w0, w1, w2, w3, .int 0, w5, w6, w7, w8, w9, w10, w11, w12, w13, w14, w15, w16, w17, w18, w19, w20, w21, w22, w23, w24, w25, .ref f3, w27, .int 0, w29, w30, w31, w32, w33, w34])), (f3, .inl (kf3, 100, .inl (slF (-6) 0 (k + 1))))] H := hP
        have hD : va_D A [(h0, .inr (8, [w0, w1, w2, w3, .int 0, w5, w6, w7, w8, w9, w10, w11, w12, w13, w14, w15, w16, w17, w18, w19, w20, w21, w22, w23, w24, w25, .ref f3, w27, .int 0, w29, w30, w31, w32, w33, w34])), (f3, .inl (kf3, 100, .inl (slF (-6) 0 (k + 1))))] := hD
        refine lv_iinc (v := (nI (k + 1))) (lv' := [(1, .int (nI (k + 1))), (0, .ref h0)]) hx hb dX9_pack_21 hl (k := 0) rfl (nI_1 _) (by decide) rfl (fun ls hl => ?_)
        refine lv_goto (tgt := 7) hx hb dX9_pack_24 (by decide) ?_
        exact ih_2 (k + 1) (by omega) (by omega) _ _ (by exact hP) (by exact hD) hS ls (by exact lv_sub hl [0, 1] rfl)
  exact key_1 ((100 - 0) + 1) (0) (by omega) (Nat.lt_succ_self _) _ _ (by rw [slF_0]; exact hP) (by rw [slF_0]; exact hD) hS ls (lv_sub hl [0, 1] rfl)
set_option maxHeartbeats 4000000 in
set_option maxRecDepth 100000 in
theorem m_packed (l : Launch) (dC : Nat → ClassId) (dI : Nat → Nat → Nat) (sz : Nat) (h0 : Nat) (w0 : Value) (w1 : Value) (w2 : Value) (w3 : Value) (w5 : Value) (w6 : Value) (w7 : Value) (w8 : Value) (w9 : Value) (w10 : Value) (w11 : Value) (w12 : Value) (w13 : Value) (w14 : Value) (w15 : Value) (w16 : Value) (w17 : Value) (w18 : Value) (w19 : Value) (w20 : Value) (w21 : Value) (w22 : Value) (w23 : Value) (w24 : Value) (w25 : Value) (f3 : Nat) (w27 : Value) (w29 : Value) (w30 : Value) (w31 : Value) (w32 : Value) (w33 : Value) (w34 : Value) (kf3 : ClassId) (n1 : Int32)  : Met l yX9_packed (wq yX9_packed cX9_packed 2 (some .int)) ({ frames := 2, cells := 0, slots := 0, locals := 46 }) (va_Pc [.ref h0, .int n1] (pcW dC dI [(kf3, .int)] [(h0, .inr (8, [w0, w1, w2, w3, .int 0, w5, w6, w7, w8, w9, w10, w11, w12, w13, w14, w15, w16, w17, w18, w19, w20, w21, w22, w23, w24, w25, .ref f3, w27, .int 0, w29, w30, w31, w32, w33, w34])), (f3, .inl (kf3, 100, .inl (fun _ => 0)))] sz)) (va_Qi (fun (r : Int32) (_ : Unit) => r = F_packed n1) (fun _ _ => True) (va_A [(h0, .inr (8, [w0, w1, w2, w3, .int 0, w5, w6, w7, w8, w9, w10, w11, w12, w13, w14, w15, w16, w17, w18, w19, w20, w21, w22, w23, w24, w25, .ref f3, w27, .int 0, w29, w30, w31, w32, w33, w34])), (f3, .inl (kf3, 100, .inl (fun _ => 0)))] sz)) 0 0 (va_A [(h0, .inr (8, [w0, w1, w2, w3, .int 0, w5, w6, w7, w8, w9, w10, w11, w12, w13, w14, w15, w16, w17, w18, w19, w20, w21, w22, w23, w24, w25, .ref f3, w27, .int 0, w29, w30, w31, w32, w33, w34])), (f3, .inl (kf3, 100, .inl (fun _ => 0)))] sz) := by
  refine Met.ofW (cc := cX9_packed) (maxL := 2) (ret := (some .int)) (by decide) rfl ?_
  intro p e s m args below meth c s₁ B hml hv
  obtain ⟨rfl, hsz, hN, hP, hK, hD0⟩ := hv
  have hx := B.exec
  have hb := B.bytes
  have hr := B.returns
  have hts0 := atoms_spec (ws := (wq yX9_packed cX9_packed 2 (some .int))) B.pre
  have hts : ∀ w ∈ BG, w.before _ s = true := fun w h => hts0 w (List.mem_cons_of_mem _ h)
  have hown : s.vm.findClass RX9 = some m.cls := findClass_of_methodNamed B.named
  have hlocks := B.notSynchronized
  subst hsz
  have hD := hD0.self (sz := s.heap.size)
  generalize hAe : va_A [(h0, .inr (8, [w0, w1, w2, w3, .int 0, w5, w6, w7, w8, w9, w10, w11, w12, w13, w14, w15, w16, w17, w18, w19, w20, w21, w22, w23, w24, w25, .ref f3, w27, .int 0, w29, w30, w31, w32, w33, w34])), (f3, .inl (kf3, 100, .inl (fun _ => 0)))] s.heap.size = A at hD ⊢
  have hA : ∀ q : Nat, s.heap.size ≤ q → A q := fun q h => by rw [← hAe]; exact Or.inr h
  have hS : va_S A s.heap s.heap [] := va_S.rf
  have hP : va_P (dC, dI) vwCl [(h0, .inr (8, [w0, w1, w2, w3, .int 0, w5, w6, w7, w8, w9, w10, w11, w12, w13, w14, w15, w16, w17, w18, w19, w20, w21, w22, w23, w24, w25, .ref f3, w27, .int 0, w29, w30, w31, w32, w33, w34])), (f3, .inl (kf3, 100, .inl (fun _ => 0)))] s.heap := hP
  have hl := lv_entry ([.ref h0, .int n1]) (n := 2) (Nat.le_of_ble_eq_true rfl)
  rw [lg_entry_eq]
  generalize (lg_sl ([.ref h0, .int n1]) ++ List.replicate (2 - (lg_sl ([.ref h0, .int n1])).length) Slot.unset).toArray = ls at hl ⊢
  have hl : lv_has ls 2 [(0, .ref h0), (1, .int n1)] := hl
  skip
  refine lv_iload_n hx hb dX9_packed_0 rfl (lv_at hl 1 rfl) ?_
  refine lv_iconst (v := (-1)) hx hb dX9_packed_1 (by decide) ?_
  refine lv_icmp_eq (tgt := 15) hx hb dX9_packed_2 (by decide) (fun c_1 => ?_) (fun c_1 => ?_)
  · have b_2 := fx_eq (x := n1) (C := -1) (by decide) c_1
    refine lv_aload_n hx hb dX9_packed_15 rfl (lv_at hl 0 rfl) ?_
    have hPc := hP.sub (ws' := [(h0, .inr (8, [w0, w1, w2, w3, .int 0, w5, w6, w7, w8, w9, w10, w11, w12, w13, w14, w15, w16, w17, w18, w19, w20, w21, w22, w23, w24, w25, .ref f3, w27, .int 0, w29, w30, w31, w32, w33, w34])), (f3, .inl (kf3, 100, .inl (fun _ => 0)))]) [0, 1] rfl
    have hDc := hD.sub (ws' := [(h0, .inr (8, [w0, w1, w2, w3, .int 0, w5, w6, w7, w8, w9, w10, w11, w12, w13, w14, w15, w16, w17, w18, w19, w20, w21, w22, w23, w24, w25, .ref f3, w27, .int 0, w29, w30, w31, w32, w33, w34])), (f3, .inl (kf3, 100, .inl (fun _ => 0)))]) [0, 1] (by decide) rfl
    have hKc := hK.sub (tys' := [(kf3, .int)]) [0] rfl
    have hFc := va_free (wc := [(h0, .inr (8, [w0, w1, w2, w3, .int 0, w5, w6, w7, w8, w9, w10, w11, w12, w13, w14, w15, w16, w17, w18, w19, w20, w21, w22, w23, w24, w25, .ref f3, w27, .int 0, w29, w30, w31, w32, w33, w34])), (f3, .inl (kf3, 100, .inl (fun _ => 0)))]) hD hS hA [0, 1] rfl
    refine va_callv (va_runV (As := []) (rest := []) ⟨hx, hb, hml, hown, hts⟩ (m_pack l dC dI s.heap.size h0 (w0) (w1) (w2) (w3) (w5) (w6) (w7) (w8) (w9) (w10) (w11) (w12) (w13) (w14) (w15) (w16) (w17) (w18) (w19) (w20) (w21) (w22) (w23) (w24) (w25) f3 (w27) (w29) (w30) (w31) (w32) (w33) (w34) kf3) (cwV 0 hts (gV mw_4_226 mw_4_228 mw_0_35 mw_1_9 mw_4_229) rfl rfl rfl (by decide +kernel) ⟨Nat.le_of_ble_eq_true rfl, Nat.le_of_ble_eq_true rfl⟩) ⟨pcW_blind, va_recv hKc hPc (ci := 8) (q0 := 0) rfl rfl, pcW_at hPc hKc hDc hN⟩ rfl rfl hl.1 rfl (lv_room (Nat.le_of_ble_eq_true rfl)) dX9_packed_16 ⟨Nat.le_of_ble_eq_true rfl, Nat.le_of_ble_eq_true rfl⟩) hS (fun q _ h => hFc q h) hFc (fun u t H1 locs ht hvm hw_3 hB hz1 hk1 hS => ?_)
    obtain ⟨hP1, hK1, hD1⟩ := hB
    rw [ht] at hP1
    have hK1 := va_K.moved hvm.symm hK1
    obtain ⟨hP, hD⟩ := va_join (wr := []) (w1 := [(h0, .inr (8, [w0, w1, w2, w3, .int 0, w5, w6, w7, w8, w9, w10, w11, w12, w13, w14, w15, w16, w17, w18, w19, w20, w21, w22, w23, w24, w25, .ref f3, w27, .int 0, w29, w30, w31, w32, w33, w34])), (f3, .inl (kf3, 100, .inl (slF (-6) 0 100)))]) hP hD [0, 1] [] rfl rfl (by decide) (by decide) hk1 hFc hP1 hD1
    have hK := (hK.sub (tys' := []) [] rfl).app hK1
    clear hz1 hk1 hPc hDc hKc hFc
    generalize H1 = H at hP hS ⊢
    have hK : va_K (dC, dI) vwCl [(kf3, .int)] s := hK
    have hP : va_P (dC, dI) vwCl [(h0, .inr (8, [w0, w1, w2, w3, .int 0, w5, w6, w7, w8, w9, w10, w11, w12, w13, w14, w15, w16, w17, w18, w19, w20, w21, w22, w23, w24, w25, .ref f3, w27, .int 0, w29, w30, w31, w32, w33, w34])), (f3, .inl (kf3, 100, .inl (slF (-6) 0 100)))] H := hP
    have hD : va_D A [(h0, .inr (8, [w0, w1, w2, w3, .int 0, w5, w6, w7, w8, w9, w10, w11, w12, w13, w14, w15, w16, w17, w18, w19, w20, w21, w22, w23, w24, w25, .ref f3, w27, .int 0, w29, w30, w31, w32, w33, w34])), (f3, .inl (kf3, 100, .inl (slF (-6) 0 100)))] := hD
    refine lv_iload_n hx hb dX9_packed_19 rfl (lv_at hl 1 rfl) ?_
    refine hx_top (y := (-1)) (fx_sing (C := -1) (by decide) (by omega)) ?_
    refine lv_iconst (v := (-1)) hx hb dX9_packed_20 (by decide) ?_
    refine lv_icmp_ne (tgt := 31) hx hb dX9_packed_21 (by decide) (fun h => absurd h (by decide)) (fun _ => ?_)
    refine lv_aload_n hx hb dX9_packed_24 rfl (lv_at hl 0 rfl) ?_
    refine va_get (D := (dC, dI)) (ci := 8) (v := .int 0) (C := RX9) (T := TX9) (N := 35) hx hb hts inB_9 hown hK hP 0 rfl rfl 28 (by decide) (hts _ mw_3_210) (fun _ h9 => h9) rfl dX9_packed_25 ?_
    refine lv_goto (tgt := 37) hx hb dX9_packed_28 (by decide) ?_
    exact W.iret (v := 0) hx hb hr (fun t ht hW => ⟨⟨0, (), rfl, (by (unfold F_packed; repeat' split) <;> first | rfl | (exfalso; omega)), trivial⟩, hS.F ht⟩) hS.2.2 dX9_packed_37
  · have b_2 := fn_eq (x := n1) (C := -1) (by decide) c_1
    refine lv_aload_n hx hb dX9_packed_5 rfl (lv_at hl 0 rfl) ?_
    refine lv_iload_n hx hb dX9_packed_6 rfl (lv_at hl 1 rfl) ?_
    have hPc := hP.sub (ws' := [(h0, .inr (8, [w0, w1, w2, w3, .int 0, w5, w6, w7, w8, w9, w10, w11, w12, w13, w14, w15, w16, w17, w18, w19, w20, w21, w22, w23, w24, w25, .ref f3, w27, .int 0, w29, w30, w31, w32, w33, w34]))]) [0] rfl
    have hDc := hD.sub (ws' := [(h0, .inr (8, [w0, w1, w2, w3, .int 0, w5, w6, w7, w8, w9, w10, w11, w12, w13, w14, w15, w16, w17, w18, w19, w20, w21, w22, w23, w24, w25, .ref f3, w27, .int 0, w29, w30, w31, w32, w33, w34]))]) [0] (by decide) rfl
    have hKc := hK.sub (tys' := []) [] rfl
    refine va_calli (va_runV (As := [.int n1]) (rest := []) ⟨hx, hb, hml, hown, hts⟩ (m_isKind l dC dI s.heap.size h0 (w0) (w1) (w2) (w3) (w5) (w6) (w7) (w8) (w9) (w10) (w11) (w12) (w13) (w14) (w15) (w16) (w17) (w18) (w19) (w20) (w21) (w22) (w23) (w24) (w25) (.ref f3) (w27) (.int 0) (w29) (w30) (w31) (w32) (w33) (w34) n1) (cwV 1 hts (gV mw_4_53 mw_4_55 mw_0_15 mw_1_9 mw_4_56) rfl rfl rfl (by decide +kernel) ⟨Nat.le_of_ble_eq_true rfl, Nat.le_of_ble_eq_true rfl⟩) ⟨pcW_blind, va_recv hKc hPc (ci := 8) (q0 := 0) rfl rfl, pcW_at hPc hKc hDc hN⟩ rfl rfl hl.1 rfl (lv_room (Nat.le_of_ble_eq_true rfl)) dX9_packed_7 ⟨Nat.le_of_ble_eq_true rfl, Nat.le_of_ble_eq_true rfl⟩) hS (fun q h1 h2 => absurd h2 (Nat.not_le.mpr h1)) (fun q h => hA q (Nat.le_trans hS.1 h)) (fun r_4 u t H1 locs ht hvm hw_4 hB hz1 hk1 hS => ?_)
    have hP := keepP hP hk1
    clear hz1 hk1 hB ht hvm hPc hDc hKc
    generalize H1 = H at hP hS ⊢
    obtain rfl : r_4 = 0 := hw_4
    refine lv_if_ne (tgt := 15) hx hb dX9_packed_10 (by decide) (fun h => absurd h (by decide)) (fun _ => ?_)
    refine lv_iconst (v := (-1)) hx hb dX9_packed_13 (by decide) ?_
    exact W.iret (v := (-1)) hx hb hr (fun t ht hW => ⟨⟨(-1), (), rfl, (by (unfold F_packed; repeat' split) <;> first | rfl | (exfalso; omega)), trivial⟩, hS.F ht⟩) hS.2.2 dX9_packed_14
set_option maxHeartbeats 4000000 in
set_option maxRecDepth 100000 in
theorem m_slot (l : Launch) (dC : Nat → ClassId) (dI : Nat → Nat → Nat) (sz : Nat) (h0 : Nat) (w0 : Value) (w1 : Value) (w2 : Value) (w3 : Value) (w5 : Value) (w6 : Value) (w7 : Value) (w8 : Value) (w9 : Value) (w10 : Value) (w11 : Value) (w12 : Value) (w13 : Value) (w14 : Value) (w15 : Value) (w16 : Value) (w17 : Value) (w18 : Value) (w19 : Value) (w20 : Value) (w21 : Value) (w22 : Value) (w23 : Value) (w24 : Value) (w25 : Value) (f3 : Nat) (w27 : Value) (w29 : Value) (w30 : Value) (w31 : Value) (w32 : Value) (w33 : Value) (w34 : Value) (kf3 : ClassId) (n1 : Int32)  : Met l yX9_slot (wq yX9_slot cX9_slot 2 (some .int)) ({ frames := 1, cells := 0, slots := 0, locals := 25 }) (va_Pc [.ref h0, .int n1] (pcW dC dI [(kf3, .int)] [(h0, .inr (8, [w0, w1, w2, w3, .int 0, w5, w6, w7, w8, w9, w10, w11, w12, w13, w14, w15, w16, w17, w18, w19, w20, w21, w22, w23, w24, w25, .ref f3, w27, .int 0, w29, w30, w31, w32, w33, w34])), (f3, .inl (kf3, 100, .inl (fun _ => 0)))] sz)) (va_Qi (fun (r : Int32) (_ : Unit) => r = F_slot n1) (fun _ _ => True) (va_A [(h0, .inr (8, [w0, w1, w2, w3, .int 0, w5, w6, w7, w8, w9, w10, w11, w12, w13, w14, w15, w16, w17, w18, w19, w20, w21, w22, w23, w24, w25, .ref f3, w27, .int 0, w29, w30, w31, w32, w33, w34])), (f3, .inl (kf3, 100, .inl (fun _ => 0)))] sz)) 0 0 (va_A [(h0, .inr (8, [w0, w1, w2, w3, .int 0, w5, w6, w7, w8, w9, w10, w11, w12, w13, w14, w15, w16, w17, w18, w19, w20, w21, w22, w23, w24, w25, .ref f3, w27, .int 0, w29, w30, w31, w32, w33, w34])), (f3, .inl (kf3, 100, .inl (fun _ => 0)))] sz) := by
  refine Met.ofW (cc := cX9_slot) (maxL := 2) (ret := (some .int)) (by decide) rfl ?_
  intro p e s m args below meth c s₁ B hml hv
  obtain ⟨rfl, hsz, hN, hP, hK, hD0⟩ := hv
  have hx := B.exec
  have hb := B.bytes
  have hr := B.returns
  have hts0 := atoms_spec (ws := (wq yX9_slot cX9_slot 2 (some .int))) B.pre
  have hts : ∀ w ∈ BG, w.before _ s = true := fun w h => hts0 w (List.mem_cons_of_mem _ h)
  have hown : s.vm.findClass RX9 = some m.cls := findClass_of_methodNamed B.named
  have hlocks := B.notSynchronized
  subst hsz
  have hD := hD0.self (sz := s.heap.size)
  generalize hAe : va_A [(h0, .inr (8, [w0, w1, w2, w3, .int 0, w5, w6, w7, w8, w9, w10, w11, w12, w13, w14, w15, w16, w17, w18, w19, w20, w21, w22, w23, w24, w25, .ref f3, w27, .int 0, w29, w30, w31, w32, w33, w34])), (f3, .inl (kf3, 100, .inl (fun _ => 0)))] s.heap.size = A at hD ⊢
  have hA : ∀ q : Nat, s.heap.size ≤ q → A q := fun q h => by rw [← hAe]; exact Or.inr h
  have hS : va_S A s.heap s.heap [] := va_S.rf
  have hP : va_P (dC, dI) vwCl [(h0, .inr (8, [w0, w1, w2, w3, .int 0, w5, w6, w7, w8, w9, w10, w11, w12, w13, w14, w15, w16, w17, w18, w19, w20, w21, w22, w23, w24, w25, .ref f3, w27, .int 0, w29, w30, w31, w32, w33, w34])), (f3, .inl (kf3, 100, .inl (fun _ => 0)))] s.heap := hP
  have hl := lv_entry ([.ref h0, .int n1]) (n := 2) (Nat.le_of_ble_eq_true rfl)
  rw [lg_entry_eq]
  generalize (lg_sl ([.ref h0, .int n1]) ++ List.replicate (2 - (lg_sl ([.ref h0, .int n1])).length) Slot.unset).toArray = ls at hl ⊢
  have hl : lv_has ls 2 [(0, .ref h0), (1, .int n1)] := hl
  skip
  refine lv_iload_n hx hb dX9_slot_0 rfl (lv_at hl 1 rfl) ?_
  refine lv_i2l hx hb dX9_slot_1 rfl ?_
  refine lv_lconst (v := Int32.toInt64 0) hx hb dX9_slot_2 (by decide) ?_
  refine lv_ldc2 (v := Int32.toInt64 99) hx hb hown (show (Cond.constantLong RX9 218 (Int32.toInt64 99)).before _ s = true from (hts _ mw_4_238)) dX9_slot_3 ?_
  have hPc := hP.sub (ws' := []) [] rfl
  have hDc := hD.sub (ws' := []) [] (by decide) rfl
  have hKc := hK.sub (tys' := []) [] rfl
  refine va_calli (va_runS (As := [.long (Int32.toInt64 n1), .long (Int32.toInt64 0), .long (Int32.toInt64 99)]) (rest := []) ⟨hx, hb, hml, hown, hts⟩ (m_in l dC dI s.heap.size n1 0 99 0 99 (by decide) (by decide)) (va_cwS 3 hts (gS mw_4_57 mw_4_58 mw_1_9 mw_4_59) rfl rfl rfl (by decide +kernel) ⟨Nat.le_of_ble_eq_true rfl, Nat.le_of_ble_eq_true rfl⟩) ⟨pcW_blind, pcW_at hPc hKc hDc hN⟩ rfl rfl hl.1 rfl (lv_room (Nat.le_of_ble_eq_true rfl)) dX9_slot_6 ⟨Nat.le_of_ble_eq_true rfl, Nat.le_of_ble_eq_true rfl⟩) hS (fun q h1 h2 => absurd h2 (Nat.not_le.mpr h1)) (fun q h => hA q (Nat.le_trans hS.1 h)) (fun r_1 u t H1 locs ht hvm hw_1 hB hz1 hk1 hS => ?_)
  have hP := keepP hP hk1
  clear hz1 hk1 hB ht hvm hPc hDc hKc
  generalize H1 = H at hP hS ⊢
  rcases fx_bool hw_1 with ⟨rfl, b_2⟩ | ⟨rfl, b_2⟩
  · skip
    refine lv_if_ne (tgt := 15) hx hb dX9_slot_9 (by decide) (fun _ => ?_) (fun h => absurd h (by decide))
    refine lv_aload_n hx hb dX9_slot_15 rfl (lv_at hl 0 rfl) ?_
    have hPc := hP.sub (ws' := [(h0, .inr (8, [w0, w1, w2, w3, .int 0, w5, w6, w7, w8, w9, w10, w11, w12, w13, w14, w15, w16, w17, w18, w19, w20, w21, w22, w23, w24, w25, .ref f3, w27, .int 0, w29, w30, w31, w32, w33, w34])), (f3, .inl (kf3, 100, .inl (fun _ => 0)))]) [0, 1] rfl
    have hDc := hD.sub (ws' := [(h0, .inr (8, [w0, w1, w2, w3, .int 0, w5, w6, w7, w8, w9, w10, w11, w12, w13, w14, w15, w16, w17, w18, w19, w20, w21, w22, w23, w24, w25, .ref f3, w27, .int 0, w29, w30, w31, w32, w33, w34])), (f3, .inl (kf3, 100, .inl (fun _ => 0)))]) [0, 1] (by decide) rfl
    have hKc := hK.sub (tys' := [(kf3, .int)]) [0] rfl
    have hFc := va_free (wc := [(h0, .inr (8, [w0, w1, w2, w3, .int 0, w5, w6, w7, w8, w9, w10, w11, w12, w13, w14, w15, w16, w17, w18, w19, w20, w21, w22, w23, w24, w25, .ref f3, w27, .int 0, w29, w30, w31, w32, w33, w34])), (f3, .inl (kf3, 100, .inl (fun _ => 0)))]) hD hS hA [0, 1] rfl
    refine va_callv (va_runV (As := []) (rest := []) ⟨hx, hb, hml, hown, hts⟩ (m_pack l dC dI H.size h0 (w0) (w1) (w2) (w3) (w5) (w6) (w7) (w8) (w9) (w10) (w11) (w12) (w13) (w14) (w15) (w16) (w17) (w18) (w19) (w20) (w21) (w22) (w23) (w24) (w25) f3 (w27) (w29) (w30) (w31) (w32) (w33) (w34) kf3) (cwV 0 hts (gV mw_4_226 mw_4_228 mw_0_35 mw_1_9 mw_4_229) rfl rfl rfl (by decide +kernel) ⟨Nat.le_of_ble_eq_true rfl, Nat.le_of_ble_eq_true rfl⟩) ⟨pcW_blind, va_recv hKc hPc (ci := 8) (q0 := 0) rfl rfl, pcW_at hPc hKc hDc hN⟩ rfl rfl hl.1 rfl (lv_room (Nat.le_of_ble_eq_true rfl)) dX9_slot_16 ⟨Nat.le_of_ble_eq_true rfl, Nat.le_of_ble_eq_true rfl⟩) hS (fun q _ h => hFc q h) hFc (fun u t H1 locs ht hvm hw_3 hB hz1 hk1 hS => ?_)
    obtain ⟨hP1, hK1, hD1⟩ := hB
    rw [ht] at hP1
    have hK1 := va_K.moved hvm.symm hK1
    obtain ⟨hP, hD⟩ := va_join (wr := []) (w1 := [(h0, .inr (8, [w0, w1, w2, w3, .int 0, w5, w6, w7, w8, w9, w10, w11, w12, w13, w14, w15, w16, w17, w18, w19, w20, w21, w22, w23, w24, w25, .ref f3, w27, .int 0, w29, w30, w31, w32, w33, w34])), (f3, .inl (kf3, 100, .inl (slF (-6) 0 100)))]) hP hD [0, 1] [] rfl rfl (by decide) (by decide) hk1 hFc hP1 hD1
    have hK := (hK.sub (tys' := []) [] rfl).app hK1
    clear hz1 hk1 hPc hDc hKc hFc
    generalize H1 = H at hP hS ⊢
    have hK : va_K (dC, dI) vwCl [(kf3, .int)] s := hK
    have hP : va_P (dC, dI) vwCl [(h0, .inr (8, [w0, w1, w2, w3, .int 0, w5, w6, w7, w8, w9, w10, w11, w12, w13, w14, w15, w16, w17, w18, w19, w20, w21, w22, w23, w24, w25, .ref f3, w27, .int 0, w29, w30, w31, w32, w33, w34])), (f3, .inl (kf3, 100, .inl (slF (-6) 0 100)))] H := hP
    have hD : va_D A [(h0, .inr (8, [w0, w1, w2, w3, .int 0, w5, w6, w7, w8, w9, w10, w11, w12, w13, w14, w15, w16, w17, w18, w19, w20, w21, w22, w23, w24, w25, .ref f3, w27, .int 0, w29, w30, w31, w32, w33, w34])), (f3, .inl (kf3, 100, .inl (slF (-6) 0 100)))] := hD
    refine lv_aload_n hx hb dX9_slot_19 rfl (lv_at hl 0 rfl) ?_
    refine va_get (D := (dC, dI)) (ci := 8) (v := .ref f3) (C := RX9) (T := TX9) (N := 35) hx hb hts inB_9 hown hK hP 0 rfl rfl 26 (by decide) (hts _ mw_3_208) (fun _ h9 => h9) rfl dX9_slot_20 ?_
    refine lv_iload_n hx hb dX9_slot_23 rfl (lv_at hl 1 rfl) ?_
    refine va_iald hx hb hK hP 1 0 rfl rfl (show vp_in n1 100 from fx_in (by omega) (by omega)) dX9_slot_24 ?_
    refine hx_top (y := (-6)) (slF_in (fx_cl (by omega) (by omega))) ?_
    exact W.iret (v := (-6)) hx hb hr (fun t ht hW => ⟨⟨(-6), (), rfl, (by (unfold F_slot; repeat' split) <;> first | rfl | (exfalso; omega)), trivial⟩, hS.F ht⟩) hS.2.2 dX9_slot_25
  · skip
    refine lv_if_ne (tgt := 15) hx hb dX9_slot_9 (by decide) (fun h => absurd h (by decide)) (fun _ => ?_)
    refine lv_bipush (v := (-2)) hx hb dX9_slot_12 (by decide) ?_
    exact W.iret (v := (-2)) hx hb hr (fun t ht hW => ⟨⟨(-2), (), rfl, (by (unfold F_slot; repeat' split) <;> first | rfl | (exfalso; omega)), trivial⟩, hS.F ht⟩) hS.2.2 dX9_slot_14
