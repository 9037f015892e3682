theorem mw_4_117 : Cond.code yX9_isName cX9_isName 1 (some .boolean) ∈ BG := mB (t4 (i := 117) rfl) (by decide +kernel)
theorem mw_4_115 : Cond.methodLink RX9 132 yX9_isName ∈ BG := mB (t4 (i := 115) (by decide +kernel)) (by decide +kernel)
theorem mw_4_116 : Cond.static yX9_isName ∈ BG := mB (t4 (i := 116) (by decide +kernel)) (by decide +kernel)
theorem mw_4_170 : Cond.code yX9_havingOf cX9_havingOf 4 (some .int) ∈ BG := mB (t4 (i := 170) rfl) (by decide +kernel)
theorem mw_4_167 : Cond.methodLink RX9 176 yX9_havingOf ∈ BG := mB (t4 (i := 167) (by decide +kernel)) (by decide +kernel)
theorem mw_4_169 : Cond.instanceMethod yX9_havingOf ∈ BG := mB (t4 (i := 169) (by decide +kernel)) (by decide +kernel)
theorem mw_0_26 : Cond.selects RX9 yX9_havingOf yX9_havingOf ∈ BG := mB (t0 (i := 26) (by decide +kernel)) (by decide +kernel)
theorem mw_4_182 : Cond.code yX9_doubtBy cX9_doubtBy 4 (some .int) ∈ BG := mB (t4 (i := 182) rfl) (by decide +kernel)
theorem mw_4_179 : Cond.methodLink RX9 185 yX9_doubtBy ∈ BG := mB (t4 (i := 179) (by decide +kernel)) (by decide +kernel)
theorem mw_4_181 : Cond.instanceMethod yX9_doubtBy ∈ BG := mB (t4 (i := 181) (by decide +kernel)) (by decide +kernel)
theorem mw_0_28 : Cond.selects RX9 yX9_doubtBy yX9_doubtBy ∈ BG := mB (t0 (i := 28) (by decide +kernel)) (by decide +kernel)
theorem mw_4_185 : Cond.code yX9_ones cX9_ones 3 (some .int) ∈ BG := mB (t4 (i := 185) rfl) (by decide +kernel)
theorem mw_4_183 : Cond.methodLink RX9 182 yX9_ones ∈ BG := mB (t4 (i := 183) (by decide +kernel)) (by decide +kernel)
theorem mw_4_184 : Cond.static yX9_ones ∈ BG := mB (t4 (i := 184) (by decide +kernel)) (by decide +kernel)
theorem dX9_havingOf_0 : decode cX9_havingOf 0 = .ok (.iconst 0, 1) := by decide +kernel
theorem dX9_havingOf_1 : decode cX9_havingOf 1 = .ok (.istore_n 2, 1) := by decide +kernel
theorem dX9_havingOf_2 : decode cX9_havingOf 2 = .ok (.iconst 0, 1) := by decide +kernel
theorem dX9_havingOf_3 : decode cX9_havingOf 3 = .ok (.istore_n 3, 1) := by decide +kernel
theorem dX9_havingOf_4 : decode cX9_havingOf 4 = .ok (.iload_n 3, 1) := by decide +kernel
theorem dX9_havingOf_5 : decode cX9_havingOf 5 = .ok (.aload_n 0, 1) := by decide +kernel
theorem dX9_havingOf_6 : decode cX9_havingOf 6 = .ok (.getfield 86, 3) := by decide +kernel
theorem dX9_havingOf_9 : decode cX9_havingOf 9 = .ok (.if_icmp .ge 28, 3) := by decide +kernel
theorem dX9_havingOf_37 : decode cX9_havingOf 37 = .ok (.iload_n 2, 1) := by decide +kernel
theorem dX9_havingOf_38 : decode cX9_havingOf 38 = .ok (.ireturn, 1) := by decide +kernel
theorem dX9_doubtBy_0 : decode cX9_doubtBy 0 = .ok (.iconst 0, 1) := by decide +kernel
theorem dX9_doubtBy_1 : decode cX9_doubtBy 1 = .ok (.istore_n 2, 1) := by decide +kernel
theorem dX9_doubtBy_2 : decode cX9_doubtBy 2 = .ok (.iconst 0, 1) := by decide +kernel
theorem dX9_doubtBy_3 : decode cX9_doubtBy 3 = .ok (.istore_n 3, 1) := by decide +kernel
theorem dX9_doubtBy_4 : decode cX9_doubtBy 4 = .ok (.iload_n 3, 1) := by decide +kernel
theorem dX9_doubtBy_5 : decode cX9_doubtBy 5 = .ok (.aload_n 0, 1) := by decide +kernel
theorem dX9_doubtBy_6 : decode cX9_doubtBy 6 = .ok (.getfield 86, 3) := by decide +kernel
theorem dX9_doubtBy_9 : decode cX9_doubtBy 9 = .ok (.if_icmp .ge 32, 3) := by decide +kernel
theorem dX9_doubtBy_41 : decode cX9_doubtBy 41 = .ok (.iload_n 2, 1) := by decide +kernel
theorem dX9_doubtBy_42 : decode cX9_doubtBy 42 = .ok (.ireturn, 1) := by decide +kernel
theorem dX9_doubt_0 : decode cX9_doubt 0 = .ok (.iload_n 1, 1) := by decide +kernel
theorem dX9_doubt_1 : decode cX9_doubt 1 = .ok (.invokestatic 132, 3) := by decide +kernel
theorem dX9_doubt_4 : decode cX9_doubt 4 = .ok (.ifCond .eq 15, 3) := by decide +kernel
theorem dX9_doubt_7 : decode cX9_doubt 7 = .ok (.aload_n 0, 1) := by decide +kernel
theorem dX9_doubt_8 : decode cX9_doubt 8 = .ok (.aload_n 0, 1) := by decide +kernel
theorem dX9_doubt_9 : decode cX9_doubt 9 = .ok (.iload_n 1, 1) := by decide +kernel
theorem dX9_doubt_10 : decode cX9_doubt 10 = .ok (.invokevirtual 176, 3) := by decide +kernel
theorem dX9_doubt_13 : decode cX9_doubt 13 = .ok (.invokevirtual 185, 3) := by decide +kernel
theorem dX9_doubt_16 : decode cX9_doubt 16 = .ok (.goto 4, 3) := by decide +kernel
theorem dX9_doubt_20 : decode cX9_doubt 20 = .ok (.ireturn, 1) := by decide +kernel
theorem dX9_doubt_19 : decode cX9_doubt 19 = .ok (.iconst (-1), 1) := by decide +kernel
theorem dX9_settle_0 : decode cX9_settle 0 = .ok (.iload_n 1, 1) := by decide +kernel
theorem dX9_settle_1 : decode cX9_settle 1 = .ok (.invokestatic 132, 3) := by decide +kernel
theorem dX9_settle_4 : decode cX9_settle 4 = .ok (.ifCond .ne 5, 3) := by decide +kernel
theorem dX9_settle_9 : decode cX9_settle 9 = .ok (.iload_n 2, 1) := by decide +kernel
theorem dX9_settle_10 : decode cX9_settle 10 = .ok (.i2l, 1) := by decide +kernel
theorem dX9_settle_11 : decode cX9_settle 11 = .ok (.lconst 0, 1) := by decide +kernel
theorem dX9_settle_12 : decode cX9_settle 12 = .ok (.lconst 1, 1) := by decide +kernel
theorem dX9_settle_13 : decode cX9_settle 13 = .ok (.invokestatic 90, 3) := by decide +kernel
theorem dX9_settle_16 : decode cX9_settle 16 = .ok (.ifCond .ne 6, 3) := by decide +kernel
theorem dX9_settle_22 : decode cX9_settle 22 = .ok (.aload_n 0, 1) := by decide +kernel
theorem dX9_settle_23 : decode cX9_settle 23 = .ok (.iload_n 1, 1) := by decide +kernel
theorem dX9_settle_24 : decode cX9_settle 24 = .ok (.invokevirtual 176, 3) := by decide +kernel
theorem dX9_settle_27 : decode cX9_settle 27 = .ok (.istore_n 3, 1) := by decide +kernel
theorem dX9_settle_28 : decode cX9_settle 28 = .ok (.bipush (-6), 2) := by decide +kernel
theorem dX9_settle_30 : decode cX9_settle 30 = .ok (.istore 4, 2) := by decide +kernel
theorem dX9_settle_32 : decode cX9_settle 32 = .ok (.iconst 0, 1) := by decide +kernel
theorem dX9_settle_33 : decode cX9_settle 33 = .ok (.istore 5, 2) := by decide +kernel
theorem dX9_settle_35 : decode cX9_settle 35 = .ok (.iload 5, 2) := by decide +kernel
theorem dX9_settle_37 : decode cX9_settle 37 = .ok (.iconst 1, 1) := by decide +kernel
theorem dX9_settle_38 : decode cX9_settle 38 = .ok (.aload_n 0, 1) := by decide +kernel
theorem dX9_settle_39 : decode cX9_settle 39 = .ok (.getfield 86, 3) := by decide +kernel
theorem dX9_settle_42 : decode cX9_settle 42 = .ok (.ishl, 1) := by decide +kernel
theorem dX9_settle_43 : decode cX9_settle 43 = .ok (.if_icmp .ge 61, 3) := by decide +kernel
theorem dX9_settle_46 : decode cX9_settle 46 = .ok (.iload 5, 2) := by decide +kernel
theorem dX9_settle_48 : decode cX9_settle 48 = .ok (.iload_n 3, 1) := by decide +kernel
theorem dX9_settle_49 : decode cX9_settle 49 = .ok (.iand, 1) := by decide +kernel
theorem dX9_settle_50 : decode cX9_settle 50 = .ok (.ifCond .ne 25, 3) := by decide +kernel
theorem dX9_settle_53 : decode cX9_settle 53 = .ok (.iload 4, 2) := by decide +kernel
theorem dX9_settle_55 : decode cX9_settle 55 = .ok (.ifCond .lt 16, 3) := by decide +kernel
theorem dX9_settle_71 : decode cX9_settle 71 = .ok (.iconst 1, 1) := by decide +kernel
theorem dX9_settle_72 : decode cX9_settle 72 = .ok (.goto 4, 3) := by decide +kernel
theorem dX9_settle_76 : decode cX9_settle 76 = .ok (.istore 6, 2) := by decide +kernel
theorem dX9_settle_78 : decode cX9_settle 78 = .ok (.iload 6, 2) := by decide +kernel
theorem dX9_settle_80 : decode cX9_settle 80 = .ok (.ifCond .eq 18, 3) := by decide +kernel
theorem dX9_settle_83 : decode cX9_settle 83 = .ok (.aload_n 0, 1) := by decide +kernel
theorem dX9_settle_84 : decode cX9_settle 84 = .ok (.iload_n 3, 1) := by decide +kernel
theorem dX9_settle_85 : decode cX9_settle 85 = .ok (.iload 5, 2) := by decide +kernel
theorem dX9_settle_87 : decode cX9_settle 87 = .ok (.ior, 1) := by decide +kernel
theorem dX9_settle_88 : decode cX9_settle 88 = .ok (.invokevirtual 185, 3) := by decide +kernel
theorem dX9_settle_91 : decode cX9_settle 91 = .ok (.ifCond .ne 7, 3) := by decide +kernel
theorem dX9_settle_94 : decode cX9_settle 94 = .ok (.iload 5, 2) := by decide +kernel
theorem dX9_settle_96 : decode cX9_settle 96 = .ok (.istore 4, 2) := by decide +kernel
theorem dX9_settle_98 : decode cX9_settle 98 = .ok (.iinc 5 1, 3) := by decide +kernel
theorem dX9_settle_101 : decode cX9_settle 101 = .ok (.goto (-66), 3) := by decide +kernel
theorem dX9_settle_104 : decode cX9_settle 104 = .ok (.iload_n 2, 1) := by decide +kernel
theorem dX9_settle_105 : decode cX9_settle 105 = .ok (.ifCond .ne 8, 3) := by decide +kernel
theorem dX9_settle_113 : decode cX9_settle 113 = .ok (.iload 4, 2) := by decide +kernel
theorem dX9_settle_115 : decode cX9_settle 115 = .ok (.invokestatic 182, 3) := by decide +kernel
theorem dX9_settle_118 : decode cX9_settle 118 = .ok (.ireturn, 1) := by decide +kernel
theorem dX9_settle_108 : decode cX9_settle 108 = .ok (.iload 4, 2) := by decide +kernel
theorem dX9_settle_110 : decode cX9_settle 110 = .ok (.goto 8, 3) := by decide +kernel
theorem dX9_settle_19 : decode cX9_settle 19 = .ok (.bipush (-2), 2) := by decide +kernel
theorem dX9_settle_21 : decode cX9_settle 21 = .ok (.ireturn, 1) := by decide +kernel
theorem dX9_settle_7 : decode cX9_settle 7 = .ok (.iconst (-1), 1) := by decide +kernel
theorem dX9_settle_8 : decode cX9_settle 8 = .ok (.ireturn, 1) := by decide +kernel
set_option maxHeartbeats 4000000 in
set_option maxRecDepth 100000 in
theorem m_having (l : Launch) (dC : Nat → ClassId) (dI : Nat → Nat → Nat) (sz : Nat) (h0 : Nat) (w0 : Value) (w1 : Value) (w2 : Value) (w3 : Value) (w5 : Value) (w6 : Value) (w7 : Value) (w8 : Value) (w9 : Value) (w10 : Value) (w11 : Value) (w12 : Value) (w13 : Value) (w14 : Value) (w15 : Value) (w16 : Value) (w17 : Value) (w18 : Value) (w19 : Value) (w20 : Value) (w21 : Value) (w22 : Value) (w23 : Value) (w24 : Value) (w25 : Value) (w26 : Value) (w27 : Value) (w28 : Value) (w29 : Value) (w30 : Value) (w31 : Value) (w32 : Value) (w33 : Value) (w34 : Value) (n : Int32)  : Met l yX9_havingOf (wq yX9_havingOf cX9_havingOf 4 (some .int)) ({ frames := 0, cells := 0, slots := 0, locals := 0 }) (va_Pc [.ref h0, .int n] (pcW dC dI [] [(h0, .inr (8, [w0, w1, w2, w3, .int 0, w5, w6, w7, w8, w9, w10, w11, w12, w13, w14, w15, w16, w17, w18, w19, w20, w21, w22, w23, w24, w25, w26, w27, w28, w29, w30, w31, w32, w33, w34]))] sz)) (va_Qi (fun (r : Int32) (_ : Unit) => r = 0) (fun _ _ => True) (fun q : Nat => sz ≤ q)) 0 0 (fun q : Nat => sz ≤ q) := by
  refine Met.ofW (cc := cX9_havingOf) (maxL := 4) (ret := (some .int)) (by decide) rfl ?_
  intro p e s m args below meth c s₁ B hml hv
  obtain ⟨rfl, hsz, hN, hP, hK, hD0⟩ := hv
  have hx := B.exec
  have hb := B.bytes
  have hr := B.returns
  have hts0 := atoms_spec (ws := (wq yX9_havingOf cX9_havingOf 4 (some .int))) B.pre
  have hts : ∀ w ∈ BG, w.before _ s = true := fun w h => hts0 w (List.mem_cons_of_mem _ h)
  have hown : s.vm.findClass RX9 = some m.cls := findClass_of_methodNamed B.named
  have hlocks := B.notSynchronized
  subst hsz
  have hA : ∀ q : Nat, s.heap.size ≤ q → (fun q : Nat => s.heap.size ≤ q) q := fun _ h => h
  have hD := hD0
  have hS : va_S (fun q : Nat => s.heap.size ≤ q) s.heap s.heap [] := va_S.rf
  have hP : va_P (dC, dI) vwCl [(h0, .inr (8, [w0, w1, w2, w3, .int 0, w5, w6, w7, w8, w9, w10, w11, w12, w13, w14, w15, w16, w17, w18, w19, w20, w21, w22, w23, w24, w25, w26, w27, w28, w29, w30, w31, w32, w33, w34]))] s.heap := hP
  have hl := lv_entry ([.ref h0, .int n]) (n := 4) (Nat.le_of_ble_eq_true rfl)
  rw [lg_entry_eq]
  generalize (lg_sl ([.ref h0, .int n]) ++ List.replicate (4 - (lg_sl ([.ref h0, .int n])).length) Slot.unset).toArray = ls at hl ⊢
  have hl : lv_has ls 4 [(0, .ref h0), (1, .int n)] := hl
  skip
  refine lv_iconst (v := 0) hx hb dX9_havingOf_0 (by decide) ?_
  refine lv_istore_n (lv' := [(2, .int 0), (0, .ref h0), (1, .int n)]) hx hb dX9_havingOf_1 rfl hl (by decide) rfl (fun ls hl => ?_)
  refine lv_iconst (v := 0) hx hb dX9_havingOf_2 (by decide) ?_
  refine lv_istore_n (lv' := [(3, .int 0), (2, .int 0), (0, .ref h0), (1, .int n)]) hx hb dX9_havingOf_3 rfl hl (by decide) rfl (fun ls hl => ?_)
  refine lv_iload_n hx hb dX9_havingOf_4 rfl (lv_at hl 0 rfl) ?_
  refine lv_aload_n hx hb dX9_havingOf_5 rfl (lv_at hl 2 rfl) ?_
  refine va_get (D := (dC, dI)) (ci := 8) (v := .int 0) (C := RX9) (T := TX9) (N := 35) hx hb hts inB_9 hown hK hP 0 rfl rfl 4 (by decide) (hts _ mw_3_186) (fun _ h9 => h9) rfl dX9_havingOf_6 ?_
  refine lv_icmp_ge (tgt := 37) hx hb dX9_havingOf_9 (by decide) (fun _ => ?_) (fun h => absurd (by decide) h)
  refine lv_iload_n hx hb dX9_havingOf_37 rfl (lv_at hl 1 rfl) ?_
  exact W.iret (v := 0) hx hb hr (fun t ht hW => ⟨⟨0, (), rfl, rfl, trivial⟩, hS.F ht⟩) hS.2.2 dX9_havingOf_38
set_option maxHeartbeats 4000000 in
set_option maxRecDepth 100000 in
theorem m_doubtBy (l : Launch) (dC : Nat → ClassId) (dI : Nat → Nat → Nat) (sz : Nat) (h0 : Nat) (w0 : Value) (w1 : Value) (w2 : Value) (w3 : Value) (w5 : Value) (w6 : Value) (w7 : Value) (w8 : Value) (w9 : Value) (w10 : Value) (w11 : Value) (w12 : Value) (w13 : Value) (w14 : Value) (w15 : Value) (w16 : Value) (w17 : Value) (w18 : Value) (w19 : Value) (w20 : Value) (w21 : Value) (w22 : Value) (w23 : Value) (w24 : Value) (w25 : Value) (w26 : Value) (w27 : Value) (w28 : Value) (w29 : Value) (w30 : Value) (w31 : Value) (w32 : Value) (w33 : Value) (w34 : Value) (n : Int32)  : Met l yX9_doubtBy (wq yX9_doubtBy cX9_doubtBy 4 (some .int)) ({ frames := 0, cells := 0, slots := 0, locals := 0 }) (va_Pc [.ref h0, .int n] (pcW dC dI [] [(h0, .inr (8, [w0, w1, w2, w3, .int 0, w5, w6, w7, w8, w9, w10, w11, w12, w13, w14, w15, w16, w17, w18, w19, w20, w21, w22, w23, w24, w25, w26, w27, w28, w29, w30, w31, w32, w33, w34]))] sz)) (va_Qi (fun (r : Int32) (_ : Unit) => r = 0) (fun _ _ => True) (fun q : Nat => sz ≤ q)) 0 0 (fun q : Nat => sz ≤ q) := by
  refine Met.ofW (cc := cX9_doubtBy) (maxL := 4) (ret := (some .int)) (by decide) rfl ?_
  intro p e s m args below meth c s₁ B hml hv
  obtain ⟨rfl, hsz, hN, hP, hK, hD0⟩ := hv
  have hx := B.exec
  have hb := B.bytes
  have hr := B.returns
  have hts0 := atoms_spec (ws := (wq yX9_doubtBy cX9_doubtBy 4 (some .int))) B.pre
  have hts : ∀ w ∈ BG, w.before _ s = true := fun w h => hts0 w (List.mem_cons_of_mem _ h)
  have hown : s.vm.findClass RX9 = some m.cls := findClass_of_methodNamed B.named
  have hlocks := B.notSynchronized
  subst hsz
  have hA : ∀ q : Nat, s.heap.size ≤ q → (fun q : Nat => s.heap.size ≤ q) q := fun _ h => h
  have hD := hD0
  have hS : va_S (fun q : Nat => s.heap.size ≤ q) s.heap s.heap [] := va_S.rf
  have hP : va_P (dC, dI) vwCl [(h0, .inr (8, [w0, w1, w2, w3, .int 0, w5, w6, w7, w8, w9, w10, w11, w12, w13, w14, w15, w16, w17, w18, w19, w20, w21, w22, w23, w24, w25, w26, w27, w28, w29, w30, w31, w32, w33, w34]))] s.heap := hP
  have hl := lv_entry ([.ref h0, .int n]) (n := 4) (Nat.le_of_ble_eq_true rfl)
  rw [lg_entry_eq]
  generalize (lg_sl ([.ref h0, .int n]) ++ List.replicate (4 - (lg_sl ([.ref h0, .int n])).length) Slot.unset).toArray = ls at hl ⊢
  have hl : lv_has ls 4 [(0, .ref h0), (1, .int n)] := hl
  skip
  refine lv_iconst (v := 0) hx hb dX9_doubtBy_0 (by decide) ?_
  refine lv_istore_n (lv' := [(2, .int 0), (0, .ref h0), (1, .int n)]) hx hb dX9_doubtBy_1 rfl hl (by decide) rfl (fun ls hl => ?_)
  refine lv_iconst (v := 0) hx hb dX9_doubtBy_2 (by decide) ?_
  refine lv_istore_n (lv' := [(3, .int 0), (2, .int 0), (0, .ref h0), (1, .int n)]) hx hb dX9_doubtBy_3 rfl hl (by decide) rfl (fun ls hl => ?_)
  refine lv_iload_n hx hb dX9_doubtBy_4 rfl (lv_at hl 0 rfl) ?_
  refine lv_aload_n hx hb dX9_doubtBy_5 rfl (lv_at hl 2 rfl) ?_
  refine va_get (D := (dC, dI)) (ci := 8) (v := .int 0) (C := RX9) (T := TX9) (N := 35) hx hb hts inB_9 hown hK hP 0 rfl rfl 4 (by decide) (hts _ mw_3_186) (fun _ h9 => h9) rfl dX9_doubtBy_6 ?_
  refine lv_icmp_ge (tgt := 41) hx hb dX9_doubtBy_9 (by decide) (fun _ => ?_) (fun h => absurd (by decide) h)
  refine lv_iload_n hx hb dX9_doubtBy_41 rfl (lv_at hl 1 rfl) ?_
  exact W.iret (v := 0) hx hb hr (fun t ht hW => ⟨⟨0, (), rfl, rfl, trivial⟩, hS.F ht⟩) hS.2.2 dX9_doubtBy_42
set_option maxHeartbeats 4000000 in
set_option maxRecDepth 100000 in
theorem m_doubt (l : Launch) (dC : Nat → ClassId) (dI : Nat → Nat → Nat) (sz : Nat) (h0 : Nat) (w0 : Value) (w1 : Value) (w2 : Value) (w3 : Value) (w5 : Value) (w6 : Value) (w7 : Value) (w8 : Value) (w9 : Value) (w10 : Value) (w11 : Value) (w12 : Value) (w13 : Value) (w14 : Value) (w15 : Value) (w16 : Value) (w17 : Value) (w18 : Value) (w19 : Value) (w20 : Value) (w21 : Value) (w22 : Value) (w23 : Value) (w24 : Value) (w25 : Value) (w26 : Value) (w27 : Value) (w28 : Value) (w29 : Value) (w30 : Value) (w31 : Value) (w32 : Value) (w33 : Value) (w34 : Value) (n1 : Int32)  : Met l yX9_doubt (wq yX9_doubt cX9_doubt 2 (some .int)) ({ frames := 2, cells := 0, slots := 0, locals := 45 }) (va_Pc [.ref h0, .int n1] (pcW dC dI [] [(h0, .inr (8, [w0, w1, w2, w3, .int 0, w5, w6, w7, w8, w9, w10, w11, w12, w13, w14, w15, w16, w17, w18, w19, w20, w21, w22, w23, w24, w25, w26, w27, w28, w29, w30, w31, w32, w33, w34]))] sz)) (va_Qi (fun (r : Int32) (_ : Unit) => r = F_name n1) (fun _ _ => True) (fun q : Nat => sz ≤ q)) 0 0 (fun q : Nat => sz ≤ q) := by
  refine Met.ofW (cc := cX9_doubt) (maxL := 2) (ret := (some .int)) (by decide) rfl ?_
  intro p e s m args below meth c s₁ B hml hv
  obtain ⟨rfl, hsz, hN, hP, hK, hD0⟩ := hv
  have hx := B.exec
  have hb := B.bytes
  have hr := B.returns
  have hts0 := atoms_spec (ws := (wq yX9_doubt cX9_doubt 2 (some .int))) B.pre
  have hts : ∀ w ∈ BG, w.before _ s = true := fun w h => hts0 w (List.mem_cons_of_mem _ h)
  have hown : s.vm.findClass RX9 = some m.cls := findClass_of_methodNamed B.named
  have hlocks := B.notSynchronized
  subst hsz
  have hA : ∀ q : Nat, s.heap.size ≤ q → (fun q : Nat => s.heap.size ≤ q) q := fun _ h => h
  have hD := hD0
  have hS : va_S (fun q : Nat => s.heap.size ≤ q) s.heap s.heap [] := va_S.rf
  have hP : va_P (dC, dI) vwCl [(h0, .inr (8, [w0, w1, w2, w3, .int 0, w5, w6, w7, w8, w9, w10, w11, w12, w13, w14, w15, w16, w17, w18, w19, w20, w21, w22, w23, w24, w25, w26, w27, w28, w29, w30, w31, w32, w33, w34]))] s.heap := hP
  have hl := lv_entry ([.ref h0, .int n1]) (n := 2) (Nat.le_of_ble_eq_true rfl)
  rw [lg_entry_eq]
  generalize (lg_sl ([.ref h0, .int n1]) ++ List.replicate (2 - (lg_sl ([.ref h0, .int n1])).length) Slot.unset).toArray = ls at hl ⊢
  have hl : lv_has ls 2 [(0, .ref h0), (1, .int n1)] := hl
  skip
  refine lv_iload_n hx hb dX9_doubt_0 rfl (lv_at hl 1 rfl) ?_
  have hPc := hP.sub (ws' := []) [] rfl
  have hDc := hD.sub (ws' := []) [] (by decide) rfl
  have hKc := hK.sub (tys' := []) [] rfl
  refine va_calli (va_runS (As := [.int n1]) (rest := []) ⟨hx, hb, hml, hown, hts⟩ (m_isName l dC dI s.heap.size n1) (va_cwS 1 hts (gS mw_4_115 mw_4_116 mw_1_9 mw_4_117) rfl rfl rfl (by decide +kernel) ⟨Nat.le_of_ble_eq_true rfl, Nat.le_of_ble_eq_true rfl⟩) ⟨pcW_blind, pcW_at hPc hKc hDc hN⟩ rfl rfl hl.1 rfl (lv_room (Nat.le_of_ble_eq_true rfl)) dX9_doubt_1 ⟨Nat.le_of_ble_eq_true rfl, Nat.le_of_ble_eq_true rfl⟩) hS (fun q h1 h2 => absurd h2 (Nat.not_le.mpr h1)) (fun q h => hA q (Nat.le_trans hS.1 h)) (fun r_1 u t H1 locs ht hvm hw_1 hB hz1 hk1 hS => ?_)
  have hP := keepP hP hk1
  clear hz1 hk1 hB ht hvm hPc hDc hKc
  generalize H1 = H at hP hS ⊢
  rcases fx_bool hw_1 with ⟨rfl, b_2⟩ | ⟨rfl, b_2⟩
  · skip
    refine lv_if_eq (tgt := 19) hx hb dX9_doubt_4 (by decide) (fun h => absurd h (by decide)) (fun _ => ?_)
    refine lv_aload_n hx hb dX9_doubt_7 rfl (lv_at hl 0 rfl) ?_
    refine lv_aload_n hx hb dX9_doubt_8 rfl (lv_at hl 0 rfl) ?_
    refine lv_iload_n hx hb dX9_doubt_9 rfl (lv_at hl 1 rfl) ?_
    have hPc := hP.sub (ws' := [(h0, .inr (8, [w0, w1, w2, w3, .int 0, w5, w6, w7, w8, w9, w10, w11, w12, w13, w14, w15, w16, w17, w18, w19, w20, w21, w22, w23, w24, w25, w26, w27, w28, w29, w30, w31, w32, w33, w34]))]) [0] rfl
    have hDc := hD.sub (ws' := [(h0, .inr (8, [w0, w1, w2, w3, .int 0, w5, w6, w7, w8, w9, w10, w11, w12, w13, w14, w15, w16, w17, w18, w19, w20, w21, w22, w23, w24, w25, w26, w27, w28, w29, w30, w31, w32, w33, w34]))]) [0] (by decide) rfl
    have hKc := hK.sub (tys' := []) [] rfl
    refine va_calli (va_runV (As := [.int n1]) (rest := [.ref h0]) ⟨hx, hb, hml, hown, hts⟩ (m_having l dC dI H.size h0 (w0) (w1) (w2) (w3) (w5) (w6) (w7) (w8) (w9) (w10) (w11) (w12) (w13) (w14) (w15) (w16) (w17) (w18) (w19) (w20) (w21) (w22) (w23) (w24) (w25) (w26) (w27) (w28) (w29) (w30) (w31) (w32) (w33) (w34) n1) (cwV 1 hts (gV mw_4_167 mw_4_169 mw_0_26 mw_1_9 mw_4_170) rfl rfl rfl (by decide +kernel) ⟨Nat.le_of_ble_eq_true rfl, Nat.le_of_ble_eq_true rfl⟩) ⟨pcW_blind, va_recv hKc hPc (ci := 8) (q0 := 0) rfl rfl, pcW_at hPc hKc hDc hN⟩ rfl rfl hl.1 rfl (lv_room (Nat.le_of_ble_eq_true rfl)) dX9_doubt_10 ⟨Nat.le_of_ble_eq_true rfl, Nat.le_of_ble_eq_true rfl⟩) hS (fun q h1 h2 => absurd h2 (Nat.not_le.mpr h1)) (fun q h => hA q (Nat.le_trans hS.1 h)) (fun r_3 u t H1 locs ht hvm hw_3 hB hz1 hk1 hS => ?_)
    have hP := keepP hP hk1
    clear hz1 hk1 hB ht hvm hPc hDc hKc
    generalize H1 = H at hP hS ⊢
    obtain rfl : r_3 = 0 := hw_3
    have hPc := hP.sub (ws' := [(h0, .inr (8, [w0, w1, w2, w3, .int 0, w5, w6, w7, w8, w9, w10, w11, w12, w13, w14, w15, w16, w17, w18, w19, w20, w21, w22, w23, w24, w25, w26, w27, w28, w29, w30, w31, w32, w33, w34]))]) [0] rfl
    have hDc := hD.sub (ws' := [(h0, .inr (8, [w0, w1, w2, w3, .int 0, w5, w6, w7, w8, w9, w10, w11, w12, w13, w14, w15, w16, w17, w18, w19, w20, w21, w22, w23, w24, w25, w26, w27, w28, w29, w30, w31, w32, w33, w34]))]) [0] (by decide) rfl
    have hKc := hK.sub (tys' := []) [] rfl
    refine va_calli (va_runV (As := [.int 0]) (rest := []) ⟨hx, hb, hml, hown, hts⟩ (m_doubtBy l dC dI H.size h0 (w0) (w1) (w2) (w3) (w5) (w6) (w7) (w8) (w9) (w10) (w11) (w12) (w13) (w14) (w15) (w16) (w17) (w18) (w19) (w20) (w21) (w22) (w23) (w24) (w25) (w26) (w27) (w28) (w29) (w30) (w31) (w32) (w33) (w34) 0) (cwV 1 hts (gV mw_4_179 mw_4_181 mw_0_28 mw_1_9 mw_4_182) rfl rfl rfl (by decide +kernel) ⟨Nat.le_of_ble_eq_true rfl, Nat.le_of_ble_eq_true rfl⟩) ⟨pcW_blind, va_recv hKc hPc (ci := 8) (q0 := 0) rfl rfl, pcW_at hPc hKc hDc hN⟩ rfl rfl hl.1 rfl (lv_room (Nat.le_of_ble_eq_true rfl)) dX9_doubt_13 ⟨Nat.le_of_ble_eq_true rfl, Nat.le_of_ble_eq_true rfl⟩) hS (fun q h1 h2 => absurd h2 (Nat.not_le.mpr h1)) (fun q h => hA q (Nat.le_trans hS.1 h)) (fun r_4 u t H1 locs ht hvm hw_4 hB hz1 hk1 hS => ?_)
    have hP := keepP hP hk1
    clear hz1 hk1 hB ht hvm hPc hDc hKc
    generalize H1 = H at hP hS ⊢
    obtain rfl : r_4 = 0 := hw_4
    refine lv_goto (tgt := 20) hx hb dX9_doubt_16 (by decide) ?_
    exact W.iret (v := 0) hx hb hr (fun t ht hW => ⟨⟨0, (), rfl, (by (unfold F_name; repeat' split) <;> first | rfl | (exfalso; omega)), trivial⟩, hS.F ht⟩) hS.2.2 dX9_doubt_20
  · skip
    refine lv_if_eq (tgt := 19) hx hb dX9_doubt_4 (by decide) (fun _ => ?_) (fun h => absurd (by decide) h)
    refine lv_iconst (v := (-1)) hx hb dX9_doubt_19 (by decide) ?_
    exact W.iret (v := (-1)) hx hb hr (fun t ht hW => ⟨⟨(-1), (), rfl, (by (unfold F_name; repeat' split) <;> first | rfl | (exfalso; omega)), trivial⟩, hS.F ht⟩) hS.2.2 dX9_doubt_20
set_option maxHeartbeats 4000000 in
set_option maxRecDepth 100000 in
theorem m_settle (l : Launch) (dC : Nat → ClassId) (dI : Nat → Nat → Nat) (sz : Nat) (h0 : Nat) (w0 : Value) (w1 : Value) (w2 : Value) (w3 : Value) (w5 : Value) (w6 : Value) (w7 : Value) (w8 : Value) (w9 : Value) (w10 : Value) (w11 : Value) (w12 : Value) (w13 : Value) (w14 : Value) (w15 : Value) (w16 : Value) (w17 : Value) (w18 : Value) (w19 : Value) (w20 : Value) (w21 : Value) (w22 : Value) (w23 : Value) (w24 : Value) (w25 : Value) (w26 : Value) (w27 : Value) (w28 : Value) (w29 : Value) (w30 : Value) (w31 : Value) (w32 : Value) (w33 : Value) (w34 : Value) (n1 : Int32) (n2 : Int32)  : Met l yX9_settle (wq yX9_settle cX9_settle 7 (some .int)) ({ frames := 2, cells := 0, slots := 0, locals := 45 }) (va_Pc [.ref h0, .int n1, .int n2] (pcW dC dI [] [(h0, .inr (8, [w0, w1, w2, w3, .int 0, w5, w6, w7, w8, w9, w10, w11, w12, w13, w14, w15, w16, w17, w18, w19, w20, w21, w22, w23, w24, w25, w26, w27, w28, w29, w30, w31, w32, w33, w34]))] sz)) (va_Qi (fun (r : Int32) (_ : Unit) => r = F_settle n1 n2) (fun _ _ => True) (fun q : Nat => sz ≤ q)) 0 0 (fun q : Nat => sz ≤ q) := by
  refine Met.ofW (cc := cX9_settle) (maxL := 7) (ret := (some .int)) (by decide) rfl ?_
  intro p e s m args below meth c s₁ B hml hv
  obtain ⟨rfl, hsz, hN, hP, hK, hD0⟩ := hv
  have hx := B.exec
  have hb := B.bytes
  have hr := B.returns
  have hts0 := atoms_spec (ws := (wq yX9_settle cX9_settle 7 (some .int))) B.pre
  have hts : ∀ w ∈ BG, w.before _ s = true := fun w h => hts0 w (List.mem_cons_of_mem _ h)
  have hown : s.vm.findClass RX9 = some m.cls := findClass_of_methodNamed B.named
  have hlocks := B.notSynchronized
  subst hsz
  have hA : ∀ q : Nat, s.heap.size ≤ q → (fun q : Nat => s.heap.size ≤ q) q := fun _ h => h
  have hD := hD0
  have hS : va_S (fun q : Nat => s.heap.size ≤ q) s.heap s.heap [] := va_S.rf
  have hP : va_P (dC, dI) vwCl [(h0, .inr (8, [w0, w1, w2, w3, .int 0, w5, w6, w7, w8, w9, w10, w11, w12, w13, w14, w15, w16, w17, w18, w19, w20, w21, w22, w23, w24, w25, w26, w27, w28, w29, w30, w31, w32, w33, w34]))] s.heap := hP
  have hl := lv_entry ([.ref h0, .int n1, .int n2]) (n := 7) (Nat.le_of_ble_eq_true rfl)
  rw [lg_entry_eq]
  generalize (lg_sl ([.ref h0, .int n1, .int n2]) ++ List.replicate (7 - (lg_sl ([.ref h0, .int n1, .int n2])).length) Slot.unset).toArray = ls at hl ⊢
  have hl : lv_has ls 7 [(0, .ref h0), (1, .int n1), (2, .int n2)] := hl
  skip
  refine lv_iload_n hx hb dX9_settle_0 rfl (lv_at hl 1 rfl) ?_
  have hPc := hP.sub (ws' := []) [] rfl
  have hDc := hD.sub (ws' := []) [] (by decide) rfl
  have hKc := hK.sub (tys' := []) [] rfl
  refine va_calli (va_runS (As := [.int n1]) (rest := []) ⟨hx, hb, hml, hown, hts⟩ (m_isName l dC dI s.heap.size n1) (va_cwS 1 hts (gS mw_4_115 mw_4_116 mw_1_9 mw_4_117) rfl rfl rfl (by decide +kernel) ⟨Nat.le_of_ble_eq_true rfl, Nat.le_of_ble_eq_true rfl⟩) ⟨pcW_blind, pcW_at hPc hKc hDc hN⟩ rfl rfl hl.1 rfl (lv_room (Nat.le_of_ble_eq_true rfl)) dX9_settle_1 ⟨Nat.le_of_ble_eq_true rfl, Nat.le_of_ble_eq_true rfl⟩) hS (fun q h1 h2 => absurd h2 (Nat.not_le.mpr h1)) (fun q h => hA q (Nat.le_trans hS.1 h)) (fun r_1 u t H1 locs ht hvm hw_1 hB hz1 hk1 hS => ?_)
  have hP := keepP hP hk1
  clear hz1 hk1 hB ht hvm hPc hDc hKc
  generalize H1 = H at hP hS ⊢
  rcases fx_bool hw_1 with ⟨rfl, b_2⟩ | ⟨rfl, b_2⟩
  · skip
    refine lv_if_ne (tgt := 9) hx hb dX9_settle_4 (by decide) (fun _ => ?_) (fun h => absurd h (by decide))
    refine lv_iload_n hx hb dX9_settle_9 rfl (lv_at hl 2 rfl) ?_
    refine lv_i2l hx hb dX9_settle_10 rfl ?_
    refine lv_lconst (v := Int32.toInt64 0) hx hb dX9_settle_11 (by decide) ?_
    refine lv_lconst (v := Int32.toInt64 1) hx hb dX9_settle_12 (by decide) ?_
    have hPc := hP.sub (ws' := []) [] rfl
    have hDc := hD.sub (ws' := []) [] (by decide) rfl
    have hKc := hK.sub (tys' := []) [] rfl
    refine va_calli (va_runS (As := [.long (Int32.toInt64 n2), .long (Int32.toInt64 0), .long (Int32.toInt64 1)]) (rest := []) ⟨hx, hb, hml, hown, hts⟩ (m_in l dC dI H.size n2 0 1 0 1 (by decide) (by decide)) (va_cwS 3 hts (gS mw_4_57 mw_4_58 mw_1_9 mw_4_59) rfl rfl rfl (by decide +kernel) ⟨Nat.le_of_ble_eq_true rfl, Nat.le_of_ble_eq_true rfl⟩) ⟨pcW_blind, pcW_at hPc hKc hDc hN⟩ rfl rfl hl.1 rfl (lv_room (Nat.le_of_ble_eq_true rfl)) dX9_settle_13 ⟨Nat.le_of_ble_eq_true rfl, Nat.le_of_ble_eq_true rfl⟩) hS (fun q h1 h2 => absurd h2 (Nat.not_le.mpr h1)) (fun q h => hA q (Nat.le_trans hS.1 h)) (fun r_3 u t H1 locs ht hvm hw_3 hB hz1 hk1 hS => ?_)
    have hP := keepP hP hk1
    clear hz1 hk1 hB ht hvm hPc hDc hKc
    generalize H1 = H at hP hS ⊢
    rcases fx_bool hw_3 with ⟨rfl, b_4⟩ | ⟨rfl, b_4⟩
    · skip
      refine lv_if_ne (tgt := 22) hx hb dX9_settle_16 (by decide) (fun _ => ?_) (fun h => absurd h (by decide))
      refine lv_aload_n hx hb dX9_settle_22 rfl (lv_at hl 0 rfl) ?_
      refine lv_iload_n hx hb dX9_settle_23 rfl (lv_at hl 1 rfl) ?_
      have hPc := hP.sub (ws' := [(h0, .inr (8, [w0, w1, w2, w3, .int 0, w5, w6, w7, w8, w9, w10, w11, w12, w13, w14, w15, w16, w17, w18, w19, w20, w21, w22, w23, w24, w25, w26, w27, w28, w29, w30, w31, w32, w33, w34]))]) [0] rfl
      have hDc := hD.sub (ws' := [(h0, .inr (8, [w0, w1, w2, w3, .int 0, w5, w6, w7, w8, w9, w10, w11, w12, w13, w14, w15, w16, w17, w18, w19, w20, w21, w22, w23, w24, w25, w26, w27, w28, w29, w30, w31, w32, w33, w34]))]) [0] (by decide) rfl
      have hKc := hK.sub (tys' := []) [] rfl
      refine va_calli (va_runV (As := [.int n1]) (rest := []) ⟨hx, hb, hml, hown, hts⟩ (m_having l dC dI H.size h0 (w0) (w1) (w2) (w3) (w5) (w6) (w7) (w8) (w9) (w10) (w11) (w12) (w13) (w14) (w15) (w16) (w17) (w18) (w19) (w20) (w21) (w22) (w23) (w24) (w25) (w26) (w27) (w28) (w29) (w30) (w31) (w32) (w33) (w34) n1) (cwV 1 hts (gV mw_4_167 mw_4_169 mw_0_26 mw_1_9 mw_4_170) rfl rfl rfl (by decide +kernel) ⟨Nat.le_of_ble_eq_true rfl, Nat.le_of_ble_eq_true rfl⟩) ⟨pcW_blind, va_recv hKc hPc (ci := 8) (q0 := 0) rfl rfl, pcW_at hPc hKc hDc hN⟩ rfl rfl hl.1 rfl (lv_room (Nat.le_of_ble_eq_true rfl)) dX9_settle_24 ⟨Nat.le_of_ble_eq_true rfl, Nat.le_of_ble_eq_true rfl⟩) hS (fun q h1 h2 => absurd h2 (Nat.not_le.mpr h1)) (fun q h => hA q (Nat.le_trans hS.1 h)) (fun r_5 u t H1 locs ht hvm hw_5 hB hz1 hk1 hS => ?_)
      have hP := keepP hP hk1
      clear hz1 hk1 hB ht hvm hPc hDc hKc
      generalize H1 = H at hP hS ⊢
      obtain rfl : r_5 = 0 := hw_5
      refine lv_istore_n (lv' := [(3, .int 0), (0, .ref h0), (1, .int n1), (2, .int n2)]) hx hb dX9_settle_27 rfl hl (by decide) rfl (fun ls hl => ?_)
      refine lv_bipush (v := (-6)) hx hb dX9_settle_28 (by decide) ?_
      refine lv_istore (lv' := [(4, .int (-6)), (3, .int 0), (0, .ref h0), (1, .int n1), (2, .int n2)]) hx hb dX9_settle_30 hl (by decide) rfl (fun ls hl => ?_)
      refine lv_iconst (v := 0) hx hb dX9_settle_32 (by decide) ?_
      refine lv_istore (lv' := [(5, .int 0), (4, .int (-6)), (3, .int 0), (0, .ref h0), (1, .int n1), (2, .int n2)]) hx hb dX9_settle_33 hl (by decide) rfl (fun ls hl => ?_)
      refine lv_iload hx hb dX9_settle_35 (lv_at hl 0 rfl) ?_
      refine lv_iconst (v := 1) hx hb dX9_settle_37 (by decide) ?_
      refine lv_aload_n hx hb dX9_settle_38 rfl (lv_at hl 3 rfl) ?_
      refine va_get (D := (dC, dI)) (ci := 8) (v := .int 0) (C := RX9) (T := TX9) (N := 35) hx hb hts inB_9 hown hK hP 0 rfl rfl 4 (by decide) (hts _ mw_3_186) (fun _ h9 => h9) rfl dX9_settle_39 ?_
      refine lv_ishl hx hb dX9_settle_42 ?_
      refine hx_top (y := 1) (by decide) ?_
      refine lv_icmp_ge (tgt := 104) hx hb dX9_settle_43 (by decide) (fun h => absurd h (by decide)) (fun _ => ?_)
      refine lv_iload hx hb dX9_settle_46 (lv_at hl 0 rfl) ?_
      refine lv_iload_n hx hb dX9_settle_48 rfl (lv_at hl 2 rfl) ?_
      refine lv_iand hx hb dX9_settle_49 ?_
      refine hx_top (y := 0) (by decide) ?_
      refine lv_if_ne (tgt := 75) hx hb dX9_settle_50 (by decide) (fun h => absurd h (by decide)) (fun _ => ?_)
      refine lv_iload hx hb dX9_settle_53 (lv_at hl 1 rfl) ?_
      refine lv_if_lt (tgt := 71) hx hb dX9_settle_55 (by decide) (fun _ => ?_) (fun h => absurd (by decide) h)
      refine lv_iconst (v := 1) hx hb dX9_settle_71 (by decide) ?_
      refine lv_goto (tgt := 76) hx hb dX9_settle_72 (by decide) ?_
      refine lv_istore (lv' := [(6, .int 1), (5, .int 0), (4, .int (-6)), (3, .int 0), (0, .ref h0), (1, .int n1), (2, .int n2)]) hx hb dX9_settle_76 hl (by decide) rfl (fun ls hl => ?_)
      refine lv_iload hx hb dX9_settle_78 (lv_at hl 0 rfl) ?_
      refine lv_if_eq (tgt := 98) hx hb dX9_settle_80 (by decide) (fun h => absurd h (by decide)) (fun _ => ?_)
      refine lv_aload_n hx hb dX9_settle_83 rfl (lv_at hl 4 rfl) ?_
      refine lv_iload_n hx hb dX9_settle_84 rfl (lv_at hl 3 rfl) ?_
      refine lv_iload hx hb dX9_settle_85 (lv_at hl 1 rfl) ?_
      refine lv_ior hx hb dX9_settle_87 ?_
      refine hx_top (y := 0) (by decide) ?_
      have hPc := hP.sub (ws' := [(h0, .inr (8, [w0, w1, w2, w3, .int 0, w5, w6, w7, w8, w9, w10, w11, w12, w13, w14, w15, w16, w17, w18, w19, w20, w21, w22, w23, w24, w25, w26, w27, w28, w29, w30, w31, w32, w33, w34]))]) [0] rfl
      have hDc := hD.sub (ws' := [(h0, .inr (8, [w0, w1, w2, w3, .int 0, w5, w6, w7, w8, w9, w10, w11, w12, w13, w14, w15, w16, w17, w18, w19, w20, w21, w22, w23, w24, w25, w26, w27, w28, w29, w30, w31, w32, w33, w34]))]) [0] (by decide) rfl
      have hKc := hK.sub (tys' := []) [] rfl
      refine va_calli (va_runV (As := [.int 0]) (rest := []) ⟨hx, hb, hml, hown, hts⟩ (m_doubtBy l dC dI H.size h0 (w0) (w1) (w2) (w3) (w5) (w6) (w7) (w8) (w9) (w10) (w11) (w12) (w13) (w14) (w15) (w16) (w17) (w18) (w19) (w20) (w21) (w22) (w23) (w24) (w25) (w26) (w27) (w28) (w29) (w30) (w31) (w32) (w33) (w34) 0) (cwV 1 hts (gV mw_4_179 mw_4_181 mw_0_28 mw_1_9 mw_4_182) rfl rfl rfl (by decide +kernel) ⟨Nat.le_of_ble_eq_true rfl, Nat.le_of_ble_eq_true rfl⟩) ⟨pcW_blind, va_recv hKc hPc (ci := 8) (q0 := 0) rfl rfl, pcW_at hPc hKc hDc hN⟩ rfl rfl hl.1 rfl (lv_room (Nat.le_of_ble_eq_true rfl)) dX9_settle_88 ⟨Nat.le_of_ble_eq_true rfl, Nat.le_of_ble_eq_true rfl⟩) hS (fun q h1 h2 => absurd h2 (Nat.not_le.mpr h1)) (fun q h => hA q (Nat.le_trans hS.1 h)) (fun r_6 u t H1 locs ht hvm hw_6 hB hz1 hk1 hS => ?_)
      have hP := keepP hP hk1
      clear hz1 hk1 hB ht hvm hPc hDc hKc
      generalize H1 = H at hP hS ⊢
      obtain rfl : r_6 = 0 := hw_6
      refine lv_if_ne (tgt := 98) hx hb dX9_settle_91 (by decide) (fun h => absurd h (by decide)) (fun _ => ?_)
      refine lv_iload hx hb dX9_settle_94 (lv_at hl 1 rfl) ?_
      refine lv_istore (lv' := [(4, .int 0), (6, .int 1), (5, .int 0), (3, .int 0), (0, .ref h0), (1, .int n1), (2, .int n2)]) hx hb dX9_settle_96 hl (by decide) rfl (fun ls hl => ?_)
      refine lv_iinc (v := 1) (lv' := [(5, .int 1), (4, .int 0), (6, .int 1), (3, .int 0), (0, .ref h0), (1, .int n1), (2, .int n2)]) hx hb dX9_settle_98 hl (k := 2) rfl (by decide) (by decide) rfl (fun ls hl => ?_)
      refine lv_goto (tgt := 35) hx hb dX9_settle_101 (by decide) ?_
      refine lv_iload hx hb dX9_settle_35 (lv_at hl 0 rfl) ?_
      refine lv_iconst (v := 1) hx hb dX9_settle_37 (by decide) ?_
      refine lv_aload_n hx hb dX9_settle_38 rfl (lv_at hl 4 rfl) ?_
      refine va_get (D := (dC, dI)) (ci := 8) (v := .int 0) (C := RX9) (T := TX9) (N := 35) hx hb hts inB_9 hown hK hP 0 rfl rfl 4 (by decide) (hts _ mw_3_186) (fun _ h9 => h9) rfl dX9_settle_39 ?_
      refine lv_ishl hx hb dX9_settle_42 ?_
      refine hx_top (y := 1) (by decide) ?_
      refine lv_icmp_ge (tgt := 104) hx hb dX9_settle_43 (by decide) (fun _ => ?_) (fun h => absurd (by decide) h)
      refine lv_iload_n hx hb dX9_settle_104 rfl (lv_at hl 6 rfl) ?_
      refine lv_if_ne (tgt := 113) hx hb dX9_settle_105 (by decide) (fun c_7 => ?_) (fun c_7 => ?_)
      · have b_8 := fx_ne (x := n2) (C := 0) (by decide) c_7
        refine lv_iload hx hb dX9_settle_113 (lv_at hl 1 rfl) ?_
        have hPc := hP.sub (ws' := []) [] rfl
        have hDc := hD.sub (ws' := []) [] (by decide) rfl
        have hKc := hK.sub (tys' := []) [] rfl
        refine va_calli (va_runS (As := [.int 0]) (rest := []) ⟨hx, hb, hml, hown, hts⟩ (m_ones l dC dI H.size ) (va_cwS 1 hts (gS mw_4_183 mw_4_184 mw_1_9 mw_4_185) rfl rfl rfl (by decide +kernel) ⟨Nat.le_of_ble_eq_true rfl, Nat.le_of_ble_eq_true rfl⟩) ⟨pcW_blind, pcW_at hPc hKc hDc hN⟩ rfl rfl hl.1 rfl (lv_room (Nat.le_of_ble_eq_true rfl)) dX9_settle_115 ⟨Nat.le_of_ble_eq_true rfl, Nat.le_of_ble_eq_true rfl⟩) hS (fun q h1 h2 => absurd h2 (Nat.not_le.mpr h1)) (fun q h => hA q (Nat.le_trans hS.1 h)) (fun r_9 u t H1 locs ht hvm hw_9 hB hz1 hk1 hS => ?_)
        have hP := keepP hP hk1
        clear hz1 hk1 hB ht hvm hPc hDc hKc
        generalize H1 = H at hP hS ⊢
        obtain rfl : r_9 = 0 := hw_9
        exact W.iret (v := 0) hx hb hr (fun t ht hW => ⟨⟨0, (), rfl, (by (unfold F_settle; repeat' split) <;> first | rfl | (exfalso; omega)), trivial⟩, hS.F ht⟩) hS.2.2 dX9_settle_118
      · have b_8 := fn_ne (x := n2) (C := 0) (by decide) c_7
        refine lv_iload hx hb dX9_settle_108 (lv_at hl 1 rfl) ?_
        refine lv_goto (tgt := 118) hx hb dX9_settle_110 (by decide) ?_
        exact W.iret (v := 0) hx hb hr (fun t ht hW => ⟨⟨0, (), rfl, (by (unfold F_settle; repeat' split) <;> first | rfl | (exfalso; omega)), trivial⟩, hS.F ht⟩) hS.2.2 dX9_settle_118
    · skip
      refine lv_if_ne (tgt := 22) hx hb dX9_settle_16 (by decide) (fun h => absurd h (by decide)) (fun _ => ?_)
      refine lv_bipush (v := (-2)) hx hb dX9_settle_19 (by decide) ?_
      exact W.iret (v := (-2)) hx hb hr (fun t ht hW => ⟨⟨(-2), (), rfl, (by (unfold F_settle; repeat' split) <;> first | rfl | (exfalso; omega)), trivial⟩, hS.F ht⟩) hS.2.2 dX9_settle_21
  · skip
    refine lv_if_ne (tgt := 9) hx hb dX9_settle_4 (by decide) (fun h => absurd h (by decide)) (fun _ => ?_)
    refine lv_iconst (v := (-1)) hx hb dX9_settle_7 (by decide) ?_
    exact W.iret (v := (-1)) hx hb hr (fun t ht hW => ⟨⟨(-1), (), rfl, (by (unfold F_settle; repeat' split) <;> first | rfl | (exfalso; omega)), trivial⟩, hS.F ht⟩) hS.2.2 dX9_settle_8
