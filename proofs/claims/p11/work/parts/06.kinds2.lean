def sbF (bb : Int32) (k : Nat) (v : Int32) : Int32 := if v = 0 then bb &&& (((1 : Int32) <<< (nI k &&& 31)) ^^^ (-1)) else bb ||| ((1 : Int32) <<< (nI k &&& 31))
theorem mw_1_50 : Cond.fieldLink RX1 21 "AnswerLines$Kinds" "lines" "[I" ∈ BG := mB (t1 (i := 50) (by decide +kernel)) (by decide +kernel)
theorem mw_2_149 : Cond.methodLink RX1 59 Lib.Math.max.name ∈ BG := mB (t2 (i := 149) (by decide +kernel)) (by decide +kernel)
theorem mw_2_150 : Cond.static Lib.Math.max.name ∈ BG := mB (t2 (i := 150) (by decide +kernel)) (by decide +kernel)
theorem mw_1_10 : Cond.initialized "java/lang/Math" ∈ BG := mB (t1 (i := 10) (by decide +kernel)) (by decide +kernel)
theorem mw_2_151 : Cond.code Lib.Math.max.name Lib.Math.max.code 2 (some .int) ∈ BG := mB (t2 (i := 151) rfl) (by decide +kernel)
theorem mw_2_148 : Cond.code yX1_whereFirst cX1_whereFirst 6 (some .int) ∈ BG := mB (t2 (i := 148) rfl) (by decide +kernel)
theorem mw_2_145 : Cond.methodLink RX1 65 yX1_whereFirst ∈ BG := mB (t2 (i := 145) (by decide +kernel)) (by decide +kernel)
theorem mw_2_146 : Cond.instanceMethod yX1_whereFirst ∈ BG := mB (t2 (i := 146) (by decide +kernel)) (by decide +kernel)
theorem mw_2_147 : Cond.selects RX1 yX1_whereFirst yX1_whereFirst ∈ BG := mB (t2 (i := 147) (by decide +kernel)) (by decide +kernel)
theorem mw_1_236 : Cond.code yX1_inLine cX1_inLine 3 (some .int) ∈ BG := mB (t1 (i := 236) rfl) (by decide +kernel)
theorem mw_1_233 : Cond.methodLink RX1 69 yX1_inLine ∈ BG := mB (t1 (i := 233) (by decide +kernel)) (by decide +kernel)
theorem mw_1_234 : Cond.instanceMethod yX1_inLine ∈ BG := mB (t1 (i := 234) (by decide +kernel)) (by decide +kernel)
theorem mw_1_235 : Cond.selects RX1 yX1_inLine yX1_inLine ∈ BG := mB (t1 (i := 235) (by decide +kernel)) (by decide +kernel)
theorem dX1_belowOf_0 : decode cX1_belowOf 0 = .ok (.iconst 0, 1) := by decide +kernel
theorem dX1_belowOf_1 : decode cX1_belowOf 1 = .ok (.istore_n 2, 1) := by decide +kernel
theorem dX1_belowOf_2 : decode cX1_belowOf 2 = .ok (.iconst 0, 1) := by decide +kernel
theorem dX1_belowOf_3 : decode cX1_belowOf 3 = .ok (.istore_n 3, 1) := by decide +kernel
theorem dX1_belowOf_4 : decode cX1_belowOf 4 = .ok (.iload_n 3, 1) := by decide +kernel
theorem dX1_belowOf_5 : decode cX1_belowOf 5 = .ok (.aload_n 0, 1) := by decide +kernel
theorem dX1_belowOf_6 : decode cX1_belowOf 6 = .ok (.getfield 34, 3) := by decide +kernel
theorem dX1_belowOf_9 : decode cX1_belowOf 9 = .ok (.if_icmp .ge 28, 3) := by decide +kernel
theorem dX1_belowOf_37 : decode cX1_belowOf 37 = .ok (.iload_n 2, 1) := by decide +kernel
theorem dX1_belowOf_38 : decode cX1_belowOf 38 = .ok (.ireturn, 1) := by decide +kernel
theorem dX1_belowOf_12 : decode cX1_belowOf 12 = .ok (.iload_n 1, 1) := by decide +kernel
theorem dX1_belowOf_13 : decode cX1_belowOf 13 = .ok (.aload_n 0, 1) := by decide +kernel
theorem dX1_belowOf_14 : decode cX1_belowOf 14 = .ok (.getfield 9, 3) := by decide +kernel
theorem dX1_belowOf_17 : decode cX1_belowOf 17 = .ok (.iload_n 3, 1) := by decide +kernel
theorem dX1_belowOf_18 : decode cX1_belowOf 18 = .ok (.iaload, 1) := by decide +kernel
theorem dX1_belowOf_19 : decode cX1_belowOf 19 = .ok (.invokestatic 45, 3) := by decide +kernel
theorem dX1_belowOf_22 : decode cX1_belowOf 22 = .ok (.ifCond .eq 9, 3) := by decide +kernel
theorem dX1_belowOf_25 : decode cX1_belowOf 25 = .ok (.iload_n 2, 1) := by decide +kernel
theorem dX1_belowOf_26 : decode cX1_belowOf 26 = .ok (.iconst 1, 1) := by decide +kernel
theorem dX1_belowOf_27 : decode cX1_belowOf 27 = .ok (.iload_n 3, 1) := by decide +kernel
theorem dX1_belowOf_28 : decode cX1_belowOf 28 = .ok (.ishl, 1) := by decide +kernel
theorem dX1_belowOf_29 : decode cX1_belowOf 29 = .ok (.ior, 1) := by decide +kernel
theorem dX1_belowOf_30 : decode cX1_belowOf 30 = .ok (.istore_n 2, 1) := by decide +kernel
theorem dX1_belowOf_31 : decode cX1_belowOf 31 = .ok (.iinc 3 1, 3) := by decide +kernel
theorem dX1_belowOf_34 : decode cX1_belowOf 34 = .ok (.goto (-30), 3) := by decide +kernel
theorem dX1_setBare_0 : decode cX1_setBare 0 = .ok (.aload_n 0, 1) := by decide +kernel
theorem dX1_setBare_1 : decode cX1_setBare 1 = .ok (.iload_n 1, 1) := by decide +kernel
theorem dX1_setBare_2 : decode cX1_setBare 2 = .ok (.invokevirtual 38, 3) := by decide +kernel
theorem dX1_setBare_5 : decode cX1_setBare 5 = .ok (.ifCond .ne 4, 3) := by decide +kernel
theorem dX1_setBare_9 : decode cX1_setBare 9 = .ok (.aload_n 0, 1) := by decide +kernel
theorem dX1_setBare_10 : decode cX1_setBare 10 = .ok (.iload_n 2, 1) := by decide +kernel
theorem dX1_setBare_11 : decode cX1_setBare 11 = .ok (.ifCond .eq 14, 3) := by decide +kernel
theorem dX1_setBare_25 : decode cX1_setBare 25 = .ok (.aload_n 0, 1) := by decide +kernel
theorem dX1_setBare_26 : decode cX1_setBare 26 = .ok (.getfield 42, 3) := by decide +kernel
theorem dX1_setBare_29 : decode cX1_setBare 29 = .ok (.iconst 1, 1) := by decide +kernel
theorem dX1_setBare_30 : decode cX1_setBare 30 = .ok (.iload_n 1, 1) := by decide +kernel
theorem dX1_setBare_31 : decode cX1_setBare 31 = .ok (.ishl, 1) := by decide +kernel
theorem dX1_setBare_32 : decode cX1_setBare 32 = .ok (.iconst (-1), 1) := by decide +kernel
theorem dX1_setBare_33 : decode cX1_setBare 33 = .ok (.ixor, 1) := by decide +kernel
theorem dX1_setBare_34 : decode cX1_setBare 34 = .ok (.iand, 1) := by decide +kernel
theorem dX1_setBare_35 : decode cX1_setBare 35 = .ok (.putfield 42, 3) := by decide +kernel
theorem dX1_setBare_38 : decode cX1_setBare 38 = .ok (.return_, 1) := by decide +kernel
theorem dX1_setBare_14 : decode cX1_setBare 14 = .ok (.aload_n 0, 1) := by decide +kernel
theorem dX1_setBare_15 : decode cX1_setBare 15 = .ok (.getfield 42, 3) := by decide +kernel
theorem dX1_setBare_18 : decode cX1_setBare 18 = .ok (.iconst 1, 1) := by decide +kernel
theorem dX1_setBare_19 : decode cX1_setBare 19 = .ok (.iload_n 1, 1) := by decide +kernel
theorem dX1_setBare_20 : decode cX1_setBare 20 = .ok (.ishl, 1) := by decide +kernel
theorem dX1_setBare_21 : decode cX1_setBare 21 = .ok (.ior, 1) := by decide +kernel
theorem dX1_setBare_22 : decode cX1_setBare 22 = .ok (.goto 13, 3) := by decide +kernel
theorem dX1_inLine_0 : decode cX1_inLine 0 = .ok (.iload_n 2, 1) := by decide +kernel
theorem dX1_inLine_1 : decode cX1_inLine 1 = .ok (.ifCond .lt 12, 3) := by decide +kernel
theorem dX1_inLine_13 : decode cX1_inLine 13 = .ok (.bipush (-6), 2) := by decide +kernel
theorem dX1_inLine_15 : decode cX1_inLine 15 = .ok (.ireturn, 1) := by decide +kernel
theorem dX1_inLine_4 : decode cX1_inLine 4 = .ok (.iload_n 2, 1) := by decide +kernel
theorem dX1_inLine_5 : decode cX1_inLine 5 = .ok (.aload_n 0, 1) := by decide +kernel
theorem dX1_inLine_6 : decode cX1_inLine 6 = .ok (.iload_n 1, 1) := by decide +kernel
theorem dX1_inLine_7 : decode cX1_inLine 7 = .ok (.invokevirtual 49, 3) := by decide +kernel
theorem dX1_inLine_10 : decode cX1_inLine 10 = .ok (.if_icmp .lt 6, 3) := by decide +kernel
theorem dX1_inLine_16 : decode cX1_inLine 16 = .ok (.aload_n 0, 1) := by decide +kernel
theorem dX1_inLine_17 : decode cX1_inLine 17 = .ok (.getfield 21, 3) := by decide +kernel
theorem dX1_inLine_20 : decode cX1_inLine 20 = .ok (.iload_n 1, 1) := by decide +kernel
theorem dX1_inLine_21 : decode cX1_inLine 21 = .ok (.bipush 10, 2) := by decide +kernel
theorem dX1_inLine_23 : decode cX1_inLine 23 = .ok (.imul, 1) := by decide +kernel
theorem dX1_inLine_24 : decode cX1_inLine 24 = .ok (.iload_n 2, 1) := by decide +kernel
theorem dX1_inLine_25 : decode cX1_inLine 25 = .ok (.iadd, 1) := by decide +kernel
theorem dX1_inLine_26 : decode cX1_inLine 26 = .ok (.iaload, 1) := by decide +kernel
theorem dX1_inLine_27 : decode cX1_inLine 27 = .ok (.ireturn, 1) := by decide +kernel
theorem dX1_whereFirst_0 : decode cX1_whereFirst 0 = .ok (.aload_n 0, 1) := by decide +kernel
theorem dX1_whereFirst_1 : decode cX1_whereFirst 1 = .ok (.iload_n 1, 1) := by decide +kernel
theorem dX1_whereFirst_2 : decode cX1_whereFirst 2 = .ok (.invokevirtual 49, 3) := by decide +kernel
theorem dX1_whereFirst_5 : decode cX1_whereFirst 5 = .ok (.istore 4, 2) := by decide +kernel
theorem dX1_whereFirst_7 : decode cX1_whereFirst 7 = .ok (.iload_n 3, 1) := by decide +kernel
theorem dX1_whereFirst_8 : decode cX1_whereFirst 8 = .ok (.iconst 0, 1) := by decide +kernel
theorem dX1_whereFirst_9 : decode cX1_whereFirst 9 = .ok (.invokestatic 59, 3) := by decide +kernel
theorem dX1_whereFirst_12 : decode cX1_whereFirst 12 = .ok (.istore 5, 2) := by decide +kernel
theorem dX1_whereFirst_14 : decode cX1_whereFirst 14 = .ok (.iload 5, 2) := by decide +kernel
theorem dX1_whereFirst_16 : decode cX1_whereFirst 16 = .ok (.iload 4, 2) := by decide +kernel
theorem dX1_whereFirst_18 : decode cX1_whereFirst 18 = .ok (.if_icmp .ge 31, 3) := by decide +kernel
theorem dX1_whereFirst_49 : decode cX1_whereFirst 49 = .ok (.bipush (-6), 2) := by decide +kernel
theorem dX1_whereFirst_51 : decode cX1_whereFirst 51 = .ok (.ireturn, 1) := by decide +kernel
theorem dX1_whereFirst_21 : decode cX1_whereFirst 21 = .ok (.aload_n 0, 1) := by decide +kernel
theorem dX1_whereFirst_22 : decode cX1_whereFirst 22 = .ok (.getfield 21, 3) := by decide +kernel
theorem dX1_whereFirst_25 : decode cX1_whereFirst 25 = .ok (.iload_n 1, 1) := by decide +kernel
theorem dX1_whereFirst_26 : decode cX1_whereFirst 26 = .ok (.bipush 10, 2) := by decide +kernel
theorem dX1_whereFirst_28 : decode cX1_whereFirst 28 = .ok (.imul, 1) := by decide +kernel
theorem dX1_whereFirst_29 : decode cX1_whereFirst 29 = .ok (.iload 5, 2) := by decide +kernel
theorem dX1_whereFirst_31 : decode cX1_whereFirst 31 = .ok (.iadd, 1) := by decide +kernel
theorem dX1_whereFirst_32 : decode cX1_whereFirst 32 = .ok (.iaload, 1) := by decide +kernel
theorem dX1_whereFirst_33 : decode cX1_whereFirst 33 = .ok (.iload_n 2, 1) := by decide +kernel
theorem dX1_whereFirst_34 : decode cX1_whereFirst 34 = .ok (.invokestatic 45, 3) := by decide +kernel
theorem dX1_whereFirst_37 : decode cX1_whereFirst 37 = .ok (.ifCond .eq 6, 3) := by decide +kernel
theorem dX1_whereFirst_40 : decode cX1_whereFirst 40 = .ok (.iload 5, 2) := by decide +kernel
theorem dX1_whereFirst_42 : decode cX1_whereFirst 42 = .ok (.ireturn, 1) := by decide +kernel
theorem dX1_whereFirst_43 : decode cX1_whereFirst 43 = .ok (.iinc 5 1, 3) := by decide +kernel
theorem dX1_whereFirst_46 : decode cX1_whereFirst 46 = .ok (.goto (-32), 3) := by decide +kernel
theorem dX1_firstOf_0 : decode cX1_firstOf 0 = .ok (.aload_n 0, 1) := by decide +kernel
theorem dX1_firstOf_1 : decode cX1_firstOf 1 = .ok (.iload_n 1, 1) := by decide +kernel
theorem dX1_firstOf_2 : decode cX1_firstOf 2 = .ok (.aload_n 0, 1) := by decide +kernel
theorem dX1_firstOf_3 : decode cX1_firstOf 3 = .ok (.iload_n 1, 1) := by decide +kernel
theorem dX1_firstOf_4 : decode cX1_firstOf 4 = .ok (.iload_n 2, 1) := by decide +kernel
theorem dX1_firstOf_5 : decode cX1_firstOf 5 = .ok (.iload_n 3, 1) := by decide +kernel
theorem dX1_firstOf_6 : decode cX1_firstOf 6 = .ok (.invokevirtual 65, 3) := by decide +kernel
theorem dX1_firstOf_9 : decode cX1_firstOf 9 = .ok (.invokevirtual 69, 3) := by decide +kernel
theorem dX1_firstOf_12 : decode cX1_firstOf 12 = .ok (.ireturn, 1) := by decide +kernel
set_option maxHeartbeats 4000000 in
set_option maxRecDepth 100000 in
theorem c_belowOf (l : Launch) (dC : Nat → ClassId) (dI : Nat → Nat → Nat) (sz : Nat) (h0 : Nat) (b0 : Nat) (w1 : Value) (w2 : Value) (w3 : Value) (w4 : Value) (w5 : Value) (cn : Nat) (w7 : Value) (kb0 : ClassId) (fab : Nat → Int32) (kq : Nat) (hc : cn ≤ 10) (hk10 : kq < 10) : Met l yX1_belowOf (wq yX1_belowOf cX1_belowOf 4 (some .int)) ({ frames := 1, cells := 0, slots := 0, locals := 21 }) (va_Pc [.ref h0, .int (nI kq)] (pcW dC dI [(kb0, .int)] [(h0, .inr (1, [.ref b0, w1, w2, w3, w4, w5, .int (nI cn), w7])), (b0, .inl (kb0, 10, .inl fab))] sz)) (va_Qi (fun (r : Int32) (_ : Unit) => r = (blF fab cn kq)) (fun _ _ => True) (fun q : Nat => sz ≤ q)) 0 0 (fun q : Nat => sz ≤ q) := by
  refine Met.ofW (cc := cX1_belowOf) (maxL := 4) (ret := (some .int)) (by decide) rfl ?_
  intro p e s m args below meth c s₁ B hml hv
  obtain ⟨rfl, hsz, hN, hP, hK, hD0⟩ := hv
  have hx := B.exec
  have hb := B.bytes
  have hr := B.returns
  have hts0 := atoms_spec (ws := (wq yX1_belowOf cX1_belowOf 4 (some .int))) B.pre
  have hts : ∀ w ∈ BG, w.before _ s = true := fun w h => hts0 w (List.mem_cons_of_mem _ h)
  have hown : s.vm.findClass RX1 = some m.cls := findClass_of_methodNamed B.named
  have hlocks := B.notSynchronized
  subst hsz
  have hA : ∀ q : Nat, s.heap.size ≤ q → (fun q : Nat => s.heap.size ≤ q) q := fun _ h => h
  have hD := hD0
  have hS : va_S (fun q : Nat => s.heap.size ≤ q) s.heap s.heap [] := va_S.rf
  have hP : va_P (dC, dI) vwCl [(h0, .inr (1, [.ref b0, w1, w2, w3, w4, w5, .int (nI cn), w7])), (b0, .inl (kb0, 10, .inl fab))] s.heap := hP
  have hl := lv_entry ([.ref h0, .int (nI kq)]) (n := 4) (Nat.le_of_ble_eq_true rfl)
  rw [lg_entry_eq]
  generalize (lg_sl ([.ref h0, .int (nI kq)]) ++ List.replicate (4 - (lg_sl ([.ref h0, .int (nI kq)])).length) Slot.unset).toArray = ls at hl ⊢
  have hl : lv_has ls 4 [(0, .ref h0), (1, .int (nI kq))] := hl
  refine lv_iconst (v := 0) hx hb dX1_belowOf_0 (by decide) ?_
  refine lv_istore_n (lv' := [(2, .int 0), (0, .ref h0), (1, .int (nI kq))]) hx hb dX1_belowOf_1 rfl hl (by decide) rfl (fun ls hl => ?_)
  refine lv_iconst (v := 0) hx hb dX1_belowOf_2 (by decide) ?_
  refine lv_istore_n (lv' := [(3, .int 0), (2, .int 0), (0, .ref h0), (1, .int (nI kq))]) hx hb dX1_belowOf_3 rfl hl (by decide) rfl (fun ls hl => ?_)
  have key_1 : ∀ (fu : Nat) (k : Nat) (ac : Int32), (k ≤ cn) → (ac = bitsF (fun o => bt (fab o) kq) k) → cn - k < fu → ∀ (H : Heap) (locs : List Loc), va_P (dC, dI) vwCl [(h0, .inr (1, [.ref b0, w1, w2, w3, w4, w5, .int (nI cn), w7])), (b0, .inl (kb0, 10, .inl fab))] H → va_S (fun q : Nat => s.heap.size ≤ q) s.heap H locs → ∀ (ls : Array Slot), lv_has ls 4 [(3, .int (nI k)), (2, .int ac), (0, .ref h0), (1, .int (nI kq))] → W p l e (headSpec (wq yX1_belowOf cX1_belowOf 4 (some .int)) ({ frames := 1, cells := 0, slots := 0, locals := 21 })).room s m (([.ref h0, .int (nI kq)] : List Value)).toArray below meth c H locs 0 0 (MQ below (va_Qi (fun (r : Int32) (_ : Unit) => r = (blF fab cn kq)) (fun _ _ => True) (fun q : Nat => s.heap.size ≤ q)) (([.ref h0, .int (nI kq)] : List Value)).toArray s 0 0 (fun q : Nat => s.heap.size ≤ q)) (F0 m 4 ls []) := by
    intro fu
    induction fu with
    | zero => intro k ac hk hac hme; exact absurd hme (Nat.not_lt_zero _)
    | succ fu ih_2 =>
      intro k ac hk hac hme H locs hP hS ls hl
      refine lv_iload_n hx hb dX1_belowOf_4 rfl (lv_at hl 0 rfl) ?_
      refine lv_aload_n hx hb dX1_belowOf_5 rfl (lv_at hl 2 rfl) ?_
      refine va_get (D := (dC, dI)) (ci := 1) (v := .int (nI cn)) (C := RX1) (T := TX1) (N := 8) hx hb hts inB_1 hown hK hP 0 rfl rfl 6 (by decide) (hts _ mw_1_53) (fun _ h9 => h9) rfl dX1_belowOf_6 ?_
      refine lv_icmp_ge (tgt := 37) hx hb dX1_belowOf_9 (by decide) (fun c_3 => ?_) (fun c_3 => ?_)
      · have b_4 := gx_ge (X := ((k : Nat) : Int)) (C := ((cn : Nat) : Int)) (nI_toInt (by omega)) (nI_toInt (by omega)) c_3
        refine lv_iload_n hx hb dX1_belowOf_37 rfl (lv_at hl 1 rfl) ?_
        exact W.iret (v := ac) hx hb hr (fun t ht hW => ⟨⟨ac, (), rfl, (by rw [hac, show k = cn from (by omega)]; rfl), trivial⟩, hS.F ht⟩) hS.2.2 dX1_belowOf_38
      · have b_4 := gn_ge (X := ((k : Nat) : Int)) (C := ((cn : Nat) : Int)) (nI_toInt (by omega)) (nI_toInt (by omega)) c_3
        refine lv_iload_n hx hb dX1_belowOf_12 rfl (lv_at hl 3 rfl) ?_
        refine lv_aload_n hx hb dX1_belowOf_13 rfl (lv_at hl 2 rfl) ?_
        refine va_get (D := (dC, dI)) (ci := 1) (v := .ref b0) (C := RX1) (T := TX1) (N := 8) hx hb hts inB_1 hown hK hP 0 rfl rfl 0 (by decide) (hts _ mw_1_47) (fun _ h9 => h9) rfl dX1_belowOf_14 ?_
        refine lv_iload_n hx hb dX1_belowOf_17 rfl (lv_at hl 0 rfl) ?_
        refine va_iald hx hb hK hP 1 0 rfl rfl (show vp_in (nI k) 10 from vp_in_nI (by omega) (by omega)) dX1_belowOf_18 ?_
        refine hx_top (y := (fab k)) (congrArg _ (nI_clamp (by omega))) ?_
        have hPc := hP.sub (ws' := []) [] rfl
        have hDc := hD.sub (ws' := []) [] (by decide) rfl
        have hKc := hK.sub (tys' := []) [] rfl
        refine va_calli (va_runSN (As := [.int (nI kq), .int (fab k)]) (rest := []) ⟨hx, hb, hml, hown, hts⟩ (c_isIn l dC dI H.size (nI kq) (fab k) ) ⟨va_cnB 2 hts (gN mw_2_15) rfl rfl rfl (hN (RX1, 45, yX8_isIn, RX8) (List.mem_of_getElem? (i := 7) rfl)) (hts _ mw_1_1) (by decide +kernel) ⟨Nat.le_of_ble_eq_true rfl, Nat.le_of_ble_eq_true rfl⟩, (hts _ mw_2_14), trivial⟩ ⟨pcW_blind, pcW_at hPc hKc hDc hN⟩ rfl rfl hl.1 rfl (lv_room (Nat.le_of_ble_eq_true rfl)) dX1_belowOf_19 ⟨Nat.le_of_ble_eq_true rfl, Nat.le_of_ble_eq_true rfl⟩) hS (fun q h1 h2 => absurd h2 (Nat.not_le.mpr h1)) (fun q h => hA q (Nat.le_trans hS.1 h)) (fun r_5 u t H1 locs ht hvm hw_5 hB hz1 hk1 hS => ?_)
        have hP := keepP hP hk1
        clear hz1 hk1 hB ht hvm hPc hDc hKc
        generalize H1 = H at hP hS ⊢
        rcases fx_bool hw_5 with ⟨rfl, b_6⟩ | ⟨rfl, b_6⟩
        · skip
          refine lv_if_eq (tgt := 31) hx hb dX1_belowOf_22 (by decide) (fun h => absurd h (by decide)) (fun _ => ?_)
          refine lv_iload_n hx hb dX1_belowOf_25 rfl (lv_at hl 1 rfl) ?_
          refine lv_iconst (v := 1) hx hb dX1_belowOf_26 (by decide) ?_
          refine lv_iload_n hx hb dX1_belowOf_27 rfl (lv_at hl 0 rfl) ?_
          refine lv_ishl hx hb dX1_belowOf_28 ?_
          refine lv_ior hx hb dX1_belowOf_29 ?_
          refine lv_istore_n (lv' := [(2, .int (ac ||| (1 <<< ((nI k) &&& 31)))), (3, .int (nI k)), (0, .ref h0), (1, .int (nI kq))]) hx hb dX1_belowOf_30 rfl hl (by decide) rfl (fun ls hl => ?_)
          refine lv_iinc (v := (nI (k + 1))) (lv' := [(3, .int (nI (k + 1))), (2, .int (ac ||| (1 <<< ((nI k) &&& 31)))), (0, .ref h0), (1, .int (nI kq))]) hx hb dX1_belowOf_31 hl (k := 1) rfl (nI_add k 1) (by decide) rfl (fun ls hl => ?_)
          refine lv_goto (tgt := 4) hx hb dX1_belowOf_34 (by decide) ?_
          exact ih_2 (k + 1) (ac ||| (1 <<< ((nI k) &&& 31))) (by omega) (by rw [hac]; exact bits_t (t_yes (by omega) b_6)) (by omega) _ _ hP hS ls (lv_sub hl [0, 1, 2, 3] rfl)
        · skip
          refine lv_if_eq (tgt := 31) hx hb dX1_belowOf_22 (by decide) (fun _ => ?_) (fun h => absurd (by decide) h)
          refine lv_iinc (v := (nI (k + 1))) (lv' := [(3, .int (nI (k + 1))), (2, .int ac), (0, .ref h0), (1, .int (nI kq))]) hx hb dX1_belowOf_31 hl (k := 0) rfl (nI_add k 1) (by decide) rfl (fun ls hl => ?_)
          refine lv_goto (tgt := 4) hx hb dX1_belowOf_34 (by decide) ?_
          exact ih_2 (k + 1) ac (by omega) (by rw [hac]; exact bits_f (t_no (by omega) b_6)) (by omega) _ _ hP hS ls (lv_sub hl [0, 1, 2, 3] rfl)
  exact key_1 ((cn - 0) + 1) 0 0 (by omega) rfl (Nat.lt_succ_self _) _ _ hP hS ls (lv_sub hl [0, 1, 2, 3] rfl)
set_option maxHeartbeats 4000000 in
set_option maxRecDepth 100000 in
theorem c_setBare (l : Launch) (dC : Nat → ClassId) (dI : Nat → Nat → Nat) (sz : Nat) (h0 : Nat) (w0 : Value) (w1 : Value) (w2 : Value) (w3 : Value) (w4 : Value) (w5 : Value) (cn : Nat) (bb : Int32) (kq : Nat) (v : Int32) (hc : cn ≤ 10) (hkq : kq < cn) : Met l yX1_setBare (wq yX1_setBare cX1_setBare 3 none) ({ frames := 1, cells := 0, slots := 0, locals := 21 }) (va_Pc [.ref h0, .int (nI kq), .int v] (pcW dC dI [] [(h0, .inr (1, [w0, w1, w2, w3, w4, w5, .int (nI cn), .int bb]))] sz)) (va_Qv (fun _ : Unit => True) (fun _ t => ∃ (bb2 : Int32), (bb2 = sbF bb kq v) ∧ va_P (dC, dI) vwCl [(h0, .inr (1, [w0, w1, w2, w3, w4, w5, .int (nI cn), .int bb2]))] t.heap ∧ va_K (dC, dI) vwCl [] t ∧ va_D (va_A [(h0, .inr (1, [w0, w1, w2, w3, w4, w5, .int (nI cn), .int bb]))] sz) [(h0, .inr (1, [w0, w1, w2, w3, w4, w5, .int (nI cn), .int bb2]))]) (va_A [(h0, .inr (1, [w0, w1, w2, w3, w4, w5, .int (nI cn), .int bb]))] sz)) 0 0 (va_A [(h0, .inr (1, [w0, w1, w2, w3, w4, w5, .int (nI cn), .int bb]))] sz) := by
  refine Met.ofW (cc := cX1_setBare) (maxL := 3) (ret := none) (by decide) rfl ?_
  intro p e s m args below meth c s₁ B hml hv
  obtain ⟨rfl, hsz, hN, hP, hK, hD0⟩ := hv
  have hx := B.exec
  have hb := B.bytes
  have hr := B.returns
  have hts0 := atoms_spec (ws := (wq yX1_setBare cX1_setBare 3 none)) B.pre
  have hts : ∀ w ∈ BG, w.before _ s = true := fun w h => hts0 w (List.mem_cons_of_mem _ h)
  have hown : s.vm.findClass RX1 = some m.cls := findClass_of_methodNamed B.named
  have hlocks := B.notSynchronized
  subst hsz
  have hD := hD0.self (sz := s.heap.size)
  generalize hAe : va_A [(h0, .inr (1, [w0, w1, w2, w3, w4, w5, .int (nI cn), .int bb]))] s.heap.size = A at hD ⊢
  have hA : ∀ q : Nat, s.heap.size ≤ q → A q := fun q h => by rw [← hAe]; exact Or.inr h
  have hS : va_S A s.heap s.heap [] := va_S.rf
  clear hAe hD0
  have hP : va_P (dC, dI) vwCl [(h0, .inr (1, [w0, w1, w2, w3, w4, w5, .int (nI cn), .int bb]))] s.heap := hP
  have hl := lv_entry ([.ref h0, .int (nI kq), .int v]) (n := 3) (Nat.le_of_ble_eq_true rfl)
  rw [lg_entry_eq]
  generalize (lg_sl ([.ref h0, .int (nI kq), .int v]) ++ List.replicate (3 - (lg_sl ([.ref h0, .int (nI kq), .int v])).length) Slot.unset).toArray = ls at hl ⊢
  have hl : lv_has ls 3 [(0, .ref h0), (1, .int (nI kq)), (2, .int v)] := hl
  have ykq : Int32.toInt (nI kq) = ((kq : Nat) : Int) := nI_toInt (by omega)
  refine lv_aload_n hx hb dX1_setBare_0 rfl (lv_at hl 0 rfl) ?_
  refine lv_iload_n hx hb dX1_setBare_1 rfl (lv_at hl 1 rfl) ?_
  have hPc := hP.sub (ws' := [(h0, .inr (1, [w0, w1, w2, w3, w4, w5, .int (nI cn), .int bb]))]) [0] rfl
  have hDc := hD.sub (ws' := [(h0, .inr (1, [w0, w1, w2, w3, w4, w5, .int (nI cn), .int bb]))]) [0] (by decide) rfl
  have hKc := hK.sub (tys' := []) [] rfl
  refine va_calli (va_runV (As := [.int (nI kq)]) (rest := []) ⟨hx, hb, hml, hown, hts⟩ (c_knows l dC dI s.heap.size h0 (w0) (w1) (w2) (w3) (w4) (w5) cn (.int bb) (nI kq) hc) (cwV 1 hts (gV mw_1_208 mw_1_192 mw_1_193 mw_1_2 mw_1_194) rfl rfl rfl (by decide +kernel) ⟨Nat.le_of_ble_eq_true rfl, Nat.le_of_ble_eq_true rfl⟩) ⟨pcW_blind, va_recv hKc hPc (ci := 1) (q0 := 0) rfl rfl, pcW_at hPc hKc hDc hN⟩ rfl rfl hl.1 rfl (lv_room (Nat.le_of_ble_eq_true rfl)) dX1_setBare_2 ⟨Nat.le_of_ble_eq_true rfl, Nat.le_of_ble_eq_true rfl⟩) hS (fun q h1 h2 => absurd h2 (Nat.not_le.mpr h1)) (fun q h => hA q (Nat.le_trans hS.1 h)) (fun r_1 u t H1 locs ht hvm hw_1 hB hz1 hk1 hS => ?_)
  have hP := keepP hP hk1
  clear hz1 hk1 hB ht hvm hPc hDc hKc
  generalize H1 = H at hP hS ⊢
  obtain rfl : r_1 = 1 := hw_1.trans (if_pos (by omega))
  refine lv_if_ne (tgt := 9) hx hb dX1_setBare_5 (by decide) (fun _ => ?_) (fun h => absurd h (by decide))
  refine lv_aload_n hx hb dX1_setBare_9 rfl (lv_at hl 0 rfl) ?_
  refine lv_iload_n hx hb dX1_setBare_10 rfl (lv_at hl 2 rfl) ?_
  refine lv_if_eq (tgt := 25) hx hb dX1_setBare_11 (by decide) (fun c_3 => ?_) (fun c_3 => ?_)
  · have b_4 := gx_eq (X := (Int32.toInt v)) (C := 0) rfl (by decide) c_3
    refine lv_aload_n hx hb dX1_setBare_25 rfl (lv_at hl 0 rfl) ?_
    refine va_get (D := (dC, dI)) (ci := 1) (v := .int bb) (C := RX1) (T := TX1) (N := 8) hx hb hts inB_1 hown hK hP 0 rfl rfl 7 (by decide) (hts _ mw_1_54) (fun _ h9 => h9) rfl dX1_setBare_26 ?_
    refine lv_iconst (v := 1) hx hb dX1_setBare_29 (by decide) ?_
    refine lv_iload_n hx hb dX1_setBare_30 rfl (lv_at hl 1 rfl) ?_
    refine lv_ishl hx hb dX1_setBare_31 ?_
    refine lv_iconst (v := (-1)) hx hb dX1_setBare_32 (by decide) ?_
    refine lv_ixor hx hb dX1_setBare_33 ?_
    refine lv_iand hx hb dX1_setBare_34 ?_
    refine lv_topi (fun z_5 ez_5 => ?_)
    refine va_put (D := (dC, dI)) (ci := 1) (v := .int z_5) (ty := .int) (C := RX1) (T := TX1) (N := 8) hx hb hts inB_1 tyX1 tyX1_ok nmX1 hown hK hP hD hS 0 rfl rfl 7 (by decide) (hts _ mw_1_54) (fun _ h9 => h9) rfl (by decide +kernel) rfl rfl (Nat.le_of_ble_eq_true rfl) dX1_setBare_35 (fun H locs hP hD hS => ?_)
    have hP : va_P (dC, dI) vwCl [(h0, .inr (1, [w0, w1, w2, w3, w4, w5, .int (nI cn), .int z_5]))] H := hP
    have hD : va_D A [(h0, .inr (1, [w0, w1, w2, w3, w4, w5, .int (nI cn), .int z_5]))] := hD
    have hP9 := hP.sub (ws' := [(h0, .inr (1, [w0, w1, w2, w3, w4, w5, .int (nI cn), .int z_5]))]) [0] rfl
    have hD9 := hD.sub (ws' := [(h0, .inr (1, [w0, w1, w2, w3, w4, w5, .int (nI cn), .int z_5]))]) [0] (by decide) rfl
    have hK9 := hK.sub (tys' := []) [] rfl
    exact W.vret hx hb hr (fun t ht hW => ⟨⟨(), rfl, trivial, z_5, (by rw [ez_5]; exact (if_pos c_3).symm), by rw [ht]; exact hP9, va_K.moved hW.alike hK9, hD9⟩, hS.F ht⟩) hS.2.2 dX1_setBare_38
  · have b_4 := gn_eq (X := (Int32.toInt v)) (C := 0) rfl (by decide) c_3
    refine lv_aload_n hx hb dX1_setBare_14 rfl (lv_at hl 0 rfl) ?_
    refine va_get (D := (dC, dI)) (ci := 1) (v := .int bb) (C := RX1) (T := TX1) (N := 8) hx hb hts inB_1 hown hK hP 0 rfl rfl 7 (by decide) (hts _ mw_1_54) (fun _ h9 => h9) rfl dX1_setBare_15 ?_
    refine lv_iconst (v := 1) hx hb dX1_setBare_18 (by decide) ?_
    refine lv_iload_n hx hb dX1_setBare_19 rfl (lv_at hl 1 rfl) ?_
    refine lv_ishl hx hb dX1_setBare_20 ?_
    refine lv_ior hx hb dX1_setBare_21 ?_
    refine lv_goto (tgt := 35) hx hb dX1_setBare_22 (by decide) ?_
    refine lv_topi (fun z_6 ez_6 => ?_)
    refine va_put (D := (dC, dI)) (ci := 1) (v := .int z_6) (ty := .int) (C := RX1) (T := TX1) (N := 8) hx hb hts inB_1 tyX1 tyX1_ok nmX1 hown hK hP hD hS 0 rfl rfl 7 (by decide) (hts _ mw_1_54) (fun _ h9 => h9) rfl (by decide +kernel) rfl rfl (Nat.le_of_ble_eq_true rfl) dX1_setBare_35 (fun H locs hP hD hS => ?_)
    have hP : va_P (dC, dI) vwCl [(h0, .inr (1, [w0, w1, w2, w3, w4, w5, .int (nI cn), .int z_6]))] H := hP
    have hD : va_D A [(h0, .inr (1, [w0, w1, w2, w3, w4, w5, .int (nI cn), .int z_6]))] := hD
    have hP9 := hP.sub (ws' := [(h0, .inr (1, [w0, w1, w2, w3, w4, w5, .int (nI cn), .int z_6]))]) [0] rfl
    have hD9 := hD.sub (ws' := [(h0, .inr (1, [w0, w1, w2, w3, w4, w5, .int (nI cn), .int z_6]))]) [0] (by decide) rfl
    have hK9 := hK.sub (tys' := []) [] rfl
    exact W.vret hx hb hr (fun t ht hW => ⟨⟨(), rfl, trivial, z_6, (by rw [ez_6]; exact (if_neg c_3).symm), by rw [ht]; exact hP9, va_K.moved hW.alike hK9, hD9⟩, hS.F ht⟩) hS.2.2 dX1_setBare_38
set_option maxHeartbeats 4000000 in
set_option maxRecDepth 100000 in
theorem c_inLineG (l : Launch) (dC : Nat → ClassId) (dI : Nat → Nat → Nat) (sz : Nat) (h0 : Nat) (w0 : Value) (b1 : Nat) (w2 : Value) (b3 : Nat) (w4 : Value) (w5 : Value) (cn : Nat) (w7 : Value) (kb1 : ClassId) (fle : Nat → Int32) (kb3 : ClassId) (fli : Nat → Int32) (kq : Nat) (i : Int32) (hc : cn ≤ 10) (hle : BdOk 10 10 fle) (hk10 : kq < 10) : Met l yX1_inLine (wq yX1_inLine cX1_inLine 3 (some .int)) ({ frames := 2, cells := 0, slots := 0, locals := 42 }) (va_Pc [.ref h0, .int (nI kq), .int i] (pcW dC dI [(kb1, .int), (kb3, .int)] [(h0, .inr (1, [w0, .ref b1, w2, .ref b3, w4, w5, .int (nI cn), w7])), (b1, .inl (kb1, 10, .inl fle)), (b3, .inl (kb3, 100, .inl fli))] sz)) (va_Qi (fun (r : Int32) (_ : Unit) => r = inF fle fli cn kq i) (fun _ _ => True) (fun q : Nat => sz ≤ q)) 0 0 (fun q : Nat => sz ≤ q) := by
  refine Met.ofW (cc := cX1_inLine) (maxL := 3) (ret := (some .int)) (by decide) rfl ?_
  intro p e s m args below meth c s₁ B hml hv
  obtain ⟨rfl, hsz, hN, hP, hK, hD0⟩ := hv
  have hx := B.exec
  have hb := B.bytes
  have hr := B.returns
  have hts0 := atoms_spec (ws := (wq yX1_inLine cX1_inLine 3 (some .int))) B.pre
  have hts : ∀ w ∈ BG, w.before _ s = true := fun w h => hts0 w (List.mem_cons_of_mem _ h)
  have hown : s.vm.findClass RX1 = some m.cls := findClass_of_methodNamed B.named
  have hlocks := B.notSynchronized
  subst hsz
  have hA : ∀ q : Nat, s.heap.size ≤ q → (fun q : Nat => s.heap.size ≤ q) q := fun _ h => h
  have hD := hD0
  have hS : va_S (fun q : Nat => s.heap.size ≤ q) s.heap s.heap [] := va_S.rf
  have hP : va_P (dC, dI) vwCl [(h0, .inr (1, [w0, .ref b1, w2, .ref b3, w4, w5, .int (nI cn), w7])), (b1, .inl (kb1, 10, .inl fle)), (b3, .inl (kb3, 100, .inl fli))] s.heap := hP
  have hl := lv_entry ([.ref h0, .int (nI kq), .int i]) (n := 3) (Nat.le_of_ble_eq_true rfl)
  rw [lg_entry_eq]
  generalize (lg_sl ([.ref h0, .int (nI kq), .int i]) ++ List.replicate (3 - (lg_sl ([.ref h0, .int (nI kq), .int i])).length) Slot.unset).toArray = ls at hl ⊢
  have hl : lv_has ls 3 [(0, .ref h0), (1, .int (nI kq)), (2, .int i)] := hl
  refine lv_iload_n hx hb dX1_inLine_0 rfl (lv_at hl 2 rfl) ?_
  refine lv_if_lt (tgt := 13) hx hb dX1_inLine_1 (by decide) (fun c_1 => ?_) (fun c_1 => ?_)
  · have b_2 := gx_lt (X := (Int32.toInt i)) (C := 0) rfl (by decide) c_1
    refine lv_bipush (v := (-6)) hx hb dX1_inLine_13 (by decide) ?_
    exact W.iret (v := (-6)) hx hb hr (fun t ht hW => ⟨⟨(-6), (), rfl, (by unfold inF; rw [if_neg (by omega)]), trivial⟩, hS.F ht⟩) hS.2.2 dX1_inLine_15
  · have b_2 := gn_lt (X := (Int32.toInt i)) (C := 0) rfl (by decide) c_1
    refine lv_iload_n hx hb dX1_inLine_4 rfl (lv_at hl 2 rfl) ?_
    refine lv_aload_n hx hb dX1_inLine_5 rfl (lv_at hl 0 rfl) ?_
    refine lv_iload_n hx hb dX1_inLine_6 rfl (lv_at hl 1 rfl) ?_
    have hPc := hP.sub (ws' := [(h0, .inr (1, [w0, .ref b1, w2, .ref b3, w4, w5, .int (nI cn), w7])), (b1, .inl (kb1, 10, .inl fle))]) [0, 1] rfl
    have hDc := hD.sub (ws' := [(h0, .inr (1, [w0, .ref b1, w2, .ref b3, w4, w5, .int (nI cn), w7])), (b1, .inl (kb1, 10, .inl fle))]) [0, 1] (by decide) rfl
    have hKc := hK.sub (tys' := [(kb1, .int)]) [0] rfl
    refine va_calli (va_runV (As := [.int (nI kq)]) (rest := [.int i]) ⟨hx, hb, hml, hown, hts⟩ (c_lengthOf l dC dI s.heap.size h0 (w0) b1 (w2) (.ref b3) (w4) (w5) cn (w7) kb1 fle (nI kq) hc hle) (cwV 1 hts (gV mw_1_213 mw_1_214 mw_1_215 mw_1_2 mw_1_216) rfl rfl rfl (by decide +kernel) ⟨Nat.le_of_ble_eq_true rfl, Nat.le_of_ble_eq_true rfl⟩) ⟨pcW_blind, va_recv hKc hPc (ci := 1) (q0 := 0) rfl rfl, pcW_at hPc hKc hDc hN⟩ rfl rfl hl.1 rfl (lv_room (Nat.le_of_ble_eq_true rfl)) dX1_inLine_7 ⟨Nat.le_of_ble_eq_true rfl, Nat.le_of_ble_eq_true rfl⟩) hS (fun q h1 h2 => absurd h2 (Nat.not_le.mpr h1)) (fun q h => hA q (Nat.le_trans hS.1 h)) (fun r_3 u t H1 locs ht hvm hw_3 hB hz1 hk1 hS => ?_)
    have hP := keepP hP hk1
    clear hz1 hk1 hB ht hvm hPc hDc hKc
    generalize H1 = H at hP hS ⊢
    obtain rfl : r_3 = nI (lenN fle cn (nI kq)) := hw_3
    have b_4 := (lenN_le hc hle : lenN fle cn (nI kq) ≤ 10)
    refine lv_icmp_lt (tgt := 16) hx hb dX1_inLine_10 (by decide) (fun c_5 => ?_) (fun c_5 => ?_)
    · have b_6 := gx_lt (X := (Int32.toInt i)) (C := ((lenN fle cn (nI kq) : Nat) : Int)) rfl (nI_toInt (by omega)) c_5
      have kb := lenN_pos (f := fle) (c := cn) (n := nI kq) (by omega)
      rw [nI_toInt (by omega)] at kb
      obtain ⟨j_7, tj_7, ej_7⟩ := fx_nat (x := i) (by omega)
      subst ej_7
      have yj_7 : Int32.toInt (nI j_7) = (j_7 : Int) := nI_toInt tj_7
      refine lv_aload_n hx hb dX1_inLine_16 rfl (lv_at hl 0 rfl) ?_
      refine va_get (D := (dC, dI)) (ci := 1) (v := .ref b3) (C := RX1) (T := TX1) (N := 8) hx hb hts inB_1 hown hK hP 0 rfl rfl 3 (by decide) (hts _ mw_1_50) (fun _ h9 => h9) rfl dX1_inLine_17 ?_
      refine lv_iload_n hx hb dX1_inLine_20 rfl (lv_at hl 1 rfl) ?_
      refine lv_bipush (v := 10) hx hb dX1_inLine_21 (by decide) ?_
      refine lv_imul hx hb dX1_inLine_23 ?_
      refine hx_top (y := (nI (kq * 10))) (pk_mul kq 10) ?_
      refine lv_iload_n hx hb dX1_inLine_24 rfl (lv_at hl 2 rfl) ?_
      refine lv_iadd hx hb dX1_inLine_25 ?_
      refine hx_top (y := (nI ((kq * 10) + j_7))) (nI_add (kq * 10) j_7) ?_
      refine va_iald hx hb hK hP 2 1 rfl rfl (show vp_in (nI ((kq * 10) + j_7)) 100 from vp_in_nI (by omega) (by omega)) dX1_inLine_26 ?_
      refine hx_top (y := (fli ((kq * 10) + j_7))) (congrArg _ (nI_clamp (by omega))) ?_
      exact W.iret (v := (fli ((kq * 10) + j_7))) hx hb hr (fun t ht hW => ⟨⟨(fli ((kq * 10) + j_7)), (), rfl, (by unfold inF; rw [if_pos (by omega), nI_clamp (by omega), Nat.mul_comm 10 kq]), trivial⟩, hS.F ht⟩) hS.2.2 dX1_inLine_27
    · have b_6 := gn_lt (X := (Int32.toInt i)) (C := ((lenN fle cn (nI kq) : Nat) : Int)) rfl (nI_toInt (by omega)) c_5
      refine lv_bipush (v := (-6)) hx hb dX1_inLine_13 (by decide) ?_
      exact W.iret (v := (-6)) hx hb hr (fun t ht hW => ⟨⟨(-6), (), rfl, (by unfold inF; rw [if_neg (by omega)]), trivial⟩, hS.F ht⟩) hS.2.2 dX1_inLine_15
set_option maxHeartbeats 4000000 in
set_option maxRecDepth 100000 in
theorem c_inLine6 (l : Launch) (dC : Nat → ClassId) (dI : Nat → Nat → Nat) (sz : Nat) (h0 : Nat) (w0 : Value) (b1 : Nat) (w2 : Value) (b3 : Nat) (w4 : Value) (w5 : Value) (cn : Nat) (w7 : Value) (kb1 : ClassId) (fle : Nat → Int32) (kb3 : ClassId) (fli : Nat → Int32) (kq : Nat) (hc : cn ≤ 10) (hle : BdOk 10 10 fle) : Met l yX1_inLine (wq yX1_inLine cX1_inLine 3 (some .int)) ({ frames := 0, cells := 0, slots := 0, locals := 0 }) (va_Pc [.ref h0, .int (nI kq), .int (-6)] (pcW dC dI [(kb1, .int), (kb3, .int)] [(h0, .inr (1, [w0, .ref b1, w2, .ref b3, w4, w5, .int (nI cn), w7])), (b1, .inl (kb1, 10, .inl fle)), (b3, .inl (kb3, 100, .inl fli))] sz)) (va_Qi (fun (r : Int32) (_ : Unit) => r = (-6)) (fun _ _ => True) (fun q : Nat => sz ≤ q)) 0 0 (fun q : Nat => sz ≤ q) := by
  refine Met.ofW (cc := cX1_inLine) (maxL := 3) (ret := (some .int)) (by decide) rfl ?_
  intro p e s m args below meth c s₁ B hml hv
  obtain ⟨rfl, hsz, hN, hP, hK, hD0⟩ := hv
  have hx := B.exec
  have hb := B.bytes
  have hr := B.returns
  have hts0 := atoms_spec (ws := (wq yX1_inLine cX1_inLine 3 (some .int))) B.pre
  have hts : ∀ w ∈ BG, w.before _ s = true := fun w h => hts0 w (List.mem_cons_of_mem _ h)
  have hown : s.vm.findClass RX1 = some m.cls := findClass_of_methodNamed B.named
  have hlocks := B.notSynchronized
  subst hsz
  have hA : ∀ q : Nat, s.heap.size ≤ q → (fun q : Nat => s.heap.size ≤ q) q := fun _ h => h
  have hD := hD0
  have hS : va_S (fun q : Nat => s.heap.size ≤ q) s.heap s.heap [] := va_S.rf
  have hP : va_P (dC, dI) vwCl [(h0, .inr (1, [w0, .ref b1, w2, .ref b3, w4, w5, .int (nI cn), w7])), (b1, .inl (kb1, 10, .inl fle)), (b3, .inl (kb3, 100, .inl fli))] s.heap := hP
  have hl := lv_entry ([.ref h0, .int (nI kq), .int (-6)]) (n := 3) (Nat.le_of_ble_eq_true rfl)
  rw [lg_entry_eq]
  generalize (lg_sl ([.ref h0, .int (nI kq), .int (-6)]) ++ List.replicate (3 - (lg_sl ([.ref h0, .int (nI kq), .int (-6)])).length) Slot.unset).toArray = ls at hl ⊢
  have hl : lv_has ls 3 [(0, .ref h0), (1, .int (nI kq)), (2, .int (-6))] := hl
  refine lv_iload_n hx hb dX1_inLine_0 rfl (lv_at hl 2 rfl) ?_
  refine lv_if_lt (tgt := 13) hx hb dX1_inLine_1 (by decide) (fun _ => ?_) (fun h => absurd (by decide) h)
  refine lv_bipush (v := (-6)) hx hb dX1_inLine_13 (by decide) ?_
  exact W.iret (v := (-6)) hx hb hr (fun t ht hW => ⟨⟨(-6), (), rfl, rfl, trivial⟩, hS.F ht⟩) hS.2.2 dX1_inLine_15
set_option maxHeartbeats 4000000 in
set_option maxRecDepth 100000 in
theorem c_inLine (l : Launch) (dC : Nat → ClassId) (dI : Nat → Nat → Nat) (sz : Nat) (h0 : Nat) (w0 : Value) (b1 : Nat) (w2 : Value) (b3 : Nat) (w4 : Value) (w5 : Value) (cn : Nat) (w7 : Value) (kb1 : ClassId) (fle : Nat → Int32) (kb3 : ClassId) (fli : Nat → Int32) (kq : Nat) (iq : Nat) (hc : cn ≤ 10) (hle : BdOk 10 10 fle) (hil : iq < lenN fle cn (nI kq)) (hkq : kq < cn) : Met l yX1_inLine (wq yX1_inLine cX1_inLine 3 (some .int)) ({ frames := 2, cells := 0, slots := 0, locals := 42 }) (va_Pc [.ref h0, .int (nI kq), .int (nI iq)] (pcW dC dI [(kb1, .int), (kb3, .int)] [(h0, .inr (1, [w0, .ref b1, w2, .ref b3, w4, w5, .int (nI cn), w7])), (b1, .inl (kb1, 10, .inl fle)), (b3, .inl (kb3, 100, .inl fli))] sz)) (va_Qi (fun (r : Int32) (_ : Unit) => r = (fli (10 * kq + iq))) (fun _ _ => True) (fun q : Nat => sz ≤ q)) 0 0 (fun q : Nat => sz ≤ q) := by
  refine Met.ofW (cc := cX1_inLine) (maxL := 3) (ret := (some .int)) (by decide) rfl ?_
  intro p e s m args below meth c s₁ B hml hv
  obtain ⟨rfl, hsz, hN, hP, hK, hD0⟩ := hv
  have hx := B.exec
  have hb := B.bytes
  have hr := B.returns
  have hts0 := atoms_spec (ws := (wq yX1_inLine cX1_inLine 3 (some .int))) B.pre
  have hts : ∀ w ∈ BG, w.before _ s = true := fun w h => hts0 w (List.mem_cons_of_mem _ h)
  have hown : s.vm.findClass RX1 = some m.cls := findClass_of_methodNamed B.named
  have hlocks := B.notSynchronized
  subst hsz
  have hA : ∀ q : Nat, s.heap.size ≤ q → (fun q : Nat => s.heap.size ≤ q) q := fun _ h => h
  have hD := hD0
  have hS : va_S (fun q : Nat => s.heap.size ≤ q) s.heap s.heap [] := va_S.rf
  have hP : va_P (dC, dI) vwCl [(h0, .inr (1, [w0, .ref b1, w2, .ref b3, w4, w5, .int (nI cn), w7])), (b1, .inl (kb1, 10, .inl fle)), (b3, .inl (kb3, 100, .inl fli))] s.heap := hP
  have hl := lv_entry ([.ref h0, .int (nI kq), .int (nI iq)]) (n := 3) (Nat.le_of_ble_eq_true rfl)
  rw [lg_entry_eq]
  generalize (lg_sl ([.ref h0, .int (nI kq), .int (nI iq)]) ++ List.replicate (3 - (lg_sl ([.ref h0, .int (nI kq), .int (nI iq)])).length) Slot.unset).toArray = ls at hl ⊢
  have hl : lv_has ls 3 [(0, .ref h0), (1, .int (nI kq)), (2, .int (nI iq))] := hl
  have hle9 := lenN_le (n := nI kq) hc hle
  have ykq : Int32.toInt (nI kq) = ((kq : Nat) : Int) := nI_toInt (by omega)
  refine lv_iload_n hx hb dX1_inLine_0 rfl (lv_at hl 2 rfl) ?_
  refine lv_if_lt (tgt := 13) hx hb dX1_inLine_1 (by decide) (fun h => absurd (gx_lt (X := ((iq : Nat) : Int)) (C := 0) (nI_toInt (by omega)) (by decide) h) (by omega)) (fun c_1 => ?_)
  have b_2 := gn_lt (X := ((iq : Nat) : Int)) (C := 0) (nI_toInt (by omega)) (by decide) c_1
  refine lv_iload_n hx hb dX1_inLine_4 rfl (lv_at hl 2 rfl) ?_
  refine lv_aload_n hx hb dX1_inLine_5 rfl (lv_at hl 0 rfl) ?_
  refine lv_iload_n hx hb dX1_inLine_6 rfl (lv_at hl 1 rfl) ?_
  have hPc := hP.sub (ws' := [(h0, .inr (1, [w0, .ref b1, w2, .ref b3, w4, w5, .int (nI cn), w7])), (b1, .inl (kb1, 10, .inl fle))]) [0, 1] rfl
  have hDc := hD.sub (ws' := [(h0, .inr (1, [w0, .ref b1, w2, .ref b3, w4, w5, .int (nI cn), w7])), (b1, .inl (kb1, 10, .inl fle))]) [0, 1] (by decide) rfl
  have hKc := hK.sub (tys' := [(kb1, .int)]) [0] rfl
  refine va_calli (va_runV (As := [.int (nI kq)]) (rest := [.int (nI iq)]) ⟨hx, hb, hml, hown, hts⟩ (c_lengthOf l dC dI s.heap.size h0 (w0) b1 (w2) (.ref b3) (w4) (w5) cn (w7) kb1 fle (nI kq) hc hle) (cwV 1 hts (gV mw_1_213 mw_1_214 mw_1_215 mw_1_2 mw_1_216) rfl rfl rfl (by decide +kernel) ⟨Nat.le_of_ble_eq_true rfl, Nat.le_of_ble_eq_true rfl⟩) ⟨pcW_blind, va_recv hKc hPc (ci := 1) (q0 := 0) rfl rfl, pcW_at hPc hKc hDc hN⟩ rfl rfl hl.1 rfl (lv_room (Nat.le_of_ble_eq_true rfl)) dX1_inLine_7 ⟨Nat.le_of_ble_eq_true rfl, Nat.le_of_ble_eq_true rfl⟩) hS (fun q h1 h2 => absurd h2 (Nat.not_le.mpr h1)) (fun q h => hA q (Nat.le_trans hS.1 h)) (fun r_3 u t H1 locs ht hvm hw_3 hB hz1 hk1 hS => ?_)
  have hP := keepP hP hk1
  clear hz1 hk1 hB ht hvm hPc hDc hKc
  generalize H1 = H at hP hS ⊢
  obtain rfl : r_3 = nI (lenN fle cn (nI kq)) := hw_3
  have b_4 := (lenN_le hc hle : lenN fle cn (nI kq) ≤ 10)
  refine lv_icmp_lt (tgt := 16) hx hb dX1_inLine_10 (by decide) (fun c_5 => ?_) (fun h => absurd (gn_lt (X := ((iq : Nat) : Int)) (C := ((lenN fle cn (nI kq) : Nat) : Int)) (nI_toInt (by omega)) (nI_toInt (by omega)) h) (by omega))
  have b_6 := gx_lt (X := ((iq : Nat) : Int)) (C := ((lenN fle cn (nI kq) : Nat) : Int)) (nI_toInt (by omega)) (nI_toInt (by omega)) c_5
  refine lv_aload_n hx hb dX1_inLine_16 rfl (lv_at hl 0 rfl) ?_
  refine va_get (D := (dC, dI)) (ci := 1) (v := .ref b3) (C := RX1) (T := TX1) (N := 8) hx hb hts inB_1 hown hK hP 0 rfl rfl 3 (by decide) (hts _ mw_1_50) (fun _ h9 => h9) rfl dX1_inLine_17 ?_
  refine lv_iload_n hx hb dX1_inLine_20 rfl (lv_at hl 1 rfl) ?_
  refine lv_bipush (v := 10) hx hb dX1_inLine_21 (by decide) ?_
  refine lv_imul hx hb dX1_inLine_23 ?_
  refine hx_top (y := (nI (kq * 10))) (pk_mul kq 10) ?_
  refine lv_iload_n hx hb dX1_inLine_24 rfl (lv_at hl 2 rfl) ?_
  refine lv_iadd hx hb dX1_inLine_25 ?_
  refine hx_top (y := (nI ((kq * 10) + iq))) (nI_add (kq * 10) iq) ?_
  refine va_iald hx hb hK hP 2 1 rfl rfl (show vp_in (nI ((kq * 10) + iq)) 100 from vp_in_nI (by omega) (by omega)) dX1_inLine_26 ?_
  refine hx_top (y := (fli ((kq * 10) + iq))) (congrArg _ (nI_clamp (by omega))) ?_
  exact W.iret (v := (fli ((kq * 10) + iq))) hx hb hr (fun t ht hW => ⟨⟨(fli ((kq * 10) + iq)), (), rfl, (by rw [Nat.mul_comm 10 kq]), trivial⟩, hS.F ht⟩) hS.2.2 dX1_inLine_27
set_option maxHeartbeats 4000000 in
set_option maxRecDepth 100000 in
theorem c_whereFirst (l : Launch) (dC : Nat → ClassId) (dI : Nat → Nat → Nat) (sz : Nat) (h0 : Nat) (w0 : Value) (b1 : Nat) (w2 : Value) (b3 : Nat) (w4 : Value) (w5 : Value) (cn : Nat) (w7 : Value) (kb1 : ClassId) (fle : Nat → Int32) (kb3 : ClassId) (fli : Nat → Int32) (kq : Nat) (v : Int32) (fm : Nat) (hc : cn ≤ 10) (hle : BdOk 10 10 fle) (hlk : LnOk fle fli cn) (hkq : kq < cn) (hfm : fm ≤ 11) : Met l yX1_whereFirst (wq yX1_whereFirst cX1_whereFirst 6 (some .int)) ({ frames := 2, cells := 0, slots := 0, locals := 42 }) (va_Pc [.ref h0, .int (nI kq), .int v, .int (nI fm)] (pcW dC dI [(kb1, .int), (kb3, .int)] [(h0, .inr (1, [w0, .ref b1, w2, .ref b3, w4, w5, .int (nI cn), w7])), (b1, .inl (kb1, 10, .inl fle)), (b3, .inl (kb3, 100, .inl fli))] sz)) (va_Qi (fun (r : Int32) (_ : Unit) => r = wfF fle fli cn kq v fm) (fun _ _ => True) (fun q : Nat => sz ≤ q)) 0 0 (fun q : Nat => sz ≤ q) := by
  refine Met.ofW (cc := cX1_whereFirst) (maxL := 6) (ret := (some .int)) (by decide) rfl ?_
  intro p e s m args below meth c s₁ B hml hv
  obtain ⟨rfl, hsz, hN, hP, hK, hD0⟩ := hv
  have hx := B.exec
  have hb := B.bytes
  have hr := B.returns
  have hts0 := atoms_spec (ws := (wq yX1_whereFirst cX1_whereFirst 6 (some .int))) B.pre
  have hts : ∀ w ∈ BG, w.before _ s = true := fun w h => hts0 w (List.mem_cons_of_mem _ h)
  have hown : s.vm.findClass RX1 = some m.cls := findClass_of_methodNamed B.named
  have hlocks := B.notSynchronized
  subst hsz
  have hA : ∀ q : Nat, s.heap.size ≤ q → (fun q : Nat => s.heap.size ≤ q) q := fun _ h => h
  have hD := hD0
  have hS : va_S (fun q : Nat => s.heap.size ≤ q) s.heap s.heap [] := va_S.rf
  have hP : va_P (dC, dI) vwCl [(h0, .inr (1, [w0, .ref b1, w2, .ref b3, w4, w5, .int (nI cn), w7])), (b1, .inl (kb1, 10, .inl fle)), (b3, .inl (kb3, 100, .inl fli))] s.heap := hP
  have hl := lv_entry ([.ref h0, .int (nI kq), .int v, .int (nI fm)]) (n := 6) (Nat.le_of_ble_eq_true rfl)
  rw [lg_entry_eq]
  generalize (lg_sl ([.ref h0, .int (nI kq), .int v, .int (nI fm)]) ++ List.replicate (6 - (lg_sl ([.ref h0, .int (nI kq), .int v, .int (nI fm)])).length) Slot.unset).toArray = ls at hl ⊢
  have hl : lv_has ls 6 [(0, .ref h0), (1, .int (nI kq)), (2, .int v), (3, .int (nI fm))] := hl
  have ykq : Int32.toInt (nI kq) = ((kq : Nat) : Int) := nI_toInt (by omega)
  have yfm : Int32.toInt (nI fm) = ((fm : Nat) : Int) := nI_toInt (by omega)
  refine lv_aload_n hx hb dX1_whereFirst_0 rfl (lv_at hl 0 rfl) ?_
  refine lv_iload_n hx hb dX1_whereFirst_1 rfl (lv_at hl 1 rfl) ?_
  have hPc := hP.sub (ws' := [(h0, .inr (1, [w0, .ref b1, w2, .ref b3, w4, w5, .int (nI cn), w7])), (b1, .inl (kb1, 10, .inl fle))]) [0, 1] rfl
  have hDc := hD.sub (ws' := [(h0, .inr (1, [w0, .ref b1, w2, .ref b3, w4, w5, .int (nI cn), w7])), (b1, .inl (kb1, 10, .inl fle))]) [0, 1] (by decide) rfl
  have hKc := hK.sub (tys' := [(kb1, .int)]) [0] rfl
  refine va_calli (va_runV (As := [.int (nI kq)]) (rest := []) ⟨hx, hb, hml, hown, hts⟩ (c_lengthOf l dC dI s.heap.size h0 (w0) b1 (w2) (.ref b3) (w4) (w5) cn (w7) kb1 fle (nI kq) hc hle) (cwV 1 hts (gV mw_1_213 mw_1_214 mw_1_215 mw_1_2 mw_1_216) rfl rfl rfl (by decide +kernel) ⟨Nat.le_of_ble_eq_true rfl, Nat.le_of_ble_eq_true rfl⟩) ⟨pcW_blind, va_recv hKc hPc (ci := 1) (q0 := 0) rfl rfl, pcW_at hPc hKc hDc hN⟩ rfl rfl hl.1 rfl (lv_room (Nat.le_of_ble_eq_true rfl)) dX1_whereFirst_2 ⟨Nat.le_of_ble_eq_true rfl, Nat.le_of_ble_eq_true rfl⟩) hS (fun q h1 h2 => absurd h2 (Nat.not_le.mpr h1)) (fun q h => hA q (Nat.le_trans hS.1 h)) (fun r_1 u t H1 locs ht hvm hw_1 hB hz1 hk1 hS => ?_)
  have hP := keepP hP hk1
  clear hz1 hk1 hB ht hvm hPc hDc hKc
  generalize H1 = H at hP hS ⊢
  obtain rfl : r_1 = nI (lenN fle cn (nI kq)) := hw_1
  have b_2 := (lenN_le hc hle : lenN fle cn (nI kq) ≤ 10)
  refine lv_istore (lv' := [(4, .int (nI (lenN fle cn (nI kq)))), (0, .ref h0), (1, .int (nI kq)), (2, .int v), (3, .int (nI fm))]) hx hb dX1_whereFirst_5 hl (by decide) rfl (fun ls hl => ?_)
  refine lv_iload_n hx hb dX1_whereFirst_7 rfl (lv_at hl 4 rfl) ?_
  refine lv_iconst (v := 0) hx hb dX1_whereFirst_8 (by decide) ?_
  refine va_mmax hx hb (by rw [hml]; exact hl.1.symm) hown (hts _ mw_2_149) (hts _ mw_2_150) (hts _ mw_1_10) (hts _ mw_2_151) (Nat.le_of_ble_eq_true rfl) (Nat.le_of_ble_eq_true rfl) (Nat.le_of_ble_eq_true rfl) (Nat.le_of_ble_eq_true rfl) dX1_whereFirst_9 ?_
  refine lv_topi (fun z_3 ez_3 => ?_)
  have fz_3 := gx_max (X := ((fm : Nat) : Int)) (C := 0) (nI_toInt (by omega)) (by decide) ez_3
  refine lv_istore (lv' := [(5, .int z_3), (4, .int (nI (lenN fle cn (nI kq)))), (0, .ref h0), (1, .int (nI kq)), (2, .int v), (3, .int (nI fm))]) hx hb dX1_whereFirst_12 hl (by decide) rfl (fun ls hl => ?_)
  obtain ⟨j_6, tj_6, ej_6⟩ := fx_nat (x := z_3) (by omega)
  subst ej_6
  have yj_6 : Int32.toInt (nI j_6) = (j_6 : Int) := nI_toInt tj_6
  obtain rfl : fm = j_6 := (by omega)
  have key_4 : ∀ (fu : Nat) (k : Nat), (k ≤ 11) → (fnd (fun i => bt v (fli (10 * kq + i)).toNatClampNeg) k (lenN fle cn (nI kq) - k) = wfF fle fli cn kq v fm) → 11 - k < fu → ∀ (H : Heap) (locs : List Loc), va_P (dC, dI) vwCl [(h0, .inr (1, [w0, .ref b1, w2, .ref b3, w4, w5, .int (nI cn), w7])), (b1, .inl (kb1, 10, .inl fle)), (b3, .inl (kb3, 100, .inl fli))] H → va_S (fun q : Nat => s.heap.size ≤ q) s.heap H locs → ∀ (ls : Array Slot), lv_has ls 6 [(5, .int (nI k)), (4, .int (nI (lenN fle cn (nI kq)))), (0, .ref h0), (1, .int (nI kq)), (2, .int v), (3, .int (nI fm))] → W p l e (headSpec (wq yX1_whereFirst cX1_whereFirst 6 (some .int)) ({ frames := 2, cells := 0, slots := 0, locals := 42 })).room s m (([.ref h0, .int (nI kq), .int v, .int (nI fm)] : List Value)).toArray below meth c H locs 0 0 (MQ below (va_Qi (fun (r : Int32) (_ : Unit) => r = wfF fle fli cn kq v fm) (fun _ _ => True) (fun q : Nat => s.heap.size ≤ q)) (([.ref h0, .int (nI kq), .int v, .int (nI fm)] : List Value)).toArray s 0 0 (fun q : Nat => s.heap.size ≤ q)) (F0 m 14 ls []) := by
    intro fu
    induction fu with
    | zero => intro k hk hf hme; exact absurd hme (Nat.not_lt_zero _)
    | succ fu ih_5 =>
      intro k hk hf hme H locs hP hS ls hl
      refine lv_iload hx hb dX1_whereFirst_14 (lv_at hl 0 rfl) ?_
      refine lv_iload hx hb dX1_whereFirst_16 (lv_at hl 1 rfl) ?_
      refine lv_icmp_ge (tgt := 49) hx hb dX1_whereFirst_18 (by decide) (fun c_7 => ?_) (fun c_7 => ?_)
      · have b_8 := gx_ge (X := ((k : Nat) : Int)) (C := ((lenN fle cn (nI kq) : Nat) : Int)) (nI_toInt (by omega)) (nI_toInt (by omega)) c_7
        refine lv_bipush (v := (-6)) hx hb dX1_whereFirst_49 (by decide) ?_
        exact W.iret (v := (-6)) hx hb hr (fun t ht hW => ⟨⟨(-6), (), rfl, (by rw [← hf]; exact (fnd_end (by omega)).symm), trivial⟩, hS.F ht⟩) hS.2.2 dX1_whereFirst_51
      · have b_8 := gn_ge (X := ((k : Nat) : Int)) (C := ((lenN fle cn (nI kq) : Nat) : Int)) (nI_toInt (by omega)) (nI_toInt (by omega)) c_7
        refine lv_aload_n hx hb dX1_whereFirst_21 rfl (lv_at hl 2 rfl) ?_
        refine va_get (D := (dC, dI)) (ci := 1) (v := .ref b3) (C := RX1) (T := TX1) (N := 8) hx hb hts inB_1 hown hK hP 0 rfl rfl 3 (by decide) (hts _ mw_1_50) (fun _ h9 => h9) rfl dX1_whereFirst_22 ?_
        refine lv_iload_n hx hb dX1_whereFirst_25 rfl (lv_at hl 3 rfl) ?_
        refine lv_bipush (v := 10) hx hb dX1_whereFirst_26 (by decide) ?_
        refine lv_imul hx hb dX1_whereFirst_28 ?_
        refine hx_top (y := (nI (kq * 10))) (pk_mul kq 10) ?_
        refine lv_iload hx hb dX1_whereFirst_29 (lv_at hl 0 rfl) ?_
        refine lv_iadd hx hb dX1_whereFirst_31 ?_
        refine hx_top (y := (nI ((kq * 10) + k))) (nI_add (kq * 10) k) ?_
        refine va_iald hx hb hK hP 2 1 rfl rfl (show vp_in (nI ((kq * 10) + k)) 100 from vp_in_nI (by omega) (by omega)) dX1_whereFirst_32 ?_
        refine hx_top (y := (fli ((kq * 10) + k))) (congrArg _ (nI_clamp (by omega))) ?_
        obtain ⟨n_9, hn_9, un_9⟩ := hlk kq (by omega) k (by rw [← lenN_k (by omega) (by omega)]; omega)
        refine hx_top (y := (nI n_9)) (by rw [Nat.mul_comm kq 10]; exact un_9) ?_
        refine lv_iload_n hx hb dX1_whereFirst_33 rfl (lv_at hl 4 rfl) ?_
        have hPc := hP.sub (ws' := []) [] rfl
        have hDc := hD.sub (ws' := []) [] (by decide) rfl
        have hKc := hK.sub (tys' := []) [] rfl
        refine va_calli (va_runSN (As := [.int (nI n_9), .int v]) (rest := []) ⟨hx, hb, hml, hown, hts⟩ (c_isIn l dC dI H.size (nI n_9) v ) ⟨va_cnB 2 hts (gN mw_2_15) rfl rfl rfl (hN (RX1, 45, yX8_isIn, RX8) (List.mem_of_getElem? (i := 7) rfl)) (hts _ mw_1_1) (by decide +kernel) ⟨Nat.le_of_ble_eq_true rfl, Nat.le_of_ble_eq_true rfl⟩, (hts _ mw_2_14), trivial⟩ ⟨pcW_blind, pcW_at hPc hKc hDc hN⟩ rfl rfl hl.1 rfl (lv_room (Nat.le_of_ble_eq_true rfl)) dX1_whereFirst_34 ⟨Nat.le_of_ble_eq_true rfl, Nat.le_of_ble_eq_true rfl⟩) hS (fun q h1 h2 => absurd h2 (Nat.not_le.mpr h1)) (fun q h => hA q (Nat.le_trans hS.1 h)) (fun r_10 u t H1 locs ht hvm hw_10 hB hz1 hk1 hS => ?_)
        have hP := keepP hP hk1
        clear hz1 hk1 hB ht hvm hPc hDc hKc
        generalize H1 = H at hP hS ⊢
        rcases fx_bool hw_10 with ⟨rfl, b_11⟩ | ⟨rfl, b_11⟩
        · skip
          refine lv_if_eq (tgt := 43) hx hb dX1_whereFirst_37 (by decide) (fun h => absurd h (by decide)) (fun _ => ?_)
          refine lv_iload hx hb dX1_whereFirst_40 (lv_at hl 0 rfl) ?_
          exact W.iret (v := (nI k)) hx hb hr (fun t ht hW => ⟨⟨(nI k), (), rfl, (by rw [← hf]; exact (fnd_hit (by show bt v (fli (10 * kq + k)).toNatClampNeg = true; rw [un_9, nI_clamp (by omega)]; exact t_yes (by omega) b_11) (by omega)).symm), trivial⟩, hS.F ht⟩) hS.2.2 dX1_whereFirst_42
        · skip
          refine lv_if_eq (tgt := 43) hx hb dX1_whereFirst_37 (by decide) (fun _ => ?_) (fun h => absurd (by decide) h)
          refine lv_iinc (v := (nI (k + 1))) (lv' := [(5, .int (nI (k + 1))), (4, .int (nI (lenN fle cn (nI kq)))), (0, .ref h0), (1, .int (nI kq)), (2, .int v), (3, .int (nI fm))]) hx hb dX1_whereFirst_43 hl (k := 0) rfl (nI_add k 1) (by decide) rfl (fun ls hl => ?_)
          refine lv_goto (tgt := 14) hx hb dX1_whereFirst_46 (by decide) ?_
          exact ih_5 (k + 1) (by omega) ((fnd_miss (by show bt v (fli (10 * kq + k)).toNatClampNeg = false; rw [un_9, nI_clamp (by omega)]; exact t_no (by omega) b_11) (by omega)).symm.trans hf) (by omega) _ _ hP hS ls (lv_sub hl [0, 1, 2, 3, 4, 5] rfl)
  exact key_4 ((11 - fm) + 1) fm hfm rfl (Nat.lt_succ_self _) _ _ hP hS ls (lv_sub hl [0, 1, 2, 3, 4, 5] rfl)
set_option maxHeartbeats 4000000 in
set_option maxRecDepth 100000 in
theorem c_firstOf (l : Launch) (dC : Nat → ClassId) (dI : Nat → Nat → Nat) (sz : Nat) (h0 : Nat) (w0 : Value) (b1 : Nat) (w2 : Value) (b3 : Nat) (w4 : Value) (w5 : Value) (cn : Nat) (w7 : Value) (kb1 : ClassId) (fle : Nat → Int32) (kb3 : ClassId) (fli : Nat → Int32) (kq : Nat) (v : Int32) (fm : Nat) (hc : cn ≤ 10) (hle : BdOk 10 10 fle) (hlk : LnOk fle fli cn) (hkq : kq < cn) (hfm : fm ≤ 11) : Met l yX1_firstOf (wq yX1_firstOf cX1_firstOf 4 (some .int)) ({ frames := 3, cells := 0, slots := 0, locals := 67 }) (va_Pc [.ref h0, .int (nI kq), .int v, .int (nI fm)] (pcW dC dI [(kb1, .int), (kb3, .int)] [(h0, .inr (1, [w0, .ref b1, w2, .ref b3, w4, w5, .int (nI cn), w7])), (b1, .inl (kb1, 10, .inl fle)), (b3, .inl (kb3, 100, .inl fli))] sz)) (va_Qi (fun (r : Int32) (_ : Unit) => r = ansF fle fli cn kq v fm) (fun _ _ => True) (fun q : Nat => sz ≤ q)) 0 0 (fun q : Nat => sz ≤ q) := by
  refine Met.ofW (cc := cX1_firstOf) (maxL := 4) (ret := (some .int)) (by decide) rfl ?_
  intro p e s m args below meth c s₁ B hml hv
  obtain ⟨rfl, hsz, hN, hP, hK, hD0⟩ := hv
  have hx := B.exec
  have hb := B.bytes
  have hr := B.returns
  have hts0 := atoms_spec (ws := (wq yX1_firstOf cX1_firstOf 4 (some .int))) B.pre
  have hts : ∀ w ∈ BG, w.before _ s = true := fun w h => hts0 w (List.mem_cons_of_mem _ h)
  have hown : s.vm.findClass RX1 = some m.cls := findClass_of_methodNamed B.named
  have hlocks := B.notSynchronized
  subst hsz
  have hA : ∀ q : Nat, s.heap.size ≤ q → (fun q : Nat => s.heap.size ≤ q) q := fun _ h => h
  have hD := hD0
  have hS : va_S (fun q : Nat => s.heap.size ≤ q) s.heap s.heap [] := va_S.rf
  have hP : va_P (dC, dI) vwCl [(h0, .inr (1, [w0, .ref b1, w2, .ref b3, w4, w5, .int (nI cn), w7])), (b1, .inl (kb1, 10, .inl fle)), (b3, .inl (kb3, 100, .inl fli))] s.heap := hP
  have hl := lv_entry ([.ref h0, .int (nI kq), .int v, .int (nI fm)]) (n := 4) (Nat.le_of_ble_eq_true rfl)
  rw [lg_entry_eq]
  generalize (lg_sl ([.ref h0, .int (nI kq), .int v, .int (nI fm)]) ++ List.replicate (4 - (lg_sl ([.ref h0, .int (nI kq), .int v, .int (nI fm)])).length) Slot.unset).toArray = ls at hl ⊢
  have hl : lv_has ls 4 [(0, .ref h0), (1, .int (nI kq)), (2, .int v), (3, .int (nI fm))] := hl
  have hle9 := lenN_le (n := nI kq) hc hle
  refine lv_aload_n hx hb dX1_firstOf_0 rfl (lv_at hl 0 rfl) ?_
  refine lv_iload_n hx hb dX1_firstOf_1 rfl (lv_at hl 1 rfl) ?_
  refine lv_aload_n hx hb dX1_firstOf_2 rfl (lv_at hl 0 rfl) ?_
  refine lv_iload_n hx hb dX1_firstOf_3 rfl (lv_at hl 1 rfl) ?_
  refine lv_iload_n hx hb dX1_firstOf_4 rfl (lv_at hl 2 rfl) ?_
  refine lv_iload_n hx hb dX1_firstOf_5 rfl (lv_at hl 3 rfl) ?_
  have hPc := hP.sub (ws' := [(h0, .inr (1, [w0, .ref b1, w2, .ref b3, w4, w5, .int (nI cn), w7])), (b1, .inl (kb1, 10, .inl fle)), (b3, .inl (kb3, 100, .inl fli))]) [0, 1, 2] rfl
  have hDc := hD.sub (ws' := [(h0, .inr (1, [w0, .ref b1, w2, .ref b3, w4, w5, .int (nI cn), w7])), (b1, .inl (kb1, 10, .inl fle)), (b3, .inl (kb3, 100, .inl fli))]) [0, 1, 2] (by decide) rfl
  have hKc := hK.sub (tys' := [(kb1, .int), (kb3, .int)]) [0, 1] rfl
  refine va_calli (va_runV (As := [.int (nI kq), .int v, .int (nI fm)]) (rest := [.int (nI kq), .ref h0]) ⟨hx, hb, hml, hown, hts⟩ (c_whereFirst l dC dI s.heap.size h0 (w0) b1 (w2) b3 (w4) (w5) cn (w7) kb1 fle kb3 fli kq v fm hc hle hlk hkq hfm) (cwV 3 hts (gV mw_2_145 mw_2_146 mw_2_147 mw_1_2 mw_2_148) rfl rfl rfl (by decide +kernel) ⟨Nat.le_of_ble_eq_true rfl, Nat.le_of_ble_eq_true rfl⟩) ⟨pcW_blind, va_recv hKc hPc (ci := 1) (q0 := 0) rfl rfl, pcW_at hPc hKc hDc hN⟩ rfl rfl hl.1 rfl (lv_room (Nat.le_of_ble_eq_true rfl)) dX1_firstOf_6 ⟨Nat.le_of_ble_eq_true rfl, Nat.le_of_ble_eq_true rfl⟩) hS (fun q h1 h2 => absurd h2 (Nat.not_le.mpr h1)) (fun q h => hA q (Nat.le_trans hS.1 h)) (fun r_1 u t H1 locs ht hvm hw_1 hB hz1 hk1 hS => ?_)
  have hP := keepP hP hk1
  clear hz1 hk1 hB ht hvm hPc hDc hKc
  generalize H1 = H at hP hS ⊢
  rcases wf_cases hw_1 with eq9 | ⟨q9, hq9, eq9⟩
  · subst eq9
    have hPc := hP.sub (ws' := [(h0, .inr (1, [w0, .ref b1, w2, .ref b3, w4, w5, .int (nI cn), w7])), (b1, .inl (kb1, 10, .inl fle)), (b3, .inl (kb3, 100, .inl fli))]) [0, 1, 2] rfl
    have hDc := hD.sub (ws' := [(h0, .inr (1, [w0, .ref b1, w2, .ref b3, w4, w5, .int (nI cn), w7])), (b1, .inl (kb1, 10, .inl fle)), (b3, .inl (kb3, 100, .inl fli))]) [0, 1, 2] (by decide) rfl
    have hKc := hK.sub (tys' := [(kb1, .int), (kb3, .int)]) [0, 1] rfl
    refine va_calli (va_runV (As := [.int (nI kq), .int (-6)]) (rest := []) ⟨hx, hb, hml, hown, hts⟩ (c_inLine6 l dC dI H.size h0 (w0) b1 (w2) b3 (w4) (w5) cn (w7) kb1 fle kb3 fli kq hc hle) (cwV 2 hts (gV mw_1_233 mw_1_234 mw_1_235 mw_1_2 mw_1_236) rfl rfl rfl (by decide +kernel) ⟨Nat.le_of_ble_eq_true rfl, Nat.le_of_ble_eq_true rfl⟩) ⟨pcW_blind, va_recv hKc hPc (ci := 1) (q0 := 0) rfl rfl, pcW_at hPc hKc hDc hN⟩ rfl rfl hl.1 rfl (lv_room (Nat.le_of_ble_eq_true rfl)) dX1_firstOf_9 ⟨Nat.le_of_ble_eq_true rfl, Nat.le_of_ble_eq_true rfl⟩) hS (fun q h1 h2 => absurd h2 (Nat.not_le.mpr h1)) (fun q h => hA q (Nat.le_trans hS.1 h)) (fun r_2 u t H1 locs ht hvm hw_2 hB hz1 hk1 hS => ?_)
    have hP := keepP hP hk1
    clear hz1 hk1 hB ht hvm hPc hDc hKc
    generalize H1 = H at hP hS ⊢
    obtain rfl : r_2 = (-6) := hw_2
    exact W.iret (v := (-6)) hx hb hr (fun t ht hW => ⟨⟨(-6), (), rfl, (by unfold ansF; rw [← hw_1]; exact (if_pos rfl).symm), trivial⟩, hS.F ht⟩) hS.2.2 dX1_firstOf_12
  · subst eq9
    have hPc := hP.sub (ws' := [(h0, .inr (1, [w0, .ref b1, w2, .ref b3, w4, w5, .int (nI cn), w7])), (b1, .inl (kb1, 10, .inl fle)), (b3, .inl (kb3, 100, .inl fli))]) [0, 1, 2] rfl
    have hDc := hD.sub (ws' := [(h0, .inr (1, [w0, .ref b1, w2, .ref b3, w4, w5, .int (nI cn), w7])), (b1, .inl (kb1, 10, .inl fle)), (b3, .inl (kb3, 100, .inl fli))]) [0, 1, 2] (by decide) rfl
    have hKc := hK.sub (tys' := [(kb1, .int), (kb3, .int)]) [0, 1] rfl
    refine va_calli (va_runV (As := [.int (nI kq), .int (nI q9)]) (rest := []) ⟨hx, hb, hml, hown, hts⟩ (c_inLine l dC dI H.size h0 (w0) b1 (w2) b3 (w4) (w5) cn (w7) kb1 fle kb3 fli kq q9 hc hle (by omega) hkq) (cwV 2 hts (gV mw_1_233 mw_1_234 mw_1_235 mw_1_2 mw_1_236) rfl rfl rfl (by decide +kernel) ⟨Nat.le_of_ble_eq_true rfl, Nat.le_of_ble_eq_true rfl⟩) ⟨pcW_blind, va_recv hKc hPc (ci := 1) (q0 := 0) rfl rfl, pcW_at hPc hKc hDc hN⟩ rfl rfl hl.1 rfl (lv_room (Nat.le_of_ble_eq_true rfl)) dX1_firstOf_9 ⟨Nat.le_of_ble_eq_true rfl, Nat.le_of_ble_eq_true rfl⟩) hS (fun q h1 h2 => absurd h2 (Nat.not_le.mpr h1)) (fun q h => hA q (Nat.le_trans hS.1 h)) (fun r_3 u t H1 locs ht hvm hw_3 hB hz1 hk1 hS => ?_)
    have hP := keepP hP hk1
    clear hz1 hk1 hB ht hvm hPc hDc hKc
    generalize H1 = H at hP hS ⊢
    obtain rfl : r_3 = (fli (10 * kq + q9)) := hw_3
    exact W.iret (v := (fli (10 * kq + q9))) hx hb hr (fun t ht hW => ⟨⟨(fli (10 * kq + q9)), (), rfl, (by unfold ansF; rw [← hw_1, if_neg (nI_ne6 (by omega)), nI_clamp (by omega)]), trivial⟩, hS.F ht⟩) hS.2.2 dX1_firstOf_12
