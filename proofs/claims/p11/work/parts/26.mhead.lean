theorem mw_3_193 : Cond.fieldLink RX9 110 "AnswerLinesModel" "rowMany" "I" ∈ BG := mB (t3 (i := 193) (by decide +kernel)) (by decide +kernel)
theorem mw_3_191 : Cond.fieldLink RX9 35 "AnswerLinesModel" "rowAt" "[I" ∈ BG := mB (t3 (i := 191) (by decide +kernel)) (by decide +kernel)
theorem mw_3_192 : Cond.fieldLink RX9 38 "AnswerLinesModel" "rowEnd" "[I" ∈ BG := mB (t3 (i := 192) (by decide +kernel)) (by decide +kernel)
theorem mw_3_190 : Cond.fieldLink RX9 32 "AnswerLinesModel" "rows" "[I" ∈ BG := mB (t3 (i := 190) (by decide +kernel)) (by decide +kernel)
theorem mw_4_72 : Cond.code yX9_isWithin cX9_isWithin 5 (some .boolean) ∈ BG := mB (t4 (i := 72) rfl) (by decide +kernel)
theorem mw_4_69 : Cond.methodLink RX9 113 yX9_isWithin ∈ BG := mB (t4 (i := 69) (by decide +kernel)) (by decide +kernel)
theorem mw_4_71 : Cond.instanceMethod yX9_isWithin ∈ BG := mB (t4 (i := 71) (by decide +kernel)) (by decide +kernel)
theorem mw_0_18 : Cond.selects RX9 yX9_isWithin yX9_isWithin ∈ BG := mB (t0 (i := 18) (by decide +kernel)) (by decide +kernel)
theorem dX9_isWithin_0 : decode cX9_isWithin 0 = .ok (.iconst 0, 1) := by decide +kernel
theorem dX9_isWithin_1 : decode cX9_isWithin 1 = .ok (.istore_n 2, 1) := by decide +kernel
theorem dX9_isWithin_2 : decode cX9_isWithin 2 = .ok (.iconst 0, 1) := by decide +kernel
theorem dX9_isWithin_3 : decode cX9_isWithin 3 = .ok (.istore_n 3, 1) := by decide +kernel
theorem dX9_isWithin_4 : decode cX9_isWithin 4 = .ok (.iload_n 3, 1) := by decide +kernel
theorem dX9_isWithin_5 : decode cX9_isWithin 5 = .ok (.aload_n 0, 1) := by decide +kernel
theorem dX9_isWithin_6 : decode cX9_isWithin 6 = .ok (.getfield 110, 3) := by decide +kernel
theorem dX9_isWithin_9 : decode cX9_isWithin 9 = .ok (.if_icmp .ge 62, 3) := by decide +kernel
theorem dX9_isWithin_71 : decode cX9_isWithin 71 = .ok (.iload_n 2, 1) := by decide +kernel
theorem dX9_isWithin_72 : decode cX9_isWithin 72 = .ok (.ireturn, 1) := by decide +kernel
theorem dX9_isWithin_12 : decode cX9_isWithin 12 = .ok (.aload_n 0, 1) := by decide +kernel
theorem dX9_isWithin_13 : decode cX9_isWithin 13 = .ok (.getfield 35, 3) := by decide +kernel
theorem dX9_isWithin_16 : decode cX9_isWithin 16 = .ok (.iload_n 3, 1) := by decide +kernel
theorem dX9_isWithin_17 : decode cX9_isWithin 17 = .ok (.iaload, 1) := by decide +kernel
theorem dX9_isWithin_18 : decode cX9_isWithin 18 = .ok (.iconst 1, 1) := by decide +kernel
theorem dX9_isWithin_19 : decode cX9_isWithin 19 = .ok (.iadd, 1) := by decide +kernel
theorem dX9_isWithin_20 : decode cX9_isWithin 20 = .ok (.istore 4, 2) := by decide +kernel
theorem dX9_isWithin_22 : decode cX9_isWithin 22 = .ok (.iload 4, 2) := by decide +kernel
theorem dX9_isWithin_24 : decode cX9_isWithin 24 = .ok (.aload_n 0, 1) := by decide +kernel
theorem dX9_isWithin_25 : decode cX9_isWithin 25 = .ok (.getfield 38, 3) := by decide +kernel
theorem dX9_isWithin_28 : decode cX9_isWithin 28 = .ok (.iload_n 3, 1) := by decide +kernel
theorem dX9_isWithin_29 : decode cX9_isWithin 29 = .ok (.iaload, 1) := by decide +kernel
theorem dX9_isWithin_30 : decode cX9_isWithin 30 = .ok (.if_icmp .ge 35, 3) := by decide +kernel
theorem dX9_isWithin_65 : decode cX9_isWithin 65 = .ok (.iinc 3 1, 3) := by decide +kernel
theorem dX9_isWithin_68 : decode cX9_isWithin 68 = .ok (.goto (-64), 3) := by decide +kernel
theorem dX9_isWithin_33 : decode cX9_isWithin 33 = .ok (.iload_n 2, 1) := by decide +kernel
theorem dX9_isWithin_34 : decode cX9_isWithin 34 = .ok (.ifCond .ne 19, 3) := by decide +kernel
theorem dX9_isWithin_53 : decode cX9_isWithin 53 = .ok (.iconst 1, 1) := by decide +kernel
theorem dX9_isWithin_54 : decode cX9_isWithin 54 = .ok (.goto 4, 3) := by decide +kernel
theorem dX9_isWithin_58 : decode cX9_isWithin 58 = .ok (.istore_n 2, 1) := by decide +kernel
theorem dX9_isWithin_59 : decode cX9_isWithin 59 = .ok (.iinc 4 1, 3) := by decide +kernel
theorem dX9_isWithin_62 : decode cX9_isWithin 62 = .ok (.goto (-40), 3) := by decide +kernel
theorem dX9_isWithin_37 : decode cX9_isWithin 37 = .ok (.aload_n 0, 1) := by decide +kernel
theorem dX9_isWithin_38 : decode cX9_isWithin 38 = .ok (.getfield 32, 3) := by decide +kernel
theorem dX9_isWithin_41 : decode cX9_isWithin 41 = .ok (.bipush 10, 2) := by decide +kernel
theorem dX9_isWithin_43 : decode cX9_isWithin 43 = .ok (.iload_n 3, 1) := by decide +kernel
theorem dX9_isWithin_44 : decode cX9_isWithin 44 = .ok (.imul, 1) := by decide +kernel
theorem dX9_isWithin_45 : decode cX9_isWithin 45 = .ok (.iload 4, 2) := by decide +kernel
theorem dX9_isWithin_47 : decode cX9_isWithin 47 = .ok (.iadd, 1) := by decide +kernel
theorem dX9_isWithin_48 : decode cX9_isWithin 48 = .ok (.iaload, 1) := by decide +kernel
theorem dX9_isWithin_49 : decode cX9_isWithin 49 = .ok (.iload_n 1, 1) := by decide +kernel
theorem dX9_isWithin_50 : decode cX9_isWithin 50 = .ok (.if_icmp .ne 7, 3) := by decide +kernel
theorem dX9_isWithin_57 : decode cX9_isWithin 57 = .ok (.iconst 0, 1) := by decide +kernel
theorem dX9_nextHead_0 : decode cX9_nextHead 0 = .ok (.bipush (-6), 2) := by decide +kernel
theorem dX9_nextHead_2 : decode cX9_nextHead 2 = .ok (.istore_n 1, 1) := by decide +kernel
theorem dX9_nextHead_3 : decode cX9_nextHead 3 = .ok (.iconst 0, 1) := by decide +kernel
theorem dX9_nextHead_4 : decode cX9_nextHead 4 = .ok (.istore_n 2, 1) := by decide +kernel
theorem dX9_nextHead_5 : decode cX9_nextHead 5 = .ok (.iload_n 2, 1) := by decide +kernel
theorem dX9_nextHead_6 : decode cX9_nextHead 6 = .ok (.aload_n 0, 1) := by decide +kernel
theorem dX9_nextHead_7 : decode cX9_nextHead 7 = .ok (.getfield 110, 3) := by decide +kernel
theorem dX9_nextHead_10 : decode cX9_nextHead 10 = .ok (.if_icmp .ge 83, 3) := by decide +kernel
theorem dX9_nextHead_93 : decode cX9_nextHead 93 = .ok (.iload_n 1, 1) := by decide +kernel
theorem dX9_nextHead_94 : decode cX9_nextHead 94 = .ok (.ireturn, 1) := by decide +kernel
theorem dX9_nextHead_13 : decode cX9_nextHead 13 = .ok (.iload_n 1, 1) := by decide +kernel
theorem dX9_nextHead_14 : decode cX9_nextHead 14 = .ok (.ifCond .ge 79, 3) := by decide +kernel
theorem dX9_nextHead_17 : decode cX9_nextHead 17 = .ok (.aload_n 0, 1) := by decide +kernel
theorem dX9_nextHead_18 : decode cX9_nextHead 18 = .ok (.getfield 35, 3) := by decide +kernel
theorem dX9_nextHead_21 : decode cX9_nextHead 21 = .ok (.iload_n 2, 1) := by decide +kernel
theorem dX9_nextHead_22 : decode cX9_nextHead 22 = .ok (.iaload, 1) := by decide +kernel
theorem dX9_nextHead_23 : decode cX9_nextHead 23 = .ok (.aload_n 0, 1) := by decide +kernel
theorem dX9_nextHead_24 : decode cX9_nextHead 24 = .ok (.getfield 38, 3) := by decide +kernel
theorem dX9_nextHead_27 : decode cX9_nextHead 27 = .ok (.iload_n 2, 1) := by decide +kernel
theorem dX9_nextHead_28 : decode cX9_nextHead 28 = .ok (.iaload, 1) := by decide +kernel
theorem dX9_nextHead_29 : decode cX9_nextHead 29 = .ok (.if_icmp .ge 30, 3) := by decide +kernel
theorem dX9_nextHead_59 : decode cX9_nextHead 59 = .ok (.iconst 0, 1) := by decide +kernel
theorem dX9_nextHead_60 : decode cX9_nextHead 60 = .ok (.istore_n 3, 1) := by decide +kernel
theorem dX9_nextHead_61 : decode cX9_nextHead 61 = .ok (.iload_n 3, 1) := by decide +kernel
theorem dX9_nextHead_62 : decode cX9_nextHead 62 = .ok (.ifCond .eq 22, 3) := by decide +kernel
theorem dX9_nextHead_84 : decode cX9_nextHead 84 = .ok (.bipush (-6), 2) := by decide +kernel
theorem dX9_nextHead_86 : decode cX9_nextHead 86 = .ok (.istore_n 1, 1) := by decide +kernel
theorem dX9_nextHead_87 : decode cX9_nextHead 87 = .ok (.iinc 2 1, 3) := by decide +kernel
theorem dX9_nextHead_90 : decode cX9_nextHead 90 = .ok (.goto (-85), 3) := by decide +kernel
theorem dX9_nextHead_32 : decode cX9_nextHead 32 = .ok (.aload_n 0, 1) := by decide +kernel
theorem dX9_nextHead_33 : decode cX9_nextHead 33 = .ok (.aload_n 0, 1) := by decide +kernel
theorem dX9_nextHead_34 : decode cX9_nextHead 34 = .ok (.getfield 32, 3) := by decide +kernel
theorem dX9_nextHead_37 : decode cX9_nextHead 37 = .ok (.bipush 10, 2) := by decide +kernel
theorem dX9_nextHead_39 : decode cX9_nextHead 39 = .ok (.iload_n 2, 1) := by decide +kernel
theorem dX9_nextHead_40 : decode cX9_nextHead 40 = .ok (.imul, 1) := by decide +kernel
theorem dX9_nextHead_41 : decode cX9_nextHead 41 = .ok (.aload_n 0, 1) := by decide +kernel
theorem dX9_nextHead_42 : decode cX9_nextHead 42 = .ok (.getfield 35, 3) := by decide +kernel
theorem dX9_nextHead_45 : decode cX9_nextHead 45 = .ok (.iload_n 2, 1) := by decide +kernel
theorem dX9_nextHead_46 : decode cX9_nextHead 46 = .ok (.iaload, 1) := by decide +kernel
theorem dX9_nextHead_47 : decode cX9_nextHead 47 = .ok (.iadd, 1) := by decide +kernel
theorem dX9_nextHead_48 : decode cX9_nextHead 48 = .ok (.iaload, 1) := by decide +kernel
theorem dX9_nextHead_49 : decode cX9_nextHead 49 = .ok (.invokevirtual 113, 3) := by decide +kernel
theorem dX9_nextHead_52 : decode cX9_nextHead 52 = .ok (.ifCond .ne 7, 3) := by decide +kernel
theorem dX9_nextHead_55 : decode cX9_nextHead 55 = .ok (.iconst 1, 1) := by decide +kernel
theorem dX9_nextHead_56 : decode cX9_nextHead 56 = .ok (.goto 4, 3) := by decide +kernel
theorem dX9_nextHead_65 : decode cX9_nextHead 65 = .ok (.aload_n 0, 1) := by decide +kernel
theorem dX9_nextHead_66 : decode cX9_nextHead 66 = .ok (.getfield 32, 3) := by decide +kernel
theorem dX9_nextHead_69 : decode cX9_nextHead 69 = .ok (.bipush 10, 2) := by decide +kernel
theorem dX9_nextHead_71 : decode cX9_nextHead 71 = .ok (.iload_n 2, 1) := by decide +kernel
theorem dX9_nextHead_72 : decode cX9_nextHead 72 = .ok (.imul, 1) := by decide +kernel
theorem dX9_nextHead_73 : decode cX9_nextHead 73 = .ok (.aload_n 0, 1) := by decide +kernel
theorem dX9_nextHead_74 : decode cX9_nextHead 74 = .ok (.getfield 35, 3) := by decide +kernel
theorem dX9_nextHead_77 : decode cX9_nextHead 77 = .ok (.iload_n 2, 1) := by decide +kernel
theorem dX9_nextHead_78 : decode cX9_nextHead 78 = .ok (.iaload, 1) := by decide +kernel
theorem dX9_nextHead_79 : decode cX9_nextHead 79 = .ok (.iadd, 1) := by decide +kernel
theorem dX9_nextHead_80 : decode cX9_nextHead 80 = .ok (.iaload, 1) := by decide +kernel
theorem dX9_nextHead_81 : decode cX9_nextHead 81 = .ok (.goto 5, 3) := by decide +kernel
set_option maxHeartbeats 4000000 in
set_option maxRecDepth 100000 in
theorem m_isWithin (l : Launch) (dC : Nat → ClassId) (dI : Nat → Nat → Nat) (sz : Nat) (h0 : Nat) (w0 : Value) (w1 : Value) (w2 : Value) (w3 : Value) (w4 : Value) (w5 : Value) (w6 : Value) (w7 : Value) (rw0 : Nat) (rw1 : Nat) (rw2 : Nat) (rmn : Nat) (w12 : Value) (w13 : Value) (w14 : Value) (w15 : Value) (w16 : Value) (w17 : Value) (w18 : Value) (w19 : Value) (w20 : Value) (w21 : Value) (w22 : Value) (w23 : Value) (w24 : Value) (w25 : Value) (w26 : Value) (w27 : Value) (w28 : Value) (w29 : Value) (w30 : Value) (w31 : Value) (w32 : Value) (w33 : Value) (w34 : Value) (krw0 : ClassId) (frw : Nat → Int32) (krw1 : ClassId) (fat : Nat → Int32) (krw2 : ClassId) (fen : Nat → Int32) (n : Int32) (hrm4 : rmn ≤ 4) (hfat : BdOk 4 10 fat) (hfen : BdOk 4 10 fen) : Met l yX9_isWithin (wq yX9_isWithin cX9_isWithin 5 (some .boolean)) ({ frames := 0, cells := 0, slots := 0, locals := 0 }) (va_Pc [.ref h0, .int n] (pcW dC dI [(krw0, .int), (krw1, .int), (krw2, .int)] [(h0, .inr (8, [w0, w1, w2, w3, w4, w5, w6, w7, .ref rw0, .ref rw1, .ref rw2, .int (nI rmn), w12, w13, w14, w15, w16, w17, w18, w19, w20, w21, w22, w23, w24, w25, w26, w27, w28, w29, w30, w31, w32, w33, w34])), (rw0, .inl (krw0, 40, .inl frw)), (rw1, .inl (krw1, 4, .inl fat)), (rw2, .inl (krw2, 4, .inl fen))] sz)) (va_Qi (fun (r : Int32) (_ : Unit) => (r = 1 ∧ Held frw fat fen rmn n) ∨ (r = 0 ∧ NW frw fat fen rmn n)) (fun _ _ => True) (fun q : Nat => sz ≤ q)) 0 0 (fun q : Nat => sz ≤ q) := by
  refine Met.ofW (cc := cX9_isWithin) (maxL := 5) (ret := (some .boolean)) (by decide) rfl ?_
  intro p e s m args below meth c s₁ B hml hv
  obtain ⟨rfl, hsz, hN, hP, hK, hD0⟩ := hv
  have hx := B.exec
  have hb := B.bytes
  have hr := B.returns
  have hts0 := atoms_spec (ws := (wq yX9_isWithin cX9_isWithin 5 (some .boolean))) B.pre
  have hts : ∀ w ∈ BG, w.before _ s = true := fun w h => hts0 w (List.mem_cons_of_mem _ h)
  have hown : s.vm.findClass RX9 = some m.cls := findClass_of_methodNamed B.named
  have hlocks := B.notSynchronized
  subst hsz
  have hA : ∀ q : Nat, s.heap.size ≤ q → (fun q : Nat => s.heap.size ≤ q) q := fun _ h => h
  have hD := hD0
  have hS : va_S (fun q : Nat => s.heap.size ≤ q) s.heap s.heap [] := va_S.rf
  have hP : va_P (dC, dI) vwCl [(h0, .inr (8, [w0, w1, w2, w3, w4, w5, w6, w7, .ref rw0, .ref rw1, .ref rw2, .int (nI rmn), w12, w13, w14, w15, w16, w17, w18, w19, w20, w21, w22, w23, w24, w25, w26, w27, w28, w29, w30, w31, w32, w33, w34])), (rw0, .inl (krw0, 40, .inl frw)), (rw1, .inl (krw1, 4, .inl fat)), (rw2, .inl (krw2, 4, .inl fen))] s.heap := hP
  have hl := lv_entry ([.ref h0, .int n]) (n := 5) (Nat.le_of_ble_eq_true rfl)
  rw [lg_entry_eq]
  generalize (lg_sl ([.ref h0, .int n]) ++ List.replicate (5 - (lg_sl ([.ref h0, .int n])).length) Slot.unset).toArray = ls at hl ⊢
  have hl : lv_has ls 5 [(0, .ref h0), (1, .int n)] := hl
  refine lv_iconst (v := 0) hx hb dX9_isWithin_0 (by decide) ?_
  refine lv_istore_n (lv' := [(2, .int 0), (0, .ref h0), (1, .int n)]) hx hb dX9_isWithin_1 rfl hl (by decide) rfl (fun ls hl => ?_)
  refine lv_iconst (v := 0) hx hb dX9_isWithin_2 (by decide) ?_
  refine lv_istore_n (lv' := [(3, .int 0), (2, .int 0), (0, .ref h0), (1, .int n)]) hx hb dX9_isWithin_3 rfl hl (by decide) rfl (fun ls hl => ?_)
  have key_1 : ∀ (fu : Nat) (k : Nat) (wo : Int32), (k ≤ rmn) → (WIo frw fat fen k n wo) → rmn - k < fu → ∀ (H : Heap) (locs : List Loc), va_P (dC, dI) vwCl [(h0, .inr (8, [w0, w1, w2, w3, w4, w5, w6, w7, .ref rw0, .ref rw1, .ref rw2, .int (nI rmn), w12, w13, w14, w15, w16, w17, w18, w19, w20, w21, w22, w23, w24, w25, w26, w27, w28, w29, w30, w31, w32, w33, w34])), (rw0, .inl (krw0, 40, .inl frw)), (rw1, .inl (krw1, 4, .inl fat)), (rw2, .inl (krw2, 4, .inl fen))] H → va_S (fun q : Nat => s.heap.size ≤ q) s.heap H locs → ∀ (ls : Array Slot), lv_has ls 5 [(3, .int (nI k)), (2, .int wo), (0, .ref h0), (1, .int n)] → W p l e (headSpec (wq yX9_isWithin cX9_isWithin 5 (some .boolean)) ({ frames := 0, cells := 0, slots := 0, locals := 0 })).room s m (([.ref h0, .int n] : List Value)).toArray below meth c H locs 0 0 (MQ below (va_Qi (fun (r : Int32) (_ : Unit) => (r = 1 ∧ Held frw fat fen rmn n) ∨ (r = 0 ∧ NW frw fat fen rmn n)) (fun _ _ => True) (fun q : Nat => s.heap.size ≤ q)) (([.ref h0, .int n] : List Value)).toArray s 0 0 (fun q : Nat => s.heap.size ≤ q)) (F0 m 4 ls []) := by
    intro fu
    induction fu with
    | zero => intro k wo hk hwo hme; exact absurd hme (Nat.not_lt_zero _)
    | succ fu ih_2 =>
      intro k wo hk hwo hme H locs hP hS ls hl
      refine lv_iload_n hx hb dX9_isWithin_4 rfl (lv_at hl 0 rfl) ?_
      refine lv_aload_n hx hb dX9_isWithin_5 rfl (lv_at hl 2 rfl) ?_
      refine va_get (D := (dC, dI)) (ci := 8) (v := .int (nI rmn)) (C := RX9) (T := TX9) (N := 35) hx hb hts inB_9 hown hK hP 0 rfl rfl 11 (by decide) (hts _ mw_3_193) (fun _ h9 => h9) rfl dX9_isWithin_6 ?_
      refine lv_icmp_ge (tgt := 71) hx hb dX9_isWithin_9 (by decide) (fun c_3 => ?_) (fun c_3 => ?_)
      · have b_4 := gx_ge (X := ((k : Nat) : Int)) (C := ((rmn : Nat) : Int)) (nI_toInt (by omega)) (nI_toInt (by omega)) c_3
        refine lv_iload_n hx hb dX9_isWithin_71 rfl (lv_at hl 1 rfl) ?_
        exact W.zret (v := wo) hx hb hr (narB (wi_b hwo)) (fun t ht hW => ⟨⟨wo, (), rfl, (by have q : k = rmn := (by omega); rw [q] at hwo; exact hwo), trivial⟩, hS.F ht⟩) hS.2.2 dX9_isWithin_72
      · have b_4 := gn_ge (X := ((k : Nat) : Int)) (C := ((rmn : Nat) : Int)) (nI_toInt (by omega)) (nI_toInt (by omega)) c_3
        refine lv_aload_n hx hb dX9_isWithin_12 rfl (lv_at hl 2 rfl) ?_
        refine va_get (D := (dC, dI)) (ci := 8) (v := .ref rw1) (C := RX9) (T := TX9) (N := 35) hx hb hts inB_9 hown hK hP 0 rfl rfl 9 (by decide) (hts _ mw_3_191) (fun _ h9 => h9) rfl dX9_isWithin_13 ?_
        refine lv_iload_n hx hb dX9_isWithin_16 rfl (lv_at hl 0 rfl) ?_
        refine va_iald hx hb hK hP 2 1 rfl rfl (show vp_in (nI k) 4 from vp_in_nI (by omega) (by omega)) dX9_isWithin_17 ?_
        refine hx_top (y := (fat k)) (congrArg _ (nI_clamp (by omega))) ?_
        obtain ⟨n_5, hn_5, en_5⟩ := hfat k (by omega)
        refine hx_top (y := (nI n_5)) en_5 ?_
        refine lv_iconst (v := 1) hx hb dX9_isWithin_18 (by decide) ?_
        refine lv_iadd hx hb dX9_isWithin_19 ?_
        refine hx_top (y := (nI (n_5 + 1))) (nI_add n_5 1) ?_
        refine lv_istore (lv' := [(4, .int (nI (n_5 + 1))), (3, .int (nI k)), (2, .int wo), (0, .ref h0), (1, .int n)]) hx hb dX9_isWithin_20 hl (by decide) rfl (fun ls hl => ?_)
        have key_6 : ∀ (fu : Nat) (i9 : Nat) (wi : Int32), (i9 ≤ 11) → ((fat k).toNatClampNeg < i9) → (WIn frw fat fen k i9 n wi) → 11 - i9 < fu → ∀ (H : Heap) (locs : List Loc), va_P (dC, dI) vwCl [(h0, .inr (8, [w0, w1, w2, w3, w4, w5, w6, w7, .ref rw0, .ref rw1, .ref rw2, .int (nI rmn), w12, w13, w14, w15, w16, w17, w18, w19, w20, w21, w22, w23, w24, w25, w26, w27, w28, w29, w30, w31, w32, w33, w34])), (rw0, .inl (krw0, 40, .inl frw)), (rw1, .inl (krw1, 4, .inl fat)), (rw2, .inl (krw2, 4, .inl fen))] H → va_S (fun q : Nat => s.heap.size ≤ q) s.heap H locs → ∀ (ls : Array Slot), lv_has ls 5 [(4, .int (nI i9)), (3, .int (nI k)), (2, .int wi), (0, .ref h0), (1, .int n)] → W p l e (headSpec (wq yX9_isWithin cX9_isWithin 5 (some .boolean)) ({ frames := 0, cells := 0, slots := 0, locals := 0 })).room s m (([.ref h0, .int n] : List Value)).toArray below meth c H locs 0 0 (MQ below (va_Qi (fun (r : Int32) (_ : Unit) => (r = 1 ∧ Held frw fat fen rmn n) ∨ (r = 0 ∧ NW frw fat fen rmn n)) (fun _ _ => True) (fun q : Nat => s.heap.size ≤ q)) (([.ref h0, .int n] : List Value)).toArray s 0 0 (fun q : Nat => s.heap.size ≤ q)) (F0 m 22 ls []) := by
          intro fu
          induction fu with
          | zero => intro i9 wi hi9 hlo9 hwi hme; exact absurd hme (Nat.not_lt_zero _)
          | succ fu ih_7 =>
            intro i9 wi hi9 hlo9 hwi hme H locs hP hS ls hl
            refine lv_iload hx hb dX9_isWithin_22 (lv_at hl 0 rfl) ?_
            refine lv_aload_n hx hb dX9_isWithin_24 rfl (lv_at hl 3 rfl) ?_
            refine va_get (D := (dC, dI)) (ci := 8) (v := .ref rw2) (C := RX9) (T := TX9) (N := 35) hx hb hts inB_9 hown hK hP 0 rfl rfl 10 (by decide) (hts _ mw_3_192) (fun _ h9 => h9) rfl dX9_isWithin_25 ?_
            refine lv_iload_n hx hb dX9_isWithin_28 rfl (lv_at hl 1 rfl) ?_
            refine va_iald hx hb hK hP 3 2 rfl rfl (show vp_in (nI k) 4 from vp_in_nI (by omega) (by omega)) dX9_isWithin_29 ?_
            refine hx_top (y := (fen k)) (congrArg _ (nI_clamp (by omega))) ?_
            obtain ⟨n_8, hn_8, en_8⟩ := hfen k (by omega)
            refine hx_top (y := (nI n_8)) en_8 ?_
            refine lv_icmp_ge (tgt := 65) hx hb dX9_isWithin_30 (by decide) (fun c_9 => ?_) (fun c_9 => ?_)
            · have b_10 := gx_ge (X := ((i9 : Nat) : Int)) (C := ((n_8 : Nat) : Int)) (nI_toInt (by omega)) (nI_toInt (by omega)) c_9
              refine lv_iinc (v := (nI (k + 1))) (lv' := [(3, .int (nI (k + 1))), (4, .int (nI i9)), (2, .int wi), (0, .ref h0), (1, .int n)]) hx hb dX9_isWithin_65 hl (k := 1) rfl (nI_add k 1) (by decide) rfl (fun ls hl => ?_)
              refine lv_goto (tgt := 4) hx hb dX9_isWithin_68 (by decide) ?_
              exact ih_2 (k + 1) wi (by omega) (wi_exit hwi (by rw [en_8, nI_clamp (by omega)]; omega)) (by omega) _ _ hP hS ls (lv_sub hl [0, 2, 3, 4] rfl)
            · have b_10 := gn_ge (X := ((i9 : Nat) : Int)) (C := ((n_8 : Nat) : Int)) (nI_toInt (by omega)) (nI_toInt (by omega)) c_9
              refine lv_iload_n hx hb dX9_isWithin_33 rfl (lv_at hl 2 rfl) ?_
              refine lv_if_ne (tgt := 53) hx hb dX9_isWithin_34 (by decide) (fun c_11 => ?_) (fun c_11 => ?_)
              · have b_12 := gx_ne (X := (Int32.toInt wi)) (C := 0) rfl (by decide) c_11
                refine lv_iconst (v := 1) hx hb dX9_isWithin_53 (by decide) ?_
                refine lv_goto (tgt := 58) hx hb dX9_isWithin_54 (by decide) ?_
                refine lv_istore_n (lv' := [(2, .int 1), (4, .int (nI i9)), (3, .int (nI k)), (0, .ref h0), (1, .int n)]) hx hb dX9_isWithin_58 rfl hl (by decide) rfl (fun ls hl => ?_)
                refine lv_iinc (v := (nI (i9 + 1))) (lv' := [(4, .int (nI (i9 + 1))), (2, .int 1), (3, .int (nI k)), (0, .ref h0), (1, .int n)]) hx hb dX9_isWithin_59 hl (k := 1) rfl (nI_add i9 1) (by decide) rfl (fun ls hl => ?_)
                refine lv_goto (tgt := 22) hx hb dX9_isWithin_62 (by decide) ?_
                exact ih_7 (i9 + 1) 1 (by omega) (by omega) (wi_keep hwi c_11) (by omega) _ _ hP hS ls (lv_sub hl [0, 2, 1, 3, 4] rfl)
              · have b_12 := gn_ne (X := (Int32.toInt wi)) (C := 0) rfl (by decide) c_11
                refine lv_aload_n hx hb dX9_isWithin_37 rfl (lv_at hl 3 rfl) ?_
                refine va_get (D := (dC, dI)) (ci := 8) (v := .ref rw0) (C := RX9) (T := TX9) (N := 35) hx hb hts inB_9 hown hK hP 0 rfl rfl 8 (by decide) (hts _ mw_3_190) (fun _ h9 => h9) rfl dX9_isWithin_38 ?_
                refine lv_bipush (v := 10) hx hb dX9_isWithin_41 (by decide) ?_
                refine lv_iload_n hx hb dX9_isWithin_43 rfl (lv_at hl 1 rfl) ?_
                refine lv_imul hx hb dX9_isWithin_44 ?_
                refine hx_top (y := (nI (10 * k))) (pk_mul 10 k) ?_
                refine lv_iload hx hb dX9_isWithin_45 (lv_at hl 0 rfl) ?_
                refine lv_iadd hx hb dX9_isWithin_47 ?_
                refine hx_top (y := (nI ((10 * k) + i9))) (nI_add (10 * k) i9) ?_
                refine va_iald hx hb hK hP 1 0 rfl rfl (show vp_in (nI ((10 * k) + i9)) 40 from vp_in_nI (by omega) (by omega)) dX9_isWithin_48 ?_
                refine hx_top (y := (frw ((10 * k) + i9))) (congrArg _ (nI_clamp (by omega))) ?_
                refine lv_iload_n hx hb dX9_isWithin_49 rfl (lv_at hl 4 rfl) ?_
                refine lv_icmp_ne (tgt := 57) hx hb dX9_isWithin_50 (by decide) (fun c_13 => ?_) (fun c_13 => ?_)
                · have b_14 := gx_ne (X := (Int32.toInt (frw ((10 * k) + i9)))) (C := (Int32.toInt n)) rfl rfl c_13
                  refine lv_iconst (v := 0) hx hb dX9_isWithin_57 (by decide) ?_
                  refine lv_istore_n (lv' := [(2, .int 0), (4, .int (nI i9)), (3, .int (nI k)), (0, .ref h0), (1, .int n)]) hx hb dX9_isWithin_58 rfl hl (by decide) rfl (fun ls hl => ?_)
                  refine lv_iinc (v := (nI (i9 + 1))) (lv' := [(4, .int (nI (i9 + 1))), (2, .int 0), (3, .int (nI k)), (0, .ref h0), (1, .int n)]) hx hb dX9_isWithin_59 hl (k := 1) rfl (nI_add i9 1) (by decide) rfl (fun ls hl => ?_)
                  refine lv_goto (tgt := 22) hx hb dX9_isWithin_62 (by decide) ?_
                  exact ih_7 (i9 + 1) 0 (by omega) (by omega) (wi_step hwi c_11 c_13) (by omega) _ _ hP hS ls (lv_sub hl [0, 2, 1, 3, 4] rfl)
                · have b_14 := gn_ne (X := (Int32.toInt (frw ((10 * k) + i9)))) (C := (Int32.toInt n)) rfl rfl c_13
                  refine lv_iconst (v := 1) hx hb dX9_isWithin_53 (by decide) ?_
                  refine lv_goto (tgt := 58) hx hb dX9_isWithin_54 (by decide) ?_
                  refine lv_istore_n (lv' := [(2, .int 1), (4, .int (nI i9)), (3, .int (nI k)), (0, .ref h0), (1, .int n)]) hx hb dX9_isWithin_58 rfl hl (by decide) rfl (fun ls hl => ?_)
                  refine lv_iinc (v := (nI (i9 + 1))) (lv' := [(4, .int (nI (i9 + 1))), (2, .int 1), (3, .int (nI k)), (0, .ref h0), (1, .int n)]) hx hb dX9_isWithin_59 hl (k := 1) rfl (nI_add i9 1) (by decide) rfl (fun ls hl => ?_)
                  refine lv_goto (tgt := 22) hx hb dX9_isWithin_62 (by decide) ?_
                  exact ih_7 (i9 + 1) 1 (by omega) (by omega) (wi_hit c_13 hlo9 (by rw [en_8, nI_clamp (by omega)]; omega)) (by omega) _ _ hP hS ls (lv_sub hl [0, 2, 1, 3, 4] rfl)
        exact key_6 ((11 - (n_5 + 1)) + 1) (n_5 + 1) wo (by omega) (by rw [en_5, nI_clamp (by omega)]; omega) (wi_init hwo en_5 (by omega)) (Nat.lt_succ_self _) _ _ hP hS ls (lv_sub hl [0, 1, 2, 3, 4] rfl)
  exact key_1 ((rmn - 0) + 1) 0 0 (by omega) wi_0 (Nat.lt_succ_self _) _ _ hP hS ls (lv_sub hl [0, 1, 2, 3] rfl)
set_option maxHeartbeats 4000000 in
set_option maxRecDepth 100000 in
theorem m_nextHead (l : Launch) (dC : Nat → ClassId) (dI : Nat → Nat → Nat) (sz : Nat) (h0 : Nat) (w0 : Value) (w1 : Value) (w2 : Value) (w3 : Value) (w4 : Value) (w5 : Value) (w6 : Value) (w7 : Value) (rw0 : Nat) (rw1 : Nat) (rw2 : Nat) (rmn : Nat) (w12 : Value) (w13 : Value) (w14 : Value) (w15 : Value) (w16 : Value) (w17 : Value) (w18 : Value) (w19 : Value) (w20 : Value) (w21 : Value) (w22 : Value) (w23 : Value) (w24 : Value) (w25 : Value) (w26 : Value) (w27 : Value) (w28 : Value) (w29 : Value) (w30 : Value) (w31 : Value) (w32 : Value) (w33 : Value) (w34 : Value) (krw0 : ClassId) (frw : Nat → Int32) (krw1 : ClassId) (fat : Nat → Int32) (krw2 : ClassId) (fen : Nat → Int32) (kd : Nat) (hrm4 : rmn ≤ 4) (hfat : BdOk 4 10 fat) (hfen : BdOk 4 10 fen) (hrw : RwOk frw fen rmn kd) (hkd9 : kd ≤ 10) : Met l yX9_nextHead (wq yX9_nextHead cX9_nextHead 4 (some .int)) ({ frames := 1, cells := 0, slots := 0, locals := 24 }) (va_Pc [.ref h0] (pcW dC dI [(krw0, .int), (krw1, .int), (krw2, .int)] [(h0, .inr (8, [w0, w1, w2, w3, w4, w5, w6, w7, .ref rw0, .ref rw1, .ref rw2, .int (nI rmn), w12, w13, w14, w15, w16, w17, w18, w19, w20, w21, w22, w23, w24, w25, w26, w27, w28, w29, w30, w31, w32, w33, w34])), (rw0, .inl (krw0, 40, .inl frw)), (rw1, .inl (krw1, 4, .inl fat)), (rw2, .inl (krw2, 4, .inl fen))] sz)) (va_Qi (fun (r : Int32) (_ : Unit) => (HdP frw fat fen rmn kd r ∧ r = nhF frw fat fen rmn 0 rmn)) (fun _ _ => True) (fun q : Nat => sz ≤ q)) 0 0 (fun q : Nat => sz ≤ q) := by
  refine Met.ofW (cc := cX9_nextHead) (maxL := 4) (ret := (some .int)) (by decide) rfl ?_
  intro p e s m args below meth c s₁ B hml hv
  obtain ⟨rfl, hsz, hN, hP, hK, hD0⟩ := hv
  have hx := B.exec
  have hb := B.bytes
  have hr := B.returns
  have hts0 := atoms_spec (ws := (wq yX9_nextHead cX9_nextHead 4 (some .int))) B.pre
  have hts : ∀ w ∈ BG, w.before _ s = true := fun w h => hts0 w (List.mem_cons_of_mem _ h)
  have hown : s.vm.findClass RX9 = some m.cls := findClass_of_methodNamed B.named
  have hlocks := B.notSynchronized
  subst hsz
  have hA : ∀ q : Nat, s.heap.size ≤ q → (fun q : Nat => s.heap.size ≤ q) q := fun _ h => h
  have hD := hD0
  have hS : va_S (fun q : Nat => s.heap.size ≤ q) s.heap s.heap [] := va_S.rf
  have hP : va_P (dC, dI) vwCl [(h0, .inr (8, [w0, w1, w2, w3, w4, w5, w6, w7, .ref rw0, .ref rw1, .ref rw2, .int (nI rmn), w12, w13, w14, w15, w16, w17, w18, w19, w20, w21, w22, w23, w24, w25, w26, w27, w28, w29, w30, w31, w32, w33, w34])), (rw0, .inl (krw0, 40, .inl frw)), (rw1, .inl (krw1, 4, .inl fat)), (rw2, .inl (krw2, 4, .inl fen))] s.heap := hP
  have hl := lv_entry ([.ref h0]) (n := 4) (Nat.le_of_ble_eq_true rfl)
  rw [lg_entry_eq]
  generalize (lg_sl ([.ref h0]) ++ List.replicate (4 - (lg_sl ([.ref h0])).length) Slot.unset).toArray = ls at hl ⊢
  have hl : lv_has ls 4 [(0, .ref h0)] := hl
  refine lv_bipush (v := (-6)) hx hb dX9_nextHead_0 (by decide) ?_
  refine lv_istore_n (lv' := [(1, .int (-6)), (0, .ref h0)]) hx hb dX9_nextHead_2 rfl hl (by decide) rfl (fun ls hl => ?_)
  refine lv_iconst (v := 0) hx hb dX9_nextHead_3 (by decide) ?_
  refine lv_istore_n (lv' := [(2, .int 0), (1, .int (-6)), (0, .ref h0)]) hx hb dX9_nextHead_4 rfl hl (by decide) rfl (fun ls hl => ?_)
  have key_1 : ∀ (fu : Nat) (k : Nat) (hd : Int32), (k ≤ rmn) → (HdP frw fat fen rmn kd hd) → (NhI frw fat fen rmn k hd) → rmn - k < fu → ∀ (H : Heap) (locs : List Loc), va_P (dC, dI) vwCl [(h0, .inr (8, [w0, w1, w2, w3, w4, w5, w6, w7, .ref rw0, .ref rw1, .ref rw2, .int (nI rmn), w12, w13, w14, w15, w16, w17, w18, w19, w20, w21, w22, w23, w24, w25, w26, w27, w28, w29, w30, w31, w32, w33, w34])), (rw0, .inl (krw0, 40, .inl frw)), (rw1, .inl (krw1, 4, .inl fat)), (rw2, .inl (krw2, 4, .inl fen))] H → va_S (fun q : Nat => s.heap.size ≤ q) s.heap H locs → ∀ (ls : Array Slot), lv_has ls 4 [(2, .int (nI k)), (1, .int hd), (0, .ref h0)] → W p l e (headSpec (wq yX9_nextHead cX9_nextHead 4 (some .int)) ({ frames := 1, cells := 0, slots := 0, locals := 24 })).room s m (([.ref h0] : List Value)).toArray below meth c H locs 0 0 (MQ below (va_Qi (fun (r : Int32) (_ : Unit) => (HdP frw fat fen rmn kd r ∧ r = nhF frw fat fen rmn 0 rmn)) (fun _ _ => True) (fun q : Nat => s.heap.size ≤ q)) (([.ref h0] : List Value)).toArray s 0 0 (fun q : Nat => s.heap.size ≤ q)) (F0 m 5 ls []) := by
    intro fu
    induction fu with
    | zero => intro k hd hk hhd hT hme; exact absurd hme (Nat.not_lt_zero _)
    | succ fu ih_2 =>
      intro k hd hk hhd hT hme H locs hP hS ls hl
      refine lv_iload_n hx hb dX9_nextHead_5 rfl (lv_at hl 0 rfl) ?_
      refine lv_aload_n hx hb dX9_nextHead_6 rfl (lv_at hl 2 rfl) ?_
      refine va_get (D := (dC, dI)) (ci := 8) (v := .int (nI rmn)) (C := RX9) (T := TX9) (N := 35) hx hb hts inB_9 hown hK hP 0 rfl rfl 11 (by decide) (hts _ mw_3_193) (fun _ h9 => h9) rfl dX9_nextHead_7 ?_
      refine lv_icmp_ge (tgt := 93) hx hb dX9_nextHead_10 (by decide) (fun c_3 => ?_) (fun c_3 => ?_)
      · have b_4 := gx_ge (X := ((k : Nat) : Int)) (C := ((rmn : Nat) : Int)) (nI_toInt (by omega)) (nI_toInt (by omega)) c_3
        refine lv_iload_n hx hb dX9_nextHead_93 rfl (lv_at hl 1 rfl) ?_
        exact W.iret (v := hd) hx hb hr (fun t ht hW => ⟨⟨hd, (), rfl, ⟨hhd, nhi_leaf hT (by omega)⟩, trivial⟩, hS.F ht⟩) hS.2.2 dX9_nextHead_94
      · have b_4 := gn_ge (X := ((k : Nat) : Int)) (C := ((rmn : Nat) : Int)) (nI_toInt (by omega)) (nI_toInt (by omega)) c_3
        refine lv_iload_n hx hb dX9_nextHead_13 rfl (lv_at hl 1 rfl) ?_
        refine lv_if_ge (tgt := 93) hx hb dX9_nextHead_14 (by decide) (fun c_5 => ?_) (fun c_5 => ?_)
        · have b_6 := gx_ge (X := (Int32.toInt hd)) (C := 0) rfl (by decide) c_5
          refine lv_iload_n hx hb dX9_nextHead_93 rfl (lv_at hl 1 rfl) ?_
          exact W.iret (v := hd) hx hb hr (fun t ht hW => ⟨⟨hd, (), rfl, ⟨hhd, nhi_leaf hT (by omega)⟩, trivial⟩, hS.F ht⟩) hS.2.2 dX9_nextHead_94
        · have b_6 := gn_ge (X := (Int32.toInt hd)) (C := 0) rfl (by decide) c_5
          refine lv_aload_n hx hb dX9_nextHead_17 rfl (lv_at hl 2 rfl) ?_
          refine va_get (D := (dC, dI)) (ci := 8) (v := .ref rw1) (C := RX9) (T := TX9) (N := 35) hx hb hts inB_9 hown hK hP 0 rfl rfl 9 (by decide) (hts _ mw_3_191) (fun _ h9 => h9) rfl dX9_nextHead_18 ?_
          refine lv_iload_n hx hb dX9_nextHead_21 rfl (lv_at hl 0 rfl) ?_
          refine va_iald hx hb hK hP 2 1 rfl rfl (show vp_in (nI k) 4 from vp_in_nI (by omega) (by omega)) dX9_nextHead_22 ?_
          refine hx_top (y := (fat k)) (congrArg _ (nI_clamp (by omega))) ?_
          obtain ⟨n_7, hn_7, en_7⟩ := hfat k (by omega)
          refine hx_top (y := (nI n_7)) en_7 ?_
          refine lv_aload_n hx hb dX9_nextHead_23 rfl (lv_at hl 2 rfl) ?_
          refine va_get (D := (dC, dI)) (ci := 8) (v := .ref rw2) (C := RX9) (T := TX9) (N := 35) hx hb hts inB_9 hown hK hP 0 rfl rfl 10 (by decide) (hts _ mw_3_192) (fun _ h9 => h9) rfl dX9_nextHead_24 ?_
          refine lv_iload_n hx hb dX9_nextHead_27 rfl (lv_at hl 0 rfl) ?_
          refine va_iald hx hb hK hP 3 2 rfl rfl (show vp_in (nI k) 4 from vp_in_nI (by omega) (by omega)) dX9_nextHead_28 ?_
          refine hx_top (y := (fen k)) (congrArg _ (nI_clamp (by omega))) ?_
          obtain ⟨n_8, hn_8, en_8⟩ := hfen k (by omega)
          refine hx_top (y := (nI n_8)) en_8 ?_
          refine lv_icmp_ge (tgt := 59) hx hb dX9_nextHead_29 (by decide) (fun c_9 => ?_) (fun c_9 => ?_)
          · have b_10 := gx_ge (X := ((n_7 : Nat) : Int)) (C := ((n_8 : Nat) : Int)) (nI_toInt (by omega)) (nI_toInt (by omega)) c_9
            refine lv_iconst (v := 0) hx hb dX9_nextHead_59 (by decide) ?_
            refine lv_istore_n (lv' := [(3, .int 0), (2, .int (nI k)), (1, .int hd), (0, .ref h0)]) hx hb dX9_nextHead_60 rfl hl (by decide) rfl (fun ls hl => ?_)
            refine lv_iload_n hx hb dX9_nextHead_61 rfl (lv_at hl 0 rfl) ?_
            refine lv_if_eq (tgt := 84) hx hb dX9_nextHead_62 (by decide) (fun _ => ?_) (fun h => absurd (by decide) h)
            refine lv_bipush (v := (-6)) hx hb dX9_nextHead_84 (by decide) ?_
            refine lv_istore_n (lv' := [(1, .int (-6)), (3, .int 0), (2, .int (nI k)), (0, .ref h0)]) hx hb dX9_nextHead_86 rfl hl (by decide) rfl (fun ls hl => ?_)
            refine lv_iinc (v := (nI (k + 1))) (lv' := [(2, .int (nI (k + 1))), (1, .int (-6)), (3, .int 0), (0, .ref h0)]) hx hb dX9_nextHead_87 hl (k := 2) rfl (nI_add k 1) (by decide) rfl (fun ls hl => ?_)
            refine lv_goto (tgt := 5) hx hb dX9_nextHead_90 (by decide) ?_
            exact ih_2 (k + 1) (-6) (by omega) (Or.inl rfl) (nhi_no hT (by omega) (by omega) (fun q => absurd q.1 (by rw [en_7, en_8, nI_clamp (by omega), nI_clamp (by omega)]; omega))) (by omega) _ _ hP hS ls (lv_sub hl [0, 1, 3] rfl)
          · have b_10 := gn_ge (X := ((n_7 : Nat) : Int)) (C := ((n_8 : Nat) : Int)) (nI_toInt (by omega)) (nI_toInt (by omega)) c_9
            refine lv_aload_n hx hb dX9_nextHead_32 rfl (lv_at hl 2 rfl) ?_
            refine lv_aload_n hx hb dX9_nextHead_33 rfl (lv_at hl 2 rfl) ?_
            refine va_get (D := (dC, dI)) (ci := 8) (v := .ref rw0) (C := RX9) (T := TX9) (N := 35) hx hb hts inB_9 hown hK hP 0 rfl rfl 8 (by decide) (hts _ mw_3_190) (fun _ h9 => h9) rfl dX9_nextHead_34 ?_
            refine lv_bipush (v := 10) hx hb dX9_nextHead_37 (by decide) ?_
            refine lv_iload_n hx hb dX9_nextHead_39 rfl (lv_at hl 0 rfl) ?_
            refine lv_imul hx hb dX9_nextHead_40 ?_
            refine hx_top (y := (nI (10 * k))) (pk_mul 10 k) ?_
            refine lv_aload_n hx hb dX9_nextHead_41 rfl (lv_at hl 2 rfl) ?_
            refine va_get (D := (dC, dI)) (ci := 8) (v := .ref rw1) (C := RX9) (T := TX9) (N := 35) hx hb hts inB_9 hown hK hP 0 rfl rfl 9 (by decide) (hts _ mw_3_191) (fun _ h9 => h9) rfl dX9_nextHead_42 ?_
            refine lv_iload_n hx hb dX9_nextHead_45 rfl (lv_at hl 0 rfl) ?_
            refine va_iald hx hb hK hP 2 1 rfl rfl (show vp_in (nI k) 4 from vp_in_nI (by omega) (by omega)) dX9_nextHead_46 ?_
            refine hx_top (y := (fat k)) (congrArg _ (nI_clamp (by omega))) ?_
            refine hx_top (y := (nI n_7)) en_7 ?_
            refine lv_iadd hx hb dX9_nextHead_47 ?_
            refine hx_top (y := (nI ((10 * k) + n_7))) (nI_add (10 * k) n_7) ?_
            refine va_iald hx hb hK hP 1 0 rfl rfl (show vp_in (nI ((10 * k) + n_7)) 40 from vp_in_nI (by omega) (by omega)) dX9_nextHead_48 ?_
            refine hx_top (y := (frw ((10 * k) + n_7))) (congrArg _ (nI_clamp (by omega))) ?_
            obtain ⟨n_11, hn_11, en_11⟩ := hrw k (by omega) n_7 (by rw [en_8, nI_clamp (by omega)]; omega)
            refine hx_top (y := (nI n_11)) en_11 ?_
            have hPc := hP.sub (ws' := [(h0, .inr (8, [w0, w1, w2, w3, w4, w5, w6, w7, .ref rw0, .ref rw1, .ref rw2, .int (nI rmn), w12, w13, w14, w15, w16, w17, w18, w19, w20, w21, w22, w23, w24, w25, w26, w27, w28, w29, w30, w31, w32, w33, w34])), (rw0, .inl (krw0, 40, .inl frw)), (rw1, .inl (krw1, 4, .inl fat)), (rw2, .inl (krw2, 4, .inl fen))]) [0, 1, 2, 3] rfl
            have hDc := hD.sub (ws' := [(h0, .inr (8, [w0, w1, w2, w3, w4, w5, w6, w7, .ref rw0, .ref rw1, .ref rw2, .int (nI rmn), w12, w13, w14, w15, w16, w17, w18, w19, w20, w21, w22, w23, w24, w25, w26, w27, w28, w29, w30, w31, w32, w33, w34])), (rw0, .inl (krw0, 40, .inl frw)), (rw1, .inl (krw1, 4, .inl fat)), (rw2, .inl (krw2, 4, .inl fen))]) [0, 1, 2, 3] (by decide) rfl
            have hKc := hK.sub (tys' := [(krw0, .int), (krw1, .int), (krw2, .int)]) [0, 1, 2] rfl
            refine va_calli (va_runV (As := [.int (nI n_11)]) (rest := []) ⟨hx, hb, hml, hown, hts⟩ (m_isWithin l dC dI H.size h0 (w0) (w1) (w2) (w3) (w4) (w5) (w6) (w7) rw0 rw1 rw2 rmn (w12) (w13) (w14) (w15) (w16) (w17) (w18) (w19) (w20) (w21) (w22) (w23) (w24) (w25) (w26) (w27) (w28) (w29) (w30) (w31) (w32) (w33) (w34) krw0 frw krw1 fat krw2 fen (nI n_11) hrm4 hfat hfen) (cwV 1 hts (gV mw_4_69 mw_4_71 mw_0_18 mw_1_9 mw_4_72) rfl rfl rfl (by decide +kernel) ⟨Nat.le_of_ble_eq_true rfl, Nat.le_of_ble_eq_true rfl⟩) ⟨pcW_blind, va_recv hKc hPc (ci := 8) (q0 := 0) rfl rfl, pcW_at hPc hKc hDc hN⟩ rfl rfl hl.1 rfl (lv_room (Nat.le_of_ble_eq_true rfl)) dX9_nextHead_49 ⟨Nat.le_of_ble_eq_true rfl, Nat.le_of_ble_eq_true rfl⟩) hS (fun q h1 h2 => absurd h2 (Nat.not_le.mpr h1)) (fun q h => hA q (Nat.le_trans hS.1 h)) (fun r_12 u t H1 locs ht hvm hw_12 hB hz1 hk1 hS => ?_)
            have hP := keepP hP hk1
            clear hz1 hk1 hB ht hvm hPc hDc hKc
            generalize H1 = H at hP hS ⊢
            rcases hw_12 with ⟨rfl, p_13⟩ | ⟨rfl, p_13⟩
            · skip
              refine lv_if_ne (tgt := 59) hx hb dX9_nextHead_52 (by decide) (fun _ => ?_) (fun h => absurd h (by decide))
              refine lv_iconst (v := 0) hx hb dX9_nextHead_59 (by decide) ?_
              refine lv_istore_n (lv' := [(3, .int 0), (2, .int (nI k)), (1, .int hd), (0, .ref h0)]) hx hb dX9_nextHead_60 rfl hl (by decide) rfl (fun ls hl => ?_)
              refine lv_iload_n hx hb dX9_nextHead_61 rfl (lv_at hl 0 rfl) ?_
              refine lv_if_eq (tgt := 84) hx hb dX9_nextHead_62 (by decide) (fun _ => ?_) (fun h => absurd (by decide) h)
              refine lv_bipush (v := (-6)) hx hb dX9_nextHead_84 (by decide) ?_
              refine lv_istore_n (lv' := [(1, .int (-6)), (3, .int 0), (2, .int (nI k)), (0, .ref h0)]) hx hb dX9_nextHead_86 rfl hl (by decide) rfl (fun ls hl => ?_)
              refine lv_iinc (v := (nI (k + 1))) (lv' := [(2, .int (nI (k + 1))), (1, .int (-6)), (3, .int 0), (0, .ref h0)]) hx hb dX9_nextHead_87 hl (k := 2) rfl (nI_add k 1) (by decide) rfl (fun ls hl => ?_)
              refine lv_goto (tgt := 5) hx hb dX9_nextHead_90 (by decide) ?_
              exact ih_2 (k + 1) (-6) (by omega) (Or.inl rfl) (nhi_no hT (by omega) (by omega) (fun q => q.2 (by rw [en_7, nI_clamp (by omega), en_11]; exact p_13))) (by omega) _ _ hP hS ls (lv_sub hl [0, 1, 3] rfl)
            · skip
              refine lv_if_ne (tgt := 59) hx hb dX9_nextHead_52 (by decide) (fun h => absurd h (by decide)) (fun _ => ?_)
              refine lv_iconst (v := 1) hx hb dX9_nextHead_55 (by decide) ?_
              refine lv_goto (tgt := 60) hx hb dX9_nextHead_56 (by decide) ?_
              refine lv_istore_n (lv' := [(3, .int 1), (2, .int (nI k)), (1, .int hd), (0, .ref h0)]) hx hb dX9_nextHead_60 rfl hl (by decide) rfl (fun ls hl => ?_)
              refine lv_iload_n hx hb dX9_nextHead_61 rfl (lv_at hl 0 rfl) ?_
              refine lv_if_eq (tgt := 84) hx hb dX9_nextHead_62 (by decide) (fun h => absurd h (by decide)) (fun _ => ?_)
              refine lv_aload_n hx hb dX9_nextHead_65 rfl (lv_at hl 3 rfl) ?_
              refine va_get (D := (dC, dI)) (ci := 8) (v := .ref rw0) (C := RX9) (T := TX9) (N := 35) hx hb hts inB_9 hown hK hP 0 rfl rfl 8 (by decide) (hts _ mw_3_190) (fun _ h9 => h9) rfl dX9_nextHead_66 ?_
              refine lv_bipush (v := 10) hx hb dX9_nextHead_69 (by decide) ?_
              refine lv_iload_n hx hb dX9_nextHead_71 rfl (lv_at hl 1 rfl) ?_
              refine lv_imul hx hb dX9_nextHead_72 ?_
              refine hx_top (y := (nI (10 * k))) (pk_mul 10 k) ?_
              refine lv_aload_n hx hb dX9_nextHead_73 rfl (lv_at hl 3 rfl) ?_
              refine va_get (D := (dC, dI)) (ci := 8) (v := .ref rw1) (C := RX9) (T := TX9) (N := 35) hx hb hts inB_9 hown hK hP 0 rfl rfl 9 (by decide) (hts _ mw_3_191) (fun _ h9 => h9) rfl dX9_nextHead_74 ?_
              refine lv_iload_n hx hb dX9_nextHead_77 rfl (lv_at hl 1 rfl) ?_
              refine va_iald hx hb hK hP 2 1 rfl rfl (show vp_in (nI k) 4 from vp_in_nI (by omega) (by omega)) dX9_nextHead_78 ?_
              refine hx_top (y := (fat k)) (congrArg _ (nI_clamp (by omega))) ?_
              refine hx_top (y := (nI n_7)) en_7 ?_
              refine lv_iadd hx hb dX9_nextHead_79 ?_
              refine hx_top (y := (nI ((10 * k) + n_7))) (nI_add (10 * k) n_7) ?_
              refine va_iald hx hb hK hP 1 0 rfl rfl (show vp_in (nI ((10 * k) + n_7)) 40 from vp_in_nI (by omega) (by omega)) dX9_nextHead_80 ?_
              refine hx_top (y := (frw ((10 * k) + n_7))) (congrArg _ (nI_clamp (by omega))) ?_
              refine hx_top (y := (nI n_11)) en_11 ?_
              refine lv_goto (tgt := 86) hx hb dX9_nextHead_81 (by decide) ?_
              refine lv_istore_n (lv' := [(1, .int (nI n_11)), (3, .int 1), (2, .int (nI k)), (0, .ref h0)]) hx hb dX9_nextHead_86 rfl hl (by decide) rfl (fun ls hl => ?_)
              refine lv_iinc (v := (nI (k + 1))) (lv' := [(2, .int (nI (k + 1))), (1, .int (nI n_11)), (3, .int 1), (0, .ref h0)]) hx hb dX9_nextHead_87 hl (k := 2) rfl (nI_add k 1) (by decide) rfl (fun ls hl => ?_)
              refine lv_goto (tgt := 5) hx hb dX9_nextHead_90 (by decide) ?_
              exact ih_2 (k + 1) (nI n_11) (by omega) (Or.inr ⟨n_11, rfl, hn_11, p_13, k, by omega, n_7, n_8, en_7, en_8, by omega, by omega, en_11⟩) (nhi_hit hT (by omega) (by omega) en_7 en_8 (by omega) (by omega) en_11 (by omega) p_13) (by omega) _ _ hP hS ls (lv_sub hl [0, 1, 3] rfl)
  exact key_1 ((rmn - 0) + 1) 0 (-6) (by omega) (Or.inl rfl) nhi_0 (Nat.lt_succ_self _) _ _ hP hS ls (lv_sub hl [0, 1, 2] rfl)
