theorem mw_1_32 : Cond.methodLink RX4 3 objectInit ∈ BG := mB (t1 (i := 32) (by decide +kernel)) (by decide +kernel)
theorem mw_1_19 : Cond.instanceMethod objectInit ∈ BG := mB (t1 (i := 19) (by decide +kernel)) (by decide +kernel)
theorem mw_1_20 : Cond.code objectInit ⟨#[0xb1]⟩ 1 none ∈ BG := mB (t1 (i := 20) rfl) (by decide +kernel)
theorem mw_1_46 : Cond.arrayClass .int ∈ BG := mB (t1 (i := 46) (by decide +kernel)) (by decide +kernel)
theorem mw_1_77 : Cond.methodLink RX2 3 objectInit ∈ BG := mB (t1 (i := 77) (by decide +kernel)) (by decide +kernel)
theorem mw_1_85 : Cond.arrayClass .char ∈ BG := mB (t1 (i := 85) (by decide +kernel)) (by decide +kernel)
theorem mw_1_91 : Cond.methodLink RX0 3 objectInit ∈ BG := mB (t1 (i := 91) (by decide +kernel)) (by decide +kernel)
theorem mw_1_107 : Cond.methodLink RX5 3 objectInit ∈ BG := mB (t1 (i := 107) (by decide +kernel)) (by decide +kernel)
theorem mw_1_126 : Cond.methodLink RX7 3 objectInit ∈ BG := mB (t1 (i := 126) (by decide +kernel)) (by decide +kernel)
theorem mw_1_148 : Cond.methodLink RX3 3 objectInit ∈ BG := mB (t1 (i := 148) (by decide +kernel)) (by decide +kernel)
theorem mw_1_26 : Cond.methodLink RX1 3 objectInit ∈ BG := mB (t1 (i := 26) (by decide +kernel)) (by decide +kernel)
theorem mw_1_27 : Cond.classLink RX1 27 RX4 ∈ BG := mB (t1 (i := 27) (by decide +kernel)) (by decide +kernel)
theorem mw_1_28 : Cond.instantiable RX4 4 ∈ BG := mB (t1 (i := 28) (by decide +kernel)) (by decide +kernel)
theorem mw_1_31 : Cond.code yX4_init cX4_init 1 none ∈ BG := mB (t1 (i := 31) rfl) (by decide +kernel)
theorem mw_1_30 : Cond.instanceMethod yX4_init ∈ BG := mB (t1 (i := 30) (by decide +kernel)) (by decide +kernel)
theorem dX4_init_0 : decode cX4_init 0 = .ok (.aload_n 0, 1) := by decide +kernel
theorem dX4_init_1 : decode cX4_init 1 = .ok (.invokespecial 3, 3) := by decide +kernel
theorem dX4_init_4 : decode cX4_init 4 = .ok (.aload_n 0, 1) := by decide +kernel
theorem dX4_init_5 : decode cX4_init 5 = .ok (.bipush 40, 2) := by decide +kernel
theorem dX4_init_7 : decode cX4_init 7 = .ok (.newarray .int, 2) := by decide +kernel
theorem dX4_init_9 : decode cX4_init 9 = .ok (.putfield 11, 3) := by decide +kernel
theorem dX4_init_12 : decode cX4_init 12 = .ok (.aload_n 0, 1) := by decide +kernel
theorem dX4_init_13 : decode cX4_init 13 = .ok (.iconst 4, 1) := by decide +kernel
theorem dX4_init_14 : decode cX4_init 14 = .ok (.newarray .int, 2) := by decide +kernel
theorem dX4_init_16 : decode cX4_init 16 = .ok (.putfield 15, 3) := by decide +kernel
theorem dX4_init_19 : decode cX4_init 19 = .ok (.aload_n 0, 1) := by decide +kernel
theorem dX4_init_20 : decode cX4_init 20 = .ok (.iconst 4, 1) := by decide +kernel
theorem dX4_init_21 : decode cX4_init 21 = .ok (.newarray .int, 2) := by decide +kernel
theorem dX4_init_23 : decode cX4_init 23 = .ok (.putfield 18, 3) := by decide +kernel
theorem dX4_init_26 : decode cX4_init 26 = .ok (.return_, 1) := by decide +kernel
theorem dX2_init_0 : decode cX2_init 0 = .ok (.aload_n 0, 1) := by decide +kernel
theorem dX2_init_1 : decode cX2_init 1 = .ok (.invokespecial 3, 3) := by decide +kernel
theorem dX2_init_4 : decode cX2_init 4 = .ok (.aload_n 0, 1) := by decide +kernel
theorem dX2_init_5 : decode cX2_init 5 = .ok (.bipush 12, 2) := by decide +kernel
theorem dX2_init_7 : decode cX2_init 7 = .ok (.newarray .char, 2) := by decide +kernel
theorem dX2_init_9 : decode cX2_init 9 = .ok (.putfield 9, 3) := by decide +kernel
theorem dX2_init_12 : decode cX2_init 12 = .ok (.return_, 1) := by decide +kernel
theorem dX0_init_0 : decode cX0_init 0 = .ok (.aload_n 0, 1) := by decide +kernel
theorem dX0_init_1 : decode cX0_init 1 = .ok (.invokespecial 3, 3) := by decide +kernel
theorem dX0_init_4 : decode cX0_init 4 = .ok (.aload_n 0, 1) := by decide +kernel
theorem dX0_init_5 : decode cX0_init 5 = .ok (.bipush 8, 2) := by decide +kernel
theorem dX0_init_7 : decode cX0_init 7 = .ok (.newarray .int, 2) := by decide +kernel
theorem dX0_init_9 : decode cX0_init 9 = .ok (.putfield 9, 3) := by decide +kernel
theorem dX0_init_12 : decode cX0_init 12 = .ok (.aload_n 0, 1) := by decide +kernel
theorem dX0_init_13 : decode cX0_init 13 = .ok (.bipush 80, 2) := by decide +kernel
theorem dX0_init_15 : decode cX0_init 15 = .ok (.newarray .int, 2) := by decide +kernel
theorem dX0_init_17 : decode cX0_init 17 = .ok (.putfield 15, 3) := by decide +kernel
theorem dX0_init_20 : decode cX0_init 20 = .ok (.aload_n 0, 1) := by decide +kernel
theorem dX0_init_21 : decode cX0_init 21 = .ok (.sipush 960, 3) := by decide +kernel
theorem dX0_init_24 : decode cX0_init 24 = .ok (.newarray .char, 2) := by decide +kernel
theorem dX0_init_26 : decode cX0_init 26 = .ok (.putfield 18, 3) := by decide +kernel
theorem dX0_init_29 : decode cX0_init 29 = .ok (.return_, 1) := by decide +kernel
theorem dX5_init_0 : decode cX5_init 0 = .ok (.aload_n 0, 1) := by decide +kernel
theorem dX5_init_1 : decode cX5_init 1 = .ok (.invokespecial 3, 3) := by decide +kernel
theorem dX5_init_4 : decode cX5_init 4 = .ok (.aload_n 0, 1) := by decide +kernel
theorem dX5_init_5 : decode cX5_init 5 = .ok (.bipush 40, 2) := by decide +kernel
theorem dX5_init_7 : decode cX5_init 7 = .ok (.newarray .int, 2) := by decide +kernel
theorem dX5_init_9 : decode cX5_init 9 = .ok (.putfield 11, 3) := by decide +kernel
theorem dX5_init_12 : decode cX5_init 12 = .ok (.return_, 1) := by decide +kernel
theorem dX7_init_0 : decode cX7_init 0 = .ok (.aload_n 0, 1) := by decide +kernel
theorem dX7_init_1 : decode cX7_init 1 = .ok (.invokespecial 3, 3) := by decide +kernel
theorem dX7_init_4 : decode cX7_init 4 = .ok (.aload_n 0, 1) := by decide +kernel
theorem dX7_init_5 : decode cX7_init 5 = .ok (.bipush 10, 2) := by decide +kernel
theorem dX7_init_7 : decode cX7_init 7 = .ok (.newarray .int, 2) := by decide +kernel
theorem dX7_init_9 : decode cX7_init 9 = .ok (.putfield 9, 3) := by decide +kernel
theorem dX7_init_12 : decode cX7_init 12 = .ok (.aload_n 0, 1) := by decide +kernel
theorem dX7_init_13 : decode cX7_init 13 = .ok (.bipush 8, 2) := by decide +kernel
theorem dX7_init_15 : decode cX7_init 15 = .ok (.newarray .int, 2) := by decide +kernel
theorem dX7_init_17 : decode cX7_init 17 = .ok (.putfield 15, 3) := by decide +kernel
theorem dX7_init_20 : decode cX7_init 20 = .ok (.aload_n 0, 1) := by decide +kernel
theorem dX7_init_21 : decode cX7_init 21 = .ok (.bipush 8, 2) := by decide +kernel
theorem dX7_init_23 : decode cX7_init 23 = .ok (.newarray .int, 2) := by decide +kernel
theorem dX7_init_25 : decode cX7_init 25 = .ok (.putfield 18, 3) := by decide +kernel
theorem dX7_init_28 : decode cX7_init 28 = .ok (.aload_n 0, 1) := by decide +kernel
theorem dX7_init_29 : decode cX7_init 29 = .ok (.bipush 10, 2) := by decide +kernel
theorem dX7_init_31 : decode cX7_init 31 = .ok (.newarray .int, 2) := by decide +kernel
theorem dX7_init_33 : decode cX7_init 33 = .ok (.putfield 21, 3) := by decide +kernel
theorem dX7_init_36 : decode cX7_init 36 = .ok (.aload_n 0, 1) := by decide +kernel
theorem dX7_init_37 : decode cX7_init 37 = .ok (.bipush 100, 2) := by decide +kernel
theorem dX7_init_39 : decode cX7_init 39 = .ok (.newarray .int, 2) := by decide +kernel
theorem dX7_init_41 : decode cX7_init 41 = .ok (.putfield 24, 3) := by decide +kernel
theorem dX7_init_44 : decode cX7_init 44 = .ok (.return_, 1) := by decide +kernel
theorem dX3_init_0 : decode cX3_init 0 = .ok (.aload_n 0, 1) := by decide +kernel
theorem dX3_init_1 : decode cX3_init 1 = .ok (.invokespecial 3, 3) := by decide +kernel
theorem dX3_init_4 : decode cX3_init 4 = .ok (.aload_n 0, 1) := by decide +kernel
theorem dX3_init_5 : decode cX3_init 5 = .ok (.iconst 4, 1) := by decide +kernel
theorem dX3_init_6 : decode cX3_init 6 = .ok (.newarray .int, 2) := by decide +kernel
theorem dX3_init_8 : decode cX3_init 8 = .ok (.putfield 9, 3) := by decide +kernel
theorem dX3_init_11 : decode cX3_init 11 = .ok (.aload_n 0, 1) := by decide +kernel
theorem dX3_init_12 : decode cX3_init 12 = .ok (.bipush 40, 2) := by decide +kernel
theorem dX3_init_14 : decode cX3_init 14 = .ok (.newarray .int, 2) := by decide +kernel
theorem dX3_init_16 : decode cX3_init 16 = .ok (.putfield 15, 3) := by decide +kernel
theorem dX3_init_19 : decode cX3_init 19 = .ok (.aload_n 0, 1) := by decide +kernel
theorem dX3_init_20 : decode cX3_init 20 = .ok (.bipush 40, 2) := by decide +kernel
theorem dX3_init_22 : decode cX3_init 22 = .ok (.newarray .int, 2) := by decide +kernel
theorem dX3_init_24 : decode cX3_init 24 = .ok (.putfield 18, 3) := by decide +kernel
theorem dX3_init_27 : decode cX3_init 27 = .ok (.aload_n 0, 1) := by decide +kernel
theorem dX3_init_28 : decode cX3_init 28 = .ok (.iconst 4, 1) := by decide +kernel
theorem dX3_init_29 : decode cX3_init 29 = .ok (.newarray .int, 2) := by decide +kernel
theorem dX3_init_31 : decode cX3_init 31 = .ok (.putfield 21, 3) := by decide +kernel
theorem dX3_init_34 : decode cX3_init 34 = .ok (.iconst 0, 1) := by decide +kernel
theorem dX3_init_35 : decode cX3_init 35 = .ok (.istore_n 1, 1) := by decide +kernel
theorem dX3_init_36 : decode cX3_init 36 = .ok (.iload_n 1, 1) := by decide +kernel
theorem dX3_init_37 : decode cX3_init 37 = .ok (.iconst 4, 1) := by decide +kernel
theorem dX3_init_38 : decode cX3_init 38 = .ok (.if_icmp .ge 16, 3) := by decide +kernel
theorem dX3_init_41 : decode cX3_init 41 = .ok (.aload_n 0, 1) := by decide +kernel
theorem dX3_init_42 : decode cX3_init 42 = .ok (.getfield 9, 3) := by decide +kernel
theorem dX3_init_45 : decode cX3_init 45 = .ok (.iload_n 1, 1) := by decide +kernel
theorem dX3_init_46 : decode cX3_init 46 = .ok (.iconst 1, 1) := by decide +kernel
theorem dX3_init_47 : decode cX3_init 47 = .ok (.iastore, 1) := by decide +kernel
theorem dX3_init_48 : decode cX3_init 48 = .ok (.iinc 1 1, 3) := by decide +kernel
theorem dX3_init_51 : decode cX3_init 51 = .ok (.goto (-15), 3) := by decide +kernel
theorem dX3_init_54 : decode cX3_init 54 = .ok (.return_, 1) := by decide +kernel
theorem dX1_init_0 : decode cX1_init 0 = .ok (.aload_n 0, 1) := by decide +kernel
theorem dX1_init_1 : decode cX1_init 1 = .ok (.invokespecial 3, 3) := by decide +kernel
theorem dX1_init_4 : decode cX1_init 4 = .ok (.aload_n 0, 1) := by decide +kernel
theorem dX1_init_5 : decode cX1_init 5 = .ok (.bipush 10, 2) := by decide +kernel
theorem dX1_init_7 : decode cX1_init 7 = .ok (.newarray .int, 2) := by decide +kernel
theorem dX1_init_9 : decode cX1_init 9 = .ok (.putfield 9, 3) := by decide +kernel
theorem dX1_init_12 : decode cX1_init 12 = .ok (.aload_n 0, 1) := by decide +kernel
theorem dX1_init_13 : decode cX1_init 13 = .ok (.bipush 10, 2) := by decide +kernel
theorem dX1_init_15 : decode cX1_init 15 = .ok (.newarray .int, 2) := by decide +kernel
theorem dX1_init_17 : decode cX1_init 17 = .ok (.putfield 15, 3) := by decide +kernel
theorem dX1_init_20 : decode cX1_init 20 = .ok (.aload_n 0, 1) := by decide +kernel
theorem dX1_init_21 : decode cX1_init 21 = .ok (.bipush 10, 2) := by decide +kernel
theorem dX1_init_23 : decode cX1_init 23 = .ok (.newarray .int, 2) := by decide +kernel
theorem dX1_init_25 : decode cX1_init 25 = .ok (.putfield 18, 3) := by decide +kernel
theorem dX1_init_28 : decode cX1_init 28 = .ok (.aload_n 0, 1) := by decide +kernel
theorem dX1_init_29 : decode cX1_init 29 = .ok (.bipush 100, 2) := by decide +kernel
theorem dX1_init_31 : decode cX1_init 31 = .ok (.newarray .int, 2) := by decide +kernel
theorem dX1_init_33 : decode cX1_init 33 = .ok (.putfield 21, 3) := by decide +kernel
theorem dX1_init_36 : decode cX1_init 36 = .ok (.aload_n 0, 1) := by decide +kernel
theorem dX1_init_37 : decode cX1_init 37 = .ok (.iconst 3, 1) := by decide +kernel
theorem dX1_init_38 : decode cX1_init 38 = .ok (.newarray .int, 2) := by decide +kernel
theorem dX1_init_40 : decode cX1_init 40 = .ok (.putfield 24, 3) := by decide +kernel
theorem dX1_init_43 : decode cX1_init 43 = .ok (.aload_n 0, 1) := by decide +kernel
theorem dX1_init_44 : decode cX1_init 44 = .ok (.new 27, 3) := by decide +kernel
theorem dX1_init_47 : decode cX1_init 47 = .ok (.dup, 1) := by decide +kernel
theorem dX1_init_48 : decode cX1_init 48 = .ok (.invokespecial 29, 3) := by decide +kernel
theorem dX1_init_51 : decode cX1_init 51 = .ok (.putfield 30, 3) := by decide +kernel
theorem dX1_init_54 : decode cX1_init 54 = .ok (.return_, 1) := by decide +kernel
set_option maxHeartbeats 4000000 in
set_option maxRecDepth 100000 in
theorem n_X4 (l : Launch) (dC : Nat → ClassId) (dI : Nat → Nat → Nat) (sz : Nat) (h0 : Nat)  : Met l yX4_init (wq yX4_init cX4_init 1 none) ({ frames := 1, cells := 3, slots := 48, locals := 12 }) (va_Pc [.ref h0] (pcW dC dI [] [(h0, .inr (4, [.null, .null, .null, .int 0]))] sz)) (va_Qv (fun _ : Unit => True) (fun _ t => ∃ (a_1 : Nat) (k_2 : ClassId) (a_3 : Nat) (k_4 : ClassId) (a_5 : Nat) (k_6 : ClassId), va_P (dC, dI) vwCl [(h0, .inr (4, [.ref a_1, .ref a_3, .ref a_5, .int 0])), (a_1, .inl (k_2, 40, .inl (fun _ => 0))), (a_3, .inl (k_4, 4, .inl (fun _ => 0))), (a_5, .inl (k_6, 4, .inl (fun _ => 0)))] t.heap ∧ va_K (dC, dI) vwCl [(k_2, .int), (k_4, .int), (k_6, .int)] t ∧ va_D (va_A [(h0, .inr (4, [.null, .null, .null, .int 0]))] sz) [(h0, .inr (4, [.ref a_1, .ref a_3, .ref a_5, .int 0])), (a_1, .inl (k_2, 40, .inl (fun _ => 0))), (a_3, .inl (k_4, 4, .inl (fun _ => 0))), (a_5, .inl (k_6, 4, .inl (fun _ => 0)))]) (va_A [(h0, .inr (4, [.null, .null, .null, .int 0]))] sz)) 3 48 (va_A [(h0, .inr (4, [.null, .null, .null, .int 0]))] sz) := by
  refine Met.ofW (cc := cX4_init) (maxL := 1) (ret := none) (by decide) rfl ?_
  intro p e s m args below meth c s₁ B hml hv
  obtain ⟨rfl, hsz, hN, hP, hK, hD0⟩ := hv
  have hx := B.exec
  have hb := B.bytes
  have hr := B.returns
  have hts0 := atoms_spec (ws := (wq yX4_init cX4_init 1 none)) B.pre
  have hts : ∀ w ∈ BG, w.before _ s = true := fun w h => hts0 w (List.mem_cons_of_mem _ h)
  have hown : s.vm.findClass RX4 = some m.cls := findClass_of_methodNamed B.named
  have hlocks := B.notSynchronized
  have hin : meth.name = "<init>" := (name_of_methodNamed B.named B.method).1
  subst hsz
  have hD := hD0.self (sz := s.heap.size)
  generalize hAe : va_A [(h0, .inr (4, [.null, .null, .null, .int 0]))] s.heap.size = A at hD ⊢
  have hA : ∀ q : Nat, s.heap.size ≤ q → A q := fun q h => by rw [← hAe]; exact Or.inr h
  have hS : va_S A s.heap s.heap [] := va_S.rf
  have hP : va_P (dC, dI) vwCl [(h0, .inr (4, [.null, .null, .null, .int 0]))] s.heap := hP
  have hl := lv_entry ([.ref h0]) (n := 1) (Nat.le_of_ble_eq_true rfl)
  rw [lg_entry_eq]
  generalize (lg_sl ([.ref h0]) ++ List.replicate (1 - (lg_sl ([.ref h0])).length) Slot.unset).toArray = ls at hl ⊢
  have hl : lv_has ls 1 [(0, .ref h0)] := hl
  skip
  refine lv_aload_n hx hb dX4_init_0 rfl (lv_at hl 0 rfl) ?_
  refine W.objInit hx hb hown (hts _ mw_1_32) (hts _ mw_1_19) (hts _ mw_1_20) rfl (by rw [hml]; exact hl.1) rfl dX4_init_1 (Nat.le_of_ble_eq_true rfl) (Nat.le_of_ble_eq_true rfl) ?_
  refine W.eq (g2 := F0 m 4 ls []) rfl ?_
  refine lv_aload_n hx hb dX4_init_4 rfl (lv_at hl 0 rfl) ?_
  refine lv_bipush (v := 40) hx hb dX4_init_5 (by decide) ?_
  refine va_newa (atype := .int) (N' := 40) hx hb (hts _ mw_1_46) rfl hK hP hD hS hA (a0 := (40, .inl (fun _ => 0))) (fun _ => rfl) (by decide) rfl (by decide) (Nat.le_of_ble_eq_true rfl) (Nat.le_of_ble_eq_true rfl) dX4_init_7 (fun a_1 k_2 H hK hP hD hS => ?_)
  have hK : va_K (dC, dI) vwCl [(k_2, .int)] s := hK
  have hP : va_P (dC, dI) vwCl [(h0, .inr (4, [.null, .null, .null, .int 0])), (a_1, .inl (k_2, 40, .inl (fun _ => 0)))] H := hP
  have hD : va_D A [(h0, .inr (4, [.null, .null, .null, .int 0])), (a_1, .inl (k_2, 40, .inl (fun _ => 0)))] := hD
  refine W.widen (k := 1) (n := 40) (by omega) (by omega) ?_
  refine va_putF (D := (dC, dI)) (ci := 4) (v := .ref a_1) (ty := .array .int) (C := RX4) (T := TX4) (N := 4) hx hb hts inB_4 tyX4 tyX4_ok nmX4 hown hK hP hD hS 0 rfl rfl 0 (by decide) (hts _ mw_1_33) (fun _ h9 => h9) rfl hin rfl (by decide +kernel) rfl rfl (Nat.le_of_ble_eq_true rfl) dX4_init_9 (fun H locs hP hD hS => ?_)
  have hP : va_P (dC, dI) vwCl [(h0, .inr (4, [.ref a_1, .null, .null, .int 0])), (a_1, .inl (k_2, 40, .inl (fun _ => 0)))] H := hP
  have hD : va_D A [(h0, .inr (4, [.ref a_1, .null, .null, .int 0])), (a_1, .inl (k_2, 40, .inl (fun _ => 0)))] := hD
  refine lv_aload_n hx hb dX4_init_12 rfl (lv_at hl 0 rfl) ?_
  refine lv_iconst (v := 4) hx hb dX4_init_13 (by decide) ?_
  refine va_newa (atype := .int) (N' := 4) hx hb (hts _ mw_1_46) rfl hK hP hD hS hA (a0 := (4, .inl (fun _ => 0))) (fun _ => rfl) (by decide) rfl (by decide) (Nat.le_of_ble_eq_true rfl) (Nat.le_of_ble_eq_true rfl) dX4_init_14 (fun a_3 k_4 H hK hP hD hS => ?_)
  have hK : va_K (dC, dI) vwCl [(k_2, .int), (k_4, .int)] s := hK
  have hP : va_P (dC, dI) vwCl [(h0, .inr (4, [.ref a_1, .null, .null, .int 0])), (a_1, .inl (k_2, 40, .inl (fun _ => 0))), (a_3, .inl (k_4, 4, .inl (fun _ => 0)))] H := hP
  have hD : va_D A [(h0, .inr (4, [.ref a_1, .null, .null, .int 0])), (a_1, .inl (k_2, 40, .inl (fun _ => 0))), (a_3, .inl (k_4, 4, .inl (fun _ => 0)))] := hD
  refine W.widen (k := 2) (n := 44) (by omega) (by omega) ?_
  refine va_putF (D := (dC, dI)) (ci := 4) (v := .ref a_3) (ty := .array .int) (C := RX4) (T := TX4) (N := 4) hx hb hts inB_4 tyX4 tyX4_ok nmX4 hown hK hP hD hS 0 rfl rfl 1 (by decide) (hts _ mw_1_34) (fun _ h9 => h9) rfl hin rfl (by decide +kernel) rfl rfl (Nat.le_of_ble_eq_true rfl) dX4_init_16 (fun H locs hP hD hS => ?_)
  have hP : va_P (dC, dI) vwCl [(h0, .inr (4, [.ref a_1, .ref a_3, .null, .int 0])), (a_1, .inl (k_2, 40, .inl (fun _ => 0))), (a_3, .inl (k_4, 4, .inl (fun _ => 0)))] H := hP
  have hD : va_D A [(h0, .inr (4, [.ref a_1, .ref a_3, .null, .int 0])), (a_1, .inl (k_2, 40, .inl (fun _ => 0))), (a_3, .inl (k_4, 4, .inl (fun _ => 0)))] := hD
  refine lv_aload_n hx hb dX4_init_19 rfl (lv_at hl 0 rfl) ?_
  refine lv_iconst (v := 4) hx hb dX4_init_20 (by decide) ?_
  refine va_newa (atype := .int) (N' := 4) hx hb (hts _ mw_1_46) rfl hK hP hD hS hA (a0 := (4, .inl (fun _ => 0))) (fun _ => rfl) (by decide) rfl (by decide) (Nat.le_of_ble_eq_true rfl) (Nat.le_of_ble_eq_true rfl) dX4_init_21 (fun a_5 k_6 H hK hP hD hS => ?_)
  have hK : va_K (dC, dI) vwCl [(k_2, .int), (k_4, .int), (k_6, .int)] s := hK
  have hP : va_P (dC, dI) vwCl [(h0, .inr (4, [.ref a_1, .ref a_3, .null, .int 0])), (a_1, .inl (k_2, 40, .inl (fun _ => 0))), (a_3, .inl (k_4, 4, .inl (fun _ => 0))), (a_5, .inl (k_6, 4, .inl (fun _ => 0)))] H := hP
  have hD : va_D A [(h0, .inr (4, [.ref a_1, .ref a_3, .null, .int 0])), (a_1, .inl (k_2, 40, .inl (fun _ => 0))), (a_3, .inl (k_4, 4, .inl (fun _ => 0))), (a_5, .inl (k_6, 4, .inl (fun _ => 0)))] := hD
  refine W.widen (k := 3) (n := 48) (by omega) (by omega) ?_
  refine va_putF (D := (dC, dI)) (ci := 4) (v := .ref a_5) (ty := .array .int) (C := RX4) (T := TX4) (N := 4) hx hb hts inB_4 tyX4 tyX4_ok nmX4 hown hK hP hD hS 0 rfl rfl 2 (by decide) (hts _ mw_1_35) (fun _ h9 => h9) rfl hin rfl (by decide +kernel) rfl rfl (Nat.le_of_ble_eq_true rfl) dX4_init_23 (fun H locs hP hD hS => ?_)
  have hP : va_P (dC, dI) vwCl [(h0, .inr (4, [.ref a_1, .ref a_3, .ref a_5, .int 0])), (a_1, .inl (k_2, 40, .inl (fun _ => 0))), (a_3, .inl (k_4, 4, .inl (fun _ => 0))), (a_5, .inl (k_6, 4, .inl (fun _ => 0)))] H := hP
  have hD : va_D A [(h0, .inr (4, [.ref a_1, .ref a_3, .ref a_5, .int 0])), (a_1, .inl (k_2, 40, .inl (fun _ => 0))), (a_3, .inl (k_4, 4, .inl (fun _ => 0))), (a_5, .inl (k_6, 4, .inl (fun _ => 0)))] := hD
  refine W.widen (k := 3) (n := 48) (by omega) (by omega) ?_
  exact W.vret hx hb hr (fun t ht hW => ⟨⟨(), rfl, trivial, a_1, k_2, a_3, k_4, a_5, k_6, by rw [ht]; exact hP, va_K.moved hW.alike hK, hD⟩, hS.F ht⟩) hS.2.2 dX4_init_26
set_option maxHeartbeats 4000000 in
set_option maxRecDepth 100000 in
theorem n_X2 (l : Launch) (dC : Nat → ClassId) (dI : Nat → Nat → Nat) (sz : Nat) (h0 : Nat)  : Met l yX2_init (wq yX2_init cX2_init 1 none) ({ frames := 1, cells := 1, slots := 12, locals := 12 }) (va_Pc [.ref h0] (pcW dC dI [] [(h0, .inr (2, [.null, .int 0]))] sz)) (va_Qv (fun _ : Unit => True) (fun _ t => ∃ (a_1 : Nat) (k_2 : ClassId), va_P (dC, dI) vwCl [(h0, .inr (2, [.ref a_1, .int 0])), (a_1, .inl (k_2, 12, .inl (fun _ => 0)))] t.heap ∧ va_K (dC, dI) vwCl [(k_2, .char)] t ∧ va_D (va_A [(h0, .inr (2, [.null, .int 0]))] sz) [(h0, .inr (2, [.ref a_1, .int 0])), (a_1, .inl (k_2, 12, .inl (fun _ => 0)))]) (va_A [(h0, .inr (2, [.null, .int 0]))] sz)) 1 12 (va_A [(h0, .inr (2, [.null, .int 0]))] sz) := by
  refine Met.ofW (cc := cX2_init) (maxL := 1) (ret := none) (by decide) rfl ?_
  intro p e s m args below meth c s₁ B hml hv
  obtain ⟨rfl, hsz, hN, hP, hK, hD0⟩ := hv
  have hx := B.exec
  have hb := B.bytes
  have hr := B.returns
  have hts0 := atoms_spec (ws := (wq yX2_init cX2_init 1 none)) B.pre
  have hts : ∀ w ∈ BG, w.before _ s = true := fun w h => hts0 w (List.mem_cons_of_mem _ h)
  have hown : s.vm.findClass RX2 = some m.cls := findClass_of_methodNamed B.named
  have hlocks := B.notSynchronized
  have hin : meth.name = "<init>" := (name_of_methodNamed B.named B.method).1
  subst hsz
  have hD := hD0.self (sz := s.heap.size)
  generalize hAe : va_A [(h0, .inr (2, [.null, .int 0]))] s.heap.size = A at hD ⊢
  have hA : ∀ q : Nat, s.heap.size ≤ q → A q := fun q h => by rw [← hAe]; exact Or.inr h
  have hS : va_S A s.heap s.heap [] := va_S.rf
  have hP : va_P (dC, dI) vwCl [(h0, .inr (2, [.null, .int 0]))] s.heap := hP
  have hl := lv_entry ([.ref h0]) (n := 1) (Nat.le_of_ble_eq_true rfl)
  rw [lg_entry_eq]
  generalize (lg_sl ([.ref h0]) ++ List.replicate (1 - (lg_sl ([.ref h0])).length) Slot.unset).toArray = ls at hl ⊢
  have hl : lv_has ls 1 [(0, .ref h0)] := hl
  skip
  refine lv_aload_n hx hb dX2_init_0 rfl (lv_at hl 0 rfl) ?_
  refine W.objInit hx hb hown (hts _ mw_1_77) (hts _ mw_1_19) (hts _ mw_1_20) rfl (by rw [hml]; exact hl.1) rfl dX2_init_1 (Nat.le_of_ble_eq_true rfl) (Nat.le_of_ble_eq_true rfl) ?_
  refine W.eq (g2 := F0 m 4 ls []) rfl ?_
  refine lv_aload_n hx hb dX2_init_4 rfl (lv_at hl 0 rfl) ?_
  refine lv_bipush (v := 12) hx hb dX2_init_5 (by decide) ?_
  refine va_newa (atype := .char) (N' := 12) hx hb (hts _ mw_1_85) rfl hK hP hD hS hA (a0 := (12, .inl (fun _ => 0))) (fun _ => rfl) (by decide) rfl (by decide) (Nat.le_of_ble_eq_true rfl) (Nat.le_of_ble_eq_true rfl) dX2_init_7 (fun a_1 k_2 H hK hP hD hS => ?_)
  have hK : va_K (dC, dI) vwCl [(k_2, .char)] s := hK
  have hP : va_P (dC, dI) vwCl [(h0, .inr (2, [.null, .int 0])), (a_1, .inl (k_2, 12, .inl (fun _ => 0)))] H := hP
  have hD : va_D A [(h0, .inr (2, [.null, .int 0])), (a_1, .inl (k_2, 12, .inl (fun _ => 0)))] := hD
  refine W.widen (k := 1) (n := 12) (by omega) (by omega) ?_
  refine va_putF (D := (dC, dI)) (ci := 2) (v := .ref a_1) (ty := .array .char) (C := RX2) (T := TX2) (N := 2) hx hb hts inB_2 tyX2 tyX2_ok nmX2 hown hK hP hD hS 0 rfl rfl 0 (by decide) (hts _ mw_1_78) (fun _ h9 => h9) rfl hin rfl (by decide +kernel) rfl rfl (Nat.le_of_ble_eq_true rfl) dX2_init_9 (fun H locs hP hD hS => ?_)
  have hP : va_P (dC, dI) vwCl [(h0, .inr (2, [.ref a_1, .int 0])), (a_1, .inl (k_2, 12, .inl (fun _ => 0)))] H := hP
  have hD : va_D A [(h0, .inr (2, [.ref a_1, .int 0])), (a_1, .inl (k_2, 12, .inl (fun _ => 0)))] := hD
  refine W.widen (k := 1) (n := 12) (by omega) (by omega) ?_
  exact W.vret hx hb hr (fun t ht hW => ⟨⟨(), rfl, trivial, a_1, k_2, by rw [ht]; exact hP, va_K.moved hW.alike hK, hD⟩, hS.F ht⟩) hS.2.2 dX2_init_12
set_option maxHeartbeats 4000000 in
set_option maxRecDepth 100000 in
theorem n_X0 (l : Launch) (dC : Nat → ClassId) (dI : Nat → Nat → Nat) (sz : Nat) (h0 : Nat)  : Met l yX0_init (wq yX0_init cX0_init 1 none) ({ frames := 1, cells := 3, slots := 1048, locals := 12 }) (va_Pc [.ref h0] (pcW dC dI [] [(h0, .inr (0, [.null, .null, .null]))] sz)) (va_Qv (fun _ : Unit => True) (fun _ t => ∃ (a_1 : Nat) (k_2 : ClassId) (a_3 : Nat) (k_4 : ClassId) (a_5 : Nat) (k_6 : ClassId), va_P (dC, dI) vwCl [(h0, .inr (0, [.ref a_1, .ref a_3, .ref a_5])), (a_1, .inl (k_2, 8, .inl (fun _ => 0))), (a_3, .inl (k_4, 80, .inl (fun _ => 0))), (a_5, .inl (k_6, 960, .inl (fun _ => 0)))] t.heap ∧ va_K (dC, dI) vwCl [(k_2, .int), (k_4, .int), (k_6, .char)] t ∧ va_D (va_A [(h0, .inr (0, [.null, .null, .null]))] sz) [(h0, .inr (0, [.ref a_1, .ref a_3, .ref a_5])), (a_1, .inl (k_2, 8, .inl (fun _ => 0))), (a_3, .inl (k_4, 80, .inl (fun _ => 0))), (a_5, .inl (k_6, 960, .inl (fun _ => 0)))]) (va_A [(h0, .inr (0, [.null, .null, .null]))] sz)) 3 1048 (va_A [(h0, .inr (0, [.null, .null, .null]))] sz) := by
  refine Met.ofW (cc := cX0_init) (maxL := 1) (ret := none) (by decide) rfl ?_
  intro p e s m args below meth c s₁ B hml hv
  obtain ⟨rfl, hsz, hN, hP, hK, hD0⟩ := hv
  have hx := B.exec
  have hb := B.bytes
  have hr := B.returns
  have hts0 := atoms_spec (ws := (wq yX0_init cX0_init 1 none)) B.pre
  have hts : ∀ w ∈ BG, w.before _ s = true := fun w h => hts0 w (List.mem_cons_of_mem _ h)
  have hown : s.vm.findClass RX0 = some m.cls := findClass_of_methodNamed B.named
  have hlocks := B.notSynchronized
  have hin : meth.name = "<init>" := (name_of_methodNamed B.named B.method).1
  subst hsz
  have hD := hD0.self (sz := s.heap.size)
  generalize hAe : va_A [(h0, .inr (0, [.null, .null, .null]))] s.heap.size = A at hD ⊢
  have hA : ∀ q : Nat, s.heap.size ≤ q → A q := fun q h => by rw [← hAe]; exact Or.inr h
  have hS : va_S A s.heap s.heap [] := va_S.rf
  have hP : va_P (dC, dI) vwCl [(h0, .inr (0, [.null, .null, .null]))] s.heap := hP
  have hl := lv_entry ([.ref h0]) (n := 1) (Nat.le_of_ble_eq_true rfl)
  rw [lg_entry_eq]
  generalize (lg_sl ([.ref h0]) ++ List.replicate (1 - (lg_sl ([.ref h0])).length) Slot.unset).toArray = ls at hl ⊢
  have hl : lv_has ls 1 [(0, .ref h0)] := hl
  skip
  refine lv_aload_n hx hb dX0_init_0 rfl (lv_at hl 0 rfl) ?_
  refine W.objInit hx hb hown (hts _ mw_1_91) (hts _ mw_1_19) (hts _ mw_1_20) rfl (by rw [hml]; exact hl.1) rfl dX0_init_1 (Nat.le_of_ble_eq_true rfl) (Nat.le_of_ble_eq_true rfl) ?_
  refine W.eq (g2 := F0 m 4 ls []) rfl ?_
  refine lv_aload_n hx hb dX0_init_4 rfl (lv_at hl 0 rfl) ?_
  refine lv_bipush (v := 8) hx hb dX0_init_5 (by decide) ?_
  refine va_newa (atype := .int) (N' := 8) hx hb (hts _ mw_1_46) rfl hK hP hD hS hA (a0 := (8, .inl (fun _ => 0))) (fun _ => rfl) (by decide) rfl (by decide) (Nat.le_of_ble_eq_true rfl) (Nat.le_of_ble_eq_true rfl) dX0_init_7 (fun a_1 k_2 H hK hP hD hS => ?_)
  have hK : va_K (dC, dI) vwCl [(k_2, .int)] s := hK
  have hP : va_P (dC, dI) vwCl [(h0, .inr (0, [.null, .null, .null])), (a_1, .inl (k_2, 8, .inl (fun _ => 0)))] H := hP
  have hD : va_D A [(h0, .inr (0, [.null, .null, .null])), (a_1, .inl (k_2, 8, .inl (fun _ => 0)))] := hD
  refine W.widen (k := 1) (n := 8) (by omega) (by omega) ?_
  refine va_putF (D := (dC, dI)) (ci := 0) (v := .ref a_1) (ty := .array .int) (C := RX0) (T := TX0) (N := 3) hx hb hts inB_0 tyX0 tyX0_ok nmX0 hown hK hP hD hS 0 rfl rfl 0 (by decide) (hts _ mw_1_92) (fun _ h9 => h9) rfl hin rfl (by decide +kernel) rfl rfl (Nat.le_of_ble_eq_true rfl) dX0_init_9 (fun H locs hP hD hS => ?_)
  have hP : va_P (dC, dI) vwCl [(h0, .inr (0, [.ref a_1, .null, .null])), (a_1, .inl (k_2, 8, .inl (fun _ => 0)))] H := hP
  have hD : va_D A [(h0, .inr (0, [.ref a_1, .null, .null])), (a_1, .inl (k_2, 8, .inl (fun _ => 0)))] := hD
  refine lv_aload_n hx hb dX0_init_12 rfl (lv_at hl 0 rfl) ?_
  refine lv_bipush (v := 80) hx hb dX0_init_13 (by decide) ?_
  refine va_newa (atype := .int) (N' := 80) hx hb (hts _ mw_1_46) rfl hK hP hD hS hA (a0 := (80, .inl (fun _ => 0))) (fun _ => rfl) (by decide) rfl (by decide) (Nat.le_of_ble_eq_true rfl) (Nat.le_of_ble_eq_true rfl) dX0_init_15 (fun a_3 k_4 H hK hP hD hS => ?_)
  have hK : va_K (dC, dI) vwCl [(k_2, .int), (k_4, .int)] s := hK
  have hP : va_P (dC, dI) vwCl [(h0, .inr (0, [.ref a_1, .null, .null])), (a_1, .inl (k_2, 8, .inl (fun _ => 0))), (a_3, .inl (k_4, 80, .inl (fun _ => 0)))] H := hP
  have hD : va_D A [(h0, .inr (0, [.ref a_1, .null, .null])), (a_1, .inl (k_2, 8, .inl (fun _ => 0))), (a_3, .inl (k_4, 80, .inl (fun _ => 0)))] := hD
  refine W.widen (k := 2) (n := 88) (by omega) (by omega) ?_
  refine va_putF (D := (dC, dI)) (ci := 0) (v := .ref a_3) (ty := .array .int) (C := RX0) (T := TX0) (N := 3) hx hb hts inB_0 tyX0 tyX0_ok nmX0 hown hK hP hD hS 0 rfl rfl 1 (by decide) (hts _ mw_1_93) (fun _ h9 => h9) rfl hin rfl (by decide +kernel) rfl rfl (Nat.le_of_ble_eq_true rfl) dX0_init_17 (fun H locs hP hD hS => ?_)
  have hP : va_P (dC, dI) vwCl [(h0, .inr (0, [.ref a_1, .ref a_3, .null])), (a_1, .inl (k_2, 8, .inl (fun _ => 0))), (a_3, .inl (k_4, 80, .inl (fun _ => 0)))] H := hP
  have hD : va_D A [(h0, .inr (0, [.ref a_1, .ref a_3, .null])), (a_1, .inl (k_2, 8, .inl (fun _ => 0))), (a_3, .inl (k_4, 80, .inl (fun _ => 0)))] := hD
  refine lv_aload_n hx hb dX0_init_20 rfl (lv_at hl 0 rfl) ?_
  refine lv_sipush (v := 960) hx hb dX0_init_21 (by decide) ?_
  refine va_newa (atype := .char) (N' := 960) hx hb (hts _ mw_1_85) rfl hK hP hD hS hA (a0 := (960, .inl (fun _ => 0))) (fun _ => rfl) (by decide) rfl (by decide) (Nat.le_of_ble_eq_true rfl) (Nat.le_of_ble_eq_true rfl) dX0_init_24 (fun a_5 k_6 H hK hP hD hS => ?_)
  have hK : va_K (dC, dI) vwCl [(k_2, .int), (k_4, .int), (k_6, .char)] s := hK
  have hP : va_P (dC, dI) vwCl [(h0, .inr (0, [.ref a_1, .ref a_3, .null])), (a_1, .inl (k_2, 8, .inl (fun _ => 0))), (a_3, .inl (k_4, 80, .inl (fun _ => 0))), (a_5, .inl (k_6, 960, .inl (fun _ => 0)))] H := hP
  have hD : va_D A [(h0, .inr (0, [.ref a_1, .ref a_3, .null])), (a_1, .inl (k_2, 8, .inl (fun _ => 0))), (a_3, .inl (k_4, 80, .inl (fun _ => 0))), (a_5, .inl (k_6, 960, .inl (fun _ => 0)))] := hD
  refine W.widen (k := 3) (n := 1048) (by omega) (by omega) ?_
  refine va_putF (D := (dC, dI)) (ci := 0) (v := .ref a_5) (ty := .array .char) (C := RX0) (T := TX0) (N := 3) hx hb hts inB_0 tyX0 tyX0_ok nmX0 hown hK hP hD hS 0 rfl rfl 2 (by decide) (hts _ mw_1_94) (fun _ h9 => h9) rfl hin rfl (by decide +kernel) rfl rfl (Nat.le_of_ble_eq_true rfl) dX0_init_26 (fun H locs hP hD hS => ?_)
  have hP : va_P (dC, dI) vwCl [(h0, .inr (0, [.ref a_1, .ref a_3, .ref a_5])), (a_1, .inl (k_2, 8, .inl (fun _ => 0))), (a_3, .inl (k_4, 80, .inl (fun _ => 0))), (a_5, .inl (k_6, 960, .inl (fun _ => 0)))] H := hP
  have hD : va_D A [(h0, .inr (0, [.ref a_1, .ref a_3, .ref a_5])), (a_1, .inl (k_2, 8, .inl (fun _ => 0))), (a_3, .inl (k_4, 80, .inl (fun _ => 0))), (a_5, .inl (k_6, 960, .inl (fun _ => 0)))] := hD
  refine W.widen (k := 3) (n := 1048) (by omega) (by omega) ?_
  exact W.vret hx hb hr (fun t ht hW => ⟨⟨(), rfl, trivial, a_1, k_2, a_3, k_4, a_5, k_6, by rw [ht]; exact hP, va_K.moved hW.alike hK, hD⟩, hS.F ht⟩) hS.2.2 dX0_init_29
set_option maxHeartbeats 4000000 in
set_option maxRecDepth 100000 in
theorem n_X5 (l : Launch) (dC : Nat → ClassId) (dI : Nat → Nat → Nat) (sz : Nat) (h0 : Nat)  : Met l yX5_init (wq yX5_init cX5_init 1 none) ({ frames := 1, cells := 1, slots := 40, locals := 12 }) (va_Pc [.ref h0] (pcW dC dI [] [(h0, .inr (5, [.null, .int 0, .int 0, .int 0]))] sz)) (va_Qv (fun _ : Unit => True) (fun _ t => ∃ (a_1 : Nat) (k_2 : ClassId), va_P (dC, dI) vwCl [(h0, .inr (5, [.ref a_1, .int 0, .int 0, .int 0])), (a_1, .inl (k_2, 40, .inl (fun _ => 0)))] t.heap ∧ va_K (dC, dI) vwCl [(k_2, .int)] t ∧ va_D (va_A [(h0, .inr (5, [.null, .int 0, .int 0, .int 0]))] sz) [(h0, .inr (5, [.ref a_1, .int 0, .int 0, .int 0])), (a_1, .inl (k_2, 40, .inl (fun _ => 0)))]) (va_A [(h0, .inr (5, [.null, .int 0, .int 0, .int 0]))] sz)) 1 40 (va_A [(h0, .inr (5, [.null, .int 0, .int 0, .int 0]))] sz) := by
  refine Met.ofW (cc := cX5_init) (maxL := 1) (ret := none) (by decide) rfl ?_
  intro p e s m args below meth c s₁ B hml hv
  obtain ⟨rfl, hsz, hN, hP, hK, hD0⟩ := hv
  have hx := B.exec
  have hb := B.bytes
  have hr := B.returns
  have hts0 := atoms_spec (ws := (wq yX5_init cX5_init 1 none)) B.pre
  have hts : ∀ w ∈ BG, w.before _ s = true := fun w h => hts0 w (List.mem_cons_of_mem _ h)
  have hown : s.vm.findClass RX5 = some m.cls := findClass_of_methodNamed B.named
  have hlocks := B.notSynchronized
  have hin : meth.name = "<init>" := (name_of_methodNamed B.named B.method).1
  subst hsz
  have hD := hD0.self (sz := s.heap.size)
  generalize hAe : va_A [(h0, .inr (5, [.null, .int 0, .int 0, .int 0]))] s.heap.size = A at hD ⊢
  have hA : ∀ q : Nat, s.heap.size ≤ q → A q := fun q h => by rw [← hAe]; exact Or.inr h
  have hS : va_S A s.heap s.heap [] := va_S.rf
  have hP : va_P (dC, dI) vwCl [(h0, .inr (5, [.null, .int 0, .int 0, .int 0]))] s.heap := hP
  have hl := lv_entry ([.ref h0]) (n := 1) (Nat.le_of_ble_eq_true rfl)
  rw [lg_entry_eq]
  generalize (lg_sl ([.ref h0]) ++ List.replicate (1 - (lg_sl ([.ref h0])).length) Slot.unset).toArray = ls at hl ⊢
  have hl : lv_has ls 1 [(0, .ref h0)] := hl
  skip
  refine lv_aload_n hx hb dX5_init_0 rfl (lv_at hl 0 rfl) ?_
  refine W.objInit hx hb hown (hts _ mw_1_107) (hts _ mw_1_19) (hts _ mw_1_20) rfl (by rw [hml]; exact hl.1) rfl dX5_init_1 (Nat.le_of_ble_eq_true rfl) (Nat.le_of_ble_eq_true rfl) ?_
  refine W.eq (g2 := F0 m 4 ls []) rfl ?_
  refine lv_aload_n hx hb dX5_init_4 rfl (lv_at hl 0 rfl) ?_
  refine lv_bipush (v := 40) hx hb dX5_init_5 (by decide) ?_
  refine va_newa (atype := .int) (N' := 40) hx hb (hts _ mw_1_46) rfl hK hP hD hS hA (a0 := (40, .inl (fun _ => 0))) (fun _ => rfl) (by decide) rfl (by decide) (Nat.le_of_ble_eq_true rfl) (Nat.le_of_ble_eq_true rfl) dX5_init_7 (fun a_1 k_2 H hK hP hD hS => ?_)
  have hK : va_K (dC, dI) vwCl [(k_2, .int)] s := hK
  have hP : va_P (dC, dI) vwCl [(h0, .inr (5, [.null, .int 0, .int 0, .int 0])), (a_1, .inl (k_2, 40, .inl (fun _ => 0)))] H := hP
  have hD : va_D A [(h0, .inr (5, [.null, .int 0, .int 0, .int 0])), (a_1, .inl (k_2, 40, .inl (fun _ => 0)))] := hD
  refine W.widen (k := 1) (n := 40) (by omega) (by omega) ?_
  refine va_putF (D := (dC, dI)) (ci := 5) (v := .ref a_1) (ty := .array .int) (C := RX5) (T := TX5) (N := 4) hx hb hts inB_5 tyX5 tyX5_ok nmX5 hown hK hP hD hS 0 rfl rfl 0 (by decide) (hts _ mw_1_108) (fun _ h9 => h9) rfl hin rfl (by decide +kernel) rfl rfl (Nat.le_of_ble_eq_true rfl) dX5_init_9 (fun H locs hP hD hS => ?_)
  have hP : va_P (dC, dI) vwCl [(h0, .inr (5, [.ref a_1, .int 0, .int 0, .int 0])), (a_1, .inl (k_2, 40, .inl (fun _ => 0)))] H := hP
  have hD : va_D A [(h0, .inr (5, [.ref a_1, .int 0, .int 0, .int 0])), (a_1, .inl (k_2, 40, .inl (fun _ => 0)))] := hD
  refine W.widen (k := 1) (n := 40) (by omega) (by omega) ?_
  exact W.vret hx hb hr (fun t ht hW => ⟨⟨(), rfl, trivial, a_1, k_2, by rw [ht]; exact hP, va_K.moved hW.alike hK, hD⟩, hS.F ht⟩) hS.2.2 dX5_init_12
set_option maxHeartbeats 4000000 in
set_option maxRecDepth 100000 in
theorem n_X7 (l : Launch) (dC : Nat → ClassId) (dI : Nat → Nat → Nat) (sz : Nat) (h0 : Nat)  : Met l yX7_init (wq yX7_init cX7_init 1 none) ({ frames := 1, cells := 5, slots := 136, locals := 12 }) (va_Pc [.ref h0] (pcW dC dI [] [(h0, .inr (6, [.null, .null, .null, .null, .null]))] sz)) (va_Qv (fun _ : Unit => True) (fun _ t => ∃ (a_1 : Nat) (k_2 : ClassId) (a_3 : Nat) (k_4 : ClassId) (a_5 : Nat) (k_6 : ClassId) (a_7 : Nat) (k_8 : ClassId) (a_9 : Nat) (k_10 : ClassId), va_P (dC, dI) vwCl [(h0, .inr (6, [.ref a_1, .ref a_3, .ref a_5, .ref a_7, .ref a_9])), (a_1, .inl (k_2, 10, .inl (fun _ => 0))), (a_3, .inl (k_4, 8, .inl (fun _ => 0))), (a_5, .inl (k_6, 8, .inl (fun _ => 0))), (a_7, .inl (k_8, 10, .inl (fun _ => 0))), (a_9, .inl (k_10, 100, .inl (fun _ => 0)))] t.heap ∧ va_K (dC, dI) vwCl [(k_2, .int), (k_4, .int), (k_6, .int), (k_8, .int), (k_10, .int)] t ∧ va_D (va_A [(h0, .inr (6, [.null, .null, .null, .null, .null]))] sz) [(h0, .inr (6, [.ref a_1, .ref a_3, .ref a_5, .ref a_7, .ref a_9])), (a_1, .inl (k_2, 10, .inl (fun _ => 0))), (a_3, .inl (k_4, 8, .inl (fun _ => 0))), (a_5, .inl (k_6, 8, .inl (fun _ => 0))), (a_7, .inl (k_8, 10, .inl (fun _ => 0))), (a_9, .inl (k_10, 100, .inl (fun _ => 0)))]) (va_A [(h0, .inr (6, [.null, .null, .null, .null, .null]))] sz)) 5 136 (va_A [(h0, .inr (6, [.null, .null, .null, .null, .null]))] sz) := by
  refine Met.ofW (cc := cX7_init) (maxL := 1) (ret := none) (by decide) rfl ?_
  intro p e s m args below meth c s₁ B hml hv
  obtain ⟨rfl, hsz, hN, hP, hK, hD0⟩ := hv
  have hx := B.exec
  have hb := B.bytes
  have hr := B.returns
  have hts0 := atoms_spec (ws := (wq yX7_init cX7_init 1 none)) B.pre
  have hts : ∀ w ∈ BG, w.before _ s = true := fun w h => hts0 w (List.mem_cons_of_mem _ h)
  have hown : s.vm.findClass RX7 = some m.cls := findClass_of_methodNamed B.named
  have hlocks := B.notSynchronized
  have hin : meth.name = "<init>" := (name_of_methodNamed B.named B.method).1
  subst hsz
  have hD := hD0.self (sz := s.heap.size)
  generalize hAe : va_A [(h0, .inr (6, [.null, .null, .null, .null, .null]))] s.heap.size = A at hD ⊢
  have hA : ∀ q : Nat, s.heap.size ≤ q → A q := fun q h => by rw [← hAe]; exact Or.inr h
  have hS : va_S A s.heap s.heap [] := va_S.rf
  have hP : va_P (dC, dI) vwCl [(h0, .inr (6, [.null, .null, .null, .null, .null]))] s.heap := hP
  have hl := lv_entry ([.ref h0]) (n := 1) (Nat.le_of_ble_eq_true rfl)
  rw [lg_entry_eq]
  generalize (lg_sl ([.ref h0]) ++ List.replicate (1 - (lg_sl ([.ref h0])).length) Slot.unset).toArray = ls at hl ⊢
  have hl : lv_has ls 1 [(0, .ref h0)] := hl
  skip
  refine lv_aload_n hx hb dX7_init_0 rfl (lv_at hl 0 rfl) ?_
  refine W.objInit hx hb hown (hts _ mw_1_126) (hts _ mw_1_19) (hts _ mw_1_20) rfl (by rw [hml]; exact hl.1) rfl dX7_init_1 (Nat.le_of_ble_eq_true rfl) (Nat.le_of_ble_eq_true rfl) ?_
  refine W.eq (g2 := F0 m 4 ls []) rfl ?_
  refine lv_aload_n hx hb dX7_init_4 rfl (lv_at hl 0 rfl) ?_
  refine lv_bipush (v := 10) hx hb dX7_init_5 (by decide) ?_
  refine va_newa (atype := .int) (N' := 10) hx hb (hts _ mw_1_46) rfl hK hP hD hS hA (a0 := (10, .inl (fun _ => 0))) (fun _ => rfl) (by decide) rfl (by decide) (Nat.le_of_ble_eq_true rfl) (Nat.le_of_ble_eq_true rfl) dX7_init_7 (fun a_1 k_2 H hK hP hD hS => ?_)
  have hK : va_K (dC, dI) vwCl [(k_2, .int)] s := hK
  have hP : va_P (dC, dI) vwCl [(h0, .inr (6, [.null, .null, .null, .null, .null])), (a_1, .inl (k_2, 10, .inl (fun _ => 0)))] H := hP
  have hD : va_D A [(h0, .inr (6, [.null, .null, .null, .null, .null])), (a_1, .inl (k_2, 10, .inl (fun _ => 0)))] := hD
  refine W.widen (k := 1) (n := 10) (by omega) (by omega) ?_
  refine va_putF (D := (dC, dI)) (ci := 6) (v := .ref a_1) (ty := .array .int) (C := RX7) (T := TX7) (N := 5) hx hb hts inB_7 tyX7 tyX7_ok nmX7 hown hK hP hD hS 0 rfl rfl 0 (by decide) (hts _ mw_1_127) (fun _ h9 => h9) rfl hin rfl (by decide +kernel) rfl rfl (Nat.le_of_ble_eq_true rfl) dX7_init_9 (fun H locs hP hD hS => ?_)
  have hP : va_P (dC, dI) vwCl [(h0, .inr (6, [.ref a_1, .null, .null, .null, .null])), (a_1, .inl (k_2, 10, .inl (fun _ => 0)))] H := hP
  have hD : va_D A [(h0, .inr (6, [.ref a_1, .null, .null, .null, .null])), (a_1, .inl (k_2, 10, .inl (fun _ => 0)))] := hD
  refine lv_aload_n hx hb dX7_init_12 rfl (lv_at hl 0 rfl) ?_
  refine lv_bipush (v := 8) hx hb dX7_init_13 (by decide) ?_
  refine va_newa (atype := .int) (N' := 8) hx hb (hts _ mw_1_46) rfl hK hP hD hS hA (a0 := (8, .inl (fun _ => 0))) (fun _ => rfl) (by decide) rfl (by decide) (Nat.le_of_ble_eq_true rfl) (Nat.le_of_ble_eq_true rfl) dX7_init_15 (fun a_3 k_4 H hK hP hD hS => ?_)
  have hK : va_K (dC, dI) vwCl [(k_2, .int), (k_4, .int)] s := hK
  have hP : va_P (dC, dI) vwCl [(h0, .inr (6, [.ref a_1, .null, .null, .null, .null])), (a_1, .inl (k_2, 10, .inl (fun _ => 0))), (a_3, .inl (k_4, 8, .inl (fun _ => 0)))] H := hP
  have hD : va_D A [(h0, .inr (6, [.ref a_1, .null, .null, .null, .null])), (a_1, .inl (k_2, 10, .inl (fun _ => 0))), (a_3, .inl (k_4, 8, .inl (fun _ => 0)))] := hD
  refine W.widen (k := 2) (n := 18) (by omega) (by omega) ?_
  refine va_putF (D := (dC, dI)) (ci := 6) (v := .ref a_3) (ty := .array .int) (C := RX7) (T := TX7) (N := 5) hx hb hts inB_7 tyX7 tyX7_ok nmX7 hown hK hP hD hS 0 rfl rfl 1 (by decide) (hts _ mw_1_128) (fun _ h9 => h9) rfl hin rfl (by decide +kernel) rfl rfl (Nat.le_of_ble_eq_true rfl) dX7_init_17 (fun H locs hP hD hS => ?_)
  have hP : va_P (dC, dI) vwCl [(h0, .inr (6, [.ref a_1, .ref a_3, .null, .null, .null])), (a_1, .inl (k_2, 10, .inl (fun _ => 0))), (a_3, .inl (k_4, 8, .inl (fun _ => 0)))] H := hP
  have hD : va_D A [(h0, .inr (6, [.ref a_1, .ref a_3, .null, .null, .null])), (a_1, .inl (k_2, 10, .inl (fun _ => 0))), (a_3, .inl (k_4, 8, .inl (fun _ => 0)))] := hD
  refine lv_aload_n hx hb dX7_init_20 rfl (lv_at hl 0 rfl) ?_
  refine lv_bipush (v := 8) hx hb dX7_init_21 (by decide) ?_
  refine va_newa (atype := .int) (N' := 8) hx hb (hts _ mw_1_46) rfl hK hP hD hS hA (a0 := (8, .inl (fun _ => 0))) (fun _ => rfl) (by decide) rfl (by decide) (Nat.le_of_ble_eq_true rfl) (Nat.le_of_ble_eq_true rfl) dX7_init_23 (fun a_5 k_6 H hK hP hD hS => ?_)
  have hK : va_K (dC, dI) vwCl [(k_2, .int), (k_4, .int), (k_6, .int)] s := hK
  have hP : va_P (dC, dI) vwCl [(h0, .inr (6, [.ref a_1, .ref a_3, .null, .null, .null])), (a_1, .inl (k_2, 10, .inl (fun _ => 0))), (a_3, .inl (k_4, 8, .inl (fun _ => 0))), (a_5, .inl (k_6, 8, .inl (fun _ => 0)))] H := hP
  have hD : va_D A [(h0, .inr (6, [.ref a_1, .ref a_3, .null, .null, .null])), (a_1, .inl (k_2, 10, .inl (fun _ => 0))), (a_3, .inl (k_4, 8, .inl (fun _ => 0))), (a_5, .inl (k_6, 8, .inl (fun _ => 0)))] := hD
  refine W.widen (k := 3) (n := 26) (by omega) (by omega) ?_
  refine va_putF (D := (dC, dI)) (ci := 6) (v := .ref a_5) (ty := .array .int) (C := RX7) (T := TX7) (N := 5) hx hb hts inB_7 tyX7 tyX7_ok nmX7 hown hK hP hD hS 0 rfl rfl 2 (by decide) (hts _ mw_1_129) (fun _ h9 => h9) rfl hin rfl (by decide +kernel) rfl rfl (Nat.le_of_ble_eq_true rfl) dX7_init_25 (fun H locs hP hD hS => ?_)
  have hP : va_P (dC, dI) vwCl [(h0, .inr (6, [.ref a_1, .ref a_3, .ref a_5, .null, .null])), (a_1, .inl (k_2, 10, .inl (fun _ => 0))), (a_3, .inl (k_4, 8, .inl (fun _ => 0))), (a_5, .inl (k_6, 8, .inl (fun _ => 0)))] H := hP
  have hD : va_D A [(h0, .inr (6, [.ref a_1, .ref a_3, .ref a_5, .null, .null])), (a_1, .inl (k_2, 10, .inl (fun _ => 0))), (a_3, .inl (k_4, 8, .inl (fun _ => 0))), (a_5, .inl (k_6, 8, .inl (fun _ => 0)))] := hD
  refine lv_aload_n hx hb dX7_init_28 rfl (lv_at hl 0 rfl) ?_
  refine lv_bipush (v := 10) hx hb dX7_init_29 (by decide) ?_
  refine va_newa (atype := .int) (N' := 10) hx hb (hts _ mw_1_46) rfl hK hP hD hS hA (a0 := (10, .inl (fun _ => 0))) (fun _ => rfl) (by decide) rfl (by decide) (Nat.le_of_ble_eq_true rfl) (Nat.le_of_ble_eq_true rfl) dX7_init_31 (fun a_7 k_8 H hK hP hD hS => ?_)
  have hK : va_K (dC, dI) vwCl [(k_2, .int), (k_4, .int), (k_6, .int), (k_8, .int)] s := hK
  have hP : va_P (dC, dI) vwCl [(h0, .inr (6, [.ref a_1, .ref a_3, .ref a_5, .null, .null])), (a_1, .inl (k_2, 10, .inl (fun _ => 0))), (a_3, .inl (k_4, 8, .inl (fun _ => 0))), (a_5, .inl (k_6, 8, .inl (fun _ => 0))), (a_7, .inl (k_8, 10, .inl (fun _ => 0)))] H := hP
  have hD : va_D A [(h0, .inr (6, [.ref a_1, .ref a_3, .ref a_5, .null, .null])), (a_1, .inl (k_2, 10, .inl (fun _ => 0))), (a_3, .inl (k_4, 8, .inl (fun _ => 0))), (a_5, .inl (k_6, 8, .inl (fun _ => 0))), (a_7, .inl (k_8, 10, .inl (fun _ => 0)))] := hD
  refine W.widen (k := 4) (n := 36) (by omega) (by omega) ?_
  refine va_putF (D := (dC, dI)) (ci := 6) (v := .ref a_7) (ty := .array .int) (C := RX7) (T := TX7) (N := 5) hx hb hts inB_7 tyX7 tyX7_ok nmX7 hown hK hP hD hS 0 rfl rfl 3 (by decide) (hts _ mw_1_130) (fun _ h9 => h9) rfl hin rfl (by decide +kernel) rfl rfl (Nat.le_of_ble_eq_true rfl) dX7_init_33 (fun H locs hP hD hS => ?_)
  have hP : va_P (dC, dI) vwCl [(h0, .inr (6, [.ref a_1, .ref a_3, .ref a_5, .ref a_7, .null])), (a_1, .inl (k_2, 10, .inl (fun _ => 0))), (a_3, .inl (k_4, 8, .inl (fun _ => 0))), (a_5, .inl (k_6, 8, .inl (fun _ => 0))), (a_7, .inl (k_8, 10, .inl (fun _ => 0)))] H := hP
  have hD : va_D A [(h0, .inr (6, [.ref a_1, .ref a_3, .ref a_5, .ref a_7, .null])), (a_1, .inl (k_2, 10, .inl (fun _ => 0))), (a_3, .inl (k_4, 8, .inl (fun _ => 0))), (a_5, .inl (k_6, 8, .inl (fun _ => 0))), (a_7, .inl (k_8, 10, .inl (fun _ => 0)))] := hD
  refine lv_aload_n hx hb dX7_init_36 rfl (lv_at hl 0 rfl) ?_
  refine lv_bipush (v := 100) hx hb dX7_init_37 (by decide) ?_
  refine va_newa (atype := .int) (N' := 100) hx hb (hts _ mw_1_46) rfl hK hP hD hS hA (a0 := (100, .inl (fun _ => 0))) (fun _ => rfl) (by decide) rfl (by decide) (Nat.le_of_ble_eq_true rfl) (Nat.le_of_ble_eq_true rfl) dX7_init_39 (fun a_9 k_10 H hK hP hD hS => ?_)
  have hK : va_K (dC, dI) vwCl [(k_2, .int), (k_4, .int), (k_6, .int), (k_8, .int), (k_10, .int)] s := hK
  have hP : va_P (dC, dI) vwCl [(h0, .inr (6, [.ref a_1, .ref a_3, .ref a_5, .ref a_7, .null])), (a_1, .inl (k_2, 10, .inl (fun _ => 0))), (a_3, .inl (k_4, 8, .inl (fun _ => 0))), (a_5, .inl (k_6, 8, .inl (fun _ => 0))), (a_7, .inl (k_8, 10, .inl (fun _ => 0))), (a_9, .inl (k_10, 100, .inl (fun _ => 0)))] H := hP
  have hD : va_D A [(h0, .inr (6, [.ref a_1, .ref a_3, .ref a_5, .ref a_7, .null])), (a_1, .inl (k_2, 10, .inl (fun _ => 0))), (a_3, .inl (k_4, 8, .inl (fun _ => 0))), (a_5, .inl (k_6, 8, .inl (fun _ => 0))), (a_7, .inl (k_8, 10, .inl (fun _ => 0))), (a_9, .inl (k_10, 100, .inl (fun _ => 0)))] := hD
  refine W.widen (k := 5) (n := 136) (by omega) (by omega) ?_
  refine va_putF (D := (dC, dI)) (ci := 6) (v := .ref a_9) (ty := .array .int) (C := RX7) (T := TX7) (N := 5) hx hb hts inB_7 tyX7 tyX7_ok nmX7 hown hK hP hD hS 0 rfl rfl 4 (by decide) (hts _ mw_1_131) (fun _ h9 => h9) rfl hin rfl (by decide +kernel) rfl rfl (Nat.le_of_ble_eq_true rfl) dX7_init_41 (fun H locs hP hD hS => ?_)
  have hP : va_P (dC, dI) vwCl [(h0, .inr (6, [.ref a_1, .ref a_3, .ref a_5, .ref a_7, .ref a_9])), (a_1, .inl (k_2, 10, .inl (fun _ => 0))), (a_3, .inl (k_4, 8, .inl (fun _ => 0))), (a_5, .inl (k_6, 8, .inl (fun _ => 0))), (a_7, .inl (k_8, 10, .inl (fun _ => 0))), (a_9, .inl (k_10, 100, .inl (fun _ => 0)))] H := hP
  have hD : va_D A [(h0, .inr (6, [.ref a_1, .ref a_3, .ref a_5, .ref a_7, .ref a_9])), (a_1, .inl (k_2, 10, .inl (fun _ => 0))), (a_3, .inl (k_4, 8, .inl (fun _ => 0))), (a_5, .inl (k_6, 8, .inl (fun _ => 0))), (a_7, .inl (k_8, 10, .inl (fun _ => 0))), (a_9, .inl (k_10, 100, .inl (fun _ => 0)))] := hD
  refine W.widen (k := 5) (n := 136) (by omega) (by omega) ?_
  exact W.vret hx hb hr (fun t ht hW => ⟨⟨(), rfl, trivial, a_1, k_2, a_3, k_4, a_5, k_6, a_7, k_8, a_9, k_10, by rw [ht]; exact hP, va_K.moved hW.alike hK, hD⟩, hS.F ht⟩) hS.2.2 dX7_init_44
set_option maxHeartbeats 4000000 in
set_option maxRecDepth 100000 in
theorem n_X3 (l : Launch) (dC : Nat → ClassId) (dI : Nat → Nat → Nat) (sz : Nat) (h0 : Nat)  : Met l yX3_init (wq yX3_init cX3_init 2 none) ({ frames := 1, cells := 4, slots := 88, locals := 12 }) (va_Pc [.ref h0] (pcW dC dI [] [(h0, .inr (3, [.null, .null, .null, .null, .int 0, .int 0]))] sz)) (va_Qv (fun _ : Unit => True) (fun _ t => ∃ (a_1 : Nat) (k_2 : ClassId) (a_3 : Nat) (k_4 : ClassId) (a_5 : Nat) (k_6 : ClassId) (a_7 : Nat) (k_8 : ClassId), va_P (dC, dI) vwCl [(h0, .inr (3, [.ref a_1, .ref a_3, .ref a_5, .ref a_7, .int 0, .int 0])), (a_1, .inl (k_2, 4, .inl (slF 1 0 4))), (a_3, .inl (k_4, 40, .inl (fun _ => 0))), (a_5, .inl (k_6, 40, .inl (fun _ => 0))), (a_7, .inl (k_8, 4, .inl (fun _ => 0)))] t.heap ∧ va_K (dC, dI) vwCl [(k_2, .int), (k_4, .int), (k_6, .int), (k_8, .int)] t ∧ va_D (va_A [(h0, .inr (3, [.null, .null, .null, .null, .int 0, .int 0]))] sz) [(h0, .inr (3, [.ref a_1, .ref a_3, .ref a_5, .ref a_7, .int 0, .int 0])), (a_1, .inl (k_2, 4, .inl (slF 1 0 4))), (a_3, .inl (k_4, 40, .inl (fun _ => 0))), (a_5, .inl (k_6, 40, .inl (fun _ => 0))), (a_7, .inl (k_8, 4, .inl (fun _ => 0)))]) (va_A [(h0, .inr (3, [.null, .null, .null, .null, .int 0, .int 0]))] sz)) 4 88 (va_A [(h0, .inr (3, [.null, .null, .null, .null, .int 0, .int 0]))] sz) := by
  refine Met.ofW (cc := cX3_init) (maxL := 2) (ret := none) (by decide) rfl ?_
  intro p e s m args below meth c s₁ B hml hv
  obtain ⟨rfl, hsz, hN, hP, hK, hD0⟩ := hv
  have hx := B.exec
  have hb := B.bytes
  have hr := B.returns
  have hts0 := atoms_spec (ws := (wq yX3_init cX3_init 2 none)) B.pre
  have hts : ∀ w ∈ BG, w.before _ s = true := fun w h => hts0 w (List.mem_cons_of_mem _ h)
  have hown : s.vm.findClass RX3 = some m.cls := findClass_of_methodNamed B.named
  have hlocks := B.notSynchronized
  have hin : meth.name = "<init>" := (name_of_methodNamed B.named B.method).1
  subst hsz
  have hD := hD0.self (sz := s.heap.size)
  generalize hAe : va_A [(h0, .inr (3, [.null, .null, .null, .null, .int 0, .int 0]))] s.heap.size = A at hD ⊢
  have hA : ∀ q : Nat, s.heap.size ≤ q → A q := fun q h => by rw [← hAe]; exact Or.inr h
  have hS : va_S A s.heap s.heap [] := va_S.rf
  have hP : va_P (dC, dI) vwCl [(h0, .inr (3, [.null, .null, .null, .null, .int 0, .int 0]))] s.heap := hP
  have hl := lv_entry ([.ref h0]) (n := 2) (Nat.le_of_ble_eq_true rfl)
  rw [lg_entry_eq]
  generalize (lg_sl ([.ref h0]) ++ List.replicate (2 - (lg_sl ([.ref h0])).length) Slot.unset).toArray = ls at hl ⊢
  have hl : lv_has ls 2 [(0, .ref h0)] := hl
  skip
  refine lv_aload_n hx hb dX3_init_0 rfl (lv_at hl 0 rfl) ?_
  refine W.objInit hx hb hown (hts _ mw_1_148) (hts _ mw_1_19) (hts _ mw_1_20) rfl (by rw [hml]; exact hl.1) rfl dX3_init_1 (Nat.le_of_ble_eq_true rfl) (Nat.le_of_ble_eq_true rfl) ?_
  refine W.eq (g2 := F0 m 4 ls []) rfl ?_
  refine lv_aload_n hx hb dX3_init_4 rfl (lv_at hl 0 rfl) ?_
  refine lv_iconst (v := 4) hx hb dX3_init_5 (by decide) ?_
  refine va_newa (atype := .int) (N' := 4) hx hb (hts _ mw_1_46) rfl hK hP hD hS hA (a0 := (4, .inl (fun _ => 0))) (fun _ => rfl) (by decide) rfl (by decide) (Nat.le_of_ble_eq_true rfl) (Nat.le_of_ble_eq_true rfl) dX3_init_6 (fun a_1 k_2 H hK hP hD hS => ?_)
  have hK : va_K (dC, dI) vwCl [(k_2, .int)] s := hK
  have hP : va_P (dC, dI) vwCl [(h0, .inr (3, [.null, .null, .null, .null, .int 0, .int 0])), (a_1, .inl (k_2, 4, .inl (fun _ => 0)))] H := hP
  have hD : va_D A [(h0, .inr (3, [.null, .null, .null, .null, .int 0, .int 0])), (a_1, .inl (k_2, 4, .inl (fun _ => 0)))] := hD
  refine W.widen (k := 1) (n := 4) (by omega) (by omega) ?_
  refine va_putF (D := (dC, dI)) (ci := 3) (v := .ref a_1) (ty := .array .int) (C := RX3) (T := TX3) (N := 6) hx hb hts inB_3 tyX3 tyX3_ok nmX3 hown hK hP hD hS 0 rfl rfl 0 (by decide) (hts _ mw_1_149) (fun _ h9 => h9) rfl hin rfl (by decide +kernel) rfl rfl (Nat.le_of_ble_eq_true rfl) dX3_init_8 (fun H locs hP hD hS => ?_)
  have hP : va_P (dC, dI) vwCl [(h0, .inr (3, [.ref a_1, .null, .null, .null, .int 0, .int 0])), (a_1, .inl (k_2, 4, .inl (fun _ => 0)))] H := hP
  have hD : va_D A [(h0, .inr (3, [.ref a_1, .null, .null, .null, .int 0, .int 0])), (a_1, .inl (k_2, 4, .inl (fun _ => 0)))] := hD
  refine lv_aload_n hx hb dX3_init_11 rfl (lv_at hl 0 rfl) ?_
  refine lv_bipush (v := 40) hx hb dX3_init_12 (by decide) ?_
  refine va_newa (atype := .int) (N' := 40) hx hb (hts _ mw_1_46) rfl hK hP hD hS hA (a0 := (40, .inl (fun _ => 0))) (fun _ => rfl) (by decide) rfl (by decide) (Nat.le_of_ble_eq_true rfl) (Nat.le_of_ble_eq_true rfl) dX3_init_14 (fun a_3 k_4 H hK hP hD hS => ?_)
  have hK : va_K (dC, dI) vwCl [(k_2, .int), (k_4, .int)] s := hK
  have hP : va_P (dC, dI) vwCl [(h0, .inr (3, [.ref a_1, .null, .null, .null, .int 0, .int 0])), (a_1, .inl (k_2, 4, .inl (fun _ => 0))), (a_3, .inl (k_4, 40, .inl (fun _ => 0)))] H := hP
  have hD : va_D A [(h0, .inr (3, [.ref a_1, .null, .null, .null, .int 0, .int 0])), (a_1, .inl (k_2, 4, .inl (fun _ => 0))), (a_3, .inl (k_4, 40, .inl (fun _ => 0)))] := hD
  refine W.widen (k := 2) (n := 44) (by omega) (by omega) ?_
  refine va_putF (D := (dC, dI)) (ci := 3) (v := .ref a_3) (ty := .array .int) (C := RX3) (T := TX3) (N := 6) hx hb hts inB_3 tyX3 tyX3_ok nmX3 hown hK hP hD hS 0 rfl rfl 1 (by decide) (hts _ mw_1_150) (fun _ h9 => h9) rfl hin rfl (by decide +kernel) rfl rfl (Nat.le_of_ble_eq_true rfl) dX3_init_16 (fun H locs hP hD hS => ?_)
  have hP : va_P (dC, dI) vwCl [(h0, .inr (3, [.ref a_1, .ref a_3, .null, .null, .int 0, .int 0])), (a_1, .inl (k_2, 4, .inl (fun _ => 0))), (a_3, .inl (k_4, 40, .inl (fun _ => 0)))] H := hP
  have hD : va_D A [(h0, .inr (3, [.ref a_1, .ref a_3, .null, .null, .int 0, .int 0])), (a_1, .inl (k_2, 4, .inl (fun _ => 0))), (a_3, .inl (k_4, 40, .inl (fun _ => 0)))] := hD
  refine lv_aload_n hx hb dX3_init_19 rfl (lv_at hl 0 rfl) ?_
  refine lv_bipush (v := 40) hx hb dX3_init_20 (by decide) ?_
  refine va_newa (atype := .int) (N' := 40) hx hb (hts _ mw_1_46) rfl hK hP hD hS hA (a0 := (40, .inl (fun _ => 0))) (fun _ => rfl) (by decide) rfl (by decide) (Nat.le_of_ble_eq_true rfl) (Nat.le_of_ble_eq_true rfl) dX3_init_22 (fun a_5 k_6 H hK hP hD hS => ?_)
  have hK : va_K (dC, dI) vwCl [(k_2, .int), (k_4, .int), (k_6, .int)] s := hK
  have hP : va_P (dC, dI) vwCl [(h0, .inr (3, [.ref a_1, .ref a_3, .null, .null, .int 0, .int 0])), (a_1, .inl (k_2, 4, .inl (fun _ => 0))), (a_3, .inl (k_4, 40, .inl (fun _ => 0))), (a_5, .inl (k_6, 40, .inl (fun _ => 0)))] H := hP
  have hD : va_D A [(h0, .inr (3, [.ref a_1, .ref a_3, .null, .null, .int 0, .int 0])), (a_1, .inl (k_2, 4, .inl (fun _ => 0))), (a_3, .inl (k_4, 40, .inl (fun _ => 0))), (a_5, .inl (k_6, 40, .inl (fun _ => 0)))] := hD
  refine W.widen (k := 3) (n := 84) (by omega) (by omega) ?_
  refine va_putF (D := (dC, dI)) (ci := 3) (v := .ref a_5) (ty := .array .int) (C := RX3) (T := TX3) (N := 6) hx hb hts inB_3 tyX3 tyX3_ok nmX3 hown hK hP hD hS 0 rfl rfl 2 (by decide) (hts _ mw_1_151) (fun _ h9 => h9) rfl hin rfl (by decide +kernel) rfl rfl (Nat.le_of_ble_eq_true rfl) dX3_init_24 (fun H locs hP hD hS => ?_)
  have hP : va_P (dC, dI) vwCl [(h0, .inr (3, [.ref a_1, .ref a_3, .ref a_5, .null, .int 0, .int 0])), (a_1, .inl (k_2, 4, .inl (fun _ => 0))), (a_3, .inl (k_4, 40, .inl (fun _ => 0))), (a_5, .inl (k_6, 40, .inl (fun _ => 0)))] H := hP
  have hD : va_D A [(h0, .inr (3, [.ref a_1, .ref a_3, .ref a_5, .null, .int 0, .int 0])), (a_1, .inl (k_2, 4, .inl (fun _ => 0))), (a_3, .inl (k_4, 40, .inl (fun _ => 0))), (a_5, .inl (k_6, 40, .inl (fun _ => 0)))] := hD
  refine lv_aload_n hx hb dX3_init_27 rfl (lv_at hl 0 rfl) ?_
  refine lv_iconst (v := 4) hx hb dX3_init_28 (by decide) ?_
  refine va_newa (atype := .int) (N' := 4) hx hb (hts _ mw_1_46) rfl hK hP hD hS hA (a0 := (4, .inl (fun _ => 0))) (fun _ => rfl) (by decide) rfl (by decide) (Nat.le_of_ble_eq_true rfl) (Nat.le_of_ble_eq_true rfl) dX3_init_29 (fun a_7 k_8 H hK hP hD hS => ?_)
  have hK : va_K (dC, dI) vwCl [(k_2, .int), (k_4, .int), (k_6, .int), (k_8, .int)] s := hK
  have hP : va_P (dC, dI) vwCl [(h0, .inr (3, [.ref a_1, .ref a_3, .ref a_5, .null, .int 0, .int 0])), (a_1, .inl (k_2, 4, .inl (fun _ => 0))), (a_3, .inl (k_4, 40, .inl (fun _ => 0))), (a_5, .inl (k_6, 40, .inl (fun _ => 0))), (a_7, .inl (k_8, 4, .inl (fun _ => 0)))] H := hP
  have hD : va_D A [(h0, .inr (3, [.ref a_1, .ref a_3, .ref a_5, .null, .int 0, .int 0])), (a_1, .inl (k_2, 4, .inl (fun _ => 0))), (a_3, .inl (k_4, 40, .inl (fun _ => 0))), (a_5, .inl (k_6, 40, .inl (fun _ => 0))), (a_7, .inl (k_8, 4, .inl (fun _ => 0)))] := hD
  refine W.widen (k := 4) (n := 88) (by omega) (by omega) ?_
  refine va_putF (D := (dC, dI)) (ci := 3) (v := .ref a_7) (ty := .array .int) (C := RX3) (T := TX3) (N := 6) hx hb hts inB_3 tyX3 tyX3_ok nmX3 hown hK hP hD hS 0 rfl rfl 3 (by decide) (hts _ mw_1_152) (fun _ h9 => h9) rfl hin rfl (by decide +kernel) rfl rfl (Nat.le_of_ble_eq_true rfl) dX3_init_31 (fun H locs hP hD hS => ?_)
  have hP : va_P (dC, dI) vwCl [(h0, .inr (3, [.ref a_1, .ref a_3, .ref a_5, .ref a_7, .int 0, .int 0])), (a_1, .inl (k_2, 4, .inl (fun _ => 0))), (a_3, .inl (k_4, 40, .inl (fun _ => 0))), (a_5, .inl (k_6, 40, .inl (fun _ => 0))), (a_7, .inl (k_8, 4, .inl (fun _ => 0)))] H := hP
  have hD : va_D A [(h0, .inr (3, [.ref a_1, .ref a_3, .ref a_5, .ref a_7, .int 0, .int 0])), (a_1, .inl (k_2, 4, .inl (fun _ => 0))), (a_3, .inl (k_4, 40, .inl (fun _ => 0))), (a_5, .inl (k_6, 40, .inl (fun _ => 0))), (a_7, .inl (k_8, 4, .inl (fun _ => 0)))] := hD
  refine lv_iconst (v := 0) hx hb dX3_init_34 (by decide) ?_
  refine lv_istore_n (lv' := [(1, .int 0), (0, .ref h0)]) hx hb dX3_init_35 rfl hl (by decide) rfl (fun ls hl => ?_)
  refine lv_iload_n hx hb dX3_init_36 rfl (lv_at hl 0 rfl) ?_
  refine lv_iconst (v := 4) hx hb dX3_init_37 (by decide) ?_
  refine lv_icmp_ge (tgt := 54) hx hb dX3_init_38 (by decide) (fun h => absurd h (by decide)) (fun _ => ?_)
  refine lv_aload_n hx hb dX3_init_41 rfl (lv_at hl 1 rfl) ?_
  refine va_get (D := (dC, dI)) (ci := 3) (v := .ref a_1) (C := RX3) (T := TX3) (N := 6) hx hb hts inB_3 hown hK hP 0 rfl rfl 0 (by decide) (hts _ mw_1_149) (fun _ h9 => h9) rfl dX3_init_42 ?_
  refine lv_iload_n hx hb dX3_init_45 rfl (lv_at hl 0 rfl) ?_
  refine lv_iconst (v := 1) hx hb dX3_init_46 (by decide) ?_
  refine va_iast hx hb hK hP hD hS 1 0 rfl rfl (show vp_in 0 4 by unfold vp_in; decide) dX3_init_47 (fun H locs hP hD hS => ?_)
  rw [show upd (fun _ => 0) (Int32.toNatClampNeg 0) 1 = (slF 1 0 1) from slF_u0 _ _] at hP hD
  have hP : va_P (dC, dI) vwCl [(h0, .inr (3, [.ref a_1, .ref a_3, .ref a_5, .ref a_7, .int 0, .int 0])), (a_1, .inl (k_2, 4, .inl (slF 1 0 1))), (a_3, .inl (k_4, 40, .inl (fun _ => 0))), (a_5, .inl (k_6, 40, .inl (fun _ => 0))), (a_7, .inl (k_8, 4, .inl (fun _ => 0)))] H := hP
  have hD : va_D A [(h0, .inr (3, [.ref a_1, .ref a_3, .ref a_5, .ref a_7, .int 0, .int 0])), (a_1, .inl (k_2, 4, .inl (slF 1 0 1))), (a_3, .inl (k_4, 40, .inl (fun _ => 0))), (a_5, .inl (k_6, 40, .inl (fun _ => 0))), (a_7, .inl (k_8, 4, .inl (fun _ => 0)))] := hD
  refine lv_iinc (v := 1) (lv' := [(1, .int 1), (0, .ref h0)]) hx hb dX3_init_48 hl (k := 0) rfl (by decide) (by decide) rfl (fun ls hl => ?_)
  refine lv_goto (tgt := 36) hx hb dX3_init_51 (by decide) ?_
  refine lv_iload_n hx hb dX3_init_36 rfl (lv_at hl 0 rfl) ?_
  refine lv_iconst (v := 4) hx hb dX3_init_37 (by decide) ?_
  refine lv_icmp_ge (tgt := 54) hx hb dX3_init_38 (by decide) (fun h => absurd h (by decide)) (fun _ => ?_)
  refine lv_aload_n hx hb dX3_init_41 rfl (lv_at hl 1 rfl) ?_
  refine va_get (D := (dC, dI)) (ci := 3) (v := .ref a_1) (C := RX3) (T := TX3) (N := 6) hx hb hts inB_3 hown hK hP 0 rfl rfl 0 (by decide) (hts _ mw_1_149) (fun _ h9 => h9) rfl dX3_init_42 ?_
  refine lv_iload_n hx hb dX3_init_45 rfl (lv_at hl 0 rfl) ?_
  refine lv_iconst (v := 1) hx hb dX3_init_46 (by decide) ?_
  refine va_iast hx hb hK hP hD hS 1 0 rfl rfl (show vp_in 1 4 by unfold vp_in; decide) dX3_init_47 (fun H locs hP hD hS => ?_)
  rw [show upd (slF 1 0 1) (Int32.toNatClampNeg 1) 1 = (slF 1 0 2) from slF_u _ _ 1] at hP hD
  have hP : va_P (dC, dI) vwCl [(h0, .inr (3, [.ref a_1, .ref a_3, .ref a_5, .ref a_7, .int 0, .int 0])), (a_1, .inl (k_2, 4, .inl (slF 1 0 2))), (a_3, .inl (k_4, 40, .inl (fun _ => 0))), (a_5, .inl (k_6, 40, .inl (fun _ => 0))), (a_7, .inl (k_8, 4, .inl (fun _ => 0)))] H := hP
  have hD : va_D A [(h0, .inr (3, [.ref a_1, .ref a_3, .ref a_5, .ref a_7, .int 0, .int 0])), (a_1, .inl (k_2, 4, .inl (slF 1 0 2))), (a_3, .inl (k_4, 40, .inl (fun _ => 0))), (a_5, .inl (k_6, 40, .inl (fun _ => 0))), (a_7, .inl (k_8, 4, .inl (fun _ => 0)))] := hD
  refine lv_iinc (v := 2) (lv' := [(1, .int 2), (0, .ref h0)]) hx hb dX3_init_48 hl (k := 0) rfl (by decide) (by decide) rfl (fun ls hl => ?_)
  refine lv_goto (tgt := 36) hx hb dX3_init_51 (by decide) ?_
  refine lv_iload_n hx hb dX3_init_36 rfl (lv_at hl 0 rfl) ?_
  refine lv_iconst (v := 4) hx hb dX3_init_37 (by decide) ?_
  refine lv_icmp_ge (tgt := 54) hx hb dX3_init_38 (by decide) (fun h => absurd h (by decide)) (fun _ => ?_)
  refine lv_aload_n hx hb dX3_init_41 rfl (lv_at hl 1 rfl) ?_
  refine va_get (D := (dC, dI)) (ci := 3) (v := .ref a_1) (C := RX3) (T := TX3) (N := 6) hx hb hts inB_3 hown hK hP 0 rfl rfl 0 (by decide) (hts _ mw_1_149) (fun _ h9 => h9) rfl dX3_init_42 ?_
  refine lv_iload_n hx hb dX3_init_45 rfl (lv_at hl 0 rfl) ?_
  refine lv_iconst (v := 1) hx hb dX3_init_46 (by decide) ?_
  refine va_iast hx hb hK hP hD hS 1 0 rfl rfl (show vp_in 2 4 by unfold vp_in; decide) dX3_init_47 (fun H locs hP hD hS => ?_)
  rw [show upd (slF 1 0 2) (Int32.toNatClampNeg 2) 1 = (slF 1 0 3) from slF_u _ _ 2] at hP hD
  have hP : va_P (dC, dI) vwCl [(h0, .inr (3, [.ref a_1, .ref a_3, .ref a_5, .ref a_7, .int 0, .int 0])), (a_1, .inl (k_2, 4, .inl (slF 1 0 3))), (a_3, .inl (k_4, 40, .inl (fun _ => 0))), (a_5, .inl (k_6, 40, .inl (fun _ => 0))), (a_7, .inl (k_8, 4, .inl (fun _ => 0)))] H := hP
  have hD : va_D A [(h0, .inr (3, [.ref a_1, .ref a_3, .ref a_5, .ref a_7, .int 0, .int 0])), (a_1, .inl (k_2, 4, .inl (slF 1 0 3))), (a_3, .inl (k_4, 40, .inl (fun _ => 0))), (a_5, .inl (k_6, 40, .inl (fun _ => 0))), (a_7, .inl (k_8, 4, .inl (fun _ => 0)))] := hD
  refine lv_iinc (v := 3) (lv' := [(1, .int 3), (0, .ref h0)]) hx hb dX3_init_48 hl (k := 0) rfl (by decide) (by decide) rfl (fun ls hl => ?_)
  refine lv_goto (tgt := 36) hx hb dX3_init_51 (by decide) ?_
  refine lv_iload_n hx hb dX3_init_36 rfl (lv_at hl 0 rfl) ?_
  refine lv_iconst (v := 4) hx hb dX3_init_37 (by decide) ?_
  refine lv_icmp_ge (tgt := 54) hx hb dX3_init_38 (by decide) (fun h => absurd h (by decide)) (fun _ => ?_)
  refine lv_aload_n hx hb dX3_init_41 rfl (lv_at hl 1 rfl) ?_
  refine va_get (D := (dC, dI)) (ci := 3) (v := .ref a_1) (C := RX3) (T := TX3) (N := 6) hx hb hts inB_3 hown hK hP 0 rfl rfl 0 (by decide) (hts _ mw_1_149) (fun _ h9 => h9) rfl dX3_init_42 ?_
  refine lv_iload_n hx hb dX3_init_45 rfl (lv_at hl 0 rfl) ?_
  refine lv_iconst (v := 1) hx hb dX3_init_46 (by decide) ?_
  refine va_iast hx hb hK hP hD hS 1 0 rfl rfl (show vp_in 3 4 by unfold vp_in; decide) dX3_init_47 (fun H locs hP hD hS => ?_)
  rw [show upd (slF 1 0 3) (Int32.toNatClampNeg 3) 1 = (slF 1 0 4) from slF_u _ _ 3] at hP hD
  have hP : va_P (dC, dI) vwCl [(h0, .inr (3, [.ref a_1, .ref a_3, .ref a_5, .ref a_7, .int 0, .int 0])), (a_1, .inl (k_2, 4, .inl (slF 1 0 4))), (a_3, .inl (k_4, 40, .inl (fun _ => 0))), (a_5, .inl (k_6, 40, .inl (fun _ => 0))), (a_7, .inl (k_8, 4, .inl (fun _ => 0)))] H := hP
  have hD : va_D A [(h0, .inr (3, [.ref a_1, .ref a_3, .ref a_5, .ref a_7, .int 0, .int 0])), (a_1, .inl (k_2, 4, .inl (slF 1 0 4))), (a_3, .inl (k_4, 40, .inl (fun _ => 0))), (a_5, .inl (k_6, 40, .inl (fun _ => 0))), (a_7, .inl (k_8, 4, .inl (fun _ => 0)))] := hD
  refine lv_iinc (v := 4) (lv' := [(1, .int 4), (0, .ref h0)]) hx hb dX3_init_48 hl (k := 0) rfl (by decide) (by decide) rfl (fun ls hl => ?_)
  refine lv_goto (tgt := 36) hx hb dX3_init_51 (by decide) ?_
  refine lv_iload_n hx hb dX3_init_36 rfl (lv_at hl 0 rfl) ?_
  refine lv_iconst (v := 4) hx hb dX3_init_37 (by decide) ?_
  refine lv_icmp_ge (tgt := 54) hx hb dX3_init_38 (by decide) (fun _ => ?_) (fun h => absurd (by decide) h)
  refine W.widen (k := 4) (n := 88) (by omega) (by omega) ?_
  exact W.vret hx hb hr (fun t ht hW => ⟨⟨(), rfl, trivial, a_1, k_2, a_3, k_4, a_5, k_6, a_7, k_8, by rw [ht]; exact hP, va_K.moved hW.alike hK, hD⟩, hS.F ht⟩) hS.2.2 dX3_init_54
set_option maxHeartbeats 4000000 in
set_option maxRecDepth 100000 in
theorem n_X1 (l : Launch) (dC : Nat → ClassId) (dI : Nat → Nat → Nat) (sz : Nat) (h0 : Nat)  : Met l yX1_init (wq yX1_init cX1_init 1 none) ({ frames := 2, cells := 9, slots := 185, locals := 32 }) (va_Pc [.ref h0] (pcW dC dI [] [(h0, .inr (1, [.null, .null, .null, .null, .null, .null, .int 0, .int 0]))] sz)) (va_Qv (fun _ : Unit => True) (fun _ t => ∃ (a_1 : Nat) (k_2 : ClassId) (a_3 : Nat) (k_4 : ClassId) (a_5 : Nat) (k_6 : ClassId) (a_7 : Nat) (k_8 : ClassId) (a_9 : Nat) (k_10 : ClassId) (q_11 : Nat) (a_13 : Nat) (k_14 : ClassId) (a_15 : Nat) (k_16 : ClassId) (a_17 : Nat) (k_18 : ClassId), va_P (dC, dI) vwCl [(h0, .inr (1, [.ref a_1, .ref a_3, .ref a_5, .ref a_7, .ref a_9, .ref q_11, .int 0, .int 0])), (a_1, .inl (k_2, 10, .inl (fun _ => 0))), (a_3, .inl (k_4, 10, .inl (fun _ => 0))), (a_5, .inl (k_6, 10, .inl (fun _ => 0))), (a_7, .inl (k_8, 100, .inl (fun _ => 0))), (a_9, .inl (k_10, 3, .inl (fun _ => 0))), (q_11, .inr (4, [.ref a_13, .ref a_15, .ref a_17, .int 0])), (a_13, .inl (k_14, 40, .inl (fun _ => 0))), (a_15, .inl (k_16, 4, .inl (fun _ => 0))), (a_17, .inl (k_18, 4, .inl (fun _ => 0)))] t.heap ∧ va_K (dC, dI) vwCl [(k_2, .int), (k_4, .int), (k_6, .int), (k_8, .int), (k_10, .int), (k_14, .int), (k_16, .int), (k_18, .int)] t ∧ va_D (va_A [(h0, .inr (1, [.null, .null, .null, .null, .null, .null, .int 0, .int 0]))] sz) [(h0, .inr (1, [.ref a_1, .ref a_3, .ref a_5, .ref a_7, .ref a_9, .ref q_11, .int 0, .int 0])), (a_1, .inl (k_2, 10, .inl (fun _ => 0))), (a_3, .inl (k_4, 10, .inl (fun _ => 0))), (a_5, .inl (k_6, 10, .inl (fun _ => 0))), (a_7, .inl (k_8, 100, .inl (fun _ => 0))), (a_9, .inl (k_10, 3, .inl (fun _ => 0))), (q_11, .inr (4, [.ref a_13, .ref a_15, .ref a_17, .int 0])), (a_13, .inl (k_14, 40, .inl (fun _ => 0))), (a_15, .inl (k_16, 4, .inl (fun _ => 0))), (a_17, .inl (k_18, 4, .inl (fun _ => 0)))]) (va_A [(h0, .inr (1, [.null, .null, .null, .null, .null, .null, .int 0, .int 0]))] sz)) 9 185 (va_A [(h0, .inr (1, [.null, .null, .null, .null, .null, .null, .int 0, .int 0]))] sz) := by
  refine Met.ofW (cc := cX1_init) (maxL := 1) (ret := none) (by decide) rfl ?_
  intro p e s m args below meth c s₁ B hml hv
  obtain ⟨rfl, hsz, hN, hP, hK, hD0⟩ := hv
  have hx := B.exec
  have hb := B.bytes
  have hr := B.returns
  have hts0 := atoms_spec (ws := (wq yX1_init cX1_init 1 none)) B.pre
  have hts : ∀ w ∈ BG, w.before _ s = true := fun w h => hts0 w (List.mem_cons_of_mem _ h)
  have hown : s.vm.findClass RX1 = some m.cls := findClass_of_methodNamed B.named
  have hlocks := B.notSynchronized
  have hin : meth.name = "<init>" := (name_of_methodNamed B.named B.method).1
  subst hsz
  have hD := hD0.self (sz := s.heap.size)
  generalize hAe : va_A [(h0, .inr (1, [.null, .null, .null, .null, .null, .null, .int 0, .int 0]))] s.heap.size = A at hD ⊢
  have hA : ∀ q : Nat, s.heap.size ≤ q → A q := fun q h => by rw [← hAe]; exact Or.inr h
  have hS : va_S A s.heap s.heap [] := va_S.rf
  have hP : va_P (dC, dI) vwCl [(h0, .inr (1, [.null, .null, .null, .null, .null, .null, .int 0, .int 0]))] s.heap := hP
  have hl := lv_entry ([.ref h0]) (n := 1) (Nat.le_of_ble_eq_true rfl)
  rw [lg_entry_eq]
  generalize (lg_sl ([.ref h0]) ++ List.replicate (1 - (lg_sl ([.ref h0])).length) Slot.unset).toArray = ls at hl ⊢
  have hl : lv_has ls 1 [(0, .ref h0)] := hl
  skip
  refine lv_aload_n hx hb dX1_init_0 rfl (lv_at hl 0 rfl) ?_
  refine W.objInit hx hb hown (hts _ mw_1_26) (hts _ mw_1_19) (hts _ mw_1_20) rfl (by rw [hml]; exact hl.1) rfl dX1_init_1 (Nat.le_of_ble_eq_true rfl) (Nat.le_of_ble_eq_true rfl) ?_
  refine W.eq (g2 := F0 m 4 ls []) rfl ?_
  refine lv_aload_n hx hb dX1_init_4 rfl (lv_at hl 0 rfl) ?_
  refine lv_bipush (v := 10) hx hb dX1_init_5 (by decide) ?_
  refine va_newa (atype := .int) (N' := 10) hx hb (hts _ mw_1_46) rfl hK hP hD hS hA (a0 := (10, .inl (fun _ => 0))) (fun _ => rfl) (by decide) rfl (by decide) (Nat.le_of_ble_eq_true rfl) (Nat.le_of_ble_eq_true rfl) dX1_init_7 (fun a_1 k_2 H hK hP hD hS => ?_)
  have hK : va_K (dC, dI) vwCl [(k_2, .int)] s := hK
  have hP : va_P (dC, dI) vwCl [(h0, .inr (1, [.null, .null, .null, .null, .null, .null, .int 0, .int 0])), (a_1, .inl (k_2, 10, .inl (fun _ => 0)))] H := hP
  have hD : va_D A [(h0, .inr (1, [.null, .null, .null, .null, .null, .null, .int 0, .int 0])), (a_1, .inl (k_2, 10, .inl (fun _ => 0)))] := hD
  refine W.widen (k := 1) (n := 10) (by omega) (by omega) ?_
  refine va_putF (D := (dC, dI)) (ci := 1) (v := .ref a_1) (ty := .array .int) (C := RX1) (T := TX1) (N := 8) hx hb hts inB_1 tyX1 tyX1_ok nmX1 hown hK hP hD hS 0 rfl rfl 0 (by decide) (hts _ mw_1_47) (fun _ h9 => h9) rfl hin rfl (by decide +kernel) rfl rfl (Nat.le_of_ble_eq_true rfl) dX1_init_9 (fun H locs hP hD hS => ?_)
  have hP : va_P (dC, dI) vwCl [(h0, .inr (1, [.ref a_1, .null, .null, .null, .null, .null, .int 0, .int 0])), (a_1, .inl (k_2, 10, .inl (fun _ => 0)))] H := hP
  have hD : va_D A [(h0, .inr (1, [.ref a_1, .null, .null, .null, .null, .null, .int 0, .int 0])), (a_1, .inl (k_2, 10, .inl (fun _ => 0)))] := hD
  refine lv_aload_n hx hb dX1_init_12 rfl (lv_at hl 0 rfl) ?_
  refine lv_bipush (v := 10) hx hb dX1_init_13 (by decide) ?_
  refine va_newa (atype := .int) (N' := 10) hx hb (hts _ mw_1_46) rfl hK hP hD hS hA (a0 := (10, .inl (fun _ => 0))) (fun _ => rfl) (by decide) rfl (by decide) (Nat.le_of_ble_eq_true rfl) (Nat.le_of_ble_eq_true rfl) dX1_init_15 (fun a_3 k_4 H hK hP hD hS => ?_)
  have hK : va_K (dC, dI) vwCl [(k_2, .int), (k_4, .int)] s := hK
  have hP : va_P (dC, dI) vwCl [(h0, .inr (1, [.ref a_1, .null, .null, .null, .null, .null, .int 0, .int 0])), (a_1, .inl (k_2, 10, .inl (fun _ => 0))), (a_3, .inl (k_4, 10, .inl (fun _ => 0)))] H := hP
  have hD : va_D A [(h0, .inr (1, [.ref a_1, .null, .null, .null, .null, .null, .int 0, .int 0])), (a_1, .inl (k_2, 10, .inl (fun _ => 0))), (a_3, .inl (k_4, 10, .inl (fun _ => 0)))] := hD
  refine W.widen (k := 2) (n := 20) (by omega) (by omega) ?_
  refine va_putF (D := (dC, dI)) (ci := 1) (v := .ref a_3) (ty := .array .int) (C := RX1) (T := TX1) (N := 8) hx hb hts inB_1 tyX1 tyX1_ok nmX1 hown hK hP hD hS 0 rfl rfl 1 (by decide) (hts _ mw_1_48) (fun _ h9 => h9) rfl hin rfl (by decide +kernel) rfl rfl (Nat.le_of_ble_eq_true rfl) dX1_init_17 (fun H locs hP hD hS => ?_)
  have hP : va_P (dC, dI) vwCl [(h0, .inr (1, [.ref a_1, .ref a_3, .null, .null, .null, .null, .int 0, .int 0])), (a_1, .inl (k_2, 10, .inl (fun _ => 0))), (a_3, .inl (k_4, 10, .inl (fun _ => 0)))] H := hP
  have hD : va_D A [(h0, .inr (1, [.ref a_1, .ref a_3, .null, .null, .null, .null, .int 0, .int 0])), (a_1, .inl (k_2, 10, .inl (fun _ => 0))), (a_3, .inl (k_4, 10, .inl (fun _ => 0)))] := hD
  refine lv_aload_n hx hb dX1_init_20 rfl (lv_at hl 0 rfl) ?_
  refine lv_bipush (v := 10) hx hb dX1_init_21 (by decide) ?_
  refine va_newa (atype := .int) (N' := 10) hx hb (hts _ mw_1_46) rfl hK hP hD hS hA (a0 := (10, .inl (fun _ => 0))) (fun _ => rfl) (by decide) rfl (by decide) (Nat.le_of_ble_eq_true rfl) (Nat.le_of_ble_eq_true rfl) dX1_init_23 (fun a_5 k_6 H hK hP hD hS => ?_)
  have hK : va_K (dC, dI) vwCl [(k_2, .int), (k_4, .int), (k_6, .int)] s := hK
  have hP : va_P (dC, dI) vwCl [(h0, .inr (1, [.ref a_1, .ref a_3, .null, .null, .null, .null, .int 0, .int 0])), (a_1, .inl (k_2, 10, .inl (fun _ => 0))), (a_3, .inl (k_4, 10, .inl (fun _ => 0))), (a_5, .inl (k_6, 10, .inl (fun _ => 0)))] H := hP
  have hD : va_D A [(h0, .inr (1, [.ref a_1, .ref a_3, .null, .null, .null, .null, .int 0, .int 0])), (a_1, .inl (k_2, 10, .inl (fun _ => 0))), (a_3, .inl (k_4, 10, .inl (fun _ => 0))), (a_5, .inl (k_6, 10, .inl (fun _ => 0)))] := hD
  refine W.widen (k := 3) (n := 30) (by omega) (by omega) ?_
  refine va_putF (D := (dC, dI)) (ci := 1) (v := .ref a_5) (ty := .array .int) (C := RX1) (T := TX1) (N := 8) hx hb hts inB_1 tyX1 tyX1_ok nmX1 hown hK hP hD hS 0 rfl rfl 2 (by decide) (hts _ mw_1_49) (fun _ h9 => h9) rfl hin rfl (by decide +kernel) rfl rfl (Nat.le_of_ble_eq_true rfl) dX1_init_25 (fun H locs hP hD hS => ?_)
  have hP : va_P (dC, dI) vwCl [(h0, .inr (1, [.ref a_1, .ref a_3, .ref a_5, .null, .null, .null, .int 0, .int 0])), (a_1, .inl (k_2, 10, .inl (fun _ => 0))), (a_3, .inl (k_4, 10, .inl (fun _ => 0))), (a_5, .inl (k_6, 10, .inl (fun _ => 0)))] H := hP
  have hD : va_D A [(h0, .inr (1, [.ref a_1, .ref a_3, .ref a_5, .null, .null, .null, .int 0, .int 0])), (a_1, .inl (k_2, 10, .inl (fun _ => 0))), (a_3, .inl (k_4, 10, .inl (fun _ => 0))), (a_5, .inl (k_6, 10, .inl (fun _ => 0)))] := hD
  refine lv_aload_n hx hb dX1_init_28 rfl (lv_at hl 0 rfl) ?_
  refine lv_bipush (v := 100) hx hb dX1_init_29 (by decide) ?_
  refine va_newa (atype := .int) (N' := 100) hx hb (hts _ mw_1_46) rfl hK hP hD hS hA (a0 := (100, .inl (fun _ => 0))) (fun _ => rfl) (by decide) rfl (by decide) (Nat.le_of_ble_eq_true rfl) (Nat.le_of_ble_eq_true rfl) dX1_init_31 (fun a_7 k_8 H hK hP hD hS => ?_)
  have hK : va_K (dC, dI) vwCl [(k_2, .int), (k_4, .int), (k_6, .int), (k_8, .int)] s := hK
  have hP : va_P (dC, dI) vwCl [(h0, .inr (1, [.ref a_1, .ref a_3, .ref a_5, .null, .null, .null, .int 0, .int 0])), (a_1, .inl (k_2, 10, .inl (fun _ => 0))), (a_3, .inl (k_4, 10, .inl (fun _ => 0))), (a_5, .inl (k_6, 10, .inl (fun _ => 0))), (a_7, .inl (k_8, 100, .inl (fun _ => 0)))] H := hP
  have hD : va_D A [(h0, .inr (1, [.ref a_1, .ref a_3, .ref a_5, .null, .null, .null, .int 0, .int 0])), (a_1, .inl (k_2, 10, .inl (fun _ => 0))), (a_3, .inl (k_4, 10, .inl (fun _ => 0))), (a_5, .inl (k_6, 10, .inl (fun _ => 0))), (a_7, .inl (k_8, 100, .inl (fun _ => 0)))] := hD
  refine W.widen (k := 4) (n := 130) (by omega) (by omega) ?_
  refine va_putF (D := (dC, dI)) (ci := 1) (v := .ref a_7) (ty := .array .int) (C := RX1) (T := TX1) (N := 8) hx hb hts inB_1 tyX1 tyX1_ok nmX1 hown hK hP hD hS 0 rfl rfl 3 (by decide) (hts _ mw_1_50) (fun _ h9 => h9) rfl hin rfl (by decide +kernel) rfl rfl (Nat.le_of_ble_eq_true rfl) dX1_init_33 (fun H locs hP hD hS => ?_)
  have hP : va_P (dC, dI) vwCl [(h0, .inr (1, [.ref a_1, .ref a_3, .ref a_5, .ref a_7, .null, .null, .int 0, .int 0])), (a_1, .inl (k_2, 10, .inl (fun _ => 0))), (a_3, .inl (k_4, 10, .inl (fun _ => 0))), (a_5, .inl (k_6, 10, .inl (fun _ => 0))), (a_7, .inl (k_8, 100, .inl (fun _ => 0)))] H := hP
  have hD : va_D A [(h0, .inr (1, [.ref a_1, .ref a_3, .ref a_5, .ref a_7, .null, .null, .int 0, .int 0])), (a_1, .inl (k_2, 10, .inl (fun _ => 0))), (a_3, .inl (k_4, 10, .inl (fun _ => 0))), (a_5, .inl (k_6, 10, .inl (fun _ => 0))), (a_7, .inl (k_8, 100, .inl (fun _ => 0)))] := hD
  refine lv_aload_n hx hb dX1_init_36 rfl (lv_at hl 0 rfl) ?_
  refine lv_iconst (v := 3) hx hb dX1_init_37 (by decide) ?_
  refine va_newa (atype := .int) (N' := 3) hx hb (hts _ mw_1_46) rfl hK hP hD hS hA (a0 := (3, .inl (fun _ => 0))) (fun _ => rfl) (by decide) rfl (by decide) (Nat.le_of_ble_eq_true rfl) (Nat.le_of_ble_eq_true rfl) dX1_init_38 (fun a_9 k_10 H hK hP hD hS => ?_)
  have hK : va_K (dC, dI) vwCl [(k_2, .int), (k_4, .int), (k_6, .int), (k_8, .int), (k_10, .int)] s := hK
  have hP : va_P (dC, dI) vwCl [(h0, .inr (1, [.ref a_1, .ref a_3, .ref a_5, .ref a_7, .null, .null, .int 0, .int 0])), (a_1, .inl (k_2, 10, .inl (fun _ => 0))), (a_3, .inl (k_4, 10, .inl (fun _ => 0))), (a_5, .inl (k_6, 10, .inl (fun _ => 0))), (a_7, .inl (k_8, 100, .inl (fun _ => 0))), (a_9, .inl (k_10, 3, .inl (fun _ => 0)))] H := hP
  have hD : va_D A [(h0, .inr (1, [.ref a_1, .ref a_3, .ref a_5, .ref a_7, .null, .null, .int 0, .int 0])), (a_1, .inl (k_2, 10, .inl (fun _ => 0))), (a_3, .inl (k_4, 10, .inl (fun _ => 0))), (a_5, .inl (k_6, 10, .inl (fun _ => 0))), (a_7, .inl (k_8, 100, .inl (fun _ => 0))), (a_9, .inl (k_10, 3, .inl (fun _ => 0)))] := hD
  refine W.widen (k := 5) (n := 133) (by omega) (by omega) ?_
  refine va_putF (D := (dC, dI)) (ci := 1) (v := .ref a_9) (ty := .array .int) (C := RX1) (T := TX1) (N := 8) hx hb hts inB_1 tyX1 tyX1_ok nmX1 hown hK hP hD hS 0 rfl rfl 4 (by decide) (hts _ mw_1_51) (fun _ h9 => h9) rfl hin rfl (by decide +kernel) rfl rfl (Nat.le_of_ble_eq_true rfl) dX1_init_40 (fun H locs hP hD hS => ?_)
  have hP : va_P (dC, dI) vwCl [(h0, .inr (1, [.ref a_1, .ref a_3, .ref a_5, .ref a_7, .ref a_9, .null, .int 0, .int 0])), (a_1, .inl (k_2, 10, .inl (fun _ => 0))), (a_3, .inl (k_4, 10, .inl (fun _ => 0))), (a_5, .inl (k_6, 10, .inl (fun _ => 0))), (a_7, .inl (k_8, 100, .inl (fun _ => 0))), (a_9, .inl (k_10, 3, .inl (fun _ => 0)))] H := hP
  have hD : va_D A [(h0, .inr (1, [.ref a_1, .ref a_3, .ref a_5, .ref a_7, .ref a_9, .null, .int 0, .int 0])), (a_1, .inl (k_2, 10, .inl (fun _ => 0))), (a_3, .inl (k_4, 10, .inl (fun _ => 0))), (a_5, .inl (k_6, 10, .inl (fun _ => 0))), (a_7, .inl (k_8, 100, .inl (fun _ => 0))), (a_9, .inl (k_10, 3, .inl (fun _ => 0)))] := hD
  refine lv_aload_n hx hb dX1_init_43 rfl (lv_at hl 0 rfl) ?_
  refine va_new (ci := 4) (fs := [.null, .null, .null, .int 0]) (C := RX4) (T := TX4) (N := 4) hx hb hts inB_4 tyX4 tyX4_ok hown (hts _ mw_1_27) (hts _ mw_1_28) (hts _ mw_1_3) hK hP hD hS hA rfl (by decide) (Nat.le_of_ble_eq_true rfl) (Nat.le_of_ble_eq_true rfl) dX1_init_44 (fun q_11 H hP hD hS => ?_)
  have hP : va_P (dC, dI) vwCl [(h0, .inr (1, [.ref a_1, .ref a_3, .ref a_5, .ref a_7, .ref a_9, .null, .int 0, .int 0])), (a_1, .inl (k_2, 10, .inl (fun _ => 0))), (a_3, .inl (k_4, 10, .inl (fun _ => 0))), (a_5, .inl (k_6, 10, .inl (fun _ => 0))), (a_7, .inl (k_8, 100, .inl (fun _ => 0))), (a_9, .inl (k_10, 3, .inl (fun _ => 0))), (q_11, .inr (4, [.null, .null, .null, .int 0]))] H := hP
  have hD : va_D A [(h0, .inr (1, [.ref a_1, .ref a_3, .ref a_5, .ref a_7, .ref a_9, .null, .int 0, .int 0])), (a_1, .inl (k_2, 10, .inl (fun _ => 0))), (a_3, .inl (k_4, 10, .inl (fun _ => 0))), (a_5, .inl (k_6, 10, .inl (fun _ => 0))), (a_7, .inl (k_8, 100, .inl (fun _ => 0))), (a_9, .inl (k_10, 3, .inl (fun _ => 0))), (q_11, .inr (4, [.null, .null, .null, .int 0]))] := hD
  refine W.widen (k := 6) (n := 137) (by omega) (by omega) ?_
  refine lv_dup hx hb dX1_init_47 rfl ?_
  have hPc := hP.sub (ws' := [(q_11, .inr (4, [.null, .null, .null, .int 0]))]) [6] rfl
  have hDc := hD.sub (ws' := [(q_11, .inr (4, [.null, .null, .null, .int 0]))]) [6] (by decide) rfl
  have hKc := hK.sub (tys' := []) [] rfl
  have hFc := va_free (wc := [(q_11, .inr (4, [.null, .null, .null, .int 0]))]) hD hS hA [6] rfl
  refine va_callv (va_runIN (As := []) (rest := [.ref q_11, .ref h0]) ⟨hx, hb, hml, hown, hts⟩ (n_X4 l dC dI H.size q_11) ⟨va_cnB 0 hts (gN mw_1_31) rfl rfl rfl (hN (RX1, 29, yX4_init, RX8) (List.mem_of_getElem? (i := 1) rfl)) (hts _ mw_1_3) (by decide +kernel) ⟨Nat.le_of_ble_eq_true rfl, Nat.le_of_ble_eq_true rfl⟩, rfl, (hts _ mw_1_30)⟩ ⟨pcW_blind, pcW_at hPc hKc hDc hN⟩ rfl rfl hl.1 rfl (lv_room (Nat.le_of_ble_eq_true rfl)) dX1_init_48 ⟨Nat.le_of_ble_eq_true rfl, Nat.le_of_ble_eq_true rfl⟩) hS (fun q _ h => hFc q h) hFc (fun u t H1 locs ht hvm hw_12 hB hz1 hk1 hS => ?_)
  obtain ⟨a_13, k_14, a_15, k_16, a_17, k_18, hP1, hK1, hD1⟩ := hB
  rw [ht] at hP1
  have hK1 := va_K.moved hvm.symm hK1
  obtain ⟨hP, hD⟩ := va_join (wr := [(h0, .inr (1, [.ref a_1, .ref a_3, .ref a_5, .ref a_7, .ref a_9, .null, .int 0, .int 0])), (a_1, .inl (k_2, 10, .inl (fun _ => 0))), (a_3, .inl (k_4, 10, .inl (fun _ => 0))), (a_5, .inl (k_6, 10, .inl (fun _ => 0))), (a_7, .inl (k_8, 100, .inl (fun _ => 0))), (a_9, .inl (k_10, 3, .inl (fun _ => 0)))]) (w1 := [(q_11, .inr (4, [.ref a_13, .ref a_15, .ref a_17, .int 0])), (a_13, .inl (k_14, 40, .inl (fun _ => 0))), (a_15, .inl (k_16, 4, .inl (fun _ => 0))), (a_17, .inl (k_18, 4, .inl (fun _ => 0)))]) hP hD [6] [0, 1, 2, 3, 4, 5] rfl rfl (by decide) (by decide) hk1 hFc hP1 hD1
  have hK := (hK.sub (tys' := [(k_2, .int), (k_4, .int), (k_6, .int), (k_8, .int), (k_10, .int)]) [0, 1, 2, 3, 4] rfl).app hK1
  clear hz1 hk1 hPc hDc hKc hFc
  generalize H1 = H at hP hS ⊢
  have hK : va_K (dC, dI) vwCl [(k_2, .int), (k_4, .int), (k_6, .int), (k_8, .int), (k_10, .int), (k_14, .int), (k_16, .int), (k_18, .int)] s := hK
  have hP : va_P (dC, dI) vwCl [(h0, .inr (1, [.ref a_1, .ref a_3, .ref a_5, .ref a_7, .ref a_9, .null, .int 0, .int 0])), (a_1, .inl (k_2, 10, .inl (fun _ => 0))), (a_3, .inl (k_4, 10, .inl (fun _ => 0))), (a_5, .inl (k_6, 10, .inl (fun _ => 0))), (a_7, .inl (k_8, 100, .inl (fun _ => 0))), (a_9, .inl (k_10, 3, .inl (fun _ => 0))), (q_11, .inr (4, [.ref a_13, .ref a_15, .ref a_17, .int 0])), (a_13, .inl (k_14, 40, .inl (fun _ => 0))), (a_15, .inl (k_16, 4, .inl (fun _ => 0))), (a_17, .inl (k_18, 4, .inl (fun _ => 0)))] H := hP
  have hD : va_D A [(h0, .inr (1, [.ref a_1, .ref a_3, .ref a_5, .ref a_7, .ref a_9, .null, .int 0, .int 0])), (a_1, .inl (k_2, 10, .inl (fun _ => 0))), (a_3, .inl (k_4, 10, .inl (fun _ => 0))), (a_5, .inl (k_6, 10, .inl (fun _ => 0))), (a_7, .inl (k_8, 100, .inl (fun _ => 0))), (a_9, .inl (k_10, 3, .inl (fun _ => 0))), (q_11, .inr (4, [.ref a_13, .ref a_15, .ref a_17, .int 0])), (a_13, .inl (k_14, 40, .inl (fun _ => 0))), (a_15, .inl (k_16, 4, .inl (fun _ => 0))), (a_17, .inl (k_18, 4, .inl (fun _ => 0)))] := hD
  refine W.widen (k := 9) (n := 185) (by omega) (by omega) ?_
  refine va_putF (D := (dC, dI)) (ci := 1) (v := .ref q_11) (ty := .object "AnswerLines$Rows") (C := RX1) (T := TX1) (N := 8) hx hb hts inB_1 tyX1 tyX1_ok nmX1 hown hK hP hD hS 0 rfl rfl 5 (by decide) (hts _ mw_1_52) (fun _ h9 => h9) rfl hin rfl (by decide +kernel) rfl rfl (Nat.le_of_ble_eq_true rfl) dX1_init_51 (fun H locs hP hD hS => ?_)
  have hP : va_P (dC, dI) vwCl [(h0, .inr (1, [.ref a_1, .ref a_3, .ref a_5, .ref a_7, .ref a_9, .ref q_11, .int 0, .int 0])), (a_1, .inl (k_2, 10, .inl (fun _ => 0))), (a_3, .inl (k_4, 10, .inl (fun _ => 0))), (a_5, .inl (k_6, 10, .inl (fun _ => 0))), (a_7, .inl (k_8, 100, .inl (fun _ => 0))), (a_9, .inl (k_10, 3, .inl (fun _ => 0))), (q_11, .inr (4, [.ref a_13, .ref a_15, .ref a_17, .int 0])), (a_13, .inl (k_14, 40, .inl (fun _ => 0))), (a_15, .inl (k_16, 4, .inl (fun _ => 0))), (a_17, .inl (k_18, 4, .inl (fun _ => 0)))] H := hP
  have hD : va_D A [(h0, .inr (1, [.ref a_1, .ref a_3, .ref a_5, .ref a_7, .ref a_9, .ref q_11, .int 0, .int 0])), (a_1, .inl (k_2, 10, .inl (fun _ => 0))), (a_3, .inl (k_4, 10, .inl (fun _ => 0))), (a_5, .inl (k_6, 10, .inl (fun _ => 0))), (a_7, .inl (k_8, 100, .inl (fun _ => 0))), (a_9, .inl (k_10, 3, .inl (fun _ => 0))), (q_11, .inr (4, [.ref a_13, .ref a_15, .ref a_17, .int 0])), (a_13, .inl (k_14, 40, .inl (fun _ => 0))), (a_15, .inl (k_16, 4, .inl (fun _ => 0))), (a_17, .inl (k_18, 4, .inl (fun _ => 0)))] := hD
  refine W.widen (k := 9) (n := 185) (by omega) (by omega) ?_
  exact W.vret hx hb hr (fun t ht hW => ⟨⟨(), rfl, trivial, a_1, k_2, a_3, k_4, a_5, k_6, a_7, k_8, a_9, k_10, q_11, a_13, k_14, a_15, k_16, a_17, k_18, by rw [ht]; exact hP, va_K.moved hW.alike hK, hD⟩, hS.F ht⟩) hS.2.2 dX1_init_54
