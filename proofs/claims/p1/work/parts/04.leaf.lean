theorem dX8_isName_0 : decode cX8_isName 0 = .ok (.iload_n 0, 1) := by decide +kernel
theorem dX8_isName_1 : decode cX8_isName 1 = .ok (.ifCond .lt 13, 3) := by decide +kernel
theorem dX8_isName_14 : decode cX8_isName 14 = .ok (.iconst 0, 1) := by decide +kernel
theorem dX8_isName_15 : decode cX8_isName 15 = .ok (.ireturn, 1) := by decide +kernel
theorem dX8_isName_4 : decode cX8_isName 4 = .ok (.iload_n 0, 1) := by decide +kernel
theorem dX8_isName_5 : decode cX8_isName 5 = .ok (.bipush 8, 2) := by decide +kernel
theorem dX8_isName_7 : decode cX8_isName 7 = .ok (.if_icmp .ge 7, 3) := by decide +kernel
theorem dX8_isName_10 : decode cX8_isName 10 = .ok (.iconst 1, 1) := by decide +kernel
theorem dX8_isName_11 : decode cX8_isName 11 = .ok (.goto 4, 3) := by decide +kernel
theorem dX8_isPlace_0 : decode cX8_isPlace 0 = .ok (.iload_n 0, 1) := by decide +kernel
theorem dX8_isPlace_1 : decode cX8_isPlace 1 = .ok (.ifCond .lt 12, 3) := by decide +kernel
theorem dX8_isPlace_13 : decode cX8_isPlace 13 = .ok (.iconst 0, 1) := by decide +kernel
theorem dX8_isPlace_14 : decode cX8_isPlace 14 = .ok (.ireturn, 1) := by decide +kernel
theorem dX8_isPlace_4 : decode cX8_isPlace 4 = .ok (.iload_n 0, 1) := by decide +kernel
theorem dX8_isPlace_5 : decode cX8_isPlace 5 = .ok (.iconst 4, 1) := by decide +kernel
theorem dX8_isPlace_6 : decode cX8_isPlace 6 = .ok (.if_icmp .ge 7, 3) := by decide +kernel
theorem dX8_isPlace_9 : decode cX8_isPlace 9 = .ok (.iconst 1, 1) := by decide +kernel
theorem dX8_isPlace_10 : decode cX8_isPlace 10 = .ok (.goto 4, 3) := by decide +kernel
theorem dX8_isIn_0 : decode cX8_isIn 0 = .ok (.iload_n 1, 1) := by decide +kernel
theorem dX8_isIn_1 : decode cX8_isIn 1 = .ok (.iload_n 0, 1) := by decide +kernel
theorem dX8_isIn_2 : decode cX8_isIn 2 = .ok (.ishr, 1) := by decide +kernel
theorem dX8_isIn_3 : decode cX8_isIn 3 = .ok (.iconst 1, 1) := by decide +kernel
theorem dX8_isIn_4 : decode cX8_isIn 4 = .ok (.iand, 1) := by decide +kernel
theorem dX8_isIn_5 : decode cX8_isIn 5 = .ok (.ifCond .eq 7, 3) := by decide +kernel
theorem dX8_isIn_12 : decode cX8_isIn 12 = .ok (.iconst 0, 1) := by decide +kernel
theorem dX8_isIn_13 : decode cX8_isIn 13 = .ok (.ireturn, 1) := by decide +kernel
set_option maxHeartbeats 4000000 in
set_option maxRecDepth 100000 in
theorem c_isName (l : Launch) (dC : Nat → ClassId) (dI : Nat → Nat → Nat) (sz : Nat) (n : Int32)  : Met l yX8_isName (wq yX8_isName cX8_isName 1 (some .boolean)) ({ frames := 0, cells := 0, slots := 0, locals := 0 }) (va_Pc [.int n] (pcW dC dI [] [] sz)) (va_Qi (fun (r : Int32) (_ : Unit) => r = (if 0 ≤ Int32.toInt n ∧ Int32.toInt n ≤ 7 then 1 else 0)) (fun _ _ => True) (fun q : Nat => sz ≤ q)) 0 0 (fun q : Nat => sz ≤ q) := by
  refine Met.ofW (cc := cX8_isName) (maxL := 1) (ret := (some .boolean)) (by decide) rfl ?_
  intro p e s m args below meth c s₁ B hml hv
  obtain ⟨rfl, hsz, hN, hP, hK, hD0⟩ := hv
  have hx := B.exec
  have hb := B.bytes
  have hr := B.returns
  have hts0 := atoms_spec (ws := (wq yX8_isName cX8_isName 1 (some .boolean))) B.pre
  have hts : ∀ w ∈ BG, w.before _ s = true := fun w h => hts0 w (List.mem_cons_of_mem _ h)
  have hown : s.vm.findClass RX8 = some m.cls := findClass_of_methodNamed B.named
  have hlocks := B.notSynchronized
  subst hsz
  have hA : ∀ q : Nat, s.heap.size ≤ q → (fun q : Nat => s.heap.size ≤ q) q := fun _ h => h
  have hD := hD0
  have hS : va_S (fun q : Nat => s.heap.size ≤ q) s.heap s.heap [] := va_S.rf
  have hP : va_P (dC, dI) vwCl [] s.heap := hP
  have hl := lv_entry ([.int n]) (n := 1) (Nat.le_of_ble_eq_true rfl)
  rw [lg_entry_eq]
  generalize (lg_sl ([.int n]) ++ List.replicate (1 - (lg_sl ([.int n])).length) Slot.unset).toArray = ls at hl ⊢
  have hl : lv_has ls 1 [(0, .int n)] := hl
  skip
  refine lv_iload_n hx hb dX8_isName_0 rfl (lv_at hl 0 rfl) ?_
  refine lv_if_lt (tgt := 14) hx hb dX8_isName_1 (by decide) (fun c_1 => ?_) (fun c_1 => ?_)
  · have b_2 := fx_lt (x := n) (C := 0) (by decide) c_1
    refine lv_iconst (v := 0) hx hb dX8_isName_14 (by decide) ?_
    exact W.zret (v := 0) hx hb hr (by decide) (fun t ht hW => ⟨⟨0, (), rfl, (by first | exact (if_pos (by omega)).symm | exact (if_neg (by omega)).symm), trivial⟩, hS.F ht⟩) hS.2.2 dX8_isName_15
  · have b_2 := fn_lt (x := n) (C := 0) (by decide) c_1
    refine lv_iload_n hx hb dX8_isName_4 rfl (lv_at hl 0 rfl) ?_
    refine lv_bipush (v := 8) hx hb dX8_isName_5 (by decide) ?_
    refine lv_icmp_ge (tgt := 14) hx hb dX8_isName_7 (by decide) (fun c_3 => ?_) (fun c_3 => ?_)
    · have b_4 := fx_ge (x := n) (C := 8) (by decide) c_3
      refine lv_iconst (v := 0) hx hb dX8_isName_14 (by decide) ?_
      exact W.zret (v := 0) hx hb hr (by decide) (fun t ht hW => ⟨⟨0, (), rfl, (by first | exact (if_pos (by omega)).symm | exact (if_neg (by omega)).symm), trivial⟩, hS.F ht⟩) hS.2.2 dX8_isName_15
    · have b_4 := fn_ge (x := n) (C := 8) (by decide) c_3
      refine lv_iconst (v := 1) hx hb dX8_isName_10 (by decide) ?_
      refine lv_goto (tgt := 15) hx hb dX8_isName_11 (by decide) ?_
      exact W.zret (v := 1) hx hb hr (by decide) (fun t ht hW => ⟨⟨1, (), rfl, (by first | exact (if_pos (by omega)).symm | exact (if_neg (by omega)).symm), trivial⟩, hS.F ht⟩) hS.2.2 dX8_isName_15
set_option maxHeartbeats 4000000 in
set_option maxRecDepth 100000 in
theorem c_isPlace (l : Launch) (dC : Nat → ClassId) (dI : Nat → Nat → Nat) (sz : Nat) (n : Int32)  : Met l yX8_isPlace (wq yX8_isPlace cX8_isPlace 1 (some .boolean)) ({ frames := 0, cells := 0, slots := 0, locals := 0 }) (va_Pc [.int n] (pcW dC dI [] [] sz)) (va_Qi (fun (r : Int32) (_ : Unit) => r = (if 0 ≤ Int32.toInt n ∧ Int32.toInt n ≤ 3 then 1 else 0)) (fun _ _ => True) (fun q : Nat => sz ≤ q)) 0 0 (fun q : Nat => sz ≤ q) := by
  refine Met.ofW (cc := cX8_isPlace) (maxL := 1) (ret := (some .boolean)) (by decide) rfl ?_
  intro p e s m args below meth c s₁ B hml hv
  obtain ⟨rfl, hsz, hN, hP, hK, hD0⟩ := hv
  have hx := B.exec
  have hb := B.bytes
  have hr := B.returns
  have hts0 := atoms_spec (ws := (wq yX8_isPlace cX8_isPlace 1 (some .boolean))) B.pre
  have hts : ∀ w ∈ BG, w.before _ s = true := fun w h => hts0 w (List.mem_cons_of_mem _ h)
  have hown : s.vm.findClass RX8 = some m.cls := findClass_of_methodNamed B.named
  have hlocks := B.notSynchronized
  subst hsz
  have hA : ∀ q : Nat, s.heap.size ≤ q → (fun q : Nat => s.heap.size ≤ q) q := fun _ h => h
  have hD := hD0
  have hS : va_S (fun q : Nat => s.heap.size ≤ q) s.heap s.heap [] := va_S.rf
  have hP : va_P (dC, dI) vwCl [] s.heap := hP
  have hl := lv_entry ([.int n]) (n := 1) (Nat.le_of_ble_eq_true rfl)
  rw [lg_entry_eq]
  generalize (lg_sl ([.int n]) ++ List.replicate (1 - (lg_sl ([.int n])).length) Slot.unset).toArray = ls at hl ⊢
  have hl : lv_has ls 1 [(0, .int n)] := hl
  skip
  refine lv_iload_n hx hb dX8_isPlace_0 rfl (lv_at hl 0 rfl) ?_
  refine lv_if_lt (tgt := 13) hx hb dX8_isPlace_1 (by decide) (fun c_1 => ?_) (fun c_1 => ?_)
  · have b_2 := fx_lt (x := n) (C := 0) (by decide) c_1
    refine lv_iconst (v := 0) hx hb dX8_isPlace_13 (by decide) ?_
    exact W.zret (v := 0) hx hb hr (by decide) (fun t ht hW => ⟨⟨0, (), rfl, (by first | exact (if_pos (by omega)).symm | exact (if_neg (by omega)).symm), trivial⟩, hS.F ht⟩) hS.2.2 dX8_isPlace_14
  · have b_2 := fn_lt (x := n) (C := 0) (by decide) c_1
    refine lv_iload_n hx hb dX8_isPlace_4 rfl (lv_at hl 0 rfl) ?_
    refine lv_iconst (v := 4) hx hb dX8_isPlace_5 (by decide) ?_
    refine lv_icmp_ge (tgt := 13) hx hb dX8_isPlace_6 (by decide) (fun c_3 => ?_) (fun c_3 => ?_)
    · have b_4 := fx_ge (x := n) (C := 4) (by decide) c_3
      refine lv_iconst (v := 0) hx hb dX8_isPlace_13 (by decide) ?_
      exact W.zret (v := 0) hx hb hr (by decide) (fun t ht hW => ⟨⟨0, (), rfl, (by first | exact (if_pos (by omega)).symm | exact (if_neg (by omega)).symm), trivial⟩, hS.F ht⟩) hS.2.2 dX8_isPlace_14
    · have b_4 := fn_ge (x := n) (C := 4) (by decide) c_3
      refine lv_iconst (v := 1) hx hb dX8_isPlace_9 (by decide) ?_
      refine lv_goto (tgt := 14) hx hb dX8_isPlace_10 (by decide) ?_
      exact W.zret (v := 1) hx hb hr (by decide) (fun t ht hW => ⟨⟨1, (), rfl, (by first | exact (if_pos (by omega)).symm | exact (if_neg (by omega)).symm), trivial⟩, hS.F ht⟩) hS.2.2 dX8_isPlace_14
set_option maxHeartbeats 4000000 in
set_option maxRecDepth 100000 in
theorem c_isIn0 (l : Launch) (dC : Nat → ClassId) (dI : Nat → Nat → Nat) (sz : Nat) (n : Int32)  : Met l yX8_isIn (wq yX8_isIn cX8_isIn 2 (some .boolean)) ({ frames := 0, cells := 0, slots := 0, locals := 0 }) (va_Pc [.int n, .int 0] (pcW dC dI [] [] sz)) (va_Qi (fun (r : Int32) (_ : Unit) => r = 0) (fun _ _ => True) (fun q : Nat => sz ≤ q)) 0 0 (fun q : Nat => sz ≤ q) := by
  refine Met.ofW (cc := cX8_isIn) (maxL := 2) (ret := (some .boolean)) (by decide) rfl ?_
  intro p e s m args below meth c s₁ B hml hv
  obtain ⟨rfl, hsz, hN, hP, hK, hD0⟩ := hv
  have hx := B.exec
  have hb := B.bytes
  have hr := B.returns
  have hts0 := atoms_spec (ws := (wq yX8_isIn cX8_isIn 2 (some .boolean))) B.pre
  have hts : ∀ w ∈ BG, w.before _ s = true := fun w h => hts0 w (List.mem_cons_of_mem _ h)
  have hown : s.vm.findClass RX8 = some m.cls := findClass_of_methodNamed B.named
  have hlocks := B.notSynchronized
  subst hsz
  have hA : ∀ q : Nat, s.heap.size ≤ q → (fun q : Nat => s.heap.size ≤ q) q := fun _ h => h
  have hD := hD0
  have hS : va_S (fun q : Nat => s.heap.size ≤ q) s.heap s.heap [] := va_S.rf
  have hP : va_P (dC, dI) vwCl [] s.heap := hP
  have hl := lv_entry ([.int n, .int 0]) (n := 2) (Nat.le_of_ble_eq_true rfl)
  rw [lg_entry_eq]
  generalize (lg_sl ([.int n, .int 0]) ++ List.replicate (2 - (lg_sl ([.int n, .int 0])).length) Slot.unset).toArray = ls at hl ⊢
  have hl : lv_has ls 2 [(0, .int n), (1, .int 0)] := hl
  skip
  refine lv_iload_n hx hb dX8_isIn_0 rfl (lv_at hl 1 rfl) ?_
  refine lv_iload_n hx hb dX8_isIn_1 rfl (lv_at hl 0 rfl) ?_
  refine lv_ishr hx hb dX8_isIn_2 ?_
  refine hx_top (y := 0) (z_shr _) ?_
  refine lv_iconst (v := 1) hx hb dX8_isIn_3 (by decide) ?_
  refine lv_iand hx hb dX8_isIn_4 ?_
  refine hx_top (y := 0) (by decide) ?_
  refine lv_if_eq (tgt := 12) hx hb dX8_isIn_5 (by decide) (fun _ => ?_) (fun h => absurd (by decide) h)
  refine lv_iconst (v := 0) hx hb dX8_isIn_12 (by decide) ?_
  exact W.zret (v := 0) hx hb hr (by decide) (fun t ht hW => ⟨⟨0, (), rfl, rfl, trivial⟩, hS.F ht⟩) hS.2.2 dX8_isIn_13
