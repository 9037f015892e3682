theorem mw_1_131 : Cond.fieldLink RX7 24 "AnswerLines$Table" "slots" "[I" ∈ BG := mB (t1 (i := 131) (by decide +kernel)) (by decide +kernel)
theorem mw_3_59 : Cond.code yX7_isOpen cX7_isOpen 4 (some .boolean) ∈ BG := mB (t3 (i := 59) rfl) (by decide +kernel)
theorem mw_3_56 : Cond.methodLink RX7 72 yX7_isOpen ∈ BG := mB (t3 (i := 56) (by decide +kernel)) (by decide +kernel)
theorem mw_3_58 : Cond.instanceMethod yX7_isOpen ∈ BG := mB (t3 (i := 58) (by decide +kernel)) (by decide +kernel)
theorem mw_0_11 : Cond.selects RX7 yX7_isOpen yX7_isOpen ∈ BG := mB (t0 (i := 11) (by decide +kernel)) (by decide +kernel)
theorem mw_3_55 : Cond.code yX7_leastPlace cX7_leastPlace 4 (some .int) ∈ BG := mB (t3 (i := 55) rfl) (by decide +kernel)
theorem mw_3_52 : Cond.methodLink RX7 69 yX7_leastPlace ∈ BG := mB (t3 (i := 52) (by decide +kernel)) (by decide +kernel)
theorem mw_3_54 : Cond.instanceMethod yX7_leastPlace ∈ BG := mB (t3 (i := 54) (by decide +kernel)) (by decide +kernel)
theorem mw_0_10 : Cond.selects RX7 yX7_leastPlace yX7_leastPlace ∈ BG := mB (t0 (i := 10) (by decide +kernel)) (by decide +kernel)
theorem mw_1_130 : Cond.fieldLink RX7 21 "AnswerLines$Table" "pushedTo" "[I" ∈ BG := mB (t1 (i := 130) (by decide +kernel)) (by decide +kernel)
theorem mw_3_51 : Cond.code yX7_pushRow cX7_pushRow 5 (some .int) ∈ BG := mB (t3 (i := 51) rfl) (by decide +kernel)
theorem mw_3_48 : Cond.methodLink RX7 53 yX7_pushRow ∈ BG := mB (t3 (i := 48) (by decide +kernel)) (by decide +kernel)
theorem mw_3_50 : Cond.instanceMethod yX7_pushRow ∈ BG := mB (t3 (i := 50) (by decide +kernel)) (by decide +kernel)
theorem mw_0_9 : Cond.selects RX7 yX7_pushRow yX7_pushRow ∈ BG := mB (t0 (i := 9) (by decide +kernel)) (by decide +kernel)
theorem dX7_isOpen_0 : decode cX7_isOpen 0 = .ok (.iconst 0, 1) := by decide +kernel
theorem dX7_isOpen_1 : decode cX7_isOpen 1 = .ok (.istore_n 3, 1) := by decide +kernel
theorem dX7_isOpen_2 : decode cX7_isOpen 2 = .ok (.iload_n 3, 1) := by decide +kernel
theorem dX7_isOpen_3 : decode cX7_isOpen 3 = .ok (.bipush 8, 2) := by decide +kernel
theorem dX7_isOpen_5 : decode cX7_isOpen 5 = .ok (.if_icmp .ge 40, 3) := by decide +kernel
theorem dX7_isOpen_45 : decode cX7_isOpen 45 = .ok (.iconst 1, 1) := by decide +kernel
theorem dX7_isOpen_46 : decode cX7_isOpen 46 = .ok (.ireturn, 1) := by decide +kernel
theorem dX7_isOpen_8 : decode cX7_isOpen 8 = .ok (.iload_n 2, 1) := by decide +kernel
theorem dX7_isOpen_9 : decode cX7_isOpen 9 = .ok (.iload_n 3, 1) := by decide +kernel
theorem dX7_isOpen_10 : decode cX7_isOpen 10 = .ok (.iadd, 1) := by decide +kernel
theorem dX7_isOpen_11 : decode cX7_isOpen 11 = .ok (.bipush 100, 2) := by decide +kernel
theorem dX7_isOpen_13 : decode cX7_isOpen 13 = .ok (.if_icmp .ge 32, 3) := by decide +kernel
theorem dX7_isOpen_16 : decode cX7_isOpen 16 = .ok (.iload_n 3, 1) := by decide +kernel
theorem dX7_isOpen_17 : decode cX7_isOpen 17 = .ok (.iload_n 1, 1) := by decide +kernel
theorem dX7_isOpen_18 : decode cX7_isOpen 18 = .ok (.invokestatic 62, 3) := by decide +kernel
theorem dX7_isOpen_21 : decode cX7_isOpen 21 = .ok (.ifCond .eq 18, 3) := by decide +kernel
theorem dX7_isOpen_24 : decode cX7_isOpen 24 = .ok (.aload_n 0, 1) := by decide +kernel
theorem dX7_isOpen_25 : decode cX7_isOpen 25 = .ok (.getfield 24, 3) := by decide +kernel
theorem dX7_isOpen_28 : decode cX7_isOpen 28 = .ok (.iload_n 2, 1) := by decide +kernel
theorem dX7_isOpen_29 : decode cX7_isOpen 29 = .ok (.iload_n 3, 1) := by decide +kernel
theorem dX7_isOpen_30 : decode cX7_isOpen 30 = .ok (.iadd, 1) := by decide +kernel
theorem dX7_isOpen_31 : decode cX7_isOpen 31 = .ok (.iaload, 1) := by decide +kernel
theorem dX7_isOpen_32 : decode cX7_isOpen 32 = .ok (.bipush (-6), 2) := by decide +kernel
theorem dX7_isOpen_34 : decode cX7_isOpen 34 = .ok (.if_icmp .eq 5, 3) := by decide +kernel
theorem dX7_isOpen_39 : decode cX7_isOpen 39 = .ok (.iinc 3 1, 3) := by decide +kernel
theorem dX7_isOpen_42 : decode cX7_isOpen 42 = .ok (.goto (-40), 3) := by decide +kernel
theorem dX7_isOpen_37 : decode cX7_isOpen 37 = .ok (.iconst 0, 1) := by decide +kernel
theorem dX7_isOpen_38 : decode cX7_isOpen 38 = .ok (.ireturn, 1) := by decide +kernel
theorem dX7_leastPlace_0 : decode cX7_leastPlace 0 = .ok (.bipush 92, 2) := by decide +kernel
theorem dX7_leastPlace_2 : decode cX7_leastPlace 2 = .ok (.istore_n 2, 1) := by decide +kernel
theorem dX7_leastPlace_3 : decode cX7_leastPlace 3 = .ok (.iconst 0, 1) := by decide +kernel
theorem dX7_leastPlace_4 : decode cX7_leastPlace 4 = .ok (.istore_n 3, 1) := by decide +kernel
theorem dX7_leastPlace_5 : decode cX7_leastPlace 5 = .ok (.iload_n 3, 1) := by decide +kernel
theorem dX7_leastPlace_6 : decode cX7_leastPlace 6 = .ok (.iload_n 2, 1) := by decide +kernel
theorem dX7_leastPlace_7 : decode cX7_leastPlace 7 = .ok (.if_icmp .ge 20, 3) := by decide +kernel
theorem dX7_leastPlace_27 : decode cX7_leastPlace 27 = .ok (.iload_n 2, 1) := by decide +kernel
theorem dX7_leastPlace_28 : decode cX7_leastPlace 28 = .ok (.ireturn, 1) := by decide +kernel
theorem dX7_leastPlace_10 : decode cX7_leastPlace 10 = .ok (.aload_n 0, 1) := by decide +kernel
theorem dX7_leastPlace_11 : decode cX7_leastPlace 11 = .ok (.iload_n 1, 1) := by decide +kernel
theorem dX7_leastPlace_12 : decode cX7_leastPlace 12 = .ok (.iload_n 3, 1) := by decide +kernel
theorem dX7_leastPlace_13 : decode cX7_leastPlace 13 = .ok (.invokevirtual 72, 3) := by decide +kernel
theorem dX7_leastPlace_16 : decode cX7_leastPlace 16 = .ok (.ifCond .eq 5, 3) := by decide +kernel
theorem dX7_leastPlace_19 : decode cX7_leastPlace 19 = .ok (.iload_n 3, 1) := by decide +kernel
theorem dX7_leastPlace_20 : decode cX7_leastPlace 20 = .ok (.ireturn, 1) := by decide +kernel
theorem dX7_leastPlace_21 : decode cX7_leastPlace 21 = .ok (.iinc 3 1, 3) := by decide +kernel
theorem dX7_leastPlace_24 : decode cX7_leastPlace 24 = .ok (.goto (-19), 3) := by decide +kernel
theorem dX7_pushRow_0 : decode cX7_pushRow 0 = .ok (.iconst 0, 1) := by decide +kernel
theorem dX7_pushRow_1 : decode cX7_pushRow 1 = .ok (.istore_n 2, 1) := by decide +kernel
theorem dX7_pushRow_2 : decode cX7_pushRow 2 = .ok (.aload_n 0, 1) := by decide +kernel
theorem dX7_pushRow_3 : decode cX7_pushRow 3 = .ok (.aload_n 0, 1) := by decide +kernel
theorem dX7_pushRow_4 : decode cX7_pushRow 4 = .ok (.getfield 9, 3) := by decide +kernel
theorem dX7_pushRow_7 : decode cX7_pushRow 7 = .ok (.iload_n 1, 1) := by decide +kernel
theorem dX7_pushRow_8 : decode cX7_pushRow 8 = .ok (.iaload, 1) := by decide +kernel
theorem dX7_pushRow_9 : decode cX7_pushRow 9 = .ok (.invokevirtual 69, 3) := by decide +kernel
theorem dX7_pushRow_12 : decode cX7_pushRow 12 = .ok (.istore_n 3, 1) := by decide +kernel
theorem dX7_pushRow_13 : decode cX7_pushRow 13 = .ok (.aload_n 0, 1) := by decide +kernel
theorem dX7_pushRow_14 : decode cX7_pushRow 14 = .ok (.getfield 21, 3) := by decide +kernel
theorem dX7_pushRow_17 : decode cX7_pushRow 17 = .ok (.iload_n 1, 1) := by decide +kernel
theorem dX7_pushRow_18 : decode cX7_pushRow 18 = .ok (.iload_n 3, 1) := by decide +kernel
theorem dX7_pushRow_19 : decode cX7_pushRow 19 = .ok (.iastore, 1) := by decide +kernel
theorem dX7_pushRow_20 : decode cX7_pushRow 20 = .ok (.iconst 0, 1) := by decide +kernel
theorem dX7_pushRow_21 : decode cX7_pushRow 21 = .ok (.istore 4, 2) := by decide +kernel
theorem dX7_pushRow_23 : decode cX7_pushRow 23 = .ok (.iload 4, 2) := by decide +kernel
theorem dX7_pushRow_25 : decode cX7_pushRow 25 = .ok (.bipush 8, 2) := by decide +kernel
theorem dX7_pushRow_27 : decode cX7_pushRow 27 = .ok (.if_icmp .ge 58, 3) := by decide +kernel
theorem dX7_pushRow_85 : decode cX7_pushRow 85 = .ok (.iload_n 2, 1) := by decide +kernel
theorem dX7_pushRow_86 : decode cX7_pushRow 86 = .ok (.ireturn, 1) := by decide +kernel
theorem dX7_pushRow_30 : decode cX7_pushRow 30 = .ok (.iload_n 3, 1) := by decide +kernel
theorem dX7_pushRow_31 : decode cX7_pushRow 31 = .ok (.iload 4, 2) := by decide +kernel
theorem dX7_pushRow_33 : decode cX7_pushRow 33 = .ok (.iadd, 1) := by decide +kernel
theorem dX7_pushRow_34 : decode cX7_pushRow 34 = .ok (.bipush 100, 2) := by decide +kernel
theorem dX7_pushRow_36 : decode cX7_pushRow 36 = .ok (.if_icmp .ge 49, 3) := by decide +kernel
theorem dX7_pushRow_39 : decode cX7_pushRow 39 = .ok (.iload 4, 2) := by decide +kernel
theorem dX7_pushRow_41 : decode cX7_pushRow 41 = .ok (.aload_n 0, 1) := by decide +kernel
theorem dX7_pushRow_42 : decode cX7_pushRow 42 = .ok (.getfield 9, 3) := by decide +kernel
theorem dX7_pushRow_45 : decode cX7_pushRow 45 = .ok (.iload_n 1, 1) := by decide +kernel
theorem dX7_pushRow_46 : decode cX7_pushRow 46 = .ok (.iaload, 1) := by decide +kernel
theorem dX7_pushRow_47 : decode cX7_pushRow 47 = .ok (.invokestatic 62, 3) := by decide +kernel
theorem dX7_pushRow_50 : decode cX7_pushRow 50 = .ok (.ifCond .ne 6, 3) := by decide +kernel
theorem dX7_pushRow_56 : decode cX7_pushRow 56 = .ok (.aload_n 0, 1) := by decide +kernel
theorem dX7_pushRow_57 : decode cX7_pushRow 57 = .ok (.getfield 24, 3) := by decide +kernel
theorem dX7_pushRow_60 : decode cX7_pushRow 60 = .ok (.iload_n 3, 1) := by decide +kernel
theorem dX7_pushRow_61 : decode cX7_pushRow 61 = .ok (.iload 4, 2) := by decide +kernel
theorem dX7_pushRow_63 : decode cX7_pushRow 63 = .ok (.iadd, 1) := by decide +kernel
theorem dX7_pushRow_64 : decode cX7_pushRow 64 = .ok (.bipush 10, 2) := by decide +kernel
theorem dX7_pushRow_66 : decode cX7_pushRow 66 = .ok (.iload_n 1, 1) := by decide +kernel
theorem dX7_pushRow_67 : decode cX7_pushRow 67 = .ok (.imul, 1) := by decide +kernel
theorem dX7_pushRow_68 : decode cX7_pushRow 68 = .ok (.iload 4, 2) := by decide +kernel
theorem dX7_pushRow_70 : decode cX7_pushRow 70 = .ok (.iadd, 1) := by decide +kernel
theorem dX7_pushRow_71 : decode cX7_pushRow 71 = .ok (.iastore, 1) := by decide +kernel
theorem dX7_pushRow_72 : decode cX7_pushRow 72 = .ok (.iload_n 3, 1) := by decide +kernel
theorem dX7_pushRow_73 : decode cX7_pushRow 73 = .ok (.iload 4, 2) := by decide +kernel
theorem dX7_pushRow_75 : decode cX7_pushRow 75 = .ok (.iadd, 1) := by decide +kernel
theorem dX7_pushRow_76 : decode cX7_pushRow 76 = .ok (.iconst 1, 1) := by decide +kernel
theorem dX7_pushRow_77 : decode cX7_pushRow 77 = .ok (.iadd, 1) := by decide +kernel
theorem dX7_pushRow_78 : decode cX7_pushRow 78 = .ok (.istore_n 2, 1) := by decide +kernel
theorem dX7_pushRow_79 : decode cX7_pushRow 79 = .ok (.iinc 4 1, 3) := by decide +kernel
theorem dX7_pushRow_82 : decode cX7_pushRow 82 = .ok (.goto (-59), 3) := by decide +kernel
theorem dX7_pushRow_53 : decode cX7_pushRow 53 = .ok (.goto 26, 3) := by decide +kernel
theorem dX7_push_0 : decode cX7_push 0 = .ok (.iconst 0, 1) := by decide +kernel
theorem dX7_push_1 : decode cX7_push 1 = .ok (.istore_n 1, 1) := by decide +kernel
theorem dX7_push_2 : decode cX7_push 2 = .ok (.iload_n 1, 1) := by decide +kernel
theorem dX7_push_3 : decode cX7_push 3 = .ok (.bipush 100, 2) := by decide +kernel
theorem dX7_push_5 : decode cX7_push 5 = .ok (.if_icmp .ge 17, 3) := by decide +kernel
theorem dX7_push_22 : decode cX7_push 22 = .ok (.iconst 0, 1) := by decide +kernel
theorem dX7_push_23 : decode cX7_push 23 = .ok (.istore_n 1, 1) := by decide +kernel
theorem dX7_push_24 : decode cX7_push 24 = .ok (.iconst 0, 1) := by decide +kernel
theorem dX7_push_25 : decode cX7_push 25 = .ok (.istore_n 2, 1) := by decide +kernel
theorem dX7_push_26 : decode cX7_push 26 = .ok (.iload_n 2, 1) := by decide +kernel
theorem dX7_push_27 : decode cX7_push 27 = .ok (.bipush 10, 2) := by decide +kernel
theorem dX7_push_29 : decode cX7_push 29 = .ok (.if_icmp .ge 36, 3) := by decide +kernel
theorem dX7_push_65 : decode cX7_push 65 = .ok (.iload_n 1, 1) := by decide +kernel
theorem dX7_push_66 : decode cX7_push 66 = .ok (.ireturn, 1) := by decide +kernel
theorem dX7_push_32 : decode cX7_push 32 = .ok (.aload_n 0, 1) := by decide +kernel
theorem dX7_push_33 : decode cX7_push 33 = .ok (.getfield 21, 3) := by decide +kernel
theorem dX7_push_36 : decode cX7_push 36 = .ok (.iload_n 2, 1) := by decide +kernel
theorem dX7_push_37 : decode cX7_push 37 = .ok (.bipush (-6), 2) := by decide +kernel
theorem dX7_push_39 : decode cX7_push 39 = .ok (.iastore, 1) := by decide +kernel
theorem dX7_push_40 : decode cX7_push 40 = .ok (.aload_n 0, 1) := by decide +kernel
theorem dX7_push_41 : decode cX7_push 41 = .ok (.getfield 9, 3) := by decide +kernel
theorem dX7_push_44 : decode cX7_push 44 = .ok (.iload_n 2, 1) := by decide +kernel
theorem dX7_push_45 : decode cX7_push 45 = .ok (.iaload, 1) := by decide +kernel
theorem dX7_push_46 : decode cX7_push 46 = .ok (.ifCond .eq 13, 3) := by decide +kernel
theorem dX7_push_59 : decode cX7_push 59 = .ok (.iinc 2 1, 3) := by decide +kernel
theorem dX7_push_62 : decode cX7_push 62 = .ok (.goto (-36), 3) := by decide +kernel
theorem dX7_push_49 : decode cX7_push 49 = .ok (.iload_n 1, 1) := by decide +kernel
theorem dX7_push_50 : decode cX7_push 50 = .ok (.aload_n 0, 1) := by decide +kernel
theorem dX7_push_51 : decode cX7_push 51 = .ok (.iload_n 2, 1) := by decide +kernel
theorem dX7_push_52 : decode cX7_push 52 = .ok (.invokevirtual 53, 3) := by decide +kernel
theorem dX7_push_55 : decode cX7_push 55 = .ok (.invokestatic 56, 3) := by decide +kernel
theorem dX7_push_58 : decode cX7_push 58 = .ok (.istore_n 1, 1) := by decide +kernel
theorem dX7_push_8 : decode cX7_push 8 = .ok (.aload_n 0, 1) := by decide +kernel
theorem dX7_push_9 : decode cX7_push 9 = .ok (.getfield 24, 3) := by decide +kernel
theorem dX7_push_12 : decode cX7_push 12 = .ok (.iload_n 1, 1) := by decide +kernel
theorem dX7_push_13 : decode cX7_push 13 = .ok (.bipush (-6), 2) := by decide +kernel
theorem dX7_push_15 : decode cX7_push 15 = .ok (.iastore, 1) := by decide +kernel
theorem dX7_push_16 : decode cX7_push 16 = .ok (.iinc 1 1, 3) := by decide +kernel
theorem dX7_push_19 : decode cX7_push 19 = .ok (.goto (-17), 3) := by decide +kernel
theorem dX7_placeOfRow_0 : decode cX7_placeOfRow 0 = .ok (.iload_n 1, 1) := by decide +kernel
theorem dX7_placeOfRow_1 : decode cX7_placeOfRow 1 = .ok (.ifCond .lt 18, 3) := by decide +kernel
theorem dX7_placeOfRow_4 : decode cX7_placeOfRow 4 = .ok (.iload_n 1, 1) := by decide +kernel
theorem dX7_placeOfRow_5 : decode cX7_placeOfRow 5 = .ok (.bipush 10, 2) := by decide +kernel
theorem dX7_placeOfRow_7 : decode cX7_placeOfRow 7 = .ok (.if_icmp .ge 12, 3) := by decide +kernel
theorem dX7_placeOfRow_10 : decode cX7_placeOfRow 10 = .ok (.aload_n 0, 1) := by decide +kernel
theorem dX7_placeOfRow_11 : decode cX7_placeOfRow 11 = .ok (.getfield 21, 3) := by decide +kernel
theorem dX7_placeOfRow_14 : decode cX7_placeOfRow 14 = .ok (.iload_n 1, 1) := by decide +kernel
theorem dX7_placeOfRow_15 : decode cX7_placeOfRow 15 = .ok (.iaload, 1) := by decide +kernel
theorem dX7_placeOfRow_16 : decode cX7_placeOfRow 16 = .ok (.goto 5, 3) := by decide +kernel
theorem dX7_placeOfRow_21 : decode cX7_placeOfRow 21 = .ok (.ireturn, 1) := by decide +kernel
theorem dX7_standsAt_0 : decode cX7_standsAt 0 = .ok (.iload_n 1, 1) := by decide +kernel
theorem dX7_standsAt_1 : decode cX7_standsAt 1 = .ok (.ifCond .lt 18, 3) := by decide +kernel
theorem dX7_standsAt_4 : decode cX7_standsAt 4 = .ok (.iload_n 1, 1) := by decide +kernel
theorem dX7_standsAt_5 : decode cX7_standsAt 5 = .ok (.bipush 100, 2) := by decide +kernel
theorem dX7_standsAt_7 : decode cX7_standsAt 7 = .ok (.if_icmp .ge 12, 3) := by decide +kernel
theorem dX7_standsAt_10 : decode cX7_standsAt 10 = .ok (.aload_n 0, 1) := by decide +kernel
theorem dX7_standsAt_11 : decode cX7_standsAt 11 = .ok (.getfield 24, 3) := by decide +kernel
theorem dX7_standsAt_14 : decode cX7_standsAt 14 = .ok (.iload_n 1, 1) := by decide +kernel
theorem dX7_standsAt_15 : decode cX7_standsAt 15 = .ok (.iaload, 1) := by decide +kernel
theorem dX7_standsAt_16 : decode cX7_standsAt 16 = .ok (.goto 5, 3) := by decide +kernel
theorem dX7_standsAt_21 : decode cX7_standsAt 21 = .ok (.ireturn, 1) := by decide +kernel
set_option maxHeartbeats 4000000 in
set_option maxRecDepth 100000 in
theorem c_isOpen (l : Launch) (dC : Nat → ClassId) (dI : Nat → Nat → Nat) (sz : Nat) (h0 : Nat) (t0 : Value) (t1 : Value) (t2 : Value) (t3 : Value) (t4 : Nat) (kt4 : ClassId) (fs : Nat → Int32) (n : Int32) (pl : Nat) (hpl : pl ≤ 92) : Met l yX7_isOpen (wq yX7_isOpen cX7_isOpen 4 (some .boolean)) ({ frames := 1, cells := 0, slots := 0, locals := 21 }) (va_Pc [.ref h0, .int n, .int (nI pl)] (pcW dC dI [(kt4, .int)] [(h0, .inr (6, [t0, t1, t2, t3, .ref t4])), (t4, .inl (kt4, 100, .inl fs))] sz)) (va_Qi (fun (r : Int32) (_ : Unit) => (r = 1 ∧ opP fs n pl) ∨ (r = 0 ∧ viP fs n pl)) (fun _ _ => True) (fun q : Nat => sz ≤ q)) 0 0 (fun q : Nat => sz ≤ q) := by
  refine Met.ofW (cc := cX7_isOpen) (maxL := 4) (ret := (some .boolean)) (by decide) rfl ?_
  intro p e s m args below meth c s₁ B hml hv
  obtain ⟨rfl, hsz, hN, hP, hK, hD0⟩ := hv
  have hx := B.exec
  have hb := B.bytes
  have hr := B.returns
  have hts0 := atoms_spec (ws := (wq yX7_isOpen cX7_isOpen 4 (some .boolean))) B.pre
  have hts : ∀ w ∈ BG, w.before _ s = true := fun w h => hts0 w (List.mem_cons_of_mem _ h)
  have hown : s.vm.findClass RX7 = some m.cls := findClass_of_methodNamed B.named
  have hlocks := B.notSynchronized
  subst hsz
  have hA : ∀ q : Nat, s.heap.size ≤ q → (fun q : Nat => s.heap.size ≤ q) q := fun _ h => h
  have hD := hD0
  have hS : va_S (fun q : Nat => s.heap.size ≤ q) s.heap s.heap [] := va_S.rf
  have hP : va_P (dC, dI) vwCl [(h0, .inr (6, [t0, t1, t2, t3, .ref t4])), (t4, .inl (kt4, 100, .inl fs))] s.heap := hP
  have hl := lv_entry ([.ref h0, .int n, .int (nI pl)]) (n := 4) (Nat.le_of_ble_eq_true rfl)
  rw [lg_entry_eq]
  generalize (lg_sl ([.ref h0, .int n, .int (nI pl)]) ++ List.replicate (4 - (lg_sl ([.ref h0, .int n, .int (nI pl)])).length) Slot.unset).toArray = ls at hl ⊢
  have hl : lv_has ls 4 [(0, .ref h0), (1, .int n), (2, .int (nI pl))] := hl
  refine lv_iconst (v := 0) hx hb dX7_isOpen_0 (by decide) ?_
  refine lv_istore_n (lv' := [(3, .int 0), (0, .ref h0), (1, .int n), (2, .int (nI pl))]) hx hb dX7_isOpen_1 rfl hl (by decide) rfl (fun ls hl => ?_)
  have key_1 : ∀ (fu : Nat) (k : Nat), (k ≤ 8) → (∀ n9, n9 < k → vioB fs n pl n9 = false) → 8 - k < fu → ∀ (H : Heap) (locs : List Loc), va_P (dC, dI) vwCl [(h0, .inr (6, [t0, t1, t2, t3, .ref t4])), (t4, .inl (kt4, 100, .inl fs))] H → va_S (fun q : Nat => s.heap.size ≤ q) s.heap H locs → ∀ (ls : Array Slot), lv_has ls 4 [(3, .int (nI k)), (0, .ref h0), (1, .int n), (2, .int (nI pl))] → W p l e (headSpec (wq yX7_isOpen cX7_isOpen 4 (some .boolean)) ({ frames := 1, cells := 0, slots := 0, locals := 21 })).room s m (([.ref h0, .int n, .int (nI pl)] : List Value)).toArray below meth c H locs 0 0 (MQ below (va_Qi (fun (r : Int32) (_ : Unit) => (r = 1 ∧ opP fs n pl) ∨ (r = 0 ∧ viP fs n pl)) (fun _ _ => True) (fun q : Nat => s.heap.size ≤ q)) (([.ref h0, .int n, .int (nI pl)] : List Value)).toArray s 0 0 (fun q : Nat => s.heap.size ≤ q)) (F0 m 2 ls []) := by
    intro fu
    induction fu with
    | zero => intro k hk hop hme; exact absurd hme (Nat.not_lt_zero _)
    | succ fu ih_2 =>
      intro k hk hop hme H locs hP hS ls hl
      refine lv_iload_n hx hb dX7_isOpen_2 rfl (lv_at hl 0 rfl) ?_
      refine lv_bipush (v := 8) hx hb dX7_isOpen_3 (by decide) ?_
      refine lv_icmp_ge (tgt := 45) hx hb dX7_isOpen_5 (by decide) (fun c_3 => ?_) (fun c_3 => ?_)
      · have b_4 := gx_ge (X := ((k : Nat) : Int)) (C := 8) (nI_toInt (by omega)) (by decide) c_3
        refine lv_iconst (v := 1) hx hb dX7_isOpen_45 (by decide) ?_
        exact W.zret (v := 1) hx hb hr (by decide) (fun t ht hW => ⟨⟨1, (), rfl, (Or.inl ⟨rfl, fun n9 h9 => hop n9 (by omega)⟩), trivial⟩, hS.F ht⟩) hS.2.2 dX7_isOpen_46
      · have b_4 := gn_ge (X := ((k : Nat) : Int)) (C := 8) (nI_toInt (by omega)) (by decide) c_3
        refine lv_iload_n hx hb dX7_isOpen_8 rfl (lv_at hl 3 rfl) ?_
        refine lv_iload_n hx hb dX7_isOpen_9 rfl (lv_at hl 0 rfl) ?_
        refine lv_iadd hx hb dX7_isOpen_10 ?_
        refine hx_top (y := (nI (pl + k))) (nI_add pl k) ?_
        refine lv_bipush (v := 100) hx hb dX7_isOpen_11 (by decide) ?_
        refine lv_icmp_ge (tgt := 45) hx hb dX7_isOpen_13 (by decide) (fun c_5 => ?_) (fun c_5 => ?_)
        · have b_6 := gx_ge (X := (((pl + k) : Nat) : Int)) (C := 100) (nI_toInt (by omega)) (by decide) c_5
          refine lv_iconst (v := 1) hx hb dX7_isOpen_45 (by decide) ?_
          exact W.zret (v := 1) hx hb hr (by decide) (fun t ht hW => ⟨⟨1, (), rfl, (Or.inl ⟨rfl, fun n9 h9 => hop n9 (by omega)⟩), trivial⟩, hS.F ht⟩) hS.2.2 dX7_isOpen_46
        · have b_6 := gn_ge (X := (((pl + k) : Nat) : Int)) (C := 100) (nI_toInt (by omega)) (by decide) c_5
          refine lv_iload_n hx hb dX7_isOpen_16 rfl (lv_at hl 0 rfl) ?_
          refine lv_iload_n hx hb dX7_isOpen_17 rfl (lv_at hl 2 rfl) ?_
          have hPc := hP.sub (ws' := []) [] rfl
          have hDc := hD.sub (ws' := []) [] (by decide) rfl
          have hKc := hK.sub (tys' := []) [] rfl
          refine va_calli (va_runSN (As := [.int (nI k), .int n]) (rest := []) ⟨hx, hb, hml, hown, hts⟩ (c_isIn l dC dI H.size (nI k) n ) ⟨va_cnB 2 hts (gN mw_2_15) rfl rfl rfl (hN (RX7, 62, yX8_isIn, RX8) (List.mem_of_getElem? (i := 11) rfl)) (hts _ mw_1_1) (by decide +kernel) ⟨Nat.le_of_ble_eq_true rfl, Nat.le_of_ble_eq_true rfl⟩, (hts _ mw_2_14), trivial⟩ ⟨pcW_blind, pcW_at hPc hKc hDc hN⟩ rfl rfl hl.1 rfl (lv_room (Nat.le_of_ble_eq_true rfl)) dX7_isOpen_18 ⟨Nat.le_of_ble_eq_true rfl, Nat.le_of_ble_eq_true rfl⟩) hS (fun q h1 h2 => absurd h2 (Nat.not_le.mpr h1)) (fun q h => hA q (Nat.le_trans hS.1 h)) (fun r_7 u t H1 locs ht hvm hw_7 hB hz1 hk1 hS => ?_)
          have hP := keepP hP hk1
          clear hz1 hk1 hB ht hvm hPc hDc hKc
          generalize H1 = H at hP hS ⊢
          rcases fx_bool hw_7 with ⟨rfl, b_8⟩ | ⟨rfl, b_8⟩
          · skip
            refine lv_if_eq (tgt := 39) hx hb dX7_isOpen_21 (by decide) (fun h => absurd h (by decide)) (fun _ => ?_)
            refine lv_aload_n hx hb dX7_isOpen_24 rfl (lv_at hl 1 rfl) ?_
            refine va_get (D := (dC, dI)) (ci := 6) (v := .ref t4) (C := RX7) (T := TX7) (N := 5) hx hb hts inB_7 hown hK hP 0 rfl rfl 4 (by decide) (hts _ mw_1_131) (fun _ h9 => h9) rfl dX7_isOpen_25 ?_
            refine lv_iload_n hx hb dX7_isOpen_28 rfl (lv_at hl 3 rfl) ?_
            refine lv_iload_n hx hb dX7_isOpen_29 rfl (lv_at hl 0 rfl) ?_
            refine lv_iadd hx hb dX7_isOpen_30 ?_
            refine hx_top (y := (nI (pl + k))) (nI_add pl k) ?_
            refine va_iald hx hb hK hP 1 0 rfl rfl (show vp_in (nI (pl + k)) 100 from vp_in_nI (by omega) (by omega)) dX7_isOpen_31 ?_
            refine hx_top (y := (fs (pl + k))) (congrArg _ (nI_clamp (by omega))) ?_
            refine lv_bipush (v := (-6)) hx hb dX7_isOpen_32 (by decide) ?_
            refine lv_icmp_eq (tgt := 39) hx hb dX7_isOpen_34 (by decide) (fun c_9 => ?_) (fun c_9 => ?_)
            · have b_10 := gx_eq (X := (Int32.toInt (fs (pl + k)))) (C := (-6)) rfl (by decide) c_9
              refine lv_iinc (v := (nI (k + 1))) (lv' := [(3, .int (nI (k + 1))), (0, .ref h0), (1, .int n), (2, .int (nI pl))]) hx hb dX7_isOpen_39 hl (k := 0) rfl (nI_add k 1) (by decide) rfl (fun ls hl => ?_)
              refine lv_goto (tgt := 2) hx hb dX7_isOpen_42 (by decide) ?_
              exact ih_2 (k + 1) (by omega) (op_free hop c_9) (by omega) _ _ hP hS ls (lv_sub hl [0, 1, 2, 3] rfl)
            · have b_10 := gn_eq (X := (Int32.toInt (fs (pl + k)))) (C := (-6)) rfl (by decide) c_9
              refine lv_iconst (v := 0) hx hb dX7_isOpen_37 (by decide) ?_
              exact W.zret (v := 0) hx hb hr (by decide) (fun t ht hW => ⟨⟨0, (), rfl, (Or.inr ⟨rfl, k, by omega, vi_at (t_yes (by omega) b_8) c_9⟩), trivial⟩, hS.F ht⟩) hS.2.2 dX7_isOpen_38
          · skip
            refine lv_if_eq (tgt := 39) hx hb dX7_isOpen_21 (by decide) (fun _ => ?_) (fun h => absurd (by decide) h)
            refine lv_iinc (v := (nI (k + 1))) (lv' := [(3, .int (nI (k + 1))), (0, .ref h0), (1, .int n), (2, .int (nI pl))]) hx hb dX7_isOpen_39 hl (k := 0) rfl (nI_add k 1) (by decide) rfl (fun ls hl => ?_)
            refine lv_goto (tgt := 2) hx hb dX7_isOpen_42 (by decide) ?_
            exact ih_2 (k + 1) (by omega) (op_no hop (t_no (by omega) b_8)) (by omega) _ _ hP hS ls (lv_sub hl [0, 1, 2, 3] rfl)
  exact key_1 ((8 - 0) + 1) 0 (by omega) (fun n9 h9 => absurd h9 (Nat.not_lt_zero n9)) (Nat.lt_succ_self _) _ _ hP hS ls (lv_sub hl [0, 1, 2, 3] rfl)
set_option maxHeartbeats 4000000 in
set_option maxRecDepth 100000 in
theorem c_least (l : Launch) (dC : Nat → ClassId) (dI : Nat → Nat → Nat) (sz : Nat) (h0 : Nat) (t0 : Value) (t1 : Value) (t2 : Value) (t3 : Value) (t4 : Nat) (kt4 : ClassId) (fs : Nat → Int32) (n : Int32)  : Met l yX7_leastPlace (wq yX7_leastPlace cX7_leastPlace 4 (some .int)) ({ frames := 2, cells := 0, slots := 0, locals := 44 }) (va_Pc [.ref h0, .int n] (pcW dC dI [(kt4, .int)] [(h0, .inr (6, [t0, t1, t2, t3, .ref t4])), (t4, .inl (kt4, 100, .inl fs))] sz)) (va_Qi (fun (r : Int32) (_ : Unit) => r = nI (lpN fs n)) (fun _ _ => True) (fun q : Nat => sz ≤ q)) 0 0 (fun q : Nat => sz ≤ q) := by
  refine Met.ofW (cc := cX7_leastPlace) (maxL := 4) (ret := (some .int)) (by decide) rfl ?_
  intro p e s m args below meth c s₁ B hml hv
  obtain ⟨rfl, hsz, hN, hP, hK, hD0⟩ := hv
  have hx := B.exec
  have hb := B.bytes
  have hr := B.returns
  have hts0 := atoms_spec (ws := (wq yX7_leastPlace cX7_leastPlace 4 (some .int))) B.pre
  have hts : ∀ w ∈ BG, w.before _ s = true := fun w h => hts0 w (List.mem_cons_of_mem _ h)
  have hown : s.vm.findClass RX7 = some m.cls := findClass_of_methodNamed B.named
  have hlocks := B.notSynchronized
  subst hsz
  have hA : ∀ q : Nat, s.heap.size ≤ q → (fun q : Nat => s.heap.size ≤ q) q := fun _ h => h
  have hD := hD0
  have hS : va_S (fun q : Nat => s.heap.size ≤ q) s.heap s.heap [] := va_S.rf
  have hP : va_P (dC, dI) vwCl [(h0, .inr (6, [t0, t1, t2, t3, .ref t4])), (t4, .inl (kt4, 100, .inl fs))] s.heap := hP
  have hl := lv_entry ([.ref h0, .int n]) (n := 4) (Nat.le_of_ble_eq_true rfl)
  rw [lg_entry_eq]
  generalize (lg_sl ([.ref h0, .int n]) ++ List.replicate (4 - (lg_sl ([.ref h0, .int n])).length) Slot.unset).toArray = ls at hl ⊢
  have hl : lv_has ls 4 [(0, .ref h0), (1, .int n)] := hl
  refine lv_bipush (v := 92) hx hb dX7_leastPlace_0 (by decide) ?_
  refine lv_istore_n (lv' := [(2, .int 92), (0, .ref h0), (1, .int n)]) hx hb dX7_leastPlace_2 rfl hl (by decide) rfl (fun ls hl => ?_)
  refine lv_iconst (v := 0) hx hb dX7_leastPlace_3 (by decide) ?_
  refine lv_istore_n (lv' := [(3, .int 0), (2, .int 92), (0, .ref h0), (1, .int n)]) hx hb dX7_leastPlace_4 rfl hl (by decide) rfl (fun ls hl => ?_)
  have key_1 : ∀ (fu : Nat) (k : Nat), (k ≤ 92) → (∀ p9, p9 < k → viP fs n p9) → 92 - k < fu → ∀ (H : Heap) (locs : List Loc), va_P (dC, dI) vwCl [(h0, .inr (6, [t0, t1, t2, t3, .ref t4])), (t4, .inl (kt4, 100, .inl fs))] H → va_S (fun q : Nat => s.heap.size ≤ q) s.heap H locs → ∀ (ls : Array Slot), lv_has ls 4 [(3, .int (nI k)), (2, .int 92), (0, .ref h0), (1, .int n)] → W p l e (headSpec (wq yX7_leastPlace cX7_leastPlace 4 (some .int)) ({ frames := 2, cells := 0, slots := 0, locals := 44 })).room s m (([.ref h0, .int n] : List Value)).toArray below meth c H locs 0 0 (MQ below (va_Qi (fun (r : Int32) (_ : Unit) => r = nI (lpN fs n)) (fun _ _ => True) (fun q : Nat => s.heap.size ≤ q)) (([.ref h0, .int n] : List Value)).toArray s 0 0 (fun q : Nat => s.heap.size ≤ q)) (F0 m 5 ls []) := by
    intro fu
    induction fu with
    | zero => intro k hk hal hme; exact absurd hme (Nat.not_lt_zero _)
    | succ fu ih_2 =>
      intro k hk hal hme H locs hP hS ls hl
      refine lv_iload_n hx hb dX7_leastPlace_5 rfl (lv_at hl 0 rfl) ?_
      refine lv_iload_n hx hb dX7_leastPlace_6 rfl (lv_at hl 1 rfl) ?_
      refine lv_icmp_ge (tgt := 27) hx hb dX7_leastPlace_7 (by decide) (fun c_3 => ?_) (fun c_3 => ?_)
      · have b_4 := gx_ge (X := ((k : Nat) : Int)) (C := 92) (nI_toInt (by omega)) (by decide) c_3
        refine lv_iload_n hx hb dX7_leastPlace_27 rfl (lv_at hl 1 rfl) ?_
        exact W.iret (v := 92) hx hb hr (fun t ht hW => ⟨⟨92, (), rfl, (show (92 : Int32) = nI (lpN fs n) from congrArg nI (lp_uni (q := 92) ⟨by omega, fun q => absurd q (by omega), fun p9 h9 => hal p9 (by omega)⟩)), trivial⟩, hS.F ht⟩) hS.2.2 dX7_leastPlace_28
      · have b_4 := gn_ge (X := ((k : Nat) : Int)) (C := 92) (nI_toInt (by omega)) (by decide) c_3
        refine lv_aload_n hx hb dX7_leastPlace_10 rfl (lv_at hl 2 rfl) ?_
        refine lv_iload_n hx hb dX7_leastPlace_11 rfl (lv_at hl 3 rfl) ?_
        refine lv_iload_n hx hb dX7_leastPlace_12 rfl (lv_at hl 0 rfl) ?_
        have hPc := hP.sub (ws' := [(h0, .inr (6, [t0, t1, t2, t3, .ref t4])), (t4, .inl (kt4, 100, .inl fs))]) [0, 1] rfl
        have hDc := hD.sub (ws' := [(h0, .inr (6, [t0, t1, t2, t3, .ref t4])), (t4, .inl (kt4, 100, .inl fs))]) [0, 1] (by decide) rfl
        have hKc := hK.sub (tys' := [(kt4, .int)]) [0] rfl
        refine va_calli (va_runV (As := [.int n, .int (nI k)]) (rest := []) ⟨hx, hb, hml, hown, hts⟩ (c_isOpen l dC dI H.size h0 (t0) (t1) (t2) (t3) t4 kt4 fs n k hk) (cwV 2 hts (gV mw_3_56 mw_3_58 mw_0_11 mw_1_7 mw_3_59) rfl rfl rfl (by decide +kernel) ⟨Nat.le_of_ble_eq_true rfl, Nat.le_of_ble_eq_true rfl⟩) ⟨pcW_blind, va_recv hKc hPc (ci := 6) (q0 := 0) rfl rfl, pcW_at hPc hKc hDc hN⟩ rfl rfl hl.1 rfl (lv_room (Nat.le_of_ble_eq_true rfl)) dX7_leastPlace_13 ⟨Nat.le_of_ble_eq_true rfl, Nat.le_of_ble_eq_true rfl⟩) hS (fun q h1 h2 => absurd h2 (Nat.not_le.mpr h1)) (fun q h => hA q (Nat.le_trans hS.1 h)) (fun r_5 u t H1 locs ht hvm hw_5 hB hz1 hk1 hS => ?_)
        have hP := keepP hP hk1
        clear hz1 hk1 hB ht hvm hPc hDc hKc
        generalize H1 = H at hP hS ⊢
        rcases hw_5 with ⟨rfl, p_6⟩ | ⟨rfl, p_6⟩
        · skip
          refine lv_if_eq (tgt := 21) hx hb dX7_leastPlace_16 (by decide) (fun h => absurd h (by decide)) (fun _ => ?_)
          refine lv_iload_n hx hb dX7_leastPlace_19 rfl (lv_at hl 0 rfl) ?_
          exact W.iret (v := (nI k)) hx hb hr (fun t ht hW => ⟨⟨(nI k), (), rfl, (congrArg nI (lp_uni ⟨by omega, fun _ => p_6, hal⟩)), trivial⟩, hS.F ht⟩) hS.2.2 dX7_leastPlace_20
        · skip
          refine lv_if_eq (tgt := 21) hx hb dX7_leastPlace_16 (by decide) (fun _ => ?_) (fun h => absurd (by decide) h)
          refine lv_iinc (v := (nI (k + 1))) (lv' := [(3, .int (nI (k + 1))), (2, .int 92), (0, .ref h0), (1, .int n)]) hx hb dX7_leastPlace_21 hl (k := 0) rfl (nI_add k 1) (by decide) rfl (fun ls hl => ?_)
          refine lv_goto (tgt := 5) hx hb dX7_leastPlace_24 (by decide) ?_
          exact ih_2 (k + 1) (by omega) (al_step hal p_6) (by omega) _ _ hP hS ls (lv_sub hl [0, 1, 2, 3] rfl)
  exact key_1 ((92 - 0) + 1) 0 (by omega) (fun p9 h9 => absurd h9 (Nat.not_lt_zero p9)) (Nat.lt_succ_self _) _ _ hP hS ls (lv_sub hl [0, 1, 2, 3] rfl)
set_option maxHeartbeats 4000000 in
set_option maxRecDepth 100000 in
theorem c_pushRow (l : Launch) (dC : Nat → ClassId) (dI : Nat → Nat → Nat) (sz : Nat) (h0 : Nat) (t0 : Nat) (t1 : Value) (t2 : Value) (t3 : Nat) (t4 : Nat) (kt0 : ClassId) (fr : Nat → Int32) (kt3 : ClassId) (fp : Nat → Int32) (kt4 : ClassId) (fs : Nat → Int32) (kd : Nat) (hkd : kd < 10) : Met l yX7_pushRow (wq yX7_pushRow cX7_pushRow 5 (some .int)) ({ frames := 3, cells := 0, slots := 0, locals := 67 }) (va_Pc [.ref h0, .int (nI kd)] (pcW dC dI [(kt0, .int), (kt3, .int), (kt4, .int)] [(h0, .inr (6, [.ref t0, t1, t2, .ref t3, .ref t4])), (t0, .inl (kt0, 10, .inl fr)), (t3, .inl (kt3, 10, .inl fp)), (t4, .inl (kt4, 100, .inl fs))] sz)) (va_Qi (fun (r : Int32) (_ : Unit) => r = nI (enF (fr kd) (lpN fs (fr kd)) 8)) (fun _ t => ∃ (fp2 : Nat → Int32) (fs2 : Nat → Int32), (fp2 = upd fp kd (nI (lpN fs (fr kd)))) ∧ (fs2 = psK fs (fr kd) (lpN fs (fr kd)) kd 8) ∧ va_P (dC, dI) vwCl [(h0, .inr (6, [.ref t0, t1, t2, .ref t3, .ref t4])), (t0, .inl (kt0, 10, .inl fr)), (t3, .inl (kt3, 10, .inl fp2)), (t4, .inl (kt4, 100, .inl fs2))] t.heap ∧ va_K (dC, dI) vwCl [(kt0, .int), (kt3, .int), (kt4, .int)] t ∧ va_D (va_A [(h0, .inr (6, [.ref t0, t1, t2, .ref t3, .ref t4])), (t0, .inl (kt0, 10, .inl fr)), (t3, .inl (kt3, 10, .inl fp)), (t4, .inl (kt4, 100, .inl fs))] sz) [(h0, .inr (6, [.ref t0, t1, t2, .ref t3, .ref t4])), (t0, .inl (kt0, 10, .inl fr)), (t3, .inl (kt3, 10, .inl fp2)), (t4, .inl (kt4, 100, .inl fs2))]) (va_A [(h0, .inr (6, [.ref t0, t1, t2, .ref t3, .ref t4])), (t0, .inl (kt0, 10, .inl fr)), (t3, .inl (kt3, 10, .inl fp)), (t4, .inl (kt4, 100, .inl fs))] sz)) 0 0 (va_A [(h0, .inr (6, [.ref t0, t1, t2, .ref t3, .ref t4])), (t0, .inl (kt0, 10, .inl fr)), (t3, .inl (kt3, 10, .inl fp)), (t4, .inl (kt4, 100, .inl fs))] sz) := by
  refine Met.ofW (cc := cX7_pushRow) (maxL := 5) (ret := (some .int)) (by decide) rfl ?_
  intro p e s m args below meth c s₁ B hml hv
  obtain ⟨rfl, hsz, hN, hP, hK, hD0⟩ := hv
  have hx := B.exec
  have hb := B.bytes
  have hr := B.returns
  have hts0 := atoms_spec (ws := (wq yX7_pushRow cX7_pushRow 5 (some .int))) B.pre
  have hts : ∀ w ∈ BG, w.before _ s = true := fun w h => hts0 w (List.mem_cons_of_mem _ h)
  have hown : s.vm.findClass RX7 = some m.cls := findClass_of_methodNamed B.named
  have hlocks := B.notSynchronized
  subst hsz
  have hD := hD0.self (sz := s.heap.size)
  generalize hAe : va_A [(h0, .inr (6, [.ref t0, t1, t2, .ref t3, .ref t4])), (t0, .inl (kt0, 10, .inl fr)), (t3, .inl (kt3, 10, .inl fp)), (t4, .inl (kt4, 100, .inl fs))] s.heap.size = A at hD ⊢
  have hA : ∀ q : Nat, s.heap.size ≤ q → A q := fun q h => by rw [← hAe]; exact Or.inr h
  have hS : va_S A s.heap s.heap [] := va_S.rf
  clear hAe hD0
  have hP : va_P (dC, dI) vwCl [(h0, .inr (6, [.ref t0, t1, t2, .ref t3, .ref t4])), (t0, .inl (kt0, 10, .inl fr)), (t3, .inl (kt3, 10, .inl fp)), (t4, .inl (kt4, 100, .inl fs))] s.heap := hP
  have hl := lv_entry ([.ref h0, .int (nI kd)]) (n := 5) (Nat.le_of_ble_eq_true rfl)
  rw [lg_entry_eq]
  generalize (lg_sl ([.ref h0, .int (nI kd)]) ++ List.replicate (5 - (lg_sl ([.ref h0, .int (nI kd)])).length) Slot.unset).toArray = ls at hl ⊢
  have hl : lv_has ls 5 [(0, .ref h0), (1, .int (nI kd))] := hl
  refine lv_iconst (v := 0) hx hb dX7_pushRow_0 (by decide) ?_
  refine lv_istore_n (lv' := [(2, .int 0), (0, .ref h0), (1, .int (nI kd))]) hx hb dX7_pushRow_1 rfl hl (by decide) rfl (fun ls hl => ?_)
  refine lv_aload_n hx hb dX7_pushRow_2 rfl (lv_at hl 1 rfl) ?_
  refine lv_aload_n hx hb dX7_pushRow_3 rfl (lv_at hl 1 rfl) ?_
  refine va_get (D := (dC, dI)) (ci := 6) (v := .ref t0) (C := RX7) (T := TX7) (N := 5) hx hb hts inB_7 hown hK hP 0 rfl rfl 0 (by decide) (hts _ mw_1_127) (fun _ h9 => h9) rfl dX7_pushRow_4 ?_
  refine lv_iload_n hx hb dX7_pushRow_7 rfl (lv_at hl 2 rfl) ?_
  refine va_iald hx hb hK hP 1 0 rfl rfl (show vp_in (nI kd) 10 from vp_in_nI (by omega) (by omega)) dX7_pushRow_8 ?_
  refine hx_top (y := (fr kd)) (congrArg _ (nI_clamp (by omega))) ?_
  have hPc := hP.sub (ws' := [(h0, .inr (6, [.ref t0, t1, t2, .ref t3, .ref t4])), (t4, .inl (kt4, 100, .inl fs))]) [0, 3] rfl
  have hDc := hD.sub (ws' := [(h0, .inr (6, [.ref t0, t1, t2, .ref t3, .ref t4])), (t4, .inl (kt4, 100, .inl fs))]) [0, 3] (by decide) rfl
  have hKc := hK.sub (tys' := [(kt4, .int)]) [2] rfl
  refine va_calli (va_runV (As := [.int (fr kd)]) (rest := []) ⟨hx, hb, hml, hown, hts⟩ (c_least l dC dI s.heap.size h0 (.ref t0) (t1) (t2) (.ref t3) t4 kt4 fs (fr kd) ) (cwV 1 hts (gV mw_3_52 mw_3_54 mw_0_10 mw_1_7 mw_3_55) rfl rfl rfl (by decide +kernel) ⟨Nat.le_of_ble_eq_true rfl, Nat.le_of_ble_eq_true rfl⟩) ⟨pcW_blind, va_recv hKc hPc (ci := 6) (q0 := 0) rfl rfl, pcW_at hPc hKc hDc hN⟩ rfl rfl hl.1 rfl (lv_room (Nat.le_of_ble_eq_true rfl)) dX7_pushRow_9 ⟨Nat.le_of_ble_eq_true rfl, Nat.le_of_ble_eq_true rfl⟩) hS (fun q h1 h2 => absurd h2 (Nat.not_le.mpr h1)) (fun q h => hA q (Nat.le_trans hS.1 h)) (fun r_1 u t H1 locs ht hvm hw_1 hB hz1 hk1 hS => ?_)
  have hP := keepP hP hk1
  clear hz1 hk1 hB ht hvm hPc hDc hKc
  generalize H1 = H at hP hS ⊢
  obtain rfl : r_1 = nI (lpN fs (fr kd)) := hw_1
  have b_2 := (lp_is.1 : lpN fs (fr kd) ≤ 92)
  refine lv_istore_n (lv' := [(3, .int (nI (lpN fs (fr kd)))), (2, .int 0), (0, .ref h0), (1, .int (nI kd))]) hx hb dX7_pushRow_12 rfl hl (by decide) rfl (fun ls hl => ?_)
  refine lv_aload_n hx hb dX7_pushRow_13 rfl (lv_at hl 2 rfl) ?_
  refine va_get (D := (dC, dI)) (ci := 6) (v := .ref t3) (C := RX7) (T := TX7) (N := 5) hx hb hts inB_7 hown hK hP 0 rfl rfl 3 (by decide) (hts _ mw_1_130) (fun _ h9 => h9) rfl dX7_pushRow_14 ?_
  refine lv_iload_n hx hb dX7_pushRow_17 rfl (lv_at hl 3 rfl) ?_
  refine lv_iload_n hx hb dX7_pushRow_18 rfl (lv_at hl 0 rfl) ?_
  refine va_iast hx hb hK hP hD hS 2 1 rfl rfl (show vp_in (nI kd) 10 from vp_in_nI (by omega) (by omega)) dX7_pushRow_19 (fun H locs hP hD hS => ?_)
  obtain ⟨f_3, ef_3⟩ : ∃ g : Nat → Int32, g = upd fp (Int32.toNatClampNeg (nI kd)) (nI (lpN fs (fr kd))) := ⟨_, rfl⟩
  rw [← ef_3] at hP hD
  have ef_3 : f_3 = upd fp kd (nI (lpN fs (fr kd))) := by rw [ef_3, nI_clamp (by omega)]
  have hP : va_P (dC, dI) vwCl [(h0, .inr (6, [.ref t0, t1, t2, .ref t3, .ref t4])), (t0, .inl (kt0, 10, .inl fr)), (t3, .inl (kt3, 10, .inl f_3)), (t4, .inl (kt4, 100, .inl fs))] H := hP
  have hD : va_D A [(h0, .inr (6, [.ref t0, t1, t2, .ref t3, .ref t4])), (t0, .inl (kt0, 10, .inl fr)), (t3, .inl (kt3, 10, .inl f_3)), (t4, .inl (kt4, 100, .inl fs))] := hD
  refine lv_iconst (v := 0) hx hb dX7_pushRow_20 (by decide) ?_
  refine lv_istore (lv' := [(4, .int 0), (3, .int (nI (lpN fs (fr kd)))), (2, .int 0), (0, .ref h0), (1, .int (nI kd))]) hx hb dX7_pushRow_21 hl (by decide) rfl (fun ls hl => ?_)
  have key_4 : ∀ (fu : Nat) (k : Nat) (ec : Nat) (fsx : Nat → Int32), (k ≤ 8) → (ec = enF (fr kd) (lpN fs (fr kd)) k) → (fsx = psK fs (fr kd) (lpN fs (fr kd)) kd k) → 8 - k < fu → ∀ (H : Heap) (locs : List Loc), va_P (dC, dI) vwCl [(h0, .inr (6, [.ref t0, t1, t2, .ref t3, .ref t4])), (t0, .inl (kt0, 10, .inl fr)), (t3, .inl (kt3, 10, .inl f_3)), (t4, .inl (kt4, 100, .inl fsx))] H → va_D A [(h0, .inr (6, [.ref t0, t1, t2, .ref t3, .ref t4])), (t0, .inl (kt0, 10, .inl fr)), (t3, .inl (kt3, 10, .inl f_3)), (t4, .inl (kt4, 100, .inl fsx))] → va_S A s.heap H locs → ∀ (ls : Array Slot), lv_has ls 5 [(4, .int (nI k)), (3, .int (nI (lpN fs (fr kd)))), (2, .int (nI ec)), (0, .ref h0), (1, .int (nI kd))] → W p l e (headSpec (wq yX7_pushRow cX7_pushRow 5 (some .int)) ({ frames := 3, cells := 0, slots := 0, locals := 67 })).room s m (([.ref h0, .int (nI kd)] : List Value)).toArray below meth c H locs 0 0 (MQ below (va_Qi (fun (r : Int32) (_ : Unit) => r = nI (enF (fr kd) (lpN fs (fr kd)) 8)) (fun _ t => ∃ (fp2 : Nat → Int32) (fs2 : Nat → Int32), (fp2 = upd fp kd (nI (lpN fs (fr kd)))) ∧ (fs2 = psK fs (fr kd) (lpN fs (fr kd)) kd 8) ∧ va_P (dC, dI) vwCl [(h0, .inr (6, [.ref t0, t1, t2, .ref t3, .ref t4])), (t0, .inl (kt0, 10, .inl fr)), (t3, .inl (kt3, 10, .inl fp2)), (t4, .inl (kt4, 100, .inl fs2))] t.heap ∧ va_K (dC, dI) vwCl [(kt0, .int), (kt3, .int), (kt4, .int)] t ∧ va_D A [(h0, .inr (6, [.ref t0, t1, t2, .ref t3, .ref t4])), (t0, .inl (kt0, 10, .inl fr)), (t3, .inl (kt3, 10, .inl fp2)), (t4, .inl (kt4, 100, .inl fs2))]) A) (([.ref h0, .int (nI kd)] : List Value)).toArray s 0 0 A) (F0 m 23 ls []) := by
    intro fu
    induction fu with
    | zero => intro k ec fsx hk hen hps hme; exact absurd hme (Nat.not_lt_zero _)
    | succ fu ih_5 =>
      intro k ec fsx hk hen hps hme H locs hP hD hS ls hl
      refine lv_iload hx hb dX7_pushRow_23 (lv_at hl 0 rfl) ?_
      refine lv_bipush (v := 8) hx hb dX7_pushRow_25 (by decide) ?_
      refine lv_icmp_ge (tgt := 85) hx hb dX7_pushRow_27 (by decide) (fun c_6 => ?_) (fun c_6 => ?_)
      · have b_7 := gx_ge (X := ((k : Nat) : Int)) (C := 8) (nI_toInt (by omega)) (by decide) c_6
        refine lv_iload_n hx hb dX7_pushRow_85 rfl (lv_at hl 2 rfl) ?_
        have hP9 := hP.sub (ws' := [(h0, .inr (6, [.ref t0, t1, t2, .ref t3, .ref t4])), (t0, .inl (kt0, 10, .inl fr)), (t3, .inl (kt3, 10, .inl f_3)), (t4, .inl (kt4, 100, .inl fsx))]) [0, 1, 2, 3] rfl
        have hD9 := hD.sub (ws' := [(h0, .inr (6, [.ref t0, t1, t2, .ref t3, .ref t4])), (t0, .inl (kt0, 10, .inl fr)), (t3, .inl (kt3, 10, .inl f_3)), (t4, .inl (kt4, 100, .inl fsx))]) [0, 1, 2, 3] (by decide) rfl
        have hK9 := hK.sub (tys' := [(kt0, .int), (kt3, .int), (kt4, .int)]) [0, 1, 2] rfl
        exact W.iret (v := (nI ec)) hx hb hr (fun t ht hW => ⟨⟨(nI ec), (), rfl, (congrArg nI (by rw [hen, show k = 8 from (by omega)])), f_3, fsx, ef_3, (by rw [hps, show k = 8 from (by omega)]), by rw [ht]; exact hP9, va_K.moved hW.alike hK9, hD9⟩, hS.F ht⟩) hS.2.2 dX7_pushRow_86
      · have b_7 := gn_ge (X := ((k : Nat) : Int)) (C := 8) (nI_toInt (by omega)) (by decide) c_6
        refine lv_iload_n hx hb dX7_pushRow_30 rfl (lv_at hl 1 rfl) ?_
        refine lv_iload hx hb dX7_pushRow_31 (lv_at hl 0 rfl) ?_
        refine lv_iadd hx hb dX7_pushRow_33 ?_
        refine hx_top (y := (nI (lpN fs (fr kd) + k))) (nI_add (lpN fs (fr kd)) k) ?_
        refine lv_bipush (v := 100) hx hb dX7_pushRow_34 (by decide) ?_
        refine lv_icmp_ge (tgt := 85) hx hb dX7_pushRow_36 (by decide) (fun c_8 => ?_) (fun c_8 => ?_)
        · have b_9 := gx_ge (X := (((lpN fs (fr kd) + k) : Nat) : Int)) (C := 100) (nI_toInt (by omega)) (by decide) c_8
          refine lv_iload_n hx hb dX7_pushRow_85 rfl (lv_at hl 2 rfl) ?_
          have hP9 := hP.sub (ws' := [(h0, .inr (6, [.ref t0, t1, t2, .ref t3, .ref t4])), (t0, .inl (kt0, 10, .inl fr)), (t3, .inl (kt3, 10, .inl f_3)), (t4, .inl (kt4, 100, .inl fsx))]) [0, 1, 2, 3] rfl
          have hD9 := hD.sub (ws' := [(h0, .inr (6, [.ref t0, t1, t2, .ref t3, .ref t4])), (t0, .inl (kt0, 10, .inl fr)), (t3, .inl (kt3, 10, .inl f_3)), (t4, .inl (kt4, 100, .inl fsx))]) [0, 1, 2, 3] (by decide) rfl
          have hK9 := hK.sub (tys' := [(kt0, .int), (kt3, .int), (kt4, .int)]) [0, 1, 2] rfl
          exact W.iret (v := (nI ec)) hx hb hr (fun t ht hW => ⟨⟨(nI ec), (), rfl, (congrArg nI (by rw [hen, show k = 8 from (by omega)])), f_3, fsx, ef_3, (by rw [hps, show k = 8 from (by omega)]), by rw [ht]; exact hP9, va_K.moved hW.alike hK9, hD9⟩, hS.F ht⟩) hS.2.2 dX7_pushRow_86
        · have b_9 := gn_ge (X := (((lpN fs (fr kd) + k) : Nat) : Int)) (C := 100) (nI_toInt (by omega)) (by decide) c_8
          refine lv_iload hx hb dX7_pushRow_39 (lv_at hl 0 rfl) ?_
          refine lv_aload_n hx hb dX7_pushRow_41 rfl (lv_at hl 3 rfl) ?_
          refine va_get (D := (dC, dI)) (ci := 6) (v := .ref t0) (C := RX7) (T := TX7) (N := 5) hx hb hts inB_7 hown hK hP 0 rfl rfl 0 (by decide) (hts _ mw_1_127) (fun _ h9 => h9) rfl dX7_pushRow_42 ?_
          refine lv_iload_n hx hb dX7_pushRow_45 rfl (lv_at hl 4 rfl) ?_
          refine va_iald hx hb hK hP 1 0 rfl rfl (show vp_in (nI kd) 10 from vp_in_nI (by omega) (by omega)) dX7_pushRow_46 ?_
          refine hx_top (y := (fr kd)) (congrArg _ (nI_clamp (by omega))) ?_
          have hPc := hP.sub (ws' := []) [] rfl
          have hDc := hD.sub (ws' := []) [] (by decide) rfl
          have hKc := hK.sub (tys' := []) [] rfl
          refine va_calli (va_runSN (As := [.int (nI k), .int (fr kd)]) (rest := []) ⟨hx, hb, hml, hown, hts⟩ (c_isIn l dC dI H.size (nI k) (fr kd) ) ⟨va_cnB 2 hts (gN mw_2_15) rfl rfl rfl (hN (RX7, 62, yX8_isIn, RX8) (List.mem_of_getElem? (i := 11) rfl)) (hts _ mw_1_1) (by decide +kernel) ⟨Nat.le_of_ble_eq_true rfl, Nat.le_of_ble_eq_true rfl⟩, (hts _ mw_2_14), trivial⟩ ⟨pcW_blind, pcW_at hPc hKc hDc hN⟩ rfl rfl hl.1 rfl (lv_room (Nat.le_of_ble_eq_true rfl)) dX7_pushRow_47 ⟨Nat.le_of_ble_eq_true rfl, Nat.le_of_ble_eq_true rfl⟩) hS (fun q h1 h2 => absurd h2 (Nat.not_le.mpr h1)) (fun q h => hA q (Nat.le_trans hS.1 h)) (fun r_10 u t H1 locs ht hvm hw_10 hB hz1 hk1 hS => ?_)
          have hP := keepP hP hk1
          clear hz1 hk1 hB ht hvm hPc hDc hKc
          generalize H1 = H at hP hS ⊢
          rcases fx_bool hw_10 with ⟨rfl, b_11⟩ | ⟨rfl, b_11⟩
          · skip
            refine lv_if_ne (tgt := 56) hx hb dX7_pushRow_50 (by decide) (fun _ => ?_) (fun h => absurd h (by decide))
            refine lv_aload_n hx hb dX7_pushRow_56 rfl (lv_at hl 3 rfl) ?_
            refine va_get (D := (dC, dI)) (ci := 6) (v := .ref t4) (C := RX7) (T := TX7) (N := 5) hx hb hts inB_7 hown hK hP 0 rfl rfl 4 (by decide) (hts _ mw_1_131) (fun _ h9 => h9) rfl dX7_pushRow_57 ?_
            refine lv_iload_n hx hb dX7_pushRow_60 rfl (lv_at hl 1 rfl) ?_
            refine lv_iload hx hb dX7_pushRow_61 (lv_at hl 0 rfl) ?_
            refine lv_iadd hx hb dX7_pushRow_63 ?_
            refine hx_top (y := (nI (lpN fs (fr kd) + k))) (nI_add (lpN fs (fr kd)) k) ?_
            refine lv_bipush (v := 10) hx hb dX7_pushRow_64 (by decide) ?_
            refine lv_iload_n hx hb dX7_pushRow_66 rfl (lv_at hl 4 rfl) ?_
            refine lv_imul hx hb dX7_pushRow_67 ?_
            refine hx_top (y := (nI (10 * kd))) (pk_mul 10 kd) ?_
            refine lv_iload hx hb dX7_pushRow_68 (lv_at hl 0 rfl) ?_
            refine lv_iadd hx hb dX7_pushRow_70 ?_
            refine hx_top (y := (nI ((10 * kd) + k))) (nI_add (10 * kd) k) ?_
            refine va_iast hx hb hK hP hD hS 3 2 rfl rfl (show vp_in (nI (lpN fs (fr kd) + k)) 100 from vp_in_nI (by omega) (by omega)) dX7_pushRow_71 (fun H locs hP hD hS => ?_)
            obtain ⟨f_12, ef_12⟩ : ∃ g : Nat → Int32, g = upd fsx (Int32.toNatClampNeg (nI (lpN fs (fr kd) + k))) (nI ((10 * kd) + k)) := ⟨_, rfl⟩
            rw [← ef_12] at hP hD
            have ef_12 : f_12 = upd fsx (lpN fs (fr kd) + k) (nI ((10 * kd) + k)) := by rw [ef_12, nI_clamp (by omega)]
            have hP : va_P (dC, dI) vwCl [(h0, .inr (6, [.ref t0, t1, t2, .ref t3, .ref t4])), (t0, .inl (kt0, 10, .inl fr)), (t3, .inl (kt3, 10, .inl f_3)), (t4, .inl (kt4, 100, .inl f_12))] H := hP
            have hD : va_D A [(h0, .inr (6, [.ref t0, t1, t2, .ref t3, .ref t4])), (t0, .inl (kt0, 10, .inl fr)), (t3, .inl (kt3, 10, .inl f_3)), (t4, .inl (kt4, 100, .inl f_12))] := hD
            refine lv_iload_n hx hb dX7_pushRow_72 rfl (lv_at hl 1 rfl) ?_
            refine lv_iload hx hb dX7_pushRow_73 (lv_at hl 0 rfl) ?_
            refine lv_iadd hx hb dX7_pushRow_75 ?_
            refine hx_top (y := (nI (lpN fs (fr kd) + k))) (nI_add (lpN fs (fr kd)) k) ?_
            refine lv_iconst (v := 1) hx hb dX7_pushRow_76 (by decide) ?_
            refine lv_iadd hx hb dX7_pushRow_77 ?_
            refine hx_top (y := (nI ((lpN fs (fr kd) + k) + 1))) (nI_add (lpN fs (fr kd) + k) 1) ?_
            refine lv_istore_n (lv' := [(2, .int (nI ((lpN fs (fr kd) + k) + 1))), (4, .int (nI k)), (3, .int (nI (lpN fs (fr kd)))), (0, .ref h0), (1, .int (nI kd))]) hx hb dX7_pushRow_78 rfl hl (by decide) rfl (fun ls hl => ?_)
            refine lv_iinc (v := (nI (k + 1))) (lv' := [(4, .int (nI (k + 1))), (2, .int (nI ((lpN fs (fr kd) + k) + 1))), (3, .int (nI (lpN fs (fr kd)))), (0, .ref h0), (1, .int (nI kd))]) hx hb dX7_pushRow_79 hl (k := 1) rfl (nI_add k 1) (by decide) rfl (fun ls hl => ?_)
            refine lv_goto (tgt := 23) hx hb dX7_pushRow_82 (by decide) ?_
            exact ih_5 (k + 1) ((lpN fs (fr kd) + k) + 1) f_12 (by omega) (en_t (t_yes (by omega) b_11)) (ps_yes hps (t_yes (by omega) b_11) ef_12) (by omega) _ _ hP hD hS ls (lv_sub hl [0, 2, 1, 3, 4] rfl)
          · skip
            refine lv_if_ne (tgt := 56) hx hb dX7_pushRow_50 (by decide) (fun h => absurd h (by decide)) (fun _ => ?_)
            refine lv_goto (tgt := 79) hx hb dX7_pushRow_53 (by decide) ?_
            refine lv_iinc (v := (nI (k + 1))) (lv' := [(4, .int (nI (k + 1))), (3, .int (nI (lpN fs (fr kd)))), (2, .int (nI ec)), (0, .ref h0), (1, .int (nI kd))]) hx hb dX7_pushRow_79 hl (k := 0) rfl (nI_add k 1) (by decide) rfl (fun ls hl => ?_)
            refine lv_goto (tgt := 23) hx hb dX7_pushRow_82 (by decide) ?_
            exact ih_5 (k + 1) ec fsx (by omega) (en_f hen (t_no (by omega) b_11)) (ps_no hps (t_no (by omega) b_11)) (by omega) _ _ hP hD hS ls (lv_sub hl [0, 1, 2, 3, 4] rfl)
  exact key_4 ((8 - 0) + 1) 0 0 fs (by omega) rfl ps_0 (Nat.lt_succ_self _) _ _ hP hD hS ls (lv_sub hl [0, 1, 2, 3, 4] rfl)
set_option maxHeartbeats 4000000 in
set_option maxRecDepth 100000 in
theorem c_push (l : Launch) (dC : Nat → ClassId) (dI : Nat → Nat → Nat) (sz : Nat) (h0 : Nat) (t0 : Nat) (t1 : Value) (t2 : Value) (t3 : Nat) (t4 : Nat) (kt0 : ClassId) (fr : Nat → Int32) (kt3 : ClassId) (fp : Nat → Int32) (kt4 : ClassId) (fs : Nat → Int32)  : Met l yX7_push (wq yX7_push cX7_push 3 (some .int)) ({ frames := 4, cells := 0, slots := 0, locals := 91 }) (va_Pc [.ref h0] (pcW dC dI [(kt0, .int), (kt3, .int), (kt4, .int)] [(h0, .inr (6, [.ref t0, t1, t2, .ref t3, .ref t4])), (t0, .inl (kt0, 10, .inl fr)), (t3, .inl (kt3, 10, .inl fp)), (t4, .inl (kt4, 100, .inl fs))] sz)) (va_Qi (fun (r : Int32) (_ : Unit) => r = nI ((pkF (fiK fs 100) fp fr 10).2.2)) (fun _ t => ∃ (fp2 : Nat → Int32) (fs2 : Nat → Int32), (fp2 = (pkF (fiK fs 100) fp fr 10).2.1) ∧ (fs2 = (pkF (fiK fs 100) fp fr 10).1) ∧ va_P (dC, dI) vwCl [(h0, .inr (6, [.ref t0, t1, t2, .ref t3, .ref t4])), (t0, .inl (kt0, 10, .inl fr)), (t3, .inl (kt3, 10, .inl fp2)), (t4, .inl (kt4, 100, .inl fs2))] t.heap ∧ va_K (dC, dI) vwCl [(kt0, .int), (kt3, .int), (kt4, .int)] t ∧ va_D (va_A [(h0, .inr (6, [.ref t0, t1, t2, .ref t3, .ref t4])), (t0, .inl (kt0, 10, .inl fr)), (t3, .inl (kt3, 10, .inl fp)), (t4, .inl (kt4, 100, .inl fs))] sz) [(h0, .inr (6, [.ref t0, t1, t2, .ref t3, .ref t4])), (t0, .inl (kt0, 10, .inl fr)), (t3, .inl (kt3, 10, .inl fp2)), (t4, .inl (kt4, 100, .inl fs2))]) (va_A [(h0, .inr (6, [.ref t0, t1, t2, .ref t3, .ref t4])), (t0, .inl (kt0, 10, .inl fr)), (t3, .inl (kt3, 10, .inl fp)), (t4, .inl (kt4, 100, .inl fs))] sz)) 0 0 (va_A [(h0, .inr (6, [.ref t0, t1, t2, .ref t3, .ref t4])), (t0, .inl (kt0, 10, .inl fr)), (t3, .inl (kt3, 10, .inl fp)), (t4, .inl (kt4, 100, .inl fs))] sz) := by
  refine Met.ofW (cc := cX7_push) (maxL := 3) (ret := (some .int)) (by decide) rfl ?_
  intro p e s m args below meth c s₁ B hml hv
  obtain ⟨rfl, hsz, hN, hP, hK, hD0⟩ := hv
  have hx := B.exec
  have hb := B.bytes
  have hr := B.returns
  have hts0 := atoms_spec (ws := (wq yX7_push cX7_push 3 (some .int))) B.pre
  have hts : ∀ w ∈ BG, w.before _ s = true := fun w h => hts0 w (List.mem_cons_of_mem _ h)
  have hown : s.vm.findClass RX7 = some m.cls := findClass_of_methodNamed B.named
  have hlocks := B.notSynchronized
  subst hsz
  have hD := hD0.self (sz := s.heap.size)
  generalize hAe : va_A [(h0, .inr (6, [.ref t0, t1, t2, .ref t3, .ref t4])), (t0, .inl (kt0, 10, .inl fr)), (t3, .inl (kt3, 10, .inl fp)), (t4, .inl (kt4, 100, .inl fs))] s.heap.size = A at hD ⊢
  have hA : ∀ q : Nat, s.heap.size ≤ q → A q := fun q h => by rw [← hAe]; exact Or.inr h
  have hS : va_S A s.heap s.heap [] := va_S.rf
  clear hAe hD0
  have hP : va_P (dC, dI) vwCl [(h0, .inr (6, [.ref t0, t1, t2, .ref t3, .ref t4])), (t0, .inl (kt0, 10, .inl fr)), (t3, .inl (kt3, 10, .inl fp)), (t4, .inl (kt4, 100, .inl fs))] s.heap := hP
  have hl := lv_entry ([.ref h0]) (n := 3) (Nat.le_of_ble_eq_true rfl)
  rw [lg_entry_eq]
  generalize (lg_sl ([.ref h0]) ++ List.replicate (3 - (lg_sl ([.ref h0])).length) Slot.unset).toArray = ls at hl ⊢
  have hl : lv_has ls 3 [(0, .ref h0)] := hl
  refine lv_iconst (v := 0) hx hb dX7_push_0 (by decide) ?_
  refine lv_istore_n (lv' := [(1, .int 0), (0, .ref h0)]) hx hb dX7_push_1 rfl hl (by decide) rfl (fun ls hl => ?_)
  have key_1 : ∀ (fu : Nat) (k : Nat) (fsx : Nat → Int32), (k ≤ 100) → (fsx = fiK fs k) → 100 - k < fu → ∀ (H : Heap) (locs : List Loc), va_P (dC, dI) vwCl [(h0, .inr (6, [.ref t0, t1, t2, .ref t3, .ref t4])), (t0, .inl (kt0, 10, .inl fr)), (t3, .inl (kt3, 10, .inl fp)), (t4, .inl (kt4, 100, .inl fsx))] H → va_D A [(h0, .inr (6, [.ref t0, t1, t2, .ref t3, .ref t4])), (t0, .inl (kt0, 10, .inl fr)), (t3, .inl (kt3, 10, .inl fp)), (t4, .inl (kt4, 100, .inl fsx))] → va_S A s.heap H locs → ∀ (ls : Array Slot), lv_has ls 3 [(1, .int (nI k)), (0, .ref h0)] → W p l e (headSpec (wq yX7_push cX7_push 3 (some .int)) ({ frames := 4, cells := 0, slots := 0, locals := 91 })).room s m (([.ref h0] : List Value)).toArray below meth c H locs 0 0 (MQ below (va_Qi (fun (r : Int32) (_ : Unit) => r = nI ((pkF (fiK fs 100) fp fr 10).2.2)) (fun _ t => ∃ (fp2 : Nat → Int32) (fs2 : Nat → Int32), (fp2 = (pkF (fiK fs 100) fp fr 10).2.1) ∧ (fs2 = (pkF (fiK fs 100) fp fr 10).1) ∧ va_P (dC, dI) vwCl [(h0, .inr (6, [.ref t0, t1, t2, .ref t3, .ref t4])), (t0, .inl (kt0, 10, .inl fr)), (t3, .inl (kt3, 10, .inl fp2)), (t4, .inl (kt4, 100, .inl fs2))] t.heap ∧ va_K (dC, dI) vwCl [(kt0, .int), (kt3, .int), (kt4, .int)] t ∧ va_D A [(h0, .inr (6, [.ref t0, t1, t2, .ref t3, .ref t4])), (t0, .inl (kt0, 10, .inl fr)), (t3, .inl (kt3, 10, .inl fp2)), (t4, .inl (kt4, 100, .inl fs2))]) A) (([.ref h0] : List Value)).toArray s 0 0 A) (F0 m 2 ls []) := by
    intro fu
    induction fu with
    | zero => intro k fsx hk hfi hme; exact absurd hme (Nat.not_lt_zero _)
    | succ fu ih_2 =>
      intro k fsx hk hfi hme H locs hP hD hS ls hl
      refine lv_iload_n hx hb dX7_push_2 rfl (lv_at hl 0 rfl) ?_
      refine lv_bipush (v := 100) hx hb dX7_push_3 (by decide) ?_
      refine lv_icmp_ge (tgt := 22) hx hb dX7_push_5 (by decide) (fun c_3 => ?_) (fun c_3 => ?_)
      · have b_4 := gx_ge (X := ((k : Nat) : Int)) (C := 100) (nI_toInt (by omega)) (by decide) c_3
        refine lv_iconst (v := 0) hx hb dX7_push_22 (by decide) ?_
        refine lv_istore_n (lv' := [(1, .int 0), (0, .ref h0)]) hx hb dX7_push_23 rfl hl (by decide) rfl (fun ls hl => ?_)
        refine lv_iconst (v := 0) hx hb dX7_push_24 (by decide) ?_
        refine lv_istore_n (lv' := [(2, .int 0), (1, .int 0), (0, .ref h0)]) hx hb dX7_push_25 rfl hl (by decide) rfl (fun ls hl => ?_)
        have key_5 : ∀ (fu : Nat) (j : Nat) (lc : Nat) (fpy : Nat → Int32) (fsy : Nat → Int32), (j ≤ 10) → (lc ≤ 100) → ((fsy, fpy, lc) = pkF (fiK fs 100) fp fr j) → 10 - j < fu → ∀ (H : Heap) (locs : List Loc), va_P (dC, dI) vwCl [(h0, .inr (6, [.ref t0, t1, t2, .ref t3, .ref t4])), (t0, .inl (kt0, 10, .inl fr)), (t3, .inl (kt3, 10, .inl fpy)), (t4, .inl (kt4, 100, .inl fsy))] H → va_D A [(h0, .inr (6, [.ref t0, t1, t2, .ref t3, .ref t4])), (t0, .inl (kt0, 10, .inl fr)), (t3, .inl (kt3, 10, .inl fpy)), (t4, .inl (kt4, 100, .inl fsy))] → va_S A s.heap H locs → ∀ (ls : Array Slot), lv_has ls 3 [(2, .int (nI j)), (1, .int (nI lc)), (0, .ref h0)] → W p l e (headSpec (wq yX7_push cX7_push 3 (some .int)) ({ frames := 4, cells := 0, slots := 0, locals := 91 })).room s m (([.ref h0] : List Value)).toArray below meth c H locs 0 0 (MQ below (va_Qi (fun (r : Int32) (_ : Unit) => r = nI ((pkF (fiK fs 100) fp fr 10).2.2)) (fun _ t => ∃ (fp2 : Nat → Int32) (fs2 : Nat → Int32), (fp2 = (pkF (fiK fs 100) fp fr 10).2.1) ∧ (fs2 = (pkF (fiK fs 100) fp fr 10).1) ∧ va_P (dC, dI) vwCl [(h0, .inr (6, [.ref t0, t1, t2, .ref t3, .ref t4])), (t0, .inl (kt0, 10, .inl fr)), (t3, .inl (kt3, 10, .inl fp2)), (t4, .inl (kt4, 100, .inl fs2))] t.heap ∧ va_K (dC, dI) vwCl [(kt0, .int), (kt3, .int), (kt4, .int)] t ∧ va_D A [(h0, .inr (6, [.ref t0, t1, t2, .ref t3, .ref t4])), (t0, .inl (kt0, 10, .inl fr)), (t3, .inl (kt3, 10, .inl fp2)), (t4, .inl (kt4, 100, .inl fs2))]) A) (([.ref h0] : List Value)).toArray s 0 0 A) (F0 m 26 ls []) := by
          intro fu
          induction fu with
          | zero => intro j lc fpy fsy hj hlc hpk hme; exact absurd hme (Nat.not_lt_zero _)
          | succ fu ih_6 =>
            intro j lc fpy fsy hj hlc hpk hme H locs hP hD hS ls hl
            refine lv_iload_n hx hb dX7_push_26 rfl (lv_at hl 0 rfl) ?_
            refine lv_bipush (v := 10) hx hb dX7_push_27 (by decide) ?_
            refine lv_icmp_ge (tgt := 65) hx hb dX7_push_29 (by decide) (fun c_7 => ?_) (fun c_7 => ?_)
            · have b_8 := gx_ge (X := ((j : Nat) : Int)) (C := 10) (nI_toInt (by omega)) (by decide) c_7
              refine lv_iload_n hx hb dX7_push_65 rfl (lv_at hl 1 rfl) ?_
              have hP9 := hP.sub (ws' := [(h0, .inr (6, [.ref t0, t1, t2, .ref t3, .ref t4])), (t0, .inl (kt0, 10, .inl fr)), (t3, .inl (kt3, 10, .inl fpy)), (t4, .inl (kt4, 100, .inl fsy))]) [0, 1, 2, 3] rfl
              have hD9 := hD.sub (ws' := [(h0, .inr (6, [.ref t0, t1, t2, .ref t3, .ref t4])), (t0, .inl (kt0, 10, .inl fr)), (t3, .inl (kt3, 10, .inl fpy)), (t4, .inl (kt4, 100, .inl fsy))]) [0, 1, 2, 3] (by decide) rfl
              have hK9 := hK.sub (tys' := [(kt0, .int), (kt3, .int), (kt4, .int)]) [0, 1, 2] rfl
              exact W.iret (v := (nI lc)) hx hb hr (fun t ht hW => ⟨⟨(nI lc), (), rfl, (congrArg nI (pk_3 (by rw [show (10 : Nat) = j from (by omega)]; exact hpk)).2.2), fpy, fsy, (pk_3 (by rw [show (10 : Nat) = j from (by omega)]; exact hpk)).2.1, (pk_3 (by rw [show (10 : Nat) = j from (by omega)]; exact hpk)).1, by rw [ht]; exact hP9, va_K.moved hW.alike hK9, hD9⟩, hS.F ht⟩) hS.2.2 dX7_push_66
            · have b_8 := gn_ge (X := ((j : Nat) : Int)) (C := 10) (nI_toInt (by omega)) (by decide) c_7
              refine lv_aload_n hx hb dX7_push_32 rfl (lv_at hl 2 rfl) ?_
              refine va_get (D := (dC, dI)) (ci := 6) (v := .ref t3) (C := RX7) (T := TX7) (N := 5) hx hb hts inB_7 hown hK hP 0 rfl rfl 3 (by decide) (hts _ mw_1_130) (fun _ h9 => h9) rfl dX7_push_33 ?_
              refine lv_iload_n hx hb dX7_push_36 rfl (lv_at hl 0 rfl) ?_
              refine lv_bipush (v := (-6)) hx hb dX7_push_37 (by decide) ?_
              refine va_iast hx hb hK hP hD hS 2 1 rfl rfl (show vp_in (nI j) 10 from vp_in_nI (by omega) (by omega)) dX7_push_39 (fun H locs hP hD hS => ?_)
              obtain ⟨f_9, ef_9⟩ : ∃ g : Nat → Int32, g = upd fpy (Int32.toNatClampNeg (nI j)) (-6) := ⟨_, rfl⟩
              rw [← ef_9] at hP hD
              have ef_9 : f_9 = upd fpy j (-6) := by rw [ef_9, nI_clamp (by omega)]
              have hP : va_P (dC, dI) vwCl [(h0, .inr (6, [.ref t0, t1, t2, .ref t3, .ref t4])), (t0, .inl (kt0, 10, .inl fr)), (t3, .inl (kt3, 10, .inl f_9)), (t4, .inl (kt4, 100, .inl fsy))] H := hP
              have hD : va_D A [(h0, .inr (6, [.ref t0, t1, t2, .ref t3, .ref t4])), (t0, .inl (kt0, 10, .inl fr)), (t3, .inl (kt3, 10, .inl f_9)), (t4, .inl (kt4, 100, .inl fsy))] := hD
              refine lv_aload_n hx hb dX7_push_40 rfl (lv_at hl 2 rfl) ?_
              refine va_get (D := (dC, dI)) (ci := 6) (v := .ref t0) (C := RX7) (T := TX7) (N := 5) hx hb hts inB_7 hown hK hP 0 rfl rfl 0 (by decide) (hts _ mw_1_127) (fun _ h9 => h9) rfl dX7_push_41 ?_
              refine lv_iload_n hx hb dX7_push_44 rfl (lv_at hl 0 rfl) ?_
              refine va_iald hx hb hK hP 1 0 rfl rfl (show vp_in (nI j) 10 from vp_in_nI (by omega) (by omega)) dX7_push_45 ?_
              refine hx_top (y := (fr j)) (congrArg _ (nI_clamp (by omega))) ?_
              refine lv_if_eq (tgt := 59) hx hb dX7_push_46 (by decide) (fun c_10 => ?_) (fun c_10 => ?_)
              · have b_11 := gx_eq (X := (Int32.toInt (fr j))) (C := 0) rfl (by decide) c_10
                refine lv_iinc (v := (nI (j + 1))) (lv' := [(2, .int (nI (j + 1))), (1, .int (nI lc)), (0, .ref h0)]) hx hb dX7_push_59 hl (k := 0) rfl (nI_add j 1) (by decide) rfl (fun ls hl => ?_)
                refine lv_goto (tgt := 26) hx hb dX7_push_62 (by decide) ?_
                exact ih_6 (j + 1) lc f_9 fsy (by omega) hlc (pk_no hpk c_10 ef_9) (by omega) _ _ hP hD hS ls (lv_sub hl [0, 1, 2] rfl)
              · have b_11 := gn_eq (X := (Int32.toInt (fr j))) (C := 0) rfl (by decide) c_10
                refine lv_iload_n hx hb dX7_push_49 rfl (lv_at hl 1 rfl) ?_
                refine lv_aload_n hx hb dX7_push_50 rfl (lv_at hl 2 rfl) ?_
                refine lv_iload_n hx hb dX7_push_51 rfl (lv_at hl 0 rfl) ?_
                have hPc := hP.sub (ws' := [(h0, .inr (6, [.ref t0, t1, t2, .ref t3, .ref t4])), (t0, .inl (kt0, 10, .inl fr)), (t3, .inl (kt3, 10, .inl f_9)), (t4, .inl (kt4, 100, .inl fsy))]) [0, 1, 2, 3] rfl
                have hDc := hD.sub (ws' := [(h0, .inr (6, [.ref t0, t1, t2, .ref t3, .ref t4])), (t0, .inl (kt0, 10, .inl fr)), (t3, .inl (kt3, 10, .inl f_9)), (t4, .inl (kt4, 100, .inl fsy))]) [0, 1, 2, 3] (by decide) rfl
                have hKc := hK.sub (tys' := [(kt0, .int), (kt3, .int), (kt4, .int)]) [0, 1, 2] rfl
                have hFc := va_free (wc := [(h0, .inr (6, [.ref t0, t1, t2, .ref t3, .ref t4])), (t0, .inl (kt0, 10, .inl fr)), (t3, .inl (kt3, 10, .inl f_9)), (t4, .inl (kt4, 100, .inl fsy))]) hD hS hA [0, 1, 2, 3] rfl
                refine va_calli (va_runV (As := [.int (nI j)]) (rest := [.int (nI lc)]) ⟨hx, hb, hml, hown, hts⟩ (c_pushRow l dC dI H.size h0 t0 (t1) (t2) t3 t4 kt0 fr kt3 f_9 kt4 fsy j (by omega)) (cwV 1 hts (gV mw_3_48 mw_3_50 mw_0_9 mw_1_7 mw_3_51) rfl rfl rfl (by decide +kernel) ⟨Nat.le_of_ble_eq_true rfl, Nat.le_of_ble_eq_true rfl⟩) ⟨pcW_blind, va_recv hKc hPc (ci := 6) (q0 := 0) rfl rfl, pcW_at hPc hKc hDc hN⟩ rfl rfl hl.1 rfl (lv_room (Nat.le_of_ble_eq_true rfl)) dX7_push_52 ⟨Nat.le_of_ble_eq_true rfl, Nat.le_of_ble_eq_true rfl⟩) hS (fun q _ h => hFc q h) hFc (fun r_12 u t H1 locs ht hvm hw_12 hB hz1 hk1 hS => ?_)
                obtain ⟨f_13, f_14, p_15, p_16, hP1, hK1, hD1⟩ := hB
                rw [ht] at hP1
                have hK1 := va_K.moved hvm.symm hK1
                obtain ⟨hP, hD⟩ := va_join (wr := []) (w1 := [(h0, .inr (6, [.ref t0, t1, t2, .ref t3, .ref t4])), (t0, .inl (kt0, 10, .inl fr)), (t3, .inl (kt3, 10, .inl f_13)), (t4, .inl (kt4, 100, .inl f_14))]) hP hD [0, 1, 2, 3] [] rfl rfl (by decide) (by decide) hk1 hFc hP1 hD1
                have hK := (hK.sub (tys' := []) [] rfl).app hK1
                clear hz1 hk1 hPc hDc hKc hFc
                generalize H1 = H at hP hS ⊢
                have hK : va_K (dC, dI) vwCl [(kt0, .int), (kt3, .int), (kt4, .int)] s := hK
                have hP : va_P (dC, dI) vwCl [(h0, .inr (6, [.ref t0, t1, t2, .ref t3, .ref t4])), (t0, .inl (kt0, 10, .inl fr)), (t3, .inl (kt3, 10, .inl f_13)), (t4, .inl (kt4, 100, .inl f_14))] H := hP
                have hD : va_D A [(h0, .inr (6, [.ref t0, t1, t2, .ref t3, .ref t4])), (t0, .inl (kt0, 10, .inl fr)), (t3, .inl (kt3, 10, .inl f_13)), (t4, .inl (kt4, 100, .inl f_14))] := hD
                obtain rfl : r_12 = nI (enF (fr j) (lpN fsy (fr j)) 8) := hw_12
                have b_17 := (⟨en_le, lp_is.1⟩ : enF (fr j) (lpN fsy (fr j)) 8 ≤ (lpN fsy (fr j)) + 8 ∧ (lpN fsy (fr j)) ≤ 92)
                refine va_mmax hx hb (by rw [hml]; exact hl.1.symm) hown (hts _ mw_3_34) (hts _ mw_2_150) (hts _ mw_1_10) (hts _ mw_2_151) (Nat.le_of_ble_eq_true rfl) (Nat.le_of_ble_eq_true rfl) (Nat.le_of_ble_eq_true rfl) (Nat.le_of_ble_eq_true rfl) dX7_push_55 ?_
                refine lv_topi (fun z_18 ez_18 => ?_)
                have fz_18 := gx_max (X := ((lc : Nat) : Int)) (C := ((enF (fr j) (lpN fsy (fr j)) 8 : Nat) : Int)) (nI_toInt (by omega)) (nI_toInt (by omega)) ez_18
                obtain ⟨j_19, tj_19, ej_19⟩ := fx_nat (x := z_18) (by omega)
                subst ej_19
                have yj_19 : Int32.toInt (nI j_19) = (j_19 : Int) := nI_toInt tj_19
                have hmx := mx_or lc (enF (fr j) (lpN fsy (fr j)) 8)
                refine lv_istore_n (lv' := [(1, .int (nI j_19)), (2, .int (nI j)), (0, .ref h0)]) hx hb dX7_push_58 rfl hl (by decide) rfl (fun ls hl => ?_)
                refine lv_iinc (v := (nI (j + 1))) (lv' := [(2, .int (nI (j + 1))), (1, .int (nI j_19)), (0, .ref h0)]) hx hb dX7_push_59 hl (k := 1) rfl (nI_add j 1) (by decide) rfl (fun ls hl => ?_)
                refine lv_goto (tgt := 26) hx hb dX7_push_62 (by decide) ?_
                exact ih_6 (j + 1) j_19 f_13 f_14 (by omega) (by omega) (pk_yes hpk c_10 lp_is p_16 (by rw [p_15, ef_9, upd_upd]) (by omega)) (by omega) _ _ hP hD hS ls (lv_sub hl [0, 1, 2] rfl)
        exact key_5 ((10 - 0) + 1) 0 0 fp fsx (by omega) (by omega) (by rw [hfi, show k = 100 from (by omega)]; rfl) (Nat.lt_succ_self _) _ _ hP hD hS ls (lv_sub hl [0, 1, 2] rfl)
      · have b_4 := gn_ge (X := ((k : Nat) : Int)) (C := 100) (nI_toInt (by omega)) (by decide) c_3
        refine lv_aload_n hx hb dX7_push_8 rfl (lv_at hl 1 rfl) ?_
        refine va_get (D := (dC, dI)) (ci := 6) (v := .ref t4) (C := RX7) (T := TX7) (N := 5) hx hb hts inB_7 hown hK hP 0 rfl rfl 4 (by decide) (hts _ mw_1_131) (fun _ h9 => h9) rfl dX7_push_9 ?_
        refine lv_iload_n hx hb dX7_push_12 rfl (lv_at hl 0 rfl) ?_
        refine lv_bipush (v := (-6)) hx hb dX7_push_13 (by decide) ?_
        refine va_iast hx hb hK hP hD hS 3 2 rfl rfl (show vp_in (nI k) 100 from vp_in_nI (by omega) (by omega)) dX7_push_15 (fun H locs hP hD hS => ?_)
        obtain ⟨f_20, ef_20⟩ : ∃ g : Nat → Int32, g = upd fsx (Int32.toNatClampNeg (nI k)) (-6) := ⟨_, rfl⟩
        rw [← ef_20] at hP hD
        have ef_20 : f_20 = upd fsx k (-6) := by rw [ef_20, nI_clamp (by omega)]
        have hP : va_P (dC, dI) vwCl [(h0, .inr (6, [.ref t0, t1, t2, .ref t3, .ref t4])), (t0, .inl (kt0, 10, .inl fr)), (t3, .inl (kt3, 10, .inl fp)), (t4, .inl (kt4, 100, .inl f_20))] H := hP
        have hD : va_D A [(h0, .inr (6, [.ref t0, t1, t2, .ref t3, .ref t4])), (t0, .inl (kt0, 10, .inl fr)), (t3, .inl (kt3, 10, .inl fp)), (t4, .inl (kt4, 100, .inl f_20))] := hD
        refine lv_iinc (v := (nI (k + 1))) (lv' := [(1, .int (nI (k + 1))), (0, .ref h0)]) hx hb dX7_push_16 hl (k := 0) rfl (nI_add k 1) (by decide) rfl (fun ls hl => ?_)
        refine lv_goto (tgt := 2) hx hb dX7_push_19 (by decide) ?_
        exact ih_2 (k + 1) f_20 (by omega) (fi_step hfi ef_20) (by omega) _ _ hP hD hS ls (lv_sub hl [0, 1] rfl)
  exact key_1 ((100 - 0) + 1) 0 fs (by omega) fi_0 (Nat.lt_succ_self _) _ _ hP hD hS ls (lv_sub hl [0, 1] rfl)
set_option maxHeartbeats 4000000 in
set_option maxRecDepth 100000 in
theorem c_placeOf (l : Launch) (dC : Nat → ClassId) (dI : Nat → Nat → Nat) (sz : Nat) (h0 : Nat) (t0 : Value) (t1 : Value) (t2 : Value) (t3 : Nat) (t4 : Value) (kt3 : ClassId) (fp : Nat → Int32) (kq : Nat) (hkq : kq < 10) : Met l yX7_placeOfRow (wq yX7_placeOfRow cX7_placeOfRow 2 (some .int)) ({ frames := 0, cells := 0, slots := 0, locals := 0 }) (va_Pc [.ref h0, .int (nI kq)] (pcW dC dI [(kt3, .int)] [(h0, .inr (6, [t0, t1, t2, .ref t3, t4])), (t3, .inl (kt3, 10, .inl fp))] sz)) (va_Qi (fun (r : Int32) (_ : Unit) => r = (fp kq)) (fun _ _ => True) (fun q : Nat => sz ≤ q)) 0 0 (fun q : Nat => sz ≤ q) := by
  refine Met.ofW (cc := cX7_placeOfRow) (maxL := 2) (ret := (some .int)) (by decide) rfl ?_
  intro p e s m args below meth c s₁ B hml hv
  obtain ⟨rfl, hsz, hN, hP, hK, hD0⟩ := hv
  have hx := B.exec
  have hb := B.bytes
  have hr := B.returns
  have hts0 := atoms_spec (ws := (wq yX7_placeOfRow cX7_placeOfRow 2 (some .int))) B.pre
  have hts : ∀ w ∈ BG, w.before _ s = true := fun w h => hts0 w (List.mem_cons_of_mem _ h)
  have hown : s.vm.findClass RX7 = some m.cls := findClass_of_methodNamed B.named
  have hlocks := B.notSynchronized
  subst hsz
  have hA : ∀ q : Nat, s.heap.size ≤ q → (fun q : Nat => s.heap.size ≤ q) q := fun _ h => h
  have hD := hD0
  have hS : va_S (fun q : Nat => s.heap.size ≤ q) s.heap s.heap [] := va_S.rf
  have hP : va_P (dC, dI) vwCl [(h0, .inr (6, [t0, t1, t2, .ref t3, t4])), (t3, .inl (kt3, 10, .inl fp))] s.heap := hP
  have hl := lv_entry ([.ref h0, .int (nI kq)]) (n := 2) (Nat.le_of_ble_eq_true rfl)
  rw [lg_entry_eq]
  generalize (lg_sl ([.ref h0, .int (nI kq)]) ++ List.replicate (2 - (lg_sl ([.ref h0, .int (nI kq)])).length) Slot.unset).toArray = ls at hl ⊢
  have hl : lv_has ls 2 [(0, .ref h0), (1, .int (nI kq))] := hl
  refine lv_iload_n hx hb dX7_placeOfRow_0 rfl (lv_at hl 1 rfl) ?_
  refine lv_if_lt (tgt := 19) hx hb dX7_placeOfRow_1 (by decide) (fun h => absurd (gx_lt (X := ((kq : Nat) : Int)) (C := 0) (nI_toInt (by omega)) (by decide) h) (by omega)) (fun c_1 => ?_)
  have b_2 := gn_lt (X := ((kq : Nat) : Int)) (C := 0) (nI_toInt (by omega)) (by decide) c_1
  refine lv_iload_n hx hb dX7_placeOfRow_4 rfl (lv_at hl 1 rfl) ?_
  refine lv_bipush (v := 10) hx hb dX7_placeOfRow_5 (by decide) ?_
  refine lv_icmp_ge (tgt := 19) hx hb dX7_placeOfRow_7 (by decide) (fun h => absurd (gx_ge (X := ((kq : Nat) : Int)) (C := 10) (nI_toInt (by omega)) (by decide) h) (by omega)) (fun c_3 => ?_)
  have b_4 := gn_ge (X := ((kq : Nat) : Int)) (C := 10) (nI_toInt (by omega)) (by decide) c_3
  refine lv_aload_n hx hb dX7_placeOfRow_10 rfl (lv_at hl 0 rfl) ?_
  refine va_get (D := (dC, dI)) (ci := 6) (v := .ref t3) (C := RX7) (T := TX7) (N := 5) hx hb hts inB_7 hown hK hP 0 rfl rfl 3 (by decide) (hts _ mw_1_130) (fun _ h9 => h9) rfl dX7_placeOfRow_11 ?_
  refine lv_iload_n hx hb dX7_placeOfRow_14 rfl (lv_at hl 1 rfl) ?_
  refine va_iald hx hb hK hP 1 0 rfl rfl (show vp_in (nI kq) 10 from vp_in_nI (by omega) (by omega)) dX7_placeOfRow_15 ?_
  refine hx_top (y := (fp kq)) (congrArg _ (nI_clamp (by omega))) ?_
  refine lv_goto (tgt := 21) hx hb dX7_placeOfRow_16 (by decide) ?_
  exact W.iret (v := (fp kq)) hx hb hr (fun t ht hW => ⟨⟨(fp kq), (), rfl, rfl, trivial⟩, hS.F ht⟩) hS.2.2 dX7_placeOfRow_21
set_option maxHeartbeats 4000000 in
set_option maxRecDepth 100000 in
theorem c_stands (l : Launch) (dC : Nat → ClassId) (dI : Nat → Nat → Nat) (sz : Nat) (h0 : Nat) (t0 : Value) (t1 : Value) (t2 : Value) (t3 : Value) (t4 : Nat) (kt4 : ClassId) (fs : Nat → Int32) (kq : Nat) (hkq : kq < 100) : Met l yX7_standsAt (wq yX7_standsAt cX7_standsAt 2 (some .int)) ({ frames := 0, cells := 0, slots := 0, locals := 0 }) (va_Pc [.ref h0, .int (nI kq)] (pcW dC dI [(kt4, .int)] [(h0, .inr (6, [t0, t1, t2, t3, .ref t4])), (t4, .inl (kt4, 100, .inl fs))] sz)) (va_Qi (fun (r : Int32) (_ : Unit) => r = (fs kq)) (fun _ _ => True) (fun q : Nat => sz ≤ q)) 0 0 (fun q : Nat => sz ≤ q) := by
  refine Met.ofW (cc := cX7_standsAt) (maxL := 2) (ret := (some .int)) (by decide) rfl ?_
  intro p e s m args below meth c s₁ B hml hv
  obtain ⟨rfl, hsz, hN, hP, hK, hD0⟩ := hv
  have hx := B.exec
  have hb := B.bytes
  have hr := B.returns
  have hts0 := atoms_spec (ws := (wq yX7_standsAt cX7_standsAt 2 (some .int))) B.pre
  have hts : ∀ w ∈ BG, w.before _ s = true := fun w h => hts0 w (List.mem_cons_of_mem _ h)
  have hown : s.vm.findClass RX7 = some m.cls := findClass_of_methodNamed B.named
  have hlocks := B.notSynchronized
  subst hsz
  have hA : ∀ q : Nat, s.heap.size ≤ q → (fun q : Nat => s.heap.size ≤ q) q := fun _ h => h
  have hD := hD0
  have hS : va_S (fun q : Nat => s.heap.size ≤ q) s.heap s.heap [] := va_S.rf
  have hP : va_P (dC, dI) vwCl [(h0, .inr (6, [t0, t1, t2, t3, .ref t4])), (t4, .inl (kt4, 100, .inl fs))] s.heap := hP
  have hl := lv_entry ([.ref h0, .int (nI kq)]) (n := 2) (Nat.le_of_ble_eq_true rfl)
  rw [lg_entry_eq]
  generalize (lg_sl ([.ref h0, .int (nI kq)]) ++ List.replicate (2 - (lg_sl ([.ref h0, .int (nI kq)])).length) Slot.unset).toArray = ls at hl ⊢
  have hl : lv_has ls 2 [(0, .ref h0), (1, .int (nI kq))] := hl
  refine lv_iload_n hx hb dX7_standsAt_0 rfl (lv_at hl 1 rfl) ?_
  refine lv_if_lt (tgt := 19) hx hb dX7_standsAt_1 (by decide) (fun h => absurd (gx_lt (X := ((kq : Nat) : Int)) (C := 0) (nI_toInt (by omega)) (by decide) h) (by omega)) (fun c_1 => ?_)
  have b_2 := gn_lt (X := ((kq : Nat) : Int)) (C := 0) (nI_toInt (by omega)) (by decide) c_1
  refine lv_iload_n hx hb dX7_standsAt_4 rfl (lv_at hl 1 rfl) ?_
  refine lv_bipush (v := 100) hx hb dX7_standsAt_5 (by decide) ?_
  refine lv_icmp_ge (tgt := 19) hx hb dX7_standsAt_7 (by decide) (fun h => absurd (gx_ge (X := ((kq : Nat) : Int)) (C := 100) (nI_toInt (by omega)) (by decide) h) (by omega)) (fun c_3 => ?_)
  have b_4 := gn_ge (X := ((kq : Nat) : Int)) (C := 100) (nI_toInt (by omega)) (by decide) c_3
  refine lv_aload_n hx hb dX7_standsAt_10 rfl (lv_at hl 0 rfl) ?_
  refine va_get (D := (dC, dI)) (ci := 6) (v := .ref t4) (C := RX7) (T := TX7) (N := 5) hx hb hts inB_7 hown hK hP 0 rfl rfl 4 (by decide) (hts _ mw_1_131) (fun _ h9 => h9) rfl dX7_standsAt_11 ?_
  refine lv_iload_n hx hb dX7_standsAt_14 rfl (lv_at hl 1 rfl) ?_
  refine va_iald hx hb hK hP 1 0 rfl rfl (show vp_in (nI kq) 100 from vp_in_nI (by omega) (by omega)) dX7_standsAt_15 ?_
  refine hx_top (y := (fs kq)) (congrArg _ (nI_clamp (by omega))) ?_
  refine lv_goto (tgt := 21) hx hb dX7_standsAt_16 (by decide) ?_
  exact W.iret (v := (fs kq)) hx hb hr (fun t ht hW => ⟨⟨(fs kq), (), rfl, rfl, trivial⟩, hS.F ht⟩) hS.2.2 dX7_standsAt_21
