theorem mw_3_207 : Cond.fieldLink RX9 194 "AnswerLinesModel" "columnMany" "I" ∈ BG := mB (t3 (i := 207) (by decide +kernel)) (by decide +kernel)
theorem mw_4_213 : Cond.code yX9_fill cX9_fill 6 (some .boolean) ∈ BG := mB (t4 (i := 213) rfl) (by decide +kernel)
theorem mw_4_210 : Cond.methodLink RX9 197 yX9_fill ∈ BG := mB (t4 (i := 210) (by decide +kernel)) (by decide +kernel)
theorem mw_4_212 : Cond.instanceMethod yX9_fill ∈ BG := mB (t4 (i := 212) (by decide +kernel)) (by decide +kernel)
theorem mw_0_32 : Cond.selects RX9 yX9_fill yX9_fill ∈ BG := mB (t0 (i := 32) (by decide +kernel)) (by decide +kernel)
theorem mw_4_201 : Cond.code yX9_findColumns cX9_findColumns 5 none ∈ BG := mB (t4 (i := 201) rfl) (by decide +kernel)
theorem mw_4_198 : Cond.methodLink RX9 206 yX9_findColumns ∈ BG := mB (t4 (i := 198) (by decide +kernel)) (by decide +kernel)
theorem mw_4_200 : Cond.instanceMethod yX9_findColumns ∈ BG := mB (t4 (i := 200) (by decide +kernel)) (by decide +kernel)
theorem mw_0_29 : Cond.selects RX9 yX9_findColumns yX9_findColumns ∈ BG := mB (t0 (i := 29) (by decide +kernel)) (by decide +kernel)
theorem dX9_findColumns_0 : decode cX9_findColumns 0 = .ok (.iconst 0, 1) := by decide +kernel
theorem dX9_findColumns_1 : decode cX9_findColumns 1 = .ok (.istore_n 1, 1) := by decide +kernel
theorem dX9_findColumns_2 : decode cX9_findColumns 2 = .ok (.iconst 0, 1) := by decide +kernel
theorem dX9_findColumns_3 : decode cX9_findColumns 3 = .ok (.istore_n 2, 1) := by decide +kernel
theorem dX9_findColumns_4 : decode cX9_findColumns 4 = .ok (.iload_n 2, 1) := by decide +kernel
theorem dX9_findColumns_5 : decode cX9_findColumns 5 = .ok (.bipush 8, 2) := by decide +kernel
theorem dX9_findColumns_7 : decode cX9_findColumns 7 = .ok (.if_icmp .ge 16, 3) := by decide +kernel
theorem dX9_findColumns_23 : decode cX9_findColumns 23 = .ok (.iconst 0, 1) := by decide +kernel
theorem dX9_findColumns_24 : decode cX9_findColumns 24 = .ok (.istore_n 2, 1) := by decide +kernel
theorem dX9_findColumns_25 : decode cX9_findColumns 25 = .ok (.iload_n 2, 1) := by decide +kernel
theorem dX9_findColumns_26 : decode cX9_findColumns 26 = .ok (.aload_n 0, 1) := by decide +kernel
theorem dX9_findColumns_27 : decode cX9_findColumns 27 = .ok (.getfield 86, 3) := by decide +kernel
theorem dX9_findColumns_30 : decode cX9_findColumns 30 = .ok (.if_icmp .ge 67, 3) := by decide +kernel
theorem dX9_findColumns_97 : decode cX9_findColumns 97 = .ok (.aload_n 0, 1) := by decide +kernel
theorem dX9_findColumns_98 : decode cX9_findColumns 98 = .ok (.iconst 0, 1) := by decide +kernel
theorem dX9_findColumns_99 : decode cX9_findColumns 99 = .ok (.putfield 194, 3) := by decide +kernel
theorem dX9_findColumns_102 : decode cX9_findColumns 102 = .ok (.aload_n 0, 1) := by decide +kernel
theorem dX9_findColumns_103 : decode cX9_findColumns 103 = .ok (.iload_n 1, 1) := by decide +kernel
theorem dX9_findColumns_104 : decode cX9_findColumns 104 = .ok (.aload_n 0, 1) := by decide +kernel
theorem dX9_findColumns_105 : decode cX9_findColumns 105 = .ok (.getfield 194, 3) := by decide +kernel
theorem dX9_findColumns_108 : decode cX9_findColumns 108 = .ok (.invokevirtual 197, 3) := by decide +kernel
theorem dX9_findColumns_111 : decode cX9_findColumns 111 = .ok (.ifCond .ne 16, 3) := by decide +kernel
theorem dX9_findColumns_127 : decode cX9_findColumns 127 = .ok (.return_, 1) := by decide +kernel
theorem dX9_findColumns_114 : decode cX9_findColumns 114 = .ok (.aload_n 0, 1) := by decide +kernel
theorem dX9_findColumns_115 : decode cX9_findColumns 115 = .ok (.dup, 1) := by decide +kernel
theorem dX9_findColumns_116 : decode cX9_findColumns 116 = .ok (.getfield 194, 3) := by decide +kernel
theorem dX9_findColumns_119 : decode cX9_findColumns 119 = .ok (.iconst 1, 1) := by decide +kernel
theorem dX9_findColumns_120 : decode cX9_findColumns 120 = .ok (.iadd, 1) := by decide +kernel
theorem dX9_findColumns_121 : decode cX9_findColumns 121 = .ok (.putfield 194, 3) := by decide +kernel
theorem dX9_findColumns_124 : decode cX9_findColumns 124 = .ok (.goto (-22), 3) := by decide +kernel
theorem dX9_findColumns_33 : decode cX9_findColumns 33 = .ok (.aload_n 0, 1) := by decide +kernel
theorem dX9_findColumns_34 : decode cX9_findColumns 34 = .ok (.iload_n 2, 1) := by decide +kernel
theorem dX9_findColumns_35 : decode cX9_findColumns 35 = .ok (.invokevirtual 191, 3) := by decide +kernel
theorem dX9_findColumns_38 : decode cX9_findColumns 38 = .ok (.istore_n 3, 1) := by decide +kernel
theorem dX9_findColumns_39 : decode cX9_findColumns 39 = .ok (.iload_n 1, 1) := by decide +kernel
theorem dX9_findColumns_40 : decode cX9_findColumns 40 = .ok (.iload_n 3, 1) := by decide +kernel
theorem dX9_findColumns_41 : decode cX9_findColumns 41 = .ok (.ior, 1) := by decide +kernel
theorem dX9_findColumns_42 : decode cX9_findColumns 42 = .ok (.istore_n 1, 1) := by decide +kernel
theorem dX9_findColumns_43 : decode cX9_findColumns 43 = .ok (.iconst 0, 1) := by decide +kernel
theorem dX9_findColumns_44 : decode cX9_findColumns 44 = .ok (.istore 4, 2) := by decide +kernel
theorem dX9_findColumns_46 : decode cX9_findColumns 46 = .ok (.iload 4, 2) := by decide +kernel
theorem dX9_findColumns_48 : decode cX9_findColumns 48 = .ok (.bipush 8, 2) := by decide +kernel
theorem dX9_findColumns_50 : decode cX9_findColumns 50 = .ok (.if_icmp .ge 41, 3) := by decide +kernel
theorem dX9_findColumns_91 : decode cX9_findColumns 91 = .ok (.iinc 2 1, 3) := by decide +kernel
theorem dX9_findColumns_94 : decode cX9_findColumns 94 = .ok (.goto (-69), 3) := by decide +kernel
theorem dX9_findColumns_53 : decode cX9_findColumns 53 = .ok (.aload_n 0, 1) := by decide +kernel
theorem dX9_findColumns_54 : decode cX9_findColumns 54 = .ok (.getfield 62, 3) := by decide +kernel
theorem dX9_findColumns_57 : decode cX9_findColumns 57 = .ok (.iload 4, 2) := by decide +kernel
theorem dX9_findColumns_59 : decode cX9_findColumns 59 = .ok (.dup2, 1) := by decide +kernel
theorem dX9_findColumns_60 : decode cX9_findColumns 60 = .ok (.iaload, 1) := by decide +kernel
theorem dX9_findColumns_61 : decode cX9_findColumns 61 = .ok (.iload_n 3, 1) := by decide +kernel
theorem dX9_findColumns_62 : decode cX9_findColumns 62 = .ok (.iload 4, 2) := by decide +kernel
theorem dX9_findColumns_64 : decode cX9_findColumns 64 = .ok (.ishr, 1) := by decide +kernel
theorem dX9_findColumns_65 : decode cX9_findColumns 65 = .ok (.iconst 1, 1) := by decide +kernel
theorem dX9_findColumns_66 : decode cX9_findColumns 66 = .ok (.iand, 1) := by decide +kernel
theorem dX9_findColumns_67 : decode cX9_findColumns 67 = .ok (.iconst 1, 1) := by decide +kernel
theorem dX9_findColumns_68 : decode cX9_findColumns 68 = .ok (.if_icmp .ne 14, 3) := by decide +kernel
theorem dX9_findColumns_82 : decode cX9_findColumns 82 = .ok (.iconst 0, 1) := by decide +kernel
theorem dX9_findColumns_83 : decode cX9_findColumns 83 = .ok (.ior, 1) := by decide +kernel
theorem dX9_findColumns_84 : decode cX9_findColumns 84 = .ok (.iastore, 1) := by decide +kernel
theorem dX9_findColumns_85 : decode cX9_findColumns 85 = .ok (.iinc 4 1, 3) := by decide +kernel
theorem dX9_findColumns_88 : decode cX9_findColumns 88 = .ok (.goto (-42), 3) := by decide +kernel
theorem dX9_findColumns_71 : decode cX9_findColumns 71 = .ok (.iload_n 3, 1) := by decide +kernel
theorem dX9_findColumns_72 : decode cX9_findColumns 72 = .ok (.iconst 1, 1) := by decide +kernel
theorem dX9_findColumns_73 : decode cX9_findColumns 73 = .ok (.iload 4, 2) := by decide +kernel
theorem dX9_findColumns_75 : decode cX9_findColumns 75 = .ok (.ishl, 1) := by decide +kernel
theorem dX9_findColumns_76 : decode cX9_findColumns 76 = .ok (.iconst (-1), 1) := by decide +kernel
theorem dX9_findColumns_77 : decode cX9_findColumns 77 = .ok (.ixor, 1) := by decide +kernel
theorem dX9_findColumns_78 : decode cX9_findColumns 78 = .ok (.iand, 1) := by decide +kernel
theorem dX9_findColumns_79 : decode cX9_findColumns 79 = .ok (.goto 4, 3) := by decide +kernel
theorem dX9_findColumns_10 : decode cX9_findColumns 10 = .ok (.aload_n 0, 1) := by decide +kernel
theorem dX9_findColumns_11 : decode cX9_findColumns 11 = .ok (.getfield 62, 3) := by decide +kernel
theorem dX9_findColumns_14 : decode cX9_findColumns 14 = .ok (.iload_n 2, 1) := by decide +kernel
theorem dX9_findColumns_15 : decode cX9_findColumns 15 = .ok (.iconst 0, 1) := by decide +kernel
theorem dX9_findColumns_16 : decode cX9_findColumns 16 = .ok (.iastore, 1) := by decide +kernel
theorem dX9_findColumns_17 : decode cX9_findColumns 17 = .ok (.iinc 2 1, 3) := by decide +kernel
theorem dX9_findColumns_20 : decode cX9_findColumns 20 = .ok (.goto (-16), 3) := by decide +kernel
theorem dX9_column_0 : decode cX9_column 0 = .ok (.iload_n 1, 1) := by decide +kernel
theorem dX9_column_1 : decode cX9_column 1 = .ok (.iconst (-1), 1) := by decide +kernel
theorem dX9_column_2 : decode cX9_column 2 = .ok (.if_icmp .eq 12, 3) := by decide +kernel
theorem dX9_column_14 : decode cX9_column 14 = .ok (.aload_n 0, 1) := by decide +kernel
theorem dX9_column_15 : decode cX9_column 15 = .ok (.invokevirtual 206, 3) := by decide +kernel
theorem dX9_column_18 : decode cX9_column 18 = .ok (.iload_n 1, 1) := by decide +kernel
theorem dX9_column_19 : decode cX9_column 19 = .ok (.iconst (-1), 1) := by decide +kernel
theorem dX9_column_20 : decode cX9_column 20 = .ok (.if_icmp .ne 10, 3) := by decide +kernel
theorem dX9_column_23 : decode cX9_column 23 = .ok (.aload_n 0, 1) := by decide +kernel
theorem dX9_column_24 : decode cX9_column 24 = .ok (.getfield 194, 3) := by decide +kernel
theorem dX9_column_27 : decode cX9_column 27 = .ok (.goto 9, 3) := by decide +kernel
theorem dX9_column_36 : decode cX9_column 36 = .ok (.ireturn, 1) := by decide +kernel
theorem dX9_column_5 : decode cX9_column 5 = .ok (.iload_n 1, 1) := by decide +kernel
theorem dX9_column_6 : decode cX9_column 6 = .ok (.invokestatic 132, 3) := by decide +kernel
theorem dX9_column_9 : decode cX9_column 9 = .ok (.ifCond .ne 5, 3) := by decide +kernel
theorem dX9_column_30 : decode cX9_column 30 = .ok (.aload_n 0, 1) := by decide +kernel
theorem dX9_column_31 : decode cX9_column 31 = .ok (.getfield 65, 3) := by decide +kernel
theorem dX9_column_34 : decode cX9_column 34 = .ok (.iload_n 1, 1) := by decide +kernel
theorem dX9_column_35 : decode cX9_column 35 = .ok (.iaload, 1) := by decide +kernel
theorem dX9_column_12 : decode cX9_column 12 = .ok (.iconst (-1), 1) := by decide +kernel
theorem dX9_column_13 : decode cX9_column 13 = .ok (.ireturn, 1) := by decide +kernel
set_option maxHeartbeats 4000000 in
set_option maxRecDepth 100000 in
theorem m_findC (l : Launch) (dC : Nat → ClassId) (dI : Nat → Nat → Nat) (sz : Nat) (h0 : Nat) (w0 : Value) (w1 : Value) (w2 : Value) (l7 : Nat) (kn : Nat) (l4 : Nat) (l1 : Nat) (w7 : Value) (w8 : Value) (w9 : Value) (w10 : Value) (w11 : Value) (w12 : Value) (w13 : Value) (nm0 : Nat) (w15 : Value) (w16 : Value) (w17 : Value) (w18 : Value) (w19 : Value) (w20 : Value) (w21 : Value) (w22 : Value) (cg0 : Nat) (cl1 : Nat) (cm0 : Int32) (w26 : Value) (w27 : Value) (w28 : Value) (w29 : Value) (w30 : Value) (w31 : Value) (w32 : Value) (w33 : Value) (w34 : Value) (kl1 : ClassId) (fll : Nat → Int32) (kl4 : ClassId) (fln : Nat → Int32) (knm0 : ClassId) (fnm : Nat → Int32) (kl7 : ClassId) (fib : Nat → Int32) (kcg0 : ClassId) (fag : Nat → Int32) (kcl1 : ClassId) (fcl : Nat → Int32) (hkn : kn ≤ 10) (hll : BdOk 10 10 fll) (hln : LnOk fll fln kn) : Met l yX9_findColumns (wq yX9_findColumns cX9_findColumns 5 none) ({ frames := 3, cells := 0, slots := 0, locals := 70 }) (va_Pc [.ref h0] (pcW dC dI [(kl1, .int), (kl4, .int), (knm0, .int), (kl7, .boolean), (kcg0, .int), (kcl1, .int)] [(h0, .inr (8, [w0, w1, w2, .ref l7, .int (nI kn), .ref l4, .ref l1, w7, w8, w9, w10, w11, w12, w13, .ref nm0, w15, w16, w17, w18, w19, w20, w21, w22, .ref cg0, .ref cl1, .int cm0, w26, w27, w28, w29, w30, w31, w32, w33, w34])), (l1, .inl (kl1, 10, .inl fll)), (l4, .inl (kl4, 100, .inl fln)), (nm0, .inl (knm0, 10, .inl fnm)), (l7, .inl (kl7, 10, .inl fib)), (cg0, .inl (kcg0, 8, .inl fag)), (cl1, .inl (kcl1, 8, .inl fcl))] sz)) (va_Qv (fun _ : Unit => True) (fun _ t => ∃ (fag2 : Nat → Int32) (fcl2 : Nat → Int32) (cm2 : Int32), (cm2 = nI (clN (UR (rowM fll fln fnm fib) kn) (KR (rowM fll fln fnm fib) kn))) ∧ (∀ i, i < 8 → fcl2 i = clC (UR (rowM fll fln fnm fib) kn) (KR (rowM fll fln fnm fib) kn) i) ∧ va_P (dC, dI) vwCl [(h0, .inr (8, [w0, w1, w2, .ref l7, .int (nI kn), .ref l4, .ref l1, w7, w8, w9, w10, w11, w12, w13, .ref nm0, w15, w16, w17, w18, w19, w20, w21, w22, .ref cg0, .ref cl1, .int cm2, w26, w27, w28, w29, w30, w31, w32, w33, w34])), (l1, .inl (kl1, 10, .inl fll)), (l4, .inl (kl4, 100, .inl fln)), (nm0, .inl (knm0, 10, .inl fnm)), (l7, .inl (kl7, 10, .inl fib)), (cg0, .inl (kcg0, 8, .inl fag2)), (cl1, .inl (kcl1, 8, .inl fcl2))] t.heap ∧ va_K (dC, dI) vwCl [(kl1, .int), (kl4, .int), (knm0, .int), (kl7, .boolean), (kcg0, .int), (kcl1, .int)] t ∧ va_D (va_A [(h0, .inr (8, [w0, w1, w2, .ref l7, .int (nI kn), .ref l4, .ref l1, w7, w8, w9, w10, w11, w12, w13, .ref nm0, w15, w16, w17, w18, w19, w20, w21, w22, .ref cg0, .ref cl1, .int cm0, w26, w27, w28, w29, w30, w31, w32, w33, w34])), (l1, .inl (kl1, 10, .inl fll)), (l4, .inl (kl4, 100, .inl fln)), (nm0, .inl (knm0, 10, .inl fnm)), (l7, .inl (kl7, 10, .inl fib)), (cg0, .inl (kcg0, 8, .inl fag)), (cl1, .inl (kcl1, 8, .inl fcl))] sz) [(h0, .inr (8, [w0, w1, w2, .ref l7, .int (nI kn), .ref l4, .ref l1, w7, w8, w9, w10, w11, w12, w13, .ref nm0, w15, w16, w17, w18, w19, w20, w21, w22, .ref cg0, .ref cl1, .int cm2, w26, w27, w28, w29, w30, w31, w32, w33, w34])), (l1, .inl (kl1, 10, .inl fll)), (l4, .inl (kl4, 100, .inl fln)), (nm0, .inl (knm0, 10, .inl fnm)), (l7, .inl (kl7, 10, .inl fib)), (cg0, .inl (kcg0, 8, .inl fag2)), (cl1, .inl (kcl1, 8, .inl fcl2))]) (va_A [(h0, .inr (8, [w0, w1, w2, .ref l7, .int (nI kn), .ref l4, .ref l1, w7, w8, w9, w10, w11, w12, w13, .ref nm0, w15, w16, w17, w18, w19, w20, w21, w22, .ref cg0, .ref cl1, .int cm0, w26, w27, w28, w29, w30, w31, w32, w33, w34])), (l1, .inl (kl1, 10, .inl fll)), (l4, .inl (kl4, 100, .inl fln)), (nm0, .inl (knm0, 10, .inl fnm)), (l7, .inl (kl7, 10, .inl fib)), (cg0, .inl (kcg0, 8, .inl fag)), (cl1, .inl (kcl1, 8, .inl fcl))] sz)) 0 0 (va_A [(h0, .inr (8, [w0, w1, w2, .ref l7, .int (nI kn), .ref l4, .ref l1, w7, w8, w9, w10, w11, w12, w13, .ref nm0, w15, w16, w17, w18, w19, w20, w21, w22, .ref cg0, .ref cl1, .int cm0, w26, w27, w28, w29, w30, w31, w32, w33, w34])), (l1, .inl (kl1, 10, .inl fll)), (l4, .inl (kl4, 100, .inl fln)), (nm0, .inl (knm0, 10, .inl fnm)), (l7, .inl (kl7, 10, .inl fib)), (cg0, .inl (kcg0, 8, .inl fag)), (cl1, .inl (kcl1, 8, .inl fcl))] sz) := by
  refine Met.ofW (cc := cX9_findColumns) (maxL := 5) (ret := none) (by decide) rfl ?_
  intro p e s m args below meth c s₁ B hml hv
  obtain ⟨rfl, hsz, hN, hP, hK, hD0⟩ := hv
  have hx := B.exec
  have hb := B.bytes
  have hr := B.returns
  have hts0 := atoms_spec (ws := (wq yX9_findColumns cX9_findColumns 5 none)) B.pre
  have hts : ∀ w ∈ BG, w.before _ s = true := fun w h => hts0 w (List.mem_cons_of_mem _ h)
  have hown : s.vm.findClass RX9 = some m.cls := findClass_of_methodNamed B.named
  have hlocks := B.notSynchronized
  subst hsz
  have hD := hD0.self (sz := s.heap.size)
  generalize hAe : va_A [(h0, .inr (8, [w0, w1, w2, .ref l7, .int (nI kn), .ref l4, .ref l1, w7, w8, w9, w10, w11, w12, w13, .ref nm0, w15, w16, w17, w18, w19, w20, w21, w22, .ref cg0, .ref cl1, .int cm0, w26, w27, w28, w29, w30, w31, w32, w33, w34])), (l1, .inl (kl1, 10, .inl fll)), (l4, .inl (kl4, 100, .inl fln)), (nm0, .inl (knm0, 10, .inl fnm)), (l7, .inl (kl7, 10, .inl fib)), (cg0, .inl (kcg0, 8, .inl fag)), (cl1, .inl (kcl1, 8, .inl fcl))] s.heap.size = A at hD ⊢
  have hA : ∀ q : Nat, s.heap.size ≤ q → A q := fun q h => by rw [← hAe]; exact Or.inr h
  have hS : va_S A s.heap s.heap [] := va_S.rf
  clear hAe hD0
  have hP : va_P (dC, dI) vwCl [(h0, .inr (8, [w0, w1, w2, .ref l7, .int (nI kn), .ref l4, .ref l1, w7, w8, w9, w10, w11, w12, w13, .ref nm0, w15, w16, w17, w18, w19, w20, w21, w22, .ref cg0, .ref cl1, .int cm0, w26, w27, w28, w29, w30, w31, w32, w33, w34])), (l1, .inl (kl1, 10, .inl fll)), (l4, .inl (kl4, 100, .inl fln)), (nm0, .inl (knm0, 10, .inl fnm)), (l7, .inl (kl7, 10, .inl fib)), (cg0, .inl (kcg0, 8, .inl fag)), (cl1, .inl (kcl1, 8, .inl fcl))] s.heap := hP
  have hl := lv_entry ([.ref h0]) (n := 5) (Nat.le_of_ble_eq_true rfl)
  rw [lg_entry_eq]
  generalize (lg_sl ([.ref h0]) ++ List.replicate (5 - (lg_sl ([.ref h0])).length) Slot.unset).toArray = ls at hl ⊢
  have hl : lv_has ls 5 [(0, .ref h0)] := hl
  refine lv_iconst (v := 0) hx hb dX9_findColumns_0 (by decide) ?_
  refine lv_istore_n (lv' := [(1, .int 0), (0, .ref h0)]) hx hb dX9_findColumns_1 rfl hl (by decide) rfl (fun ls hl => ?_)
  refine lv_iconst (v := 0) hx hb dX9_findColumns_2 (by decide) ?_
  refine lv_istore_n (lv' := [(2, .int 0), (1, .int 0), (0, .ref h0)]) hx hb dX9_findColumns_3 rfl hl (by decide) rfl (fun ls hl => ?_)
  have key_1 : ∀ (fu : Nat) (k4 : Nat) (fgx : Nat → Int32), (k4 ≤ 8) → (∀ i, i < k4 → fgx i = 0) → 8 - k4 < fu → ∀ (H : Heap) (locs : List Loc), va_P (dC, dI) vwCl [(h0, .inr (8, [w0, w1, w2, .ref l7, .int (nI kn), .ref l4, .ref l1, w7, w8, w9, w10, w11, w12, w13, .ref nm0, w15, w16, w17, w18, w19, w20, w21, w22, .ref cg0, .ref cl1, .int cm0, w26, w27, w28, w29, w30, w31, w32, w33, w34])), (l1, .inl (kl1, 10, .inl fll)), (l4, .inl (kl4, 100, .inl fln)), (nm0, .inl (knm0, 10, .inl fnm)), (l7, .inl (kl7, 10, .inl fib)), (cg0, .inl (kcg0, 8, .inl fgx)), (cl1, .inl (kcl1, 8, .inl fcl))] H → va_D A [(h0, .inr (8, [w0, w1, w2, .ref l7, .int (nI kn), .ref l4, .ref l1, w7, w8, w9, w10, w11, w12, w13, .ref nm0, w15, w16, w17, w18, w19, w20, w21, w22, .ref cg0, .ref cl1, .int cm0, w26, w27, w28, w29, w30, w31, w32, w33, w34])), (l1, .inl (kl1, 10, .inl fll)), (l4, .inl (kl4, 100, .inl fln)), (nm0, .inl (knm0, 10, .inl fnm)), (l7, .inl (kl7, 10, .inl fib)), (cg0, .inl (kcg0, 8, .inl fgx)), (cl1, .inl (kcl1, 8, .inl fcl))] → va_S A s.heap H locs → ∀ (ls : Array Slot), lv_has ls 5 [(2, .int (nI k4)), (1, .int 0), (0, .ref h0)] → W p l e (headSpec (wq yX9_findColumns cX9_findColumns 5 none) ({ frames := 3, cells := 0, slots := 0, locals := 70 })).room s m (([.ref h0] : List Value)).toArray below meth c H locs 0 0 (MQ below (va_Qv (fun _ : Unit => True) (fun _ t => ∃ (fag2 : Nat → Int32) (fcl2 : Nat → Int32) (cm2 : Int32), (cm2 = nI (clN (UR (rowM fll fln fnm fib) kn) (KR (rowM fll fln fnm fib) kn))) ∧ (∀ i, i < 8 → fcl2 i = clC (UR (rowM fll fln fnm fib) kn) (KR (rowM fll fln fnm fib) kn) i) ∧ va_P (dC, dI) vwCl [(h0, .inr (8, [w0, w1, w2, .ref l7, .int (nI kn), .ref l4, .ref l1, w7, w8, w9, w10, w11, w12, w13, .ref nm0, w15, w16, w17, w18, w19, w20, w21, w22, .ref cg0, .ref cl1, .int cm2, w26, w27, w28, w29, w30, w31, w32, w33, w34])), (l1, .inl (kl1, 10, .inl fll)), (l4, .inl (kl4, 100, .inl fln)), (nm0, .inl (knm0, 10, .inl fnm)), (l7, .inl (kl7, 10, .inl fib)), (cg0, .inl (kcg0, 8, .inl fag2)), (cl1, .inl (kcl1, 8, .inl fcl2))] t.heap ∧ va_K (dC, dI) vwCl [(kl1, .int), (kl4, .int), (knm0, .int), (kl7, .boolean), (kcg0, .int), (kcl1, .int)] t ∧ va_D A [(h0, .inr (8, [w0, w1, w2, .ref l7, .int (nI kn), .ref l4, .ref l1, w7, w8, w9, w10, w11, w12, w13, .ref nm0, w15, w16, w17, w18, w19, w20, w21, w22, .ref cg0, .ref cl1, .int cm2, w26, w27, w28, w29, w30, w31, w32, w33, w34])), (l1, .inl (kl1, 10, .inl fll)), (l4, .inl (kl4, 100, .inl fln)), (nm0, .inl (knm0, 10, .inl fnm)), (l7, .inl (kl7, 10, .inl fib)), (cg0, .inl (kcg0, 8, .inl fag2)), (cl1, .inl (kcl1, 8, .inl fcl2))]) A) (([.ref h0] : List Value)).toArray s 0 0 A) (F0 m 4 ls []) := by
    intro fu
    induction fu with
    | zero => intro k4 fgx hk4 hz9 hme; exact absurd hme (Nat.not_lt_zero _)
    | succ fu ih_2 =>
      intro k4 fgx hk4 hz9 hme H locs hP hD hS ls hl
      refine lv_iload_n hx hb dX9_findColumns_4 rfl (lv_at hl 0 rfl) ?_
      refine lv_bipush (v := 8) hx hb dX9_findColumns_5 (by decide) ?_
      refine lv_icmp_ge (tgt := 23) hx hb dX9_findColumns_7 (by decide) (fun c_3 => ?_) (fun c_3 => ?_)
      · have b_4 := gx_ge (X := ((k4 : Nat) : Int)) (C := 8) (nI_toInt (by omega)) (by decide) c_3
        refine lv_iconst (v := 0) hx hb dX9_findColumns_23 (by decide) ?_
        refine lv_istore_n (lv' := [(2, .int 0), (1, .int 0), (0, .ref h0)]) hx hb dX9_findColumns_24 rfl hl (by decide) rfl (fun ls hl => ?_)
        have key_5 : ∀ (fu : Nat) (k : Nat) (ac : Int32) (fgy : Nat → Int32), (k ≤ kn) → (ac = usF (rowM fll fln fnm fib) k) → (∀ i, i < 8 → fgy i = agF (rowM fll fln fnm fib) i k) → kn - k < fu → ∀ (H : Heap) (locs : List Loc), va_P (dC, dI) vwCl [(h0, .inr (8, [w0, w1, w2, .ref l7, .int (nI kn), .ref l4, .ref l1, w7, w8, w9, w10, w11, w12, w13, .ref nm0, w15, w16, w17, w18, w19, w20, w21, w22, .ref cg0, .ref cl1, .int cm0, w26, w27, w28, w29, w30, w31, w32, w33, w34])), (l1, .inl (kl1, 10, .inl fll)), (l4, .inl (kl4, 100, .inl fln)), (nm0, .inl (knm0, 10, .inl fnm)), (l7, .inl (kl7, 10, .inl fib)), (cg0, .inl (kcg0, 8, .inl fgy)), (cl1, .inl (kcl1, 8, .inl fcl))] H → va_D A [(h0, .inr (8, [w0, w1, w2, .ref l7, .int (nI kn), .ref l4, .ref l1, w7, w8, w9, w10, w11, w12, w13, .ref nm0, w15, w16, w17, w18, w19, w20, w21, w22, .ref cg0, .ref cl1, .int cm0, w26, w27, w28, w29, w30, w31, w32, w33, w34])), (l1, .inl (kl1, 10, .inl fll)), (l4, .inl (kl4, 100, .inl fln)), (nm0, .inl (knm0, 10, .inl fnm)), (l7, .inl (kl7, 10, .inl fib)), (cg0, .inl (kcg0, 8, .inl fgy)), (cl1, .inl (kcl1, 8, .inl fcl))] → va_S A s.heap H locs → ∀ (ls : Array Slot), lv_has ls 5 [(2, .int (nI k)), (1, .int ac), (0, .ref h0)] → W p l e (headSpec (wq yX9_findColumns cX9_findColumns 5 none) ({ frames := 3, cells := 0, slots := 0, locals := 70 })).room s m (([.ref h0] : List Value)).toArray below meth c H locs 0 0 (MQ below (va_Qv (fun _ : Unit => True) (fun _ t => ∃ (fag2 : Nat → Int32) (fcl2 : Nat → Int32) (cm2 : Int32), (cm2 = nI (clN (UR (rowM fll fln fnm fib) kn) (KR (rowM fll fln fnm fib) kn))) ∧ (∀ i, i < 8 → fcl2 i = clC (UR (rowM fll fln fnm fib) kn) (KR (rowM fll fln fnm fib) kn) i) ∧ va_P (dC, dI) vwCl [(h0, .inr (8, [w0, w1, w2, .ref l7, .int (nI kn), .ref l4, .ref l1, w7, w8, w9, w10, w11, w12, w13, .ref nm0, w15, w16, w17, w18, w19, w20, w21, w22, .ref cg0, .ref cl1, .int cm2, w26, w27, w28, w29, w30, w31, w32, w33, w34])), (l1, .inl (kl1, 10, .inl fll)), (l4, .inl (kl4, 100, .inl fln)), (nm0, .inl (knm0, 10, .inl fnm)), (l7, .inl (kl7, 10, .inl fib)), (cg0, .inl (kcg0, 8, .inl fag2)), (cl1, .inl (kcl1, 8, .inl fcl2))] t.heap ∧ va_K (dC, dI) vwCl [(kl1, .int), (kl4, .int), (knm0, .int), (kl7, .boolean), (kcg0, .int), (kcl1, .int)] t ∧ va_D A [(h0, .inr (8, [w0, w1, w2, .ref l7, .int (nI kn), .ref l4, .ref l1, w7, w8, w9, w10, w11, w12, w13, .ref nm0, w15, w16, w17, w18, w19, w20, w21, w22, .ref cg0, .ref cl1, .int cm2, w26, w27, w28, w29, w30, w31, w32, w33, w34])), (l1, .inl (kl1, 10, .inl fll)), (l4, .inl (kl4, 100, .inl fln)), (nm0, .inl (knm0, 10, .inl fnm)), (l7, .inl (kl7, 10, .inl fib)), (cg0, .inl (kcg0, 8, .inl fag2)), (cl1, .inl (kcl1, 8, .inl fcl2))]) A) (([.ref h0] : List Value)).toArray s 0 0 A) (F0 m 25 ls []) := by
          intro fu
          induction fu with
          | zero => intro k ac fgy hk hus9 hgy hme; exact absurd hme (Nat.not_lt_zero _)
          | succ fu ih_6 =>
            intro k ac fgy hk hus9 hgy hme H locs hP hD hS ls hl
            refine lv_iload_n hx hb dX9_findColumns_25 rfl (lv_at hl 0 rfl) ?_
            refine lv_aload_n hx hb dX9_findColumns_26 rfl (lv_at hl 2 rfl) ?_
            refine va_get (D := (dC, dI)) (ci := 8) (v := .int (nI kn)) (C := RX9) (T := TX9) (N := 35) hx hb hts inB_9 hown hK hP 0 rfl rfl 4 (by decide) (hts _ mw_3_186) (fun _ h9 => h9) rfl dX9_findColumns_27 ?_
            refine lv_icmp_ge (tgt := 97) hx hb dX9_findColumns_30 (by decide) (fun c_7 => ?_) (fun c_7 => ?_)
            · have b_8 := gx_ge (X := ((k : Nat) : Int)) (C := ((kn : Nat) : Int)) (nI_toInt (by omega)) (nI_toInt (by omega)) c_7
              refine lv_aload_n hx hb dX9_findColumns_97 rfl (lv_at hl 2 rfl) ?_
              refine lv_iconst (v := 0) hx hb dX9_findColumns_98 (by decide) ?_
              refine va_put (D := (dC, dI)) (ci := 8) (v := .int 0) (ty := .int) (C := RX9) (T := TX9) (N := 35) hx hb hts inB_9 tyX9 tyX9_ok nmX9 hown hK hP hD hS 0 rfl rfl 25 (by decide) (hts _ mw_3_207) (fun _ h9 => h9) rfl (by decide +kernel) rfl rfl (Nat.le_of_ble_eq_true rfl) dX9_findColumns_99 (fun H locs hP hD hS => ?_)
              have hP : va_P (dC, dI) vwCl [(h0, .inr (8, [w0, w1, w2, .ref l7, .int (nI kn), .ref l4, .ref l1, w7, w8, w9, w10, w11, w12, w13, .ref nm0, w15, w16, w17, w18, w19, w20, w21, w22, .ref cg0, .ref cl1, .int 0, w26, w27, w28, w29, w30, w31, w32, w33, w34])), (l1, .inl (kl1, 10, .inl fll)), (l4, .inl (kl4, 100, .inl fln)), (nm0, .inl (knm0, 10, .inl fnm)), (l7, .inl (kl7, 10, .inl fib)), (cg0, .inl (kcg0, 8, .inl fgy)), (cl1, .inl (kcl1, 8, .inl fcl))] H := hP
              have hD : va_D A [(h0, .inr (8, [w0, w1, w2, .ref l7, .int (nI kn), .ref l4, .ref l1, w7, w8, w9, w10, w11, w12, w13, .ref nm0, w15, w16, w17, w18, w19, w20, w21, w22, .ref cg0, .ref cl1, .int 0, w26, w27, w28, w29, w30, w31, w32, w33, w34])), (l1, .inl (kl1, 10, .inl fll)), (l4, .inl (kl4, 100, .inl fln)), (nm0, .inl (knm0, 10, .inl fnm)), (l7, .inl (kl7, 10, .inl fib)), (cg0, .inl (kcg0, 8, .inl fgy)), (cl1, .inl (kcl1, 8, .inl fcl))] := hD
              have key_9 : ∀ (fu : Nat) (cmq : Nat) (fcz : Nat → Int32), (cmq ≤ 8) → (∀ p, p < cmq → ¬ cE0 (bt ac) (kB fgy) p) → 8 - cmq < fu → ∀ (H : Heap) (locs : List Loc), va_P (dC, dI) vwCl [(h0, .inr (8, [w0, w1, w2, .ref l7, .int (nI kn), .ref l4, .ref l1, w7, w8, w9, w10, w11, w12, w13, .ref nm0, w15, w16, w17, w18, w19, w20, w21, w22, .ref cg0, .ref cl1, .int (nI cmq), w26, w27, w28, w29, w30, w31, w32, w33, w34])), (l1, .inl (kl1, 10, .inl fll)), (l4, .inl (kl4, 100, .inl fln)), (nm0, .inl (knm0, 10, .inl fnm)), (l7, .inl (kl7, 10, .inl fib)), (cg0, .inl (kcg0, 8, .inl fgy)), (cl1, .inl (kcl1, 8, .inl fcz))] H → va_D A [(h0, .inr (8, [w0, w1, w2, .ref l7, .int (nI kn), .ref l4, .ref l1, w7, w8, w9, w10, w11, w12, w13, .ref nm0, w15, w16, w17, w18, w19, w20, w21, w22, .ref cg0, .ref cl1, .int (nI cmq), w26, w27, w28, w29, w30, w31, w32, w33, w34])), (l1, .inl (kl1, 10, .inl fll)), (l4, .inl (kl4, 100, .inl fln)), (nm0, .inl (knm0, 10, .inl fnm)), (l7, .inl (kl7, 10, .inl fib)), (cg0, .inl (kcg0, 8, .inl fgy)), (cl1, .inl (kcl1, 8, .inl fcz))] → va_S A s.heap H locs → ∀ (ls : Array Slot), lv_has ls 5 [(2, .int (nI k)), (1, .int ac), (0, .ref h0)] → W p l e (headSpec (wq yX9_findColumns cX9_findColumns 5 none) ({ frames := 3, cells := 0, slots := 0, locals := 70 })).room s m (([.ref h0] : List Value)).toArray below meth c H locs 0 0 (MQ below (va_Qv (fun _ : Unit => True) (fun _ t => ∃ (fag2 : Nat → Int32) (fcl2 : Nat → Int32) (cm2 : Int32), (cm2 = nI (clN (UR (rowM fll fln fnm fib) kn) (KR (rowM fll fln fnm fib) kn))) ∧ (∀ i, i < 8 → fcl2 i = clC (UR (rowM fll fln fnm fib) kn) (KR (rowM fll fln fnm fib) kn) i) ∧ va_P (dC, dI) vwCl [(h0, .inr (8, [w0, w1, w2, .ref l7, .int (nI kn), .ref l4, .ref l1, w7, w8, w9, w10, w11, w12, w13, .ref nm0, w15, w16, w17, w18, w19, w20, w21, w22, .ref cg0, .ref cl1, .int cm2, w26, w27, w28, w29, w30, w31, w32, w33, w34])), (l1, .inl (kl1, 10, .inl fll)), (l4, .inl (kl4, 100, .inl fln)), (nm0, .inl (knm0, 10, .inl fnm)), (l7, .inl (kl7, 10, .inl fib)), (cg0, .inl (kcg0, 8, .inl fag2)), (cl1, .inl (kcl1, 8, .inl fcl2))] t.heap ∧ va_K (dC, dI) vwCl [(kl1, .int), (kl4, .int), (knm0, .int), (kl7, .boolean), (kcg0, .int), (kcl1, .int)] t ∧ va_D A [(h0, .inr (8, [w0, w1, w2, .ref l7, .int (nI kn), .ref l4, .ref l1, w7, w8, w9, w10, w11, w12, w13, .ref nm0, w15, w16, w17, w18, w19, w20, w21, w22, .ref cg0, .ref cl1, .int cm2, w26, w27, w28, w29, w30, w31, w32, w33, w34])), (l1, .inl (kl1, 10, .inl fll)), (l4, .inl (kl4, 100, .inl fln)), (nm0, .inl (knm0, 10, .inl fnm)), (l7, .inl (kl7, 10, .inl fib)), (cg0, .inl (kcg0, 8, .inl fag2)), (cl1, .inl (kcl1, 8, .inl fcl2))]) A) (([.ref h0] : List Value)).toArray s 0 0 A) (F0 m 102 ls []) := by
                intro fu
                induction fu with
                | zero => intro cmq fcz hcq hno9 hme; exact absurd hme (Nat.not_lt_zero _)
                | succ fu ih_10 =>
                  intro cmq fcz hcq hno9 hme H locs hP hD hS ls hl
                  refine lv_aload_n hx hb dX9_findColumns_102 rfl (lv_at hl 2 rfl) ?_
                  refine lv_iload_n hx hb dX9_findColumns_103 rfl (lv_at hl 1 rfl) ?_
                  refine lv_aload_n hx hb dX9_findColumns_104 rfl (lv_at hl 2 rfl) ?_
                  refine va_get (D := (dC, dI)) (ci := 8) (v := .int (nI cmq)) (C := RX9) (T := TX9) (N := 35) hx hb hts inB_9 hown hK hP 0 rfl rfl 25 (by decide) (hts _ mw_3_207) (fun _ h9 => h9) rfl dX9_findColumns_105 ?_
                  have hPc := hP.sub (ws' := [(h0, .inr (8, [w0, w1, w2, .ref l7, .int (nI kn), .ref l4, .ref l1, w7, w8, w9, w10, w11, w12, w13, .ref nm0, w15, w16, w17, w18, w19, w20, w21, w22, .ref cg0, .ref cl1, .int (nI cmq), w26, w27, w28, w29, w30, w31, w32, w33, w34])), (cg0, .inl (kcg0, 8, .inl fgy)), (cl1, .inl (kcl1, 8, .inl fcz))]) [0, 5, 6] rfl
                  have hDc := hD.sub (ws' := [(h0, .inr (8, [w0, w1, w2, .ref l7, .int (nI kn), .ref l4, .ref l1, w7, w8, w9, w10, w11, w12, w13, .ref nm0, w15, w16, w17, w18, w19, w20, w21, w22, .ref cg0, .ref cl1, .int (nI cmq), w26, w27, w28, w29, w30, w31, w32, w33, w34])), (cg0, .inl (kcg0, 8, .inl fgy)), (cl1, .inl (kcl1, 8, .inl fcz))]) [0, 5, 6] (by decide) rfl
                  have hKc := hK.sub (tys' := [(kcg0, .int), (kcl1, .int)]) [4, 5] rfl
                  have hFc := va_free (wc := [(h0, .inr (8, [w0, w1, w2, .ref l7, .int (nI kn), .ref l4, .ref l1, w7, w8, w9, w10, w11, w12, w13, .ref nm0, w15, w16, w17, w18, w19, w20, w21, w22, .ref cg0, .ref cl1, .int (nI cmq), w26, w27, w28, w29, w30, w31, w32, w33, w34])), (cg0, .inl (kcg0, 8, .inl fgy)), (cl1, .inl (kcl1, 8, .inl fcz))]) hD hS hA [0, 5, 6] rfl
                  refine va_calli (va_runV (As := [.int ac, .int (nI cmq)]) (rest := []) ⟨hx, hb, hml, hown, hts⟩ (m_fill l dC dI H.size h0 (w0) (w1) (w2) (.ref l7) (.int (nI kn)) (.ref l4) (.ref l1) (w7) (w8) (w9) (w10) (w11) (w12) (w13) (.ref nm0) (w15) (w16) (w17) (w18) (w19) (w20) (w21) (w22) cg0 cl1 (.int (nI cmq)) (w26) (w27) (w28) (w29) (w30) (w31) (w32) (w33) (w34) kcg0 fgy kcl1 fcz ac cmq hcq) (cwV 2 hts (gV mw_4_210 mw_4_212 mw_0_32 mw_1_9 mw_4_213) rfl rfl rfl (by decide +kernel) ⟨Nat.le_of_ble_eq_true rfl, Nat.le_of_ble_eq_true rfl⟩) ⟨pcW_blind, va_recv hKc hPc (ci := 8) (q0 := 0) rfl rfl, pcW_at hPc hKc hDc hN⟩ rfl rfl hl.1 rfl (lv_room (Nat.le_of_ble_eq_true rfl)) dX9_findColumns_108 ⟨Nat.le_of_ble_eq_true rfl, Nat.le_of_ble_eq_true rfl⟩) hS (fun q _ h => hFc q h) hFc (fun r_11 u t H1 locs ht hvm hw_11 hB hz1 hk1 hS => ?_)
                  obtain ⟨f_12, p_13, hP1, hK1, hD1⟩ := hB
                  rw [ht] at hP1
                  have hK1 := va_K.moved hvm.symm hK1
                  obtain ⟨hP, hD⟩ := va_join (wr := [(l1, .inl (kl1, 10, .inl fll)), (l4, .inl (kl4, 100, .inl fln)), (nm0, .inl (knm0, 10, .inl fnm)), (l7, .inl (kl7, 10, .inl fib))]) (w1 := [(h0, .inr (8, [w0, w1, w2, .ref l7, .int (nI kn), .ref l4, .ref l1, w7, w8, w9, w10, w11, w12, w13, .ref nm0, w15, w16, w17, w18, w19, w20, w21, w22, .ref cg0, .ref cl1, .int (nI cmq), w26, w27, w28, w29, w30, w31, w32, w33, w34])), (cg0, .inl (kcg0, 8, .inl fgy)), (cl1, .inl (kcl1, 8, .inl f_12))]) hP hD [0, 5, 6] [1, 2, 3, 4] rfl rfl (by decide) (by decide) hk1 hFc hP1 hD1
                  have hK := (hK.sub (tys' := [(kl1, .int), (kl4, .int), (knm0, .int), (kl7, .boolean)]) [0, 1, 2, 3] rfl).app hK1
                  clear hz1 hk1 hPc hDc hKc hFc
                  generalize H1 = H at hP hS ⊢
                  have hK : va_K (dC, dI) vwCl [(kl1, .int), (kl4, .int), (knm0, .int), (kl7, .boolean), (kcg0, .int), (kcl1, .int)] s := hK
                  have hP : va_P (dC, dI) vwCl [(l1, .inl (kl1, 10, .inl fll)), (l4, .inl (kl4, 100, .inl fln)), (nm0, .inl (knm0, 10, .inl fnm)), (l7, .inl (kl7, 10, .inl fib)), (h0, .inr (8, [w0, w1, w2, .ref l7, .int (nI kn), .ref l4, .ref l1, w7, w8, w9, w10, w11, w12, w13, .ref nm0, w15, w16, w17, w18, w19, w20, w21, w22, .ref cg0, .ref cl1, .int (nI cmq), w26, w27, w28, w29, w30, w31, w32, w33, w34])), (cg0, .inl (kcg0, 8, .inl fgy)), (cl1, .inl (kcl1, 8, .inl f_12))] H := hP
                  have hD : va_D A [(l1, .inl (kl1, 10, .inl fll)), (l4, .inl (kl4, 100, .inl fln)), (nm0, .inl (knm0, 10, .inl fnm)), (l7, .inl (kl7, 10, .inl fib)), (h0, .inr (8, [w0, w1, w2, .ref l7, .int (nI kn), .ref l4, .ref l1, w7, w8, w9, w10, w11, w12, w13, .ref nm0, w15, w16, w17, w18, w19, w20, w21, w22, .ref cg0, .ref cl1, .int (nI cmq), w26, w27, w28, w29, w30, w31, w32, w33, w34])), (cg0, .inl (kcg0, 8, .inl fgy)), (cl1, .inl (kcl1, 8, .inl f_12))] := hD
                  rcases hw_11 with ⟨rfl, p_14⟩ | ⟨rfl, p_14⟩
                  · skip
                    refine lv_if_ne (tgt := 127) hx hb dX9_findColumns_111 (by decide) (fun _ => ?_) (fun h => absurd h (by decide))
                    have hP9 := hP.sub (ws' := [(h0, .inr (8, [w0, w1, w2, .ref l7, .int (nI kn), .ref l4, .ref l1, w7, w8, w9, w10, w11, w12, w13, .ref nm0, w15, w16, w17, w18, w19, w20, w21, w22, .ref cg0, .ref cl1, .int (nI cmq), w26, w27, w28, w29, w30, w31, w32, w33, w34])), (l1, .inl (kl1, 10, .inl fll)), (l4, .inl (kl4, 100, .inl fln)), (nm0, .inl (knm0, 10, .inl fnm)), (l7, .inl (kl7, 10, .inl fib)), (cg0, .inl (kcg0, 8, .inl fgy)), (cl1, .inl (kcl1, 8, .inl f_12))]) [4, 0, 1, 2, 3, 5, 6] rfl
                    have hD9 := hD.sub (ws' := [(h0, .inr (8, [w0, w1, w2, .ref l7, .int (nI kn), .ref l4, .ref l1, w7, w8, w9, w10, w11, w12, w13, .ref nm0, w15, w16, w17, w18, w19, w20, w21, w22, .ref cg0, .ref cl1, .int (nI cmq), w26, w27, w28, w29, w30, w31, w32, w33, w34])), (l1, .inl (kl1, 10, .inl fll)), (l4, .inl (kl4, 100, .inl fln)), (nm0, .inl (knm0, 10, .inl fnm)), (l7, .inl (kl7, 10, .inl fib)), (cg0, .inl (kcg0, 8, .inl fgy)), (cl1, .inl (kcl1, 8, .inl f_12))]) [4, 0, 1, 2, 3, 5, 6] (by decide) rfl
                    have hK9 := hK.sub (tys' := [(kl1, .int), (kl4, .int), (knm0, .int), (kl7, .boolean), (kcg0, .int), (kcl1, .int)]) [0, 1, 2, 3, 4, 5] rfl
                    exact W.vret hx hb hr (fun t ht hW => ⟨⟨(), rfl, trivial, fgy, f_12, (nI cmq), (by rw [show kn = k from (by omega)]; exact congrArg nI (ag_end hus9 hgy hno9 p_14 (p_13 p_14)).1), (by rw [show kn = k from (by omega)]; exact (ag_end hus9 hgy hno9 p_14 (p_13 p_14)).2), by rw [ht]; exact hP9, va_K.moved hW.alike hK9, hD9⟩, hS.F ht⟩) hS.2.2 dX9_findColumns_127
                  · skip
                    refine lv_if_ne (tgt := 127) hx hb dX9_findColumns_111 (by decide) (fun h => absurd h (by decide)) (fun _ => ?_)
                    have h8 := ne_8 p_14
                    refine lv_aload_n hx hb dX9_findColumns_114 rfl (lv_at hl 2 rfl) ?_
                    refine lv_dup hx hb dX9_findColumns_115 rfl ?_
                    refine va_get (D := (dC, dI)) (ci := 8) (v := .int (nI cmq)) (C := RX9) (T := TX9) (N := 35) hx hb hts inB_9 hown hK hP 4 rfl rfl 25 (by decide) (hts _ mw_3_207) (fun _ h9 => h9) rfl dX9_findColumns_116 ?_
                    refine lv_iconst (v := 1) hx hb dX9_findColumns_119 (by decide) ?_
                    refine lv_iadd hx hb dX9_findColumns_120 ?_
                    refine hx_top (y := (nI (cmq + 1))) (nI_add cmq 1) ?_
                    refine va_put (D := (dC, dI)) (ci := 8) (v := .int (nI (cmq + 1))) (ty := .int) (C := RX9) (T := TX9) (N := 35) hx hb hts inB_9 tyX9 tyX9_ok nmX9 hown hK hP hD hS 4 rfl rfl 25 (by decide) (hts _ mw_3_207) (fun _ h9 => h9) rfl (by decide +kernel) rfl rfl (Nat.le_of_ble_eq_true rfl) dX9_findColumns_121 (fun H locs hP hD hS => ?_)
                    have hP : va_P (dC, dI) vwCl [(l1, .inl (kl1, 10, .inl fll)), (l4, .inl (kl4, 100, .inl fln)), (nm0, .inl (knm0, 10, .inl fnm)), (l7, .inl (kl7, 10, .inl fib)), (h0, .inr (8, [w0, w1, w2, .ref l7, .int (nI kn), .ref l4, .ref l1, w7, w8, w9, w10, w11, w12, w13, .ref nm0, w15, w16, w17, w18, w19, w20, w21, w22, .ref cg0, .ref cl1, .int (nI (cmq + 1)), w26, w27, w28, w29, w30, w31, w32, w33, w34])), (cg0, .inl (kcg0, 8, .inl fgy)), (cl1, .inl (kcl1, 8, .inl f_12))] H := hP
                    have hD : va_D A [(l1, .inl (kl1, 10, .inl fll)), (l4, .inl (kl4, 100, .inl fln)), (nm0, .inl (knm0, 10, .inl fnm)), (l7, .inl (kl7, 10, .inl fib)), (h0, .inr (8, [w0, w1, w2, .ref l7, .int (nI kn), .ref l4, .ref l1, w7, w8, w9, w10, w11, w12, w13, .ref nm0, w15, w16, w17, w18, w19, w20, w21, w22, .ref cg0, .ref cl1, .int (nI (cmq + 1)), w26, w27, w28, w29, w30, w31, w32, w33, w34])), (cg0, .inl (kcg0, 8, .inl fgy)), (cl1, .inl (kcl1, 8, .inl f_12))] := hD
                    refine lv_goto (tgt := 102) hx hb dX9_findColumns_124 (by decide) ?_
                    exact ih_10 (cmq + 1) f_12 (by omega) (nol_st (A := cE0 (bt ac) (kB fgy)) hno9 p_14) (by omega) _ _ (hP.sub (ws' := [(h0, .inr (8, [w0, w1, w2, .ref l7, .int (nI kn), .ref l4, .ref l1, w7, w8, w9, w10, w11, w12, w13, .ref nm0, w15, w16, w17, w18, w19, w20, w21, w22, .ref cg0, .ref cl1, .int (nI (cmq + 1)), w26, w27, w28, w29, w30, w31, w32, w33, w34])), (l1, .inl (kl1, 10, .inl fll)), (l4, .inl (kl4, 100, .inl fln)), (nm0, .inl (knm0, 10, .inl fnm)), (l7, .inl (kl7, 10, .inl fib)), (cg0, .inl (kcg0, 8, .inl fgy)), (cl1, .inl (kcl1, 8, .inl f_12))]) [4, 0, 1, 2, 3, 5, 6] rfl) (hD.sub (ws' := [(h0, .inr (8, [w0, w1, w2, .ref l7, .int (nI kn), .ref l4, .ref l1, w7, w8, w9, w10, w11, w12, w13, .ref nm0, w15, w16, w17, w18, w19, w20, w21, w22, .ref cg0, .ref cl1, .int (nI (cmq + 1)), w26, w27, w28, w29, w30, w31, w32, w33, w34])), (l1, .inl (kl1, 10, .inl fll)), (l4, .inl (kl4, 100, .inl fln)), (nm0, .inl (knm0, 10, .inl fnm)), (l7, .inl (kl7, 10, .inl fib)), (cg0, .inl (kcg0, 8, .inl fgy)), (cl1, .inl (kcl1, 8, .inl f_12))]) [4, 0, 1, 2, 3, 5, 6] (by decide) rfl) hS ls (lv_sub hl [0, 1, 2] rfl)
              exact key_9 ((8 - 0) + 1) 0 fcl (by omega) (fun p h => absurd h (Nat.not_lt_zero p)) (Nat.lt_succ_self _) _ _ hP hD hS ls (lv_sub hl [0, 1, 2] rfl)
            · have b_8 := gn_ge (X := ((k : Nat) : Int)) (C := ((kn : Nat) : Int)) (nI_toInt (by omega)) (nI_toInt (by omega)) c_7
              refine lv_aload_n hx hb dX9_findColumns_33 rfl (lv_at hl 2 rfl) ?_
              refine lv_iload_n hx hb dX9_findColumns_34 rfl (lv_at hl 0 rfl) ?_
              have hPc := hP.sub (ws' := [(h0, .inr (8, [w0, w1, w2, .ref l7, .int (nI kn), .ref l4, .ref l1, w7, w8, w9, w10, w11, w12, w13, .ref nm0, w15, w16, w17, w18, w19, w20, w21, w22, .ref cg0, .ref cl1, .int cm0, w26, w27, w28, w29, w30, w31, w32, w33, w34])), (l1, .inl (kl1, 10, .inl fll)), (l4, .inl (kl4, 100, .inl fln)), (nm0, .inl (knm0, 10, .inl fnm)), (l7, .inl (kl7, 10, .inl fib))]) [0, 1, 2, 3, 4] rfl
              have hDc := hD.sub (ws' := [(h0, .inr (8, [w0, w1, w2, .ref l7, .int (nI kn), .ref l4, .ref l1, w7, w8, w9, w10, w11, w12, w13, .ref nm0, w15, w16, w17, w18, w19, w20, w21, w22, .ref cg0, .ref cl1, .int cm0, w26, w27, w28, w29, w30, w31, w32, w33, w34])), (l1, .inl (kl1, 10, .inl fll)), (l4, .inl (kl4, 100, .inl fln)), (nm0, .inl (knm0, 10, .inl fnm)), (l7, .inl (kl7, 10, .inl fib))]) [0, 1, 2, 3, 4] (by decide) rfl
              have hKc := hK.sub (tys' := [(kl1, .int), (kl4, .int), (knm0, .int), (kl7, .boolean)]) [0, 1, 2, 3] rfl
              refine va_calli (va_runV (As := [.int (nI k)]) (rest := []) ⟨hx, hb, hml, hown, hts⟩ (m_answeredBy l dC dI H.size h0 (w0) (w1) (w2) l7 kn l4 l1 (w7) (w8) (w9) (w10) (w11) (w12) (w13) nm0 (w15) (w16) (w17) (w18) (w19) (w20) (w21) (w22) (.ref cg0) (.ref cl1) (.int cm0) (w26) (w27) (w28) (w29) (w30) (w31) (w32) (w33) (w34) kl1 fll kl4 fln knm0 fnm kl7 fib k hkn hll hln (by omega)) (cwV 1 hts (gV mw_4_202 mw_4_204 mw_0_30 mw_1_9 mw_4_205) rfl rfl rfl (by decide +kernel) ⟨Nat.le_of_ble_eq_true rfl, Nat.le_of_ble_eq_true rfl⟩) ⟨pcW_blind, va_recv hKc hPc (ci := 8) (q0 := 0) rfl rfl, pcW_at hPc hKc hDc hN⟩ rfl rfl hl.1 rfl (lv_room (Nat.le_of_ble_eq_true rfl)) dX9_findColumns_35 ⟨Nat.le_of_ble_eq_true rfl, Nat.le_of_ble_eq_true rfl⟩) hS (fun q h1 h2 => absurd h2 (Nat.not_le.mpr h1)) (fun q h => hA q (Nat.le_trans hS.1 h)) (fun r_15 u t H1 locs ht hvm hw_15 hB hz1 hk1 hS => ?_)
              have hP := keepP hP hk1
              clear hz1 hk1 hB ht hvm hPc hDc hKc
              generalize H1 = H at hP hS ⊢
              refine lv_istore_n (lv' := [(3, .int r_15), (2, .int (nI k)), (1, .int ac), (0, .ref h0)]) hx hb dX9_findColumns_38 rfl hl (by decide) rfl (fun ls hl => ?_)
              refine lv_iload_n hx hb dX9_findColumns_39 rfl (lv_at hl 2 rfl) ?_
              refine lv_iload_n hx hb dX9_findColumns_40 rfl (lv_at hl 0 rfl) ?_
              refine lv_ior hx hb dX9_findColumns_41 ?_
              refine lv_istore_n (lv' := [(1, .int (ac ||| r_15)), (3, .int r_15), (2, .int (nI k)), (0, .ref h0)]) hx hb dX9_findColumns_42 rfl hl (by decide) rfl (fun ls hl => ?_)
              refine lv_iconst (v := 0) hx hb dX9_findColumns_43 (by decide) ?_
              refine lv_istore (lv' := [(4, .int 0), (1, .int (ac ||| r_15)), (3, .int r_15), (2, .int (nI k)), (0, .ref h0)]) hx hb dX9_findColumns_44 hl (by decide) rfl (fun ls hl => ?_)
              have key_16 : ∀ (fu : Nat) (n8 : Nat) (fgz : Nat → Int32), (n8 ≤ 8) → (GzP (rowM fll fln fnm fib) fgz k n8) → 8 - n8 < fu → ∀ (H : Heap) (locs : List Loc), va_P (dC, dI) vwCl [(h0, .inr (8, [w0, w1, w2, .ref l7, .int (nI kn), .ref l4, .ref l1, w7, w8, w9, w10, w11, w12, w13, .ref nm0, w15, w16, w17, w18, w19, w20, w21, w22, .ref cg0, .ref cl1, .int cm0, w26, w27, w28, w29, w30, w31, w32, w33, w34])), (l1, .inl (kl1, 10, .inl fll)), (l4, .inl (kl4, 100, .inl fln)), (nm0, .inl (knm0, 10, .inl fnm)), (l7, .inl (kl7, 10, .inl fib)), (cg0, .inl (kcg0, 8, .inl fgz)), (cl1, .inl (kcl1, 8, .inl fcl))] H → va_D A [(h0, .inr (8, [w0, w1, w2, .ref l7, .int (nI kn), .ref l4, .ref l1, w7, w8, w9, w10, w11, w12, w13, .ref nm0, w15, w16, w17, w18, w19, w20, w21, w22, .ref cg0, .ref cl1, .int cm0, w26, w27, w28, w29, w30, w31, w32, w33, w34])), (l1, .inl (kl1, 10, .inl fll)), (l4, .inl (kl4, 100, .inl fln)), (nm0, .inl (knm0, 10, .inl fnm)), (l7, .inl (kl7, 10, .inl fib)), (cg0, .inl (kcg0, 8, .inl fgz)), (cl1, .inl (kcl1, 8, .inl fcl))] → va_S A s.heap H locs → ∀ (ls : Array Slot), lv_has ls 5 [(4, .int (nI n8)), (1, .int (ac ||| r_15)), (3, .int r_15), (2, .int (nI k)), (0, .ref h0)] → W p l e (headSpec (wq yX9_findColumns cX9_findColumns 5 none) ({ frames := 3, cells := 0, slots := 0, locals := 70 })).room s m (([.ref h0] : List Value)).toArray below meth c H locs 0 0 (MQ below (va_Qv (fun _ : Unit => True) (fun _ t => ∃ (fag2 : Nat → Int32) (fcl2 : Nat → Int32) (cm2 : Int32), (cm2 = nI (clN (UR (rowM fll fln fnm fib) kn) (KR (rowM fll fln fnm fib) kn))) ∧ (∀ i, i < 8 → fcl2 i = clC (UR (rowM fll fln fnm fib) kn) (KR (rowM fll fln fnm fib) kn) i) ∧ va_P (dC, dI) vwCl [(h0, .inr (8, [w0, w1, w2, .ref l7, .int (nI kn), .ref l4, .ref l1, w7, w8, w9, w10, w11, w12, w13, .ref nm0, w15, w16, w17, w18, w19, w20, w21, w22, .ref cg0, .ref cl1, .int cm2, w26, w27, w28, w29, w30, w31, w32, w33, w34])), (l1, .inl (kl1, 10, .inl fll)), (l4, .inl (kl4, 100, .inl fln)), (nm0, .inl (knm0, 10, .inl fnm)), (l7, .inl (kl7, 10, .inl fib)), (cg0, .inl (kcg0, 8, .inl fag2)), (cl1, .inl (kcl1, 8, .inl fcl2))] t.heap ∧ va_K (dC, dI) vwCl [(kl1, .int), (kl4, .int), (knm0, .int), (kl7, .boolean), (kcg0, .int), (kcl1, .int)] t ∧ va_D A [(h0, .inr (8, [w0, w1, w2, .ref l7, .int (nI kn), .ref l4, .ref l1, w7, w8, w9, w10, w11, w12, w13, .ref nm0, w15, w16, w17, w18, w19, w20, w21, w22, .ref cg0, .ref cl1, .int cm2, w26, w27, w28, w29, w30, w31, w32, w33, w34])), (l1, .inl (kl1, 10, .inl fll)), (l4, .inl (kl4, 100, .inl fln)), (nm0, .inl (knm0, 10, .inl fnm)), (l7, .inl (kl7, 10, .inl fib)), (cg0, .inl (kcg0, 8, .inl fag2)), (cl1, .inl (kcl1, 8, .inl fcl2))]) A) (([.ref h0] : List Value)).toArray s 0 0 A) (F0 m 46 ls []) := by
                intro fu
                induction fu with
                | zero => intro n8 fgz hn8 hgz hme; exact absurd hme (Nat.not_lt_zero _)
                | succ fu ih_17 =>
                  intro n8 fgz hn8 hgz hme H locs hP hD hS ls hl
                  refine lv_iload hx hb dX9_findColumns_46 (lv_at hl 0 rfl) ?_
                  refine lv_bipush (v := 8) hx hb dX9_findColumns_48 (by decide) ?_
                  refine lv_icmp_ge (tgt := 91) hx hb dX9_findColumns_50 (by decide) (fun c_18 => ?_) (fun c_18 => ?_)
                  · have b_19 := gx_ge (X := ((n8 : Nat) : Int)) (C := 8) (nI_toInt (by omega)) (by decide) c_18
                    refine lv_iinc (v := (nI (k + 1))) (lv' := [(2, .int (nI (k + 1))), (4, .int (nI n8)), (1, .int (ac ||| r_15)), (3, .int r_15), (0, .ref h0)]) hx hb dX9_findColumns_91 hl (k := 3) rfl (nI_add k 1) (by decide) rfl (fun ls hl => ?_)
                    refine lv_goto (tgt := 25) hx hb dX9_findColumns_94 (by decide) ?_
                    exact ih_6 (k + 1) (ac ||| r_15) fgz (by omega) (us_st hus9 hw_15) (gz_end hgz (by omega)) (by omega) _ _ hP hD hS ls (lv_sub hl [0, 2, 4] rfl)
                  · have b_19 := gn_ge (X := ((n8 : Nat) : Int)) (C := 8) (nI_toInt (by omega)) (by decide) c_18
                    refine lv_aload_n hx hb dX9_findColumns_53 rfl (lv_at hl 4 rfl) ?_
                    refine va_get (D := (dC, dI)) (ci := 8) (v := .ref cg0) (C := RX9) (T := TX9) (N := 35) hx hb hts inB_9 hown hK hP 0 rfl rfl 23 (by decide) (hts _ mw_3_205) (fun _ h9 => h9) rfl dX9_findColumns_54 ?_
                    refine lv_iload hx hb dX9_findColumns_57 (lv_at hl 0 rfl) ?_
                    refine lv_dup2_11 hx hb dX9_findColumns_59 rfl rfl ?_
                    refine va_iald hx hb hK hP 5 4 rfl rfl (show vp_in (nI n8) 8 from vp_in_nI (by omega) (by omega)) dX9_findColumns_60 ?_
                    refine hx_top (y := (fgz n8)) (congrArg _ (nI_clamp (by omega))) ?_
                    refine lv_iload_n hx hb dX9_findColumns_61 rfl (lv_at hl 2 rfl) ?_
                    refine lv_iload hx hb dX9_findColumns_62 (lv_at hl 0 rfl) ?_
                    refine lv_ishr hx hb dX9_findColumns_64 ?_
                    refine lv_iconst (v := 1) hx hb dX9_findColumns_65 (by decide) ?_
                    refine lv_iand hx hb dX9_findColumns_66 ?_
                    refine lv_iconst (v := 1) hx hb dX9_findColumns_67 (by decide) ?_
                    refine lv_icmp_ne (tgt := 82) hx hb dX9_findColumns_68 (by decide) (fun c_20 => ?_) (fun c_20 => ?_)
                    · have b_21 := gx_ne (X := (Int32.toInt ((r_15 >>> ((nI n8) &&& 31)) &&& 1))) (C := 1) rfl (by decide) c_20
                      refine lv_iconst (v := 0) hx hb dX9_findColumns_82 (by decide) ?_
                      refine lv_ior hx hb dX9_findColumns_83 ?_
                      refine va_iast hx hb hK hP hD hS 5 4 rfl rfl (show vp_in (nI n8) 8 from vp_in_nI (by omega) (by omega)) dX9_findColumns_84 (fun H locs hP hD hS => ?_)
                      obtain ⟨f_22, ef_22⟩ : ∃ g : Nat → Int32, g = upd fgz (Int32.toNatClampNeg (nI n8)) ((fgz n8) ||| 0) := ⟨_, rfl⟩
                      rw [← ef_22] at hP hD
                      have ef_22 : f_22 = upd fgz n8 ((fgz n8) ||| 0) := by rw [ef_22, nI_clamp (by omega)]
                      have hP : va_P (dC, dI) vwCl [(h0, .inr (8, [w0, w1, w2, .ref l7, .int (nI kn), .ref l4, .ref l1, w7, w8, w9, w10, w11, w12, w13, .ref nm0, w15, w16, w17, w18, w19, w20, w21, w22, .ref cg0, .ref cl1, .int cm0, w26, w27, w28, w29, w30, w31, w32, w33, w34])), (l1, .inl (kl1, 10, .inl fll)), (l4, .inl (kl4, 100, .inl fln)), (nm0, .inl (knm0, 10, .inl fnm)), (l7, .inl (kl7, 10, .inl fib)), (cg0, .inl (kcg0, 8, .inl f_22)), (cl1, .inl (kcl1, 8, .inl fcl))] H := hP
                      have hD : va_D A [(h0, .inr (8, [w0, w1, w2, .ref l7, .int (nI kn), .ref l4, .ref l1, w7, w8, w9, w10, w11, w12, w13, .ref nm0, w15, w16, w17, w18, w19, w20, w21, w22, .ref cg0, .ref cl1, .int cm0, w26, w27, w28, w29, w30, w31, w32, w33, w34])), (l1, .inl (kl1, 10, .inl fll)), (l4, .inl (kl4, 100, .inl fln)), (nm0, .inl (knm0, 10, .inl fnm)), (l7, .inl (kl7, 10, .inl fib)), (cg0, .inl (kcg0, 8, .inl f_22)), (cl1, .inl (kcl1, 8, .inl fcl))] := hD
                      refine lv_iinc (v := (nI (n8 + 1))) (lv' := [(4, .int (nI (n8 + 1))), (1, .int (ac ||| r_15)), (3, .int r_15), (2, .int (nI k)), (0, .ref h0)]) hx hb dX9_findColumns_85 hl (k := 0) rfl (nI_add n8 1) (by decide) rfl (fun ls hl => ?_)
                      refine lv_goto (tgt := 46) hx hb dX9_findColumns_88 (by decide) ?_
                      exact ih_17 (n8 + 1) f_22 (by omega) (gz_no hgz (by omega) hw_15 (t_n1 (by omega) c_20) ef_22) (by omega) _ _ hP hD hS ls (lv_sub hl [0, 1, 2, 3, 4] rfl)
                    · have b_21 := gn_ne (X := (Int32.toInt ((r_15 >>> ((nI n8) &&& 31)) &&& 1))) (C := 1) rfl (by decide) c_20
                      refine lv_iload_n hx hb dX9_findColumns_71 rfl (lv_at hl 2 rfl) ?_
                      refine lv_iconst (v := 1) hx hb dX9_findColumns_72 (by decide) ?_
                      refine lv_iload hx hb dX9_findColumns_73 (lv_at hl 0 rfl) ?_
                      refine lv_ishl hx hb dX9_findColumns_75 ?_
                      refine lv_iconst (v := (-1)) hx hb dX9_findColumns_76 (by decide) ?_
                      refine lv_ixor hx hb dX9_findColumns_77 ?_
                      refine lv_iand hx hb dX9_findColumns_78 ?_
                      refine lv_goto (tgt := 83) hx hb dX9_findColumns_79 (by decide) ?_
                      refine lv_ior hx hb dX9_findColumns_83 ?_
                      refine va_iast hx hb hK hP hD hS 5 4 rfl rfl (show vp_in (nI n8) 8 from vp_in_nI (by omega) (by omega)) dX9_findColumns_84 (fun H locs hP hD hS => ?_)
                      obtain ⟨f_23, ef_23⟩ : ∃ g : Nat → Int32, g = upd fgz (Int32.toNatClampNeg (nI n8)) ((fgz n8) ||| (r_15 &&& ((1 <<< ((nI n8) &&& 31)) ^^^ (-1)))) := ⟨_, rfl⟩
                      rw [← ef_23] at hP hD
                      have ef_23 : f_23 = upd fgz n8 ((fgz n8) ||| (r_15 &&& ((1 <<< ((nI n8) &&& 31)) ^^^ (-1)))) := by rw [ef_23, nI_clamp (by omega)]
                      have hP : va_P (dC, dI) vwCl [(h0, .inr (8, [w0, w1, w2, .ref l7, .int (nI kn), .ref l4, .ref l1, w7, w8, w9, w10, w11, w12, w13, .ref nm0, w15, w16, w17, w18, w19, w20, w21, w22, .ref cg0, .ref cl1, .int cm0, w26, w27, w28, w29, w30, w31, w32, w33, w34])), (l1, .inl (kl1, 10, .inl fll)), (l4, .inl (kl4, 100, .inl fln)), (nm0, .inl (knm0, 10, .inl fnm)), (l7, .inl (kl7, 10, .inl fib)), (cg0, .inl (kcg0, 8, .inl f_23)), (cl1, .inl (kcl1, 8, .inl fcl))] H := hP
                      have hD : va_D A [(h0, .inr (8, [w0, w1, w2, .ref l7, .int (nI kn), .ref l4, .ref l1, w7, w8, w9, w10, w11, w12, w13, .ref nm0, w15, w16, w17, w18, w19, w20, w21, w22, .ref cg0, .ref cl1, .int cm0, w26, w27, w28, w29, w30, w31, w32, w33, w34])), (l1, .inl (kl1, 10, .inl fll)), (l4, .inl (kl4, 100, .inl fln)), (nm0, .inl (knm0, 10, .inl fnm)), (l7, .inl (kl7, 10, .inl fib)), (cg0, .inl (kcg0, 8, .inl f_23)), (cl1, .inl (kcl1, 8, .inl fcl))] := hD
                      refine lv_iinc (v := (nI (n8 + 1))) (lv' := [(4, .int (nI (n8 + 1))), (1, .int (ac ||| r_15)), (3, .int r_15), (2, .int (nI k)), (0, .ref h0)]) hx hb dX9_findColumns_85 hl (k := 0) rfl (nI_add n8 1) (by decide) rfl (fun ls hl => ?_)
                      refine lv_goto (tgt := 46) hx hb dX9_findColumns_88 (by decide) ?_
                      exact ih_17 (n8 + 1) f_23 (by omega) (gz_yes hgz (by omega) hw_15 (t_1 (by omega) c_20) ef_23) (by omega) _ _ hP hD hS ls (lv_sub hl [0, 1, 2, 3, 4] rfl)
              exact key_16 ((8 - 0) + 1) 0 fgy (by omega) (gz_0 hgy) (Nat.lt_succ_self _) _ _ hP hD hS ls (lv_sub hl [0, 1, 2, 3, 4] rfl)
        exact key_5 ((kn - 0) + 1) 0 0 fgx (by omega) rfl (fun i h => hz9 i (by omega)) (Nat.lt_succ_self _) _ _ hP hD hS ls (lv_sub hl [0, 1, 2] rfl)
      · have b_4 := gn_ge (X := ((k4 : Nat) : Int)) (C := 8) (nI_toInt (by omega)) (by decide) c_3
        refine lv_aload_n hx hb dX9_findColumns_10 rfl (lv_at hl 2 rfl) ?_
        refine va_get (D := (dC, dI)) (ci := 8) (v := .ref cg0) (C := RX9) (T := TX9) (N := 35) hx hb hts inB_9 hown hK hP 0 rfl rfl 23 (by decide) (hts _ mw_3_205) (fun _ h9 => h9) rfl dX9_findColumns_11 ?_
        refine lv_iload_n hx hb dX9_findColumns_14 rfl (lv_at hl 0 rfl) ?_
        refine lv_iconst (v := 0) hx hb dX9_findColumns_15 (by decide) ?_
        refine va_iast hx hb hK hP hD hS 5 4 rfl rfl (show vp_in (nI k4) 8 from vp_in_nI (by omega) (by omega)) dX9_findColumns_16 (fun H locs hP hD hS => ?_)
        obtain ⟨f_24, ef_24⟩ : ∃ g : Nat → Int32, g = upd fgx (Int32.toNatClampNeg (nI k4)) 0 := ⟨_, rfl⟩
        rw [← ef_24] at hP hD
        have ef_24 : f_24 = upd fgx k4 0 := by rw [ef_24, nI_clamp (by omega)]
        have hP : va_P (dC, dI) vwCl [(h0, .inr (8, [w0, w1, w2, .ref l7, .int (nI kn), .ref l4, .ref l1, w7, w8, w9, w10, w11, w12, w13, .ref nm0, w15, w16, w17, w18, w19, w20, w21, w22, .ref cg0, .ref cl1, .int cm0, w26, w27, w28, w29, w30, w31, w32, w33, w34])), (l1, .inl (kl1, 10, .inl fll)), (l4, .inl (kl4, 100, .inl fln)), (nm0, .inl (knm0, 10, .inl fnm)), (l7, .inl (kl7, 10, .inl fib)), (cg0, .inl (kcg0, 8, .inl f_24)), (cl1, .inl (kcl1, 8, .inl fcl))] H := hP
        have hD : va_D A [(h0, .inr (8, [w0, w1, w2, .ref l7, .int (nI kn), .ref l4, .ref l1, w7, w8, w9, w10, w11, w12, w13, .ref nm0, w15, w16, w17, w18, w19, w20, w21, w22, .ref cg0, .ref cl1, .int cm0, w26, w27, w28, w29, w30, w31, w32, w33, w34])), (l1, .inl (kl1, 10, .inl fll)), (l4, .inl (kl4, 100, .inl fln)), (nm0, .inl (knm0, 10, .inl fnm)), (l7, .inl (kl7, 10, .inl fib)), (cg0, .inl (kcg0, 8, .inl f_24)), (cl1, .inl (kcl1, 8, .inl fcl))] := hD
        refine lv_iinc (v := (nI (k4 + 1))) (lv' := [(2, .int (nI (k4 + 1))), (1, .int 0), (0, .ref h0)]) hx hb dX9_findColumns_17 hl (k := 0) rfl (nI_add k4 1) (by decide) rfl (fun ls hl => ?_)
        refine lv_goto (tgt := 4) hx hb dX9_findColumns_20 (by decide) ?_
        exact ih_2 (k4 + 1) f_24 (by omega) (z_st hz9 ef_24) (by omega) _ _ hP hD hS ls (lv_sub hl [0, 1, 2] rfl)
  exact key_1 ((8 - 0) + 1) 0 fag (by omega) (fun i h => absurd h (Nat.not_lt_zero i)) (Nat.lt_succ_self _) _ _ hP hD hS ls (lv_sub hl [0, 1, 2] rfl)
set_option maxHeartbeats 4000000 in
set_option maxRecDepth 100000 in
theorem m_column (l : Launch) (dC : Nat → ClassId) (dI : Nat → Nat → Nat) (sz : Nat) (h0 : Nat) (w0 : Value) (w1 : Value) (w2 : Value) (l7 : Nat) (kn : Nat) (l4 : Nat) (l1 : Nat) (w7 : Value) (w8 : Value) (w9 : Value) (w10 : Value) (w11 : Value) (w12 : Value) (w13 : Value) (nm0 : Nat) (w15 : Value) (w16 : Value) (w17 : Value) (w18 : Value) (w19 : Value) (w20 : Value) (w21 : Value) (w22 : Value) (cg0 : Nat) (cl1 : Nat) (cm0 : Int32) (w26 : Value) (w27 : Value) (w28 : Value) (w29 : Value) (w30 : Value) (w31 : Value) (w32 : Value) (w33 : Value) (w34 : Value) (kl1 : ClassId) (fll : Nat → Int32) (kl4 : ClassId) (fln : Nat → Int32) (knm0 : ClassId) (fnm : Nat → Int32) (kl7 : ClassId) (fib : Nat → Int32) (kcg0 : ClassId) (fag : Nat → Int32) (kcl1 : ClassId) (fcl : Nat → Int32) (n1 : Int32) (hkn : kn ≤ 10) (hll : BdOk 10 10 fll) (hln : LnOk fll fln kn) : Met l yX9_column (wq yX9_column cX9_column 2 (some .int)) ({ frames := 4, cells := 0, slots := 0, locals := 94 }) (va_Pc [.ref h0, .int n1] (pcW dC dI [(kl1, .int), (kl4, .int), (knm0, .int), (kl7, .boolean), (kcg0, .int), (kcl1, .int)] [(h0, .inr (8, [w0, w1, w2, .ref l7, .int (nI kn), .ref l4, .ref l1, w7, w8, w9, w10, w11, w12, w13, .ref nm0, w15, w16, w17, w18, w19, w20, w21, w22, .ref cg0, .ref cl1, .int cm0, w26, w27, w28, w29, w30, w31, w32, w33, w34])), (l1, .inl (kl1, 10, .inl fll)), (l4, .inl (kl4, 100, .inl fln)), (nm0, .inl (knm0, 10, .inl fnm)), (l7, .inl (kl7, 10, .inl fib)), (cg0, .inl (kcg0, 8, .inl fag)), (cl1, .inl (kcl1, 8, .inl fcl))] sz)) (va_Qi (fun (r : Int32) (_ : Unit) => r = F_col (nI (clN (UR (rowM fll fln fnm fib) kn) (KR (rowM fll fln fnm fib) kn))) (clC (UR (rowM fll fln fnm fib) kn) (KR (rowM fll fln fnm fib) kn)) n1) (fun _ t => ∃ (fag2 : Nat → Int32) (fcl2 : Nat → Int32) (cm2 : Int32), va_P (dC, dI) vwCl [(h0, .inr (8, [w0, w1, w2, .ref l7, .int (nI kn), .ref l4, .ref l1, w7, w8, w9, w10, w11, w12, w13, .ref nm0, w15, w16, w17, w18, w19, w20, w21, w22, .ref cg0, .ref cl1, .int cm2, w26, w27, w28, w29, w30, w31, w32, w33, w34])), (l1, .inl (kl1, 10, .inl fll)), (l4, .inl (kl4, 100, .inl fln)), (nm0, .inl (knm0, 10, .inl fnm)), (l7, .inl (kl7, 10, .inl fib)), (cg0, .inl (kcg0, 8, .inl fag2)), (cl1, .inl (kcl1, 8, .inl fcl2))] t.heap ∧ va_K (dC, dI) vwCl [(kl1, .int), (kl4, .int), (knm0, .int), (kl7, .boolean), (kcg0, .int), (kcl1, .int)] t ∧ va_D (va_A [(h0, .inr (8, [w0, w1, w2, .ref l7, .int (nI kn), .ref l4, .ref l1, w7, w8, w9, w10, w11, w12, w13, .ref nm0, w15, w16, w17, w18, w19, w20, w21, w22, .ref cg0, .ref cl1, .int cm0, w26, w27, w28, w29, w30, w31, w32, w33, w34])), (l1, .inl (kl1, 10, .inl fll)), (l4, .inl (kl4, 100, .inl fln)), (nm0, .inl (knm0, 10, .inl fnm)), (l7, .inl (kl7, 10, .inl fib)), (cg0, .inl (kcg0, 8, .inl fag)), (cl1, .inl (kcl1, 8, .inl fcl))] sz) [(h0, .inr (8, [w0, w1, w2, .ref l7, .int (nI kn), .ref l4, .ref l1, w7, w8, w9, w10, w11, w12, w13, .ref nm0, w15, w16, w17, w18, w19, w20, w21, w22, .ref cg0, .ref cl1, .int cm2, w26, w27, w28, w29, w30, w31, w32, w33, w34])), (l1, .inl (kl1, 10, .inl fll)), (l4, .inl (kl4, 100, .inl fln)), (nm0, .inl (knm0, 10, .inl fnm)), (l7, .inl (kl7, 10, .inl fib)), (cg0, .inl (kcg0, 8, .inl fag2)), (cl1, .inl (kcl1, 8, .inl fcl2))]) (va_A [(h0, .inr (8, [w0, w1, w2, .ref l7, .int (nI kn), .ref l4, .ref l1, w7, w8, w9, w10, w11, w12, w13, .ref nm0, w15, w16, w17, w18, w19, w20, w21, w22, .ref cg0, .ref cl1, .int cm0, w26, w27, w28, w29, w30, w31, w32, w33, w34])), (l1, .inl (kl1, 10, .inl fll)), (l4, .inl (kl4, 100, .inl fln)), (nm0, .inl (knm0, 10, .inl fnm)), (l7, .inl (kl7, 10, .inl fib)), (cg0, .inl (kcg0, 8, .inl fag)), (cl1, .inl (kcl1, 8, .inl fcl))] sz)) 0 0 (va_A [(h0, .inr (8, [w0, w1, w2, .ref l7, .int (nI kn), .ref l4, .ref l1, w7, w8, w9, w10, w11, w12, w13, .ref nm0, w15, w16, w17, w18, w19, w20, w21, w22, .ref cg0, .ref cl1, .int cm0, w26, w27, w28, w29, w30, w31, w32, w33, w34])), (l1, .inl (kl1, 10, .inl fll)), (l4, .inl (kl4, 100, .inl fln)), (nm0, .inl (knm0, 10, .inl fnm)), (l7, .inl (kl7, 10, .inl fib)), (cg0, .inl (kcg0, 8, .inl fag)), (cl1, .inl (kcl1, 8, .inl fcl))] sz) := by
  refine Met.ofW (cc := cX9_column) (maxL := 2) (ret := (some .int)) (by decide) rfl ?_
  intro p e s m args below meth c s₁ B hml hv
  obtain ⟨rfl, hsz, hN, hP, hK, hD0⟩ := hv
  have hx := B.exec
  have hb := B.bytes
  have hr := B.returns
  have hts0 := atoms_spec (ws := (wq yX9_column cX9_column 2 (some .int))) B.pre
  have hts : ∀ w ∈ BG, w.before _ s = true := fun w h => hts0 w (List.mem_cons_of_mem _ h)
  have hown : s.vm.findClass RX9 = some m.cls := findClass_of_methodNamed B.named
  have hlocks := B.notSynchronized
  subst hsz
  have hD := hD0.self (sz := s.heap.size)
  generalize hAe : va_A [(h0, .inr (8, [w0, w1, w2, .ref l7, .int (nI kn), .ref l4, .ref l1, w7, w8, w9, w10, w11, w12, w13, .ref nm0, w15, w16, w17, w18, w19, w20, w21, w22, .ref cg0, .ref cl1, .int cm0, w26, w27, w28, w29, w30, w31, w32, w33, w34])), (l1, .inl (kl1, 10, .inl fll)), (l4, .inl (kl4, 100, .inl fln)), (nm0, .inl (knm0, 10, .inl fnm)), (l7, .inl (kl7, 10, .inl fib)), (cg0, .inl (kcg0, 8, .inl fag)), (cl1, .inl (kcl1, 8, .inl fcl))] s.heap.size = A at hD ⊢
  have hA : ∀ q : Nat, s.heap.size ≤ q → A q := fun q h => by rw [← hAe]; exact Or.inr h
  have hS : va_S A s.heap s.heap [] := va_S.rf
  clear hAe hD0
  have hP : va_P (dC, dI) vwCl [(h0, .inr (8, [w0, w1, w2, .ref l7, .int (nI kn), .ref l4, .ref l1, w7, w8, w9, w10, w11, w12, w13, .ref nm0, w15, w16, w17, w18, w19, w20, w21, w22, .ref cg0, .ref cl1, .int cm0, w26, w27, w28, w29, w30, w31, w32, w33, w34])), (l1, .inl (kl1, 10, .inl fll)), (l4, .inl (kl4, 100, .inl fln)), (nm0, .inl (knm0, 10, .inl fnm)), (l7, .inl (kl7, 10, .inl fib)), (cg0, .inl (kcg0, 8, .inl fag)), (cl1, .inl (kcl1, 8, .inl fcl))] s.heap := hP
  have hl := lv_entry ([.ref h0, .int n1]) (n := 2) (Nat.le_of_ble_eq_true rfl)
  rw [lg_entry_eq]
  generalize (lg_sl ([.ref h0, .int n1]) ++ List.replicate (2 - (lg_sl ([.ref h0, .int n1])).length) Slot.unset).toArray = ls at hl ⊢
  have hl : lv_has ls 2 [(0, .ref h0), (1, .int n1)] := hl
  refine lv_iload_n hx hb dX9_column_0 rfl (lv_at hl 1 rfl) ?_
  refine lv_iconst (v := (-1)) hx hb dX9_column_1 (by decide) ?_
  refine lv_icmp_eq (tgt := 14) hx hb dX9_column_2 (by decide) (fun c_1 => ?_) (fun c_1 => ?_)
  · have b_2 := gx_eq (X := (Int32.toInt n1)) (C := (-1)) rfl (by decide) c_1
    refine lv_aload_n hx hb dX9_column_14 rfl (lv_at hl 0 rfl) ?_
    have hPc := hP.sub (ws' := [(h0, .inr (8, [w0, w1, w2, .ref l7, .int (nI kn), .ref l4, .ref l1, w7, w8, w9, w10, w11, w12, w13, .ref nm0, w15, w16, w17, w18, w19, w20, w21, w22, .ref cg0, .ref cl1, .int cm0, w26, w27, w28, w29, w30, w31, w32, w33, w34])), (l1, .inl (kl1, 10, .inl fll)), (l4, .inl (kl4, 100, .inl fln)), (nm0, .inl (knm0, 10, .inl fnm)), (l7, .inl (kl7, 10, .inl fib)), (cg0, .inl (kcg0, 8, .inl fag)), (cl1, .inl (kcl1, 8, .inl fcl))]) [0, 1, 2, 3, 4, 5, 6] rfl
    have hDc := hD.sub (ws' := [(h0, .inr (8, [w0, w1, w2, .ref l7, .int (nI kn), .ref l4, .ref l1, w7, w8, w9, w10, w11, w12, w13, .ref nm0, w15, w16, w17, w18, w19, w20, w21, w22, .ref cg0, .ref cl1, .int cm0, w26, w27, w28, w29, w30, w31, w32, w33, w34])), (l1, .inl (kl1, 10, .inl fll)), (l4, .inl (kl4, 100, .inl fln)), (nm0, .inl (knm0, 10, .inl fnm)), (l7, .inl (kl7, 10, .inl fib)), (cg0, .inl (kcg0, 8, .inl fag)), (cl1, .inl (kcl1, 8, .inl fcl))]) [0, 1, 2, 3, 4, 5, 6] (by decide) rfl
    have hKc := hK.sub (tys' := [(kl1, .int), (kl4, .int), (knm0, .int), (kl7, .boolean), (kcg0, .int), (kcl1, .int)]) [0, 1, 2, 3, 4, 5] rfl
    have hFc := va_free (wc := [(h0, .inr (8, [w0, w1, w2, .ref l7, .int (nI kn), .ref l4, .ref l1, w7, w8, w9, w10, w11, w12, w13, .ref nm0, w15, w16, w17, w18, w19, w20, w21, w22, .ref cg0, .ref cl1, .int cm0, w26, w27, w28, w29, w30, w31, w32, w33, w34])), (l1, .inl (kl1, 10, .inl fll)), (l4, .inl (kl4, 100, .inl fln)), (nm0, .inl (knm0, 10, .inl fnm)), (l7, .inl (kl7, 10, .inl fib)), (cg0, .inl (kcg0, 8, .inl fag)), (cl1, .inl (kcl1, 8, .inl fcl))]) hD hS hA [0, 1, 2, 3, 4, 5, 6] rfl
    refine va_callv (va_runV (As := []) (rest := []) ⟨hx, hb, hml, hown, hts⟩ (m_findC l dC dI s.heap.size h0 (w0) (w1) (w2) l7 kn l4 l1 (w7) (w8) (w9) (w10) (w11) (w12) (w13) nm0 (w15) (w16) (w17) (w18) (w19) (w20) (w21) (w22) cg0 cl1 cm0 (w26) (w27) (w28) (w29) (w30) (w31) (w32) (w33) (w34) kl1 fll kl4 fln knm0 fnm kl7 fib kcg0 fag kcl1 fcl hkn hll hln) (cwV 0 hts (gV mw_4_198 mw_4_200 mw_0_29 mw_1_9 mw_4_201) rfl rfl rfl (by decide +kernel) ⟨Nat.le_of_ble_eq_true rfl, Nat.le_of_ble_eq_true rfl⟩) ⟨pcW_blind, va_recv hKc hPc (ci := 8) (q0 := 0) rfl rfl, pcW_at hPc hKc hDc hN⟩ rfl rfl hl.1 rfl (lv_room (Nat.le_of_ble_eq_true rfl)) dX9_column_15 ⟨Nat.le_of_ble_eq_true rfl, Nat.le_of_ble_eq_true rfl⟩) hS (fun q _ h => hFc q h) hFc (fun u t H1 locs ht hvm hw_3 hB hz1 hk1 hS => ?_)
    obtain ⟨f_4, f_5, z_6, p_7, p_8, hP1, hK1, hD1⟩ := hB
    rw [ht] at hP1
    have hK1 := va_K.moved hvm.symm hK1
    obtain ⟨hP, hD⟩ := va_join (wr := []) (w1 := [(h0, .inr (8, [w0, w1, w2, .ref l7, .int (nI kn), .ref l4, .ref l1, w7, w8, w9, w10, w11, w12, w13, .ref nm0, w15, w16, w17, w18, w19, w20, w21, w22, .ref cg0, .ref cl1, .int z_6, w26, w27, w28, w29, w30, w31, w32, w33, w34])), (l1, .inl (kl1, 10, .inl fll)), (l4, .inl (kl4, 100, .inl fln)), (nm0, .inl (knm0, 10, .inl fnm)), (l7, .inl (kl7, 10, .inl fib)), (cg0, .inl (kcg0, 8, .inl f_4)), (cl1, .inl (kcl1, 8, .inl f_5))]) hP hD [0, 1, 2, 3, 4, 5, 6] [] rfl rfl (by decide) (by decide) hk1 hFc hP1 hD1
    have hK := (hK.sub (tys' := []) [] rfl).app hK1
    clear hz1 hk1 hPc hDc hKc hFc
    generalize H1 = H at hP hS ⊢
    have hK : va_K (dC, dI) vwCl [(kl1, .int), (kl4, .int), (knm0, .int), (kl7, .boolean), (kcg0, .int), (kcl1, .int)] s := hK
    have hP : va_P (dC, dI) vwCl [(h0, .inr (8, [w0, w1, w2, .ref l7, .int (nI kn), .ref l4, .ref l1, w7, w8, w9, w10, w11, w12, w13, .ref nm0, w15, w16, w17, w18, w19, w20, w21, w22, .ref cg0, .ref cl1, .int z_6, w26, w27, w28, w29, w30, w31, w32, w33, w34])), (l1, .inl (kl1, 10, .inl fll)), (l4, .inl (kl4, 100, .inl fln)), (nm0, .inl (knm0, 10, .inl fnm)), (l7, .inl (kl7, 10, .inl fib)), (cg0, .inl (kcg0, 8, .inl f_4)), (cl1, .inl (kcl1, 8, .inl f_5))] H := hP
    have hD : va_D A [(h0, .inr (8, [w0, w1, w2, .ref l7, .int (nI kn), .ref l4, .ref l1, w7, w8, w9, w10, w11, w12, w13, .ref nm0, w15, w16, w17, w18, w19, w20, w21, w22, .ref cg0, .ref cl1, .int z_6, w26, w27, w28, w29, w30, w31, w32, w33, w34])), (l1, .inl (kl1, 10, .inl fll)), (l4, .inl (kl4, 100, .inl fln)), (nm0, .inl (knm0, 10, .inl fnm)), (l7, .inl (kl7, 10, .inl fib)), (cg0, .inl (kcg0, 8, .inl f_4)), (cl1, .inl (kcl1, 8, .inl f_5))] := hD
    refine lv_iload_n hx hb dX9_column_18 rfl (lv_at hl 1 rfl) ?_
    refine hx_top (y := (-1)) (fx_sing (C := -1) (by decide) (by omega)) ?_
    refine lv_iconst (v := (-1)) hx hb dX9_column_19 (by decide) ?_
    refine lv_icmp_ne (tgt := 30) hx hb dX9_column_20 (by decide) (fun h => absurd h (by decide)) (fun _ => ?_)
    refine lv_aload_n hx hb dX9_column_23 rfl (lv_at hl 0 rfl) ?_
    refine va_get (D := (dC, dI)) (ci := 8) (v := .int z_6) (C := RX9) (T := TX9) (N := 35) hx hb hts inB_9 hown hK hP 0 rfl rfl 25 (by decide) (hts _ mw_3_207) (fun _ h9 => h9) rfl dX9_column_24 ?_
    refine lv_goto (tgt := 36) hx hb dX9_column_27 (by decide) ?_
    have hP9 := hP.sub (ws' := [(h0, .inr (8, [w0, w1, w2, .ref l7, .int (nI kn), .ref l4, .ref l1, w7, w8, w9, w10, w11, w12, w13, .ref nm0, w15, w16, w17, w18, w19, w20, w21, w22, .ref cg0, .ref cl1, .int z_6, w26, w27, w28, w29, w30, w31, w32, w33, w34])), (l1, .inl (kl1, 10, .inl fll)), (l4, .inl (kl4, 100, .inl fln)), (nm0, .inl (knm0, 10, .inl fnm)), (l7, .inl (kl7, 10, .inl fib)), (cg0, .inl (kcg0, 8, .inl f_4)), (cl1, .inl (kcl1, 8, .inl f_5))]) [0, 1, 2, 3, 4, 5, 6] rfl
    have hD9 := hD.sub (ws' := [(h0, .inr (8, [w0, w1, w2, .ref l7, .int (nI kn), .ref l4, .ref l1, w7, w8, w9, w10, w11, w12, w13, .ref nm0, w15, w16, w17, w18, w19, w20, w21, w22, .ref cg0, .ref cl1, .int z_6, w26, w27, w28, w29, w30, w31, w32, w33, w34])), (l1, .inl (kl1, 10, .inl fll)), (l4, .inl (kl4, 100, .inl fln)), (nm0, .inl (knm0, 10, .inl fnm)), (l7, .inl (kl7, 10, .inl fib)), (cg0, .inl (kcg0, 8, .inl f_4)), (cl1, .inl (kcl1, 8, .inl f_5))]) [0, 1, 2, 3, 4, 5, 6] (by decide) rfl
    have hK9 := hK.sub (tys' := [(kl1, .int), (kl4, .int), (knm0, .int), (kl7, .boolean), (kcg0, .int), (kcl1, .int)]) [0, 1, 2, 3, 4, 5] rfl
    exact W.iret (v := z_6) hx hb hr (fun t ht hW => ⟨⟨z_6, (), rfl, (by unfold F_col; rw [if_pos (by omega)]; exact p_7), f_4, f_5, z_6, by rw [ht]; exact hP9, va_K.moved hW.alike hK9, hD9⟩, hS.F ht⟩) hS.2.2 dX9_column_36
  · have b_2 := gn_eq (X := (Int32.toInt n1)) (C := (-1)) rfl (by decide) c_1
    refine lv_iload_n hx hb dX9_column_5 rfl (lv_at hl 1 rfl) ?_
    have hPc := hP.sub (ws' := []) [] rfl
    have hDc := hD.sub (ws' := []) [] (by decide) rfl
    have hKc := hK.sub (tys' := []) [] rfl
    refine va_calli (va_runS (As := [.int n1]) (rest := []) ⟨hx, hb, hml, hown, hts⟩ (m_isName l dC dI s.heap.size n1 ) (va_cwS 1 hts (gS mw_4_115 mw_4_116 mw_1_9 mw_4_117) rfl rfl rfl (by decide +kernel) ⟨Nat.le_of_ble_eq_true rfl, Nat.le_of_ble_eq_true rfl⟩) ⟨pcW_blind, pcW_at hPc hKc hDc hN⟩ rfl rfl hl.1 rfl (lv_room (Nat.le_of_ble_eq_true rfl)) dX9_column_6 ⟨Nat.le_of_ble_eq_true rfl, Nat.le_of_ble_eq_true rfl⟩) hS (fun q h1 h2 => absurd h2 (Nat.not_le.mpr h1)) (fun q h => hA q (Nat.le_trans hS.1 h)) (fun r_9 u t H1 locs ht hvm hw_9 hB hz1 hk1 hS => ?_)
    have hP := keepP hP hk1
    clear hz1 hk1 hB ht hvm hPc hDc hKc
    generalize H1 = H at hP hS ⊢
    rcases fx_bool hw_9 with ⟨rfl, b_10⟩ | ⟨rfl, b_10⟩
    · skip
      refine lv_if_ne (tgt := 14) hx hb dX9_column_9 (by decide) (fun _ => ?_) (fun h => absurd h (by decide))
      refine lv_aload_n hx hb dX9_column_14 rfl (lv_at hl 0 rfl) ?_
      have hPc := hP.sub (ws' := [(h0, .inr (8, [w0, w1, w2, .ref l7, .int (nI kn), .ref l4, .ref l1, w7, w8, w9, w10, w11, w12, w13, .ref nm0, w15, w16, w17, w18, w19, w20, w21, w22, .ref cg0, .ref cl1, .int cm0, w26, w27, w28, w29, w30, w31, w32, w33, w34])), (l1, .inl (kl1, 10, .inl fll)), (l4, .inl (kl4, 100, .inl fln)), (nm0, .inl (knm0, 10, .inl fnm)), (l7, .inl (kl7, 10, .inl fib)), (cg0, .inl (kcg0, 8, .inl fag)), (cl1, .inl (kcl1, 8, .inl fcl))]) [0, 1, 2, 3, 4, 5, 6] rfl
      have hDc := hD.sub (ws' := [(h0, .inr (8, [w0, w1, w2, .ref l7, .int (nI kn), .ref l4, .ref l1, w7, w8, w9, w10, w11, w12, w13, .ref nm0, w15, w16, w17, w18, w19, w20, w21, w22, .ref cg0, .ref cl1, .int cm0, w26, w27, w28, w29, w30, w31, w32, w33, w34])), (l1, .inl (kl1, 10, .inl fll)), (l4, .inl (kl4, 100, .inl fln)), (nm0, .inl (knm0, 10, .inl fnm)), (l7, .inl (kl7, 10, .inl fib)), (cg0, .inl (kcg0, 8, .inl fag)), (cl1, .inl (kcl1, 8, .inl fcl))]) [0, 1, 2, 3, 4, 5, 6] (by decide) rfl
      have hKc := hK.sub (tys' := [(kl1, .int), (kl4, .int), (knm0, .int), (kl7, .boolean), (kcg0, .int), (kcl1, .int)]) [0, 1, 2, 3, 4, 5] rfl
      have hFc := va_free (wc := [(h0, .inr (8, [w0, w1, w2, .ref l7, .int (nI kn), .ref l4, .ref l1, w7, w8, w9, w10, w11, w12, w13, .ref nm0, w15, w16, w17, w18, w19, w20, w21, w22, .ref cg0, .ref cl1, .int cm0, w26, w27, w28, w29, w30, w31, w32, w33, w34])), (l1, .inl (kl1, 10, .inl fll)), (l4, .inl (kl4, 100, .inl fln)), (nm0, .inl (knm0, 10, .inl fnm)), (l7, .inl (kl7, 10, .inl fib)), (cg0, .inl (kcg0, 8, .inl fag)), (cl1, .inl (kcl1, 8, .inl fcl))]) hD hS hA [0, 1, 2, 3, 4, 5, 6] rfl
      refine va_callv (va_runV (As := []) (rest := []) ⟨hx, hb, hml, hown, hts⟩ (m_findC l dC dI H.size h0 (w0) (w1) (w2) l7 kn l4 l1 (w7) (w8) (w9) (w10) (w11) (w12) (w13) nm0 (w15) (w16) (w17) (w18) (w19) (w20) (w21) (w22) cg0 cl1 cm0 (w26) (w27) (w28) (w29) (w30) (w31) (w32) (w33) (w34) kl1 fll kl4 fln knm0 fnm kl7 fib kcg0 fag kcl1 fcl hkn hll hln) (cwV 0 hts (gV mw_4_198 mw_4_200 mw_0_29 mw_1_9 mw_4_201) rfl rfl rfl (by decide +kernel) ⟨Nat.le_of_ble_eq_true rfl, Nat.le_of_ble_eq_true rfl⟩) ⟨pcW_blind, va_recv hKc hPc (ci := 8) (q0 := 0) rfl rfl, pcW_at hPc hKc hDc hN⟩ rfl rfl hl.1 rfl (lv_room (Nat.le_of_ble_eq_true rfl)) dX9_column_15 ⟨Nat.le_of_ble_eq_true rfl, Nat.le_of_ble_eq_true rfl⟩) hS (fun q _ h => hFc q h) hFc (fun u t H1 locs ht hvm hw_11 hB hz1 hk1 hS => ?_)
      obtain ⟨f_12, f_13, z_14, p_15, p_16, hP1, hK1, hD1⟩ := hB
      rw [ht] at hP1
      have hK1 := va_K.moved hvm.symm hK1
      obtain ⟨hP, hD⟩ := va_join (wr := []) (w1 := [(h0, .inr (8, [w0, w1, w2, .ref l7, .int (nI kn), .ref l4, .ref l1, w7, w8, w9, w10, w11, w12, w13, .ref nm0, w15, w16, w17, w18, w19, w20, w21, w22, .ref cg0, .ref cl1, .int z_14, w26, w27, w28, w29, w30, w31, w32, w33, w34])), (l1, .inl (kl1, 10, .inl fll)), (l4, .inl (kl4, 100, .inl fln)), (nm0, .inl (knm0, 10, .inl fnm)), (l7, .inl (kl7, 10, .inl fib)), (cg0, .inl (kcg0, 8, .inl f_12)), (cl1, .inl (kcl1, 8, .inl f_13))]) hP hD [0, 1, 2, 3, 4, 5, 6] [] rfl rfl (by decide) (by decide) hk1 hFc hP1 hD1
      have hK := (hK.sub (tys' := []) [] rfl).app hK1
      clear hz1 hk1 hPc hDc hKc hFc
      generalize H1 = H at hP hS ⊢
      have hK : va_K (dC, dI) vwCl [(kl1, .int), (kl4, .int), (knm0, .int), (kl7, .boolean), (kcg0, .int), (kcl1, .int)] s := hK
      have hP : va_P (dC, dI) vwCl [(h0, .inr (8, [w0, w1, w2, .ref l7, .int (nI kn), .ref l4, .ref l1, w7, w8, w9, w10, w11, w12, w13, .ref nm0, w15, w16, w17, w18, w19, w20, w21, w22, .ref cg0, .ref cl1, .int z_14, w26, w27, w28, w29, w30, w31, w32, w33, w34])), (l1, .inl (kl1, 10, .inl fll)), (l4, .inl (kl4, 100, .inl fln)), (nm0, .inl (knm0, 10, .inl fnm)), (l7, .inl (kl7, 10, .inl fib)), (cg0, .inl (kcg0, 8, .inl f_12)), (cl1, .inl (kcl1, 8, .inl f_13))] H := hP
      have hD : va_D A [(h0, .inr (8, [w0, w1, w2, .ref l7, .int (nI kn), .ref l4, .ref l1, w7, w8, w9, w10, w11, w12, w13, .ref nm0, w15, w16, w17, w18, w19, w20, w21, w22, .ref cg0, .ref cl1, .int z_14, w26, w27, w28, w29, w30, w31, w32, w33, w34])), (l1, .inl (kl1, 10, .inl fll)), (l4, .inl (kl4, 100, .inl fln)), (nm0, .inl (knm0, 10, .inl fnm)), (l7, .inl (kl7, 10, .inl fib)), (cg0, .inl (kcg0, 8, .inl f_12)), (cl1, .inl (kcl1, 8, .inl f_13))] := hD
      refine lv_iload_n hx hb dX9_column_18 rfl (lv_at hl 1 rfl) ?_
      refine lv_iconst (v := (-1)) hx hb dX9_column_19 (by decide) ?_
      refine lv_icmp_ne (tgt := 30) hx hb dX9_column_20 (by decide) (fun c_17 => ?_) (fun h => absurd (gn_ne (X := (Int32.toInt n1)) (C := (-1)) rfl (by decide) h) (by omega))
      have b_18 := gx_ne (X := (Int32.toInt n1)) (C := (-1)) rfl (by decide) c_17
      obtain ⟨j_19, tj_19, ej_19⟩ := fx_nat (x := n1) (by omega)
      subst ej_19
      have yj_19 : Int32.toInt (nI j_19) = (j_19 : Int) := nI_toInt tj_19
      refine lv_aload_n hx hb dX9_column_30 rfl (lv_at hl 0 rfl) ?_
      refine va_get (D := (dC, dI)) (ci := 8) (v := .ref cl1) (C := RX9) (T := TX9) (N := 35) hx hb hts inB_9 hown hK hP 0 rfl rfl 24 (by decide) (hts _ mw_3_206) (fun _ h9 => h9) rfl dX9_column_31 ?_
      refine lv_iload_n hx hb dX9_column_34 rfl (lv_at hl 1 rfl) ?_
      refine va_iald hx hb hK hP 6 5 rfl rfl (show vp_in (nI j_19) 8 from vp_in_nI (by omega) (by omega)) dX9_column_35 ?_
      refine hx_top (y := (f_13 j_19)) (congrArg _ (nI_clamp (by omega))) ?_
      have hP9 := hP.sub (ws' := [(h0, .inr (8, [w0, w1, w2, .ref l7, .int (nI kn), .ref l4, .ref l1, w7, w8, w9, w10, w11, w12, w13, .ref nm0, w15, w16, w17, w18, w19, w20, w21, w22, .ref cg0, .ref cl1, .int z_14, w26, w27, w28, w29, w30, w31, w32, w33, w34])), (l1, .inl (kl1, 10, .inl fll)), (l4, .inl (kl4, 100, .inl fln)), (nm0, .inl (knm0, 10, .inl fnm)), (l7, .inl (kl7, 10, .inl fib)), (cg0, .inl (kcg0, 8, .inl f_12)), (cl1, .inl (kcl1, 8, .inl f_13))]) [0, 1, 2, 3, 4, 5, 6] rfl
      have hD9 := hD.sub (ws' := [(h0, .inr (8, [w0, w1, w2, .ref l7, .int (nI kn), .ref l4, .ref l1, w7, w8, w9, w10, w11, w12, w13, .ref nm0, w15, w16, w17, w18, w19, w20, w21, w22, .ref cg0, .ref cl1, .int z_14, w26, w27, w28, w29, w30, w31, w32, w33, w34])), (l1, .inl (kl1, 10, .inl fll)), (l4, .inl (kl4, 100, .inl fln)), (nm0, .inl (knm0, 10, .inl fnm)), (l7, .inl (kl7, 10, .inl fib)), (cg0, .inl (kcg0, 8, .inl f_12)), (cl1, .inl (kcl1, 8, .inl f_13))]) [0, 1, 2, 3, 4, 5, 6] (by decide) rfl
      have hK9 := hK.sub (tys' := [(kl1, .int), (kl4, .int), (knm0, .int), (kl7, .boolean), (kcg0, .int), (kcl1, .int)]) [0, 1, 2, 3, 4, 5] rfl
      exact W.iret (v := (f_13 j_19)) hx hb hr (fun t ht hW => ⟨⟨(f_13 j_19), (), rfl, (by unfold F_col; rw [if_neg (by omega), if_pos (by omega), nI_clamp (by omega)]; exact p_16 _ (by omega)), f_12, f_13, z_14, by rw [ht]; exact hP9, va_K.moved hW.alike hK9, hD9⟩, hS.F ht⟩) hS.2.2 dX9_column_36
    · skip
      refine lv_if_ne (tgt := 14) hx hb dX9_column_9 (by decide) (fun h => absurd h (by decide)) (fun _ => ?_)
      refine lv_iconst (v := (-1)) hx hb dX9_column_12 (by decide) ?_
      have hP9 := hP.sub (ws' := [(h0, .inr (8, [w0, w1, w2, .ref l7, .int (nI kn), .ref l4, .ref l1, w7, w8, w9, w10, w11, w12, w13, .ref nm0, w15, w16, w17, w18, w19, w20, w21, w22, .ref cg0, .ref cl1, .int cm0, w26, w27, w28, w29, w30, w31, w32, w33, w34])), (l1, .inl (kl1, 10, .inl fll)), (l4, .inl (kl4, 100, .inl fln)), (nm0, .inl (knm0, 10, .inl fnm)), (l7, .inl (kl7, 10, .inl fib)), (cg0, .inl (kcg0, 8, .inl fag)), (cl1, .inl (kcl1, 8, .inl fcl))]) [0, 1, 2, 3, 4, 5, 6] rfl
      have hD9 := hD.sub (ws' := [(h0, .inr (8, [w0, w1, w2, .ref l7, .int (nI kn), .ref l4, .ref l1, w7, w8, w9, w10, w11, w12, w13, .ref nm0, w15, w16, w17, w18, w19, w20, w21, w22, .ref cg0, .ref cl1, .int cm0, w26, w27, w28, w29, w30, w31, w32, w33, w34])), (l1, .inl (kl1, 10, .inl fll)), (l4, .inl (kl4, 100, .inl fln)), (nm0, .inl (knm0, 10, .inl fnm)), (l7, .inl (kl7, 10, .inl fib)), (cg0, .inl (kcg0, 8, .inl fag)), (cl1, .inl (kcl1, 8, .inl fcl))]) [0, 1, 2, 3, 4, 5, 6] (by decide) rfl
      have hK9 := hK.sub (tys' := [(kl1, .int), (kl4, .int), (knm0, .int), (kl7, .boolean), (kcg0, .int), (kcl1, .int)]) [0, 1, 2, 3, 4, 5] rfl
      exact W.iret (v := (-1)) hx hb hr (fun t ht hW => ⟨⟨(-1), (), rfl, (by unfold F_col; rw [if_neg (by omega), if_neg (by omega)]), fag, fcl, cm0, by rw [ht]; exact hP9, va_K.moved hW.alike hK9, hD9⟩, hS.F ht⟩) hS.2.2 dX9_column_13
