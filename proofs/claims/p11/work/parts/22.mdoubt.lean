theorem sh_back {f x f1 f2 : Nat → Int32} {j n : Nat} (h : x = f) (hb : bt (f j) n = false) (hn : n < 32) (e1 : f1 = upd x j (x j ||| ((1 : Int32) <<< (nI n &&& 31)))) (e2 : f2 = upd f1 j (f1 j &&& (((1 : Int32) <<< (nI n &&& 31)) ^^^ (-1)))) : f2 = f := by
  subst h
  funext i
  by_cases q : i = j
  · subst q
    rw [e2, pk_us, e1, pk_us]
    apply b_ext
    intro k hk
    rw [b_clr hn hk, b_set hn hk]
    by_cases z : k = n
    · subst z; rw [hb, decide_eq_true (p := k = k) rfl]; rfl
    · rw [decide_eq_false z, Bool.or_false]; cases bt (x i) k <;> rfl
  · rw [e2, pk_un q, e1, pk_un q]
theorem mw_4_170 : Cond.code yX9_havingOf cX9_havingOf 4 (some .int) ∈ BG := mB (t4 (i := 170) rfl) (by decide +kernel)
theorem mw_4_167 : Cond.methodLink RX9 176 yX9_havingOf ∈ BG := mB (t4 (i := 167) (by decide +kernel)) (by decide +kernel)
theorem mw_4_169 : Cond.instanceMethod yX9_havingOf ∈ BG := mB (t4 (i := 169) (by decide +kernel)) (by decide +kernel)
theorem mw_0_26 : Cond.selects RX9 yX9_havingOf yX9_havingOf ∈ BG := mB (t0 (i := 26) (by decide +kernel)) (by decide +kernel)
theorem mw_4_182 : Cond.code yX9_doubtBy cX9_doubtBy 4 (some .int) ∈ BG := mB (t4 (i := 182) rfl) (by decide +kernel)
theorem mw_4_179 : Cond.methodLink RX9 185 yX9_doubtBy ∈ BG := mB (t4 (i := 179) (by decide +kernel)) (by decide +kernel)
theorem mw_4_181 : Cond.instanceMethod yX9_doubtBy ∈ BG := mB (t4 (i := 181) (by decide +kernel)) (by decide +kernel)
theorem mw_0_28 : Cond.selects RX9 yX9_doubtBy yX9_doubtBy ∈ BG := mB (t0 (i := 28) (by decide +kernel)) (by decide +kernel)
theorem dX9_nearest_0 : decode cX9_nearest 0 = .ok (.aload_n 0, 1) := by decide +kernel
theorem dX9_nearest_1 : decode cX9_nearest 1 = .ok (.iload_n 1, 1) := by decide +kernel
theorem dX9_nearest_2 : decode cX9_nearest 2 = .ok (.invokevirtual 96, 3) := by decide +kernel
theorem dX9_nearest_5 : decode cX9_nearest 5 = .ok (.ifCond .eq 23, 3) := by decide +kernel
theorem dX9_nearest_8 : decode cX9_nearest 8 = .ok (.iload_n 2, 1) := by decide +kernel
theorem dX9_nearest_9 : decode cX9_nearest 9 = .ok (.invokestatic 132, 3) := by decide +kernel
theorem dX9_nearest_12 : decode cX9_nearest 12 = .ok (.ifCond .eq 16, 3) := by decide +kernel
theorem dX9_nearest_15 : decode cX9_nearest 15 = .ok (.aload_n 0, 1) := by decide +kernel
theorem dX9_nearest_16 : decode cX9_nearest 16 = .ok (.iload_n 1, 1) := by decide +kernel
theorem dX9_nearest_17 : decode cX9_nearest 17 = .ok (.aload_n 0, 1) := by decide +kernel
theorem dX9_nearest_18 : decode cX9_nearest 18 = .ok (.iload_n 2, 1) := by decide +kernel
theorem dX9_nearest_19 : decode cX9_nearest 19 = .ok (.invokevirtual 176, 3) := by decide +kernel
theorem dX9_nearest_22 : decode cX9_nearest 22 = .ok (.invokevirtual 179, 3) := by decide +kernel
theorem dX9_nearest_25 : decode cX9_nearest 25 = .ok (.goto 4, 3) := by decide +kernel
theorem dX9_nearest_29 : decode cX9_nearest 29 = .ok (.ireturn, 1) := by decide +kernel
theorem dX9_nearest_28 : decode cX9_nearest 28 = .ok (.iconst (-1), 1) := by decide +kernel
theorem dX9_doubt_0 : decode cX9_doubt 0 = .ok (.iload_n 1, 1) := by decide +kernel
theorem dX9_doubt_1 : decode cX9_doubt 1 = .ok (.invokestatic 132, 3) := by decide +kernel
theorem dX9_doubt_4 : decode cX9_doubt 4 = .ok (.ifCond .eq 15, 3) := by decide +kernel
theorem dX9_doubt_7 : decode cX9_doubt 7 = .ok (.aload_n 0, 1) := by decide +kernel
theorem dX9_doubt_8 : decode cX9_doubt 8 = .ok (.aload_n 0, 1) := by decide +kernel
theorem dX9_doubt_9 : decode cX9_doubt 9 = .ok (.iload_n 1, 1) := by decide +kernel
theorem dX9_doubt_10 : decode cX9_doubt 10 = .ok (.invokevirtual 176, 3) := by decide +kernel
theorem dX9_doubt_13 : decode cX9_doubt 13 = .ok (.invokevirtual 185, 3) := by decide +kernel
theorem dX9_doubt_16 : decode cX9_doubt 16 = .ok (.goto 4, 3) := by decide +kernel
theorem dX9_doubt_20 : decode cX9_doubt 20 = .ok (.ireturn, 1) := by decide +kernel
theorem dX9_doubt_19 : decode cX9_doubt 19 = .ok (.iconst (-1), 1) := by decide +kernel
theorem dX9_settle_0 : decode cX9_settle 0 = .ok (.iload_n 1, 1) := by decide +kernel
theorem dX9_settle_1 : decode cX9_settle 1 = .ok (.invokestatic 132, 3) := by decide +kernel
theorem dX9_settle_4 : decode cX9_settle 4 = .ok (.ifCond .ne 5, 3) := by decide +kernel
theorem dX9_settle_9 : decode cX9_settle 9 = .ok (.iload_n 2, 1) := by decide +kernel
theorem dX9_settle_10 : decode cX9_settle 10 = .ok (.i2l, 1) := by decide +kernel
theorem dX9_settle_11 : decode cX9_settle 11 = .ok (.lconst 0, 1) := by decide +kernel
theorem dX9_settle_12 : decode cX9_settle 12 = .ok (.lconst 1, 1) := by decide +kernel
theorem dX9_settle_13 : decode cX9_settle 13 = .ok (.invokestatic 90, 3) := by decide +kernel
theorem dX9_settle_16 : decode cX9_settle 16 = .ok (.ifCond .ne 6, 3) := by decide +kernel
theorem dX9_settle_22 : decode cX9_settle 22 = .ok (.aload_n 0, 1) := by decide +kernel
theorem dX9_settle_23 : decode cX9_settle 23 = .ok (.iload_n 1, 1) := by decide +kernel
theorem dX9_settle_24 : decode cX9_settle 24 = .ok (.invokevirtual 176, 3) := by decide +kernel
theorem dX9_settle_27 : decode cX9_settle 27 = .ok (.istore_n 3, 1) := by decide +kernel
theorem dX9_settle_28 : decode cX9_settle 28 = .ok (.bipush (-6), 2) := by decide +kernel
theorem dX9_settle_30 : decode cX9_settle 30 = .ok (.istore 4, 2) := by decide +kernel
theorem dX9_settle_32 : decode cX9_settle 32 = .ok (.iconst 0, 1) := by decide +kernel
theorem dX9_settle_33 : decode cX9_settle 33 = .ok (.istore 5, 2) := by decide +kernel
theorem dX9_settle_35 : decode cX9_settle 35 = .ok (.iload 5, 2) := by decide +kernel
theorem dX9_settle_37 : decode cX9_settle 37 = .ok (.iconst 1, 1) := by decide +kernel
theorem dX9_settle_38 : decode cX9_settle 38 = .ok (.aload_n 0, 1) := by decide +kernel
theorem dX9_settle_39 : decode cX9_settle 39 = .ok (.getfield 86, 3) := by decide +kernel
theorem dX9_settle_42 : decode cX9_settle 42 = .ok (.ishl, 1) := by decide +kernel
theorem dX9_settle_43 : decode cX9_settle 43 = .ok (.if_icmp .ge 61, 3) := by decide +kernel
theorem dX9_settle_104 : decode cX9_settle 104 = .ok (.iload_n 2, 1) := by decide +kernel
theorem dX9_settle_105 : decode cX9_settle 105 = .ok (.ifCond .ne 8, 3) := by decide +kernel
theorem dX9_settle_113 : decode cX9_settle 113 = .ok (.iload 4, 2) := by decide +kernel
theorem dX9_settle_115 : decode cX9_settle 115 = .ok (.invokestatic 182, 3) := by decide +kernel
theorem dX9_settle_118 : decode cX9_settle 118 = .ok (.ireturn, 1) := by decide +kernel
theorem dX9_settle_108 : decode cX9_settle 108 = .ok (.iload 4, 2) := by decide +kernel
theorem dX9_settle_110 : decode cX9_settle 110 = .ok (.goto 8, 3) := by decide +kernel
theorem dX9_settle_46 : decode cX9_settle 46 = .ok (.iload 5, 2) := by decide +kernel
theorem dX9_settle_48 : decode cX9_settle 48 = .ok (.iload_n 3, 1) := by decide +kernel
theorem dX9_settle_49 : decode cX9_settle 49 = .ok (.iand, 1) := by decide +kernel
theorem dX9_settle_50 : decode cX9_settle 50 = .ok (.ifCond .ne 25, 3) := by decide +kernel
theorem dX9_settle_75 : decode cX9_settle 75 = .ok (.iconst 0, 1) := by decide +kernel
theorem dX9_settle_76 : decode cX9_settle 76 = .ok (.istore 6, 2) := by decide +kernel
theorem dX9_settle_78 : decode cX9_settle 78 = .ok (.iload 6, 2) := by decide +kernel
theorem dX9_settle_80 : decode cX9_settle 80 = .ok (.ifCond .eq 18, 3) := by decide +kernel
theorem dX9_settle_98 : decode cX9_settle 98 = .ok (.iinc 5 1, 3) := by decide +kernel
theorem dX9_settle_101 : decode cX9_settle 101 = .ok (.goto (-66), 3) := by decide +kernel
theorem dX9_settle_53 : decode cX9_settle 53 = .ok (.iload 4, 2) := by decide +kernel
theorem dX9_settle_55 : decode cX9_settle 55 = .ok (.ifCond .lt 16, 3) := by decide +kernel
theorem dX9_settle_71 : decode cX9_settle 71 = .ok (.iconst 1, 1) := by decide +kernel
theorem dX9_settle_72 : decode cX9_settle 72 = .ok (.goto 4, 3) := by decide +kernel
theorem dX9_settle_83 : decode cX9_settle 83 = .ok (.aload_n 0, 1) := by decide +kernel
theorem dX9_settle_84 : decode cX9_settle 84 = .ok (.iload_n 3, 1) := by decide +kernel
theorem dX9_settle_85 : decode cX9_settle 85 = .ok (.iload 5, 2) := by decide +kernel
theorem dX9_settle_87 : decode cX9_settle 87 = .ok (.ior, 1) := by decide +kernel
theorem dX9_settle_88 : decode cX9_settle 88 = .ok (.invokevirtual 185, 3) := by decide +kernel
theorem dX9_settle_91 : decode cX9_settle 91 = .ok (.ifCond .ne 7, 3) := by decide +kernel
theorem dX9_settle_94 : decode cX9_settle 94 = .ok (.iload 5, 2) := by decide +kernel
theorem dX9_settle_96 : decode cX9_settle 96 = .ok (.istore 4, 2) := by decide +kernel
theorem dX9_settle_58 : decode cX9_settle 58 = .ok (.iload 5, 2) := by decide +kernel
theorem dX9_settle_60 : decode cX9_settle 60 = .ok (.invokestatic 182, 3) := by decide +kernel
theorem dX9_settle_63 : decode cX9_settle 63 = .ok (.iload 4, 2) := by decide +kernel
theorem dX9_settle_65 : decode cX9_settle 65 = .ok (.invokestatic 182, 3) := by decide +kernel
theorem dX9_settle_68 : decode cX9_settle 68 = .ok (.if_icmp .ge 7, 3) := by decide +kernel
theorem dX9_settle_19 : decode cX9_settle 19 = .ok (.bipush (-2), 2) := by decide +kernel
theorem dX9_settle_21 : decode cX9_settle 21 = .ok (.ireturn, 1) := by decide +kernel
theorem dX9_settle_7 : decode cX9_settle 7 = .ok (.iconst (-1), 1) := by decide +kernel
theorem dX9_settle_8 : decode cX9_settle 8 = .ok (.ireturn, 1) := by decide +kernel
theorem dX9_shift_0 : decode cX9_shift 0 = .ok (.aload_n 0, 1) := by decide +kernel
theorem dX9_shift_1 : decode cX9_shift 1 = .ok (.iload_n 1, 1) := by decide +kernel
theorem dX9_shift_2 : decode cX9_shift 2 = .ok (.invokevirtual 96, 3) := by decide +kernel
theorem dX9_shift_5 : decode cX9_shift 5 = .ok (.ifCond .eq 10, 3) := by decide +kernel
theorem dX9_shift_8 : decode cX9_shift 8 = .ok (.iload_n 2, 1) := by decide +kernel
theorem dX9_shift_9 : decode cX9_shift 9 = .ok (.invokestatic 132, 3) := by decide +kernel
theorem dX9_shift_12 : decode cX9_shift 12 = .ok (.ifCond .ne 5, 3) := by decide +kernel
theorem dX9_shift_17 : decode cX9_shift 17 = .ok (.aload_n 0, 1) := by decide +kernel
theorem dX9_shift_18 : decode cX9_shift 18 = .ok (.iload_n 1, 1) := by decide +kernel
theorem dX9_shift_19 : decode cX9_shift 19 = .ok (.iload_n 2, 1) := by decide +kernel
theorem dX9_shift_20 : decode cX9_shift 20 = .ok (.invokevirtual 142, 3) := by decide +kernel
theorem dX9_shift_23 : decode cX9_shift 23 = .ok (.ifCond .eq 6, 3) := by decide +kernel
theorem dX9_shift_26 : decode cX9_shift 26 = .ok (.bipush (-5), 2) := by decide +kernel
theorem dX9_shift_28 : decode cX9_shift 28 = .ok (.ireturn, 1) := by decide +kernel
theorem dX9_shift_29 : decode cX9_shift 29 = .ok (.iconst 0, 1) := by decide +kernel
theorem dX9_shift_30 : decode cX9_shift 30 = .ok (.istore_n 3, 1) := by decide +kernel
theorem dX9_shift_31 : decode cX9_shift 31 = .ok (.iconst 0, 1) := by decide +kernel
theorem dX9_shift_32 : decode cX9_shift 32 = .ok (.istore 4, 2) := by decide +kernel
theorem dX9_shift_34 : decode cX9_shift 34 = .ok (.iload 4, 2) := by decide +kernel
theorem dX9_shift_36 : decode cX9_shift 36 = .ok (.aload_n 0, 1) := by decide +kernel
theorem dX9_shift_37 : decode cX9_shift 37 = .ok (.getfield 86, 3) := by decide +kernel
theorem dX9_shift_40 : decode cX9_shift 40 = .ok (.if_icmp .ge 73, 3) := by decide +kernel
theorem dX9_shift_113 : decode cX9_shift 113 = .ok (.iload_n 3, 1) := by decide +kernel
theorem dX9_shift_114 : decode cX9_shift 114 = .ok (.ireturn, 1) := by decide +kernel
theorem dX9_shift_43 : decode cX9_shift 43 = .ok (.aload_n 0, 1) := by decide +kernel
theorem dX9_shift_44 : decode cX9_shift 44 = .ok (.iload 4, 2) := by decide +kernel
theorem dX9_shift_46 : decode cX9_shift 46 = .ok (.iload_n 2, 1) := by decide +kernel
theorem dX9_shift_47 : decode cX9_shift 47 = .ok (.iconst 0, 1) := by decide +kernel
theorem dX9_shift_48 : decode cX9_shift 48 = .ok (.invokevirtual 150, 3) := by decide +kernel
theorem dX9_shift_51 : decode cX9_shift 51 = .ok (.istore 5, 2) := by decide +kernel
theorem dX9_shift_53 : decode cX9_shift 53 = .ok (.aload_n 0, 1) := by decide +kernel
theorem dX9_shift_54 : decode cX9_shift 54 = .ok (.getfield 47, 3) := by decide +kernel
theorem dX9_shift_57 : decode cX9_shift 57 = .ok (.iload_n 1, 1) := by decide +kernel
theorem dX9_shift_58 : decode cX9_shift 58 = .ok (.dup2, 1) := by decide +kernel
theorem dX9_shift_59 : decode cX9_shift 59 = .ok (.iaload, 1) := by decide +kernel
theorem dX9_shift_60 : decode cX9_shift 60 = .ok (.iconst 1, 1) := by decide +kernel
theorem dX9_shift_61 : decode cX9_shift 61 = .ok (.iload_n 2, 1) := by decide +kernel
theorem dX9_shift_62 : decode cX9_shift 62 = .ok (.ishl, 1) := by decide +kernel
theorem dX9_shift_63 : decode cX9_shift 63 = .ok (.ior, 1) := by decide +kernel
theorem dX9_shift_64 : decode cX9_shift 64 = .ok (.iastore, 1) := by decide +kernel
theorem dX9_shift_65 : decode cX9_shift 65 = .ok (.aload_n 0, 1) := by decide +kernel
theorem dX9_shift_66 : decode cX9_shift 66 = .ok (.iload 4, 2) := by decide +kernel
theorem dX9_shift_68 : decode cX9_shift 68 = .ok (.iload_n 2, 1) := by decide +kernel
theorem dX9_shift_69 : decode cX9_shift 69 = .ok (.iconst 0, 1) := by decide +kernel
theorem dX9_shift_70 : decode cX9_shift 70 = .ok (.invokevirtual 150, 3) := by decide +kernel
theorem dX9_shift_73 : decode cX9_shift 73 = .ok (.istore 6, 2) := by decide +kernel
theorem dX9_shift_75 : decode cX9_shift 75 = .ok (.aload_n 0, 1) := by decide +kernel
theorem dX9_shift_76 : decode cX9_shift 76 = .ok (.getfield 47, 3) := by decide +kernel
theorem dX9_shift_79 : decode cX9_shift 79 = .ok (.iload_n 1, 1) := by decide +kernel
theorem dX9_shift_80 : decode cX9_shift 80 = .ok (.dup2, 1) := by decide +kernel
theorem dX9_shift_81 : decode cX9_shift 81 = .ok (.iaload, 1) := by decide +kernel
theorem dX9_shift_82 : decode cX9_shift 82 = .ok (.iconst 1, 1) := by decide +kernel
theorem dX9_shift_83 : decode cX9_shift 83 = .ok (.iload_n 2, 1) := by decide +kernel
theorem dX9_shift_84 : decode cX9_shift 84 = .ok (.ishl, 1) := by decide +kernel
theorem dX9_shift_85 : decode cX9_shift 85 = .ok (.iconst (-1), 1) := by decide +kernel
theorem dX9_shift_86 : decode cX9_shift 86 = .ok (.ixor, 1) := by decide +kernel
theorem dX9_shift_87 : decode cX9_shift 87 = .ok (.iand, 1) := by decide +kernel
theorem dX9_shift_88 : decode cX9_shift 88 = .ok (.iastore, 1) := by decide +kernel
theorem dX9_shift_89 : decode cX9_shift 89 = .ok (.iload_n 3, 1) := by decide +kernel
theorem dX9_shift_90 : decode cX9_shift 90 = .ok (.iload 5, 2) := by decide +kernel
theorem dX9_shift_92 : decode cX9_shift 92 = .ok (.iload 6, 2) := by decide +kernel
theorem dX9_shift_94 : decode cX9_shift 94 = .ok (.if_icmp .eq 10, 3) := by decide +kernel
theorem dX9_shift_104 : decode cX9_shift 104 = .ok (.iconst 0, 1) := by decide +kernel
theorem dX9_shift_105 : decode cX9_shift 105 = .ok (.ior, 1) := by decide +kernel
theorem dX9_shift_106 : decode cX9_shift 106 = .ok (.istore_n 3, 1) := by decide +kernel
theorem dX9_shift_107 : decode cX9_shift 107 = .ok (.iinc 4 1, 3) := by decide +kernel
theorem dX9_shift_110 : decode cX9_shift 110 = .ok (.goto (-76), 3) := by decide +kernel
theorem dX9_shift_97 : decode cX9_shift 97 = .ok (.iconst 1, 1) := by decide +kernel
theorem dX9_shift_98 : decode cX9_shift 98 = .ok (.iload 4, 2) := by decide +kernel
theorem dX9_shift_100 : decode cX9_shift 100 = .ok (.ishl, 1) := by decide +kernel
theorem dX9_shift_101 : decode cX9_shift 101 = .ok (.goto 4, 3) := by decide +kernel
theorem dX9_shift_15 : decode cX9_shift 15 = .ok (.iconst (-1), 1) := by decide +kernel
theorem dX9_shift_16 : decode cX9_shift 16 = .ok (.ireturn, 1) := by decide +kernel
theorem dX9_one_0 : decode cX9_one 0 = .ok (.aload_n 0, 1) := by decide +kernel
theorem dX9_one_1 : decode cX9_one 1 = .ok (.iload_n 1, 1) := by decide +kernel
theorem dX9_one_2 : decode cX9_one 2 = .ok (.invokevirtual 96, 3) := by decide +kernel
theorem dX9_one_5 : decode cX9_one 5 = .ok (.ifCond .eq 10, 3) := by decide +kernel
theorem dX9_one_8 : decode cX9_one 8 = .ok (.iload_n 2, 1) := by decide +kernel
theorem dX9_one_9 : decode cX9_one 9 = .ok (.invokestatic 132, 3) := by decide +kernel
theorem dX9_one_12 : decode cX9_one 12 = .ok (.ifCond .ne 5, 3) := by decide +kernel
theorem dX9_one_17 : decode cX9_one 17 = .ok (.iload_n 3, 1) := by decide +kernel
theorem dX9_one_18 : decode cX9_one 18 = .ok (.i2l, 1) := by decide +kernel
theorem dX9_one_19 : decode cX9_one 19 = .ok (.lconst 0, 1) := by decide +kernel
theorem dX9_one_20 : decode cX9_one 20 = .ok (.lconst 1, 1) := by decide +kernel
theorem dX9_one_21 : decode cX9_one 21 = .ok (.invokestatic 90, 3) := by decide +kernel
theorem dX9_one_24 : decode cX9_one 24 = .ok (.ifCond .ne 6, 3) := by decide +kernel
theorem dX9_one_30 : decode cX9_one 30 = .ok (.iconst 0, 1) := by decide +kernel
theorem dX9_one_31 : decode cX9_one 31 = .ok (.istore 4, 2) := by decide +kernel
theorem dX9_one_33 : decode cX9_one 33 = .ok (.iconst 0, 1) := by decide +kernel
theorem dX9_one_34 : decode cX9_one 34 = .ok (.istore 5, 2) := by decide +kernel
theorem dX9_one_36 : decode cX9_one 36 = .ok (.iload 5, 2) := by decide +kernel
theorem dX9_one_38 : decode cX9_one 38 = .ok (.aload_n 0, 1) := by decide +kernel
theorem dX9_one_39 : decode cX9_one 39 = .ok (.getfield 86, 3) := by decide +kernel
theorem dX9_one_42 : decode cX9_one 42 = .ok (.if_icmp .ge 84, 3) := by decide +kernel
theorem dX9_one_126 : decode cX9_one 126 = .ok (.iload_n 3, 1) := by decide +kernel
theorem dX9_one_127 : decode cX9_one 127 = .ok (.ifCond .ne 8, 3) := by decide +kernel
theorem dX9_one_135 : decode cX9_one 135 = .ok (.iload 4, 2) := by decide +kernel
theorem dX9_one_137 : decode cX9_one 137 = .ok (.invokestatic 182, 3) := by decide +kernel
theorem dX9_one_140 : decode cX9_one 140 = .ok (.ireturn, 1) := by decide +kernel
theorem dX9_one_130 : decode cX9_one 130 = .ok (.iload 4, 2) := by decide +kernel
theorem dX9_one_132 : decode cX9_one 132 = .ok (.goto 8, 3) := by decide +kernel
theorem dX9_one_45 : decode cX9_one 45 = .ok (.iload 5, 2) := by decide +kernel
theorem dX9_one_47 : decode cX9_one 47 = .ok (.iload_n 1, 1) := by decide +kernel
theorem dX9_one_48 : decode cX9_one 48 = .ok (.if_icmp .eq 18, 3) := by decide +kernel
theorem dX9_one_66 : decode cX9_one 66 = .ok (.iconst 1, 1) := by decide +kernel
theorem dX9_one_67 : decode cX9_one 67 = .ok (.goto 4, 3) := by decide +kernel
theorem dX9_one_71 : decode cX9_one 71 = .ok (.istore 6, 2) := by decide +kernel
theorem dX9_one_73 : decode cX9_one 73 = .ok (.iload 6, 2) := by decide +kernel
theorem dX9_one_75 : decode cX9_one 75 = .ok (.ifCond .eq 23, 3) := by decide +kernel
theorem dX9_one_78 : decode cX9_one 78 = .ok (.aload_n 0, 1) := by decide +kernel
theorem dX9_one_79 : decode cX9_one 79 = .ok (.iload 5, 2) := by decide +kernel
theorem dX9_one_81 : decode cX9_one 81 = .ok (.invokevirtual 188, 3) := by decide +kernel
theorem dX9_one_84 : decode cX9_one 84 = .ok (.ifCond .eq 14, 3) := by decide +kernel
theorem dX9_one_87 : decode cX9_one 87 = .ok (.aload_n 0, 1) := by decide +kernel
theorem dX9_one_88 : decode cX9_one 88 = .ok (.iload 5, 2) := by decide +kernel
theorem dX9_one_90 : decode cX9_one 90 = .ok (.iload_n 2, 1) := by decide +kernel
theorem dX9_one_91 : decode cX9_one 91 = .ok (.iconst 0, 1) := by decide +kernel
theorem dX9_one_92 : decode cX9_one 92 = .ok (.invokevirtual 150, 3) := by decide +kernel
theorem dX9_one_95 : decode cX9_one 95 = .ok (.goto 5, 3) := by decide +kernel
theorem dX9_one_100 : decode cX9_one 100 = .ok (.istore 7, 2) := by decide +kernel
theorem dX9_one_102 : decode cX9_one 102 = .ok (.iload 4, 2) := by decide +kernel
theorem dX9_one_104 : decode cX9_one 104 = .ok (.iload 7, 2) := by decide +kernel
theorem dX9_one_106 : decode cX9_one 106 = .ok (.ifCond .ge 7, 3) := by decide +kernel
theorem dX9_one_113 : decode cX9_one 113 = .ok (.iconst 1, 1) := by decide +kernel
theorem dX9_one_114 : decode cX9_one 114 = .ok (.iload 7, 2) := by decide +kernel
theorem dX9_one_116 : decode cX9_one 116 = .ok (.ishl, 1) := by decide +kernel
theorem dX9_one_117 : decode cX9_one 117 = .ok (.ior, 1) := by decide +kernel
theorem dX9_one_118 : decode cX9_one 118 = .ok (.istore 4, 2) := by decide +kernel
theorem dX9_one_120 : decode cX9_one 120 = .ok (.iinc 5 1, 3) := by decide +kernel
theorem dX9_one_123 : decode cX9_one 123 = .ok (.goto (-87), 3) := by decide +kernel
theorem dX9_one_109 : decode cX9_one 109 = .ok (.iconst 0, 1) := by decide +kernel
theorem dX9_one_110 : decode cX9_one 110 = .ok (.goto 7, 3) := by decide +kernel
theorem dX9_one_98 : decode cX9_one 98 = .ok (.bipush (-6), 2) := by decide +kernel
theorem dX9_one_51 : decode cX9_one 51 = .ok (.aload_n 0, 1) := by decide +kernel
theorem dX9_one_52 : decode cX9_one 52 = .ok (.getfield 16, 3) := by decide +kernel
theorem dX9_one_55 : decode cX9_one 55 = .ok (.iload 5, 2) := by decide +kernel
theorem dX9_one_57 : decode cX9_one 57 = .ok (.iaload, 1) := by decide +kernel
theorem dX9_one_58 : decode cX9_one 58 = .ok (.iload_n 1, 1) := by decide +kernel
theorem dX9_one_59 : decode cX9_one 59 = .ok (.ishr, 1) := by decide +kernel
theorem dX9_one_60 : decode cX9_one 60 = .ok (.iconst 1, 1) := by decide +kernel
theorem dX9_one_61 : decode cX9_one 61 = .ok (.iand, 1) := by decide +kernel
theorem dX9_one_62 : decode cX9_one 62 = .ok (.iconst 1, 1) := by decide +kernel
theorem dX9_one_63 : decode cX9_one 63 = .ok (.if_icmp .ne 7, 3) := by decide +kernel
theorem dX9_one_70 : decode cX9_one 70 = .ok (.iconst 0, 1) := by decide +kernel
theorem dX9_one_27 : decode cX9_one 27 = .ok (.bipush (-2), 2) := by decide +kernel
theorem dX9_one_29 : decode cX9_one 29 = .ok (.ireturn, 1) := by decide +kernel
theorem dX9_one_15 : decode cX9_one 15 = .ok (.iconst (-1), 1) := by decide +kernel
theorem dX9_one_16 : decode cX9_one 16 = .ok (.ireturn, 1) := by decide +kernel
set_option maxHeartbeats 4000000 in
set_option maxRecDepth 100000 in
theorem m_nearest (l : Launch) (dC : Nat → ClassId) (dI : Nat → Nat → Nat) (sz : Nat) (h0 : Nat) (w0 : Value) (w1 : Value) (l6 : Nat) (w3 : Value) (kn : Nat) (w5 : Value) (w6 : Value) (w7 : Value) (w8 : Value) (w9 : Value) (w10 : Value) (w11 : Value) (w12 : Value) (w13 : Value) (nm0 : Nat) (w15 : Value) (w16 : Value) (w17 : Value) (w18 : Value) (w19 : Value) (w20 : Value) (w21 : Value) (w22 : Value) (w23 : Value) (w24 : Value) (w25 : Value) (w26 : Value) (w27 : Value) (w28 : Value) (w29 : Value) (w30 : Value) (w31 : Value) (w32 : Value) (w33 : Value) (w34 : Value) (kl6 : ClassId) (fma : Nat → Int32) (knm0 : ClassId) (fnm : Nat → Int32) (n1 : Int32) (n2 : Int32) (hkn : kn ≤ 10) : Met l yX9_nearest (wq yX9_nearest cX9_nearest 3 (some .int)) ({ frames := 2, cells := 0, slots := 0, locals := 46 }) (va_Pc [.ref h0, .int n1, .int n2] (pcW dC dI [(kl6, .int), (knm0, .int)] [(h0, .inr (8, [w0, w1, .ref l6, w3, .int (nI kn), w5, w6, w7, w8, w9, w10, w11, w12, w13, .ref nm0, w15, w16, w17, w18, w19, w20, w21, w22, w23, w24, w25, w26, w27, w28, w29, w30, w31, w32, w33, w34])), (l6, .inl (kl6, 10, .inl fma)), (nm0, .inl (knm0, 10, .inl fnm))] sz)) (va_Qi (fun (r : Int32) (_ : Unit) => r = (F_near kn (nrM fma kn n1.toNatClampNeg (hvF fnm kn n2.toNatClampNeg)) n1 n2)) (fun _ _ => True) (fun q : Nat => sz ≤ q)) 0 0 (fun q : Nat => sz ≤ q) := by
  refine Met.ofW (cc := cX9_nearest) (maxL := 3) (ret := (some .int)) (by decide) rfl ?_
  intro p e s m args below meth c s₁ B hml hv
  obtain ⟨rfl, hsz, hN, hP, hK, hD0⟩ := hv
  have hx := B.exec
  have hb := B.bytes
  have hr := B.returns
  have hts0 := atoms_spec (ws := (wq yX9_nearest cX9_nearest 3 (some .int))) B.pre
  have hts : ∀ w ∈ BG, w.before _ s = true := fun w h => hts0 w (List.mem_cons_of_mem _ h)
  have hown : s.vm.findClass RX9 = some m.cls := findClass_of_methodNamed B.named
  have hlocks := B.notSynchronized
  subst hsz
  have hA : ∀ q : Nat, s.heap.size ≤ q → (fun q : Nat => s.heap.size ≤ q) q := fun _ h => h
  have hD := hD0
  have hS : va_S (fun q : Nat => s.heap.size ≤ q) s.heap s.heap [] := va_S.rf
  have hP : va_P (dC, dI) vwCl [(h0, .inr (8, [w0, w1, .ref l6, w3, .int (nI kn), w5, w6, w7, w8, w9, w10, w11, w12, w13, .ref nm0, w15, w16, w17, w18, w19, w20, w21, w22, w23, w24, w25, w26, w27, w28, w29, w30, w31, w32, w33, w34])), (l6, .inl (kl6, 10, .inl fma)), (nm0, .inl (knm0, 10, .inl fnm))] s.heap := hP
  have hl := lv_entry ([.ref h0, .int n1, .int n2]) (n := 3) (Nat.le_of_ble_eq_true rfl)
  rw [lg_entry_eq]
  generalize (lg_sl ([.ref h0, .int n1, .int n2]) ++ List.replicate (3 - (lg_sl ([.ref h0, .int n1, .int n2])).length) Slot.unset).toArray = ls at hl ⊢
  have hl : lv_has ls 3 [(0, .ref h0), (1, .int n1), (2, .int n2)] := hl
  refine lv_aload_n hx hb dX9_nearest_0 rfl (lv_at hl 0 rfl) ?_
  refine lv_iload_n hx hb dX9_nearest_1 rfl (lv_at hl 1 rfl) ?_
  have hPc := hP.sub (ws' := [(h0, .inr (8, [w0, w1, .ref l6, w3, .int (nI kn), w5, w6, w7, w8, w9, w10, w11, w12, w13, .ref nm0, w15, w16, w17, w18, w19, w20, w21, w22, w23, w24, w25, w26, w27, w28, w29, w30, w31, w32, w33, w34]))]) [0] rfl
  have hDc := hD.sub (ws' := [(h0, .inr (8, [w0, w1, .ref l6, w3, .int (nI kn), w5, w6, w7, w8, w9, w10, w11, w12, w13, .ref nm0, w15, w16, w17, w18, w19, w20, w21, w22, w23, w24, w25, w26, w27, w28, w29, w30, w31, w32, w33, w34]))]) [0] (by decide) rfl
  have hKc := hK.sub (tys' := []) [] rfl
  refine va_calli (va_runV (As := [.int n1]) (rest := []) ⟨hx, hb, hml, hown, hts⟩ (m_isKind l dC dI s.heap.size h0 (w0) (w1) (.ref l6) (w3) kn (w5) (w6) (w7) (w8) (w9) (w10) (w11) (w12) (w13) (.ref nm0) (w15) (w16) (w17) (w18) (w19) (w20) (w21) (w22) (w23) (w24) (w25) (w26) (w27) (w28) (w29) (w30) (w31) (w32) (w33) (w34) n1 hkn) (cwV 1 hts (gV mw_4_53 mw_4_55 mw_0_15 mw_1_9 mw_4_56) rfl rfl rfl (by decide +kernel) ⟨Nat.le_of_ble_eq_true rfl, Nat.le_of_ble_eq_true rfl⟩) ⟨pcW_blind, va_recv hKc hPc (ci := 8) (q0 := 0) rfl rfl, pcW_at hPc hKc hDc hN⟩ rfl rfl hl.1 rfl (lv_room (Nat.le_of_ble_eq_true rfl)) dX9_nearest_2 ⟨Nat.le_of_ble_eq_true rfl, Nat.le_of_ble_eq_true rfl⟩) hS (fun q h1 h2 => absurd h2 (Nat.not_le.mpr h1)) (fun q h => hA q (Nat.le_trans hS.1 h)) (fun r_1 u t H1 locs ht hvm hw_1 hB hz1 hk1 hS => ?_)
  have hP := keepP hP hk1
  clear hz1 hk1 hB ht hvm hPc hDc hKc
  generalize H1 = H at hP hS ⊢
  rcases fx_bool hw_1 with ⟨rfl, b_2⟩ | ⟨rfl, b_2⟩
  · skip
    refine lv_if_eq (tgt := 28) hx hb dX9_nearest_5 (by decide) (fun h => absurd h (by decide)) (fun _ => ?_)
    refine lv_iload_n hx hb dX9_nearest_8 rfl (lv_at hl 2 rfl) ?_
    have hPc := hP.sub (ws' := []) [] rfl
    have hDc := hD.sub (ws' := []) [] (by decide) rfl
    have hKc := hK.sub (tys' := []) [] rfl
    refine va_calli (va_runS (As := [.int n2]) (rest := []) ⟨hx, hb, hml, hown, hts⟩ (m_isName l dC dI H.size n2 ) (va_cwS 1 hts (gS mw_4_115 mw_4_116 mw_1_9 mw_4_117) rfl rfl rfl (by decide +kernel) ⟨Nat.le_of_ble_eq_true rfl, Nat.le_of_ble_eq_true rfl⟩) ⟨pcW_blind, pcW_at hPc hKc hDc hN⟩ rfl rfl hl.1 rfl (lv_room (Nat.le_of_ble_eq_true rfl)) dX9_nearest_9 ⟨Nat.le_of_ble_eq_true rfl, Nat.le_of_ble_eq_true rfl⟩) hS (fun q h1 h2 => absurd h2 (Nat.not_le.mpr h1)) (fun q h => hA q (Nat.le_trans hS.1 h)) (fun r_3 u t H1 locs ht hvm hw_3 hB hz1 hk1 hS => ?_)
    have hP := keepP hP hk1
    clear hz1 hk1 hB ht hvm hPc hDc hKc
    generalize H1 = H at hP hS ⊢
    rcases fx_bool hw_3 with ⟨rfl, b_4⟩ | ⟨rfl, b_4⟩
    · skip
      refine lv_if_eq (tgt := 28) hx hb dX9_nearest_12 (by decide) (fun h => absurd h (by decide)) (fun _ => ?_)
      obtain ⟨j_5, tj_5, ej_5⟩ := fx_nat (x := n1) (by omega)
      subst ej_5
      have yj_5 : Int32.toInt (nI j_5) = (j_5 : Int) := nI_toInt tj_5
      obtain ⟨j_6, tj_6, ej_6⟩ := fx_nat (x := n2) (by omega)
      subst ej_6
      have yj_6 : Int32.toInt (nI j_6) = (j_6 : Int) := nI_toInt tj_6
      refine lv_aload_n hx hb dX9_nearest_15 rfl (lv_at hl 0 rfl) ?_
      refine lv_iload_n hx hb dX9_nearest_16 rfl (lv_at hl 1 rfl) ?_
      refine lv_aload_n hx hb dX9_nearest_17 rfl (lv_at hl 0 rfl) ?_
      refine lv_iload_n hx hb dX9_nearest_18 rfl (lv_at hl 2 rfl) ?_
      have hPc := hP.sub (ws' := [(h0, .inr (8, [w0, w1, .ref l6, w3, .int (nI kn), w5, w6, w7, w8, w9, w10, w11, w12, w13, .ref nm0, w15, w16, w17, w18, w19, w20, w21, w22, w23, w24, w25, w26, w27, w28, w29, w30, w31, w32, w33, w34])), (nm0, .inl (knm0, 10, .inl fnm))]) [0, 2] rfl
      have hDc := hD.sub (ws' := [(h0, .inr (8, [w0, w1, .ref l6, w3, .int (nI kn), w5, w6, w7, w8, w9, w10, w11, w12, w13, .ref nm0, w15, w16, w17, w18, w19, w20, w21, w22, w23, w24, w25, w26, w27, w28, w29, w30, w31, w32, w33, w34])), (nm0, .inl (knm0, 10, .inl fnm))]) [0, 2] (by decide) rfl
      have hKc := hK.sub (tys' := [(knm0, .int)]) [1] rfl
      refine va_calli (va_runV (As := [.int (nI j_6)]) (rest := [.int (nI j_5), .ref h0]) ⟨hx, hb, hml, hown, hts⟩ (m_havingOf l dC dI H.size h0 (w0) (w1) (.ref l6) (w3) kn (w5) (w6) (w7) (w8) (w9) (w10) (w11) (w12) (w13) nm0 (w15) (w16) (w17) (w18) (w19) (w20) (w21) (w22) (w23) (w24) (w25) (w26) (w27) (w28) (w29) (w30) (w31) (w32) (w33) (w34) knm0 fnm j_6 hkn (by omega)) (cwV 1 hts (gV mw_4_167 mw_4_169 mw_0_26 mw_1_9 mw_4_170) rfl rfl rfl (by decide +kernel) ⟨Nat.le_of_ble_eq_true rfl, Nat.le_of_ble_eq_true rfl⟩) ⟨pcW_blind, va_recv hKc hPc (ci := 8) (q0 := 0) rfl rfl, pcW_at hPc hKc hDc hN⟩ rfl rfl hl.1 rfl (lv_room (Nat.le_of_ble_eq_true rfl)) dX9_nearest_19 ⟨Nat.le_of_ble_eq_true rfl, Nat.le_of_ble_eq_true rfl⟩) hS (fun q h1 h2 => absurd h2 (Nat.not_le.mpr h1)) (fun q h => hA q (Nat.le_trans hS.1 h)) (fun r_7 u t H1 locs ht hvm hw_7 hB hz1 hk1 hS => ?_)
      have hP := keepP hP hk1
      clear hz1 hk1 hB ht hvm hPc hDc hKc
      generalize H1 = H at hP hS ⊢
      obtain rfl : r_7 = (hvF fnm kn j_6) := hw_7
      have hPc := hP.sub (ws' := [(h0, .inr (8, [w0, w1, .ref l6, w3, .int (nI kn), w5, w6, w7, w8, w9, w10, w11, w12, w13, .ref nm0, w15, w16, w17, w18, w19, w20, w21, w22, w23, w24, w25, w26, w27, w28, w29, w30, w31, w32, w33, w34])), (l6, .inl (kl6, 10, .inl fma))]) [0, 1] rfl
      have hDc := hD.sub (ws' := [(h0, .inr (8, [w0, w1, .ref l6, w3, .int (nI kn), w5, w6, w7, w8, w9, w10, w11, w12, w13, .ref nm0, w15, w16, w17, w18, w19, w20, w21, w22, w23, w24, w25, w26, w27, w28, w29, w30, w31, w32, w33, w34])), (l6, .inl (kl6, 10, .inl fma))]) [0, 1] (by decide) rfl
      have hKc := hK.sub (tys' := [(kl6, .int)]) [0] rfl
      refine va_calli (va_runV (As := [.int (nI j_5), .int (hvF fnm kn j_6)]) (rest := []) ⟨hx, hb, hml, hown, hts⟩ (m_nearestOf l dC dI H.size h0 (w0) (w1) l6 (w3) kn (w5) (w6) (w7) (w8) (w9) (w10) (w11) (w12) (w13) (.ref nm0) (w15) (w16) (w17) (w18) (w19) (w20) (w21) (w22) (w23) (w24) (w25) (w26) (w27) (w28) (w29) (w30) (w31) (w32) (w33) (w34) kl6 fma j_5 (hvF fnm kn j_6) hkn (by omega)) (cwV 2 hts (gV mw_4_171 mw_4_173 mw_0_27 mw_1_9 mw_4_174) rfl rfl rfl (by decide +kernel) ⟨Nat.le_of_ble_eq_true rfl, Nat.le_of_ble_eq_true rfl⟩) ⟨pcW_blind, va_recv hKc hPc (ci := 8) (q0 := 0) rfl rfl, pcW_at hPc hKc hDc hN⟩ rfl rfl hl.1 rfl (lv_room (Nat.le_of_ble_eq_true rfl)) dX9_nearest_22 ⟨Nat.le_of_ble_eq_true rfl, Nat.le_of_ble_eq_true rfl⟩) hS (fun q h1 h2 => absurd h2 (Nat.not_le.mpr h1)) (fun q h => hA q (Nat.le_trans hS.1 h)) (fun r_8 u t H1 locs ht hvm hw_8 hB hz1 hk1 hS => ?_)
      have hP := keepP hP hk1
      clear hz1 hk1 hB ht hvm hPc hDc hKc
      generalize H1 = H at hP hS ⊢
      obtain rfl : r_8 = (nrM fma kn j_5 (hvF fnm kn j_6)) := hw_8
      refine lv_goto (tgt := 29) hx hb dX9_nearest_25 (by decide) ?_
      exact W.iret (v := (nrM fma kn j_5 (hvF fnm kn j_6))) hx hb hr (fun t ht hW => ⟨⟨(nrM fma kn j_5 (hvF fnm kn j_6)), (), rfl, (by unfold F_near; rw [if_pos (by omega), nI_clamp (by omega), nI_clamp (by omega)]), trivial⟩, hS.F ht⟩) hS.2.2 dX9_nearest_29
    · skip
      refine lv_if_eq (tgt := 28) hx hb dX9_nearest_12 (by decide) (fun _ => ?_) (fun h => absurd (by decide) h)
      refine lv_iconst (v := (-1)) hx hb dX9_nearest_28 (by decide) ?_
      exact W.iret (v := (-1)) hx hb hr (fun t ht hW => ⟨⟨(-1), (), rfl, (by unfold F_near; rw [if_neg (by omega)]), trivial⟩, hS.F ht⟩) hS.2.2 dX9_nearest_29
  · skip
    refine lv_if_eq (tgt := 28) hx hb dX9_nearest_5 (by decide) (fun _ => ?_) (fun h => absurd (by decide) h)
    refine lv_iconst (v := (-1)) hx hb dX9_nearest_28 (by decide) ?_
    exact W.iret (v := (-1)) hx hb hr (fun t ht hW => ⟨⟨(-1), (), rfl, (by unfold F_near; rw [if_neg (by omega)]), trivial⟩, hS.F ht⟩) hS.2.2 dX9_nearest_29
set_option maxHeartbeats 4000000 in
set_option maxRecDepth 100000 in
theorem m_doubt (l : Launch) (dC : Nat → ClassId) (dI : Nat → Nat → Nat) (sz : Nat) (h0 : Nat) (w0 : Value) (w1 : Value) (l6 : Nat) (w3 : Value) (kn : Nat) (w5 : Value) (w6 : Value) (w7 : Value) (w8 : Value) (w9 : Value) (w10 : Value) (w11 : Value) (w12 : Value) (w13 : Value) (nm0 : Nat) (w15 : Value) (w16 : Value) (w17 : Value) (w18 : Value) (w19 : Value) (w20 : Value) (w21 : Value) (w22 : Value) (w23 : Value) (w24 : Value) (w25 : Value) (w26 : Value) (w27 : Value) (w28 : Value) (w29 : Value) (w30 : Value) (w31 : Value) (w32 : Value) (w33 : Value) (w34 : Value) (kl6 : ClassId) (fma : Nat → Int32) (knm0 : ClassId) (fnm : Nat → Int32) (n1 : Int32) (hkn : kn ≤ 10) : Met l yX9_doubt (wq yX9_doubt cX9_doubt 2 (some .int)) ({ frames := 2, cells := 0, slots := 0, locals := 48 }) (va_Pc [.ref h0, .int n1] (pcW dC dI [(kl6, .int), (knm0, .int)] [(h0, .inr (8, [w0, w1, .ref l6, w3, .int (nI kn), w5, w6, w7, w8, w9, w10, w11, w12, w13, .ref nm0, w15, w16, w17, w18, w19, w20, w21, w22, w23, w24, w25, w26, w27, w28, w29, w30, w31, w32, w33, w34])), (l6, .inl (kl6, 10, .inl fma)), (nm0, .inl (knm0, 10, .inl fnm))] sz)) (va_Qi (fun (r : Int32) (_ : Unit) => r = (F_nm (dbM fma kn (hvF fnm kn n1.toNatClampNeg)) n1)) (fun _ _ => True) (fun q : Nat => sz ≤ q)) 0 0 (fun q : Nat => sz ≤ q) := by
  refine Met.ofW (cc := cX9_doubt) (maxL := 2) (ret := (some .int)) (by decide) rfl ?_
  intro p e s m args below meth c s₁ B hml hv
  obtain ⟨rfl, hsz, hN, hP, hK, hD0⟩ := hv
  have hx := B.exec
  have hb := B.bytes
  have hr := B.returns
  have hts0 := atoms_spec (ws := (wq yX9_doubt cX9_doubt 2 (some .int))) B.pre
  have hts : ∀ w ∈ BG, w.before _ s = true := fun w h => hts0 w (List.mem_cons_of_mem _ h)
  have hown : s.vm.findClass RX9 = some m.cls := findClass_of_methodNamed B.named
  have hlocks := B.notSynchronized
  subst hsz
  have hA : ∀ q : Nat, s.heap.size ≤ q → (fun q : Nat => s.heap.size ≤ q) q := fun _ h => h
  have hD := hD0
  have hS : va_S (fun q : Nat => s.heap.size ≤ q) s.heap s.heap [] := va_S.rf
  have hP : va_P (dC, dI) vwCl [(h0, .inr (8, [w0, w1, .ref l6, w3, .int (nI kn), w5, w6, w7, w8, w9, w10, w11, w12, w13, .ref nm0, w15, w16, w17, w18, w19, w20, w21, w22, w23, w24, w25, w26, w27, w28, w29, w30, w31, w32, w33, w34])), (l6, .inl (kl6, 10, .inl fma)), (nm0, .inl (knm0, 10, .inl fnm))] s.heap := hP
  have hl := lv_entry ([.ref h0, .int n1]) (n := 2) (Nat.le_of_ble_eq_true rfl)
  rw [lg_entry_eq]
  generalize (lg_sl ([.ref h0, .int n1]) ++ List.replicate (2 - (lg_sl ([.ref h0, .int n1])).length) Slot.unset).toArray = ls at hl ⊢
  have hl : lv_has ls 2 [(0, .ref h0), (1, .int n1)] := hl
  refine lv_iload_n hx hb dX9_doubt_0 rfl (lv_at hl 1 rfl) ?_
  have hPc := hP.sub (ws' := []) [] rfl
  have hDc := hD.sub (ws' := []) [] (by decide) rfl
  have hKc := hK.sub (tys' := []) [] rfl
  refine va_calli (va_runS (As := [.int n1]) (rest := []) ⟨hx, hb, hml, hown, hts⟩ (m_isName l dC dI s.heap.size n1 ) (va_cwS 1 hts (gS mw_4_115 mw_4_116 mw_1_9 mw_4_117) rfl rfl rfl (by decide +kernel) ⟨Nat.le_of_ble_eq_true rfl, Nat.le_of_ble_eq_true rfl⟩) ⟨pcW_blind, pcW_at hPc hKc hDc hN⟩ rfl rfl hl.1 rfl (lv_room (Nat.le_of_ble_eq_true rfl)) dX9_doubt_1 ⟨Nat.le_of_ble_eq_true rfl, Nat.le_of_ble_eq_true rfl⟩) hS (fun q h1 h2 => absurd h2 (Nat.not_le.mpr h1)) (fun q h => hA q (Nat.le_trans hS.1 h)) (fun r_1 u t H1 locs ht hvm hw_1 hB hz1 hk1 hS => ?_)
  have hP := keepP hP hk1
  clear hz1 hk1 hB ht hvm hPc hDc hKc
  generalize H1 = H at hP hS ⊢
  rcases fx_bool hw_1 with ⟨rfl, b_2⟩ | ⟨rfl, b_2⟩
  · skip
    refine lv_if_eq (tgt := 19) hx hb dX9_doubt_4 (by decide) (fun h => absurd h (by decide)) (fun _ => ?_)
    obtain ⟨j_3, tj_3, ej_3⟩ := fx_nat (x := n1) (by omega)
    subst ej_3
    have yj_3 : Int32.toInt (nI j_3) = (j_3 : Int) := nI_toInt tj_3
    refine lv_aload_n hx hb dX9_doubt_7 rfl (lv_at hl 0 rfl) ?_
    refine lv_aload_n hx hb dX9_doubt_8 rfl (lv_at hl 0 rfl) ?_
    refine lv_iload_n hx hb dX9_doubt_9 rfl (lv_at hl 1 rfl) ?_
    have hPc := hP.sub (ws' := [(h0, .inr (8, [w0, w1, .ref l6, w3, .int (nI kn), w5, w6, w7, w8, w9, w10, w11, w12, w13, .ref nm0, w15, w16, w17, w18, w19, w20, w21, w22, w23, w24, w25, w26, w27, w28, w29, w30, w31, w32, w33, w34])), (nm0, .inl (knm0, 10, .inl fnm))]) [0, 2] rfl
    have hDc := hD.sub (ws' := [(h0, .inr (8, [w0, w1, .ref l6, w3, .int (nI kn), w5, w6, w7, w8, w9, w10, w11, w12, w13, .ref nm0, w15, w16, w17, w18, w19, w20, w21, w22, w23, w24, w25, w26, w27, w28, w29, w30, w31, w32, w33, w34])), (nm0, .inl (knm0, 10, .inl fnm))]) [0, 2] (by decide) rfl
    have hKc := hK.sub (tys' := [(knm0, .int)]) [1] rfl
    refine va_calli (va_runV (As := [.int (nI j_3)]) (rest := [.ref h0]) ⟨hx, hb, hml, hown, hts⟩ (m_havingOf l dC dI H.size h0 (w0) (w1) (.ref l6) (w3) kn (w5) (w6) (w7) (w8) (w9) (w10) (w11) (w12) (w13) nm0 (w15) (w16) (w17) (w18) (w19) (w20) (w21) (w22) (w23) (w24) (w25) (w26) (w27) (w28) (w29) (w30) (w31) (w32) (w33) (w34) knm0 fnm j_3 hkn (by omega)) (cwV 1 hts (gV mw_4_167 mw_4_169 mw_0_26 mw_1_9 mw_4_170) rfl rfl rfl (by decide +kernel) ⟨Nat.le_of_ble_eq_true rfl, Nat.le_of_ble_eq_true rfl⟩) ⟨pcW_blind, va_recv hKc hPc (ci := 8) (q0 := 0) rfl rfl, pcW_at hPc hKc hDc hN⟩ rfl rfl hl.1 rfl (lv_room (Nat.le_of_ble_eq_true rfl)) dX9_doubt_10 ⟨Nat.le_of_ble_eq_true rfl, Nat.le_of_ble_eq_true rfl⟩) hS (fun q h1 h2 => absurd h2 (Nat.not_le.mpr h1)) (fun q h => hA q (Nat.le_trans hS.1 h)) (fun r_4 u t H1 locs ht hvm hw_4 hB hz1 hk1 hS => ?_)
    have hP := keepP hP hk1
    clear hz1 hk1 hB ht hvm hPc hDc hKc
    generalize H1 = H at hP hS ⊢
    obtain rfl : r_4 = (hvF fnm kn j_3) := hw_4
    have hPc := hP.sub (ws' := [(h0, .inr (8, [w0, w1, .ref l6, w3, .int (nI kn), w5, w6, w7, w8, w9, w10, w11, w12, w13, .ref nm0, w15, w16, w17, w18, w19, w20, w21, w22, w23, w24, w25, w26, w27, w28, w29, w30, w31, w32, w33, w34])), (l6, .inl (kl6, 10, .inl fma))]) [0, 1] rfl
    have hDc := hD.sub (ws' := [(h0, .inr (8, [w0, w1, .ref l6, w3, .int (nI kn), w5, w6, w7, w8, w9, w10, w11, w12, w13, .ref nm0, w15, w16, w17, w18, w19, w20, w21, w22, w23, w24, w25, w26, w27, w28, w29, w30, w31, w32, w33, w34])), (l6, .inl (kl6, 10, .inl fma))]) [0, 1] (by decide) rfl
    have hKc := hK.sub (tys' := [(kl6, .int)]) [0] rfl
    refine va_calli (va_runV (As := [.int (hvF fnm kn j_3)]) (rest := []) ⟨hx, hb, hml, hown, hts⟩ (m_doubtBy l dC dI H.size h0 (w0) (w1) l6 (w3) kn (w5) (w6) (w7) (w8) (w9) (w10) (w11) (w12) (w13) (.ref nm0) (w15) (w16) (w17) (w18) (w19) (w20) (w21) (w22) (w23) (w24) (w25) (w26) (w27) (w28) (w29) (w30) (w31) (w32) (w33) (w34) kl6 fma (hvF fnm kn j_3) hkn) (cwV 1 hts (gV mw_4_179 mw_4_181 mw_0_28 mw_1_9 mw_4_182) rfl rfl rfl (by decide +kernel) ⟨Nat.le_of_ble_eq_true rfl, Nat.le_of_ble_eq_true rfl⟩) ⟨pcW_blind, va_recv hKc hPc (ci := 8) (q0 := 0) rfl rfl, pcW_at hPc hKc hDc hN⟩ rfl rfl hl.1 rfl (lv_room (Nat.le_of_ble_eq_true rfl)) dX9_doubt_13 ⟨Nat.le_of_ble_eq_true rfl, Nat.le_of_ble_eq_true rfl⟩) hS (fun q h1 h2 => absurd h2 (Nat.not_le.mpr h1)) (fun q h => hA q (Nat.le_trans hS.1 h)) (fun r_5 u t H1 locs ht hvm hw_5 hB hz1 hk1 hS => ?_)
    have hP := keepP hP hk1
    clear hz1 hk1 hB ht hvm hPc hDc hKc
    generalize H1 = H at hP hS ⊢
    obtain rfl : r_5 = (dbM fma kn (hvF fnm kn j_3)) := hw_5
    refine lv_goto (tgt := 20) hx hb dX9_doubt_16 (by decide) ?_
    exact W.iret (v := (dbM fma kn (hvF fnm kn j_3))) hx hb hr (fun t ht hW => ⟨⟨(dbM fma kn (hvF fnm kn j_3)), (), rfl, (by unfold F_nm; rw [if_pos (by omega), nI_clamp (by omega)]), trivial⟩, hS.F ht⟩) hS.2.2 dX9_doubt_20
  · skip
    refine lv_if_eq (tgt := 19) hx hb dX9_doubt_4 (by decide) (fun _ => ?_) (fun h => absurd (by decide) h)
    refine lv_iconst (v := (-1)) hx hb dX9_doubt_19 (by decide) ?_
    exact W.iret (v := (-1)) hx hb hr (fun t ht hW => ⟨⟨(-1), (), rfl, (by unfold F_nm; rw [if_neg (by omega)]), trivial⟩, hS.F ht⟩) hS.2.2 dX9_doubt_20
set_option maxHeartbeats 4000000 in
set_option maxRecDepth 100000 in
theorem m_settle (l : Launch) (dC : Nat → ClassId) (dI : Nat → Nat → Nat) (sz : Nat) (h0 : Nat) (w0 : Value) (w1 : Value) (l6 : Nat) (w3 : Value) (kn : Nat) (w5 : Value) (w6 : Value) (w7 : Value) (w8 : Value) (w9 : Value) (w10 : Value) (w11 : Value) (w12 : Value) (w13 : Value) (nm0 : Nat) (w15 : Value) (w16 : Value) (w17 : Value) (w18 : Value) (w19 : Value) (w20 : Value) (w21 : Value) (w22 : Value) (w23 : Value) (w24 : Value) (w25 : Value) (w26 : Value) (w27 : Value) (w28 : Value) (w29 : Value) (w30 : Value) (w31 : Value) (w32 : Value) (w33 : Value) (w34 : Value) (kl6 : ClassId) (fma : Nat → Int32) (knm0 : ClassId) (fnm : Nat → Int32) (n1 : Int32) (n2 : Int32) (hkn : kn ≤ 10) : Met l yX9_settle (wq yX9_settle cX9_settle 7 (some .int)) ({ frames := 2, cells := 0, slots := 0, locals := 48 }) (va_Pc [.ref h0, .int n1, .int n2] (pcW dC dI [(kl6, .int), (knm0, .int)] [(h0, .inr (8, [w0, w1, .ref l6, w3, .int (nI kn), w5, w6, w7, w8, w9, w10, w11, w12, w13, .ref nm0, w15, w16, w17, w18, w19, w20, w21, w22, w23, w24, w25, w26, w27, w28, w29, w30, w31, w32, w33, w34])), (l6, .inl (kl6, 10, .inl fma)), (nm0, .inl (knm0, 10, .inl fnm))] sz)) (va_Qi (fun (r : Int32) (_ : Unit) => r = (F_settle (bsM fma kn (hvF fnm kn n1.toNatClampNeg) ((1 : Int32) <<< (nI kn &&& 31)).toNatClampNeg) (nI (cnt (fun i => bt (bsM fma kn (hvF fnm kn n1.toNatClampNeg) ((1 : Int32) <<< (nI kn &&& 31)).toNatClampNeg) i) 10)) n1 n2)) (fun _ _ => True) (fun q : Nat => sz ≤ q)) 0 0 (fun q : Nat => sz ≤ q) := by
  refine Met.ofW (cc := cX9_settle) (maxL := 7) (ret := (some .int)) (by decide) rfl ?_
  intro p e s m args below meth c s₁ B hml hv
  obtain ⟨rfl, hsz, hN, hP, hK, hD0⟩ := hv
  have hx := B.exec
  have hb := B.bytes
  have hr := B.returns
  have hts0 := atoms_spec (ws := (wq yX9_settle cX9_settle 7 (some .int))) B.pre
  have hts : ∀ w ∈ BG, w.before _ s = true := fun w h => hts0 w (List.mem_cons_of_mem _ h)
  have hown : s.vm.findClass RX9 = some m.cls := findClass_of_methodNamed B.named
  have hlocks := B.notSynchronized
  subst hsz
  have hA : ∀ q : Nat, s.heap.size ≤ q → (fun q : Nat => s.heap.size ≤ q) q := fun _ h => h
  have hD := hD0
  have hS : va_S (fun q : Nat => s.heap.size ≤ q) s.heap s.heap [] := va_S.rf
  have hP : va_P (dC, dI) vwCl [(h0, .inr (8, [w0, w1, .ref l6, w3, .int (nI kn), w5, w6, w7, w8, w9, w10, w11, w12, w13, .ref nm0, w15, w16, w17, w18, w19, w20, w21, w22, w23, w24, w25, w26, w27, w28, w29, w30, w31, w32, w33, w34])), (l6, .inl (kl6, 10, .inl fma)), (nm0, .inl (knm0, 10, .inl fnm))] s.heap := hP
  have hl := lv_entry ([.ref h0, .int n1, .int n2]) (n := 7) (Nat.le_of_ble_eq_true rfl)
  rw [lg_entry_eq]
  generalize (lg_sl ([.ref h0, .int n1, .int n2]) ++ List.replicate (7 - (lg_sl ([.ref h0, .int n1, .int n2])).length) Slot.unset).toArray = ls at hl ⊢
  have hl : lv_has ls 7 [(0, .ref h0), (1, .int n1), (2, .int n2)] := hl
  obtain ⟨pw, hpw, epw⟩ := shl_ex hkn
  refine lv_iload_n hx hb dX9_settle_0 rfl (lv_at hl 1 rfl) ?_
  have hPc := hP.sub (ws' := []) [] rfl
  have hDc := hD.sub (ws' := []) [] (by decide) rfl
  have hKc := hK.sub (tys' := []) [] rfl
  refine va_calli (va_runS (As := [.int n1]) (rest := []) ⟨hx, hb, hml, hown, hts⟩ (m_isName l dC dI s.heap.size n1 ) (va_cwS 1 hts (gS mw_4_115 mw_4_116 mw_1_9 mw_4_117) rfl rfl rfl (by decide +kernel) ⟨Nat.le_of_ble_eq_true rfl, Nat.le_of_ble_eq_true rfl⟩) ⟨pcW_blind, pcW_at hPc hKc hDc hN⟩ rfl rfl hl.1 rfl (lv_room (Nat.le_of_ble_eq_true rfl)) dX9_settle_1 ⟨Nat.le_of_ble_eq_true rfl, Nat.le_of_ble_eq_true rfl⟩) hS (fun q h1 h2 => absurd h2 (Nat.not_le.mpr h1)) (fun q h => hA q (Nat.le_trans hS.1 h)) (fun r_1 u t H1 locs ht hvm hw_1 hB hz1 hk1 hS => ?_)
  have hP := keepP hP hk1
  clear hz1 hk1 hB ht hvm hPc hDc hKc
  generalize H1 = H at hP hS ⊢
  rcases fx_bool hw_1 with ⟨rfl, b_2⟩ | ⟨rfl, b_2⟩
  · skip
    refine lv_if_ne (tgt := 9) hx hb dX9_settle_4 (by decide) (fun _ => ?_) (fun h => absurd h (by decide))
    refine lv_iload_n hx hb dX9_settle_9 rfl (lv_at hl 2 rfl) ?_
    refine lv_i2l hx hb dX9_settle_10 rfl ?_
    refine lv_lconst (v := Int32.toInt64 0) hx hb dX9_settle_11 (by decide) ?_
    refine lv_lconst (v := Int32.toInt64 1) hx hb dX9_settle_12 (by decide) ?_
    have hPc := hP.sub (ws' := []) [] rfl
    have hDc := hD.sub (ws' := []) [] (by decide) rfl
    have hKc := hK.sub (tys' := []) [] rfl
    refine va_calli (va_runS (As := [.long (Int32.toInt64 n2), .long (Int32.toInt64 0), .long (Int32.toInt64 1)]) (rest := []) ⟨hx, hb, hml, hown, hts⟩ (m_in l dC dI H.size n2 0 1 0 1 (by decide) (by decide)) (va_cwS 3 hts (gS mw_4_57 mw_4_58 mw_1_9 mw_4_59) rfl rfl rfl (by decide +kernel) ⟨Nat.le_of_ble_eq_true rfl, Nat.le_of_ble_eq_true rfl⟩) ⟨pcW_blind, pcW_at hPc hKc hDc hN⟩ rfl rfl hl.1 rfl (lv_room (Nat.le_of_ble_eq_true rfl)) dX9_settle_13 ⟨Nat.le_of_ble_eq_true rfl, Nat.le_of_ble_eq_true rfl⟩) hS (fun q h1 h2 => absurd h2 (Nat.not_le.mpr h1)) (fun q h => hA q (Nat.le_trans hS.1 h)) (fun r_3 u t H1 locs ht hvm hw_3 hB hz1 hk1 hS => ?_)
    have hP := keepP hP hk1
    clear hz1 hk1 hB ht hvm hPc hDc hKc
    generalize H1 = H at hP hS ⊢
    rcases fx_bool hw_3 with ⟨rfl, b_4⟩ | ⟨rfl, b_4⟩
    · skip
      refine lv_if_ne (tgt := 22) hx hb dX9_settle_16 (by decide) (fun _ => ?_) (fun h => absurd h (by decide))
      obtain ⟨j_5, tj_5, ej_5⟩ := fx_nat (x := n1) (by omega)
      subst ej_5
      have yj_5 : Int32.toInt (nI j_5) = (j_5 : Int) := nI_toInt tj_5
      refine lv_aload_n hx hb dX9_settle_22 rfl (lv_at hl 0 rfl) ?_
      refine lv_iload_n hx hb dX9_settle_23 rfl (lv_at hl 1 rfl) ?_
      have hPc := hP.sub (ws' := [(h0, .inr (8, [w0, w1, .ref l6, w3, .int (nI kn), w5, w6, w7, w8, w9, w10, w11, w12, w13, .ref nm0, w15, w16, w17, w18, w19, w20, w21, w22, w23, w24, w25, w26, w27, w28, w29, w30, w31, w32, w33, w34])), (nm0, .inl (knm0, 10, .inl fnm))]) [0, 2] rfl
      have hDc := hD.sub (ws' := [(h0, .inr (8, [w0, w1, .ref l6, w3, .int (nI kn), w5, w6, w7, w8, w9, w10, w11, w12, w13, .ref nm0, w15, w16, w17, w18, w19, w20, w21, w22, w23, w24, w25, w26, w27, w28, w29, w30, w31, w32, w33, w34])), (nm0, .inl (knm0, 10, .inl fnm))]) [0, 2] (by decide) rfl
      have hKc := hK.sub (tys' := [(knm0, .int)]) [1] rfl
      refine va_calli (va_runV (As := [.int (nI j_5)]) (rest := []) ⟨hx, hb, hml, hown, hts⟩ (m_havingOf l dC dI H.size h0 (w0) (w1) (.ref l6) (w3) kn (w5) (w6) (w7) (w8) (w9) (w10) (w11) (w12) (w13) nm0 (w15) (w16) (w17) (w18) (w19) (w20) (w21) (w22) (w23) (w24) (w25) (w26) (w27) (w28) (w29) (w30) (w31) (w32) (w33) (w34) knm0 fnm j_5 hkn (by omega)) (cwV 1 hts (gV mw_4_167 mw_4_169 mw_0_26 mw_1_9 mw_4_170) rfl rfl rfl (by decide +kernel) ⟨Nat.le_of_ble_eq_true rfl, Nat.le_of_ble_eq_true rfl⟩) ⟨pcW_blind, va_recv hKc hPc (ci := 8) (q0 := 0) rfl rfl, pcW_at hPc hKc hDc hN⟩ rfl rfl hl.1 rfl (lv_room (Nat.le_of_ble_eq_true rfl)) dX9_settle_24 ⟨Nat.le_of_ble_eq_true rfl, Nat.le_of_ble_eq_true rfl⟩) hS (fun q h1 h2 => absurd h2 (Nat.not_le.mpr h1)) (fun q h => hA q (Nat.le_trans hS.1 h)) (fun r_6 u t H1 locs ht hvm hw_6 hB hz1 hk1 hS => ?_)
      have hP := keepP hP hk1
      clear hz1 hk1 hB ht hvm hPc hDc hKc
      generalize H1 = H at hP hS ⊢
      obtain rfl : r_6 = (hvF fnm kn j_5) := hw_6
      refine lv_istore_n (lv' := [(3, .int (hvF fnm kn j_5)), (0, .ref h0), (1, .int (nI j_5)), (2, .int n2)]) hx hb dX9_settle_27 rfl hl (by decide) rfl (fun ls hl => ?_)
      refine lv_bipush (v := (-6)) hx hb dX9_settle_28 (by decide) ?_
      refine lv_istore (lv' := [(4, .int (-6)), (3, .int (hvF fnm kn j_5)), (0, .ref h0), (1, .int (nI j_5)), (2, .int n2)]) hx hb dX9_settle_30 hl (by decide) rfl (fun ls hl => ?_)
      refine lv_iconst (v := 0) hx hb dX9_settle_32 (by decide) ?_
      refine lv_istore (lv' := [(5, .int 0), (4, .int (-6)), (3, .int (hvF fnm kn j_5)), (0, .ref h0), (1, .int (nI j_5)), (2, .int n2)]) hx hb dX9_settle_33 hl (by decide) rfl (fun ls hl => ?_)
      have key_7 : ∀ (fu : Nat) (k : Nat) (ac : Int32), (k ≤ pw) → (ac = bsM fma kn (hvF fnm kn j_5) k) → pw - k < fu → ∀ (H : Heap) (locs : List Loc), va_P (dC, dI) vwCl [(h0, .inr (8, [w0, w1, .ref l6, w3, .int (nI kn), w5, w6, w7, w8, w9, w10, w11, w12, w13, .ref nm0, w15, w16, w17, w18, w19, w20, w21, w22, w23, w24, w25, w26, w27, w28, w29, w30, w31, w32, w33, w34])), (l6, .inl (kl6, 10, .inl fma)), (nm0, .inl (knm0, 10, .inl fnm))] H → va_S (fun q : Nat => s.heap.size ≤ q) s.heap H locs → ∀ (ls : Array Slot), lv_has ls 7 [(5, .int (nI k)), (4, .int ac), (3, .int (hvF fnm kn j_5)), (0, .ref h0), (1, .int (nI j_5)), (2, .int n2)] → W p l e (headSpec (wq yX9_settle cX9_settle 7 (some .int)) ({ frames := 2, cells := 0, slots := 0, locals := 48 })).room s m (([.ref h0, .int (nI j_5), .int n2] : List Value)).toArray below meth c H locs 0 0 (MQ below (va_Qi (fun (r : Int32) (_ : Unit) => r = (F_settle (bsM fma kn (hvF fnm kn (nI j_5).toNatClampNeg) ((1 : Int32) <<< (nI kn &&& 31)).toNatClampNeg) (nI (cnt (fun i => bt (bsM fma kn (hvF fnm kn (nI j_5).toNatClampNeg) ((1 : Int32) <<< (nI kn &&& 31)).toNatClampNeg) i) 10)) (nI j_5) n2)) (fun _ _ => True) (fun q : Nat => s.heap.size ≤ q)) (([.ref h0, .int (nI j_5), .int n2] : List Value)).toArray s 0 0 (fun q : Nat => s.heap.size ≤ q)) (F0 m 35 ls []) := by
        intro fu
        induction fu with
        | zero => intro k ac hk hac hme; exact absurd hme (Nat.not_lt_zero _)
        | succ fu ih_8 =>
          intro k ac hk hac hme H locs hP hS ls hl
          refine lv_iload hx hb dX9_settle_35 (lv_at hl 0 rfl) ?_
          refine lv_iconst (v := 1) hx hb dX9_settle_37 (by decide) ?_
          refine lv_aload_n hx hb dX9_settle_38 rfl (lv_at hl 3 rfl) ?_
          refine va_get (D := (dC, dI)) (ci := 8) (v := .int (nI kn)) (C := RX9) (T := TX9) (N := 35) hx hb hts inB_9 hown hK hP 0 rfl rfl 4 (by decide) (hts _ mw_3_186) (fun _ h9 => h9) rfl dX9_settle_39 ?_
          refine lv_ishl hx hb dX9_settle_42 ?_
          refine hx_top (y := (nI pw)) epw ?_
          refine lv_icmp_ge (tgt := 104) hx hb dX9_settle_43 (by decide) (fun c_9 => ?_) (fun c_9 => ?_)
          · have b_10 := gx_ge (X := ((k : Nat) : Int)) (C := ((pw : Nat) : Int)) (nI_toInt (by omega)) (nI_toInt (by omega)) c_9
            refine lv_iload_n hx hb dX9_settle_104 rfl (lv_at hl 5 rfl) ?_
            refine lv_if_ne (tgt := 113) hx hb dX9_settle_105 (by decide) (fun c_11 => ?_) (fun c_11 => ?_)
            · have b_12 := gx_ne (X := (Int32.toInt n2)) (C := 0) rfl (by decide) c_11
              refine lv_iload hx hb dX9_settle_113 (lv_at hl 1 rfl) ?_
              have hPc := hP.sub (ws' := []) [] rfl
              have hDc := hD.sub (ws' := []) [] (by decide) rfl
              have hKc := hK.sub (tys' := []) [] rfl
              refine va_calli (va_runS (As := [.int ac]) (rest := []) ⟨hx, hb, hml, hown, hts⟩ (m_ones l dC dI H.size ac ) (va_cwS 1 hts (gS mw_4_183 mw_4_184 mw_1_9 mw_4_185) rfl rfl rfl (by decide +kernel) ⟨Nat.le_of_ble_eq_true rfl, Nat.le_of_ble_eq_true rfl⟩) ⟨pcW_blind, pcW_at hPc hKc hDc hN⟩ rfl rfl hl.1 rfl (lv_room (Nat.le_of_ble_eq_true rfl)) dX9_settle_115 ⟨Nat.le_of_ble_eq_true rfl, Nat.le_of_ble_eq_true rfl⟩) hS (fun q h1 h2 => absurd h2 (Nat.not_le.mpr h1)) (fun q h => hA q (Nat.le_trans hS.1 h)) (fun r_13 u t H1 locs ht hvm hw_13 hB hz1 hk1 hS => ?_)
              have hP := keepP hP hk1
              clear hz1 hk1 hB ht hvm hPc hDc hKc
              generalize H1 = H at hP hS ⊢
              obtain rfl : r_13 = nI (cnt (fun i => bt ac i) 10) := hw_13
              have b_14 := (cnt_le : cnt (fun i => bt ac i) 10 ≤ 10)
              exact W.iret (v := (nI (cnt (fun i => bt ac i) 10))) hx hb hr (fun t ht hW => ⟨⟨(nI (cnt (fun i => bt ac i) 10)), (), rfl, (by unfold F_settle; rw [if_pos (by omega), if_neg (by omega), if_pos (by omega), show (nI j_5).toNatClampNeg = j_5 from nI_clamp (by omega), show ((1 : Int32) <<< (nI kn &&& 31)).toNatClampNeg = k from (by rw [epw, nI_clamp (by omega)]; omega), ← hac]), trivial⟩, hS.F ht⟩) hS.2.2 dX9_settle_118
            · have b_12 := gn_ne (X := (Int32.toInt n2)) (C := 0) rfl (by decide) c_11
              refine lv_iload hx hb dX9_settle_108 (lv_at hl 1 rfl) ?_
              refine lv_goto (tgt := 118) hx hb dX9_settle_110 (by decide) ?_
              exact W.iret (v := ac) hx hb hr (fun t ht hW => ⟨⟨ac, (), rfl, (by unfold F_settle; rw [if_pos (by omega), if_pos (by omega), show (nI j_5).toNatClampNeg = j_5 from nI_clamp (by omega), show ((1 : Int32) <<< (nI kn &&& 31)).toNatClampNeg = k from (by rw [epw, nI_clamp (by omega)]; omega), ← hac]), trivial⟩, hS.F ht⟩) hS.2.2 dX9_settle_118
          · have b_10 := gn_ge (X := ((k : Nat) : Int)) (C := ((pw : Nat) : Int)) (nI_toInt (by omega)) (nI_toInt (by omega)) c_9
            refine lv_iload hx hb dX9_settle_46 (lv_at hl 0 rfl) ?_
            refine lv_iload_n hx hb dX9_settle_48 rfl (lv_at hl 2 rfl) ?_
            refine lv_iand hx hb dX9_settle_49 ?_
            refine lv_if_ne (tgt := 75) hx hb dX9_settle_50 (by decide) (fun c_15 => ?_) (fun c_15 => ?_)
            · have b_16 := gx_ne (X := (Int32.toInt ((nI k) &&& (hvF fnm kn j_5)))) (C := 0) rfl (by decide) c_15
              refine lv_iconst (v := 0) hx hb dX9_settle_75 (by decide) ?_
              refine lv_istore (lv' := [(6, .int 0), (5, .int (nI k)), (4, .int ac), (3, .int (hvF fnm kn j_5)), (0, .ref h0), (1, .int (nI j_5)), (2, .int n2)]) hx hb dX9_settle_76 hl (by decide) rfl (fun ls hl => ?_)
              refine lv_iload hx hb dX9_settle_78 (lv_at hl 0 rfl) ?_
              refine lv_if_eq (tgt := 98) hx hb dX9_settle_80 (by decide) (fun _ => ?_) (fun h => absurd (by decide) h)
              refine lv_iinc (v := (nI (k + 1))) (lv' := [(5, .int (nI (k + 1))), (6, .int 0), (4, .int ac), (3, .int (hvF fnm kn j_5)), (0, .ref h0), (1, .int (nI j_5)), (2, .int n2)]) hx hb dX9_settle_98 hl (k := 1) rfl (nI_add k 1) (by decide) rfl (fun ls hl => ?_)
              refine lv_goto (tgt := 35) hx hb dX9_settle_101 (by decide) ?_
              exact ih_8 (k + 1) ac (by omega) (by rw [hac]; exact (if_neg (fun q => c_15 q.1)).symm) (by omega) _ _ hP hS ls (lv_sub hl [0, 2, 3, 4, 5, 6] rfl)
            · have b_16 := gn_ne (X := (Int32.toInt ((nI k) &&& (hvF fnm kn j_5)))) (C := 0) rfl (by decide) c_15
              refine lv_iload hx hb dX9_settle_53 (lv_at hl 1 rfl) ?_
              refine lv_if_lt (tgt := 71) hx hb dX9_settle_55 (by decide) (fun c_17 => ?_) (fun c_17 => ?_)
              · have b_18 := gx_lt (X := (Int32.toInt ac)) (C := 0) rfl (by decide) c_17
                refine lv_iconst (v := 1) hx hb dX9_settle_71 (by decide) ?_
                refine lv_goto (tgt := 76) hx hb dX9_settle_72 (by decide) ?_
                refine lv_istore (lv' := [(6, .int 1), (5, .int (nI k)), (4, .int ac), (3, .int (hvF fnm kn j_5)), (0, .ref h0), (1, .int (nI j_5)), (2, .int n2)]) hx hb dX9_settle_76 hl (by decide) rfl (fun ls hl => ?_)
                refine lv_iload hx hb dX9_settle_78 (lv_at hl 0 rfl) ?_
                refine lv_if_eq (tgt := 98) hx hb dX9_settle_80 (by decide) (fun h => absurd h (by decide)) (fun _ => ?_)
                refine lv_aload_n hx hb dX9_settle_83 rfl (lv_at hl 4 rfl) ?_
                refine lv_iload_n hx hb dX9_settle_84 rfl (lv_at hl 3 rfl) ?_
                refine lv_iload hx hb dX9_settle_85 (lv_at hl 1 rfl) ?_
                refine lv_ior hx hb dX9_settle_87 ?_
                have hPc := hP.sub (ws' := [(h0, .inr (8, [w0, w1, .ref l6, w3, .int (nI kn), w5, w6, w7, w8, w9, w10, w11, w12, w13, .ref nm0, w15, w16, w17, w18, w19, w20, w21, w22, w23, w24, w25, w26, w27, w28, w29, w30, w31, w32, w33, w34])), (l6, .inl (kl6, 10, .inl fma))]) [0, 1] rfl
                have hDc := hD.sub (ws' := [(h0, .inr (8, [w0, w1, .ref l6, w3, .int (nI kn), w5, w6, w7, w8, w9, w10, w11, w12, w13, .ref nm0, w15, w16, w17, w18, w19, w20, w21, w22, w23, w24, w25, w26, w27, w28, w29, w30, w31, w32, w33, w34])), (l6, .inl (kl6, 10, .inl fma))]) [0, 1] (by decide) rfl
                have hKc := hK.sub (tys' := [(kl6, .int)]) [0] rfl
                refine va_calli (va_runV (As := [.int ((hvF fnm kn j_5) ||| (nI k))]) (rest := []) ⟨hx, hb, hml, hown, hts⟩ (m_doubtBy l dC dI H.size h0 (w0) (w1) l6 (w3) kn (w5) (w6) (w7) (w8) (w9) (w10) (w11) (w12) (w13) (.ref nm0) (w15) (w16) (w17) (w18) (w19) (w20) (w21) (w22) (w23) (w24) (w25) (w26) (w27) (w28) (w29) (w30) (w31) (w32) (w33) (w34) kl6 fma ((hvF fnm kn j_5) ||| (nI k)) hkn) (cwV 1 hts (gV mw_4_179 mw_4_181 mw_0_28 mw_1_9 mw_4_182) rfl rfl rfl (by decide +kernel) ⟨Nat.le_of_ble_eq_true rfl, Nat.le_of_ble_eq_true rfl⟩) ⟨pcW_blind, va_recv hKc hPc (ci := 8) (q0 := 0) rfl rfl, pcW_at hPc hKc hDc hN⟩ rfl rfl hl.1 rfl (lv_room (Nat.le_of_ble_eq_true rfl)) dX9_settle_88 ⟨Nat.le_of_ble_eq_true rfl, Nat.le_of_ble_eq_true rfl⟩) hS (fun q h1 h2 => absurd h2 (Nat.not_le.mpr h1)) (fun q h => hA q (Nat.le_trans hS.1 h)) (fun r_19 u t H1 locs ht hvm hw_19 hB hz1 hk1 hS => ?_)
                have hP := keepP hP hk1
                clear hz1 hk1 hB ht hvm hPc hDc hKc
                generalize H1 = H at hP hS ⊢
                obtain rfl : r_19 = (dbM fma kn ((hvF fnm kn j_5) ||| (nI k))) := hw_19
                refine lv_if_ne (tgt := 98) hx hb dX9_settle_91 (by decide) (fun c_20 => ?_) (fun c_20 => ?_)
                · have b_21 := gx_ne (X := (Int32.toInt (dbM fma kn ((hvF fnm kn j_5) ||| (nI k))))) (C := 0) rfl (by decide) c_20
                  refine lv_iinc (v := (nI (k + 1))) (lv' := [(5, .int (nI (k + 1))), (6, .int 1), (4, .int ac), (3, .int (hvF fnm kn j_5)), (0, .ref h0), (1, .int (nI j_5)), (2, .int n2)]) hx hb dX9_settle_98 hl (k := 1) rfl (nI_add k 1) (by decide) rfl (fun ls hl => ?_)
                  refine lv_goto (tgt := 35) hx hb dX9_settle_101 (by decide) ?_
                  exact ih_8 (k + 1) ac (by omega) (by rw [hac]; exact (if_neg (fun q => c_20 q.2.2)).symm) (by omega) _ _ hP hS ls (lv_sub hl [0, 2, 3, 4, 5, 6] rfl)
                · have b_21 := gn_ne (X := (Int32.toInt (dbM fma kn ((hvF fnm kn j_5) ||| (nI k))))) (C := 0) rfl (by decide) c_20
                  refine lv_iload hx hb dX9_settle_94 (lv_at hl 1 rfl) ?_
                  refine lv_istore (lv' := [(4, .int (nI k)), (6, .int 1), (5, .int (nI k)), (3, .int (hvF fnm kn j_5)), (0, .ref h0), (1, .int (nI j_5)), (2, .int n2)]) hx hb dX9_settle_96 hl (by decide) rfl (fun ls hl => ?_)
                  refine lv_iinc (v := (nI (k + 1))) (lv' := [(5, .int (nI (k + 1))), (4, .int (nI k)), (6, .int 1), (3, .int (hvF fnm kn j_5)), (0, .ref h0), (1, .int (nI j_5)), (2, .int n2)]) hx hb dX9_settle_98 hl (k := 2) rfl (nI_add k 1) (by decide) rfl (fun ls hl => ?_)
                  refine lv_goto (tgt := 35) hx hb dX9_settle_101 (by decide) ?_
                  exact ih_8 (k + 1) (nI k) (by omega) (by rw [show bsM fma kn (hvF fnm kn j_5) (k + 1) = nI k from if_pos ⟨c_15, Or.inl (by rw [← hac]; omega), c_20⟩]) (by omega) _ _ hP hS ls (lv_sub hl [0, 1, 3, 4, 5, 6] rfl)
              · have b_18 := gn_lt (X := (Int32.toInt ac)) (C := 0) rfl (by decide) c_17
                refine lv_iload hx hb dX9_settle_58 (lv_at hl 0 rfl) ?_
                have hPc := hP.sub (ws' := []) [] rfl
                have hDc := hD.sub (ws' := []) [] (by decide) rfl
                have hKc := hK.sub (tys' := []) [] rfl
                refine va_calli (va_runS (As := [.int (nI k)]) (rest := []) ⟨hx, hb, hml, hown, hts⟩ (m_ones l dC dI H.size (nI k) ) (va_cwS 1 hts (gS mw_4_183 mw_4_184 mw_1_9 mw_4_185) rfl rfl rfl (by decide +kernel) ⟨Nat.le_of_ble_eq_true rfl, Nat.le_of_ble_eq_true rfl⟩) ⟨pcW_blind, pcW_at hPc hKc hDc hN⟩ rfl rfl hl.1 rfl (lv_room (Nat.le_of_ble_eq_true rfl)) dX9_settle_60 ⟨Nat.le_of_ble_eq_true rfl, Nat.le_of_ble_eq_true rfl⟩) hS (fun q h1 h2 => absurd h2 (Nat.not_le.mpr h1)) (fun q h => hA q (Nat.le_trans hS.1 h)) (fun r_22 u t H1 locs ht hvm hw_22 hB hz1 hk1 hS => ?_)
                have hP := keepP hP hk1
                clear hz1 hk1 hB ht hvm hPc hDc hKc
                generalize H1 = H at hP hS ⊢
                obtain rfl : r_22 = nI (cnt (fun i => bt (nI k) i) 10) := hw_22
                have b_23 := (cnt_le : cnt (fun i => bt (nI k) i) 10 ≤ 10)
                refine lv_iload hx hb dX9_settle_63 (lv_at hl 1 rfl) ?_
                have hPc := hP.sub (ws' := []) [] rfl
                have hDc := hD.sub (ws' := []) [] (by decide) rfl
                have hKc := hK.sub (tys' := []) [] rfl
                refine va_calli (va_runS (As := [.int ac]) (rest := [.int (nI (cnt (fun i => bt (nI k) i) 10))]) ⟨hx, hb, hml, hown, hts⟩ (m_ones l dC dI H.size ac ) (va_cwS 1 hts (gS mw_4_183 mw_4_184 mw_1_9 mw_4_185) rfl rfl rfl (by decide +kernel) ⟨Nat.le_of_ble_eq_true rfl, Nat.le_of_ble_eq_true rfl⟩) ⟨pcW_blind, pcW_at hPc hKc hDc hN⟩ rfl rfl hl.1 rfl (lv_room (Nat.le_of_ble_eq_true rfl)) dX9_settle_65 ⟨Nat.le_of_ble_eq_true rfl, Nat.le_of_ble_eq_true rfl⟩) hS (fun q h1 h2 => absurd h2 (Nat.not_le.mpr h1)) (fun q h => hA q (Nat.le_trans hS.1 h)) (fun r_24 u t H1 locs ht hvm hw_24 hB hz1 hk1 hS => ?_)
                have hP := keepP hP hk1
                clear hz1 hk1 hB ht hvm hPc hDc hKc
                generalize H1 = H at hP hS ⊢
                obtain rfl : r_24 = nI (cnt (fun i => bt ac i) 10) := hw_24
                have b_25 := (cnt_le : cnt (fun i => bt ac i) 10 ≤ 10)
                refine lv_icmp_ge (tgt := 75) hx hb dX9_settle_68 (by decide) (fun c_26 => ?_) (fun c_26 => ?_)
                · have b_27 := gx_ge (X := ((cnt (fun i => bt (nI k) i) 10 : Nat) : Int)) (C := ((cnt (fun i => bt ac i) 10 : Nat) : Int)) (nI_toInt (by omega)) (nI_toInt (by omega)) c_26
                  refine lv_iconst (v := 0) hx hb dX9_settle_75 (by decide) ?_
                  refine lv_istore (lv' := [(6, .int 0), (5, .int (nI k)), (4, .int ac), (3, .int (hvF fnm kn j_5)), (0, .ref h0), (1, .int (nI j_5)), (2, .int n2)]) hx hb dX9_settle_76 hl (by decide) rfl (fun ls hl => ?_)
                  refine lv_iload hx hb dX9_settle_78 (lv_at hl 0 rfl) ?_
                  refine lv_if_eq (tgt := 98) hx hb dX9_settle_80 (by decide) (fun _ => ?_) (fun h => absurd (by decide) h)
                  refine lv_iinc (v := (nI (k + 1))) (lv' := [(5, .int (nI (k + 1))), (6, .int 0), (4, .int ac), (3, .int (hvF fnm kn j_5)), (0, .ref h0), (1, .int (nI j_5)), (2, .int n2)]) hx hb dX9_settle_98 hl (k := 1) rfl (nI_add k 1) (by decide) rfl (fun ls hl => ?_)
                  refine lv_goto (tgt := 35) hx hb dX9_settle_101 (by decide) ?_
                  exact ih_8 (k + 1) ac (by omega) (by have q0 := hac; rw [hac]; refine (if_neg (fun q => ?_)).symm; rcases q.2.1 with q1 | q1 <;> rw [← q0] at q1 <;> omega) (by omega) _ _ hP hS ls (lv_sub hl [0, 2, 3, 4, 5, 6] rfl)
                · have b_27 := gn_ge (X := ((cnt (fun i => bt (nI k) i) 10 : Nat) : Int)) (C := ((cnt (fun i => bt ac i) 10 : Nat) : Int)) (nI_toInt (by omega)) (nI_toInt (by omega)) c_26
                  refine lv_iconst (v := 1) hx hb dX9_settle_71 (by decide) ?_
                  refine lv_goto (tgt := 76) hx hb dX9_settle_72 (by decide) ?_
                  refine lv_istore (lv' := [(6, .int 1), (5, .int (nI k)), (4, .int ac), (3, .int (hvF fnm kn j_5)), (0, .ref h0), (1, .int (nI j_5)), (2, .int n2)]) hx hb dX9_settle_76 hl (by decide) rfl (fun ls hl => ?_)
                  refine lv_iload hx hb dX9_settle_78 (lv_at hl 0 rfl) ?_
                  refine lv_if_eq (tgt := 98) hx hb dX9_settle_80 (by decide) (fun h => absurd h (by decide)) (fun _ => ?_)
                  refine lv_aload_n hx hb dX9_settle_83 rfl (lv_at hl 4 rfl) ?_
                  refine lv_iload_n hx hb dX9_settle_84 rfl (lv_at hl 3 rfl) ?_
                  refine lv_iload hx hb dX9_settle_85 (lv_at hl 1 rfl) ?_
                  refine lv_ior hx hb dX9_settle_87 ?_
                  have hPc := hP.sub (ws' := [(h0, .inr (8, [w0, w1, .ref l6, w3, .int (nI kn), w5, w6, w7, w8, w9, w10, w11, w12, w13, .ref nm0, w15, w16, w17, w18, w19, w20, w21, w22, w23, w24, w25, w26, w27, w28, w29, w30, w31, w32, w33, w34])), (l6, .inl (kl6, 10, .inl fma))]) [0, 1] rfl
                  have hDc := hD.sub (ws' := [(h0, .inr (8, [w0, w1, .ref l6, w3, .int (nI kn), w5, w6, w7, w8, w9, w10, w11, w12, w13, .ref nm0, w15, w16, w17, w18, w19, w20, w21, w22, w23, w24, w25, w26, w27, w28, w29, w30, w31, w32, w33, w34])), (l6, .inl (kl6, 10, .inl fma))]) [0, 1] (by decide) rfl
                  have hKc := hK.sub (tys' := [(kl6, .int)]) [0] rfl
                  refine va_calli (va_runV (As := [.int ((hvF fnm kn j_5) ||| (nI k))]) (rest := []) ⟨hx, hb, hml, hown, hts⟩ (m_doubtBy l dC dI H.size h0 (w0) (w1) l6 (w3) kn (w5) (w6) (w7) (w8) (w9) (w10) (w11) (w12) (w13) (.ref nm0) (w15) (w16) (w17) (w18) (w19) (w20) (w21) (w22) (w23) (w24) (w25) (w26) (w27) (w28) (w29) (w30) (w31) (w32) (w33) (w34) kl6 fma ((hvF fnm kn j_5) ||| (nI k)) hkn) (cwV 1 hts (gV mw_4_179 mw_4_181 mw_0_28 mw_1_9 mw_4_182) rfl rfl rfl (by decide +kernel) ⟨Nat.le_of_ble_eq_true rfl, Nat.le_of_ble_eq_true rfl⟩) ⟨pcW_blind, va_recv hKc hPc (ci := 8) (q0 := 0) rfl rfl, pcW_at hPc hKc hDc hN⟩ rfl rfl hl.1 rfl (lv_room (Nat.le_of_ble_eq_true rfl)) dX9_settle_88 ⟨Nat.le_of_ble_eq_true rfl, Nat.le_of_ble_eq_true rfl⟩) hS (fun q h1 h2 => absurd h2 (Nat.not_le.mpr h1)) (fun q h => hA q (Nat.le_trans hS.1 h)) (fun r_28 u t H1 locs ht hvm hw_28 hB hz1 hk1 hS => ?_)
                  have hP := keepP hP hk1
                  clear hz1 hk1 hB ht hvm hPc hDc hKc
                  generalize H1 = H at hP hS ⊢
                  obtain rfl : r_28 = (dbM fma kn ((hvF fnm kn j_5) ||| (nI k))) := hw_28
                  refine lv_if_ne (tgt := 98) hx hb dX9_settle_91 (by decide) (fun c_29 => ?_) (fun c_29 => ?_)
                  · have b_30 := gx_ne (X := (Int32.toInt (dbM fma kn ((hvF fnm kn j_5) ||| (nI k))))) (C := 0) rfl (by decide) c_29
                    refine lv_iinc (v := (nI (k + 1))) (lv' := [(5, .int (nI (k + 1))), (6, .int 1), (4, .int ac), (3, .int (hvF fnm kn j_5)), (0, .ref h0), (1, .int (nI j_5)), (2, .int n2)]) hx hb dX9_settle_98 hl (k := 1) rfl (nI_add k 1) (by decide) rfl (fun ls hl => ?_)
                    refine lv_goto (tgt := 35) hx hb dX9_settle_101 (by decide) ?_
                    exact ih_8 (k + 1) ac (by omega) (by rw [hac]; exact (if_neg (fun q => c_29 q.2.2)).symm) (by omega) _ _ hP hS ls (lv_sub hl [0, 2, 3, 4, 5, 6] rfl)
                  · have b_30 := gn_ne (X := (Int32.toInt (dbM fma kn ((hvF fnm kn j_5) ||| (nI k))))) (C := 0) rfl (by decide) c_29
                    refine lv_iload hx hb dX9_settle_94 (lv_at hl 1 rfl) ?_
                    refine lv_istore (lv' := [(4, .int (nI k)), (6, .int 1), (5, .int (nI k)), (3, .int (hvF fnm kn j_5)), (0, .ref h0), (1, .int (nI j_5)), (2, .int n2)]) hx hb dX9_settle_96 hl (by decide) rfl (fun ls hl => ?_)
                    refine lv_iinc (v := (nI (k + 1))) (lv' := [(5, .int (nI (k + 1))), (4, .int (nI k)), (6, .int 1), (3, .int (hvF fnm kn j_5)), (0, .ref h0), (1, .int (nI j_5)), (2, .int n2)]) hx hb dX9_settle_98 hl (k := 2) rfl (nI_add k 1) (by decide) rfl (fun ls hl => ?_)
                    refine lv_goto (tgt := 35) hx hb dX9_settle_101 (by decide) ?_
                    exact ih_8 (k + 1) (nI k) (by omega) (by rw [show bsM fma kn (hvF fnm kn j_5) (k + 1) = nI k from if_pos ⟨c_15, Or.inr (by rw [← hac]; omega), c_29⟩]) (by omega) _ _ hP hS ls (lv_sub hl [0, 1, 3, 4, 5, 6] rfl)
      exact key_7 ((pw - 0) + 1) 0 (-6) (by omega) rfl (Nat.lt_succ_self _) _ _ hP hS ls (lv_sub hl [0, 1, 2, 3, 4, 5] rfl)
    · skip
      refine lv_if_ne (tgt := 22) hx hb dX9_settle_16 (by decide) (fun h => absurd h (by decide)) (fun _ => ?_)
      refine lv_bipush (v := (-2)) hx hb dX9_settle_19 (by decide) ?_
      exact W.iret (v := (-2)) hx hb hr (fun t ht hW => ⟨⟨(-2), (), rfl, (by unfold F_settle; rw [if_pos (by omega), if_neg (by omega), if_neg (by omega)]), trivial⟩, hS.F ht⟩) hS.2.2 dX9_settle_21
  · skip
    refine lv_if_ne (tgt := 9) hx hb dX9_settle_4 (by decide) (fun h => absurd h (by decide)) (fun _ => ?_)
    refine lv_iconst (v := (-1)) hx hb dX9_settle_7 (by decide) ?_
    exact W.iret (v := (-1)) hx hb hr (fun t ht hW => ⟨⟨(-1), (), rfl, (by unfold F_settle; rw [if_neg (by omega)]), trivial⟩, hS.F ht⟩) hS.2.2 dX9_settle_8
set_option maxHeartbeats 4000000 in
set_option maxRecDepth 100000 in
theorem m_shift (l : Launch) (dC : Nat → ClassId) (dI : Nat → Nat → Nat) (sz : Nat) (h0 : Nat) (w0 : Value) (w1 : Value) (w2 : Value) (w3 : Value) (kn : Nat) (l4 : Nat) (l1 : Nat) (w7 : Value) (w8 : Value) (w9 : Value) (w10 : Value) (w11 : Value) (w12 : Value) (w13 : Value) (nm0 : Nat) (w15 : Value) (w16 : Value) (w17 : Value) (w18 : Value) (w19 : Value) (w20 : Value) (w21 : Value) (w22 : Value) (w23 : Value) (w24 : Value) (w25 : Value) (w26 : Value) (w27 : Value) (w28 : Value) (w29 : Value) (w30 : Value) (w31 : Value) (w32 : Value) (w33 : Value) (w34 : Value) (kl1 : ClassId) (fll : Nat → Int32) (kl4 : ClassId) (fln : Nat → Int32) (knm0 : ClassId) (fnm : Nat → Int32) (n1 : Int32) (n2 : Int32) (hkn : kn ≤ 10) (hll : BdOk 10 10 fll) (hln : LnOk fll fln kn) : Met l yX9_shift (wq yX9_shift cX9_shift 7 (some .int)) ({ frames := 3, cells := 0, slots := 0, locals := 71 }) (va_Pc [.ref h0, .int n1, .int n2] (pcW dC dI [(kl1, .int), (kl4, .int), (knm0, .int)] [(h0, .inr (8, [w0, w1, w2, w3, .int (nI kn), .ref l4, .ref l1, w7, w8, w9, w10, w11, w12, w13, .ref nm0, w15, w16, w17, w18, w19, w20, w21, w22, w23, w24, w25, w26, w27, w28, w29, w30, w31, w32, w33, w34])), (l1, .inl (kl1, 10, .inl fll)), (l4, .inl (kl4, 100, .inl fln)), (nm0, .inl (knm0, 10, .inl fnm))] sz)) (va_Qi (fun (r : Int32) (_ : Unit) => r = F_shift kn (bt (fnm n1.toNatClampNeg) n2.toNatClampNeg) (shM fll fln fnm kn n1.toNatClampNeg n2.toNatClampNeg) n1 n2) (fun _ t => ∃ (fnm2 : Nat → Int32), (fnm2 = fnm) ∧ va_P (dC, dI) vwCl [(h0, .inr (8, [w0, w1, w2, w3, .int (nI kn), .ref l4, .ref l1, w7, w8, w9, w10, w11, w12, w13, .ref nm0, w15, w16, w17, w18, w19, w20, w21, w22, w23, w24, w25, w26, w27, w28, w29, w30, w31, w32, w33, w34])), (l1, .inl (kl1, 10, .inl fll)), (l4, .inl (kl4, 100, .inl fln)), (nm0, .inl (knm0, 10, .inl fnm2))] t.heap ∧ va_K (dC, dI) vwCl [(kl1, .int), (kl4, .int), (knm0, .int)] t ∧ va_D (va_A [(h0, .inr (8, [w0, w1, w2, w3, .int (nI kn), .ref l4, .ref l1, w7, w8, w9, w10, w11, w12, w13, .ref nm0, w15, w16, w17, w18, w19, w20, w21, w22, w23, w24, w25, w26, w27, w28, w29, w30, w31, w32, w33, w34])), (l1, .inl (kl1, 10, .inl fll)), (l4, .inl (kl4, 100, .inl fln)), (nm0, .inl (knm0, 10, .inl fnm))] sz) [(h0, .inr (8, [w0, w1, w2, w3, .int (nI kn), .ref l4, .ref l1, w7, w8, w9, w10, w11, w12, w13, .ref nm0, w15, w16, w17, w18, w19, w20, w21, w22, w23, w24, w25, w26, w27, w28, w29, w30, w31, w32, w33, w34])), (l1, .inl (kl1, 10, .inl fll)), (l4, .inl (kl4, 100, .inl fln)), (nm0, .inl (knm0, 10, .inl fnm2))]) (va_A [(h0, .inr (8, [w0, w1, w2, w3, .int (nI kn), .ref l4, .ref l1, w7, w8, w9, w10, w11, w12, w13, .ref nm0, w15, w16, w17, w18, w19, w20, w21, w22, w23, w24, w25, w26, w27, w28, w29, w30, w31, w32, w33, w34])), (l1, .inl (kl1, 10, .inl fll)), (l4, .inl (kl4, 100, .inl fln)), (nm0, .inl (knm0, 10, .inl fnm))] sz)) 0 0 (va_A [(h0, .inr (8, [w0, w1, w2, w3, .int (nI kn), .ref l4, .ref l1, w7, w8, w9, w10, w11, w12, w13, .ref nm0, w15, w16, w17, w18, w19, w20, w21, w22, w23, w24, w25, w26, w27, w28, w29, w30, w31, w32, w33, w34])), (l1, .inl (kl1, 10, .inl fll)), (l4, .inl (kl4, 100, .inl fln)), (nm0, .inl (knm0, 10, .inl fnm))] sz) := by
  refine Met.ofW (cc := cX9_shift) (maxL := 7) (ret := (some .int)) (by decide) rfl ?_
  intro p e s m args below meth c s₁ B hml hv
  obtain ⟨rfl, hsz, hN, hP, hK, hD0⟩ := hv
  have hx := B.exec
  have hb := B.bytes
  have hr := B.returns
  have hts0 := atoms_spec (ws := (wq yX9_shift cX9_shift 7 (some .int))) B.pre
  have hts : ∀ w ∈ BG, w.before _ s = true := fun w h => hts0 w (List.mem_cons_of_mem _ h)
  have hown : s.vm.findClass RX9 = some m.cls := findClass_of_methodNamed B.named
  have hlocks := B.notSynchronized
  subst hsz
  have hD := hD0.self (sz := s.heap.size)
  generalize hAe : va_A [(h0, .inr (8, [w0, w1, w2, w3, .int (nI kn), .ref l4, .ref l1, w7, w8, w9, w10, w11, w12, w13, .ref nm0, w15, w16, w17, w18, w19, w20, w21, w22, w23, w24, w25, w26, w27, w28, w29, w30, w31, w32, w33, w34])), (l1, .inl (kl1, 10, .inl fll)), (l4, .inl (kl4, 100, .inl fln)), (nm0, .inl (knm0, 10, .inl fnm))] s.heap.size = A at hD ⊢
  have hA : ∀ q : Nat, s.heap.size ≤ q → A q := fun q h => by rw [← hAe]; exact Or.inr h
  have hS : va_S A s.heap s.heap [] := va_S.rf
  clear hAe hD0
  have hP : va_P (dC, dI) vwCl [(h0, .inr (8, [w0, w1, w2, w3, .int (nI kn), .ref l4, .ref l1, w7, w8, w9, w10, w11, w12, w13, .ref nm0, w15, w16, w17, w18, w19, w20, w21, w22, w23, w24, w25, w26, w27, w28, w29, w30, w31, w32, w33, w34])), (l1, .inl (kl1, 10, .inl fll)), (l4, .inl (kl4, 100, .inl fln)), (nm0, .inl (knm0, 10, .inl fnm))] s.heap := hP
  have hl := lv_entry ([.ref h0, .int n1, .int n2]) (n := 7) (Nat.le_of_ble_eq_true rfl)
  rw [lg_entry_eq]
  generalize (lg_sl ([.ref h0, .int n1, .int n2]) ++ List.replicate (7 - (lg_sl ([.ref h0, .int n1, .int n2])).length) Slot.unset).toArray = ls at hl ⊢
  have hl : lv_has ls 7 [(0, .ref h0), (1, .int n1), (2, .int n2)] := hl
  refine lv_aload_n hx hb dX9_shift_0 rfl (lv_at hl 0 rfl) ?_
  refine lv_iload_n hx hb dX9_shift_1 rfl (lv_at hl 1 rfl) ?_
  have hPc := hP.sub (ws' := [(h0, .inr (8, [w0, w1, w2, w3, .int (nI kn), .ref l4, .ref l1, w7, w8, w9, w10, w11, w12, w13, .ref nm0, w15, w16, w17, w18, w19, w20, w21, w22, w23, w24, w25, w26, w27, w28, w29, w30, w31, w32, w33, w34]))]) [0] rfl
  have hDc := hD.sub (ws' := [(h0, .inr (8, [w0, w1, w2, w3, .int (nI kn), .ref l4, .ref l1, w7, w8, w9, w10, w11, w12, w13, .ref nm0, w15, w16, w17, w18, w19, w20, w21, w22, w23, w24, w25, w26, w27, w28, w29, w30, w31, w32, w33, w34]))]) [0] (by decide) rfl
  have hKc := hK.sub (tys' := []) [] rfl
  refine va_calli (va_runV (As := [.int n1]) (rest := []) ⟨hx, hb, hml, hown, hts⟩ (m_isKind l dC dI s.heap.size h0 (w0) (w1) (w2) (w3) kn (.ref l4) (.ref l1) (w7) (w8) (w9) (w10) (w11) (w12) (w13) (.ref nm0) (w15) (w16) (w17) (w18) (w19) (w20) (w21) (w22) (w23) (w24) (w25) (w26) (w27) (w28) (w29) (w30) (w31) (w32) (w33) (w34) n1 hkn) (cwV 1 hts (gV mw_4_53 mw_4_55 mw_0_15 mw_1_9 mw_4_56) rfl rfl rfl (by decide +kernel) ⟨Nat.le_of_ble_eq_true rfl, Nat.le_of_ble_eq_true rfl⟩) ⟨pcW_blind, va_recv hKc hPc (ci := 8) (q0 := 0) rfl rfl, pcW_at hPc hKc hDc hN⟩ rfl rfl hl.1 rfl (lv_room (Nat.le_of_ble_eq_true rfl)) dX9_shift_2 ⟨Nat.le_of_ble_eq_true rfl, Nat.le_of_ble_eq_true rfl⟩) hS (fun q h1 h2 => absurd h2 (Nat.not_le.mpr h1)) (fun q h => hA q (Nat.le_trans hS.1 h)) (fun r_1 u t H1 locs ht hvm hw_1 hB hz1 hk1 hS => ?_)
  have hP := keepP hP hk1
  clear hz1 hk1 hB ht hvm hPc hDc hKc
  generalize H1 = H at hP hS ⊢
  rcases fx_bool hw_1 with ⟨rfl, b_2⟩ | ⟨rfl, b_2⟩
  · skip
    refine lv_if_eq (tgt := 15) hx hb dX9_shift_5 (by decide) (fun h => absurd h (by decide)) (fun _ => ?_)
    refine lv_iload_n hx hb dX9_shift_8 rfl (lv_at hl 2 rfl) ?_
    have hPc := hP.sub (ws' := []) [] rfl
    have hDc := hD.sub (ws' := []) [] (by decide) rfl
    have hKc := hK.sub (tys' := []) [] rfl
    refine va_calli (va_runS (As := [.int n2]) (rest := []) ⟨hx, hb, hml, hown, hts⟩ (m_isName l dC dI H.size n2 ) (va_cwS 1 hts (gS mw_4_115 mw_4_116 mw_1_9 mw_4_117) rfl rfl rfl (by decide +kernel) ⟨Nat.le_of_ble_eq_true rfl, Nat.le_of_ble_eq_true rfl⟩) ⟨pcW_blind, pcW_at hPc hKc hDc hN⟩ rfl rfl hl.1 rfl (lv_room (Nat.le_of_ble_eq_true rfl)) dX9_shift_9 ⟨Nat.le_of_ble_eq_true rfl, Nat.le_of_ble_eq_true rfl⟩) hS (fun q h1 h2 => absurd h2 (Nat.not_le.mpr h1)) (fun q h => hA q (Nat.le_trans hS.1 h)) (fun r_3 u t H1 locs ht hvm hw_3 hB hz1 hk1 hS => ?_)
    have hP := keepP hP hk1
    clear hz1 hk1 hB ht hvm hPc hDc hKc
    generalize H1 = H at hP hS ⊢
    rcases fx_bool hw_3 with ⟨rfl, b_4⟩ | ⟨rfl, b_4⟩
    · skip
      refine lv_if_ne (tgt := 17) hx hb dX9_shift_12 (by decide) (fun _ => ?_) (fun h => absurd h (by decide))
      obtain ⟨j_5, tj_5, ej_5⟩ := fx_nat (x := n1) (by omega)
      subst ej_5
      have yj_5 : Int32.toInt (nI j_5) = (j_5 : Int) := nI_toInt tj_5
      obtain ⟨j_6, tj_6, ej_6⟩ := fx_nat (x := n2) (by omega)
      subst ej_6
      have yj_6 : Int32.toInt (nI j_6) = (j_6 : Int) := nI_toInt tj_6
      refine lv_aload_n hx hb dX9_shift_17 rfl (lv_at hl 0 rfl) ?_
      refine lv_iload_n hx hb dX9_shift_18 rfl (lv_at hl 1 rfl) ?_
      refine lv_iload_n hx hb dX9_shift_19 rfl (lv_at hl 2 rfl) ?_
      have hPc := hP.sub (ws' := [(h0, .inr (8, [w0, w1, w2, w3, .int (nI kn), .ref l4, .ref l1, w7, w8, w9, w10, w11, w12, w13, .ref nm0, w15, w16, w17, w18, w19, w20, w21, w22, w23, w24, w25, w26, w27, w28, w29, w30, w31, w32, w33, w34])), (nm0, .inl (knm0, 10, .inl fnm))]) [0, 3] rfl
      have hDc := hD.sub (ws' := [(h0, .inr (8, [w0, w1, w2, w3, .int (nI kn), .ref l4, .ref l1, w7, w8, w9, w10, w11, w12, w13, .ref nm0, w15, w16, w17, w18, w19, w20, w21, w22, w23, w24, w25, w26, w27, w28, w29, w30, w31, w32, w33, w34])), (nm0, .inl (knm0, 10, .inl fnm))]) [0, 3] (by decide) rfl
      have hKc := hK.sub (tys' := [(knm0, .int)]) [2] rfl
      refine va_calli (va_runV (As := [.int (nI j_5), .int (nI j_6)]) (rest := []) ⟨hx, hb, hml, hown, hts⟩ (m_hasNameX l dC dI H.size h0 (w0) (w1) (w2) (w3) (.int (nI kn)) (.ref l4) (.ref l1) (w7) (w8) (w9) (w10) (w11) (w12) (w13) nm0 (w15) (w16) (w17) (w18) (w19) (w20) (w21) (w22) (w23) (w24) (w25) (w26) (w27) (w28) (w29) (w30) (w31) (w32) (w33) (w34) knm0 fnm j_5 j_6 (by omega) (by omega)) (cwV 2 hts (gV mw_4_123 mw_4_125 mw_0_20 mw_1_9 mw_4_126) rfl rfl rfl (by decide +kernel) ⟨Nat.le_of_ble_eq_true rfl, Nat.le_of_ble_eq_true rfl⟩) ⟨pcW_blind, va_recv hKc hPc (ci := 8) (q0 := 0) rfl rfl, pcW_at hPc hKc hDc hN⟩ rfl rfl hl.1 rfl (lv_room (Nat.le_of_ble_eq_true rfl)) dX9_shift_20 ⟨Nat.le_of_ble_eq_true rfl, Nat.le_of_ble_eq_true rfl⟩) hS (fun q h1 h2 => absurd h2 (Nat.not_le.mpr h1)) (fun q h => hA q (Nat.le_trans hS.1 h)) (fun r_7 u t H1 locs ht hvm hw_7 hB hz1 hk1 hS => ?_)
      have hP := keepP hP hk1
      clear hz1 hk1 hB ht hvm hPc hDc hKc
      generalize H1 = H at hP hS ⊢
      rcases fx_bool hw_7 with ⟨rfl, b_8⟩ | ⟨rfl, b_8⟩
      · skip
        refine lv_if_eq (tgt := 29) hx hb dX9_shift_23 (by decide) (fun h => absurd h (by decide)) (fun _ => ?_)
        refine lv_bipush (v := (-5)) hx hb dX9_shift_26 (by decide) ?_
        have hP9 := hP.sub (ws' := [(h0, .inr (8, [w0, w1, w2, w3, .int (nI kn), .ref l4, .ref l1, w7, w8, w9, w10, w11, w12, w13, .ref nm0, w15, w16, w17, w18, w19, w20, w21, w22, w23, w24, w25, w26, w27, w28, w29, w30, w31, w32, w33, w34])), (l1, .inl (kl1, 10, .inl fll)), (l4, .inl (kl4, 100, .inl fln)), (nm0, .inl (knm0, 10, .inl fnm))]) [0, 1, 2, 3] rfl
        have hD9 := hD.sub (ws' := [(h0, .inr (8, [w0, w1, w2, w3, .int (nI kn), .ref l4, .ref l1, w7, w8, w9, w10, w11, w12, w13, .ref nm0, w15, w16, w17, w18, w19, w20, w21, w22, w23, w24, w25, w26, w27, w28, w29, w30, w31, w32, w33, w34])), (l1, .inl (kl1, 10, .inl fll)), (l4, .inl (kl4, 100, .inl fln)), (nm0, .inl (knm0, 10, .inl fnm))]) [0, 1, 2, 3] (by decide) rfl
        have hK9 := hK.sub (tys' := [(kl1, .int), (kl4, .int), (knm0, .int)]) [0, 1, 2] rfl
        exact W.iret (v := (-5)) hx hb hr (fun t ht hW => ⟨⟨(-5), (), rfl, (by unfold F_shift; rw [if_pos (by omega), nI_clamp (by omega), nI_clamp (by omega), if_pos b_8]), fnm, rfl, by rw [ht]; exact hP9, va_K.moved hW.alike hK9, hD9⟩, hS.F ht⟩) hS.2.2 dX9_shift_28
      · skip
        refine lv_if_eq (tgt := 29) hx hb dX9_shift_23 (by decide) (fun _ => ?_) (fun h => absurd (by decide) h)
        refine lv_iconst (v := 0) hx hb dX9_shift_29 (by decide) ?_
        refine lv_istore_n (lv' := [(3, .int 0), (0, .ref h0), (1, .int (nI j_5)), (2, .int (nI j_6))]) hx hb dX9_shift_30 rfl hl (by decide) rfl (fun ls hl => ?_)
        refine lv_iconst (v := 0) hx hb dX9_shift_31 (by decide) ?_
        refine lv_istore (lv' := [(4, .int 0), (3, .int 0), (0, .ref h0), (1, .int (nI j_5)), (2, .int (nI j_6))]) hx hb dX9_shift_32 hl (by decide) rfl (fun ls hl => ?_)
        have key_9 : ∀ (fu : Nat) (k : Nat) (ac : Int32) (fnx : Nat → Int32), (k ≤ kn) → (ac = bitsF (fun k => decide (¬ ansM fll fln fnm k j_6 0 = ansM fll fln (upd fnm j_5 (fnm j_5 ||| ((1 : Int32) <<< (nI j_6 &&& 31)))) k j_6 0)) k) → (fnx = fnm) → kn - k < fu → ∀ (H : Heap) (locs : List Loc), va_P (dC, dI) vwCl [(h0, .inr (8, [w0, w1, w2, w3, .int (nI kn), .ref l4, .ref l1, w7, w8, w9, w10, w11, w12, w13, .ref nm0, w15, w16, w17, w18, w19, w20, w21, w22, w23, w24, w25, w26, w27, w28, w29, w30, w31, w32, w33, w34])), (l1, .inl (kl1, 10, .inl fll)), (l4, .inl (kl4, 100, .inl fln)), (nm0, .inl (knm0, 10, .inl fnx))] H → va_D A [(h0, .inr (8, [w0, w1, w2, w3, .int (nI kn), .ref l4, .ref l1, w7, w8, w9, w10, w11, w12, w13, .ref nm0, w15, w16, w17, w18, w19, w20, w21, w22, w23, w24, w25, w26, w27, w28, w29, w30, w31, w32, w33, w34])), (l1, .inl (kl1, 10, .inl fll)), (l4, .inl (kl4, 100, .inl fln)), (nm0, .inl (knm0, 10, .inl fnx))] → va_S A s.heap H locs → ∀ (ls : Array Slot), lv_has ls 7 [(4, .int (nI k)), (3, .int ac), (0, .ref h0), (1, .int (nI j_5)), (2, .int (nI j_6))] → W p l e (headSpec (wq yX9_shift cX9_shift 7 (some .int)) ({ frames := 3, cells := 0, slots := 0, locals := 71 })).room s m (([.ref h0, .int (nI j_5), .int (nI j_6)] : List Value)).toArray below meth c H locs 0 0 (MQ below (va_Qi (fun (r : Int32) (_ : Unit) => r = F_shift kn (bt (fnm (nI j_5).toNatClampNeg) (nI j_6).toNatClampNeg) (shM fll fln fnm kn (nI j_5).toNatClampNeg (nI j_6).toNatClampNeg) (nI j_5) (nI j_6)) (fun _ t => ∃ (fnm2 : Nat → Int32), (fnm2 = fnm) ∧ va_P (dC, dI) vwCl [(h0, .inr (8, [w0, w1, w2, w3, .int (nI kn), .ref l4, .ref l1, w7, w8, w9, w10, w11, w12, w13, .ref nm0, w15, w16, w17, w18, w19, w20, w21, w22, w23, w24, w25, w26, w27, w28, w29, w30, w31, w32, w33, w34])), (l1, .inl (kl1, 10, .inl fll)), (l4, .inl (kl4, 100, .inl fln)), (nm0, .inl (knm0, 10, .inl fnm2))] t.heap ∧ va_K (dC, dI) vwCl [(kl1, .int), (kl4, .int), (knm0, .int)] t ∧ va_D A [(h0, .inr (8, [w0, w1, w2, w3, .int (nI kn), .ref l4, .ref l1, w7, w8, w9, w10, w11, w12, w13, .ref nm0, w15, w16, w17, w18, w19, w20, w21, w22, w23, w24, w25, w26, w27, w28, w29, w30, w31, w32, w33, w34])), (l1, .inl (kl1, 10, .inl fll)), (l4, .inl (kl4, 100, .inl fln)), (nm0, .inl (knm0, 10, .inl fnm2))]) A) (([.ref h0, .int (nI j_5), .int (nI j_6)] : List Value)).toArray s 0 0 A) (F0 m 34 ls []) := by
          intro fu
          induction fu with
          | zero => intro k ac fnx hk hac hfx hme; exact absurd hme (Nat.not_lt_zero _)
          | succ fu ih_10 =>
            intro k ac fnx hk hac hfx hme H locs hP hD hS ls hl
            refine lv_iload hx hb dX9_shift_34 (lv_at hl 0 rfl) ?_
            refine lv_aload_n hx hb dX9_shift_36 rfl (lv_at hl 2 rfl) ?_
            refine va_get (D := (dC, dI)) (ci := 8) (v := .int (nI kn)) (C := RX9) (T := TX9) (N := 35) hx hb hts inB_9 hown hK hP 0 rfl rfl 4 (by decide) (hts _ mw_3_186) (fun _ h9 => h9) rfl dX9_shift_37 ?_
            refine lv_icmp_ge (tgt := 113) hx hb dX9_shift_40 (by decide) (fun c_11 => ?_) (fun c_11 => ?_)
            · have b_12 := gx_ge (X := ((k : Nat) : Int)) (C := ((kn : Nat) : Int)) (nI_toInt (by omega)) (nI_toInt (by omega)) c_11
              refine lv_iload_n hx hb dX9_shift_113 rfl (lv_at hl 1 rfl) ?_
              have hP9 := hP.sub (ws' := [(h0, .inr (8, [w0, w1, w2, w3, .int (nI kn), .ref l4, .ref l1, w7, w8, w9, w10, w11, w12, w13, .ref nm0, w15, w16, w17, w18, w19, w20, w21, w22, w23, w24, w25, w26, w27, w28, w29, w30, w31, w32, w33, w34])), (l1, .inl (kl1, 10, .inl fll)), (l4, .inl (kl4, 100, .inl fln)), (nm0, .inl (knm0, 10, .inl fnx))]) [0, 1, 2, 3] rfl
              have hD9 := hD.sub (ws' := [(h0, .inr (8, [w0, w1, w2, w3, .int (nI kn), .ref l4, .ref l1, w7, w8, w9, w10, w11, w12, w13, .ref nm0, w15, w16, w17, w18, w19, w20, w21, w22, w23, w24, w25, w26, w27, w28, w29, w30, w31, w32, w33, w34])), (l1, .inl (kl1, 10, .inl fll)), (l4, .inl (kl4, 100, .inl fln)), (nm0, .inl (knm0, 10, .inl fnx))]) [0, 1, 2, 3] (by decide) rfl
              have hK9 := hK.sub (tys' := [(kl1, .int), (kl4, .int), (knm0, .int)]) [0, 1, 2] rfl
              exact W.iret (v := ac) hx hb hr (fun t ht hW => ⟨⟨ac, (), rfl, (by unfold F_shift shM; rw [if_pos (by omega), nI_clamp (by omega), nI_clamp (by omega), if_neg b_8, hac, show k = kn from (by omega)]), fnx, hfx, by rw [ht]; exact hP9, va_K.moved hW.alike hK9, hD9⟩, hS.F ht⟩) hS.2.2 dX9_shift_114
            · have b_12 := gn_ge (X := ((k : Nat) : Int)) (C := ((kn : Nat) : Int)) (nI_toInt (by omega)) (nI_toInt (by omega)) c_11
              refine lv_aload_n hx hb dX9_shift_43 rfl (lv_at hl 2 rfl) ?_
              refine lv_iload hx hb dX9_shift_44 (lv_at hl 0 rfl) ?_
              refine lv_iload_n hx hb dX9_shift_46 rfl (lv_at hl 4 rfl) ?_
              refine lv_iconst (v := 0) hx hb dX9_shift_47 (by decide) ?_
              have hPc := hP.sub (ws' := [(h0, .inr (8, [w0, w1, w2, w3, .int (nI kn), .ref l4, .ref l1, w7, w8, w9, w10, w11, w12, w13, .ref nm0, w15, w16, w17, w18, w19, w20, w21, w22, w23, w24, w25, w26, w27, w28, w29, w30, w31, w32, w33, w34])), (l1, .inl (kl1, 10, .inl fll)), (l4, .inl (kl4, 100, .inl fln)), (nm0, .inl (knm0, 10, .inl fnx))]) [0, 1, 2, 3] rfl
              have hDc := hD.sub (ws' := [(h0, .inr (8, [w0, w1, w2, w3, .int (nI kn), .ref l4, .ref l1, w7, w8, w9, w10, w11, w12, w13, .ref nm0, w15, w16, w17, w18, w19, w20, w21, w22, w23, w24, w25, w26, w27, w28, w29, w30, w31, w32, w33, w34])), (l1, .inl (kl1, 10, .inl fll)), (l4, .inl (kl4, 100, .inl fln)), (nm0, .inl (knm0, 10, .inl fnx))]) [0, 1, 2, 3] (by decide) rfl
              have hKc := hK.sub (tys' := [(kl1, .int), (kl4, .int), (knm0, .int)]) [0, 1, 2] rfl
              refine va_calli (va_runV (As := [.int (nI k), .int (nI j_6), .int 0]) (rest := []) ⟨hx, hb, hml, hown, hts⟩ (m_answerOf l dC dI H.size h0 (w0) (w1) (w2) (w3) kn l4 l1 (w7) (w8) (w9) (w10) (w11) (w12) (w13) nm0 (w15) (w16) (w17) (w18) (w19) (w20) (w21) (w22) (w23) (w24) (w25) (w26) (w27) (w28) (w29) (w30) (w31) (w32) (w33) (w34) kl1 fll kl4 fln knm0 fnx k j_6 0 hkn hll hln (by omega) (by omega) (by omega)) (cwV 3 hts (gV mw_4_135 mw_4_137 mw_0_21 mw_1_9 mw_4_138) rfl rfl rfl (by decide +kernel) ⟨Nat.le_of_ble_eq_true rfl, Nat.le_of_ble_eq_true rfl⟩) ⟨pcW_blind, va_recv hKc hPc (ci := 8) (q0 := 0) rfl rfl, pcW_at hPc hKc hDc hN⟩ rfl rfl hl.1 rfl (lv_room (Nat.le_of_ble_eq_true rfl)) dX9_shift_48 ⟨Nat.le_of_ble_eq_true rfl, Nat.le_of_ble_eq_true rfl⟩) hS (fun q h1 h2 => absurd h2 (Nat.not_le.mpr h1)) (fun q h => hA q (Nat.le_trans hS.1 h)) (fun r_13 u t H1 locs ht hvm hw_13 hB hz1 hk1 hS => ?_)
              have hP := keepP hP hk1
              clear hz1 hk1 hB ht hvm hPc hDc hKc
              generalize H1 = H at hP hS ⊢
              refine lv_istore (lv' := [(5, .int r_13), (4, .int (nI k)), (3, .int ac), (0, .ref h0), (1, .int (nI j_5)), (2, .int (nI j_6))]) hx hb dX9_shift_51 hl (by decide) rfl (fun ls hl => ?_)
              refine lv_aload_n hx hb dX9_shift_53 rfl (lv_at hl 3 rfl) ?_
              refine va_get (D := (dC, dI)) (ci := 8) (v := .ref nm0) (C := RX9) (T := TX9) (N := 35) hx hb hts inB_9 hown hK hP 0 rfl rfl 14 (by decide) (hts _ mw_3_196) (fun _ h9 => h9) rfl dX9_shift_54 ?_
              refine lv_iload_n hx hb dX9_shift_57 rfl (lv_at hl 4 rfl) ?_
              refine lv_dup2_11 hx hb dX9_shift_58 rfl rfl ?_
              refine va_iald hx hb hK hP 3 2 rfl rfl (show vp_in (nI j_5) 10 from vp_in_nI (by omega) (by omega)) dX9_shift_59 ?_
              refine hx_top (y := (fnx j_5)) (congrArg _ (nI_clamp (by omega))) ?_
              refine lv_iconst (v := 1) hx hb dX9_shift_60 (by decide) ?_
              refine lv_iload_n hx hb dX9_shift_61 rfl (lv_at hl 5 rfl) ?_
              refine lv_ishl hx hb dX9_shift_62 ?_
              refine lv_ior hx hb dX9_shift_63 ?_
              refine va_iast hx hb hK hP hD hS 3 2 rfl rfl (show vp_in (nI j_5) 10 from vp_in_nI (by omega) (by omega)) dX9_shift_64 (fun H locs hP hD hS => ?_)
              obtain ⟨f_14, ef_14⟩ : ∃ g : Nat → Int32, g = upd fnx (Int32.toNatClampNeg (nI j_5)) ((fnx j_5) ||| (1 <<< ((nI j_6) &&& 31))) := ⟨_, rfl⟩
              rw [← ef_14] at hP hD
              have ef_14 : f_14 = upd fnx j_5 ((fnx j_5) ||| (1 <<< ((nI j_6) &&& 31))) := by rw [ef_14, nI_clamp (by omega)]
              have hP : va_P (dC, dI) vwCl [(h0, .inr (8, [w0, w1, w2, w3, .int (nI kn), .ref l4, .ref l1, w7, w8, w9, w10, w11, w12, w13, .ref nm0, w15, w16, w17, w18, w19, w20, w21, w22, w23, w24, w25, w26, w27, w28, w29, w30, w31, w32, w33, w34])), (l1, .inl (kl1, 10, .inl fll)), (l4, .inl (kl4, 100, .inl fln)), (nm0, .inl (knm0, 10, .inl f_14))] H := hP
              have hD : va_D A [(h0, .inr (8, [w0, w1, w2, w3, .int (nI kn), .ref l4, .ref l1, w7, w8, w9, w10, w11, w12, w13, .ref nm0, w15, w16, w17, w18, w19, w20, w21, w22, w23, w24, w25, w26, w27, w28, w29, w30, w31, w32, w33, w34])), (l1, .inl (kl1, 10, .inl fll)), (l4, .inl (kl4, 100, .inl fln)), (nm0, .inl (knm0, 10, .inl f_14))] := hD
              refine lv_aload_n hx hb dX9_shift_65 rfl (lv_at hl 3 rfl) ?_
              refine lv_iload hx hb dX9_shift_66 (lv_at hl 1 rfl) ?_
              refine lv_iload_n hx hb dX9_shift_68 rfl (lv_at hl 5 rfl) ?_
              refine lv_iconst (v := 0) hx hb dX9_shift_69 (by decide) ?_
              have hPc := hP.sub (ws' := [(h0, .inr (8, [w0, w1, w2, w3, .int (nI kn), .ref l4, .ref l1, w7, w8, w9, w10, w11, w12, w13, .ref nm0, w15, w16, w17, w18, w19, w20, w21, w22, w23, w24, w25, w26, w27, w28, w29, w30, w31, w32, w33, w34])), (l1, .inl (kl1, 10, .inl fll)), (l4, .inl (kl4, 100, .inl fln)), (nm0, .inl (knm0, 10, .inl f_14))]) [0, 1, 2, 3] rfl
              have hDc := hD.sub (ws' := [(h0, .inr (8, [w0, w1, w2, w3, .int (nI kn), .ref l4, .ref l1, w7, w8, w9, w10, w11, w12, w13, .ref nm0, w15, w16, w17, w18, w19, w20, w21, w22, w23, w24, w25, w26, w27, w28, w29, w30, w31, w32, w33, w34])), (l1, .inl (kl1, 10, .inl fll)), (l4, .inl (kl4, 100, .inl fln)), (nm0, .inl (knm0, 10, .inl f_14))]) [0, 1, 2, 3] (by decide) rfl
              have hKc := hK.sub (tys' := [(kl1, .int), (kl4, .int), (knm0, .int)]) [0, 1, 2] rfl
              refine va_calli (va_runV (As := [.int (nI k), .int (nI j_6), .int 0]) (rest := []) ⟨hx, hb, hml, hown, hts⟩ (m_answerOf l dC dI H.size h0 (w0) (w1) (w2) (w3) kn l4 l1 (w7) (w8) (w9) (w10) (w11) (w12) (w13) nm0 (w15) (w16) (w17) (w18) (w19) (w20) (w21) (w22) (w23) (w24) (w25) (w26) (w27) (w28) (w29) (w30) (w31) (w32) (w33) (w34) kl1 fll kl4 fln knm0 f_14 k j_6 0 hkn hll hln (by omega) (by omega) (by omega)) (cwV 3 hts (gV mw_4_135 mw_4_137 mw_0_21 mw_1_9 mw_4_138) rfl rfl rfl (by decide +kernel) ⟨Nat.le_of_ble_eq_true rfl, Nat.le_of_ble_eq_true rfl⟩) ⟨pcW_blind, va_recv hKc hPc (ci := 8) (q0 := 0) rfl rfl, pcW_at hPc hKc hDc hN⟩ rfl rfl hl.1 rfl (lv_room (Nat.le_of_ble_eq_true rfl)) dX9_shift_70 ⟨Nat.le_of_ble_eq_true rfl, Nat.le_of_ble_eq_true rfl⟩) hS (fun q h1 h2 => absurd h2 (Nat.not_le.mpr h1)) (fun q h => hA q (Nat.le_trans hS.1 h)) (fun r_15 u t H1 locs ht hvm hw_15 hB hz1 hk1 hS => ?_)
              have hP := keepP hP hk1
              clear hz1 hk1 hB ht hvm hPc hDc hKc
              generalize H1 = H at hP hS ⊢
              refine lv_istore (lv' := [(6, .int r_15), (5, .int r_13), (4, .int (nI k)), (3, .int ac), (0, .ref h0), (1, .int (nI j_5)), (2, .int (nI j_6))]) hx hb dX9_shift_73 hl (by decide) rfl (fun ls hl => ?_)
              refine lv_aload_n hx hb dX9_shift_75 rfl (lv_at hl 4 rfl) ?_
              refine va_get (D := (dC, dI)) (ci := 8) (v := .ref nm0) (C := RX9) (T := TX9) (N := 35) hx hb hts inB_9 hown hK hP 0 rfl rfl 14 (by decide) (hts _ mw_3_196) (fun _ h9 => h9) rfl dX9_shift_76 ?_
              refine lv_iload_n hx hb dX9_shift_79 rfl (lv_at hl 5 rfl) ?_
              refine lv_dup2_11 hx hb dX9_shift_80 rfl rfl ?_
              refine va_iald hx hb hK hP 3 2 rfl rfl (show vp_in (nI j_5) 10 from vp_in_nI (by omega) (by omega)) dX9_shift_81 ?_
              refine hx_top (y := (f_14 j_5)) (congrArg _ (nI_clamp (by omega))) ?_
              refine lv_iconst (v := 1) hx hb dX9_shift_82 (by decide) ?_
              refine lv_iload_n hx hb dX9_shift_83 rfl (lv_at hl 6 rfl) ?_
              refine lv_ishl hx hb dX9_shift_84 ?_
              refine lv_iconst (v := (-1)) hx hb dX9_shift_85 (by decide) ?_
              refine lv_ixor hx hb dX9_shift_86 ?_
              refine lv_iand hx hb dX9_shift_87 ?_
              refine va_iast hx hb hK hP hD hS 3 2 rfl rfl (show vp_in (nI j_5) 10 from vp_in_nI (by omega) (by omega)) dX9_shift_88 (fun H locs hP hD hS => ?_)
              obtain ⟨f_16, ef_16⟩ : ∃ g : Nat → Int32, g = upd f_14 (Int32.toNatClampNeg (nI j_5)) ((f_14 j_5) &&& ((1 <<< ((nI j_6) &&& 31)) ^^^ (-1))) := ⟨_, rfl⟩
              rw [← ef_16] at hP hD
              have ef_16 : f_16 = upd f_14 j_5 ((f_14 j_5) &&& ((1 <<< ((nI j_6) &&& 31)) ^^^ (-1))) := by rw [ef_16, nI_clamp (by omega)]
              have hP : va_P (dC, dI) vwCl [(h0, .inr (8, [w0, w1, w2, w3, .int (nI kn), .ref l4, .ref l1, w7, w8, w9, w10, w11, w12, w13, .ref nm0, w15, w16, w17, w18, w19, w20, w21, w22, w23, w24, w25, w26, w27, w28, w29, w30, w31, w32, w33, w34])), (l1, .inl (kl1, 10, .inl fll)), (l4, .inl (kl4, 100, .inl fln)), (nm0, .inl (knm0, 10, .inl f_16))] H := hP
              have hD : va_D A [(h0, .inr (8, [w0, w1, w2, w3, .int (nI kn), .ref l4, .ref l1, w7, w8, w9, w10, w11, w12, w13, .ref nm0, w15, w16, w17, w18, w19, w20, w21, w22, w23, w24, w25, w26, w27, w28, w29, w30, w31, w32, w33, w34])), (l1, .inl (kl1, 10, .inl fll)), (l4, .inl (kl4, 100, .inl fln)), (nm0, .inl (knm0, 10, .inl f_16))] := hD
              refine lv_iload_n hx hb dX9_shift_89 rfl (lv_at hl 3 rfl) ?_
              refine lv_iload hx hb dX9_shift_90 (lv_at hl 1 rfl) ?_
              refine lv_iload hx hb dX9_shift_92 (lv_at hl 0 rfl) ?_
              refine lv_icmp_eq (tgt := 104) hx hb dX9_shift_94 (by decide) (fun c_17 => ?_) (fun c_17 => ?_)
              · have b_18 := gx_eq (X := (Int32.toInt r_13)) (C := (Int32.toInt r_15)) rfl rfl c_17
                refine lv_iconst (v := 0) hx hb dX9_shift_104 (by decide) ?_
                refine lv_ior hx hb dX9_shift_105 ?_
                refine lv_istore_n (lv' := [(3, .int (ac ||| 0)), (6, .int r_15), (5, .int r_13), (4, .int (nI k)), (0, .ref h0), (1, .int (nI j_5)), (2, .int (nI j_6))]) hx hb dX9_shift_106 rfl hl (by decide) rfl (fun ls hl => ?_)
                refine lv_iinc (v := (nI (k + 1))) (lv' := [(4, .int (nI (k + 1))), (3, .int (ac ||| 0)), (6, .int r_15), (5, .int r_13), (0, .ref h0), (1, .int (nI j_5)), (2, .int (nI j_6))]) hx hb dX9_shift_107 hl (k := 3) rfl (nI_add k 1) (by decide) rfl (fun ls hl => ?_)
                refine lv_goto (tgt := 34) hx hb dX9_shift_110 (by decide) ?_
                exact ih_10 (k + 1) (ac ||| 0) f_16 (by omega) (by rw [hac]; exact bits_f0 (decide_eq_false (fun q => q (by rw [← hfx, ← ef_14, ← hw_13, ← hw_15]; exact c_17)))) (sh_back hfx (bF b_8) (by omega) ef_14 ef_16) (by omega) _ _ hP hD hS ls (lv_sub hl [0, 1, 4, 5, 6] rfl)
              · have b_18 := gn_eq (X := (Int32.toInt r_13)) (C := (Int32.toInt r_15)) rfl rfl c_17
                refine lv_iconst (v := 1) hx hb dX9_shift_97 (by decide) ?_
                refine lv_iload hx hb dX9_shift_98 (lv_at hl 2 rfl) ?_
                refine lv_ishl hx hb dX9_shift_100 ?_
                refine lv_goto (tgt := 105) hx hb dX9_shift_101 (by decide) ?_
                refine lv_ior hx hb dX9_shift_105 ?_
                refine lv_istore_n (lv' := [(3, .int (ac ||| (1 <<< ((nI k) &&& 31)))), (6, .int r_15), (5, .int r_13), (4, .int (nI k)), (0, .ref h0), (1, .int (nI j_5)), (2, .int (nI j_6))]) hx hb dX9_shift_106 rfl hl (by decide) rfl (fun ls hl => ?_)
                refine lv_iinc (v := (nI (k + 1))) (lv' := [(4, .int (nI (k + 1))), (3, .int (ac ||| (1 <<< ((nI k) &&& 31)))), (6, .int r_15), (5, .int r_13), (0, .ref h0), (1, .int (nI j_5)), (2, .int (nI j_6))]) hx hb dX9_shift_107 hl (k := 3) rfl (nI_add k 1) (by decide) rfl (fun ls hl => ?_)
                refine lv_goto (tgt := 34) hx hb dX9_shift_110 (by decide) ?_
                exact ih_10 (k + 1) (ac ||| (1 <<< ((nI k) &&& 31))) f_16 (by omega) (by rw [hac]; exact bits_t (decide_eq_true (by rw [← hfx, ← ef_14, ← hw_13, ← hw_15]; exact c_17))) (sh_back hfx (bF b_8) (by omega) ef_14 ef_16) (by omega) _ _ hP hD hS ls (lv_sub hl [0, 1, 4, 5, 6] rfl)
        exact key_9 ((kn - 0) + 1) 0 0 fnm (by omega) rfl rfl (Nat.lt_succ_self _) _ _ hP hD hS ls (lv_sub hl [0, 1, 2, 3, 4] rfl)
    · skip
      refine lv_if_ne (tgt := 17) hx hb dX9_shift_12 (by decide) (fun h => absurd h (by decide)) (fun _ => ?_)
      refine lv_iconst (v := (-1)) hx hb dX9_shift_15 (by decide) ?_
      have hP9 := hP.sub (ws' := [(h0, .inr (8, [w0, w1, w2, w3, .int (nI kn), .ref l4, .ref l1, w7, w8, w9, w10, w11, w12, w13, .ref nm0, w15, w16, w17, w18, w19, w20, w21, w22, w23, w24, w25, w26, w27, w28, w29, w30, w31, w32, w33, w34])), (l1, .inl (kl1, 10, .inl fll)), (l4, .inl (kl4, 100, .inl fln)), (nm0, .inl (knm0, 10, .inl fnm))]) [0, 1, 2, 3] rfl
      have hD9 := hD.sub (ws' := [(h0, .inr (8, [w0, w1, w2, w3, .int (nI kn), .ref l4, .ref l1, w7, w8, w9, w10, w11, w12, w13, .ref nm0, w15, w16, w17, w18, w19, w20, w21, w22, w23, w24, w25, w26, w27, w28, w29, w30, w31, w32, w33, w34])), (l1, .inl (kl1, 10, .inl fll)), (l4, .inl (kl4, 100, .inl fln)), (nm0, .inl (knm0, 10, .inl fnm))]) [0, 1, 2, 3] (by decide) rfl
      have hK9 := hK.sub (tys' := [(kl1, .int), (kl4, .int), (knm0, .int)]) [0, 1, 2] rfl
      exact W.iret (v := (-1)) hx hb hr (fun t ht hW => ⟨⟨(-1), (), rfl, (by unfold F_shift; rw [if_neg (by omega)]), fnm, rfl, by rw [ht]; exact hP9, va_K.moved hW.alike hK9, hD9⟩, hS.F ht⟩) hS.2.2 dX9_shift_16
  · skip
    refine lv_if_eq (tgt := 15) hx hb dX9_shift_5 (by decide) (fun _ => ?_) (fun h => absurd (by decide) h)
    refine lv_iconst (v := (-1)) hx hb dX9_shift_15 (by decide) ?_
    have hP9 := hP.sub (ws' := [(h0, .inr (8, [w0, w1, w2, w3, .int (nI kn), .ref l4, .ref l1, w7, w8, w9, w10, w11, w12, w13, .ref nm0, w15, w16, w17, w18, w19, w20, w21, w22, w23, w24, w25, w26, w27, w28, w29, w30, w31, w32, w33, w34])), (l1, .inl (kl1, 10, .inl fll)), (l4, .inl (kl4, 100, .inl fln)), (nm0, .inl (knm0, 10, .inl fnm))]) [0, 1, 2, 3] rfl
    have hD9 := hD.sub (ws' := [(h0, .inr (8, [w0, w1, w2, w3, .int (nI kn), .ref l4, .ref l1, w7, w8, w9, w10, w11, w12, w13, .ref nm0, w15, w16, w17, w18, w19, w20, w21, w22, w23, w24, w25, w26, w27, w28, w29, w30, w31, w32, w33, w34])), (l1, .inl (kl1, 10, .inl fll)), (l4, .inl (kl4, 100, .inl fln)), (nm0, .inl (knm0, 10, .inl fnm))]) [0, 1, 2, 3] (by decide) rfl
    have hK9 := hK.sub (tys' := [(kl1, .int), (kl4, .int), (knm0, .int)]) [0, 1, 2] rfl
    exact W.iret (v := (-1)) hx hb hr (fun t ht hW => ⟨⟨(-1), (), rfl, (by unfold F_shift; rw [if_neg (by omega)]), fnm, rfl, by rw [ht]; exact hP9, va_K.moved hW.alike hK9, hD9⟩, hS.F ht⟩) hS.2.2 dX9_shift_16
set_option maxHeartbeats 4000000 in
set_option maxRecDepth 100000 in
theorem m_one (l : Launch) (dC : Nat → ClassId) (dI : Nat → Nat → Nat) (sz : Nat) (h0 : Nat) (w0 : Value) (w1 : Value) (l6 : Nat) (l7 : Nat) (kn : Nat) (l4 : Nat) (l1 : Nat) (w7 : Value) (w8 : Value) (w9 : Value) (w10 : Value) (w11 : Value) (w12 : Value) (w13 : Value) (nm0 : Nat) (w15 : Value) (w16 : Value) (w17 : Value) (w18 : Value) (w19 : Value) (w20 : Value) (w21 : Value) (w22 : Value) (w23 : Value) (w24 : Value) (w25 : Value) (w26 : Value) (w27 : Value) (w28 : Value) (w29 : Value) (w30 : Value) (w31 : Value) (w32 : Value) (w33 : Value) (w34 : Value) (kl1 : ClassId) (fll : Nat → Int32) (kl4 : ClassId) (fln : Nat → Int32) (knm0 : ClassId) (fnm : Nat → Int32) (kl7 : ClassId) (fib : Nat → Int32) (kl6 : ClassId) (fma : Nat → Int32) (n1 : Int32) (n2 : Int32) (n3 : Int32) (hkn : kn ≤ 10) (hll : BdOk 10 10 fll) (hln : LnOk fll fln kn) : Met l yX9_one (wq yX9_one cX9_one 8 (some .int)) ({ frames := 3, cells := 0, slots := 0, locals := 71 }) (va_Pc [.ref h0, .int n1, .int n2, .int n3] (pcW dC dI [(kl1, .int), (kl4, .int), (knm0, .int), (kl7, .boolean), (kl6, .int)] [(h0, .inr (8, [w0, w1, .ref l6, .ref l7, .int (nI kn), .ref l4, .ref l1, w7, w8, w9, w10, w11, w12, w13, .ref nm0, w15, w16, w17, w18, w19, w20, w21, w22, w23, w24, w25, w26, w27, w28, w29, w30, w31, w32, w33, w34])), (l1, .inl (kl1, 10, .inl fll)), (l4, .inl (kl4, 100, .inl fln)), (nm0, .inl (knm0, 10, .inl fnm)), (l7, .inl (kl7, 10, .inl fib)), (l6, .inl (kl6, 10, .inl fma))] sz)) (va_Qi (fun (r : Int32) (_ : Unit) => r = F_one kn (orA (unM fma fll fln fnm fib n1.toNatClampNeg n2.toNatClampNeg) kn) (nI (cnt (fun i => bt (orA (unM fma fll fln fnm fib n1.toNatClampNeg n2.toNatClampNeg) kn) i) 10)) n1 n2 n3) (fun _ _ => True) (fun q : Nat => sz ≤ q)) 0 0 (fun q : Nat => sz ≤ q) := by
  refine Met.ofW (cc := cX9_one) (maxL := 8) (ret := (some .int)) (by decide) rfl ?_
  intro p e s m args below meth c s₁ B hml hv
  obtain ⟨rfl, hsz, hN, hP, hK, hD0⟩ := hv
  have hx := B.exec
  have hb := B.bytes
  have hr := B.returns
  have hts0 := atoms_spec (ws := (wq yX9_one cX9_one 8 (some .int))) B.pre
  have hts : ∀ w ∈ BG, w.before _ s = true := fun w h => hts0 w (List.mem_cons_of_mem _ h)
  have hown : s.vm.findClass RX9 = some m.cls := findClass_of_methodNamed B.named
  have hlocks := B.notSynchronized
  subst hsz
  have hA : ∀ q : Nat, s.heap.size ≤ q → (fun q : Nat => s.heap.size ≤ q) q := fun _ h => h
  have hD := hD0
  have hS : va_S (fun q : Nat => s.heap.size ≤ q) s.heap s.heap [] := va_S.rf
  have hP : va_P (dC, dI) vwCl [(h0, .inr (8, [w0, w1, .ref l6, .ref l7, .int (nI kn), .ref l4, .ref l1, w7, w8, w9, w10, w11, w12, w13, .ref nm0, w15, w16, w17, w18, w19, w20, w21, w22, w23, w24, w25, w26, w27, w28, w29, w30, w31, w32, w33, w34])), (l1, .inl (kl1, 10, .inl fll)), (l4, .inl (kl4, 100, .inl fln)), (nm0, .inl (knm0, 10, .inl fnm)), (l7, .inl (kl7, 10, .inl fib)), (l6, .inl (kl6, 10, .inl fma))] s.heap := hP
  have hl := lv_entry ([.ref h0, .int n1, .int n2, .int n3]) (n := 8) (Nat.le_of_ble_eq_true rfl)
  rw [lg_entry_eq]
  generalize (lg_sl ([.ref h0, .int n1, .int n2, .int n3]) ++ List.replicate (8 - (lg_sl ([.ref h0, .int n1, .int n2, .int n3])).length) Slot.unset).toArray = ls at hl ⊢
  have hl : lv_has ls 8 [(0, .ref h0), (1, .int n1), (2, .int n2), (3, .int n3)] := hl
  refine lv_aload_n hx hb dX9_one_0 rfl (lv_at hl 0 rfl) ?_
  refine lv_iload_n hx hb dX9_one_1 rfl (lv_at hl 1 rfl) ?_
  have hPc := hP.sub (ws' := [(h0, .inr (8, [w0, w1, .ref l6, .ref l7, .int (nI kn), .ref l4, .ref l1, w7, w8, w9, w10, w11, w12, w13, .ref nm0, w15, w16, w17, w18, w19, w20, w21, w22, w23, w24, w25, w26, w27, w28, w29, w30, w31, w32, w33, w34]))]) [0] rfl
  have hDc := hD.sub (ws' := [(h0, .inr (8, [w0, w1, .ref l6, .ref l7, .int (nI kn), .ref l4, .ref l1, w7, w8, w9, w10, w11, w12, w13, .ref nm0, w15, w16, w17, w18, w19, w20, w21, w22, w23, w24, w25, w26, w27, w28, w29, w30, w31, w32, w33, w34]))]) [0] (by decide) rfl
  have hKc := hK.sub (tys' := []) [] rfl
  refine va_calli (va_runV (As := [.int n1]) (rest := []) ⟨hx, hb, hml, hown, hts⟩ (m_isKind l dC dI s.heap.size h0 (w0) (w1) (.ref l6) (.ref l7) kn (.ref l4) (.ref l1) (w7) (w8) (w9) (w10) (w11) (w12) (w13) (.ref nm0) (w15) (w16) (w17) (w18) (w19) (w20) (w21) (w22) (w23) (w24) (w25) (w26) (w27) (w28) (w29) (w30) (w31) (w32) (w33) (w34) n1 hkn) (cwV 1 hts (gV mw_4_53 mw_4_55 mw_0_15 mw_1_9 mw_4_56) rfl rfl rfl (by decide +kernel) ⟨Nat.le_of_ble_eq_true rfl, Nat.le_of_ble_eq_true rfl⟩) ⟨pcW_blind, va_recv hKc hPc (ci := 8) (q0 := 0) rfl rfl, pcW_at hPc hKc hDc hN⟩ rfl rfl hl.1 rfl (lv_room (Nat.le_of_ble_eq_true rfl)) dX9_one_2 ⟨Nat.le_of_ble_eq_true rfl, Nat.le_of_ble_eq_true rfl⟩) hS (fun q h1 h2 => absurd h2 (Nat.not_le.mpr h1)) (fun q h => hA q (Nat.le_trans hS.1 h)) (fun r_1 u t H1 locs ht hvm hw_1 hB hz1 hk1 hS => ?_)
  have hP := keepP hP hk1
  clear hz1 hk1 hB ht hvm hPc hDc hKc
  generalize H1 = H at hP hS ⊢
  rcases fx_bool hw_1 with ⟨rfl, b_2⟩ | ⟨rfl, b_2⟩
  · skip
    refine lv_if_eq (tgt := 15) hx hb dX9_one_5 (by decide) (fun h => absurd h (by decide)) (fun _ => ?_)
    refine lv_iload_n hx hb dX9_one_8 rfl (lv_at hl 2 rfl) ?_
    have hPc := hP.sub (ws' := []) [] rfl
    have hDc := hD.sub (ws' := []) [] (by decide) rfl
    have hKc := hK.sub (tys' := []) [] rfl
    refine va_calli (va_runS (As := [.int n2]) (rest := []) ⟨hx, hb, hml, hown, hts⟩ (m_isName l dC dI H.size n2 ) (va_cwS 1 hts (gS mw_4_115 mw_4_116 mw_1_9 mw_4_117) rfl rfl rfl (by decide +kernel) ⟨Nat.le_of_ble_eq_true rfl, Nat.le_of_ble_eq_true rfl⟩) ⟨pcW_blind, pcW_at hPc hKc hDc hN⟩ rfl rfl hl.1 rfl (lv_room (Nat.le_of_ble_eq_true rfl)) dX9_one_9 ⟨Nat.le_of_ble_eq_true rfl, Nat.le_of_ble_eq_true rfl⟩) hS (fun q h1 h2 => absurd h2 (Nat.not_le.mpr h1)) (fun q h => hA q (Nat.le_trans hS.1 h)) (fun r_3 u t H1 locs ht hvm hw_3 hB hz1 hk1 hS => ?_)
    have hP := keepP hP hk1
    clear hz1 hk1 hB ht hvm hPc hDc hKc
    generalize H1 = H at hP hS ⊢
    rcases fx_bool hw_3 with ⟨rfl, b_4⟩ | ⟨rfl, b_4⟩
    · skip
      refine lv_if_ne (tgt := 17) hx hb dX9_one_12 (by decide) (fun _ => ?_) (fun h => absurd h (by decide))
      refine lv_iload_n hx hb dX9_one_17 rfl (lv_at hl 3 rfl) ?_
      refine lv_i2l hx hb dX9_one_18 rfl ?_
      refine lv_lconst (v := Int32.toInt64 0) hx hb dX9_one_19 (by decide) ?_
      refine lv_lconst (v := Int32.toInt64 1) hx hb dX9_one_20 (by decide) ?_
      have hPc := hP.sub (ws' := []) [] rfl
      have hDc := hD.sub (ws' := []) [] (by decide) rfl
      have hKc := hK.sub (tys' := []) [] rfl
      refine va_calli (va_runS (As := [.long (Int32.toInt64 n3), .long (Int32.toInt64 0), .long (Int32.toInt64 1)]) (rest := []) ⟨hx, hb, hml, hown, hts⟩ (m_in l dC dI H.size n3 0 1 0 1 (by decide) (by decide)) (va_cwS 3 hts (gS mw_4_57 mw_4_58 mw_1_9 mw_4_59) rfl rfl rfl (by decide +kernel) ⟨Nat.le_of_ble_eq_true rfl, Nat.le_of_ble_eq_true rfl⟩) ⟨pcW_blind, pcW_at hPc hKc hDc hN⟩ rfl rfl hl.1 rfl (lv_room (Nat.le_of_ble_eq_true rfl)) dX9_one_21 ⟨Nat.le_of_ble_eq_true rfl, Nat.le_of_ble_eq_true rfl⟩) hS (fun q h1 h2 => absurd h2 (Nat.not_le.mpr h1)) (fun q h => hA q (Nat.le_trans hS.1 h)) (fun r_5 u t H1 locs ht hvm hw_5 hB hz1 hk1 hS => ?_)
      have hP := keepP hP hk1
      clear hz1 hk1 hB ht hvm hPc hDc hKc
      generalize H1 = H at hP hS ⊢
      rcases fx_bool hw_5 with ⟨rfl, b_6⟩ | ⟨rfl, b_6⟩
      · skip
        refine lv_if_ne (tgt := 30) hx hb dX9_one_24 (by decide) (fun _ => ?_) (fun h => absurd h (by decide))
        obtain ⟨j_7, tj_7, ej_7⟩ := fx_nat (x := n1) (by omega)
        subst ej_7
        have yj_7 : Int32.toInt (nI j_7) = (j_7 : Int) := nI_toInt tj_7
        obtain ⟨j_8, tj_8, ej_8⟩ := fx_nat (x := n2) (by omega)
        subst ej_8
        have yj_8 : Int32.toInt (nI j_8) = (j_8 : Int) := nI_toInt tj_8
        refine lv_iconst (v := 0) hx hb dX9_one_30 (by decide) ?_
        refine lv_istore (lv' := [(4, .int 0), (0, .ref h0), (1, .int (nI j_7)), (2, .int (nI j_8)), (3, .int n3)]) hx hb dX9_one_31 hl (by decide) rfl (fun ls hl => ?_)
        refine lv_iconst (v := 0) hx hb dX9_one_33 (by decide) ?_
        refine lv_istore (lv' := [(5, .int 0), (4, .int 0), (0, .ref h0), (1, .int (nI j_7)), (2, .int (nI j_8)), (3, .int n3)]) hx hb dX9_one_34 hl (by decide) rfl (fun ls hl => ?_)
        have key_9 : ∀ (fu : Nat) (k : Nat) (ac : Int32), (k ≤ kn) → (ac = orA (unM fma fll fln fnm fib j_7 j_8) k) → kn - k < fu → ∀ (H : Heap) (locs : List Loc), va_P (dC, dI) vwCl [(h0, .inr (8, [w0, w1, .ref l6, .ref l7, .int (nI kn), .ref l4, .ref l1, w7, w8, w9, w10, w11, w12, w13, .ref nm0, w15, w16, w17, w18, w19, w20, w21, w22, w23, w24, w25, w26, w27, w28, w29, w30, w31, w32, w33, w34])), (l1, .inl (kl1, 10, .inl fll)), (l4, .inl (kl4, 100, .inl fln)), (nm0, .inl (knm0, 10, .inl fnm)), (l7, .inl (kl7, 10, .inl fib)), (l6, .inl (kl6, 10, .inl fma))] H → va_S (fun q : Nat => s.heap.size ≤ q) s.heap H locs → ∀ (ls : Array Slot), lv_has ls 8 [(5, .int (nI k)), (4, .int ac), (0, .ref h0), (1, .int (nI j_7)), (2, .int (nI j_8)), (3, .int n3)] → W p l e (headSpec (wq yX9_one cX9_one 8 (some .int)) ({ frames := 3, cells := 0, slots := 0, locals := 71 })).room s m (([.ref h0, .int (nI j_7), .int (nI j_8), .int n3] : List Value)).toArray below meth c H locs 0 0 (MQ below (va_Qi (fun (r : Int32) (_ : Unit) => r = F_one kn (orA (unM fma fll fln fnm fib (nI j_7).toNatClampNeg (nI j_8).toNatClampNeg) kn) (nI (cnt (fun i => bt (orA (unM fma fll fln fnm fib (nI j_7).toNatClampNeg (nI j_8).toNatClampNeg) kn) i) 10)) (nI j_7) (nI j_8) n3) (fun _ _ => True) (fun q : Nat => s.heap.size ≤ q)) (([.ref h0, .int (nI j_7), .int (nI j_8), .int n3] : List Value)).toArray s 0 0 (fun q : Nat => s.heap.size ≤ q)) (F0 m 36 ls []) := by
          intro fu
          induction fu with
          | zero => intro k ac hk hac hme; exact absurd hme (Nat.not_lt_zero _)
          | succ fu ih_10 =>
            intro k ac hk hac hme H locs hP hS ls hl
            refine lv_iload hx hb dX9_one_36 (lv_at hl 0 rfl) ?_
            refine lv_aload_n hx hb dX9_one_38 rfl (lv_at hl 2 rfl) ?_
            refine va_get (D := (dC, dI)) (ci := 8) (v := .int (nI kn)) (C := RX9) (T := TX9) (N := 35) hx hb hts inB_9 hown hK hP 0 rfl rfl 4 (by decide) (hts _ mw_3_186) (fun _ h9 => h9) rfl dX9_one_39 ?_
            refine lv_icmp_ge (tgt := 126) hx hb dX9_one_42 (by decide) (fun c_11 => ?_) (fun c_11 => ?_)
            · have b_12 := gx_ge (X := ((k : Nat) : Int)) (C := ((kn : Nat) : Int)) (nI_toInt (by omega)) (nI_toInt (by omega)) c_11
              refine lv_iload_n hx hb dX9_one_126 rfl (lv_at hl 5 rfl) ?_
              refine lv_if_ne (tgt := 135) hx hb dX9_one_127 (by decide) (fun c_13 => ?_) (fun c_13 => ?_)
              · have b_14 := gx_ne (X := (Int32.toInt n3)) (C := 0) rfl (by decide) c_13
                refine lv_iload hx hb dX9_one_135 (lv_at hl 1 rfl) ?_
                have hPc := hP.sub (ws' := []) [] rfl
                have hDc := hD.sub (ws' := []) [] (by decide) rfl
                have hKc := hK.sub (tys' := []) [] rfl
                refine va_calli (va_runS (As := [.int ac]) (rest := []) ⟨hx, hb, hml, hown, hts⟩ (m_ones l dC dI H.size ac ) (va_cwS 1 hts (gS mw_4_183 mw_4_184 mw_1_9 mw_4_185) rfl rfl rfl (by decide +kernel) ⟨Nat.le_of_ble_eq_true rfl, Nat.le_of_ble_eq_true rfl⟩) ⟨pcW_blind, pcW_at hPc hKc hDc hN⟩ rfl rfl hl.1 rfl (lv_room (Nat.le_of_ble_eq_true rfl)) dX9_one_137 ⟨Nat.le_of_ble_eq_true rfl, Nat.le_of_ble_eq_true rfl⟩) hS (fun q h1 h2 => absurd h2 (Nat.not_le.mpr h1)) (fun q h => hA q (Nat.le_trans hS.1 h)) (fun r_15 u t H1 locs ht hvm hw_15 hB hz1 hk1 hS => ?_)
                have hP := keepP hP hk1
                clear hz1 hk1 hB ht hvm hPc hDc hKc
                generalize H1 = H at hP hS ⊢
                obtain rfl : r_15 = nI (cnt (fun i => bt ac i) 10) := hw_15
                have b_16 := (cnt_le : cnt (fun i => bt ac i) 10 ≤ 10)
                exact W.iret (v := (nI (cnt (fun i => bt ac i) 10))) hx hb hr (fun t ht hW => ⟨⟨(nI (cnt (fun i => bt ac i) 10)), (), rfl, (by unfold F_one; rw [if_pos (by omega), if_neg (by omega), if_pos (by omega), nI_clamp (by omega), nI_clamp (by omega), hac, show k = kn from (by omega)]), trivial⟩, hS.F ht⟩) hS.2.2 dX9_one_140
              · have b_14 := gn_ne (X := (Int32.toInt n3)) (C := 0) rfl (by decide) c_13
                refine lv_iload hx hb dX9_one_130 (lv_at hl 1 rfl) ?_
                refine lv_goto (tgt := 140) hx hb dX9_one_132 (by decide) ?_
                exact W.iret (v := ac) hx hb hr (fun t ht hW => ⟨⟨ac, (), rfl, (by unfold F_one; rw [if_pos (by omega), if_pos (by omega), nI_clamp (by omega), nI_clamp (by omega), hac, show k = kn from (by omega)]), trivial⟩, hS.F ht⟩) hS.2.2 dX9_one_140
            · have b_12 := gn_ge (X := ((k : Nat) : Int)) (C := ((kn : Nat) : Int)) (nI_toInt (by omega)) (nI_toInt (by omega)) c_11
              refine lv_iload hx hb dX9_one_45 (lv_at hl 0 rfl) ?_
              refine lv_iload_n hx hb dX9_one_47 rfl (lv_at hl 3 rfl) ?_
              refine lv_icmp_eq (tgt := 66) hx hb dX9_one_48 (by decide) (fun c_17 => ?_) (fun c_17 => ?_)
              · have b_18 := gx_eq (X := ((k : Nat) : Int)) (C := ((j_7 : Nat) : Int)) (nI_toInt (by omega)) (nI_toInt (by omega)) c_17
                refine lv_iconst (v := 1) hx hb dX9_one_66 (by decide) ?_
                refine lv_goto (tgt := 71) hx hb dX9_one_67 (by decide) ?_
                refine lv_istore (lv' := [(6, .int 1), (5, .int (nI k)), (4, .int ac), (0, .ref h0), (1, .int (nI j_7)), (2, .int (nI j_8)), (3, .int n3)]) hx hb dX9_one_71 hl (by decide) rfl (fun ls hl => ?_)
                refine lv_iload hx hb dX9_one_73 (lv_at hl 0 rfl) ?_
                refine lv_if_eq (tgt := 98) hx hb dX9_one_75 (by decide) (fun h => absurd h (by decide)) (fun _ => ?_)
                refine lv_aload_n hx hb dX9_one_78 rfl (lv_at hl 3 rfl) ?_
                refine lv_iload hx hb dX9_one_79 (lv_at hl 1 rfl) ?_
                have hPc := hP.sub (ws' := [(h0, .inr (8, [w0, w1, .ref l6, .ref l7, .int (nI kn), .ref l4, .ref l1, w7, w8, w9, w10, w11, w12, w13, .ref nm0, w15, w16, w17, w18, w19, w20, w21, w22, w23, w24, w25, w26, w27, w28, w29, w30, w31, w32, w33, w34])), (l1, .inl (kl1, 10, .inl fll)), (l7, .inl (kl7, 10, .inl fib))]) [0, 1, 4] rfl
                have hDc := hD.sub (ws' := [(h0, .inr (8, [w0, w1, .ref l6, .ref l7, .int (nI kn), .ref l4, .ref l1, w7, w8, w9, w10, w11, w12, w13, .ref nm0, w15, w16, w17, w18, w19, w20, w21, w22, w23, w24, w25, w26, w27, w28, w29, w30, w31, w32, w33, w34])), (l1, .inl (kl1, 10, .inl fll)), (l7, .inl (kl7, 10, .inl fib))]) [0, 1, 4] (by decide) rfl
                have hKc := hK.sub (tys' := [(kl1, .int), (kl7, .boolean)]) [0, 3] rfl
                refine va_calli (va_runV (As := [.int (nI k)]) (rest := []) ⟨hx, hb, hml, hown, hts⟩ (m_isRow l dC dI H.size h0 (w0) (w1) (.ref l6) l7 (.int (nI kn)) (.ref l4) l1 (w7) (w8) (w9) (w10) (w11) (w12) (w13) (.ref nm0) (w15) (w16) (w17) (w18) (w19) (w20) (w21) (w22) (w23) (w24) (w25) (w26) (w27) (w28) (w29) (w30) (w31) (w32) (w33) (w34) kl1 fll kl7 fib k hll (by omega)) (cwV 1 hts (gV mw_4_206 mw_4_208 mw_0_31 mw_1_9 mw_4_209) rfl rfl rfl (by decide +kernel) ⟨Nat.le_of_ble_eq_true rfl, Nat.le_of_ble_eq_true rfl⟩) ⟨pcW_blind, va_recv hKc hPc (ci := 8) (q0 := 0) rfl rfl, pcW_at hPc hKc hDc hN⟩ rfl rfl hl.1 rfl (lv_room (Nat.le_of_ble_eq_true rfl)) dX9_one_81 ⟨Nat.le_of_ble_eq_true rfl, Nat.le_of_ble_eq_true rfl⟩) hS (fun q h1 h2 => absurd h2 (Nat.not_le.mpr h1)) (fun q h => hA q (Nat.le_trans hS.1 h)) (fun r_19 u t H1 locs ht hvm hw_19 hB hz1 hk1 hS => ?_)
                have hP := keepP hP hk1
                clear hz1 hk1 hB ht hvm hPc hDc hKc
                generalize H1 = H at hP hS ⊢
                rcases fx_bool hw_19 with ⟨rfl, b_20⟩ | ⟨rfl, b_20⟩
                · skip
                  refine lv_if_eq (tgt := 98) hx hb dX9_one_84 (by decide) (fun h => absurd h (by decide)) (fun _ => ?_)
                  refine lv_aload_n hx hb dX9_one_87 rfl (lv_at hl 3 rfl) ?_
                  refine lv_iload hx hb dX9_one_88 (lv_at hl 1 rfl) ?_
                  refine lv_iload_n hx hb dX9_one_90 rfl (lv_at hl 5 rfl) ?_
                  refine lv_iconst (v := 0) hx hb dX9_one_91 (by decide) ?_
                  have hPc := hP.sub (ws' := [(h0, .inr (8, [w0, w1, .ref l6, .ref l7, .int (nI kn), .ref l4, .ref l1, w7, w8, w9, w10, w11, w12, w13, .ref nm0, w15, w16, w17, w18, w19, w20, w21, w22, w23, w24, w25, w26, w27, w28, w29, w30, w31, w32, w33, w34])), (l1, .inl (kl1, 10, .inl fll)), (l4, .inl (kl4, 100, .inl fln)), (nm0, .inl (knm0, 10, .inl fnm))]) [0, 1, 2, 3] rfl
                  have hDc := hD.sub (ws' := [(h0, .inr (8, [w0, w1, .ref l6, .ref l7, .int (nI kn), .ref l4, .ref l1, w7, w8, w9, w10, w11, w12, w13, .ref nm0, w15, w16, w17, w18, w19, w20, w21, w22, w23, w24, w25, w26, w27, w28, w29, w30, w31, w32, w33, w34])), (l1, .inl (kl1, 10, .inl fll)), (l4, .inl (kl4, 100, .inl fln)), (nm0, .inl (knm0, 10, .inl fnm))]) [0, 1, 2, 3] (by decide) rfl
                  have hKc := hK.sub (tys' := [(kl1, .int), (kl4, .int), (knm0, .int)]) [0, 1, 2] rfl
                  refine va_calli (va_runV (As := [.int (nI k), .int (nI j_8), .int 0]) (rest := []) ⟨hx, hb, hml, hown, hts⟩ (m_answerOf l dC dI H.size h0 (w0) (w1) (.ref l6) (.ref l7) kn l4 l1 (w7) (w8) (w9) (w10) (w11) (w12) (w13) nm0 (w15) (w16) (w17) (w18) (w19) (w20) (w21) (w22) (w23) (w24) (w25) (w26) (w27) (w28) (w29) (w30) (w31) (w32) (w33) (w34) kl1 fll kl4 fln knm0 fnm k j_8 0 hkn hll hln (by omega) (by omega) (by omega)) (cwV 3 hts (gV mw_4_135 mw_4_137 mw_0_21 mw_1_9 mw_4_138) rfl rfl rfl (by decide +kernel) ⟨Nat.le_of_ble_eq_true rfl, Nat.le_of_ble_eq_true rfl⟩) ⟨pcW_blind, va_recv hKc hPc (ci := 8) (q0 := 0) rfl rfl, pcW_at hPc hKc hDc hN⟩ rfl rfl hl.1 rfl (lv_room (Nat.le_of_ble_eq_true rfl)) dX9_one_92 ⟨Nat.le_of_ble_eq_true rfl, Nat.le_of_ble_eq_true rfl⟩) hS (fun q h1 h2 => absurd h2 (Nat.not_le.mpr h1)) (fun q h => hA q (Nat.le_trans hS.1 h)) (fun r_21 u t H1 locs ht hvm hw_21 hB hz1 hk1 hS => ?_)
                  have hP := keepP hP hk1
                  clear hz1 hk1 hB ht hvm hPc hDc hKc
                  generalize H1 = H at hP hS ⊢
                  refine lv_goto (tgt := 100) hx hb dX9_one_95 (by decide) ?_
                  refine lv_istore (lv' := [(7, .int r_21), (6, .int 1), (5, .int (nI k)), (4, .int ac), (0, .ref h0), (1, .int (nI j_7)), (2, .int (nI j_8)), (3, .int n3)]) hx hb dX9_one_100 hl (by decide) rfl (fun ls hl => ?_)
                  refine lv_iload hx hb dX9_one_102 (lv_at hl 3 rfl) ?_
                  refine lv_iload hx hb dX9_one_104 (lv_at hl 0 rfl) ?_
                  refine lv_if_ge (tgt := 113) hx hb dX9_one_106 (by decide) (fun c_22 => ?_) (fun c_22 => ?_)
                  · have b_23 := gx_ge (X := (Int32.toInt r_21)) (C := 0) rfl (by decide) c_22
                    refine lv_iconst (v := 1) hx hb dX9_one_113 (by decide) ?_
                    refine lv_iload hx hb dX9_one_114 (lv_at hl 0 rfl) ?_
                    refine lv_ishl hx hb dX9_one_116 ?_
                    refine lv_ior hx hb dX9_one_117 ?_
                    refine lv_istore (lv' := [(4, .int (ac ||| (1 <<< (r_21 &&& 31)))), (7, .int r_21), (6, .int 1), (5, .int (nI k)), (0, .ref h0), (1, .int (nI j_7)), (2, .int (nI j_8)), (3, .int n3)]) hx hb dX9_one_118 hl (by decide) rfl (fun ls hl => ?_)
                    refine lv_iinc (v := (nI (k + 1))) (lv' := [(5, .int (nI (k + 1))), (4, .int (ac ||| (1 <<< (r_21 &&& 31)))), (7, .int r_21), (6, .int 1), (0, .ref h0), (1, .int (nI j_7)), (2, .int (nI j_8)), (3, .int n3)]) hx hb dX9_one_120 hl (k := 3) rfl (nI_add k 1) (by decide) rfl (fun ls hl => ?_)
                    refine lv_goto (tgt := 36) hx hb dX9_one_123 (by decide) ?_
                    exact ih_10 (k + 1) (ac ||| (1 <<< (r_21 &&& 31))) (by omega) (by exact orA_yes hac (show (unM fma fll fln fnm fib j_7 j_8) k = r_21 from (if_pos ⟨Or.inl ((nI_eq (by omega) (by omega)).mp c_17), b_20⟩).trans hw_21.symm) (by omega)) (by omega) _ _ hP hS ls (lv_sub hl [0, 1, 4, 5, 6, 7] rfl)
                  · have b_23 := gn_ge (X := (Int32.toInt r_21)) (C := 0) rfl (by decide) c_22
                    refine lv_iconst (v := 0) hx hb dX9_one_109 (by decide) ?_
                    refine lv_goto (tgt := 117) hx hb dX9_one_110 (by decide) ?_
                    refine lv_ior hx hb dX9_one_117 ?_
                    refine lv_istore (lv' := [(4, .int (ac ||| 0)), (7, .int r_21), (6, .int 1), (5, .int (nI k)), (0, .ref h0), (1, .int (nI j_7)), (2, .int (nI j_8)), (3, .int n3)]) hx hb dX9_one_118 hl (by decide) rfl (fun ls hl => ?_)
                    refine lv_iinc (v := (nI (k + 1))) (lv' := [(5, .int (nI (k + 1))), (4, .int (ac ||| 0)), (7, .int r_21), (6, .int 1), (0, .ref h0), (1, .int (nI j_7)), (2, .int (nI j_8)), (3, .int n3)]) hx hb dX9_one_120 hl (k := 3) rfl (nI_add k 1) (by decide) rfl (fun ls hl => ?_)
                    refine lv_goto (tgt := 36) hx hb dX9_one_123 (by decide) ?_
                    exact ih_10 (k + 1) (ac ||| 0) (by omega) (by exact orA_no0 hac (show (unM fma fll fln fnm fib j_7 j_8) k = r_21 from (if_pos ⟨Or.inl ((nI_eq (by omega) (by omega)).mp c_17), b_20⟩).trans hw_21.symm) (by omega)) (by omega) _ _ hP hS ls (lv_sub hl [0, 1, 4, 5, 6, 7] rfl)
                · skip
                  refine lv_if_eq (tgt := 98) hx hb dX9_one_84 (by decide) (fun _ => ?_) (fun h => absurd (by decide) h)
                  refine lv_bipush (v := (-6)) hx hb dX9_one_98 (by decide) ?_
                  refine lv_istore (lv' := [(7, .int (-6)), (6, .int 1), (5, .int (nI k)), (4, .int ac), (0, .ref h0), (1, .int (nI j_7)), (2, .int (nI j_8)), (3, .int n3)]) hx hb dX9_one_100 hl (by decide) rfl (fun ls hl => ?_)
                  refine lv_iload hx hb dX9_one_102 (lv_at hl 3 rfl) ?_
                  refine lv_iload hx hb dX9_one_104 (lv_at hl 0 rfl) ?_
                  refine lv_if_ge (tgt := 113) hx hb dX9_one_106 (by decide) (fun h => absurd h (by decide)) (fun _ => ?_)
                  refine lv_iconst (v := 0) hx hb dX9_one_109 (by decide) ?_
                  refine lv_goto (tgt := 117) hx hb dX9_one_110 (by decide) ?_
                  refine lv_ior hx hb dX9_one_117 ?_
                  refine lv_istore (lv' := [(4, .int (ac ||| 0)), (7, .int (-6)), (6, .int 1), (5, .int (nI k)), (0, .ref h0), (1, .int (nI j_7)), (2, .int (nI j_8)), (3, .int n3)]) hx hb dX9_one_118 hl (by decide) rfl (fun ls hl => ?_)
                  refine lv_iinc (v := (nI (k + 1))) (lv' := [(5, .int (nI (k + 1))), (4, .int (ac ||| 0)), (7, .int (-6)), (6, .int 1), (0, .ref h0), (1, .int (nI j_7)), (2, .int (nI j_8)), (3, .int n3)]) hx hb dX9_one_120 hl (k := 3) rfl (nI_add k 1) (by decide) rfl (fun ls hl => ?_)
                  refine lv_goto (tgt := 36) hx hb dX9_one_123 (by decide) ?_
                  exact ih_10 (k + 1) (ac ||| 0) (by omega) (by exact orA_no0 hac (show (unM fma fll fln fnm fib j_7 j_8) k = -6 from if_neg (fun q => b_20 q.2)) (by decide)) (by omega) _ _ hP hS ls (lv_sub hl [0, 1, 4, 5, 6, 7] rfl)
              · have b_18 := gn_eq (X := ((k : Nat) : Int)) (C := ((j_7 : Nat) : Int)) (nI_toInt (by omega)) (nI_toInt (by omega)) c_17
                refine lv_aload_n hx hb dX9_one_51 rfl (lv_at hl 2 rfl) ?_
                refine va_get (D := (dC, dI)) (ci := 8) (v := .ref l6) (C := RX9) (T := TX9) (N := 35) hx hb hts inB_9 hown hK hP 0 rfl rfl 2 (by decide) (hts _ mw_3_184) (fun _ h9 => h9) rfl dX9_one_52 ?_
                refine lv_iload hx hb dX9_one_55 (lv_at hl 0 rfl) ?_
                refine va_iald hx hb hK hP 5 4 rfl rfl (show vp_in (nI k) 10 from vp_in_nI (by omega) (by omega)) dX9_one_57 ?_
                refine hx_top (y := (fma k)) (congrArg _ (nI_clamp (by omega))) ?_
                refine lv_iload_n hx hb dX9_one_58 rfl (lv_at hl 3 rfl) ?_
                refine lv_ishr hx hb dX9_one_59 ?_
                refine lv_iconst (v := 1) hx hb dX9_one_60 (by decide) ?_
                refine lv_iand hx hb dX9_one_61 ?_
                refine lv_iconst (v := 1) hx hb dX9_one_62 (by decide) ?_
                refine lv_icmp_ne (tgt := 70) hx hb dX9_one_63 (by decide) (fun c_24 => ?_) (fun c_24 => ?_)
                · have b_25 := gx_ne (X := (Int32.toInt (((fma k) >>> ((nI j_7) &&& 31)) &&& 1))) (C := 1) rfl (by decide) c_24
                  refine lv_iconst (v := 0) hx hb dX9_one_70 (by decide) ?_
                  refine lv_istore (lv' := [(6, .int 0), (5, .int (nI k)), (4, .int ac), (0, .ref h0), (1, .int (nI j_7)), (2, .int (nI j_8)), (3, .int n3)]) hx hb dX9_one_71 hl (by decide) rfl (fun ls hl => ?_)
                  refine lv_iload hx hb dX9_one_73 (lv_at hl 0 rfl) ?_
                  refine lv_if_eq (tgt := 98) hx hb dX9_one_75 (by decide) (fun _ => ?_) (fun h => absurd (by decide) h)
                  refine lv_bipush (v := (-6)) hx hb dX9_one_98 (by decide) ?_
                  refine lv_istore (lv' := [(7, .int (-6)), (6, .int 0), (5, .int (nI k)), (4, .int ac), (0, .ref h0), (1, .int (nI j_7)), (2, .int (nI j_8)), (3, .int n3)]) hx hb dX9_one_100 hl (by decide) rfl (fun ls hl => ?_)
                  refine lv_iload hx hb dX9_one_102 (lv_at hl 3 rfl) ?_
                  refine lv_iload hx hb dX9_one_104 (lv_at hl 0 rfl) ?_
                  refine lv_if_ge (tgt := 113) hx hb dX9_one_106 (by decide) (fun h => absurd h (by decide)) (fun _ => ?_)
                  refine lv_iconst (v := 0) hx hb dX9_one_109 (by decide) ?_
                  refine lv_goto (tgt := 117) hx hb dX9_one_110 (by decide) ?_
                  refine lv_ior hx hb dX9_one_117 ?_
                  refine lv_istore (lv' := [(4, .int (ac ||| 0)), (7, .int (-6)), (6, .int 0), (5, .int (nI k)), (0, .ref h0), (1, .int (nI j_7)), (2, .int (nI j_8)), (3, .int n3)]) hx hb dX9_one_118 hl (by decide) rfl (fun ls hl => ?_)
                  refine lv_iinc (v := (nI (k + 1))) (lv' := [(5, .int (nI (k + 1))), (4, .int (ac ||| 0)), (7, .int (-6)), (6, .int 0), (0, .ref h0), (1, .int (nI j_7)), (2, .int (nI j_8)), (3, .int n3)]) hx hb dX9_one_120 hl (k := 3) rfl (nI_add k 1) (by decide) rfl (fun ls hl => ?_)
                  refine lv_goto (tgt := 36) hx hb dX9_one_123 (by decide) ?_
                  exact ih_10 (k + 1) (ac ||| 0) (by omega) (by exact orA_no0 hac (show (unM fma fll fln fnm fib j_7 j_8) k = -6 from if_neg (fun q => q.1.elim (fun e => c_17 (congrArg nI e)) (fun e => absurd e (by rw [t_n1 (by omega) c_24]; decide)))) (by decide)) (by omega) _ _ hP hS ls (lv_sub hl [0, 1, 4, 5, 6, 7] rfl)
                · have b_25 := gn_ne (X := (Int32.toInt (((fma k) >>> ((nI j_7) &&& 31)) &&& 1))) (C := 1) rfl (by decide) c_24
                  refine lv_iconst (v := 1) hx hb dX9_one_66 (by decide) ?_
                  refine lv_goto (tgt := 71) hx hb dX9_one_67 (by decide) ?_
                  refine lv_istore (lv' := [(6, .int 1), (5, .int (nI k)), (4, .int ac), (0, .ref h0), (1, .int (nI j_7)), (2, .int (nI j_8)), (3, .int n3)]) hx hb dX9_one_71 hl (by decide) rfl (fun ls hl => ?_)
                  refine lv_iload hx hb dX9_one_73 (lv_at hl 0 rfl) ?_
                  refine lv_if_eq (tgt := 98) hx hb dX9_one_75 (by decide) (fun h => absurd h (by decide)) (fun _ => ?_)
                  refine lv_aload_n hx hb dX9_one_78 rfl (lv_at hl 3 rfl) ?_
                  refine lv_iload hx hb dX9_one_79 (lv_at hl 1 rfl) ?_
                  have hPc := hP.sub (ws' := [(h0, .inr (8, [w0, w1, .ref l6, .ref l7, .int (nI kn), .ref l4, .ref l1, w7, w8, w9, w10, w11, w12, w13, .ref nm0, w15, w16, w17, w18, w19, w20, w21, w22, w23, w24, w25, w26, w27, w28, w29, w30, w31, w32, w33, w34])), (l1, .inl (kl1, 10, .inl fll)), (l7, .inl (kl7, 10, .inl fib))]) [0, 1, 4] rfl
                  have hDc := hD.sub (ws' := [(h0, .inr (8, [w0, w1, .ref l6, .ref l7, .int (nI kn), .ref l4, .ref l1, w7, w8, w9, w10, w11, w12, w13, .ref nm0, w15, w16, w17, w18, w19, w20, w21, w22, w23, w24, w25, w26, w27, w28, w29, w30, w31, w32, w33, w34])), (l1, .inl (kl1, 10, .inl fll)), (l7, .inl (kl7, 10, .inl fib))]) [0, 1, 4] (by decide) rfl
                  have hKc := hK.sub (tys' := [(kl1, .int), (kl7, .boolean)]) [0, 3] rfl
                  refine va_calli (va_runV (As := [.int (nI k)]) (rest := []) ⟨hx, hb, hml, hown, hts⟩ (m_isRow l dC dI H.size h0 (w0) (w1) (.ref l6) l7 (.int (nI kn)) (.ref l4) l1 (w7) (w8) (w9) (w10) (w11) (w12) (w13) (.ref nm0) (w15) (w16) (w17) (w18) (w19) (w20) (w21) (w22) (w23) (w24) (w25) (w26) (w27) (w28) (w29) (w30) (w31) (w32) (w33) (w34) kl1 fll kl7 fib k hll (by omega)) (cwV 1 hts (gV mw_4_206 mw_4_208 mw_0_31 mw_1_9 mw_4_209) rfl rfl rfl (by decide +kernel) ⟨Nat.le_of_ble_eq_true rfl, Nat.le_of_ble_eq_true rfl⟩) ⟨pcW_blind, va_recv hKc hPc (ci := 8) (q0 := 0) rfl rfl, pcW_at hPc hKc hDc hN⟩ rfl rfl hl.1 rfl (lv_room (Nat.le_of_ble_eq_true rfl)) dX9_one_81 ⟨Nat.le_of_ble_eq_true rfl, Nat.le_of_ble_eq_true rfl⟩) hS (fun q h1 h2 => absurd h2 (Nat.not_le.mpr h1)) (fun q h => hA q (Nat.le_trans hS.1 h)) (fun r_26 u t H1 locs ht hvm hw_26 hB hz1 hk1 hS => ?_)
                  have hP := keepP hP hk1
                  clear hz1 hk1 hB ht hvm hPc hDc hKc
                  generalize H1 = H at hP hS ⊢
                  rcases fx_bool hw_26 with ⟨rfl, b_27⟩ | ⟨rfl, b_27⟩
                  · skip
                    refine lv_if_eq (tgt := 98) hx hb dX9_one_84 (by decide) (fun h => absurd h (by decide)) (fun _ => ?_)
                    refine lv_aload_n hx hb dX9_one_87 rfl (lv_at hl 3 rfl) ?_
                    refine lv_iload hx hb dX9_one_88 (lv_at hl 1 rfl) ?_
                    refine lv_iload_n hx hb dX9_one_90 rfl (lv_at hl 5 rfl) ?_
                    refine lv_iconst (v := 0) hx hb dX9_one_91 (by decide) ?_
                    have hPc := hP.sub (ws' := [(h0, .inr (8, [w0, w1, .ref l6, .ref l7, .int (nI kn), .ref l4, .ref l1, w7, w8, w9, w10, w11, w12, w13, .ref nm0, w15, w16, w17, w18, w19, w20, w21, w22, w23, w24, w25, w26, w27, w28, w29, w30, w31, w32, w33, w34])), (l1, .inl (kl1, 10, .inl fll)), (l4, .inl (kl4, 100, .inl fln)), (nm0, .inl (knm0, 10, .inl fnm))]) [0, 1, 2, 3] rfl
                    have hDc := hD.sub (ws' := [(h0, .inr (8, [w0, w1, .ref l6, .ref l7, .int (nI kn), .ref l4, .ref l1, w7, w8, w9, w10, w11, w12, w13, .ref nm0, w15, w16, w17, w18, w19, w20, w21, w22, w23, w24, w25, w26, w27, w28, w29, w30, w31, w32, w33, w34])), (l1, .inl (kl1, 10, .inl fll)), (l4, .inl (kl4, 100, .inl fln)), (nm0, .inl (knm0, 10, .inl fnm))]) [0, 1, 2, 3] (by decide) rfl
                    have hKc := hK.sub (tys' := [(kl1, .int), (kl4, .int), (knm0, .int)]) [0, 1, 2] rfl
                    refine va_calli (va_runV (As := [.int (nI k), .int (nI j_8), .int 0]) (rest := []) ⟨hx, hb, hml, hown, hts⟩ (m_answerOf l dC dI H.size h0 (w0) (w1) (.ref l6) (.ref l7) kn l4 l1 (w7) (w8) (w9) (w10) (w11) (w12) (w13) nm0 (w15) (w16) (w17) (w18) (w19) (w20) (w21) (w22) (w23) (w24) (w25) (w26) (w27) (w28) (w29) (w30) (w31) (w32) (w33) (w34) kl1 fll kl4 fln knm0 fnm k j_8 0 hkn hll hln (by omega) (by omega) (by omega)) (cwV 3 hts (gV mw_4_135 mw_4_137 mw_0_21 mw_1_9 mw_4_138) rfl rfl rfl (by decide +kernel) ⟨Nat.le_of_ble_eq_true rfl, Nat.le_of_ble_eq_true rfl⟩) ⟨pcW_blind, va_recv hKc hPc (ci := 8) (q0 := 0) rfl rfl, pcW_at hPc hKc hDc hN⟩ rfl rfl hl.1 rfl (lv_room (Nat.le_of_ble_eq_true rfl)) dX9_one_92 ⟨Nat.le_of_ble_eq_true rfl, Nat.le_of_ble_eq_true rfl⟩) hS (fun q h1 h2 => absurd h2 (Nat.not_le.mpr h1)) (fun q h => hA q (Nat.le_trans hS.1 h)) (fun r_28 u t H1 locs ht hvm hw_28 hB hz1 hk1 hS => ?_)
                    have hP := keepP hP hk1
                    clear hz1 hk1 hB ht hvm hPc hDc hKc
                    generalize H1 = H at hP hS ⊢
                    refine lv_goto (tgt := 100) hx hb dX9_one_95 (by decide) ?_
                    refine lv_istore (lv' := [(7, .int r_28), (6, .int 1), (5, .int (nI k)), (4, .int ac), (0, .ref h0), (1, .int (nI j_7)), (2, .int (nI j_8)), (3, .int n3)]) hx hb dX9_one_100 hl (by decide) rfl (fun ls hl => ?_)
                    refine lv_iload hx hb dX9_one_102 (lv_at hl 3 rfl) ?_
                    refine lv_iload hx hb dX9_one_104 (lv_at hl 0 rfl) ?_
                    refine lv_if_ge (tgt := 113) hx hb dX9_one_106 (by decide) (fun c_29 => ?_) (fun c_29 => ?_)
                    · have b_30 := gx_ge (X := (Int32.toInt r_28)) (C := 0) rfl (by decide) c_29
                      refine lv_iconst (v := 1) hx hb dX9_one_113 (by decide) ?_
                      refine lv_iload hx hb dX9_one_114 (lv_at hl 0 rfl) ?_
                      refine lv_ishl hx hb dX9_one_116 ?_
                      refine lv_ior hx hb dX9_one_117 ?_
                      refine lv_istore (lv' := [(4, .int (ac ||| (1 <<< (r_28 &&& 31)))), (7, .int r_28), (6, .int 1), (5, .int (nI k)), (0, .ref h0), (1, .int (nI j_7)), (2, .int (nI j_8)), (3, .int n3)]) hx hb dX9_one_118 hl (by decide) rfl (fun ls hl => ?_)
                      refine lv_iinc (v := (nI (k + 1))) (lv' := [(5, .int (nI (k + 1))), (4, .int (ac ||| (1 <<< (r_28 &&& 31)))), (7, .int r_28), (6, .int 1), (0, .ref h0), (1, .int (nI j_7)), (2, .int (nI j_8)), (3, .int n3)]) hx hb dX9_one_120 hl (k := 3) rfl (nI_add k 1) (by decide) rfl (fun ls hl => ?_)
                      refine lv_goto (tgt := 36) hx hb dX9_one_123 (by decide) ?_
                      exact ih_10 (k + 1) (ac ||| (1 <<< (r_28 &&& 31))) (by omega) (by exact orA_yes hac (show (unM fma fll fln fnm fib j_7 j_8) k = r_28 from (if_pos ⟨Or.inr (t_1 (by omega) c_24), b_27⟩).trans hw_28.symm) (by omega)) (by omega) _ _ hP hS ls (lv_sub hl [0, 1, 4, 5, 6, 7] rfl)
                    · have b_30 := gn_ge (X := (Int32.toInt r_28)) (C := 0) rfl (by decide) c_29
                      refine lv_iconst (v := 0) hx hb dX9_one_109 (by decide) ?_
                      refine lv_goto (tgt := 117) hx hb dX9_one_110 (by decide) ?_
                      refine lv_ior hx hb dX9_one_117 ?_
                      refine lv_istore (lv' := [(4, .int (ac ||| 0)), (7, .int r_28), (6, .int 1), (5, .int (nI k)), (0, .ref h0), (1, .int (nI j_7)), (2, .int (nI j_8)), (3, .int n3)]) hx hb dX9_one_118 hl (by decide) rfl (fun ls hl => ?_)
                      refine lv_iinc (v := (nI (k + 1))) (lv' := [(5, .int (nI (k + 1))), (4, .int (ac ||| 0)), (7, .int r_28), (6, .int 1), (0, .ref h0), (1, .int (nI j_7)), (2, .int (nI j_8)), (3, .int n3)]) hx hb dX9_one_120 hl (k := 3) rfl (nI_add k 1) (by decide) rfl (fun ls hl => ?_)
                      refine lv_goto (tgt := 36) hx hb dX9_one_123 (by decide) ?_
                      exact ih_10 (k + 1) (ac ||| 0) (by omega) (by exact orA_no0 hac (show (unM fma fll fln fnm fib j_7 j_8) k = r_28 from (if_pos ⟨Or.inr (t_1 (by omega) c_24), b_27⟩).trans hw_28.symm) (by omega)) (by omega) _ _ hP hS ls (lv_sub hl [0, 1, 4, 5, 6, 7] rfl)
                  · skip
                    refine lv_if_eq (tgt := 98) hx hb dX9_one_84 (by decide) (fun _ => ?_) (fun h => absurd (by decide) h)
                    refine lv_bipush (v := (-6)) hx hb dX9_one_98 (by decide) ?_
                    refine lv_istore (lv' := [(7, .int (-6)), (6, .int 1), (5, .int (nI k)), (4, .int ac), (0, .ref h0), (1, .int (nI j_7)), (2, .int (nI j_8)), (3, .int n3)]) hx hb dX9_one_100 hl (by decide) rfl (fun ls hl => ?_)
                    refine lv_iload hx hb dX9_one_102 (lv_at hl 3 rfl) ?_
                    refine lv_iload hx hb dX9_one_104 (lv_at hl 0 rfl) ?_
                    refine lv_if_ge (tgt := 113) hx hb dX9_one_106 (by decide) (fun h => absurd h (by decide)) (fun _ => ?_)
                    refine lv_iconst (v := 0) hx hb dX9_one_109 (by decide) ?_
                    refine lv_goto (tgt := 117) hx hb dX9_one_110 (by decide) ?_
                    refine lv_ior hx hb dX9_one_117 ?_
                    refine lv_istore (lv' := [(4, .int (ac ||| 0)), (7, .int (-6)), (6, .int 1), (5, .int (nI k)), (0, .ref h0), (1, .int (nI j_7)), (2, .int (nI j_8)), (3, .int n3)]) hx hb dX9_one_118 hl (by decide) rfl (fun ls hl => ?_)
                    refine lv_iinc (v := (nI (k + 1))) (lv' := [(5, .int (nI (k + 1))), (4, .int (ac ||| 0)), (7, .int (-6)), (6, .int 1), (0, .ref h0), (1, .int (nI j_7)), (2, .int (nI j_8)), (3, .int n3)]) hx hb dX9_one_120 hl (k := 3) rfl (nI_add k 1) (by decide) rfl (fun ls hl => ?_)
                    refine lv_goto (tgt := 36) hx hb dX9_one_123 (by decide) ?_
                    exact ih_10 (k + 1) (ac ||| 0) (by omega) (by exact orA_no0 hac (show (unM fma fll fln fnm fib j_7 j_8) k = -6 from if_neg (fun q => b_27 q.2)) (by decide)) (by omega) _ _ hP hS ls (lv_sub hl [0, 1, 4, 5, 6, 7] rfl)
        exact key_9 ((kn - 0) + 1) 0 0 (by omega) rfl (Nat.lt_succ_self _) _ _ hP hS ls (lv_sub hl [0, 1, 2, 3, 4, 5] rfl)
      · skip
        refine lv_if_ne (tgt := 30) hx hb dX9_one_24 (by decide) (fun h => absurd h (by decide)) (fun _ => ?_)
        refine lv_bipush (v := (-2)) hx hb dX9_one_27 (by decide) ?_
        exact W.iret (v := (-2)) hx hb hr (fun t ht hW => ⟨⟨(-2), (), rfl, (by unfold F_one; rw [if_pos (by omega), if_neg (by omega), if_neg (by omega)]), trivial⟩, hS.F ht⟩) hS.2.2 dX9_one_29
    · skip
      refine lv_if_ne (tgt := 17) hx hb dX9_one_12 (by decide) (fun h => absurd h (by decide)) (fun _ => ?_)
      refine lv_iconst (v := (-1)) hx hb dX9_one_15 (by decide) ?_
      exact W.iret (v := (-1)) hx hb hr (fun t ht hW => ⟨⟨(-1), (), rfl, (by unfold F_one; rw [if_neg (by omega)]), trivial⟩, hS.F ht⟩) hS.2.2 dX9_one_16
  · skip
    refine lv_if_eq (tgt := 15) hx hb dX9_one_5 (by decide) (fun _ => ?_) (fun h => absurd (by decide) h)
    refine lv_iconst (v := (-1)) hx hb dX9_one_15 (by decide) ?_
    exact W.iret (v := (-1)) hx hb hr (fun t ht hW => ⟨⟨(-1), (), rfl, (by unfold F_one; rw [if_neg (by omega)]), trivial⟩, hS.F ht⟩) hS.2.2 dX9_one_16
