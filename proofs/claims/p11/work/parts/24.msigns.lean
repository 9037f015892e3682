def PadTo (f : Nat → Int32) (k : Nat) : Prop := ∀ i, i < k → Vc (f (960 + i))
theorem pad_step {f : Nat → Int32} {k : Nat} (h : PadTo f k) (hv : Vc (f (960 + k))) : PadTo f (k + 1) := by
  intro i hi
  by_cases q : i = k
  · subst q; exact hv
  · exact h i (by omega)
theorem pad_mono {f : Nat → Int32} {k z : Nat} (h : PadTo f k) (hz : z ≤ k) : PadTo f z := fun i hi => h i (by omega)
theorem bd_lt {M N : Nat} {f : Nat → Int32} {b i : Nat} (h : BdOk M N f) (hN : N < 2 ^ 31) (hb : b < M) (hi : i < (f b).toNatClampNeg) : i < N := by
  obtain ⟨q, h1, h2⟩ := h b hb
  rw [h2, nI_clamp (by omega)] at hi; omega
theorem cv_say {fsm fsg m g : Nat → Int32} {j : Nat} {x y : Int32} (h : CvOk fsm fsg) (hb : BdOk 81 12 fsm) (e1 : g = upd fsg (960 + j) y) (e2 : m = upd fsm 80 x) : CvOk m g := by
  intro b hb1 i hi
  rw [e2, pk_un (by omega)] at hi
  have := bd_lt hb (by decide) (by omega) hi
  rw [e1, pk_un (by omega)]
  exact h b hb1 i hi
theorem cv_wipe {fsm fsg m : Nat → Int32} {x : Int32} (h : CvOk fsm fsg) (e2 : m = upd fsm 80 x) : CvOk m fsg := by
  intro b hb1 i hi
  rw [e2, pk_un (by omega)] at hi
  exact h b hb1 i hi
def HcA (f g : Nat → Int32) (b k : Nat) : Prop := (∀ j, (j < 12 * b ∨ 12 * b + 12 ≤ j) → g j = f j) ∧ ∀ i, i < k → g (12 * b + i) = f (960 + i)
theorem hc_0 {f : Nat → Int32} {b : Nat} : HcA f f b 0 := ⟨fun _ _ => rfl, fun i h => absurd h (Nat.not_lt_zero i)⟩
theorem hc_step {f g g2 : Nat → Int32} {b k : Nat} (h : HcA f g b k) (hb : b < 80) (hk : k < 12) (e : g2 = upd g (12 * b + k) (g (960 + k))) : HcA f g2 b (k + 1) := by
  refine ⟨fun j hj => ?_, fun i hi => ?_⟩
  · rw [e, pk_un (by omega)]; exact h.1 j hj
  · by_cases q : i = k
    · subst q; rw [e, pk_us]; exact h.1 _ (by omega)
    · rw [e, pk_un (by omega)]; exact h.2 i (by omega)
theorem cv_has {fsm fsg g m1 m2 : Nat → Int32} {b z : Nat} (h : CvOk fsm fsg) (hs : BdOk 81 12 fsm) (hb : b < 80) (hA : HcA fsg g b z) (hp : PadTo fsg z) (hz : z ≤ 12) (e1 : m1 = upd fsm b (nI z)) (e2 : m2 = upd m1 80 0) : CvOk m2 g := by
  intro c hc i hi
  rw [e2, pk_un (by omega), e1] at hi
  by_cases q : c = b
  · subst q
    rw [pk_us, nI_clamp (by omega)] at hi
    rw [hA.2 i hi]; exact hp i hi
  · rw [pk_un q] at hi
    have := bd_lt hs (by decide) (by omega) hi
    rw [hA.1 _ (by omega)]
    exact h c hc i hi
theorem bd_cle {M N : Nat} {f : Nat → Int32} {b : Nat} (h : BdOk M N f) (hN : N < 2 ^ 31) (hb : b < M) : (f b).toNatClampNeg ≤ N := by
  obtain ⟨q, h1, h2⟩ := h b hb
  rw [h2, nI_clamp (by omega)]; exact h1
def SM_say (f : Nat → Int32) (n : Int32) : Nat → Int32 := if n.toInt < 33 ∨ 126 < n.toInt then f else if 12 ≤ (f 80).toNatClampNeg then f else upd f 80 (nI ((f 80).toNatClampNeg + 1))
def SG_say (f g : Nat → Int32) (n : Int32) : Nat → Int32 := if n.toInt < 33 ∨ 126 < n.toInt then g else if 12 ≤ (f 80).toNatClampNeg then g else upd g (960 + (f 80).toNatClampNeg) n
theorem hc_eq {f g : Nat → Int32} {b k z : Nat} (h : HcA f g b k) (hz : z ≤ k) : HcA f g b z := ⟨h.1, fun i hi => h.2 i (by omega)⟩
theorem mw_4_97 : Cond.constantLong RX9 120 (33) ∈ BG := mB (t4 (i := 97) (by decide +kernel)) (by decide +kernel)
theorem mw_4_98 : Cond.constantLong RX9 122 (126) ∈ BG := mB (t4 (i := 98) (by decide +kernel)) (by decide +kernel)
theorem mw_3_194 : Cond.fieldLink RX9 41 "AnswerLinesModel" "signs" "[I" ∈ BG := mB (t3 (i := 194) (by decide +kernel)) (by decide +kernel)
theorem mw_4_107 : Cond.constantLong RX9 124 (48) ∈ BG := mB (t4 (i := 107) (by decide +kernel)) (by decide +kernel)
theorem mw_4_108 : Cond.constantLong RX9 126 (57) ∈ BG := mB (t4 (i := 108) (by decide +kernel)) (by decide +kernel)
theorem mw_4_109 : Cond.constantLong RX9 128 (97) ∈ BG := mB (t4 (i := 109) (by decide +kernel)) (by decide +kernel)
theorem mw_4_110 : Cond.constantLong RX9 130 (104) ∈ BG := mB (t4 (i := 110) (by decide +kernel)) (by decide +kernel)
theorem mw_4_106 : Cond.code yX9_fault cX9_fault 3 (some .int) ∈ BG := mB (t4 (i := 106) rfl) (by decide +kernel)
theorem mw_4_119 : Cond.methodLink RX9 135 yX9_fault ∈ BG := mB (t4 (i := 119) (by decide +kernel)) (by decide +kernel)
theorem mw_4_104 : Cond.instanceMethod yX9_fault ∈ BG := mB (t4 (i := 104) (by decide +kernel)) (by decide +kernel)
theorem mw_4_105 : Cond.selects RX9 yX9_fault yX9_fault ∈ BG := mB (t4 (i := 105) (by decide +kernel)) (by decide +kernel)
theorem mw_4_122 : Cond.code yX9_bodyOf cX9_bodyOf 2 (some .int) ∈ BG := mB (t4 (i := 122) rfl) (by decide +kernel)
theorem mw_4_120 : Cond.methodLink RX9 138 yX9_bodyOf ∈ BG := mB (t4 (i := 120) (by decide +kernel)) (by decide +kernel)
theorem mw_4_121 : Cond.static yX9_bodyOf ∈ BG := mB (t4 (i := 121) (by decide +kernel)) (by decide +kernel)
theorem dX9_say_0 : decode cX9_say 0 = .ok (.iload_n 1, 1) := by decide +kernel
theorem dX9_say_1 : decode cX9_say 1 = .ok (.i2l, 1) := by decide +kernel
theorem dX9_say_2 : decode cX9_say 2 = .ok (.ldc2_w 120, 3) := by decide +kernel
theorem dX9_say_5 : decode cX9_say 5 = .ok (.ldc2_w 122, 3) := by decide +kernel
theorem dX9_say_8 : decode cX9_say 8 = .ok (.invokestatic 90, 3) := by decide +kernel
theorem dX9_say_11 : decode cX9_say 11 = .ok (.ifCond .ne 6, 3) := by decide +kernel
theorem dX9_say_17 : decode cX9_say 17 = .ok (.aload_n 0, 1) := by decide +kernel
theorem dX9_say_18 : decode cX9_say 18 = .ok (.getfield 44, 3) := by decide +kernel
theorem dX9_say_21 : decode cX9_say 21 = .ok (.bipush 80, 2) := by decide +kernel
theorem dX9_say_23 : decode cX9_say 23 = .ok (.iaload, 1) := by decide +kernel
theorem dX9_say_24 : decode cX9_say 24 = .ok (.bipush 12, 2) := by decide +kernel
theorem dX9_say_26 : decode cX9_say 26 = .ok (.if_icmp .ne 6, 3) := by decide +kernel
theorem dX9_say_32 : decode cX9_say 32 = .ok (.aload_n 0, 1) := by decide +kernel
theorem dX9_say_33 : decode cX9_say 33 = .ok (.getfield 41, 3) := by decide +kernel
theorem dX9_say_36 : decode cX9_say 36 = .ok (.sipush 960, 3) := by decide +kernel
theorem dX9_say_39 : decode cX9_say 39 = .ok (.aload_n 0, 1) := by decide +kernel
theorem dX9_say_40 : decode cX9_say 40 = .ok (.getfield 44, 3) := by decide +kernel
theorem dX9_say_43 : decode cX9_say 43 = .ok (.bipush 80, 2) := by decide +kernel
theorem dX9_say_45 : decode cX9_say 45 = .ok (.iaload, 1) := by decide +kernel
theorem dX9_say_46 : decode cX9_say 46 = .ok (.iadd, 1) := by decide +kernel
theorem dX9_say_47 : decode cX9_say 47 = .ok (.iload_n 1, 1) := by decide +kernel
theorem dX9_say_48 : decode cX9_say 48 = .ok (.iastore, 1) := by decide +kernel
theorem dX9_say_49 : decode cX9_say 49 = .ok (.aload_n 0, 1) := by decide +kernel
theorem dX9_say_50 : decode cX9_say 50 = .ok (.getfield 44, 3) := by decide +kernel
theorem dX9_say_53 : decode cX9_say 53 = .ok (.bipush 80, 2) := by decide +kernel
theorem dX9_say_55 : decode cX9_say 55 = .ok (.dup2, 1) := by decide +kernel
theorem dX9_say_56 : decode cX9_say 56 = .ok (.iaload, 1) := by decide +kernel
theorem dX9_say_57 : decode cX9_say 57 = .ok (.iconst 1, 1) := by decide +kernel
theorem dX9_say_58 : decode cX9_say 58 = .ok (.iadd, 1) := by decide +kernel
theorem dX9_say_59 : decode cX9_say 59 = .ok (.iastore, 1) := by decide +kernel
theorem dX9_say_60 : decode cX9_say 60 = .ok (.aload_n 0, 1) := by decide +kernel
theorem dX9_say_61 : decode cX9_say 61 = .ok (.getfield 44, 3) := by decide +kernel
theorem dX9_say_64 : decode cX9_say 64 = .ok (.bipush 80, 2) := by decide +kernel
theorem dX9_say_66 : decode cX9_say 66 = .ok (.iaload, 1) := by decide +kernel
theorem dX9_say_67 : decode cX9_say 67 = .ok (.ireturn, 1) := by decide +kernel
theorem dX9_say_29 : decode cX9_say 29 = .ok (.bipush (-4), 2) := by decide +kernel
theorem dX9_say_31 : decode cX9_say 31 = .ok (.ireturn, 1) := by decide +kernel
theorem dX9_say_14 : decode cX9_say 14 = .ok (.bipush (-2), 2) := by decide +kernel
theorem dX9_say_16 : decode cX9_say 16 = .ok (.ireturn, 1) := by decide +kernel
theorem dX9_wipe_0 : decode cX9_wipe 0 = .ok (.aload_n 0, 1) := by decide +kernel
theorem dX9_wipe_1 : decode cX9_wipe 1 = .ok (.getfield 44, 3) := by decide +kernel
theorem dX9_wipe_4 : decode cX9_wipe 4 = .ok (.bipush 80, 2) := by decide +kernel
theorem dX9_wipe_6 : decode cX9_wipe 6 = .ok (.iaload, 1) := by decide +kernel
theorem dX9_wipe_7 : decode cX9_wipe 7 = .ok (.istore_n 1, 1) := by decide +kernel
theorem dX9_wipe_8 : decode cX9_wipe 8 = .ok (.aload_n 0, 1) := by decide +kernel
theorem dX9_wipe_9 : decode cX9_wipe 9 = .ok (.getfield 44, 3) := by decide +kernel
theorem dX9_wipe_12 : decode cX9_wipe 12 = .ok (.bipush 80, 2) := by decide +kernel
theorem dX9_wipe_14 : decode cX9_wipe 14 = .ok (.iconst 0, 1) := by decide +kernel
theorem dX9_wipe_15 : decode cX9_wipe 15 = .ok (.iastore, 1) := by decide +kernel
theorem dX9_wipe_16 : decode cX9_wipe 16 = .ok (.iload_n 1, 1) := by decide +kernel
theorem dX9_wipe_17 : decode cX9_wipe 17 = .ok (.ireturn, 1) := by decide +kernel
theorem dX9_fault_0 : decode cX9_fault 0 = .ok (.iconst 0, 1) := by decide +kernel
theorem dX9_fault_1 : decode cX9_fault 1 = .ok (.istore_n 1, 1) := by decide +kernel
theorem dX9_fault_2 : decode cX9_fault 2 = .ok (.iload_n 1, 1) := by decide +kernel
theorem dX9_fault_3 : decode cX9_fault 3 = .ok (.aload_n 0, 1) := by decide +kernel
theorem dX9_fault_4 : decode cX9_fault 4 = .ok (.getfield 44, 3) := by decide +kernel
theorem dX9_fault_7 : decode cX9_fault 7 = .ok (.bipush 80, 2) := by decide +kernel
theorem dX9_fault_9 : decode cX9_fault 9 = .ok (.iaload, 1) := by decide +kernel
theorem dX9_fault_10 : decode cX9_fault 10 = .ok (.if_icmp .ge 56, 3) := by decide +kernel
theorem dX9_fault_66 : decode cX9_fault 66 = .ok (.bipush (-6), 2) := by decide +kernel
theorem dX9_fault_68 : decode cX9_fault 68 = .ok (.ireturn, 1) := by decide +kernel
theorem dX9_fault_13 : decode cX9_fault 13 = .ok (.aload_n 0, 1) := by decide +kernel
theorem dX9_fault_14 : decode cX9_fault 14 = .ok (.getfield 41, 3) := by decide +kernel
theorem dX9_fault_17 : decode cX9_fault 17 = .ok (.sipush 960, 3) := by decide +kernel
theorem dX9_fault_20 : decode cX9_fault 20 = .ok (.iload_n 1, 1) := by decide +kernel
theorem dX9_fault_21 : decode cX9_fault 21 = .ok (.iadd, 1) := by decide +kernel
theorem dX9_fault_22 : decode cX9_fault 22 = .ok (.iaload, 1) := by decide +kernel
theorem dX9_fault_23 : decode cX9_fault 23 = .ok (.istore_n 2, 1) := by decide +kernel
theorem dX9_fault_24 : decode cX9_fault 24 = .ok (.iload_n 2, 1) := by decide +kernel
theorem dX9_fault_25 : decode cX9_fault 25 = .ok (.i2l, 1) := by decide +kernel
theorem dX9_fault_26 : decode cX9_fault 26 = .ok (.ldc2_w 124, 3) := by decide +kernel
theorem dX9_fault_29 : decode cX9_fault 29 = .ok (.ldc2_w 126, 3) := by decide +kernel
theorem dX9_fault_32 : decode cX9_fault 32 = .ok (.invokestatic 90, 3) := by decide +kernel
theorem dX9_fault_35 : decode cX9_fault 35 = .ok (.ifCond .ne 25, 3) := by decide +kernel
theorem dX9_fault_60 : decode cX9_fault 60 = .ok (.iinc 1 1, 3) := by decide +kernel
theorem dX9_fault_63 : decode cX9_fault 63 = .ok (.goto (-61), 3) := by decide +kernel
theorem dX9_fault_38 : decode cX9_fault 38 = .ok (.iload_n 2, 1) := by decide +kernel
theorem dX9_fault_39 : decode cX9_fault 39 = .ok (.i2l, 1) := by decide +kernel
theorem dX9_fault_40 : decode cX9_fault 40 = .ok (.ldc2_w 128, 3) := by decide +kernel
theorem dX9_fault_43 : decode cX9_fault 43 = .ok (.ldc2_w 130, 3) := by decide +kernel
theorem dX9_fault_46 : decode cX9_fault 46 = .ok (.invokestatic 90, 3) := by decide +kernel
theorem dX9_fault_49 : decode cX9_fault 49 = .ok (.ifCond .ne 11, 3) := by decide +kernel
theorem dX9_fault_52 : decode cX9_fault 52 = .ok (.iload_n 2, 1) := by decide +kernel
theorem dX9_fault_53 : decode cX9_fault 53 = .ok (.bipush 94, 2) := by decide +kernel
theorem dX9_fault_55 : decode cX9_fault 55 = .ok (.if_icmp .eq 5, 3) := by decide +kernel
theorem dX9_fault_58 : decode cX9_fault 58 = .ok (.iload_n 1, 1) := by decide +kernel
theorem dX9_fault_59 : decode cX9_fault 59 = .ok (.ireturn, 1) := by decide +kernel
theorem dX9_has_0 : decode cX9_has 0 = .ok (.aload_n 0, 1) := by decide +kernel
theorem dX9_has_1 : decode cX9_has 1 = .ok (.iload_n 1, 1) := by decide +kernel
theorem dX9_has_2 : decode cX9_has 2 = .ok (.invokevirtual 96, 3) := by decide +kernel
theorem dX9_has_5 : decode cX9_has 5 = .ok (.ifCond .eq 10, 3) := by decide +kernel
theorem dX9_has_8 : decode cX9_has 8 = .ok (.iload_n 2, 1) := by decide +kernel
theorem dX9_has_9 : decode cX9_has 9 = .ok (.invokestatic 132, 3) := by decide +kernel
theorem dX9_has_12 : decode cX9_has 12 = .ok (.ifCond .ne 5, 3) := by decide +kernel
theorem dX9_has_17 : decode cX9_has 17 = .ok (.aload_n 0, 1) := by decide +kernel
theorem dX9_has_18 : decode cX9_has 18 = .ok (.invokevirtual 135, 3) := by decide +kernel
theorem dX9_has_21 : decode cX9_has 21 = .ok (.ifCond .lt 6, 3) := by decide +kernel
theorem dX9_has_27 : decode cX9_has 27 = .ok (.iload_n 1, 1) := by decide +kernel
theorem dX9_has_28 : decode cX9_has 28 = .ok (.iload_n 2, 1) := by decide +kernel
theorem dX9_has_29 : decode cX9_has 29 = .ok (.invokestatic 138, 3) := by decide +kernel
theorem dX9_has_32 : decode cX9_has 32 = .ok (.istore_n 3, 1) := by decide +kernel
theorem dX9_has_33 : decode cX9_has 33 = .ok (.iconst 0, 1) := by decide +kernel
theorem dX9_has_34 : decode cX9_has 34 = .ok (.istore 4, 2) := by decide +kernel
theorem dX9_has_36 : decode cX9_has 36 = .ok (.iload 4, 2) := by decide +kernel
theorem dX9_has_38 : decode cX9_has 38 = .ok (.aload_n 0, 1) := by decide +kernel
theorem dX9_has_39 : decode cX9_has 39 = .ok (.getfield 44, 3) := by decide +kernel
theorem dX9_has_42 : decode cX9_has 42 = .ok (.bipush 80, 2) := by decide +kernel
theorem dX9_has_44 : decode cX9_has 44 = .ok (.iaload, 1) := by decide +kernel
theorem dX9_has_45 : decode cX9_has 45 = .ok (.if_icmp .ge 32, 3) := by decide +kernel
theorem dX9_has_77 : decode cX9_has 77 = .ok (.aload_n 0, 1) := by decide +kernel
theorem dX9_has_78 : decode cX9_has 78 = .ok (.getfield 44, 3) := by decide +kernel
theorem dX9_has_81 : decode cX9_has 81 = .ok (.iload_n 3, 1) := by decide +kernel
theorem dX9_has_82 : decode cX9_has 82 = .ok (.aload_n 0, 1) := by decide +kernel
theorem dX9_has_83 : decode cX9_has 83 = .ok (.getfield 44, 3) := by decide +kernel
theorem dX9_has_86 : decode cX9_has 86 = .ok (.bipush 80, 2) := by decide +kernel
theorem dX9_has_88 : decode cX9_has 88 = .ok (.iaload, 1) := by decide +kernel
theorem dX9_has_89 : decode cX9_has 89 = .ok (.iastore, 1) := by decide +kernel
theorem dX9_has_90 : decode cX9_has 90 = .ok (.aload_n 0, 1) := by decide +kernel
theorem dX9_has_91 : decode cX9_has 91 = .ok (.getfield 44, 3) := by decide +kernel
theorem dX9_has_94 : decode cX9_has 94 = .ok (.bipush 80, 2) := by decide +kernel
theorem dX9_has_96 : decode cX9_has 96 = .ok (.iconst 0, 1) := by decide +kernel
theorem dX9_has_97 : decode cX9_has 97 = .ok (.iastore, 1) := by decide +kernel
theorem dX9_has_98 : decode cX9_has 98 = .ok (.aload_n 0, 1) := by decide +kernel
theorem dX9_has_99 : decode cX9_has 99 = .ok (.iload_n 1, 1) := by decide +kernel
theorem dX9_has_100 : decode cX9_has 100 = .ok (.iload_n 2, 1) := by decide +kernel
theorem dX9_has_101 : decode cX9_has 101 = .ok (.invokevirtual 142, 3) := by decide +kernel
theorem dX9_has_104 : decode cX9_has 104 = .ok (.ifCond .eq 7, 3) := by decide +kernel
theorem dX9_has_107 : decode cX9_has 107 = .ok (.iconst 0, 1) := by decide +kernel
theorem dX9_has_108 : decode cX9_has 108 = .ok (.goto 4, 3) := by decide +kernel
theorem dX9_has_112 : decode cX9_has 112 = .ok (.istore 4, 2) := by decide +kernel
theorem dX9_has_114 : decode cX9_has 114 = .ok (.aload_n 0, 1) := by decide +kernel
theorem dX9_has_115 : decode cX9_has 115 = .ok (.getfield 47, 3) := by decide +kernel
theorem dX9_has_118 : decode cX9_has 118 = .ok (.iload_n 1, 1) := by decide +kernel
theorem dX9_has_119 : decode cX9_has 119 = .ok (.dup2, 1) := by decide +kernel
theorem dX9_has_120 : decode cX9_has 120 = .ok (.iaload, 1) := by decide +kernel
theorem dX9_has_121 : decode cX9_has 121 = .ok (.iconst 1, 1) := by decide +kernel
theorem dX9_has_122 : decode cX9_has 122 = .ok (.iload_n 2, 1) := by decide +kernel
theorem dX9_has_123 : decode cX9_has 123 = .ok (.ishl, 1) := by decide +kernel
theorem dX9_has_124 : decode cX9_has 124 = .ok (.ior, 1) := by decide +kernel
theorem dX9_has_125 : decode cX9_has 125 = .ok (.iastore, 1) := by decide +kernel
theorem dX9_has_126 : decode cX9_has 126 = .ok (.iload 4, 2) := by decide +kernel
theorem dX9_has_128 : decode cX9_has 128 = .ok (.ireturn, 1) := by decide +kernel
theorem dX9_has_111 : decode cX9_has 111 = .ok (.iconst 1, 1) := by decide +kernel
theorem dX9_has_48 : decode cX9_has 48 = .ok (.aload_n 0, 1) := by decide +kernel
theorem dX9_has_49 : decode cX9_has 49 = .ok (.getfield 41, 3) := by decide +kernel
theorem dX9_has_52 : decode cX9_has 52 = .ok (.bipush 12, 2) := by decide +kernel
theorem dX9_has_54 : decode cX9_has 54 = .ok (.iload_n 3, 1) := by decide +kernel
theorem dX9_has_55 : decode cX9_has 55 = .ok (.imul, 1) := by decide +kernel
theorem dX9_has_56 : decode cX9_has 56 = .ok (.iload 4, 2) := by decide +kernel
theorem dX9_has_58 : decode cX9_has 58 = .ok (.iadd, 1) := by decide +kernel
theorem dX9_has_59 : decode cX9_has 59 = .ok (.aload_n 0, 1) := by decide +kernel
theorem dX9_has_60 : decode cX9_has 60 = .ok (.getfield 41, 3) := by decide +kernel
theorem dX9_has_63 : decode cX9_has 63 = .ok (.sipush 960, 3) := by decide +kernel
theorem dX9_has_66 : decode cX9_has 66 = .ok (.iload 4, 2) := by decide +kernel
theorem dX9_has_68 : decode cX9_has 68 = .ok (.iadd, 1) := by decide +kernel
theorem dX9_has_69 : decode cX9_has 69 = .ok (.iaload, 1) := by decide +kernel
theorem dX9_has_70 : decode cX9_has 70 = .ok (.iastore, 1) := by decide +kernel
theorem dX9_has_71 : decode cX9_has 71 = .ok (.iinc 4 1, 3) := by decide +kernel
theorem dX9_has_74 : decode cX9_has 74 = .ok (.goto (-38), 3) := by decide +kernel
theorem dX9_has_24 : decode cX9_has 24 = .ok (.bipush (-5), 2) := by decide +kernel
theorem dX9_has_26 : decode cX9_has 26 = .ok (.ireturn, 1) := by decide +kernel
theorem dX9_has_15 : decode cX9_has 15 = .ok (.iconst (-1), 1) := by decide +kernel
theorem dX9_has_16 : decode cX9_has 16 = .ok (.ireturn, 1) := by decide +kernel
theorem dX9_drop_0 : decode cX9_drop 0 = .ok (.aload_n 0, 1) := by decide +kernel
theorem dX9_drop_1 : decode cX9_drop 1 = .ok (.iload_n 1, 1) := by decide +kernel
theorem dX9_drop_2 : decode cX9_drop 2 = .ok (.invokevirtual 96, 3) := by decide +kernel
theorem dX9_drop_5 : decode cX9_drop 5 = .ok (.ifCond .eq 10, 3) := by decide +kernel
theorem dX9_drop_8 : decode cX9_drop 8 = .ok (.iload_n 2, 1) := by decide +kernel
theorem dX9_drop_9 : decode cX9_drop 9 = .ok (.invokestatic 132, 3) := by decide +kernel
theorem dX9_drop_12 : decode cX9_drop 12 = .ok (.ifCond .ne 5, 3) := by decide +kernel
theorem dX9_drop_17 : decode cX9_drop 17 = .ok (.aload_n 0, 1) := by decide +kernel
theorem dX9_drop_18 : decode cX9_drop 18 = .ok (.iload_n 1, 1) := by decide +kernel
theorem dX9_drop_19 : decode cX9_drop 19 = .ok (.iload_n 2, 1) := by decide +kernel
theorem dX9_drop_20 : decode cX9_drop 20 = .ok (.invokevirtual 142, 3) := by decide +kernel
theorem dX9_drop_23 : decode cX9_drop 23 = .ok (.ifCond .ne 6, 3) := by decide +kernel
theorem dX9_drop_29 : decode cX9_drop 29 = .ok (.aload_n 0, 1) := by decide +kernel
theorem dX9_drop_30 : decode cX9_drop 30 = .ok (.getfield 47, 3) := by decide +kernel
theorem dX9_drop_33 : decode cX9_drop 33 = .ok (.iload_n 1, 1) := by decide +kernel
theorem dX9_drop_34 : decode cX9_drop 34 = .ok (.dup2, 1) := by decide +kernel
theorem dX9_drop_35 : decode cX9_drop 35 = .ok (.iaload, 1) := by decide +kernel
theorem dX9_drop_36 : decode cX9_drop 36 = .ok (.iconst 1, 1) := by decide +kernel
theorem dX9_drop_37 : decode cX9_drop 37 = .ok (.iload_n 2, 1) := by decide +kernel
theorem dX9_drop_38 : decode cX9_drop 38 = .ok (.ishl, 1) := by decide +kernel
theorem dX9_drop_39 : decode cX9_drop 39 = .ok (.iconst (-1), 1) := by decide +kernel
theorem dX9_drop_40 : decode cX9_drop 40 = .ok (.ixor, 1) := by decide +kernel
theorem dX9_drop_41 : decode cX9_drop 41 = .ok (.iand, 1) := by decide +kernel
theorem dX9_drop_42 : decode cX9_drop 42 = .ok (.iastore, 1) := by decide +kernel
theorem dX9_drop_43 : decode cX9_drop 43 = .ok (.aload_n 0, 1) := by decide +kernel
theorem dX9_drop_44 : decode cX9_drop 44 = .ok (.getfield 44, 3) := by decide +kernel
theorem dX9_drop_47 : decode cX9_drop 47 = .ok (.iload_n 1, 1) := by decide +kernel
theorem dX9_drop_48 : decode cX9_drop 48 = .ok (.iload_n 2, 1) := by decide +kernel
theorem dX9_drop_49 : decode cX9_drop 49 = .ok (.invokestatic 138, 3) := by decide +kernel
theorem dX9_drop_52 : decode cX9_drop 52 = .ok (.iaload, 1) := by decide +kernel
theorem dX9_drop_53 : decode cX9_drop 53 = .ok (.ireturn, 1) := by decide +kernel
theorem dX9_drop_26 : decode cX9_drop 26 = .ok (.bipush (-5), 2) := by decide +kernel
theorem dX9_drop_28 : decode cX9_drop 28 = .ok (.ireturn, 1) := by decide +kernel
theorem dX9_drop_15 : decode cX9_drop 15 = .ok (.iconst (-1), 1) := by decide +kernel
theorem dX9_drop_16 : decode cX9_drop 16 = .ok (.ireturn, 1) := by decide +kernel
set_option maxHeartbeats 4000000 in
set_option maxRecDepth 100000 in
theorem m_say (l : Launch) (dC : Nat → ClassId) (dI : Nat → Nat → Nat) (sz : Nat) (h0 : Nat) (w0 : Value) (w1 : Value) (w2 : Value) (w3 : Value) (w4 : Value) (w5 : Value) (w6 : Value) (w7 : Value) (w8 : Value) (w9 : Value) (w10 : Value) (w11 : Value) (v1 : Nat) (v2 : Nat) (w14 : Value) (w15 : Value) (w16 : Value) (w17 : Value) (w18 : Value) (w19 : Value) (w20 : Value) (w21 : Value) (w22 : Value) (w23 : Value) (w24 : Value) (w25 : Value) (w26 : Value) (w27 : Value) (w28 : Value) (w29 : Value) (w30 : Value) (w31 : Value) (w32 : Value) (w33 : Value) (w34 : Value) (kv2 : ClassId) (fsm : Nat → Int32) (kv1 : ClassId) (fsg : Nat → Int32) (n1 : Int32) (hsm : BdOk 81 12 fsm) (hcv : CvOk fsm fsg) : Met l yX9_say (wq yX9_say cX9_say 2 (some .int)) ({ frames := 1, cells := 0, slots := 0, locals := 25 }) (va_Pc [.ref h0, .int n1] (pcW dC dI [(kv2, .int), (kv1, .int)] [(h0, .inr (8, [w0, w1, w2, w3, w4, w5, w6, w7, w8, w9, w10, w11, .ref v1, .ref v2, w14, w15, w16, w17, w18, w19, w20, w21, w22, w23, w24, w25, w26, w27, w28, w29, w30, w31, w32, w33, w34])), (v2, .inl (kv2, 81, .inl fsm)), (v1, .inl (kv1, 972, .inl fsg))] sz)) (va_Qi (fun (r : Int32) (_ : Unit) => r = (F_say (fsm 80).toNatClampNeg n1)) (fun _ t => ∃ (fsm2 : Nat → Int32) (fsg2 : Nat → Int32), (BdOk 81 12 fsm2) ∧ (CvOk fsm2 fsg2) ∧ (fsm2 = SM_say fsm n1) ∧ (fsg2 = SG_say fsm fsg n1) ∧ va_P (dC, dI) vwCl [(h0, .inr (8, [w0, w1, w2, w3, w4, w5, w6, w7, w8, w9, w10, w11, .ref v1, .ref v2, w14, w15, w16, w17, w18, w19, w20, w21, w22, w23, w24, w25, w26, w27, w28, w29, w30, w31, w32, w33, w34])), (v2, .inl (kv2, 81, .inl fsm2)), (v1, .inl (kv1, 972, .inl fsg2))] t.heap ∧ va_K (dC, dI) vwCl [(kv2, .int), (kv1, .int)] t ∧ va_D (va_A [(h0, .inr (8, [w0, w1, w2, w3, w4, w5, w6, w7, w8, w9, w10, w11, .ref v1, .ref v2, w14, w15, w16, w17, w18, w19, w20, w21, w22, w23, w24, w25, w26, w27, w28, w29, w30, w31, w32, w33, w34])), (v2, .inl (kv2, 81, .inl fsm)), (v1, .inl (kv1, 972, .inl fsg))] sz) [(h0, .inr (8, [w0, w1, w2, w3, w4, w5, w6, w7, w8, w9, w10, w11, .ref v1, .ref v2, w14, w15, w16, w17, w18, w19, w20, w21, w22, w23, w24, w25, w26, w27, w28, w29, w30, w31, w32, w33, w34])), (v2, .inl (kv2, 81, .inl fsm2)), (v1, .inl (kv1, 972, .inl fsg2))]) (va_A [(h0, .inr (8, [w0, w1, w2, w3, w4, w5, w6, w7, w8, w9, w10, w11, .ref v1, .ref v2, w14, w15, w16, w17, w18, w19, w20, w21, w22, w23, w24, w25, w26, w27, w28, w29, w30, w31, w32, w33, w34])), (v2, .inl (kv2, 81, .inl fsm)), (v1, .inl (kv1, 972, .inl fsg))] sz)) 0 0 (va_A [(h0, .inr (8, [w0, w1, w2, w3, w4, w5, w6, w7, w8, w9, w10, w11, .ref v1, .ref v2, w14, w15, w16, w17, w18, w19, w20, w21, w22, w23, w24, w25, w26, w27, w28, w29, w30, w31, w32, w33, w34])), (v2, .inl (kv2, 81, .inl fsm)), (v1, .inl (kv1, 972, .inl fsg))] sz) := by
  refine Met.ofW (cc := cX9_say) (maxL := 2) (ret := (some .int)) (by decide) rfl ?_
  intro p e s m args below meth c s₁ B hml hv
  obtain ⟨rfl, hsz, hN, hP, hK, hD0⟩ := hv
  have hx := B.exec
  have hb := B.bytes
  have hr := B.returns
  have hts0 := atoms_spec (ws := (wq yX9_say cX9_say 2 (some .int))) B.pre
  have hts : ∀ w ∈ BG, w.before _ s = true := fun w h => hts0 w (List.mem_cons_of_mem _ h)
  have hown : s.vm.findClass RX9 = some m.cls := findClass_of_methodNamed B.named
  have hlocks := B.notSynchronized
  subst hsz
  have hD := hD0.self (sz := s.heap.size)
  generalize hAe : va_A [(h0, .inr (8, [w0, w1, w2, w3, w4, w5, w6, w7, w8, w9, w10, w11, .ref v1, .ref v2, w14, w15, w16, w17, w18, w19, w20, w21, w22, w23, w24, w25, w26, w27, w28, w29, w30, w31, w32, w33, w34])), (v2, .inl (kv2, 81, .inl fsm)), (v1, .inl (kv1, 972, .inl fsg))] s.heap.size = A at hD ⊢
  have hA : ∀ q : Nat, s.heap.size ≤ q → A q := fun q h => by rw [← hAe]; exact Or.inr h
  have hS : va_S A s.heap s.heap [] := va_S.rf
  clear hAe hD0
  have hP : va_P (dC, dI) vwCl [(h0, .inr (8, [w0, w1, w2, w3, w4, w5, w6, w7, w8, w9, w10, w11, .ref v1, .ref v2, w14, w15, w16, w17, w18, w19, w20, w21, w22, w23, w24, w25, w26, w27, w28, w29, w30, w31, w32, w33, w34])), (v2, .inl (kv2, 81, .inl fsm)), (v1, .inl (kv1, 972, .inl fsg))] s.heap := hP
  have hl := lv_entry ([.ref h0, .int n1]) (n := 2) (Nat.le_of_ble_eq_true rfl)
  rw [lg_entry_eq]
  generalize (lg_sl ([.ref h0, .int n1]) ++ List.replicate (2 - (lg_sl ([.ref h0, .int n1])).length) Slot.unset).toArray = ls at hl ⊢
  have hl : lv_has ls 2 [(0, .ref h0), (1, .int n1)] := hl
  refine lv_iload_n hx hb dX9_say_0 rfl (lv_at hl 1 rfl) ?_
  refine lv_i2l hx hb dX9_say_1 rfl ?_
  refine lv_ldc2 (v := Int32.toInt64 33) hx hb hown (show (Cond.constantLong RX9 120 (Int32.toInt64 33)).before _ s = true from (hts _ mw_4_97)) dX9_say_2 ?_
  refine lv_ldc2 (v := Int32.toInt64 126) hx hb hown (show (Cond.constantLong RX9 122 (Int32.toInt64 126)).before _ s = true from (hts _ mw_4_98)) dX9_say_5 ?_
  have hPc := hP.sub (ws' := []) [] rfl
  have hDc := hD.sub (ws' := []) [] (by decide) rfl
  have hKc := hK.sub (tys' := []) [] rfl
  refine va_calli (va_runS (As := [.long (Int32.toInt64 n1), .long (Int32.toInt64 33), .long (Int32.toInt64 126)]) (rest := []) ⟨hx, hb, hml, hown, hts⟩ (m_in l dC dI s.heap.size n1 33 126 33 126 (by decide) (by decide)) (va_cwS 3 hts (gS mw_4_57 mw_4_58 mw_1_9 mw_4_59) rfl rfl rfl (by decide +kernel) ⟨Nat.le_of_ble_eq_true rfl, Nat.le_of_ble_eq_true rfl⟩) ⟨pcW_blind, pcW_at hPc hKc hDc hN⟩ rfl rfl hl.1 rfl (lv_room (Nat.le_of_ble_eq_true rfl)) dX9_say_8 ⟨Nat.le_of_ble_eq_true rfl, Nat.le_of_ble_eq_true rfl⟩) hS (fun q h1 h2 => absurd h2 (Nat.not_le.mpr h1)) (fun q h => hA q (Nat.le_trans hS.1 h)) (fun r_1 u t H1 locs ht hvm hw_1 hB hz1 hk1 hS => ?_)
  have hP := keepP hP hk1
  clear hz1 hk1 hB ht hvm hPc hDc hKc
  generalize H1 = H at hP hS ⊢
  rcases fx_bool hw_1 with ⟨rfl, b_2⟩ | ⟨rfl, b_2⟩
  · skip
    refine lv_if_ne (tgt := 17) hx hb dX9_say_11 (by decide) (fun _ => ?_) (fun h => absurd h (by decide))
    refine lv_aload_n hx hb dX9_say_17 rfl (lv_at hl 0 rfl) ?_
    refine va_get (D := (dC, dI)) (ci := 8) (v := .ref v2) (C := RX9) (T := TX9) (N := 35) hx hb hts inB_9 hown hK hP 0 rfl rfl 13 (by decide) (hts _ mw_3_195) (fun _ h9 => h9) rfl dX9_say_18 ?_
    refine lv_bipush (v := 80) hx hb dX9_say_21 (by decide) ?_
    refine va_iald hx hb hK hP 1 0 rfl rfl (show vp_in 80 81 by unfold vp_in; decide) dX9_say_23 ?_
    refine hx_top (y := (fsm 80)) rfl ?_
    obtain ⟨n_3, hn_3, en_3⟩ := hsm 80 (by omega)
    refine hx_top (y := (nI n_3)) en_3 ?_
    refine lv_bipush (v := 12) hx hb dX9_say_24 (by decide) ?_
    refine lv_icmp_ne (tgt := 32) hx hb dX9_say_26 (by decide) (fun c_4 => ?_) (fun c_4 => ?_)
    · have b_5 := gx_ne (X := ((n_3 : Nat) : Int)) (C := 12) (nI_toInt (by omega)) (by decide) c_4
      refine lv_aload_n hx hb dX9_say_32 rfl (lv_at hl 0 rfl) ?_
      refine va_get (D := (dC, dI)) (ci := 8) (v := .ref v1) (C := RX9) (T := TX9) (N := 35) hx hb hts inB_9 hown hK hP 0 rfl rfl 12 (by decide) (hts _ mw_3_194) (fun _ h9 => h9) rfl dX9_say_33 ?_
      refine lv_sipush (v := 960) hx hb dX9_say_36 (by decide) ?_
      refine lv_aload_n hx hb dX9_say_39 rfl (lv_at hl 0 rfl) ?_
      refine va_get (D := (dC, dI)) (ci := 8) (v := .ref v2) (C := RX9) (T := TX9) (N := 35) hx hb hts inB_9 hown hK hP 0 rfl rfl 13 (by decide) (hts _ mw_3_195) (fun _ h9 => h9) rfl dX9_say_40 ?_
      refine lv_bipush (v := 80) hx hb dX9_say_43 (by decide) ?_
      refine va_iald hx hb hK hP 1 0 rfl rfl (show vp_in 80 81 by unfold vp_in; decide) dX9_say_45 ?_
      refine hx_top (y := (fsm 80)) rfl ?_
      refine hx_top (y := (nI n_3)) en_3 ?_
      refine lv_iadd hx hb dX9_say_46 ?_
      refine hx_top (y := (nI (960 + n_3))) (nI_add 960 n_3) ?_
      refine lv_iload_n hx hb dX9_say_47 rfl (lv_at hl 1 rfl) ?_
      refine va_iast hx hb hK hP hD hS 2 1 rfl rfl (show vp_in (nI (960 + n_3)) 972 from vp_in_nI (by omega) (by omega)) dX9_say_48 (fun H locs hP hD hS => ?_)
      obtain ⟨f_6, ef_6⟩ : ∃ g : Nat → Int32, g = upd fsg (Int32.toNatClampNeg (nI (960 + n_3))) n1 := ⟨_, rfl⟩
      rw [← ef_6] at hP hD
      have ef_6 : f_6 = upd fsg (960 + n_3) n1 := by rw [ef_6, nI_clamp (by omega)]
      have hP : va_P (dC, dI) vwCl [(h0, .inr (8, [w0, w1, w2, w3, w4, w5, w6, w7, w8, w9, w10, w11, .ref v1, .ref v2, w14, w15, w16, w17, w18, w19, w20, w21, w22, w23, w24, w25, w26, w27, w28, w29, w30, w31, w32, w33, w34])), (v2, .inl (kv2, 81, .inl fsm)), (v1, .inl (kv1, 972, .inl f_6))] H := hP
      have hD : va_D A [(h0, .inr (8, [w0, w1, w2, w3, w4, w5, w6, w7, w8, w9, w10, w11, .ref v1, .ref v2, w14, w15, w16, w17, w18, w19, w20, w21, w22, w23, w24, w25, w26, w27, w28, w29, w30, w31, w32, w33, w34])), (v2, .inl (kv2, 81, .inl fsm)), (v1, .inl (kv1, 972, .inl f_6))] := hD
      refine lv_aload_n hx hb dX9_say_49 rfl (lv_at hl 0 rfl) ?_
      refine va_get (D := (dC, dI)) (ci := 8) (v := .ref v2) (C := RX9) (T := TX9) (N := 35) hx hb hts inB_9 hown hK hP 0 rfl rfl 13 (by decide) (hts _ mw_3_195) (fun _ h9 => h9) rfl dX9_say_50 ?_
      refine lv_bipush (v := 80) hx hb dX9_say_53 (by decide) ?_
      refine lv_dup2_11 hx hb dX9_say_55 rfl rfl ?_
      refine va_iald hx hb hK hP 1 0 rfl rfl (show vp_in 80 81 by unfold vp_in; decide) dX9_say_56 ?_
      refine hx_top (y := (fsm 80)) rfl ?_
      refine hx_top (y := (nI n_3)) en_3 ?_
      refine lv_iconst (v := 1) hx hb dX9_say_57 (by decide) ?_
      refine lv_iadd hx hb dX9_say_58 ?_
      refine hx_top (y := (nI (n_3 + 1))) (nI_add n_3 1) ?_
      refine va_iast hx hb hK hP hD hS 1 0 rfl rfl (show vp_in 80 81 by unfold vp_in; decide) dX9_say_59 (fun H locs hP hD hS => ?_)
      obtain ⟨f_7, ef_7⟩ : ∃ g : Nat → Int32, g = upd fsm (Int32.toNatClampNeg 80) (nI (n_3 + 1)) := ⟨_, rfl⟩
      rw [← ef_7] at hP hD
      have ef_7 : f_7 = upd fsm 80 (nI (n_3 + 1)) := ef_7
      have pf_7 : BdOk 81 12 f_7 := by rw [ef_7]; exact bd_upd (z := (n_3 + 1)) hsm (by omega)
      have hP : va_P (dC, dI) vwCl [(h0, .inr (8, [w0, w1, w2, w3, w4, w5, w6, w7, w8, w9, w10, w11, .ref v1, .ref v2, w14, w15, w16, w17, w18, w19, w20, w21, w22, w23, w24, w25, w26, w27, w28, w29, w30, w31, w32, w33, w34])), (v2, .inl (kv2, 81, .inl f_7)), (v1, .inl (kv1, 972, .inl f_6))] H := hP
      have hD : va_D A [(h0, .inr (8, [w0, w1, w2, w3, w4, w5, w6, w7, w8, w9, w10, w11, .ref v1, .ref v2, w14, w15, w16, w17, w18, w19, w20, w21, w22, w23, w24, w25, w26, w27, w28, w29, w30, w31, w32, w33, w34])), (v2, .inl (kv2, 81, .inl f_7)), (v1, .inl (kv1, 972, .inl f_6))] := hD
      refine lv_aload_n hx hb dX9_say_60 rfl (lv_at hl 0 rfl) ?_
      refine va_get (D := (dC, dI)) (ci := 8) (v := .ref v2) (C := RX9) (T := TX9) (N := 35) hx hb hts inB_9 hown hK hP 0 rfl rfl 13 (by decide) (hts _ mw_3_195) (fun _ h9 => h9) rfl dX9_say_61 ?_
      refine lv_bipush (v := 80) hx hb dX9_say_64 (by decide) ?_
      refine va_iald hx hb hK hP 1 0 rfl rfl (show vp_in 80 81 by unfold vp_in; decide) dX9_say_66 ?_
      refine hx_top (y := (f_7 80)) rfl ?_
      refine hx_top (y := (nI (n_3 + 1))) (by rw [ef_7]; exact pk_us) ?_
      have hP9 := hP.sub (ws' := [(h0, .inr (8, [w0, w1, w2, w3, w4, w5, w6, w7, w8, w9, w10, w11, .ref v1, .ref v2, w14, w15, w16, w17, w18, w19, w20, w21, w22, w23, w24, w25, w26, w27, w28, w29, w30, w31, w32, w33, w34])), (v2, .inl (kv2, 81, .inl f_7)), (v1, .inl (kv1, 972, .inl f_6))]) [0, 1, 2] rfl
      have hD9 := hD.sub (ws' := [(h0, .inr (8, [w0, w1, w2, w3, w4, w5, w6, w7, w8, w9, w10, w11, .ref v1, .ref v2, w14, w15, w16, w17, w18, w19, w20, w21, w22, w23, w24, w25, w26, w27, w28, w29, w30, w31, w32, w33, w34])), (v2, .inl (kv2, 81, .inl f_7)), (v1, .inl (kv1, 972, .inl f_6))]) [0, 1, 2] (by decide) rfl
      have hK9 := hK.sub (tys' := [(kv2, .int), (kv1, .int)]) [0, 1] rfl
      exact W.iret (v := (nI (n_3 + 1))) hx hb hr (fun t ht hW => ⟨⟨(nI (n_3 + 1)), (), rfl, (by unfold F_say; rw [if_neg (by omega), en_3, nI_clamp (by omega), if_neg (by omega)]), f_7, f_6, pf_7, (cv_say hcv hsm ef_6 ef_7), (by unfold SM_say; rw [if_neg (by omega), en_3, nI_clamp (by omega), if_neg (by omega)]; exact ef_7), (by unfold SG_say; rw [if_neg (by omega), en_3, nI_clamp (by omega), if_neg (by omega)]; exact ef_6), by rw [ht]; exact hP9, va_K.moved hW.alike hK9, hD9⟩, hS.F ht⟩) hS.2.2 dX9_say_67
    · have b_5 := gn_ne (X := ((n_3 : Nat) : Int)) (C := 12) (nI_toInt (by omega)) (by decide) c_4
      refine lv_bipush (v := (-4)) hx hb dX9_say_29 (by decide) ?_
      have hP9 := hP.sub (ws' := [(h0, .inr (8, [w0, w1, w2, w3, w4, w5, w6, w7, w8, w9, w10, w11, .ref v1, .ref v2, w14, w15, w16, w17, w18, w19, w20, w21, w22, w23, w24, w25, w26, w27, w28, w29, w30, w31, w32, w33, w34])), (v2, .inl (kv2, 81, .inl fsm)), (v1, .inl (kv1, 972, .inl fsg))]) [0, 1, 2] rfl
      have hD9 := hD.sub (ws' := [(h0, .inr (8, [w0, w1, w2, w3, w4, w5, w6, w7, w8, w9, w10, w11, .ref v1, .ref v2, w14, w15, w16, w17, w18, w19, w20, w21, w22, w23, w24, w25, w26, w27, w28, w29, w30, w31, w32, w33, w34])), (v2, .inl (kv2, 81, .inl fsm)), (v1, .inl (kv1, 972, .inl fsg))]) [0, 1, 2] (by decide) rfl
      have hK9 := hK.sub (tys' := [(kv2, .int), (kv1, .int)]) [0, 1] rfl
      exact W.iret (v := (-4)) hx hb hr (fun t ht hW => ⟨⟨(-4), (), rfl, (by unfold F_say; rw [if_neg (by omega), en_3, nI_clamp (by omega), if_pos (by omega)]), fsm, fsg, hsm, hcv, (by unfold SM_say; rw [if_neg (by omega), en_3, nI_clamp (by omega), if_pos (by omega)]), (by unfold SG_say; rw [if_neg (by omega), en_3, nI_clamp (by omega), if_pos (by omega)]), by rw [ht]; exact hP9, va_K.moved hW.alike hK9, hD9⟩, hS.F ht⟩) hS.2.2 dX9_say_31
  · skip
    refine lv_if_ne (tgt := 17) hx hb dX9_say_11 (by decide) (fun h => absurd h (by decide)) (fun _ => ?_)
    refine lv_bipush (v := (-2)) hx hb dX9_say_14 (by decide) ?_
    have hP9 := hP.sub (ws' := [(h0, .inr (8, [w0, w1, w2, w3, w4, w5, w6, w7, w8, w9, w10, w11, .ref v1, .ref v2, w14, w15, w16, w17, w18, w19, w20, w21, w22, w23, w24, w25, w26, w27, w28, w29, w30, w31, w32, w33, w34])), (v2, .inl (kv2, 81, .inl fsm)), (v1, .inl (kv1, 972, .inl fsg))]) [0, 1, 2] rfl
    have hD9 := hD.sub (ws' := [(h0, .inr (8, [w0, w1, w2, w3, w4, w5, w6, w7, w8, w9, w10, w11, .ref v1, .ref v2, w14, w15, w16, w17, w18, w19, w20, w21, w22, w23, w24, w25, w26, w27, w28, w29, w30, w31, w32, w33, w34])), (v2, .inl (kv2, 81, .inl fsm)), (v1, .inl (kv1, 972, .inl fsg))]) [0, 1, 2] (by decide) rfl
    have hK9 := hK.sub (tys' := [(kv2, .int), (kv1, .int)]) [0, 1] rfl
    exact W.iret (v := (-2)) hx hb hr (fun t ht hW => ⟨⟨(-2), (), rfl, (by unfold F_say; rw [if_pos (by omega)]), fsm, fsg, hsm, hcv, (by unfold SM_say; rw [if_pos (by omega)]), (by unfold SG_say; rw [if_pos (by omega)]), by rw [ht]; exact hP9, va_K.moved hW.alike hK9, hD9⟩, hS.F ht⟩) hS.2.2 dX9_say_16
set_option maxHeartbeats 4000000 in
set_option maxRecDepth 100000 in
theorem m_wipe (l : Launch) (dC : Nat → ClassId) (dI : Nat → Nat → Nat) (sz : Nat) (h0 : Nat) (w0 : Value) (w1 : Value) (w2 : Value) (w3 : Value) (w4 : Value) (w5 : Value) (w6 : Value) (w7 : Value) (w8 : Value) (w9 : Value) (w10 : Value) (w11 : Value) (v1 : Nat) (v2 : Nat) (w14 : Value) (w15 : Value) (w16 : Value) (w17 : Value) (w18 : Value) (w19 : Value) (w20 : Value) (w21 : Value) (w22 : Value) (w23 : Value) (w24 : Value) (w25 : Value) (w26 : Value) (w27 : Value) (w28 : Value) (w29 : Value) (w30 : Value) (w31 : Value) (w32 : Value) (w33 : Value) (w34 : Value) (kv2 : ClassId) (fsm : Nat → Int32) (kv1 : ClassId) (fsg : Nat → Int32) (hsm : BdOk 81 12 fsm) (hcv : CvOk fsm fsg) : Met l yX9_wipe (wq yX9_wipe cX9_wipe 2 (some .int)) ({ frames := 0, cells := 0, slots := 0, locals := 0 }) (va_Pc [.ref h0] (pcW dC dI [(kv2, .int), (kv1, .int)] [(h0, .inr (8, [w0, w1, w2, w3, w4, w5, w6, w7, w8, w9, w10, w11, .ref v1, .ref v2, w14, w15, w16, w17, w18, w19, w20, w21, w22, w23, w24, w25, w26, w27, w28, w29, w30, w31, w32, w33, w34])), (v2, .inl (kv2, 81, .inl fsm)), (v1, .inl (kv1, 972, .inl fsg))] sz)) (va_Qi (fun (r : Int32) (_ : Unit) => r = (fsm 80)) (fun _ t => ∃ (fsm2 : Nat → Int32), (BdOk 81 12 fsm2) ∧ (CvOk fsm2 fsg) ∧ (fsm2 = upd fsm 80 0) ∧ va_P (dC, dI) vwCl [(h0, .inr (8, [w0, w1, w2, w3, w4, w5, w6, w7, w8, w9, w10, w11, .ref v1, .ref v2, w14, w15, w16, w17, w18, w19, w20, w21, w22, w23, w24, w25, w26, w27, w28, w29, w30, w31, w32, w33, w34])), (v2, .inl (kv2, 81, .inl fsm2)), (v1, .inl (kv1, 972, .inl fsg))] t.heap ∧ va_K (dC, dI) vwCl [(kv2, .int), (kv1, .int)] t ∧ va_D (va_A [(h0, .inr (8, [w0, w1, w2, w3, w4, w5, w6, w7, w8, w9, w10, w11, .ref v1, .ref v2, w14, w15, w16, w17, w18, w19, w20, w21, w22, w23, w24, w25, w26, w27, w28, w29, w30, w31, w32, w33, w34])), (v2, .inl (kv2, 81, .inl fsm)), (v1, .inl (kv1, 972, .inl fsg))] sz) [(h0, .inr (8, [w0, w1, w2, w3, w4, w5, w6, w7, w8, w9, w10, w11, .ref v1, .ref v2, w14, w15, w16, w17, w18, w19, w20, w21, w22, w23, w24, w25, w26, w27, w28, w29, w30, w31, w32, w33, w34])), (v2, .inl (kv2, 81, .inl fsm2)), (v1, .inl (kv1, 972, .inl fsg))]) (va_A [(h0, .inr (8, [w0, w1, w2, w3, w4, w5, w6, w7, w8, w9, w10, w11, .ref v1, .ref v2, w14, w15, w16, w17, w18, w19, w20, w21, w22, w23, w24, w25, w26, w27, w28, w29, w30, w31, w32, w33, w34])), (v2, .inl (kv2, 81, .inl fsm)), (v1, .inl (kv1, 972, .inl fsg))] sz)) 0 0 (va_A [(h0, .inr (8, [w0, w1, w2, w3, w4, w5, w6, w7, w8, w9, w10, w11, .ref v1, .ref v2, w14, w15, w16, w17, w18, w19, w20, w21, w22, w23, w24, w25, w26, w27, w28, w29, w30, w31, w32, w33, w34])), (v2, .inl (kv2, 81, .inl fsm)), (v1, .inl (kv1, 972, .inl fsg))] sz) := by
  refine Met.ofW (cc := cX9_wipe) (maxL := 2) (ret := (some .int)) (by decide) rfl ?_
  intro p e s m args below meth c s₁ B hml hv
  obtain ⟨rfl, hsz, hN, hP, hK, hD0⟩ := hv
  have hx := B.exec
  have hb := B.bytes
  have hr := B.returns
  have hts0 := atoms_spec (ws := (wq yX9_wipe cX9_wipe 2 (some .int))) B.pre
  have hts : ∀ w ∈ BG, w.before _ s = true := fun w h => hts0 w (List.mem_cons_of_mem _ h)
  have hown : s.vm.findClass RX9 = some m.cls := findClass_of_methodNamed B.named
  have hlocks := B.notSynchronized
  subst hsz
  have hD := hD0.self (sz := s.heap.size)
  generalize hAe : va_A [(h0, .inr (8, [w0, w1, w2, w3, w4, w5, w6, w7, w8, w9, w10, w11, .ref v1, .ref v2, w14, w15, w16, w17, w18, w19, w20, w21, w22, w23, w24, w25, w26, w27, w28, w29, w30, w31, w32, w33, w34])), (v2, .inl (kv2, 81, .inl fsm)), (v1, .inl (kv1, 972, .inl fsg))] s.heap.size = A at hD ⊢
  have hA : ∀ q : Nat, s.heap.size ≤ q → A q := fun q h => by rw [← hAe]; exact Or.inr h
  have hS : va_S A s.heap s.heap [] := va_S.rf
  clear hAe hD0
  have hP : va_P (dC, dI) vwCl [(h0, .inr (8, [w0, w1, w2, w3, w4, w5, w6, w7, w8, w9, w10, w11, .ref v1, .ref v2, w14, w15, w16, w17, w18, w19, w20, w21, w22, w23, w24, w25, w26, w27, w28, w29, w30, w31, w32, w33, w34])), (v2, .inl (kv2, 81, .inl fsm)), (v1, .inl (kv1, 972, .inl fsg))] s.heap := hP
  have hl := lv_entry ([.ref h0]) (n := 2) (Nat.le_of_ble_eq_true rfl)
  rw [lg_entry_eq]
  generalize (lg_sl ([.ref h0]) ++ List.replicate (2 - (lg_sl ([.ref h0])).length) Slot.unset).toArray = ls at hl ⊢
  have hl : lv_has ls 2 [(0, .ref h0)] := hl
  refine lv_aload_n hx hb dX9_wipe_0 rfl (lv_at hl 0 rfl) ?_
  refine va_get (D := (dC, dI)) (ci := 8) (v := .ref v2) (C := RX9) (T := TX9) (N := 35) hx hb hts inB_9 hown hK hP 0 rfl rfl 13 (by decide) (hts _ mw_3_195) (fun _ h9 => h9) rfl dX9_wipe_1 ?_
  refine lv_bipush (v := 80) hx hb dX9_wipe_4 (by decide) ?_
  refine va_iald hx hb hK hP 1 0 rfl rfl (show vp_in 80 81 by unfold vp_in; decide) dX9_wipe_6 ?_
  refine hx_top (y := (fsm 80)) rfl ?_
  obtain ⟨n_1, hn_1, en_1⟩ := hsm 80 (by omega)
  refine hx_top (y := (nI n_1)) en_1 ?_
  refine lv_istore_n (lv' := [(1, .int (nI n_1)), (0, .ref h0)]) hx hb dX9_wipe_7 rfl hl (by decide) rfl (fun ls hl => ?_)
  refine lv_aload_n hx hb dX9_wipe_8 rfl (lv_at hl 1 rfl) ?_
  refine va_get (D := (dC, dI)) (ci := 8) (v := .ref v2) (C := RX9) (T := TX9) (N := 35) hx hb hts inB_9 hown hK hP 0 rfl rfl 13 (by decide) (hts _ mw_3_195) (fun _ h9 => h9) rfl dX9_wipe_9 ?_
  refine lv_bipush (v := 80) hx hb dX9_wipe_12 (by decide) ?_
  refine lv_iconst (v := 0) hx hb dX9_wipe_14 (by decide) ?_
  refine va_iast hx hb hK hP hD hS 1 0 rfl rfl (show vp_in 80 81 by unfold vp_in; decide) dX9_wipe_15 (fun H locs hP hD hS => ?_)
  obtain ⟨f_2, ef_2⟩ : ∃ g : Nat → Int32, g = upd fsm (Int32.toNatClampNeg 80) 0 := ⟨_, rfl⟩
  rw [← ef_2] at hP hD
  have ef_2 : f_2 = upd fsm 80 0 := ef_2
  have pf_2 : BdOk 81 12 f_2 := by rw [ef_2]; exact bd_upd (z := 0) hsm (by omega)
  have hP : va_P (dC, dI) vwCl [(h0, .inr (8, [w0, w1, w2, w3, w4, w5, w6, w7, w8, w9, w10, w11, .ref v1, .ref v2, w14, w15, w16, w17, w18, w19, w20, w21, w22, w23, w24, w25, w26, w27, w28, w29, w30, w31, w32, w33, w34])), (v2, .inl (kv2, 81, .inl f_2)), (v1, .inl (kv1, 972, .inl fsg))] H := hP
  have hD : va_D A [(h0, .inr (8, [w0, w1, w2, w3, w4, w5, w6, w7, w8, w9, w10, w11, .ref v1, .ref v2, w14, w15, w16, w17, w18, w19, w20, w21, w22, w23, w24, w25, w26, w27, w28, w29, w30, w31, w32, w33, w34])), (v2, .inl (kv2, 81, .inl f_2)), (v1, .inl (kv1, 972, .inl fsg))] := hD
  refine lv_iload_n hx hb dX9_wipe_16 rfl (lv_at hl 0 rfl) ?_
  have hP9 := hP.sub (ws' := [(h0, .inr (8, [w0, w1, w2, w3, w4, w5, w6, w7, w8, w9, w10, w11, .ref v1, .ref v2, w14, w15, w16, w17, w18, w19, w20, w21, w22, w23, w24, w25, w26, w27, w28, w29, w30, w31, w32, w33, w34])), (v2, .inl (kv2, 81, .inl f_2)), (v1, .inl (kv1, 972, .inl fsg))]) [0, 1, 2] rfl
  have hD9 := hD.sub (ws' := [(h0, .inr (8, [w0, w1, w2, w3, w4, w5, w6, w7, w8, w9, w10, w11, .ref v1, .ref v2, w14, w15, w16, w17, w18, w19, w20, w21, w22, w23, w24, w25, w26, w27, w28, w29, w30, w31, w32, w33, w34])), (v2, .inl (kv2, 81, .inl f_2)), (v1, .inl (kv1, 972, .inl fsg))]) [0, 1, 2] (by decide) rfl
  have hK9 := hK.sub (tys' := [(kv2, .int), (kv1, .int)]) [0, 1] rfl
  exact W.iret (v := (nI n_1)) hx hb hr (fun t ht hW => ⟨⟨(nI n_1), (), rfl, en_1.symm, f_2, pf_2, (cv_wipe hcv ef_2), ef_2, by rw [ht]; exact hP9, va_K.moved hW.alike hK9, hD9⟩, hS.F ht⟩) hS.2.2 dX9_wipe_17
set_option maxHeartbeats 4000000 in
set_option maxRecDepth 100000 in
theorem m_fault (l : Launch) (dC : Nat → ClassId) (dI : Nat → Nat → Nat) (sz : Nat) (h0 : Nat) (w0 : Value) (w1 : Value) (w2 : Value) (w3 : Value) (w4 : Value) (w5 : Value) (w6 : Value) (w7 : Value) (w8 : Value) (w9 : Value) (w10 : Value) (w11 : Value) (v1 : Nat) (v2 : Nat) (w14 : Value) (w15 : Value) (w16 : Value) (w17 : Value) (w18 : Value) (w19 : Value) (w20 : Value) (w21 : Value) (w22 : Value) (w23 : Value) (w24 : Value) (w25 : Value) (w26 : Value) (w27 : Value) (w28 : Value) (w29 : Value) (w30 : Value) (w31 : Value) (w32 : Value) (w33 : Value) (w34 : Value) (kv2 : ClassId) (fsm : Nat → Int32) (kv1 : ClassId) (fsg : Nat → Int32) (hsm : BdOk 81 12 fsm) : Met l yX9_fault (wq yX9_fault cX9_fault 3 (some .int)) ({ frames := 1, cells := 0, slots := 0, locals := 25 }) (va_Pc [.ref h0] (pcW dC dI [(kv2, .int), (kv1, .int)] [(h0, .inr (8, [w0, w1, w2, w3, w4, w5, w6, w7, w8, w9, w10, w11, .ref v1, .ref v2, w14, w15, w16, w17, w18, w19, w20, w21, w22, w23, w24, w25, w26, w27, w28, w29, w30, w31, w32, w33, w34])), (v2, .inl (kv2, 81, .inl fsm)), (v1, .inl (kv1, 972, .inl fsg))] sz)) (va_Qi (fun (r : Int32) (_ : Unit) => r = (fltF (fun i => fsg (960 + i)) (fsm 80).toNatClampNeg)) (fun _ _ => True) (fun q : Nat => sz ≤ q)) 0 0 (fun q : Nat => sz ≤ q) := by
  refine Met.ofW (cc := cX9_fault) (maxL := 3) (ret := (some .int)) (by decide) rfl ?_
  intro p e s m args below meth c s₁ B hml hv
  obtain ⟨rfl, hsz, hN, hP, hK, hD0⟩ := hv
  have hx := B.exec
  have hb := B.bytes
  have hr := B.returns
  have hts0 := atoms_spec (ws := (wq yX9_fault cX9_fault 3 (some .int))) B.pre
  have hts : ∀ w ∈ BG, w.before _ s = true := fun w h => hts0 w (List.mem_cons_of_mem _ h)
  have hown : s.vm.findClass RX9 = some m.cls := findClass_of_methodNamed B.named
  have hlocks := B.notSynchronized
  subst hsz
  have hA : ∀ q : Nat, s.heap.size ≤ q → (fun q : Nat => s.heap.size ≤ q) q := fun _ h => h
  have hD := hD0
  have hS : va_S (fun q : Nat => s.heap.size ≤ q) s.heap s.heap [] := va_S.rf
  have hP : va_P (dC, dI) vwCl [(h0, .inr (8, [w0, w1, w2, w3, w4, w5, w6, w7, w8, w9, w10, w11, .ref v1, .ref v2, w14, w15, w16, w17, w18, w19, w20, w21, w22, w23, w24, w25, w26, w27, w28, w29, w30, w31, w32, w33, w34])), (v2, .inl (kv2, 81, .inl fsm)), (v1, .inl (kv1, 972, .inl fsg))] s.heap := hP
  have hl := lv_entry ([.ref h0]) (n := 3) (Nat.le_of_ble_eq_true rfl)
  rw [lg_entry_eq]
  generalize (lg_sl ([.ref h0]) ++ List.replicate (3 - (lg_sl ([.ref h0])).length) Slot.unset).toArray = ls at hl ⊢
  have hl : lv_has ls 3 [(0, .ref h0)] := hl
  refine lv_iconst (v := 0) hx hb dX9_fault_0 (by decide) ?_
  refine lv_istore_n (lv' := [(1, .int 0), (0, .ref h0)]) hx hb dX9_fault_1 rfl hl (by decide) rfl (fun ls hl => ?_)
  have key_1 : ∀ (fu : Nat) (k : Nat), (k ≤ 12) → (fnd (fun i => !can ((fun i => fsg (960 + i)) i)) k ((fsm 80).toNatClampNeg - k) = fltF (fun i => fsg (960 + i)) (fsm 80).toNatClampNeg) → 12 - k < fu → ∀ (H : Heap) (locs : List Loc), va_P (dC, dI) vwCl [(h0, .inr (8, [w0, w1, w2, w3, w4, w5, w6, w7, w8, w9, w10, w11, .ref v1, .ref v2, w14, w15, w16, w17, w18, w19, w20, w21, w22, w23, w24, w25, w26, w27, w28, w29, w30, w31, w32, w33, w34])), (v2, .inl (kv2, 81, .inl fsm)), (v1, .inl (kv1, 972, .inl fsg))] H → va_S (fun q : Nat => s.heap.size ≤ q) s.heap H locs → ∀ (ls : Array Slot), lv_has ls 3 [(1, .int (nI k)), (0, .ref h0)] → W p l e (headSpec (wq yX9_fault cX9_fault 3 (some .int)) ({ frames := 1, cells := 0, slots := 0, locals := 25 })).room s m (([.ref h0] : List Value)).toArray below meth c H locs 0 0 (MQ below (va_Qi (fun (r : Int32) (_ : Unit) => r = (fltF (fun i => fsg (960 + i)) (fsm 80).toNatClampNeg)) (fun _ _ => True) (fun q : Nat => s.heap.size ≤ q)) (([.ref h0] : List Value)).toArray s 0 0 (fun q : Nat => s.heap.size ≤ q)) (F0 m 2 ls []) := by
    intro fu
    induction fu with
    | zero => intro k hk hf hme; exact absurd hme (Nat.not_lt_zero _)
    | succ fu ih_2 =>
      intro k hk hf hme H locs hP hS ls hl
      refine lv_iload_n hx hb dX9_fault_2 rfl (lv_at hl 0 rfl) ?_
      refine lv_aload_n hx hb dX9_fault_3 rfl (lv_at hl 1 rfl) ?_
      refine va_get (D := (dC, dI)) (ci := 8) (v := .ref v2) (C := RX9) (T := TX9) (N := 35) hx hb hts inB_9 hown hK hP 0 rfl rfl 13 (by decide) (hts _ mw_3_195) (fun _ h9 => h9) rfl dX9_fault_4 ?_
      refine lv_bipush (v := 80) hx hb dX9_fault_7 (by decide) ?_
      refine va_iald hx hb hK hP 1 0 rfl rfl (show vp_in 80 81 by unfold vp_in; decide) dX9_fault_9 ?_
      refine hx_top (y := (fsm 80)) rfl ?_
      obtain ⟨n_3, hn_3, en_3⟩ := hsm 80 (by omega)
      refine hx_top (y := (nI n_3)) en_3 ?_
      refine lv_icmp_ge (tgt := 66) hx hb dX9_fault_10 (by decide) (fun c_4 => ?_) (fun c_4 => ?_)
      · have b_5 := gx_ge (X := ((k : Nat) : Int)) (C := ((n_3 : Nat) : Int)) (nI_toInt (by omega)) (nI_toInt (by omega)) c_4
        refine lv_bipush (v := (-6)) hx hb dX9_fault_66 (by decide) ?_
        exact W.iret (v := (-6)) hx hb hr (fun t ht hW => ⟨⟨(-6), (), rfl, (by rw [← hf]; exact (fnd_end (by rw [en_3, nI_clamp (by omega)]; omega)).symm), trivial⟩, hS.F ht⟩) hS.2.2 dX9_fault_68
      · have b_5 := gn_ge (X := ((k : Nat) : Int)) (C := ((n_3 : Nat) : Int)) (nI_toInt (by omega)) (nI_toInt (by omega)) c_4
        refine lv_aload_n hx hb dX9_fault_13 rfl (lv_at hl 1 rfl) ?_
        refine va_get (D := (dC, dI)) (ci := 8) (v := .ref v1) (C := RX9) (T := TX9) (N := 35) hx hb hts inB_9 hown hK hP 0 rfl rfl 12 (by decide) (hts _ mw_3_194) (fun _ h9 => h9) rfl dX9_fault_14 ?_
        refine lv_sipush (v := 960) hx hb dX9_fault_17 (by decide) ?_
        refine lv_iload_n hx hb dX9_fault_20 rfl (lv_at hl 0 rfl) ?_
        refine lv_iadd hx hb dX9_fault_21 ?_
        refine hx_top (y := (nI (960 + k))) (nI_add 960 k) ?_
        refine va_iald hx hb hK hP 2 1 rfl rfl (show vp_in (nI (960 + k)) 972 from vp_in_nI (by omega) (by omega)) dX9_fault_22 ?_
        refine hx_top (y := (fsg (960 + k))) (congrArg _ (nI_clamp (by omega))) ?_
        refine lv_istore_n (lv' := [(2, .int (fsg (960 + k))), (1, .int (nI k)), (0, .ref h0)]) hx hb dX9_fault_23 rfl hl (by decide) rfl (fun ls hl => ?_)
        refine lv_iload_n hx hb dX9_fault_24 rfl (lv_at hl 0 rfl) ?_
        refine lv_i2l hx hb dX9_fault_25 rfl ?_
        refine lv_ldc2 (v := Int32.toInt64 48) hx hb hown (show (Cond.constantLong RX9 124 (Int32.toInt64 48)).before _ s = true from (hts _ mw_4_107)) dX9_fault_26 ?_
        refine lv_ldc2 (v := Int32.toInt64 57) hx hb hown (show (Cond.constantLong RX9 126 (Int32.toInt64 57)).before _ s = true from (hts _ mw_4_108)) dX9_fault_29 ?_
        have hPc := hP.sub (ws' := []) [] rfl
        have hDc := hD.sub (ws' := []) [] (by decide) rfl
        have hKc := hK.sub (tys' := []) [] rfl
        refine va_calli (va_runS (As := [.long (Int32.toInt64 (fsg (960 + k))), .long (Int32.toInt64 48), .long (Int32.toInt64 57)]) (rest := []) ⟨hx, hb, hml, hown, hts⟩ (m_in l dC dI H.size (fsg (960 + k)) 48 57 48 57 (by decide) (by decide)) (va_cwS 3 hts (gS mw_4_57 mw_4_58 mw_1_9 mw_4_59) rfl rfl rfl (by decide +kernel) ⟨Nat.le_of_ble_eq_true rfl, Nat.le_of_ble_eq_true rfl⟩) ⟨pcW_blind, pcW_at hPc hKc hDc hN⟩ rfl rfl hl.1 rfl (lv_room (Nat.le_of_ble_eq_true rfl)) dX9_fault_32 ⟨Nat.le_of_ble_eq_true rfl, Nat.le_of_ble_eq_true rfl⟩) hS (fun q h1 h2 => absurd h2 (Nat.not_le.mpr h1)) (fun q h => hA q (Nat.le_trans hS.1 h)) (fun r_6 u t H1 locs ht hvm hw_6 hB hz1 hk1 hS => ?_)
        have hP := keepP hP hk1
        clear hz1 hk1 hB ht hvm hPc hDc hKc
        generalize H1 = H at hP hS ⊢
        rcases fx_bool hw_6 with ⟨rfl, b_7⟩ | ⟨rfl, b_7⟩
        · skip
          refine lv_if_ne (tgt := 60) hx hb dX9_fault_35 (by decide) (fun _ => ?_) (fun h => absurd h (by decide))
          refine lv_iinc (v := (nI (k + 1))) (lv' := [(1, .int (nI (k + 1))), (2, .int (fsg (960 + k))), (0, .ref h0)]) hx hb dX9_fault_60 hl (k := 1) rfl (nI_add k 1) (by decide) rfl (fun ls hl => ?_)
          refine lv_goto (tgt := 2) hx hb dX9_fault_63 (by decide) ?_
          exact ih_2 (k + 1) (by omega) ((fnd_miss (nb_f (can_t (x := fsg (960 + k)) (by omega))) (by rw [en_3, nI_clamp (by omega)]; omega)).symm.trans hf) (by omega) _ _ hP hS ls (lv_sub hl [0, 2] rfl)
        · skip
          refine lv_if_ne (tgt := 60) hx hb dX9_fault_35 (by decide) (fun h => absurd h (by decide)) (fun _ => ?_)
          refine lv_iload_n hx hb dX9_fault_38 rfl (lv_at hl 0 rfl) ?_
          refine lv_i2l hx hb dX9_fault_39 rfl ?_
          refine lv_ldc2 (v := Int32.toInt64 97) hx hb hown (show (Cond.constantLong RX9 128 (Int32.toInt64 97)).before _ s = true from (hts _ mw_4_109)) dX9_fault_40 ?_
          refine lv_ldc2 (v := Int32.toInt64 104) hx hb hown (show (Cond.constantLong RX9 130 (Int32.toInt64 104)).before _ s = true from (hts _ mw_4_110)) dX9_fault_43 ?_
          have hPc := hP.sub (ws' := []) [] rfl
          have hDc := hD.sub (ws' := []) [] (by decide) rfl
          have hKc := hK.sub (tys' := []) [] rfl
          refine va_calli (va_runS (As := [.long (Int32.toInt64 (fsg (960 + k))), .long (Int32.toInt64 97), .long (Int32.toInt64 104)]) (rest := []) ⟨hx, hb, hml, hown, hts⟩ (m_in l dC dI H.size (fsg (960 + k)) 97 104 97 104 (by decide) (by decide)) (va_cwS 3 hts (gS mw_4_57 mw_4_58 mw_1_9 mw_4_59) rfl rfl rfl (by decide +kernel) ⟨Nat.le_of_ble_eq_true rfl, Nat.le_of_ble_eq_true rfl⟩) ⟨pcW_blind, pcW_at hPc hKc hDc hN⟩ rfl rfl hl.1 rfl (lv_room (Nat.le_of_ble_eq_true rfl)) dX9_fault_46 ⟨Nat.le_of_ble_eq_true rfl, Nat.le_of_ble_eq_true rfl⟩) hS (fun q h1 h2 => absurd h2 (Nat.not_le.mpr h1)) (fun q h => hA q (Nat.le_trans hS.1 h)) (fun r_8 u t H1 locs ht hvm hw_8 hB hz1 hk1 hS => ?_)
          have hP := keepP hP hk1
          clear hz1 hk1 hB ht hvm hPc hDc hKc
          generalize H1 = H at hP hS ⊢
          rcases fx_bool hw_8 with ⟨rfl, b_9⟩ | ⟨rfl, b_9⟩
          · skip
            refine lv_if_ne (tgt := 60) hx hb dX9_fault_49 (by decide) (fun _ => ?_) (fun h => absurd h (by decide))
            refine lv_iinc (v := (nI (k + 1))) (lv' := [(1, .int (nI (k + 1))), (2, .int (fsg (960 + k))), (0, .ref h0)]) hx hb dX9_fault_60 hl (k := 1) rfl (nI_add k 1) (by decide) rfl (fun ls hl => ?_)
            refine lv_goto (tgt := 2) hx hb dX9_fault_63 (by decide) ?_
            exact ih_2 (k + 1) (by omega) ((fnd_miss (nb_f (can_t (x := fsg (960 + k)) (by omega))) (by rw [en_3, nI_clamp (by omega)]; omega)).symm.trans hf) (by omega) _ _ hP hS ls (lv_sub hl [0, 2] rfl)
          · skip
            refine lv_if_ne (tgt := 60) hx hb dX9_fault_49 (by decide) (fun h => absurd h (by decide)) (fun _ => ?_)
            refine lv_iload_n hx hb dX9_fault_52 rfl (lv_at hl 0 rfl) ?_
            refine lv_bipush (v := 94) hx hb dX9_fault_53 (by decide) ?_
            refine lv_icmp_eq (tgt := 60) hx hb dX9_fault_55 (by decide) (fun c_10 => ?_) (fun c_10 => ?_)
            · have b_11 := gx_eq (X := (Int32.toInt (fsg (960 + k)))) (C := 94) rfl (by decide) c_10
              refine lv_iinc (v := (nI (k + 1))) (lv' := [(1, .int (nI (k + 1))), (2, .int (fsg (960 + k))), (0, .ref h0)]) hx hb dX9_fault_60 hl (k := 1) rfl (nI_add k 1) (by decide) rfl (fun ls hl => ?_)
              refine lv_goto (tgt := 2) hx hb dX9_fault_63 (by decide) ?_
              exact ih_2 (k + 1) (by omega) ((fnd_miss (nb_f (can_t (x := fsg (960 + k)) (by omega))) (by rw [en_3, nI_clamp (by omega)]; omega)).symm.trans hf) (by omega) _ _ hP hS ls (lv_sub hl [0, 2] rfl)
            · have b_11 := gn_eq (X := (Int32.toInt (fsg (960 + k)))) (C := 94) rfl (by decide) c_10
              refine lv_iload_n hx hb dX9_fault_58 rfl (lv_at hl 1 rfl) ?_
              exact W.iret (v := (nI k)) hx hb hr (fun t ht hW => ⟨⟨(nI k), (), rfl, (by rw [← hf]; exact (fnd_hit (nb_t (by rw [can_f (x := fsg (960 + k)) (by omega)]; decide)) (by rw [en_3, nI_clamp (by omega)]; omega)).symm), trivial⟩, hS.F ht⟩) hS.2.2 dX9_fault_59
  exact key_1 ((12 - 0) + 1) 0 (by omega) rfl (Nat.lt_succ_self _) _ _ hP hS ls (lv_sub hl [0, 1] rfl)
set_option maxHeartbeats 4000000 in
set_option maxRecDepth 100000 in
theorem m_has (l : Launch) (dC : Nat → ClassId) (dI : Nat → Nat → Nat) (sz : Nat) (h0 : Nat) (w0 : Value) (w1 : Value) (w2 : Value) (w3 : Value) (kn : Nat) (w5 : Value) (w6 : Value) (w7 : Value) (w8 : Value) (w9 : Value) (w10 : Value) (w11 : Value) (v1 : Nat) (v2 : Nat) (nm0 : Nat) (w15 : Value) (w16 : Value) (w17 : Value) (w18 : Value) (w19 : Value) (w20 : Value) (w21 : Value) (w22 : Value) (w23 : Value) (w24 : Value) (w25 : Value) (w26 : Value) (w27 : Value) (w28 : Value) (w29 : Value) (w30 : Value) (w31 : Value) (w32 : Value) (w33 : Value) (w34 : Value) (kv2 : ClassId) (fsm : Nat → Int32) (kv1 : ClassId) (fsg : Nat → Int32) (knm0 : ClassId) (fnm : Nat → Int32) (n1 : Int32) (n2 : Int32) (hkn : kn ≤ 10) (hsm : BdOk 81 12 fsm) (hcv : CvOk fsm fsg) : Met l yX9_has (wq yX9_has cX9_has 5 (some .int)) ({ frames := 2, cells := 0, slots := 0, locals := 47 }) (va_Pc [.ref h0, .int n1, .int n2] (pcW dC dI [(kv2, .int), (kv1, .int), (knm0, .int)] [(h0, .inr (8, [w0, w1, w2, w3, .int (nI kn), w5, w6, w7, w8, w9, w10, w11, .ref v1, .ref v2, .ref nm0, w15, w16, w17, w18, w19, w20, w21, w22, w23, w24, w25, w26, w27, w28, w29, w30, w31, w32, w33, w34])), (v2, .inl (kv2, 81, .inl fsm)), (v1, .inl (kv1, 972, .inl fsg)), (nm0, .inl (knm0, 10, .inl fnm))] sz)) (va_Qi (fun (r : Int32) (_ : Unit) => r = (F_has kn (fltF (fun i => fsg (960 + i)) (fsm 80).toNatClampNeg) (bt (fnm n1.toNatClampNeg) n2.toNatClampNeg) n1 n2)) (fun _ t => ∃ (fsm2 : Nat → Int32) (fsg2 : Nat → Int32) (fnm2 : Nat → Int32), (BdOk 81 12 fsm2) ∧ (CvOk fsm2 fsg2) ∧ (¬ HasG kn (fltF (fun i => fsg (960 + i)) (fsm 80).toNatClampNeg) n1 n2 → fsm2 = fsm ∧ fsg2 = fsg ∧ fnm2 = fnm) ∧ (HasG kn (fltF (fun i => fsg (960 + i)) (fsm 80).toNatClampNeg) n1 n2 → fsm2 = upd (upd fsm (8 * n1.toNatClampNeg + n2.toNatClampNeg) (fsm 80)) 80 0) ∧ (HasG kn (fltF (fun i => fsg (960 + i)) (fsm 80).toNatClampNeg) n1 n2 → HcA fsg fsg2 (8 * n1.toNatClampNeg + n2.toNatClampNeg) (fsm 80).toNatClampNeg) ∧ (HasG kn (fltF (fun i => fsg (960 + i)) (fsm 80).toNatClampNeg) n1 n2 → fnm2 = upd fnm n1.toNatClampNeg (fnm n1.toNatClampNeg ||| ((1 : Int32) <<< (n2 &&& 31)))) ∧ va_P (dC, dI) vwCl [(h0, .inr (8, [w0, w1, w2, w3, .int (nI kn), w5, w6, w7, w8, w9, w10, w11, .ref v1, .ref v2, .ref nm0, w15, w16, w17, w18, w19, w20, w21, w22, w23, w24, w25, w26, w27, w28, w29, w30, w31, w32, w33, w34])), (v2, .inl (kv2, 81, .inl fsm2)), (v1, .inl (kv1, 972, .inl fsg2)), (nm0, .inl (knm0, 10, .inl fnm2))] t.heap ∧ va_K (dC, dI) vwCl [(kv2, .int), (kv1, .int), (knm0, .int)] t ∧ va_D (va_A [(h0, .inr (8, [w0, w1, w2, w3, .int (nI kn), w5, w6, w7, w8, w9, w10, w11, .ref v1, .ref v2, .ref nm0, w15, w16, w17, w18, w19, w20, w21, w22, w23, w24, w25, w26, w27, w28, w29, w30, w31, w32, w33, w34])), (v2, .inl (kv2, 81, .inl fsm)), (v1, .inl (kv1, 972, .inl fsg)), (nm0, .inl (knm0, 10, .inl fnm))] sz) [(h0, .inr (8, [w0, w1, w2, w3, .int (nI kn), w5, w6, w7, w8, w9, w10, w11, .ref v1, .ref v2, .ref nm0, w15, w16, w17, w18, w19, w20, w21, w22, w23, w24, w25, w26, w27, w28, w29, w30, w31, w32, w33, w34])), (v2, .inl (kv2, 81, .inl fsm2)), (v1, .inl (kv1, 972, .inl fsg2)), (nm0, .inl (knm0, 10, .inl fnm2))]) (va_A [(h0, .inr (8, [w0, w1, w2, w3, .int (nI kn), w5, w6, w7, w8, w9, w10, w11, .ref v1, .ref v2, .ref nm0, w15, w16, w17, w18, w19, w20, w21, w22, w23, w24, w25, w26, w27, w28, w29, w30, w31, w32, w33, w34])), (v2, .inl (kv2, 81, .inl fsm)), (v1, .inl (kv1, 972, .inl fsg)), (nm0, .inl (knm0, 10, .inl fnm))] sz)) 0 0 (va_A [(h0, .inr (8, [w0, w1, w2, w3, .int (nI kn), w5, w6, w7, w8, w9, w10, w11, .ref v1, .ref v2, .ref nm0, w15, w16, w17, w18, w19, w20, w21, w22, w23, w24, w25, w26, w27, w28, w29, w30, w31, w32, w33, w34])), (v2, .inl (kv2, 81, .inl fsm)), (v1, .inl (kv1, 972, .inl fsg)), (nm0, .inl (knm0, 10, .inl fnm))] sz) := by
  refine Met.ofW (cc := cX9_has) (maxL := 5) (ret := (some .int)) (by decide) rfl ?_
  intro p e s m args below meth c s₁ B hml hv
  obtain ⟨rfl, hsz, hN, hP, hK, hD0⟩ := hv
  have hx := B.exec
  have hb := B.bytes
  have hr := B.returns
  have hts0 := atoms_spec (ws := (wq yX9_has cX9_has 5 (some .int))) B.pre
  have hts : ∀ w ∈ BG, w.before _ s = true := fun w h => hts0 w (List.mem_cons_of_mem _ h)
  have hown : s.vm.findClass RX9 = some m.cls := findClass_of_methodNamed B.named
  have hlocks := B.notSynchronized
  subst hsz
  have hD := hD0.self (sz := s.heap.size)
  generalize hAe : va_A [(h0, .inr (8, [w0, w1, w2, w3, .int (nI kn), w5, w6, w7, w8, w9, w10, w11, .ref v1, .ref v2, .ref nm0, w15, w16, w17, w18, w19, w20, w21, w22, w23, w24, w25, w26, w27, w28, w29, w30, w31, w32, w33, w34])), (v2, .inl (kv2, 81, .inl fsm)), (v1, .inl (kv1, 972, .inl fsg)), (nm0, .inl (knm0, 10, .inl fnm))] s.heap.size = A at hD ⊢
  have hA : ∀ q : Nat, s.heap.size ≤ q → A q := fun q h => by rw [← hAe]; exact Or.inr h
  have hS : va_S A s.heap s.heap [] := va_S.rf
  clear hAe hD0
  have hP : va_P (dC, dI) vwCl [(h0, .inr (8, [w0, w1, w2, w3, .int (nI kn), w5, w6, w7, w8, w9, w10, w11, .ref v1, .ref v2, .ref nm0, w15, w16, w17, w18, w19, w20, w21, w22, w23, w24, w25, w26, w27, w28, w29, w30, w31, w32, w33, w34])), (v2, .inl (kv2, 81, .inl fsm)), (v1, .inl (kv1, 972, .inl fsg)), (nm0, .inl (knm0, 10, .inl fnm))] s.heap := hP
  have hl := lv_entry ([.ref h0, .int n1, .int n2]) (n := 5) (Nat.le_of_ble_eq_true rfl)
  rw [lg_entry_eq]
  generalize (lg_sl ([.ref h0, .int n1, .int n2]) ++ List.replicate (5 - (lg_sl ([.ref h0, .int n1, .int n2])).length) Slot.unset).toArray = ls at hl ⊢
  have hl : lv_has ls 5 [(0, .ref h0), (1, .int n1), (2, .int n2)] := hl
  refine lv_aload_n hx hb dX9_has_0 rfl (lv_at hl 0 rfl) ?_
  refine lv_iload_n hx hb dX9_has_1 rfl (lv_at hl 1 rfl) ?_
  have hPc := hP.sub (ws' := [(h0, .inr (8, [w0, w1, w2, w3, .int (nI kn), w5, w6, w7, w8, w9, w10, w11, .ref v1, .ref v2, .ref nm0, w15, w16, w17, w18, w19, w20, w21, w22, w23, w24, w25, w26, w27, w28, w29, w30, w31, w32, w33, w34]))]) [0] rfl
  have hDc := hD.sub (ws' := [(h0, .inr (8, [w0, w1, w2, w3, .int (nI kn), w5, w6, w7, w8, w9, w10, w11, .ref v1, .ref v2, .ref nm0, w15, w16, w17, w18, w19, w20, w21, w22, w23, w24, w25, w26, w27, w28, w29, w30, w31, w32, w33, w34]))]) [0] (by decide) rfl
  have hKc := hK.sub (tys' := []) [] rfl
  refine va_calli (va_runV (As := [.int n1]) (rest := []) ⟨hx, hb, hml, hown, hts⟩ (m_isKind l dC dI s.heap.size h0 (w0) (w1) (w2) (w3) kn (w5) (w6) (w7) (w8) (w9) (w10) (w11) (.ref v1) (.ref v2) (.ref nm0) (w15) (w16) (w17) (w18) (w19) (w20) (w21) (w22) (w23) (w24) (w25) (w26) (w27) (w28) (w29) (w30) (w31) (w32) (w33) (w34) n1 hkn) (cwV 1 hts (gV mw_4_53 mw_4_55 mw_0_15 mw_1_9 mw_4_56) rfl rfl rfl (by decide +kernel) ⟨Nat.le_of_ble_eq_true rfl, Nat.le_of_ble_eq_true rfl⟩) ⟨pcW_blind, va_recv hKc hPc (ci := 8) (q0 := 0) rfl rfl, pcW_at hPc hKc hDc hN⟩ rfl rfl hl.1 rfl (lv_room (Nat.le_of_ble_eq_true rfl)) dX9_has_2 ⟨Nat.le_of_ble_eq_true rfl, Nat.le_of_ble_eq_true rfl⟩) hS (fun q h1 h2 => absurd h2 (Nat.not_le.mpr h1)) (fun q h => hA q (Nat.le_trans hS.1 h)) (fun r_1 u t H1 locs ht hvm hw_1 hB hz1 hk1 hS => ?_)
  have hP := keepP hP hk1
  clear hz1 hk1 hB ht hvm hPc hDc hKc
  generalize H1 = H at hP hS ⊢
  rcases fx_bool hw_1 with ⟨rfl, b_2⟩ | ⟨rfl, b_2⟩
  · skip
    refine lv_if_eq (tgt := 15) hx hb dX9_has_5 (by decide) (fun h => absurd h (by decide)) (fun _ => ?_)
    refine lv_iload_n hx hb dX9_has_8 rfl (lv_at hl 2 rfl) ?_
    have hPc := hP.sub (ws' := []) [] rfl
    have hDc := hD.sub (ws' := []) [] (by decide) rfl
    have hKc := hK.sub (tys' := []) [] rfl
    refine va_calli (va_runS (As := [.int n2]) (rest := []) ⟨hx, hb, hml, hown, hts⟩ (m_isName l dC dI H.size n2 ) (va_cwS 1 hts (gS mw_4_115 mw_4_116 mw_1_9 mw_4_117) rfl rfl rfl (by decide +kernel) ⟨Nat.le_of_ble_eq_true rfl, Nat.le_of_ble_eq_true rfl⟩) ⟨pcW_blind, pcW_at hPc hKc hDc hN⟩ rfl rfl hl.1 rfl (lv_room (Nat.le_of_ble_eq_true rfl)) dX9_has_9 ⟨Nat.le_of_ble_eq_true rfl, Nat.le_of_ble_eq_true rfl⟩) hS (fun q h1 h2 => absurd h2 (Nat.not_le.mpr h1)) (fun q h => hA q (Nat.le_trans hS.1 h)) (fun r_3 u t H1 locs ht hvm hw_3 hB hz1 hk1 hS => ?_)
    have hP := keepP hP hk1
    clear hz1 hk1 hB ht hvm hPc hDc hKc
    generalize H1 = H at hP hS ⊢
    rcases fx_bool hw_3 with ⟨rfl, b_4⟩ | ⟨rfl, b_4⟩
    · skip
      refine lv_if_ne (tgt := 17) hx hb dX9_has_12 (by decide) (fun _ => ?_) (fun h => absurd h (by decide))
      refine lv_aload_n hx hb dX9_has_17 rfl (lv_at hl 0 rfl) ?_
      have hPc := hP.sub (ws' := [(h0, .inr (8, [w0, w1, w2, w3, .int (nI kn), w5, w6, w7, w8, w9, w10, w11, .ref v1, .ref v2, .ref nm0, w15, w16, w17, w18, w19, w20, w21, w22, w23, w24, w25, w26, w27, w28, w29, w30, w31, w32, w33, w34])), (v2, .inl (kv2, 81, .inl fsm)), (v1, .inl (kv1, 972, .inl fsg))]) [0, 1, 2] rfl
      have hDc := hD.sub (ws' := [(h0, .inr (8, [w0, w1, w2, w3, .int (nI kn), w5, w6, w7, w8, w9, w10, w11, .ref v1, .ref v2, .ref nm0, w15, w16, w17, w18, w19, w20, w21, w22, w23, w24, w25, w26, w27, w28, w29, w30, w31, w32, w33, w34])), (v2, .inl (kv2, 81, .inl fsm)), (v1, .inl (kv1, 972, .inl fsg))]) [0, 1, 2] (by decide) rfl
      have hKc := hK.sub (tys' := [(kv2, .int), (kv1, .int)]) [0, 1] rfl
      refine va_calli (va_runV (As := []) (rest := []) ⟨hx, hb, hml, hown, hts⟩ (m_fault l dC dI H.size h0 (w0) (w1) (w2) (w3) (.int (nI kn)) (w5) (w6) (w7) (w8) (w9) (w10) (w11) v1 v2 (.ref nm0) (w15) (w16) (w17) (w18) (w19) (w20) (w21) (w22) (w23) (w24) (w25) (w26) (w27) (w28) (w29) (w30) (w31) (w32) (w33) (w34) kv2 fsm kv1 fsg hsm) (cwV 0 hts (gV mw_4_119 mw_4_104 mw_4_105 mw_1_9 mw_4_106) rfl rfl rfl (by decide +kernel) ⟨Nat.le_of_ble_eq_true rfl, Nat.le_of_ble_eq_true rfl⟩) ⟨pcW_blind, va_recv hKc hPc (ci := 8) (q0 := 0) rfl rfl, pcW_at hPc hKc hDc hN⟩ rfl rfl hl.1 rfl (lv_room (Nat.le_of_ble_eq_true rfl)) dX9_has_18 ⟨Nat.le_of_ble_eq_true rfl, Nat.le_of_ble_eq_true rfl⟩) hS (fun q h1 h2 => absurd h2 (Nat.not_le.mpr h1)) (fun q h => hA q (Nat.le_trans hS.1 h)) (fun r_5 u t H1 locs ht hvm hw_5 hB hz1 hk1 hS => ?_)
      have hP := keepP hP hk1
      clear hz1 hk1 hB ht hvm hPc hDc hKc
      generalize H1 = H at hP hS ⊢
      obtain rfl : r_5 = (fltF (fun i => fsg (960 + i)) (fsm 80).toNatClampNeg) := hw_5
      refine lv_if_lt (tgt := 27) hx hb dX9_has_21 (by decide) (fun c_6 => ?_) (fun c_6 => ?_)
      · have b_7 := gx_lt (X := (Int32.toInt (fltF (fun i => fsg (960 + i)) (fsm 80).toNatClampNeg))) (C := 0) rfl (by decide) c_6
        obtain ⟨hf6, hf7⟩ := flt_neg (f := (fun i => fsg (960 + i))) (m := (fsm 80).toNatClampNeg) (bd_cle hsm (by decide) (by decide)) b_7
        obtain ⟨j_8, tj_8, ej_8⟩ := fx_nat (x := n1) (by omega)
        subst ej_8
        have yj_8 : Int32.toInt (nI j_8) = (j_8 : Int) := nI_toInt tj_8
        obtain ⟨j_9, tj_9, ej_9⟩ := fx_nat (x := n2) (by omega)
        subst ej_9
        have yj_9 : Int32.toInt (nI j_9) = (j_9 : Int) := nI_toInt tj_9
        refine lv_iload_n hx hb dX9_has_27 rfl (lv_at hl 1 rfl) ?_
        refine lv_iload_n hx hb dX9_has_28 rfl (lv_at hl 2 rfl) ?_
        have hPc := hP.sub (ws' := []) [] rfl
        have hDc := hD.sub (ws' := []) [] (by decide) rfl
        have hKc := hK.sub (tys' := []) [] rfl
        refine va_calli (va_runS (As := [.int (nI j_8), .int (nI j_9)]) (rest := []) ⟨hx, hb, hml, hown, hts⟩ (m_bodyOf l dC dI H.size j_8 j_9 ) (va_cwS 2 hts (gS mw_4_120 mw_4_121 mw_1_9 mw_4_122) rfl rfl rfl (by decide +kernel) ⟨Nat.le_of_ble_eq_true rfl, Nat.le_of_ble_eq_true rfl⟩) ⟨pcW_blind, pcW_at hPc hKc hDc hN⟩ rfl rfl hl.1 rfl (lv_room (Nat.le_of_ble_eq_true rfl)) dX9_has_29 ⟨Nat.le_of_ble_eq_true rfl, Nat.le_of_ble_eq_true rfl⟩) hS (fun q h1 h2 => absurd h2 (Nat.not_le.mpr h1)) (fun q h => hA q (Nat.le_trans hS.1 h)) (fun r_10 u t H1 locs ht hvm hw_10 hB hz1 hk1 hS => ?_)
        have hP := keepP hP hk1
        clear hz1 hk1 hB ht hvm hPc hDc hKc
        generalize H1 = H at hP hS ⊢
        obtain rfl : r_10 = nI (8 * j_8 + j_9) := hw_10
        refine lv_istore_n (lv' := [(3, .int (nI (8 * j_8 + j_9))), (0, .ref h0), (1, .int (nI j_8)), (2, .int (nI j_9))]) hx hb dX9_has_32 rfl hl (by decide) rfl (fun ls hl => ?_)
        refine lv_iconst (v := 0) hx hb dX9_has_33 (by decide) ?_
        refine lv_istore (lv' := [(4, .int 0), (3, .int (nI (8 * j_8 + j_9))), (0, .ref h0), (1, .int (nI j_8)), (2, .int (nI j_9))]) hx hb dX9_has_34 hl (by decide) rfl (fun ls hl => ?_)
        have key_11 : ∀ (fu : Nat) (k : Nat) (fgx : Nat → Int32), (k ≤ 12) → (HcA fsg fgx (8 * j_8 + j_9) k) → 12 - k < fu → ∀ (H : Heap) (locs : List Loc), va_P (dC, dI) vwCl [(h0, .inr (8, [w0, w1, w2, w3, .int (nI kn), w5, w6, w7, w8, w9, w10, w11, .ref v1, .ref v2, .ref nm0, w15, w16, w17, w18, w19, w20, w21, w22, w23, w24, w25, w26, w27, w28, w29, w30, w31, w32, w33, w34])), (v2, .inl (kv2, 81, .inl fsm)), (v1, .inl (kv1, 972, .inl fgx)), (nm0, .inl (knm0, 10, .inl fnm))] H → va_D A [(h0, .inr (8, [w0, w1, w2, w3, .int (nI kn), w5, w6, w7, w8, w9, w10, w11, .ref v1, .ref v2, .ref nm0, w15, w16, w17, w18, w19, w20, w21, w22, w23, w24, w25, w26, w27, w28, w29, w30, w31, w32, w33, w34])), (v2, .inl (kv2, 81, .inl fsm)), (v1, .inl (kv1, 972, .inl fgx)), (nm0, .inl (knm0, 10, .inl fnm))] → va_S A s.heap H locs → ∀ (ls : Array Slot), lv_has ls 5 [(4, .int (nI k)), (3, .int (nI (8 * j_8 + j_9))), (0, .ref h0), (1, .int (nI j_8)), (2, .int (nI j_9))] → W p l e (headSpec (wq yX9_has cX9_has 5 (some .int)) ({ frames := 2, cells := 0, slots := 0, locals := 47 })).room s m (([.ref h0, .int (nI j_8), .int (nI j_9)] : List Value)).toArray below meth c H locs 0 0 (MQ below (va_Qi (fun (r : Int32) (_ : Unit) => r = (F_has kn (fltF (fun i => fsg (960 + i)) (fsm 80).toNatClampNeg) (bt (fnm (nI j_8).toNatClampNeg) (nI j_9).toNatClampNeg) (nI j_8) (nI j_9))) (fun _ t => ∃ (fsm2 : Nat → Int32) (fsg2 : Nat → Int32) (fnm2 : Nat → Int32), (BdOk 81 12 fsm2) ∧ (CvOk fsm2 fsg2) ∧ (¬ HasG kn (fltF (fun i => fsg (960 + i)) (fsm 80).toNatClampNeg) (nI j_8) (nI j_9) → fsm2 = fsm ∧ fsg2 = fsg ∧ fnm2 = fnm) ∧ (HasG kn (fltF (fun i => fsg (960 + i)) (fsm 80).toNatClampNeg) (nI j_8) (nI j_9) → fsm2 = upd (upd fsm (8 * (nI j_8).toNatClampNeg + (nI j_9).toNatClampNeg) (fsm 80)) 80 0) ∧ (HasG kn (fltF (fun i => fsg (960 + i)) (fsm 80).toNatClampNeg) (nI j_8) (nI j_9) → HcA fsg fsg2 (8 * (nI j_8).toNatClampNeg + (nI j_9).toNatClampNeg) (fsm 80).toNatClampNeg) ∧ (HasG kn (fltF (fun i => fsg (960 + i)) (fsm 80).toNatClampNeg) (nI j_8) (nI j_9) → fnm2 = upd fnm (nI j_8).toNatClampNeg (fnm (nI j_8).toNatClampNeg ||| ((1 : Int32) <<< ((nI j_9) &&& 31)))) ∧ va_P (dC, dI) vwCl [(h0, .inr (8, [w0, w1, w2, w3, .int (nI kn), w5, w6, w7, w8, w9, w10, w11, .ref v1, .ref v2, .ref nm0, w15, w16, w17, w18, w19, w20, w21, w22, w23, w24, w25, w26, w27, w28, w29, w30, w31, w32, w33, w34])), (v2, .inl (kv2, 81, .inl fsm2)), (v1, .inl (kv1, 972, .inl fsg2)), (nm0, .inl (knm0, 10, .inl fnm2))] t.heap ∧ va_K (dC, dI) vwCl [(kv2, .int), (kv1, .int), (knm0, .int)] t ∧ va_D A [(h0, .inr (8, [w0, w1, w2, w3, .int (nI kn), w5, w6, w7, w8, w9, w10, w11, .ref v1, .ref v2, .ref nm0, w15, w16, w17, w18, w19, w20, w21, w22, w23, w24, w25, w26, w27, w28, w29, w30, w31, w32, w33, w34])), (v2, .inl (kv2, 81, .inl fsm2)), (v1, .inl (kv1, 972, .inl fsg2)), (nm0, .inl (knm0, 10, .inl fnm2))]) A) (([.ref h0, .int (nI j_8), .int (nI j_9)] : List Value)).toArray s 0 0 A) (F0 m 36 ls []) := by
          intro fu
          induction fu with
          | zero => intro k fgx hk hhc hme; exact absurd hme (Nat.not_lt_zero _)
          | succ fu ih_12 =>
            intro k fgx hk hhc hme H locs hP hD hS ls hl
            refine lv_iload hx hb dX9_has_36 (lv_at hl 0 rfl) ?_
            refine lv_aload_n hx hb dX9_has_38 rfl (lv_at hl 2 rfl) ?_
            refine va_get (D := (dC, dI)) (ci := 8) (v := .ref v2) (C := RX9) (T := TX9) (N := 35) hx hb hts inB_9 hown hK hP 0 rfl rfl 13 (by decide) (hts _ mw_3_195) (fun _ h9 => h9) rfl dX9_has_39 ?_
            refine lv_bipush (v := 80) hx hb dX9_has_42 (by decide) ?_
            refine va_iald hx hb hK hP 1 0 rfl rfl (show vp_in 80 81 by unfold vp_in; decide) dX9_has_44 ?_
            refine hx_top (y := (fsm 80)) rfl ?_
            obtain ⟨n_13, hn_13, en_13⟩ := hsm 80 (by omega)
            refine hx_top (y := (nI n_13)) en_13 ?_
            refine lv_icmp_ge (tgt := 77) hx hb dX9_has_45 (by decide) (fun c_14 => ?_) (fun c_14 => ?_)
            · have b_15 := gx_ge (X := ((k : Nat) : Int)) (C := ((n_13 : Nat) : Int)) (nI_toInt (by omega)) (nI_toInt (by omega)) c_14
              refine lv_aload_n hx hb dX9_has_77 rfl (lv_at hl 2 rfl) ?_
              refine va_get (D := (dC, dI)) (ci := 8) (v := .ref v2) (C := RX9) (T := TX9) (N := 35) hx hb hts inB_9 hown hK hP 0 rfl rfl 13 (by decide) (hts _ mw_3_195) (fun _ h9 => h9) rfl dX9_has_78 ?_
              refine lv_iload_n hx hb dX9_has_81 rfl (lv_at hl 1 rfl) ?_
              refine lv_aload_n hx hb dX9_has_82 rfl (lv_at hl 2 rfl) ?_
              refine va_get (D := (dC, dI)) (ci := 8) (v := .ref v2) (C := RX9) (T := TX9) (N := 35) hx hb hts inB_9 hown hK hP 0 rfl rfl 13 (by decide) (hts _ mw_3_195) (fun _ h9 => h9) rfl dX9_has_83 ?_
              refine lv_bipush (v := 80) hx hb dX9_has_86 (by decide) ?_
              refine va_iald hx hb hK hP 1 0 rfl rfl (show vp_in 80 81 by unfold vp_in; decide) dX9_has_88 ?_
              refine hx_top (y := (fsm 80)) rfl ?_
              refine hx_top (y := (nI n_13)) en_13 ?_
              refine va_iast hx hb hK hP hD hS 1 0 rfl rfl (show vp_in (nI (8 * j_8 + j_9)) 81 from vp_in_nI (by omega) (by omega)) dX9_has_89 (fun H locs hP hD hS => ?_)
              obtain ⟨f_16, ef_16⟩ : ∃ g : Nat → Int32, g = upd fsm (Int32.toNatClampNeg (nI (8 * j_8 + j_9))) (nI n_13) := ⟨_, rfl⟩
              rw [← ef_16] at hP hD
              have ef_16 : f_16 = upd fsm (8 * j_8 + j_9) (nI n_13) := by rw [ef_16, nI_clamp (by omega)]
              have pf_16 : BdOk 81 12 f_16 := by rw [ef_16]; exact bd_upd (z := n_13) hsm (by omega)
              have hP : va_P (dC, dI) vwCl [(h0, .inr (8, [w0, w1, w2, w3, .int (nI kn), w5, w6, w7, w8, w9, w10, w11, .ref v1, .ref v2, .ref nm0, w15, w16, w17, w18, w19, w20, w21, w22, w23, w24, w25, w26, w27, w28, w29, w30, w31, w32, w33, w34])), (v2, .inl (kv2, 81, .inl f_16)), (v1, .inl (kv1, 972, .inl fgx)), (nm0, .inl (knm0, 10, .inl fnm))] H := hP
              have hD : va_D A [(h0, .inr (8, [w0, w1, w2, w3, .int (nI kn), w5, w6, w7, w8, w9, w10, w11, .ref v1, .ref v2, .ref nm0, w15, w16, w17, w18, w19, w20, w21, w22, w23, w24, w25, w26, w27, w28, w29, w30, w31, w32, w33, w34])), (v2, .inl (kv2, 81, .inl f_16)), (v1, .inl (kv1, 972, .inl fgx)), (nm0, .inl (knm0, 10, .inl fnm))] := hD
              refine lv_aload_n hx hb dX9_has_90 rfl (lv_at hl 2 rfl) ?_
              refine va_get (D := (dC, dI)) (ci := 8) (v := .ref v2) (C := RX9) (T := TX9) (N := 35) hx hb hts inB_9 hown hK hP 0 rfl rfl 13 (by decide) (hts _ mw_3_195) (fun _ h9 => h9) rfl dX9_has_91 ?_
              refine lv_bipush (v := 80) hx hb dX9_has_94 (by decide) ?_
              refine lv_iconst (v := 0) hx hb dX9_has_96 (by decide) ?_
              refine va_iast hx hb hK hP hD hS 1 0 rfl rfl (show vp_in 80 81 by unfold vp_in; decide) dX9_has_97 (fun H locs hP hD hS => ?_)
              obtain ⟨f_17, ef_17⟩ : ∃ g : Nat → Int32, g = upd f_16 (Int32.toNatClampNeg 80) 0 := ⟨_, rfl⟩
              rw [← ef_17] at hP hD
              have ef_17 : f_17 = upd f_16 80 0 := ef_17
              have pf_17 : BdOk 81 12 f_17 := by rw [ef_17]; exact bd_upd (z := 0) pf_16 (by omega)
              have hP : va_P (dC, dI) vwCl [(h0, .inr (8, [w0, w1, w2, w3, .int (nI kn), w5, w6, w7, w8, w9, w10, w11, .ref v1, .ref v2, .ref nm0, w15, w16, w17, w18, w19, w20, w21, w22, w23, w24, w25, w26, w27, w28, w29, w30, w31, w32, w33, w34])), (v2, .inl (kv2, 81, .inl f_17)), (v1, .inl (kv1, 972, .inl fgx)), (nm0, .inl (knm0, 10, .inl fnm))] H := hP
              have hD : va_D A [(h0, .inr (8, [w0, w1, w2, w3, .int (nI kn), w5, w6, w7, w8, w9, w10, w11, .ref v1, .ref v2, .ref nm0, w15, w16, w17, w18, w19, w20, w21, w22, w23, w24, w25, w26, w27, w28, w29, w30, w31, w32, w33, w34])), (v2, .inl (kv2, 81, .inl f_17)), (v1, .inl (kv1, 972, .inl fgx)), (nm0, .inl (knm0, 10, .inl fnm))] := hD
              refine lv_aload_n hx hb dX9_has_98 rfl (lv_at hl 2 rfl) ?_
              refine lv_iload_n hx hb dX9_has_99 rfl (lv_at hl 3 rfl) ?_
              refine lv_iload_n hx hb dX9_has_100 rfl (lv_at hl 4 rfl) ?_
              have hPc := hP.sub (ws' := [(h0, .inr (8, [w0, w1, w2, w3, .int (nI kn), w5, w6, w7, w8, w9, w10, w11, .ref v1, .ref v2, .ref nm0, w15, w16, w17, w18, w19, w20, w21, w22, w23, w24, w25, w26, w27, w28, w29, w30, w31, w32, w33, w34])), (nm0, .inl (knm0, 10, .inl fnm))]) [0, 3] rfl
              have hDc := hD.sub (ws' := [(h0, .inr (8, [w0, w1, w2, w3, .int (nI kn), w5, w6, w7, w8, w9, w10, w11, .ref v1, .ref v2, .ref nm0, w15, w16, w17, w18, w19, w20, w21, w22, w23, w24, w25, w26, w27, w28, w29, w30, w31, w32, w33, w34])), (nm0, .inl (knm0, 10, .inl fnm))]) [0, 3] (by decide) rfl
              have hKc := hK.sub (tys' := [(knm0, .int)]) [2] rfl
              refine va_calli (va_runV (As := [.int (nI j_8), .int (nI j_9)]) (rest := []) ⟨hx, hb, hml, hown, hts⟩ (m_hasNameX l dC dI H.size h0 (w0) (w1) (w2) (w3) (.int (nI kn)) (w5) (w6) (w7) (w8) (w9) (w10) (w11) (.ref v1) (.ref v2) nm0 (w15) (w16) (w17) (w18) (w19) (w20) (w21) (w22) (w23) (w24) (w25) (w26) (w27) (w28) (w29) (w30) (w31) (w32) (w33) (w34) knm0 fnm j_8 j_9 (by omega) (by omega)) (cwV 2 hts (gV mw_4_123 mw_4_125 mw_0_20 mw_1_9 mw_4_126) rfl rfl rfl (by decide +kernel) ⟨Nat.le_of_ble_eq_true rfl, Nat.le_of_ble_eq_true rfl⟩) ⟨pcW_blind, va_recv hKc hPc (ci := 8) (q0 := 0) rfl rfl, pcW_at hPc hKc hDc hN⟩ rfl rfl hl.1 rfl (lv_room (Nat.le_of_ble_eq_true rfl)) dX9_has_101 ⟨Nat.le_of_ble_eq_true rfl, Nat.le_of_ble_eq_true rfl⟩) hS (fun q h1 h2 => absurd h2 (Nat.not_le.mpr h1)) (fun q h => hA q (Nat.le_trans hS.1 h)) (fun r_18 u t H1 locs ht hvm hw_18 hB hz1 hk1 hS => ?_)
              have hP := keepP hP hk1
              clear hz1 hk1 hB ht hvm hPc hDc hKc
              generalize H1 = H at hP hS ⊢
              rcases fx_bool hw_18 with ⟨rfl, b_19⟩ | ⟨rfl, b_19⟩
              · skip
                refine lv_if_eq (tgt := 111) hx hb dX9_has_104 (by decide) (fun h => absurd h (by decide)) (fun _ => ?_)
                refine lv_iconst (v := 0) hx hb dX9_has_107 (by decide) ?_
                refine lv_goto (tgt := 112) hx hb dX9_has_108 (by decide) ?_
                refine lv_istore (lv' := [(4, .int 0), (3, .int (nI (8 * j_8 + j_9))), (0, .ref h0), (1, .int (nI j_8)), (2, .int (nI j_9))]) hx hb dX9_has_112 hl (by decide) rfl (fun ls hl => ?_)
                refine lv_aload_n hx hb dX9_has_114 rfl (lv_at hl 2 rfl) ?_
                refine va_get (D := (dC, dI)) (ci := 8) (v := .ref nm0) (C := RX9) (T := TX9) (N := 35) hx hb hts inB_9 hown hK hP 0 rfl rfl 14 (by decide) (hts _ mw_3_196) (fun _ h9 => h9) rfl dX9_has_115 ?_
                refine lv_iload_n hx hb dX9_has_118 rfl (lv_at hl 3 rfl) ?_
                refine lv_dup2_11 hx hb dX9_has_119 rfl rfl ?_
                refine va_iald hx hb hK hP 3 2 rfl rfl (show vp_in (nI j_8) 10 from vp_in_nI (by omega) (by omega)) dX9_has_120 ?_
                refine hx_top (y := (fnm j_8)) (congrArg _ (nI_clamp (by omega))) ?_
                refine lv_iconst (v := 1) hx hb dX9_has_121 (by decide) ?_
                refine lv_iload_n hx hb dX9_has_122 rfl (lv_at hl 4 rfl) ?_
                refine lv_ishl hx hb dX9_has_123 ?_
                refine lv_ior hx hb dX9_has_124 ?_
                refine va_iast hx hb hK hP hD hS 3 2 rfl rfl (show vp_in (nI j_8) 10 from vp_in_nI (by omega) (by omega)) dX9_has_125 (fun H locs hP hD hS => ?_)
                obtain ⟨f_20, ef_20⟩ : ∃ g : Nat → Int32, g = upd fnm (Int32.toNatClampNeg (nI j_8)) ((fnm j_8) ||| (1 <<< ((nI j_9) &&& 31))) := ⟨_, rfl⟩
                rw [← ef_20] at hP hD
                have ef_20 : f_20 = upd fnm j_8 ((fnm j_8) ||| (1 <<< ((nI j_9) &&& 31))) := by rw [ef_20, nI_clamp (by omega)]
                have hP : va_P (dC, dI) vwCl [(h0, .inr (8, [w0, w1, w2, w3, .int (nI kn), w5, w6, w7, w8, w9, w10, w11, .ref v1, .ref v2, .ref nm0, w15, w16, w17, w18, w19, w20, w21, w22, w23, w24, w25, w26, w27, w28, w29, w30, w31, w32, w33, w34])), (v2, .inl (kv2, 81, .inl f_17)), (v1, .inl (kv1, 972, .inl fgx)), (nm0, .inl (knm0, 10, .inl f_20))] H := hP
                have hD : va_D A [(h0, .inr (8, [w0, w1, w2, w3, .int (nI kn), w5, w6, w7, w8, w9, w10, w11, .ref v1, .ref v2, .ref nm0, w15, w16, w17, w18, w19, w20, w21, w22, w23, w24, w25, w26, w27, w28, w29, w30, w31, w32, w33, w34])), (v2, .inl (kv2, 81, .inl f_17)), (v1, .inl (kv1, 972, .inl fgx)), (nm0, .inl (knm0, 10, .inl f_20))] := hD
                refine lv_iload hx hb dX9_has_126 (lv_at hl 0 rfl) ?_
                have hP9 := hP.sub (ws' := [(h0, .inr (8, [w0, w1, w2, w3, .int (nI kn), w5, w6, w7, w8, w9, w10, w11, .ref v1, .ref v2, .ref nm0, w15, w16, w17, w18, w19, w20, w21, w22, w23, w24, w25, w26, w27, w28, w29, w30, w31, w32, w33, w34])), (v2, .inl (kv2, 81, .inl f_17)), (v1, .inl (kv1, 972, .inl fgx)), (nm0, .inl (knm0, 10, .inl f_20))]) [0, 1, 2, 3] rfl
                have hD9 := hD.sub (ws' := [(h0, .inr (8, [w0, w1, w2, w3, .int (nI kn), w5, w6, w7, w8, w9, w10, w11, .ref v1, .ref v2, .ref nm0, w15, w16, w17, w18, w19, w20, w21, w22, w23, w24, w25, w26, w27, w28, w29, w30, w31, w32, w33, w34])), (v2, .inl (kv2, 81, .inl f_17)), (v1, .inl (kv1, 972, .inl fgx)), (nm0, .inl (knm0, 10, .inl f_20))]) [0, 1, 2, 3] (by decide) rfl
                have hK9 := hK.sub (tys' := [(kv2, .int), (kv1, .int), (knm0, .int)]) [0, 1, 2] rfl
                exact W.iret (v := 0) hx hb hr (fun t ht hW => ⟨⟨0, (), rfl, (by unfold F_has; rw [if_pos (by omega), if_pos (by omega), nI_clamp (by omega), nI_clamp (by omega), if_pos b_19]), f_17, fgx, f_20, pf_17, (cv_has (b := (8 * j_8 + j_9)) (z := n_13) hcv hsm (by omega) (show HcA fsg fgx (8 * j_8 + j_9) n_13 from hc_eq hhc (by omega)) (fun i hi => can_p (x := fsg (960 + i)) (hf7 i (by rw [en_13, nI_clamp (by omega)]; omega))) (by omega) ef_16 ef_17), (fun h => absurd (show HasG _ _ _ _ from by unfold HasG; omega) h), (fun _ => (by rw [nI_clamp (by omega), nI_clamp (by omega), ef_17, ef_16, en_13])), (fun _ => (by rw [nI_clamp (by omega), nI_clamp (by omega), en_13, nI_clamp (by omega)]; exact hc_eq hhc (by omega))), (fun _ => (by rw [nI_clamp (by omega)]; exact ef_20)), by rw [ht]; exact hP9, va_K.moved hW.alike hK9, hD9⟩, hS.F ht⟩) hS.2.2 dX9_has_128
              · skip
                refine lv_if_eq (tgt := 111) hx hb dX9_has_104 (by decide) (fun _ => ?_) (fun h => absurd (by decide) h)
                refine lv_iconst (v := 1) hx hb dX9_has_111 (by decide) ?_
                refine lv_istore (lv' := [(4, .int 1), (3, .int (nI (8 * j_8 + j_9))), (0, .ref h0), (1, .int (nI j_8)), (2, .int (nI j_9))]) hx hb dX9_has_112 hl (by decide) rfl (fun ls hl => ?_)
                refine lv_aload_n hx hb dX9_has_114 rfl (lv_at hl 2 rfl) ?_
                refine va_get (D := (dC, dI)) (ci := 8) (v := .ref nm0) (C := RX9) (T := TX9) (N := 35) hx hb hts inB_9 hown hK hP 0 rfl rfl 14 (by decide) (hts _ mw_3_196) (fun _ h9 => h9) rfl dX9_has_115 ?_
                refine lv_iload_n hx hb dX9_has_118 rfl (lv_at hl 3 rfl) ?_
                refine lv_dup2_11 hx hb dX9_has_119 rfl rfl ?_
                refine va_iald hx hb hK hP 3 2 rfl rfl (show vp_in (nI j_8) 10 from vp_in_nI (by omega) (by omega)) dX9_has_120 ?_
                refine hx_top (y := (fnm j_8)) (congrArg _ (nI_clamp (by omega))) ?_
                refine lv_iconst (v := 1) hx hb dX9_has_121 (by decide) ?_
                refine lv_iload_n hx hb dX9_has_122 rfl (lv_at hl 4 rfl) ?_
                refine lv_ishl hx hb dX9_has_123 ?_
                refine lv_ior hx hb dX9_has_124 ?_
                refine va_iast hx hb hK hP hD hS 3 2 rfl rfl (show vp_in (nI j_8) 10 from vp_in_nI (by omega) (by omega)) dX9_has_125 (fun H locs hP hD hS => ?_)
                obtain ⟨f_21, ef_21⟩ : ∃ g : Nat → Int32, g = upd fnm (Int32.toNatClampNeg (nI j_8)) ((fnm j_8) ||| (1 <<< ((nI j_9) &&& 31))) := ⟨_, rfl⟩
                rw [← ef_21] at hP hD
                have ef_21 : f_21 = upd fnm j_8 ((fnm j_8) ||| (1 <<< ((nI j_9) &&& 31))) := by rw [ef_21, nI_clamp (by omega)]
                have hP : va_P (dC, dI) vwCl [(h0, .inr (8, [w0, w1, w2, w3, .int (nI kn), w5, w6, w7, w8, w9, w10, w11, .ref v1, .ref v2, .ref nm0, w15, w16, w17, w18, w19, w20, w21, w22, w23, w24, w25, w26, w27, w28, w29, w30, w31, w32, w33, w34])), (v2, .inl (kv2, 81, .inl f_17)), (v1, .inl (kv1, 972, .inl fgx)), (nm0, .inl (knm0, 10, .inl f_21))] H := hP
                have hD : va_D A [(h0, .inr (8, [w0, w1, w2, w3, .int (nI kn), w5, w6, w7, w8, w9, w10, w11, .ref v1, .ref v2, .ref nm0, w15, w16, w17, w18, w19, w20, w21, w22, w23, w24, w25, w26, w27, w28, w29, w30, w31, w32, w33, w34])), (v2, .inl (kv2, 81, .inl f_17)), (v1, .inl (kv1, 972, .inl fgx)), (nm0, .inl (knm0, 10, .inl f_21))] := hD
                refine lv_iload hx hb dX9_has_126 (lv_at hl 0 rfl) ?_
                have hP9 := hP.sub (ws' := [(h0, .inr (8, [w0, w1, w2, w3, .int (nI kn), w5, w6, w7, w8, w9, w10, w11, .ref v1, .ref v2, .ref nm0, w15, w16, w17, w18, w19, w20, w21, w22, w23, w24, w25, w26, w27, w28, w29, w30, w31, w32, w33, w34])), (v2, .inl (kv2, 81, .inl f_17)), (v1, .inl (kv1, 972, .inl fgx)), (nm0, .inl (knm0, 10, .inl f_21))]) [0, 1, 2, 3] rfl
                have hD9 := hD.sub (ws' := [(h0, .inr (8, [w0, w1, w2, w3, .int (nI kn), w5, w6, w7, w8, w9, w10, w11, .ref v1, .ref v2, .ref nm0, w15, w16, w17, w18, w19, w20, w21, w22, w23, w24, w25, w26, w27, w28, w29, w30, w31, w32, w33, w34])), (v2, .inl (kv2, 81, .inl f_17)), (v1, .inl (kv1, 972, .inl fgx)), (nm0, .inl (knm0, 10, .inl f_21))]) [0, 1, 2, 3] (by decide) rfl
                have hK9 := hK.sub (tys' := [(kv2, .int), (kv1, .int), (knm0, .int)]) [0, 1, 2] rfl
                exact W.iret (v := 1) hx hb hr (fun t ht hW => ⟨⟨1, (), rfl, (by unfold F_has; rw [if_pos (by omega), if_pos (by omega), nI_clamp (by omega), nI_clamp (by omega), if_neg b_19]), f_17, fgx, f_21, pf_17, (cv_has (b := (8 * j_8 + j_9)) (z := n_13) hcv hsm (by omega) (show HcA fsg fgx (8 * j_8 + j_9) n_13 from hc_eq hhc (by omega)) (fun i hi => can_p (x := fsg (960 + i)) (hf7 i (by rw [en_13, nI_clamp (by omega)]; omega))) (by omega) ef_16 ef_17), (fun h => absurd (show HasG _ _ _ _ from by unfold HasG; omega) h), (fun _ => (by rw [nI_clamp (by omega), nI_clamp (by omega), ef_17, ef_16, en_13])), (fun _ => (by rw [nI_clamp (by omega), nI_clamp (by omega), en_13, nI_clamp (by omega)]; exact hc_eq hhc (by omega))), (fun _ => (by rw [nI_clamp (by omega)]; exact ef_21)), by rw [ht]; exact hP9, va_K.moved hW.alike hK9, hD9⟩, hS.F ht⟩) hS.2.2 dX9_has_128
            · have b_15 := gn_ge (X := ((k : Nat) : Int)) (C := ((n_13 : Nat) : Int)) (nI_toInt (by omega)) (nI_toInt (by omega)) c_14
              refine lv_aload_n hx hb dX9_has_48 rfl (lv_at hl 2 rfl) ?_
              refine va_get (D := (dC, dI)) (ci := 8) (v := .ref v1) (C := RX9) (T := TX9) (N := 35) hx hb hts inB_9 hown hK hP 0 rfl rfl 12 (by decide) (hts _ mw_3_194) (fun _ h9 => h9) rfl dX9_has_49 ?_
              refine lv_bipush (v := 12) hx hb dX9_has_52 (by decide) ?_
              refine lv_iload_n hx hb dX9_has_54 rfl (lv_at hl 1 rfl) ?_
              refine lv_imul hx hb dX9_has_55 ?_
              refine hx_top (y := (nI (12 * (8 * j_8 + j_9)))) (pk_mul 12 (8 * j_8 + j_9)) ?_
              refine lv_iload hx hb dX9_has_56 (lv_at hl 0 rfl) ?_
              refine lv_iadd hx hb dX9_has_58 ?_
              refine hx_top (y := (nI ((12 * (8 * j_8 + j_9)) + k))) (nI_add (12 * (8 * j_8 + j_9)) k) ?_
              refine lv_aload_n hx hb dX9_has_59 rfl (lv_at hl 2 rfl) ?_
              refine va_get (D := (dC, dI)) (ci := 8) (v := .ref v1) (C := RX9) (T := TX9) (N := 35) hx hb hts inB_9 hown hK hP 0 rfl rfl 12 (by decide) (hts _ mw_3_194) (fun _ h9 => h9) rfl dX9_has_60 ?_
              refine lv_sipush (v := 960) hx hb dX9_has_63 (by decide) ?_
              refine lv_iload hx hb dX9_has_66 (lv_at hl 0 rfl) ?_
              refine lv_iadd hx hb dX9_has_68 ?_
              refine hx_top (y := (nI (960 + k))) (nI_add 960 k) ?_
              refine va_iald hx hb hK hP 2 1 rfl rfl (show vp_in (nI (960 + k)) 972 from vp_in_nI (by omega) (by omega)) dX9_has_69 ?_
              refine hx_top (y := (fgx (960 + k))) (congrArg _ (nI_clamp (by omega))) ?_
              refine va_iast hx hb hK hP hD hS 2 1 rfl rfl (show vp_in (nI ((12 * (8 * j_8 + j_9)) + k)) 972 from vp_in_nI (by omega) (by omega)) dX9_has_70 (fun H locs hP hD hS => ?_)
              obtain ⟨f_22, ef_22⟩ : ∃ g : Nat → Int32, g = upd fgx (Int32.toNatClampNeg (nI ((12 * (8 * j_8 + j_9)) + k))) (fgx (960 + k)) := ⟨_, rfl⟩
              rw [← ef_22] at hP hD
              have ef_22 : f_22 = upd fgx ((12 * (8 * j_8 + j_9)) + k) (fgx (960 + k)) := by rw [ef_22, nI_clamp (by omega)]
              have hP : va_P (dC, dI) vwCl [(h0, .inr (8, [w0, w1, w2, w3, .int (nI kn), w5, w6, w7, w8, w9, w10, w11, .ref v1, .ref v2, .ref nm0, w15, w16, w17, w18, w19, w20, w21, w22, w23, w24, w25, w26, w27, w28, w29, w30, w31, w32, w33, w34])), (v2, .inl (kv2, 81, .inl fsm)), (v1, .inl (kv1, 972, .inl f_22)), (nm0, .inl (knm0, 10, .inl fnm))] H := hP
              have hD : va_D A [(h0, .inr (8, [w0, w1, w2, w3, .int (nI kn), w5, w6, w7, w8, w9, w10, w11, .ref v1, .ref v2, .ref nm0, w15, w16, w17, w18, w19, w20, w21, w22, w23, w24, w25, w26, w27, w28, w29, w30, w31, w32, w33, w34])), (v2, .inl (kv2, 81, .inl fsm)), (v1, .inl (kv1, 972, .inl f_22)), (nm0, .inl (knm0, 10, .inl fnm))] := hD
              refine lv_iinc (v := (nI (k + 1))) (lv' := [(4, .int (nI (k + 1))), (3, .int (nI (8 * j_8 + j_9))), (0, .ref h0), (1, .int (nI j_8)), (2, .int (nI j_9))]) hx hb dX9_has_71 hl (k := 0) rfl (nI_add k 1) (by decide) rfl (fun ls hl => ?_)
              refine lv_goto (tgt := 36) hx hb dX9_has_74 (by decide) ?_
              exact ih_12 (k + 1) f_22 (by omega) (hc_step hhc (by omega) (by omega) ef_22) (by omega) _ _ hP hD hS ls (lv_sub hl [0, 1, 2, 3, 4] rfl)
        exact key_11 ((12 - 0) + 1) 0 fsg (by omega) hc_0 (Nat.lt_succ_self _) _ _ hP hD hS ls (lv_sub hl [0, 1, 2, 3, 4] rfl)
      · have b_7 := gn_lt (X := (Int32.toInt (fltF (fun i => fsg (960 + i)) (fsm 80).toNatClampNeg))) (C := 0) rfl (by decide) c_6
        refine lv_bipush (v := (-5)) hx hb dX9_has_24 (by decide) ?_
        have hP9 := hP.sub (ws' := [(h0, .inr (8, [w0, w1, w2, w3, .int (nI kn), w5, w6, w7, w8, w9, w10, w11, .ref v1, .ref v2, .ref nm0, w15, w16, w17, w18, w19, w20, w21, w22, w23, w24, w25, w26, w27, w28, w29, w30, w31, w32, w33, w34])), (v2, .inl (kv2, 81, .inl fsm)), (v1, .inl (kv1, 972, .inl fsg)), (nm0, .inl (knm0, 10, .inl fnm))]) [0, 1, 2, 3] rfl
        have hD9 := hD.sub (ws' := [(h0, .inr (8, [w0, w1, w2, w3, .int (nI kn), w5, w6, w7, w8, w9, w10, w11, .ref v1, .ref v2, .ref nm0, w15, w16, w17, w18, w19, w20, w21, w22, w23, w24, w25, w26, w27, w28, w29, w30, w31, w32, w33, w34])), (v2, .inl (kv2, 81, .inl fsm)), (v1, .inl (kv1, 972, .inl fsg)), (nm0, .inl (knm0, 10, .inl fnm))]) [0, 1, 2, 3] (by decide) rfl
        have hK9 := hK.sub (tys' := [(kv2, .int), (kv1, .int), (knm0, .int)]) [0, 1, 2] rfl
        exact W.iret (v := (-5)) hx hb hr (fun t ht hW => ⟨⟨(-5), (), rfl, (by unfold F_has; rw [if_pos (by omega), if_neg (by omega)]), fsm, fsg, fnm, hsm, hcv, (fun _ => ⟨rfl, rfl, rfl⟩), (fun h => absurd h (by unfold HasG; omega)), (fun h => absurd h (by unfold HasG; omega)), (fun h => absurd h (by unfold HasG; omega)), by rw [ht]; exact hP9, va_K.moved hW.alike hK9, hD9⟩, hS.F ht⟩) hS.2.2 dX9_has_26
    · skip
      refine lv_if_ne (tgt := 17) hx hb dX9_has_12 (by decide) (fun h => absurd h (by decide)) (fun _ => ?_)
      refine lv_iconst (v := (-1)) hx hb dX9_has_15 (by decide) ?_
      have hP9 := hP.sub (ws' := [(h0, .inr (8, [w0, w1, w2, w3, .int (nI kn), w5, w6, w7, w8, w9, w10, w11, .ref v1, .ref v2, .ref nm0, w15, w16, w17, w18, w19, w20, w21, w22, w23, w24, w25, w26, w27, w28, w29, w30, w31, w32, w33, w34])), (v2, .inl (kv2, 81, .inl fsm)), (v1, .inl (kv1, 972, .inl fsg)), (nm0, .inl (knm0, 10, .inl fnm))]) [0, 1, 2, 3] rfl
      have hD9 := hD.sub (ws' := [(h0, .inr (8, [w0, w1, w2, w3, .int (nI kn), w5, w6, w7, w8, w9, w10, w11, .ref v1, .ref v2, .ref nm0, w15, w16, w17, w18, w19, w20, w21, w22, w23, w24, w25, w26, w27, w28, w29, w30, w31, w32, w33, w34])), (v2, .inl (kv2, 81, .inl fsm)), (v1, .inl (kv1, 972, .inl fsg)), (nm0, .inl (knm0, 10, .inl fnm))]) [0, 1, 2, 3] (by decide) rfl
      have hK9 := hK.sub (tys' := [(kv2, .int), (kv1, .int), (knm0, .int)]) [0, 1, 2] rfl
      exact W.iret (v := (-1)) hx hb hr (fun t ht hW => ⟨⟨(-1), (), rfl, (by unfold F_has; rw [if_neg (by omega)]), fsm, fsg, fnm, hsm, hcv, (fun _ => ⟨rfl, rfl, rfl⟩), (fun h => absurd h (by unfold HasG; omega)), (fun h => absurd h (by unfold HasG; omega)), (fun h => absurd h (by unfold HasG; omega)), by rw [ht]; exact hP9, va_K.moved hW.alike hK9, hD9⟩, hS.F ht⟩) hS.2.2 dX9_has_16
  · skip
    refine lv_if_eq (tgt := 15) hx hb dX9_has_5 (by decide) (fun _ => ?_) (fun h => absurd (by decide) h)
    refine lv_iconst (v := (-1)) hx hb dX9_has_15 (by decide) ?_
    have hP9 := hP.sub (ws' := [(h0, .inr (8, [w0, w1, w2, w3, .int (nI kn), w5, w6, w7, w8, w9, w10, w11, .ref v1, .ref v2, .ref nm0, w15, w16, w17, w18, w19, w20, w21, w22, w23, w24, w25, w26, w27, w28, w29, w30, w31, w32, w33, w34])), (v2, .inl (kv2, 81, .inl fsm)), (v1, .inl (kv1, 972, .inl fsg)), (nm0, .inl (knm0, 10, .inl fnm))]) [0, 1, 2, 3] rfl
    have hD9 := hD.sub (ws' := [(h0, .inr (8, [w0, w1, w2, w3, .int (nI kn), w5, w6, w7, w8, w9, w10, w11, .ref v1, .ref v2, .ref nm0, w15, w16, w17, w18, w19, w20, w21, w22, w23, w24, w25, w26, w27, w28, w29, w30, w31, w32, w33, w34])), (v2, .inl (kv2, 81, .inl fsm)), (v1, .inl (kv1, 972, .inl fsg)), (nm0, .inl (knm0, 10, .inl fnm))]) [0, 1, 2, 3] (by decide) rfl
    have hK9 := hK.sub (tys' := [(kv2, .int), (kv1, .int), (knm0, .int)]) [0, 1, 2] rfl
    exact W.iret (v := (-1)) hx hb hr (fun t ht hW => ⟨⟨(-1), (), rfl, (by unfold F_has; rw [if_neg (by omega)]), fsm, fsg, fnm, hsm, hcv, (fun _ => ⟨rfl, rfl, rfl⟩), (fun h => absurd h (by unfold HasG; omega)), (fun h => absurd h (by unfold HasG; omega)), (fun h => absurd h (by unfold HasG; omega)), by rw [ht]; exact hP9, va_K.moved hW.alike hK9, hD9⟩, hS.F ht⟩) hS.2.2 dX9_has_16
set_option maxHeartbeats 4000000 in
set_option maxRecDepth 100000 in
theorem m_drop (l : Launch) (dC : Nat → ClassId) (dI : Nat → Nat → Nat) (sz : Nat) (h0 : Nat) (w0 : Value) (w1 : Value) (w2 : Value) (w3 : Value) (kn : Nat) (w5 : Value) (w6 : Value) (w7 : Value) (w8 : Value) (w9 : Value) (w10 : Value) (w11 : Value) (w12 : Value) (v2 : Nat) (nm0 : Nat) (w15 : Value) (w16 : Value) (w17 : Value) (w18 : Value) (w19 : Value) (w20 : Value) (w21 : Value) (w22 : Value) (w23 : Value) (w24 : Value) (w25 : Value) (w26 : Value) (w27 : Value) (w28 : Value) (w29 : Value) (w30 : Value) (w31 : Value) (w32 : Value) (w33 : Value) (w34 : Value) (kv2 : ClassId) (fsm : Nat → Int32) (knm0 : ClassId) (fnm : Nat → Int32) (n1 : Int32) (n2 : Int32) (hkn : kn ≤ 10) (hsm : BdOk 81 12 fsm) : Met l yX9_drop (wq yX9_drop cX9_drop 3 (some .int)) ({ frames := 2, cells := 0, slots := 0, locals := 46 }) (va_Pc [.ref h0, .int n1, .int n2] (pcW dC dI [(kv2, .int), (knm0, .int)] [(h0, .inr (8, [w0, w1, w2, w3, .int (nI kn), w5, w6, w7, w8, w9, w10, w11, w12, .ref v2, .ref nm0, w15, w16, w17, w18, w19, w20, w21, w22, w23, w24, w25, w26, w27, w28, w29, w30, w31, w32, w33, w34])), (v2, .inl (kv2, 81, .inl fsm)), (nm0, .inl (knm0, 10, .inl fnm))] sz)) (va_Qi (fun (r : Int32) (_ : Unit) => r = (F_drop kn (bt (fnm n1.toNatClampNeg) n2.toNatClampNeg) (fsm (8 * n1.toNatClampNeg + n2.toNatClampNeg)) n1 n2)) (fun _ t => ∃ (fnm2 : Nat → Int32), (¬ DropG kn (bt (fnm n1.toNatClampNeg) n2.toNatClampNeg) n1 n2 → fnm2 = fnm) ∧ (DropG kn (bt (fnm n1.toNatClampNeg) n2.toNatClampNeg) n1 n2 → fnm2 = upd fnm n1.toNatClampNeg (fnm n1.toNatClampNeg &&& (((1 : Int32) <<< (n2 &&& 31)) ^^^ (-1)))) ∧ va_P (dC, dI) vwCl [(h0, .inr (8, [w0, w1, w2, w3, .int (nI kn), w5, w6, w7, w8, w9, w10, w11, w12, .ref v2, .ref nm0, w15, w16, w17, w18, w19, w20, w21, w22, w23, w24, w25, w26, w27, w28, w29, w30, w31, w32, w33, w34])), (v2, .inl (kv2, 81, .inl fsm)), (nm0, .inl (knm0, 10, .inl fnm2))] t.heap ∧ va_K (dC, dI) vwCl [(kv2, .int), (knm0, .int)] t ∧ va_D (va_A [(h0, .inr (8, [w0, w1, w2, w3, .int (nI kn), w5, w6, w7, w8, w9, w10, w11, w12, .ref v2, .ref nm0, w15, w16, w17, w18, w19, w20, w21, w22, w23, w24, w25, w26, w27, w28, w29, w30, w31, w32, w33, w34])), (v2, .inl (kv2, 81, .inl fsm)), (nm0, .inl (knm0, 10, .inl fnm))] sz) [(h0, .inr (8, [w0, w1, w2, w3, .int (nI kn), w5, w6, w7, w8, w9, w10, w11, w12, .ref v2, .ref nm0, w15, w16, w17, w18, w19, w20, w21, w22, w23, w24, w25, w26, w27, w28, w29, w30, w31, w32, w33, w34])), (v2, .inl (kv2, 81, .inl fsm)), (nm0, .inl (knm0, 10, .inl fnm2))]) (va_A [(h0, .inr (8, [w0, w1, w2, w3, .int (nI kn), w5, w6, w7, w8, w9, w10, w11, w12, .ref v2, .ref nm0, w15, w16, w17, w18, w19, w20, w21, w22, w23, w24, w25, w26, w27, w28, w29, w30, w31, w32, w33, w34])), (v2, .inl (kv2, 81, .inl fsm)), (nm0, .inl (knm0, 10, .inl fnm))] sz)) 0 0 (va_A [(h0, .inr (8, [w0, w1, w2, w3, .int (nI kn), w5, w6, w7, w8, w9, w10, w11, w12, .ref v2, .ref nm0, w15, w16, w17, w18, w19, w20, w21, w22, w23, w24, w25, w26, w27, w28, w29, w30, w31, w32, w33, w34])), (v2, .inl (kv2, 81, .inl fsm)), (nm0, .inl (knm0, 10, .inl fnm))] sz) := by
  refine Met.ofW (cc := cX9_drop) (maxL := 3) (ret := (some .int)) (by decide) rfl ?_
  intro p e s m args below meth c s₁ B hml hv
  obtain ⟨rfl, hsz, hN, hP, hK, hD0⟩ := hv
  have hx := B.exec
  have hb := B.bytes
  have hr := B.returns
  have hts0 := atoms_spec (ws := (wq yX9_drop cX9_drop 3 (some .int))) B.pre
  have hts : ∀ w ∈ BG, w.before _ s = true := fun w h => hts0 w (List.mem_cons_of_mem _ h)
  have hown : s.vm.findClass RX9 = some m.cls := findClass_of_methodNamed B.named
  have hlocks := B.notSynchronized
  subst hsz
  have hD := hD0.self (sz := s.heap.size)
  generalize hAe : va_A [(h0, .inr (8, [w0, w1, w2, w3, .int (nI kn), w5, w6, w7, w8, w9, w10, w11, w12, .ref v2, .ref nm0, w15, w16, w17, w18, w19, w20, w21, w22, w23, w24, w25, w26, w27, w28, w29, w30, w31, w32, w33, w34])), (v2, .inl (kv2, 81, .inl fsm)), (nm0, .inl (knm0, 10, .inl fnm))] s.heap.size = A at hD ⊢
  have hA : ∀ q : Nat, s.heap.size ≤ q → A q := fun q h => by rw [← hAe]; exact Or.inr h
  have hS : va_S A s.heap s.heap [] := va_S.rf
  clear hAe hD0
  have hP : va_P (dC, dI) vwCl [(h0, .inr (8, [w0, w1, w2, w3, .int (nI kn), w5, w6, w7, w8, w9, w10, w11, w12, .ref v2, .ref nm0, w15, w16, w17, w18, w19, w20, w21, w22, w23, w24, w25, w26, w27, w28, w29, w30, w31, w32, w33, w34])), (v2, .inl (kv2, 81, .inl fsm)), (nm0, .inl (knm0, 10, .inl fnm))] s.heap := hP
  have hl := lv_entry ([.ref h0, .int n1, .int n2]) (n := 3) (Nat.le_of_ble_eq_true rfl)
  rw [lg_entry_eq]
  generalize (lg_sl ([.ref h0, .int n1, .int n2]) ++ List.replicate (3 - (lg_sl ([.ref h0, .int n1, .int n2])).length) Slot.unset).toArray = ls at hl ⊢
  have hl : lv_has ls 3 [(0, .ref h0), (1, .int n1), (2, .int n2)] := hl
  refine lv_aload_n hx hb dX9_drop_0 rfl (lv_at hl 0 rfl) ?_
  refine lv_iload_n hx hb dX9_drop_1 rfl (lv_at hl 1 rfl) ?_
  have hPc := hP.sub (ws' := [(h0, .inr (8, [w0, w1, w2, w3, .int (nI kn), w5, w6, w7, w8, w9, w10, w11, w12, .ref v2, .ref nm0, w15, w16, w17, w18, w19, w20, w21, w22, w23, w24, w25, w26, w27, w28, w29, w30, w31, w32, w33, w34]))]) [0] rfl
  have hDc := hD.sub (ws' := [(h0, .inr (8, [w0, w1, w2, w3, .int (nI kn), w5, w6, w7, w8, w9, w10, w11, w12, .ref v2, .ref nm0, w15, w16, w17, w18, w19, w20, w21, w22, w23, w24, w25, w26, w27, w28, w29, w30, w31, w32, w33, w34]))]) [0] (by decide) rfl
  have hKc := hK.sub (tys' := []) [] rfl
  refine va_calli (va_runV (As := [.int n1]) (rest := []) ⟨hx, hb, hml, hown, hts⟩ (m_isKind l dC dI s.heap.size h0 (w0) (w1) (w2) (w3) kn (w5) (w6) (w7) (w8) (w9) (w10) (w11) (w12) (.ref v2) (.ref nm0) (w15) (w16) (w17) (w18) (w19) (w20) (w21) (w22) (w23) (w24) (w25) (w26) (w27) (w28) (w29) (w30) (w31) (w32) (w33) (w34) n1 hkn) (cwV 1 hts (gV mw_4_53 mw_4_55 mw_0_15 mw_1_9 mw_4_56) rfl rfl rfl (by decide +kernel) ⟨Nat.le_of_ble_eq_true rfl, Nat.le_of_ble_eq_true rfl⟩) ⟨pcW_blind, va_recv hKc hPc (ci := 8) (q0 := 0) rfl rfl, pcW_at hPc hKc hDc hN⟩ rfl rfl hl.1 rfl (lv_room (Nat.le_of_ble_eq_true rfl)) dX9_drop_2 ⟨Nat.le_of_ble_eq_true rfl, Nat.le_of_ble_eq_true rfl⟩) hS (fun q h1 h2 => absurd h2 (Nat.not_le.mpr h1)) (fun q h => hA q (Nat.le_trans hS.1 h)) (fun r_1 u t H1 locs ht hvm hw_1 hB hz1 hk1 hS => ?_)
  have hP := keepP hP hk1
  clear hz1 hk1 hB ht hvm hPc hDc hKc
  generalize H1 = H at hP hS ⊢
  rcases fx_bool hw_1 with ⟨rfl, b_2⟩ | ⟨rfl, b_2⟩
  · skip
    refine lv_if_eq (tgt := 15) hx hb dX9_drop_5 (by decide) (fun h => absurd h (by decide)) (fun _ => ?_)
    refine lv_iload_n hx hb dX9_drop_8 rfl (lv_at hl 2 rfl) ?_
    have hPc := hP.sub (ws' := []) [] rfl
    have hDc := hD.sub (ws' := []) [] (by decide) rfl
    have hKc := hK.sub (tys' := []) [] rfl
    refine va_calli (va_runS (As := [.int n2]) (rest := []) ⟨hx, hb, hml, hown, hts⟩ (m_isName l dC dI H.size n2 ) (va_cwS 1 hts (gS mw_4_115 mw_4_116 mw_1_9 mw_4_117) rfl rfl rfl (by decide +kernel) ⟨Nat.le_of_ble_eq_true rfl, Nat.le_of_ble_eq_true rfl⟩) ⟨pcW_blind, pcW_at hPc hKc hDc hN⟩ rfl rfl hl.1 rfl (lv_room (Nat.le_of_ble_eq_true rfl)) dX9_drop_9 ⟨Nat.le_of_ble_eq_true rfl, Nat.le_of_ble_eq_true rfl⟩) hS (fun q h1 h2 => absurd h2 (Nat.not_le.mpr h1)) (fun q h => hA q (Nat.le_trans hS.1 h)) (fun r_3 u t H1 locs ht hvm hw_3 hB hz1 hk1 hS => ?_)
    have hP := keepP hP hk1
    clear hz1 hk1 hB ht hvm hPc hDc hKc
    generalize H1 = H at hP hS ⊢
    rcases fx_bool hw_3 with ⟨rfl, b_4⟩ | ⟨rfl, b_4⟩
    · skip
      refine lv_if_ne (tgt := 17) hx hb dX9_drop_12 (by decide) (fun _ => ?_) (fun h => absurd h (by decide))
      obtain ⟨j_5, tj_5, ej_5⟩ := fx_nat (x := n1) (by omega)
      subst ej_5
      have yj_5 : Int32.toInt (nI j_5) = (j_5 : Int) := nI_toInt tj_5
      obtain ⟨j_6, tj_6, ej_6⟩ := fx_nat (x := n2) (by omega)
      subst ej_6
      have yj_6 : Int32.toInt (nI j_6) = (j_6 : Int) := nI_toInt tj_6
      refine lv_aload_n hx hb dX9_drop_17 rfl (lv_at hl 0 rfl) ?_
      refine lv_iload_n hx hb dX9_drop_18 rfl (lv_at hl 1 rfl) ?_
      refine lv_iload_n hx hb dX9_drop_19 rfl (lv_at hl 2 rfl) ?_
      have hPc := hP.sub (ws' := [(h0, .inr (8, [w0, w1, w2, w3, .int (nI kn), w5, w6, w7, w8, w9, w10, w11, w12, .ref v2, .ref nm0, w15, w16, w17, w18, w19, w20, w21, w22, w23, w24, w25, w26, w27, w28, w29, w30, w31, w32, w33, w34])), (nm0, .inl (knm0, 10, .inl fnm))]) [0, 2] rfl
      have hDc := hD.sub (ws' := [(h0, .inr (8, [w0, w1, w2, w3, .int (nI kn), w5, w6, w7, w8, w9, w10, w11, w12, .ref v2, .ref nm0, w15, w16, w17, w18, w19, w20, w21, w22, w23, w24, w25, w26, w27, w28, w29, w30, w31, w32, w33, w34])), (nm0, .inl (knm0, 10, .inl fnm))]) [0, 2] (by decide) rfl
      have hKc := hK.sub (tys' := [(knm0, .int)]) [1] rfl
      refine va_calli (va_runV (As := [.int (nI j_5), .int (nI j_6)]) (rest := []) ⟨hx, hb, hml, hown, hts⟩ (m_hasNameX l dC dI H.size h0 (w0) (w1) (w2) (w3) (.int (nI kn)) (w5) (w6) (w7) (w8) (w9) (w10) (w11) (w12) (.ref v2) nm0 (w15) (w16) (w17) (w18) (w19) (w20) (w21) (w22) (w23) (w24) (w25) (w26) (w27) (w28) (w29) (w30) (w31) (w32) (w33) (w34) knm0 fnm j_5 j_6 (by omega) (by omega)) (cwV 2 hts (gV mw_4_123 mw_4_125 mw_0_20 mw_1_9 mw_4_126) rfl rfl rfl (by decide +kernel) ⟨Nat.le_of_ble_eq_true rfl, Nat.le_of_ble_eq_true rfl⟩) ⟨pcW_blind, va_recv hKc hPc (ci := 8) (q0 := 0) rfl rfl, pcW_at hPc hKc hDc hN⟩ rfl rfl hl.1 rfl (lv_room (Nat.le_of_ble_eq_true rfl)) dX9_drop_20 ⟨Nat.le_of_ble_eq_true rfl, Nat.le_of_ble_eq_true rfl⟩) hS (fun q h1 h2 => absurd h2 (Nat.not_le.mpr h1)) (fun q h => hA q (Nat.le_trans hS.1 h)) (fun r_7 u t H1 locs ht hvm hw_7 hB hz1 hk1 hS => ?_)
      have hP := keepP hP hk1
      clear hz1 hk1 hB ht hvm hPc hDc hKc
      generalize H1 = H at hP hS ⊢
      rcases fx_bool hw_7 with ⟨rfl, b_8⟩ | ⟨rfl, b_8⟩
      · skip
        refine lv_if_ne (tgt := 29) hx hb dX9_drop_23 (by decide) (fun _ => ?_) (fun h => absurd h (by decide))
        refine lv_aload_n hx hb dX9_drop_29 rfl (lv_at hl 0 rfl) ?_
        refine va_get (D := (dC, dI)) (ci := 8) (v := .ref nm0) (C := RX9) (T := TX9) (N := 35) hx hb hts inB_9 hown hK hP 0 rfl rfl 14 (by decide) (hts _ mw_3_196) (fun _ h9 => h9) rfl dX9_drop_30 ?_
        refine lv_iload_n hx hb dX9_drop_33 rfl (lv_at hl 1 rfl) ?_
        refine lv_dup2_11 hx hb dX9_drop_34 rfl rfl ?_
        refine va_iald hx hb hK hP 2 1 rfl rfl (show vp_in (nI j_5) 10 from vp_in_nI (by omega) (by omega)) dX9_drop_35 ?_
        refine hx_top (y := (fnm j_5)) (congrArg _ (nI_clamp (by omega))) ?_
        refine lv_iconst (v := 1) hx hb dX9_drop_36 (by decide) ?_
        refine lv_iload_n hx hb dX9_drop_37 rfl (lv_at hl 2 rfl) ?_
        refine lv_ishl hx hb dX9_drop_38 ?_
        refine lv_iconst (v := (-1)) hx hb dX9_drop_39 (by decide) ?_
        refine lv_ixor hx hb dX9_drop_40 ?_
        refine lv_iand hx hb dX9_drop_41 ?_
        refine va_iast hx hb hK hP hD hS 2 1 rfl rfl (show vp_in (nI j_5) 10 from vp_in_nI (by omega) (by omega)) dX9_drop_42 (fun H locs hP hD hS => ?_)
        obtain ⟨f_9, ef_9⟩ : ∃ g : Nat → Int32, g = upd fnm (Int32.toNatClampNeg (nI j_5)) ((fnm j_5) &&& ((1 <<< ((nI j_6) &&& 31)) ^^^ (-1))) := ⟨_, rfl⟩
        rw [← ef_9] at hP hD
        have ef_9 : f_9 = upd fnm j_5 ((fnm j_5) &&& ((1 <<< ((nI j_6) &&& 31)) ^^^ (-1))) := by rw [ef_9, nI_clamp (by omega)]
        have hP : va_P (dC, dI) vwCl [(h0, .inr (8, [w0, w1, w2, w3, .int (nI kn), w5, w6, w7, w8, w9, w10, w11, w12, .ref v2, .ref nm0, w15, w16, w17, w18, w19, w20, w21, w22, w23, w24, w25, w26, w27, w28, w29, w30, w31, w32, w33, w34])), (v2, .inl (kv2, 81, .inl fsm)), (nm0, .inl (knm0, 10, .inl f_9))] H := hP
        have hD : va_D A [(h0, .inr (8, [w0, w1, w2, w3, .int (nI kn), w5, w6, w7, w8, w9, w10, w11, w12, .ref v2, .ref nm0, w15, w16, w17, w18, w19, w20, w21, w22, w23, w24, w25, w26, w27, w28, w29, w30, w31, w32, w33, w34])), (v2, .inl (kv2, 81, .inl fsm)), (nm0, .inl (knm0, 10, .inl f_9))] := hD
        refine lv_aload_n hx hb dX9_drop_43 rfl (lv_at hl 0 rfl) ?_
        refine va_get (D := (dC, dI)) (ci := 8) (v := .ref v2) (C := RX9) (T := TX9) (N := 35) hx hb hts inB_9 hown hK hP 0 rfl rfl 13 (by decide) (hts _ mw_3_195) (fun _ h9 => h9) rfl dX9_drop_44 ?_
        refine lv_iload_n hx hb dX9_drop_47 rfl (lv_at hl 1 rfl) ?_
        refine lv_iload_n hx hb dX9_drop_48 rfl (lv_at hl 2 rfl) ?_
        have hPc := hP.sub (ws' := []) [] rfl
        have hDc := hD.sub (ws' := []) [] (by decide) rfl
        have hKc := hK.sub (tys' := []) [] rfl
        refine va_calli (va_runS (As := [.int (nI j_5), .int (nI j_6)]) (rest := [.ref v2]) ⟨hx, hb, hml, hown, hts⟩ (m_bodyOf l dC dI H.size j_5 j_6 ) (va_cwS 2 hts (gS mw_4_120 mw_4_121 mw_1_9 mw_4_122) rfl rfl rfl (by decide +kernel) ⟨Nat.le_of_ble_eq_true rfl, Nat.le_of_ble_eq_true rfl⟩) ⟨pcW_blind, pcW_at hPc hKc hDc hN⟩ rfl rfl hl.1 rfl (lv_room (Nat.le_of_ble_eq_true rfl)) dX9_drop_49 ⟨Nat.le_of_ble_eq_true rfl, Nat.le_of_ble_eq_true rfl⟩) hS (fun q h1 h2 => absurd h2 (Nat.not_le.mpr h1)) (fun q h => hA q (Nat.le_trans hS.1 h)) (fun r_10 u t H1 locs ht hvm hw_10 hB hz1 hk1 hS => ?_)
        have hP := keepP hP hk1
        clear hz1 hk1 hB ht hvm hPc hDc hKc
        generalize H1 = H at hP hS ⊢
        obtain rfl : r_10 = nI (8 * j_5 + j_6) := hw_10
        refine va_iald hx hb hK hP 1 0 rfl rfl (show vp_in (nI (8 * j_5 + j_6)) 81 from vp_in_nI (by omega) (by omega)) dX9_drop_52 ?_
        refine hx_top (y := (fsm (8 * j_5 + j_6))) (congrArg _ (nI_clamp (by omega))) ?_
        obtain ⟨n_11, hn_11, en_11⟩ := hsm (8 * j_5 + j_6) (by omega)
        refine hx_top (y := (nI n_11)) en_11 ?_
        have hP9 := hP.sub (ws' := [(h0, .inr (8, [w0, w1, w2, w3, .int (nI kn), w5, w6, w7, w8, w9, w10, w11, w12, .ref v2, .ref nm0, w15, w16, w17, w18, w19, w20, w21, w22, w23, w24, w25, w26, w27, w28, w29, w30, w31, w32, w33, w34])), (v2, .inl (kv2, 81, .inl fsm)), (nm0, .inl (knm0, 10, .inl f_9))]) [0, 1, 2] rfl
        have hD9 := hD.sub (ws' := [(h0, .inr (8, [w0, w1, w2, w3, .int (nI kn), w5, w6, w7, w8, w9, w10, w11, w12, .ref v2, .ref nm0, w15, w16, w17, w18, w19, w20, w21, w22, w23, w24, w25, w26, w27, w28, w29, w30, w31, w32, w33, w34])), (v2, .inl (kv2, 81, .inl fsm)), (nm0, .inl (knm0, 10, .inl f_9))]) [0, 1, 2] (by decide) rfl
        have hK9 := hK.sub (tys' := [(kv2, .int), (knm0, .int)]) [0, 1] rfl
        exact W.iret (v := (nI n_11)) hx hb hr (fun t ht hW => ⟨⟨(nI n_11), (), rfl, (by unfold F_drop; rw [if_pos (by omega), nI_clamp (by omega), nI_clamp (by omega), if_pos b_8]; exact en_11.symm), f_9, (fun h => absurd (show DropG _ _ _ _ from ⟨by omega, by omega, by rw [nI_clamp (by omega), nI_clamp (by omega)]; exact b_8⟩) h), (fun _ => (by rw [nI_clamp (by omega)]; exact ef_9)), by rw [ht]; exact hP9, va_K.moved hW.alike hK9, hD9⟩, hS.F ht⟩) hS.2.2 dX9_drop_53
      · skip
        refine lv_if_ne (tgt := 29) hx hb dX9_drop_23 (by decide) (fun h => absurd h (by decide)) (fun _ => ?_)
        refine lv_bipush (v := (-5)) hx hb dX9_drop_26 (by decide) ?_
        have hP9 := hP.sub (ws' := [(h0, .inr (8, [w0, w1, w2, w3, .int (nI kn), w5, w6, w7, w8, w9, w10, w11, w12, .ref v2, .ref nm0, w15, w16, w17, w18, w19, w20, w21, w22, w23, w24, w25, w26, w27, w28, w29, w30, w31, w32, w33, w34])), (v2, .inl (kv2, 81, .inl fsm)), (nm0, .inl (knm0, 10, .inl fnm))]) [0, 1, 2] rfl
        have hD9 := hD.sub (ws' := [(h0, .inr (8, [w0, w1, w2, w3, .int (nI kn), w5, w6, w7, w8, w9, w10, w11, w12, .ref v2, .ref nm0, w15, w16, w17, w18, w19, w20, w21, w22, w23, w24, w25, w26, w27, w28, w29, w30, w31, w32, w33, w34])), (v2, .inl (kv2, 81, .inl fsm)), (nm0, .inl (knm0, 10, .inl fnm))]) [0, 1, 2] (by decide) rfl
        have hK9 := hK.sub (tys' := [(kv2, .int), (knm0, .int)]) [0, 1] rfl
        exact W.iret (v := (-5)) hx hb hr (fun t ht hW => ⟨⟨(-5), (), rfl, (by unfold F_drop; rw [if_pos (by omega), nI_clamp (by omega), nI_clamp (by omega), if_neg b_8]), fnm, (fun _ => rfl), (fun h => absurd h.2.2 (by rw [nI_clamp (by omega), nI_clamp (by omega)]; exact b_8)), by rw [ht]; exact hP9, va_K.moved hW.alike hK9, hD9⟩, hS.F ht⟩) hS.2.2 dX9_drop_28
    · skip
      refine lv_if_ne (tgt := 17) hx hb dX9_drop_12 (by decide) (fun h => absurd h (by decide)) (fun _ => ?_)
      refine lv_iconst (v := (-1)) hx hb dX9_drop_15 (by decide) ?_
      have hP9 := hP.sub (ws' := [(h0, .inr (8, [w0, w1, w2, w3, .int (nI kn), w5, w6, w7, w8, w9, w10, w11, w12, .ref v2, .ref nm0, w15, w16, w17, w18, w19, w20, w21, w22, w23, w24, w25, w26, w27, w28, w29, w30, w31, w32, w33, w34])), (v2, .inl (kv2, 81, .inl fsm)), (nm0, .inl (knm0, 10, .inl fnm))]) [0, 1, 2] rfl
      have hD9 := hD.sub (ws' := [(h0, .inr (8, [w0, w1, w2, w3, .int (nI kn), w5, w6, w7, w8, w9, w10, w11, w12, .ref v2, .ref nm0, w15, w16, w17, w18, w19, w20, w21, w22, w23, w24, w25, w26, w27, w28, w29, w30, w31, w32, w33, w34])), (v2, .inl (kv2, 81, .inl fsm)), (nm0, .inl (knm0, 10, .inl fnm))]) [0, 1, 2] (by decide) rfl
      have hK9 := hK.sub (tys' := [(kv2, .int), (knm0, .int)]) [0, 1] rfl
      exact W.iret (v := (-1)) hx hb hr (fun t ht hW => ⟨⟨(-1), (), rfl, (by unfold F_drop; rw [if_neg (by omega)]), fnm, (fun _ => rfl), (fun h => absurd h (by unfold DropG; omega)), by rw [ht]; exact hP9, va_K.moved hW.alike hK9, hD9⟩, hS.F ht⟩) hS.2.2 dX9_drop_16
  · skip
    refine lv_if_eq (tgt := 15) hx hb dX9_drop_5 (by decide) (fun _ => ?_) (fun h => absurd (by decide) h)
    refine lv_iconst (v := (-1)) hx hb dX9_drop_15 (by decide) ?_
    have hP9 := hP.sub (ws' := [(h0, .inr (8, [w0, w1, w2, w3, .int (nI kn), w5, w6, w7, w8, w9, w10, w11, w12, .ref v2, .ref nm0, w15, w16, w17, w18, w19, w20, w21, w22, w23, w24, w25, w26, w27, w28, w29, w30, w31, w32, w33, w34])), (v2, .inl (kv2, 81, .inl fsm)), (nm0, .inl (knm0, 10, .inl fnm))]) [0, 1, 2] rfl
    have hD9 := hD.sub (ws' := [(h0, .inr (8, [w0, w1, w2, w3, .int (nI kn), w5, w6, w7, w8, w9, w10, w11, w12, .ref v2, .ref nm0, w15, w16, w17, w18, w19, w20, w21, w22, w23, w24, w25, w26, w27, w28, w29, w30, w31, w32, w33, w34])), (v2, .inl (kv2, 81, .inl fsm)), (nm0, .inl (knm0, 10, .inl fnm))]) [0, 1, 2] (by decide) rfl
    have hK9 := hK.sub (tys' := [(kv2, .int), (knm0, .int)]) [0, 1] rfl
    exact W.iret (v := (-1)) hx hb hr (fun t ht hW => ⟨⟨(-1), (), rfl, (by unfold F_drop; rw [if_neg (by omega)]), fnm, (fun _ => rfl), (fun h => absurd h (by unfold DropG; omega)), by rw [ht]; exact hP9, va_K.moved hW.alike hK9, hD9⟩, hS.F ht⟩) hS.2.2 dX9_drop_16
