def OpP (f : Nat → Int32) (p k : Nat) (w : Int32) : Prop := w = 1 ∨ (w = 0 ∧ ∃ n, n < 8 ∧ f (p + n) ≠ -6)
def SlE (f : Nat → Int32) (pl : Nat) : Prop := ∀ j, pl ≤ j → j < 100 → f j = -6
def SlT (f : Nat → Int32) (k : Nat) : Prop := ∀ j, j < k → f j = -6
theorem slt_step {f g : Nat → Int32} {k : Nat} (h : SlT f k) (e : g = upd f k (-6)) : SlT g (k + 1) := by
  intro j hj
  by_cases q : j = k
  · subst q; rw [e]; exact pk_us
  · rw [e, pk_un q]; exact h j (by omega)
theorem vi_ne {s : Nat → Int32} {b : Int32} {p : Nat} (h : viP s b p) : ∃ n, n < 8 ∧ s (p + n) ≠ -6 := by
  obtain ⟨n, h1, h2⟩ := h
  refine ⟨n, h1, fun q => ?_⟩
  unfold vioB at h2
  rw [q, decide_eq_true rfl, Bool.not_true, Bool.and_false] at h2; exact absurd h2 (by decide)
theorem sle_0 {f : Nat → Int32} {k : Nat} (h : SlT f k) (hk : 100 ≤ k) : SlE f 0 := fun j _ hj => h j (by omega)
theorem sle_lt {f : Nat → Int32} {pl p n : Nat} (h : SlE f pl) (hp : p + n < 100) (hn : f (p + n) ≠ -6) : p + n < pl := by
  rcases Nat.lt_or_ge (p + n) pl with q | q
  · exact q
  · exact absurd (h _ q hp) hn
theorem sle_put {f g : Nat → Int32} {pl p2 a : Nat} {x : Int32} (h : SlE f pl) (h1 : pl ≤ p2) (h2 : a < p2) (e : g = upd f a x) : SlE g p2 := by
  intro j h3 h4
  rw [e, pk_un (by omega)]; exact h j (by omega) h4
theorem mw_3_208 : Cond.fieldLink RX9 68 "AnswerLinesModel" "slots" "[I" ∈ BG := mB (t3 (i := 208) (by decide +kernel)) (by decide +kernel)
theorem mw_3_210 : Cond.fieldLink RX9 209 "AnswerLinesModel" "packedLong" "I" ∈ BG := mB (t3 (i := 210) (by decide +kernel)) (by decide +kernel)
theorem mw_4_205 : Cond.code yX9_answeredBy cX9_answeredBy 4 (some .int) ∈ BG := mB (t4 (i := 205) rfl) (by decide +kernel)
theorem mw_4_202 : Cond.methodLink RX9 191 yX9_answeredBy ∈ BG := mB (t4 (i := 202) (by decide +kernel)) (by decide +kernel)
theorem mw_4_204 : Cond.instanceMethod yX9_answeredBy ∈ BG := mB (t4 (i := 204) (by decide +kernel)) (by decide +kernel)
theorem mw_0_30 : Cond.selects RX9 yX9_answeredBy yX9_answeredBy ∈ BG := mB (t0 (i := 30) (by decide +kernel)) (by decide +kernel)
theorem mw_3_209 : Cond.fieldLink RX9 71 "AnswerLinesModel" "pushed" "[I" ∈ BG := mB (t3 (i := 209) (by decide +kernel)) (by decide +kernel)
theorem mw_4_233 : Cond.code yX9_isOpenAt cX9_isOpenAt 5 (some .boolean) ∈ BG := mB (t4 (i := 233) rfl) (by decide +kernel)
theorem mw_4_230 : Cond.methodLink RX9 212 yX9_isOpenAt ∈ BG := mB (t4 (i := 230) (by decide +kernel)) (by decide +kernel)
theorem mw_4_232 : Cond.instanceMethod yX9_isOpenAt ∈ BG := mB (t4 (i := 232) (by decide +kernel)) (by decide +kernel)
theorem mw_0_36 : Cond.selects RX9 yX9_isOpenAt yX9_isOpenAt ∈ BG := mB (t0 (i := 36) (by decide +kernel)) (by decide +kernel)
theorem mw_4_229 : Cond.code yX9_pack cX9_pack 5 none ∈ BG := mB (t4 (i := 229) rfl) (by decide +kernel)
theorem mw_4_226 : Cond.methodLink RX9 215 yX9_pack ∈ BG := mB (t4 (i := 226) (by decide +kernel)) (by decide +kernel)
theorem mw_4_228 : Cond.instanceMethod yX9_pack ∈ BG := mB (t4 (i := 228) (by decide +kernel)) (by decide +kernel)
theorem mw_0_35 : Cond.selects RX9 yX9_pack yX9_pack ∈ BG := mB (t0 (i := 35) (by decide +kernel)) (by decide +kernel)
theorem mw_4_238 : Cond.constantLong RX9 218 (99) ∈ BG := mB (t4 (i := 238) (by decide +kernel)) (by decide +kernel)
theorem dX9_isOpenAt_0 : decode cX9_isOpenAt 0 = .ok (.iconst 1, 1) := by decide +kernel
theorem dX9_isOpenAt_1 : decode cX9_isOpenAt 1 = .ok (.istore_n 3, 1) := by decide +kernel
theorem dX9_isOpenAt_2 : decode cX9_isOpenAt 2 = .ok (.iconst 0, 1) := by decide +kernel
theorem dX9_isOpenAt_3 : decode cX9_isOpenAt 3 = .ok (.istore 4, 2) := by decide +kernel
theorem dX9_isOpenAt_5 : decode cX9_isOpenAt 5 = .ok (.iload 4, 2) := by decide +kernel
theorem dX9_isOpenAt_7 : decode cX9_isOpenAt 7 = .ok (.bipush 8, 2) := by decide +kernel
theorem dX9_isOpenAt_9 : decode cX9_isOpenAt 9 = .ok (.if_icmp .ge 42, 3) := by decide +kernel
theorem dX9_isOpenAt_51 : decode cX9_isOpenAt 51 = .ok (.iload_n 3, 1) := by decide +kernel
theorem dX9_isOpenAt_52 : decode cX9_isOpenAt 52 = .ok (.ireturn, 1) := by decide +kernel
theorem dX9_isOpenAt_12 : decode cX9_isOpenAt 12 = .ok (.iload_n 3, 1) := by decide +kernel
theorem dX9_isOpenAt_13 : decode cX9_isOpenAt 13 = .ok (.ifCond .eq 30, 3) := by decide +kernel
theorem dX9_isOpenAt_43 : decode cX9_isOpenAt 43 = .ok (.iconst 0, 1) := by decide +kernel
theorem dX9_isOpenAt_44 : decode cX9_isOpenAt 44 = .ok (.istore_n 3, 1) := by decide +kernel
theorem dX9_isOpenAt_45 : decode cX9_isOpenAt 45 = .ok (.iinc 4 1, 3) := by decide +kernel
theorem dX9_isOpenAt_48 : decode cX9_isOpenAt 48 = .ok (.goto (-43), 3) := by decide +kernel
theorem dX9_isOpenAt_16 : decode cX9_isOpenAt 16 = .ok (.iload_n 1, 1) := by decide +kernel
theorem dX9_isOpenAt_17 : decode cX9_isOpenAt 17 = .ok (.iload 4, 2) := by decide +kernel
theorem dX9_isOpenAt_19 : decode cX9_isOpenAt 19 = .ok (.ishr, 1) := by decide +kernel
theorem dX9_isOpenAt_20 : decode cX9_isOpenAt 20 = .ok (.iconst 1, 1) := by decide +kernel
theorem dX9_isOpenAt_21 : decode cX9_isOpenAt 21 = .ok (.iand, 1) := by decide +kernel
theorem dX9_isOpenAt_22 : decode cX9_isOpenAt 22 = .ok (.ifCond .eq 17, 3) := by decide +kernel
theorem dX9_isOpenAt_39 : decode cX9_isOpenAt 39 = .ok (.iconst 1, 1) := by decide +kernel
theorem dX9_isOpenAt_40 : decode cX9_isOpenAt 40 = .ok (.goto 4, 3) := by decide +kernel
theorem dX9_isOpenAt_25 : decode cX9_isOpenAt 25 = .ok (.aload_n 0, 1) := by decide +kernel
theorem dX9_isOpenAt_26 : decode cX9_isOpenAt 26 = .ok (.getfield 68, 3) := by decide +kernel
theorem dX9_isOpenAt_29 : decode cX9_isOpenAt 29 = .ok (.iload_n 2, 1) := by decide +kernel
theorem dX9_isOpenAt_30 : decode cX9_isOpenAt 30 = .ok (.iload 4, 2) := by decide +kernel
theorem dX9_isOpenAt_32 : decode cX9_isOpenAt 32 = .ok (.iadd, 1) := by decide +kernel
theorem dX9_isOpenAt_33 : decode cX9_isOpenAt 33 = .ok (.iaload, 1) := by decide +kernel
theorem dX9_isOpenAt_34 : decode cX9_isOpenAt 34 = .ok (.bipush (-6), 2) := by decide +kernel
theorem dX9_isOpenAt_36 : decode cX9_isOpenAt 36 = .ok (.if_icmp .ne 7, 3) := by decide +kernel
theorem dX9_pack_0 : decode cX9_pack 0 = .ok (.aload_n 0, 1) := by decide +kernel
theorem dX9_pack_1 : decode cX9_pack 1 = .ok (.iconst 0, 1) := by decide +kernel
theorem dX9_pack_2 : decode cX9_pack 2 = .ok (.putfield 209, 3) := by decide +kernel
theorem dX9_pack_5 : decode cX9_pack 5 = .ok (.iconst 0, 1) := by decide +kernel
theorem dX9_pack_6 : decode cX9_pack 6 = .ok (.istore_n 1, 1) := by decide +kernel
theorem dX9_pack_7 : decode cX9_pack 7 = .ok (.iload_n 1, 1) := by decide +kernel
theorem dX9_pack_8 : decode cX9_pack 8 = .ok (.bipush 100, 2) := by decide +kernel
theorem dX9_pack_10 : decode cX9_pack 10 = .ok (.if_icmp .ge 17, 3) := by decide +kernel
theorem dX9_pack_27 : decode cX9_pack 27 = .ok (.iconst 0, 1) := by decide +kernel
theorem dX9_pack_28 : decode cX9_pack 28 = .ok (.istore_n 1, 1) := by decide +kernel
theorem dX9_pack_29 : decode cX9_pack 29 = .ok (.iload_n 1, 1) := by decide +kernel
theorem dX9_pack_30 : decode cX9_pack 30 = .ok (.aload_n 0, 1) := by decide +kernel
theorem dX9_pack_31 : decode cX9_pack 31 = .ok (.getfield 86, 3) := by decide +kernel
theorem dX9_pack_34 : decode cX9_pack 34 = .ok (.if_icmp .ge 134, 3) := by decide +kernel
theorem dX9_pack_168 : decode cX9_pack 168 = .ok (.return_, 1) := by decide +kernel
theorem dX9_pack_37 : decode cX9_pack 37 = .ok (.aload_n 0, 1) := by decide +kernel
theorem dX9_pack_38 : decode cX9_pack 38 = .ok (.iload_n 1, 1) := by decide +kernel
theorem dX9_pack_39 : decode cX9_pack 39 = .ok (.invokevirtual 191, 3) := by decide +kernel
theorem dX9_pack_42 : decode cX9_pack 42 = .ok (.istore_n 2, 1) := by decide +kernel
theorem dX9_pack_43 : decode cX9_pack 43 = .ok (.aload_n 0, 1) := by decide +kernel
theorem dX9_pack_44 : decode cX9_pack 44 = .ok (.getfield 71, 3) := by decide +kernel
theorem dX9_pack_47 : decode cX9_pack 47 = .ok (.iload_n 1, 1) := by decide +kernel
theorem dX9_pack_48 : decode cX9_pack 48 = .ok (.iload_n 2, 1) := by decide +kernel
theorem dX9_pack_49 : decode cX9_pack 49 = .ok (.ifCond .ne 8, 3) := by decide +kernel
theorem dX9_pack_57 : decode cX9_pack 57 = .ok (.iconst 0, 1) := by decide +kernel
theorem dX9_pack_58 : decode cX9_pack 58 = .ok (.iastore, 1) := by decide +kernel
theorem dX9_pack_59 : decode cX9_pack 59 = .ok (.iload_n 2, 1) := by decide +kernel
theorem dX9_pack_60 : decode cX9_pack 60 = .ok (.ifCond .eq 30, 3) := by decide +kernel
theorem dX9_pack_63 : decode cX9_pack 63 = .ok (.aload_n 0, 1) := by decide +kernel
theorem dX9_pack_64 : decode cX9_pack 64 = .ok (.iload_n 2, 1) := by decide +kernel
theorem dX9_pack_65 : decode cX9_pack 65 = .ok (.aload_n 0, 1) := by decide +kernel
theorem dX9_pack_66 : decode cX9_pack 66 = .ok (.getfield 71, 3) := by decide +kernel
theorem dX9_pack_69 : decode cX9_pack 69 = .ok (.iload_n 1, 1) := by decide +kernel
theorem dX9_pack_70 : decode cX9_pack 70 = .ok (.iaload, 1) := by decide +kernel
theorem dX9_pack_71 : decode cX9_pack 71 = .ok (.invokevirtual 212, 3) := by decide +kernel
theorem dX9_pack_74 : decode cX9_pack 74 = .ok (.ifCond .ne 16, 3) := by decide +kernel
theorem dX9_pack_90 : decode cX9_pack 90 = .ok (.iconst 0, 1) := by decide +kernel
theorem dX9_pack_91 : decode cX9_pack 91 = .ok (.istore_n 3, 1) := by decide +kernel
theorem dX9_pack_92 : decode cX9_pack 92 = .ok (.iload_n 3, 1) := by decide +kernel
theorem dX9_pack_93 : decode cX9_pack 93 = .ok (.bipush 8, 2) := by decide +kernel
theorem dX9_pack_95 : decode cX9_pack 95 = .ok (.if_icmp .ge 67, 3) := by decide +kernel
theorem dX9_pack_162 : decode cX9_pack 162 = .ok (.iinc 1 1, 3) := by decide +kernel
theorem dX9_pack_165 : decode cX9_pack 165 = .ok (.goto (-136), 3) := by decide +kernel
theorem dX9_pack_98 : decode cX9_pack 98 = .ok (.iload_n 2, 1) := by decide +kernel
theorem dX9_pack_99 : decode cX9_pack 99 = .ok (.iload_n 3, 1) := by decide +kernel
theorem dX9_pack_100 : decode cX9_pack 100 = .ok (.ishr, 1) := by decide +kernel
theorem dX9_pack_101 : decode cX9_pack 101 = .ok (.iconst 1, 1) := by decide +kernel
theorem dX9_pack_102 : decode cX9_pack 102 = .ok (.iand, 1) := by decide +kernel
theorem dX9_pack_103 : decode cX9_pack 103 = .ok (.iconst 1, 1) := by decide +kernel
theorem dX9_pack_104 : decode cX9_pack 104 = .ok (.if_icmp .ne 52, 3) := by decide +kernel
theorem dX9_pack_156 : decode cX9_pack 156 = .ok (.iinc 3 1, 3) := by decide +kernel
theorem dX9_pack_159 : decode cX9_pack 159 = .ok (.goto (-67), 3) := by decide +kernel
theorem dX9_pack_107 : decode cX9_pack 107 = .ok (.aload_n 0, 1) := by decide +kernel
theorem dX9_pack_108 : decode cX9_pack 108 = .ok (.getfield 71, 3) := by decide +kernel
theorem dX9_pack_111 : decode cX9_pack 111 = .ok (.iload_n 1, 1) := by decide +kernel
theorem dX9_pack_112 : decode cX9_pack 112 = .ok (.iaload, 1) := by decide +kernel
theorem dX9_pack_113 : decode cX9_pack 113 = .ok (.iload_n 3, 1) := by decide +kernel
theorem dX9_pack_114 : decode cX9_pack 114 = .ok (.iadd, 1) := by decide +kernel
theorem dX9_pack_115 : decode cX9_pack 115 = .ok (.istore 4, 2) := by decide +kernel
theorem dX9_pack_117 : decode cX9_pack 117 = .ok (.aload_n 0, 1) := by decide +kernel
theorem dX9_pack_118 : decode cX9_pack 118 = .ok (.getfield 68, 3) := by decide +kernel
theorem dX9_pack_121 : decode cX9_pack 121 = .ok (.iload 4, 2) := by decide +kernel
theorem dX9_pack_123 : decode cX9_pack 123 = .ok (.bipush 10, 2) := by decide +kernel
theorem dX9_pack_125 : decode cX9_pack 125 = .ok (.iload_n 1, 1) := by decide +kernel
theorem dX9_pack_126 : decode cX9_pack 126 = .ok (.imul, 1) := by decide +kernel
theorem dX9_pack_127 : decode cX9_pack 127 = .ok (.iload_n 3, 1) := by decide +kernel
theorem dX9_pack_128 : decode cX9_pack 128 = .ok (.iadd, 1) := by decide +kernel
theorem dX9_pack_129 : decode cX9_pack 129 = .ok (.iastore, 1) := by decide +kernel
theorem dX9_pack_130 : decode cX9_pack 130 = .ok (.aload_n 0, 1) := by decide +kernel
theorem dX9_pack_131 : decode cX9_pack 131 = .ok (.iload 4, 2) := by decide +kernel
theorem dX9_pack_133 : decode cX9_pack 133 = .ok (.iconst 1, 1) := by decide +kernel
theorem dX9_pack_134 : decode cX9_pack 134 = .ok (.iadd, 1) := by decide +kernel
theorem dX9_pack_135 : decode cX9_pack 135 = .ok (.aload_n 0, 1) := by decide +kernel
theorem dX9_pack_136 : decode cX9_pack 136 = .ok (.getfield 209, 3) := by decide +kernel
theorem dX9_pack_139 : decode cX9_pack 139 = .ok (.if_icmp .le 10, 3) := by decide +kernel
theorem dX9_pack_149 : decode cX9_pack 149 = .ok (.aload_n 0, 1) := by decide +kernel
theorem dX9_pack_150 : decode cX9_pack 150 = .ok (.getfield 209, 3) := by decide +kernel
theorem dX9_pack_153 : decode cX9_pack 153 = .ok (.putfield 209, 3) := by decide +kernel
theorem dX9_pack_142 : decode cX9_pack 142 = .ok (.iload 4, 2) := by decide +kernel
theorem dX9_pack_144 : decode cX9_pack 144 = .ok (.iconst 1, 1) := by decide +kernel
theorem dX9_pack_145 : decode cX9_pack 145 = .ok (.iadd, 1) := by decide +kernel
theorem dX9_pack_146 : decode cX9_pack 146 = .ok (.goto 7, 3) := by decide +kernel
theorem dX9_pack_77 : decode cX9_pack 77 = .ok (.aload_n 0, 1) := by decide +kernel
theorem dX9_pack_78 : decode cX9_pack 78 = .ok (.getfield 71, 3) := by decide +kernel
theorem dX9_pack_81 : decode cX9_pack 81 = .ok (.iload_n 1, 1) := by decide +kernel
theorem dX9_pack_82 : decode cX9_pack 82 = .ok (.dup2, 1) := by decide +kernel
theorem dX9_pack_83 : decode cX9_pack 83 = .ok (.iaload, 1) := by decide +kernel
theorem dX9_pack_84 : decode cX9_pack 84 = .ok (.iconst 1, 1) := by decide +kernel
theorem dX9_pack_85 : decode cX9_pack 85 = .ok (.iadd, 1) := by decide +kernel
theorem dX9_pack_86 : decode cX9_pack 86 = .ok (.iastore, 1) := by decide +kernel
theorem dX9_pack_87 : decode cX9_pack 87 = .ok (.goto (-28), 3) := by decide +kernel
theorem dX9_pack_52 : decode cX9_pack 52 = .ok (.bipush (-6), 2) := by decide +kernel
theorem dX9_pack_54 : decode cX9_pack 54 = .ok (.goto 4, 3) := by decide +kernel
theorem dX9_pack_13 : decode cX9_pack 13 = .ok (.aload_n 0, 1) := by decide +kernel
theorem dX9_pack_14 : decode cX9_pack 14 = .ok (.getfield 68, 3) := by decide +kernel
theorem dX9_pack_17 : decode cX9_pack 17 = .ok (.iload_n 1, 1) := by decide +kernel
theorem dX9_pack_18 : decode cX9_pack 18 = .ok (.bipush (-6), 2) := by decide +kernel
theorem dX9_pack_20 : decode cX9_pack 20 = .ok (.iastore, 1) := by decide +kernel
theorem dX9_pack_21 : decode cX9_pack 21 = .ok (.iinc 1 1, 3) := by decide +kernel
theorem dX9_pack_24 : decode cX9_pack 24 = .ok (.goto (-17), 3) := by decide +kernel
theorem dX9_packed_0 : decode cX9_packed 0 = .ok (.iload_n 1, 1) := by decide +kernel
theorem dX9_packed_1 : decode cX9_packed 1 = .ok (.iconst (-1), 1) := by decide +kernel
theorem dX9_packed_2 : decode cX9_packed 2 = .ok (.if_icmp .eq 13, 3) := by decide +kernel
theorem dX9_packed_15 : decode cX9_packed 15 = .ok (.aload_n 0, 1) := by decide +kernel
theorem dX9_packed_16 : decode cX9_packed 16 = .ok (.invokevirtual 215, 3) := by decide +kernel
theorem dX9_packed_19 : decode cX9_packed 19 = .ok (.iload_n 1, 1) := by decide +kernel
theorem dX9_packed_20 : decode cX9_packed 20 = .ok (.iconst (-1), 1) := by decide +kernel
theorem dX9_packed_21 : decode cX9_packed 21 = .ok (.if_icmp .ne 10, 3) := by decide +kernel
theorem dX9_packed_24 : decode cX9_packed 24 = .ok (.aload_n 0, 1) := by decide +kernel
theorem dX9_packed_25 : decode cX9_packed 25 = .ok (.getfield 209, 3) := by decide +kernel
theorem dX9_packed_28 : decode cX9_packed 28 = .ok (.goto 9, 3) := by decide +kernel
theorem dX9_packed_37 : decode cX9_packed 37 = .ok (.ireturn, 1) := by decide +kernel
theorem dX9_packed_5 : decode cX9_packed 5 = .ok (.aload_n 0, 1) := by decide +kernel
theorem dX9_packed_6 : decode cX9_packed 6 = .ok (.iload_n 1, 1) := by decide +kernel
theorem dX9_packed_7 : decode cX9_packed 7 = .ok (.invokevirtual 96, 3) := by decide +kernel
theorem dX9_packed_10 : decode cX9_packed 10 = .ok (.ifCond .ne 5, 3) := by decide +kernel
theorem dX9_packed_31 : decode cX9_packed 31 = .ok (.aload_n 0, 1) := by decide +kernel
theorem dX9_packed_32 : decode cX9_packed 32 = .ok (.getfield 71, 3) := by decide +kernel
theorem dX9_packed_35 : decode cX9_packed 35 = .ok (.iload_n 1, 1) := by decide +kernel
theorem dX9_packed_36 : decode cX9_packed 36 = .ok (.iaload, 1) := by decide +kernel
theorem dX9_packed_13 : decode cX9_packed 13 = .ok (.iconst (-1), 1) := by decide +kernel
theorem dX9_packed_14 : decode cX9_packed 14 = .ok (.ireturn, 1) := by decide +kernel
theorem dX9_slot_0 : decode cX9_slot 0 = .ok (.iload_n 1, 1) := by decide +kernel
theorem dX9_slot_1 : decode cX9_slot 1 = .ok (.i2l, 1) := by decide +kernel
theorem dX9_slot_2 : decode cX9_slot 2 = .ok (.lconst 0, 1) := by decide +kernel
theorem dX9_slot_3 : decode cX9_slot 3 = .ok (.ldc2_w 218, 3) := by decide +kernel
theorem dX9_slot_6 : decode cX9_slot 6 = .ok (.invokestatic 90, 3) := by decide +kernel
theorem dX9_slot_9 : decode cX9_slot 9 = .ok (.ifCond .ne 6, 3) := by decide +kernel
theorem dX9_slot_15 : decode cX9_slot 15 = .ok (.aload_n 0, 1) := by decide +kernel
theorem dX9_slot_16 : decode cX9_slot 16 = .ok (.invokevirtual 215, 3) := by decide +kernel
theorem dX9_slot_19 : decode cX9_slot 19 = .ok (.aload_n 0, 1) := by decide +kernel
theorem dX9_slot_20 : decode cX9_slot 20 = .ok (.getfield 68, 3) := by decide +kernel
theorem dX9_slot_23 : decode cX9_slot 23 = .ok (.iload_n 1, 1) := by decide +kernel
theorem dX9_slot_24 : decode cX9_slot 24 = .ok (.iaload, 1) := by decide +kernel
theorem dX9_slot_25 : decode cX9_slot 25 = .ok (.ireturn, 1) := by decide +kernel
theorem dX9_slot_12 : decode cX9_slot 12 = .ok (.bipush (-2), 2) := by decide +kernel
theorem dX9_slot_14 : decode cX9_slot 14 = .ok (.ireturn, 1) := by decide +kernel
set_option maxHeartbeats 4000000 in
set_option maxRecDepth 100000 in
theorem m_isOpenAt (l : Launch) (dC : Nat → ClassId) (dI : Nat → Nat → Nat) (sz : Nat) (h0 : Nat) (w0 : Value) (w1 : Value) (w2 : Value) (w3 : Value) (w4 : Value) (w5 : Value) (w6 : Value) (w7 : Value) (w8 : Value) (w9 : Value) (w10 : Value) (w11 : Value) (w12 : Value) (w13 : Value) (w14 : Value) (w15 : Value) (w16 : Value) (w17 : Value) (w18 : Value) (w19 : Value) (w20 : Value) (w21 : Value) (w22 : Value) (w23 : Value) (w24 : Value) (w25 : Value) (pk1 : Nat) (w27 : Value) (w28 : Value) (w29 : Value) (w30 : Value) (w31 : Value) (w32 : Value) (w33 : Value) (w34 : Value) (kpk1 : ClassId) (fsl : Nat → Int32) (n : Int32) (pl : Nat) (hpl : pl ≤ 92) : Met l yX9_isOpenAt (wq yX9_isOpenAt cX9_isOpenAt 5 (some .boolean)) ({ frames := 0, cells := 0, slots := 0, locals := 0 }) (va_Pc [.ref h0, .int n, .int (nI pl)] (pcW dC dI [(kpk1, .int)] [(h0, .inr (8, [w0, w1, w2, w3, w4, w5, w6, w7, w8, w9, w10, w11, w12, w13, w14, w15, w16, w17, w18, w19, w20, w21, w22, w23, w24, w25, .ref pk1, w27, w28, w29, w30, w31, w32, w33, w34])), (pk1, .inl (kpk1, 100, .inl fsl))] sz)) (va_Qi (fun (r : Int32) (_ : Unit) => (r = 1 ∧ opP fsl n pl) ∨ (r = 0 ∧ viP fsl n pl)) (fun _ _ => True) (fun q : Nat => sz ≤ q)) 0 0 (fun q : Nat => sz ≤ q) := by
  refine Met.ofW (cc := cX9_isOpenAt) (maxL := 5) (ret := (some .boolean)) (by decide) rfl ?_
  intro p e s m args below meth c s₁ B hml hv
  obtain ⟨rfl, hsz, hN, hP, hK, hD0⟩ := hv
  have hx := B.exec
  have hb := B.bytes
  have hr := B.returns
  have hts0 := atoms_spec (ws := (wq yX9_isOpenAt cX9_isOpenAt 5 (some .boolean))) B.pre
  have hts : ∀ w ∈ BG, w.before _ s = true := fun w h => hts0 w (List.mem_cons_of_mem _ h)
  have hown : s.vm.findClass RX9 = some m.cls := findClass_of_methodNamed B.named
  have hlocks := B.notSynchronized
  subst hsz
  have hA : ∀ q : Nat, s.heap.size ≤ q → (fun q : Nat => s.heap.size ≤ q) q := fun _ h => h
  have hD := hD0
  have hS : va_S (fun q : Nat => s.heap.size ≤ q) s.heap s.heap [] := va_S.rf
  have hP : va_P (dC, dI) vwCl [(h0, .inr (8, [w0, w1, w2, w3, w4, w5, w6, w7, w8, w9, w10, w11, w12, w13, w14, w15, w16, w17, w18, w19, w20, w21, w22, w23, w24, w25, .ref pk1, w27, w28, w29, w30, w31, w32, w33, w34])), (pk1, .inl (kpk1, 100, .inl fsl))] s.heap := hP
  have hl := lv_entry ([.ref h0, .int n, .int (nI pl)]) (n := 5) (Nat.le_of_ble_eq_true rfl)
  rw [lg_entry_eq]
  generalize (lg_sl ([.ref h0, .int n, .int (nI pl)]) ++ List.replicate (5 - (lg_sl ([.ref h0, .int n, .int (nI pl)])).length) Slot.unset).toArray = ls at hl ⊢
  have hl : lv_has ls 5 [(0, .ref h0), (1, .int n), (2, .int (nI pl))] := hl
  refine lv_iconst (v := 1) hx hb dX9_isOpenAt_0 (by decide) ?_
  refine lv_istore_n (lv' := [(3, .int 1), (0, .ref h0), (1, .int n), (2, .int (nI pl))]) hx hb dX9_isOpenAt_1 rfl hl (by decide) rfl (fun ls hl => ?_)
  refine lv_iconst (v := 0) hx hb dX9_isOpenAt_2 (by decide) ?_
  refine lv_istore (lv' := [(4, .int 0), (3, .int 1), (0, .ref h0), (1, .int n), (2, .int (nI pl))]) hx hb dX9_isOpenAt_3 hl (by decide) rfl (fun ls hl => ?_)
  have key_1 : ∀ (fu : Nat) (k : Nat) (wo : Int32), (k ≤ 8) → (OpQ fsl n pl k wo) → 8 - k < fu → ∀ (H : Heap) (locs : List Loc), va_P (dC, dI) vwCl [(h0, .inr (8, [w0, w1, w2, w3, w4, w5, w6, w7, w8, w9, w10, w11, w12, w13, w14, w15, w16, w17, w18, w19, w20, w21, w22, w23, w24, w25, .ref pk1, w27, w28, w29, w30, w31, w32, w33, w34])), (pk1, .inl (kpk1, 100, .inl fsl))] H → va_S (fun q : Nat => s.heap.size ≤ q) s.heap H locs → ∀ (ls : Array Slot), lv_has ls 5 [(4, .int (nI k)), (3, .int wo), (0, .ref h0), (1, .int n), (2, .int (nI pl))] → W p l e (headSpec (wq yX9_isOpenAt cX9_isOpenAt 5 (some .boolean)) ({ frames := 0, cells := 0, slots := 0, locals := 0 })).room s m (([.ref h0, .int n, .int (nI pl)] : List Value)).toArray below meth c H locs 0 0 (MQ below (va_Qi (fun (r : Int32) (_ : Unit) => (r = 1 ∧ opP fsl n pl) ∨ (r = 0 ∧ viP fsl n pl)) (fun _ _ => True) (fun q : Nat => s.heap.size ≤ q)) (([.ref h0, .int n, .int (nI pl)] : List Value)).toArray s 0 0 (fun q : Nat => s.heap.size ≤ q)) (F0 m 5 ls []) := by
    intro fu
    induction fu with
    | zero => intro k wo hk hop hme; exact absurd hme (Nat.not_lt_zero _)
    | succ fu ih_2 =>
      intro k wo hk hop hme H locs hP hS ls hl
      refine lv_iload hx hb dX9_isOpenAt_5 (lv_at hl 0 rfl) ?_
      refine lv_bipush (v := 8) hx hb dX9_isOpenAt_7 (by decide) ?_
      refine lv_icmp_ge (tgt := 51) hx hb dX9_isOpenAt_9 (by decide) (fun c_3 => ?_) (fun c_3 => ?_)
      · have b_4 := gx_ge (X := ((k : Nat) : Int)) (C := 8) (nI_toInt (by omega)) (by decide) c_3
        refine lv_iload_n hx hb dX9_isOpenAt_51 rfl (lv_at hl 1 rfl) ?_
        exact W.zret (v := wo) hx hb hr (narB (oq_b hop)) (fun t ht hW => ⟨⟨wo, (), rfl, (by have q : k = 8 := (by omega); rw [q] at hop; exact hop), trivial⟩, hS.F ht⟩) hS.2.2 dX9_isOpenAt_52
      · have b_4 := gn_ge (X := ((k : Nat) : Int)) (C := 8) (nI_toInt (by omega)) (by decide) c_3
        refine lv_iload_n hx hb dX9_isOpenAt_12 rfl (lv_at hl 1 rfl) ?_
        refine lv_if_eq (tgt := 43) hx hb dX9_isOpenAt_13 (by decide) (fun c_5 => ?_) (fun c_5 => ?_)
        · have b_6 := gx_eq (X := (Int32.toInt wo)) (C := 0) rfl (by decide) c_5
          refine lv_iconst (v := 0) hx hb dX9_isOpenAt_43 (by decide) ?_
          refine lv_istore_n (lv' := [(3, .int 0), (4, .int (nI k)), (0, .ref h0), (1, .int n), (2, .int (nI pl))]) hx hb dX9_isOpenAt_44 rfl hl (by decide) rfl (fun ls hl => ?_)
          refine lv_iinc (v := (nI (k + 1))) (lv' := [(4, .int (nI (k + 1))), (3, .int 0), (0, .ref h0), (1, .int n), (2, .int (nI pl))]) hx hb dX9_isOpenAt_45 hl (k := 1) rfl (nI_add k 1) (by decide) rfl (fun ls hl => ?_)
          refine lv_goto (tgt := 5) hx hb dX9_isOpenAt_48 (by decide) ?_
          exact ih_2 (k + 1) 0 (by omega) (oq_keep hop c_5) (by omega) _ _ hP hS ls (lv_sub hl [0, 1, 2, 3, 4] rfl)
        · have b_6 := gn_eq (X := (Int32.toInt wo)) (C := 0) rfl (by decide) c_5
          refine lv_iload_n hx hb dX9_isOpenAt_16 rfl (lv_at hl 3 rfl) ?_
          refine lv_iload hx hb dX9_isOpenAt_17 (lv_at hl 0 rfl) ?_
          refine lv_ishr hx hb dX9_isOpenAt_19 ?_
          refine lv_iconst (v := 1) hx hb dX9_isOpenAt_20 (by decide) ?_
          refine lv_iand hx hb dX9_isOpenAt_21 ?_
          refine lv_if_eq (tgt := 39) hx hb dX9_isOpenAt_22 (by decide) (fun c_7 => ?_) (fun c_7 => ?_)
          · have b_8 := gx_eq (X := (Int32.toInt ((n >>> ((nI k) &&& 31)) &&& 1))) (C := 0) rfl (by decide) c_7
            refine lv_iconst (v := 1) hx hb dX9_isOpenAt_39 (by decide) ?_
            refine lv_goto (tgt := 44) hx hb dX9_isOpenAt_40 (by decide) ?_
            refine lv_istore_n (lv' := [(3, .int 1), (4, .int (nI k)), (0, .ref h0), (1, .int n), (2, .int (nI pl))]) hx hb dX9_isOpenAt_44 rfl hl (by decide) rfl (fun ls hl => ?_)
            refine lv_iinc (v := (nI (k + 1))) (lv' := [(4, .int (nI (k + 1))), (3, .int 1), (0, .ref h0), (1, .int n), (2, .int (nI pl))]) hx hb dX9_isOpenAt_45 hl (k := 1) rfl (nI_add k 1) (by decide) rfl (fun ls hl => ?_)
            refine lv_goto (tgt := 5) hx hb dX9_isOpenAt_48 (by decide) ?_
            exact ih_2 (k + 1) 1 (by omega) (Or.inl ⟨rfl, op_no (oq_all hop c_5) (t_0 (by omega) c_7)⟩) (by omega) _ _ hP hS ls (lv_sub hl [0, 1, 2, 3, 4] rfl)
          · have b_8 := gn_eq (X := (Int32.toInt ((n >>> ((nI k) &&& 31)) &&& 1))) (C := 0) rfl (by decide) c_7
            refine lv_aload_n hx hb dX9_isOpenAt_25 rfl (lv_at hl 2 rfl) ?_
            refine va_get (D := (dC, dI)) (ci := 8) (v := .ref pk1) (C := RX9) (T := TX9) (N := 35) hx hb hts inB_9 hown hK hP 0 rfl rfl 26 (by decide) (hts _ mw_3_208) (fun _ h9 => h9) rfl dX9_isOpenAt_26 ?_
            refine lv_iload_n hx hb dX9_isOpenAt_29 rfl (lv_at hl 4 rfl) ?_
            refine lv_iload hx hb dX9_isOpenAt_30 (lv_at hl 0 rfl) ?_
            refine lv_iadd hx hb dX9_isOpenAt_32 ?_
            refine hx_top (y := (nI (pl + k))) (nI_add pl k) ?_
            refine va_iald hx hb hK hP 1 0 rfl rfl (show vp_in (nI (pl + k)) 100 from vp_in_nI (by omega) (by omega)) dX9_isOpenAt_33 ?_
            refine hx_top (y := (fsl (pl + k))) (congrArg _ (nI_clamp (by omega))) ?_
            refine lv_bipush (v := (-6)) hx hb dX9_isOpenAt_34 (by decide) ?_
            refine lv_icmp_ne (tgt := 43) hx hb dX9_isOpenAt_36 (by decide) (fun c_9 => ?_) (fun c_9 => ?_)
            · have b_10 := gx_ne (X := (Int32.toInt (fsl (pl + k)))) (C := (-6)) rfl (by decide) c_9
              refine lv_iconst (v := 0) hx hb dX9_isOpenAt_43 (by decide) ?_
              refine lv_istore_n (lv' := [(3, .int 0), (4, .int (nI k)), (0, .ref h0), (1, .int n), (2, .int (nI pl))]) hx hb dX9_isOpenAt_44 rfl hl (by decide) rfl (fun ls hl => ?_)
              refine lv_iinc (v := (nI (k + 1))) (lv' := [(4, .int (nI (k + 1))), (3, .int 0), (0, .ref h0), (1, .int n), (2, .int (nI pl))]) hx hb dX9_isOpenAt_45 hl (k := 1) rfl (nI_add k 1) (by decide) rfl (fun ls hl => ?_)
              refine lv_goto (tgt := 5) hx hb dX9_isOpenAt_48 (by decide) ?_
              exact ih_2 (k + 1) 0 (by omega) (Or.inr ⟨rfl, k, by omega, vi_at (t_yes (by omega) c_7) c_9⟩) (by omega) _ _ hP hS ls (lv_sub hl [0, 1, 2, 3, 4] rfl)
            · have b_10 := gn_ne (X := (Int32.toInt (fsl (pl + k)))) (C := (-6)) rfl (by decide) c_9
              refine lv_iconst (v := 1) hx hb dX9_isOpenAt_39 (by decide) ?_
              refine lv_goto (tgt := 44) hx hb dX9_isOpenAt_40 (by decide) ?_
              refine lv_istore_n (lv' := [(3, .int 1), (4, .int (nI k)), (0, .ref h0), (1, .int n), (2, .int (nI pl))]) hx hb dX9_isOpenAt_44 rfl hl (by decide) rfl (fun ls hl => ?_)
              refine lv_iinc (v := (nI (k + 1))) (lv' := [(4, .int (nI (k + 1))), (3, .int 1), (0, .ref h0), (1, .int n), (2, .int (nI pl))]) hx hb dX9_isOpenAt_45 hl (k := 1) rfl (nI_add k 1) (by decide) rfl (fun ls hl => ?_)
              refine lv_goto (tgt := 5) hx hb dX9_isOpenAt_48 (by decide) ?_
              exact ih_2 (k + 1) 1 (by omega) (Or.inl ⟨rfl, op_free (oq_all hop c_5) c_9⟩) (by omega) _ _ hP hS ls (lv_sub hl [0, 1, 2, 3, 4] rfl)
  exact key_1 ((8 - 0) + 1) 0 1 (by omega) (Or.inl ⟨rfl, fun n9 h9 => absurd h9 (Nat.not_lt_zero n9)⟩) (Nat.lt_succ_self _) _ _ hP hS ls (lv_sub hl [0, 1, 2, 3, 4] rfl)
set_option maxHeartbeats 4000000 in
set_option maxRecDepth 100000 in
theorem m_pack (l : Launch) (dC : Nat → ClassId) (dI : Nat → Nat → Nat) (sz : Nat) (h0 : Nat) (w0 : Value) (w1 : Value) (w2 : Value) (l7 : Nat) (kn : Nat) (l4 : Nat) (l1 : Nat) (w7 : Value) (w8 : Value) (w9 : Value) (w10 : Value) (w11 : Value) (w12 : Value) (w13 : Value) (nm0 : Nat) (w15 : Value) (w16 : Value) (w17 : Value) (w18 : Value) (w19 : Value) (w20 : Value) (w21 : Value) (w22 : Value) (w23 : Value) (w24 : Value) (w25 : Value) (pk1 : Nat) (pk2 : Nat) (pl0 : Int32) (w29 : Value) (w30 : Value) (w31 : Value) (w32 : Value) (w33 : Value) (w34 : Value) (kl1 : ClassId) (fll : Nat → Int32) (kl4 : ClassId) (fln : Nat → Int32) (knm0 : ClassId) (fnm : Nat → Int32) (kl7 : ClassId) (fib : Nat → Int32) (kpk1 : ClassId) (fsl : Nat → Int32) (kpk2 : ClassId) (fpu : Nat → Int32) (hkn : kn ≤ 10) (hll : BdOk 10 10 fll) (hln : LnOk fll fln kn) : Met l yX9_pack (wq yX9_pack cX9_pack 5 none) ({ frames := 3, cells := 0, slots := 0, locals := 70 }) (va_Pc [.ref h0] (pcW dC dI [(kl1, .int), (kl4, .int), (knm0, .int), (kl7, .boolean), (kpk1, .int), (kpk2, .int)] [(h0, .inr (8, [w0, w1, w2, .ref l7, .int (nI kn), .ref l4, .ref l1, w7, w8, w9, w10, w11, w12, w13, .ref nm0, w15, w16, w17, w18, w19, w20, w21, w22, w23, w24, w25, .ref pk1, .ref pk2, .int pl0, w29, w30, w31, w32, w33, w34])), (l1, .inl (kl1, 10, .inl fll)), (l4, .inl (kl4, 100, .inl fln)), (nm0, .inl (knm0, 10, .inl fnm)), (l7, .inl (kl7, 10, .inl fib)), (pk1, .inl (kpk1, 100, .inl fsl)), (pk2, .inl (kpk2, 10, .inl fpu))] sz)) (va_Qv (fun _ : Unit => True) (fun _ t => ∃ (fsl2 : Nat → Int32) (fpu2 : Nat → Int32) (pl2 : Nat), (fsl2 = (pkF (fiK fsl 100) fpu (rowM fll fln fnm fib) kn).1) ∧ (fpu2 = (pkF (fiK fsl 100) fpu (rowM fll fln fnm fib) kn).2.1) ∧ (pl2 = (pkF (fiK fsl 100) fpu (rowM fll fln fnm fib) kn).2.2) ∧ va_P (dC, dI) vwCl [(h0, .inr (8, [w0, w1, w2, .ref l7, .int (nI kn), .ref l4, .ref l1, w7, w8, w9, w10, w11, w12, w13, .ref nm0, w15, w16, w17, w18, w19, w20, w21, w22, w23, w24, w25, .ref pk1, .ref pk2, .int (nI pl2), w29, w30, w31, w32, w33, w34])), (l1, .inl (kl1, 10, .inl fll)), (l4, .inl (kl4, 100, .inl fln)), (nm0, .inl (knm0, 10, .inl fnm)), (l7, .inl (kl7, 10, .inl fib)), (pk1, .inl (kpk1, 100, .inl fsl2)), (pk2, .inl (kpk2, 10, .inl fpu2))] t.heap ∧ va_K (dC, dI) vwCl [(kl1, .int), (kl4, .int), (knm0, .int), (kl7, .boolean), (kpk1, .int), (kpk2, .int)] t ∧ va_D (va_A [(h0, .inr (8, [w0, w1, w2, .ref l7, .int (nI kn), .ref l4, .ref l1, w7, w8, w9, w10, w11, w12, w13, .ref nm0, w15, w16, w17, w18, w19, w20, w21, w22, w23, w24, w25, .ref pk1, .ref pk2, .int pl0, w29, w30, w31, w32, w33, w34])), (l1, .inl (kl1, 10, .inl fll)), (l4, .inl (kl4, 100, .inl fln)), (nm0, .inl (knm0, 10, .inl fnm)), (l7, .inl (kl7, 10, .inl fib)), (pk1, .inl (kpk1, 100, .inl fsl)), (pk2, .inl (kpk2, 10, .inl fpu))] sz) [(h0, .inr (8, [w0, w1, w2, .ref l7, .int (nI kn), .ref l4, .ref l1, w7, w8, w9, w10, w11, w12, w13, .ref nm0, w15, w16, w17, w18, w19, w20, w21, w22, w23, w24, w25, .ref pk1, .ref pk2, .int (nI pl2), w29, w30, w31, w32, w33, w34])), (l1, .inl (kl1, 10, .inl fll)), (l4, .inl (kl4, 100, .inl fln)), (nm0, .inl (knm0, 10, .inl fnm)), (l7, .inl (kl7, 10, .inl fib)), (pk1, .inl (kpk1, 100, .inl fsl2)), (pk2, .inl (kpk2, 10, .inl fpu2))]) (va_A [(h0, .inr (8, [w0, w1, w2, .ref l7, .int (nI kn), .ref l4, .ref l1, w7, w8, w9, w10, w11, w12, w13, .ref nm0, w15, w16, w17, w18, w19, w20, w21, w22, w23, w24, w25, .ref pk1, .ref pk2, .int pl0, w29, w30, w31, w32, w33, w34])), (l1, .inl (kl1, 10, .inl fll)), (l4, .inl (kl4, 100, .inl fln)), (nm0, .inl (knm0, 10, .inl fnm)), (l7, .inl (kl7, 10, .inl fib)), (pk1, .inl (kpk1, 100, .inl fsl)), (pk2, .inl (kpk2, 10, .inl fpu))] sz)) 0 0 (va_A [(h0, .inr (8, [w0, w1, w2, .ref l7, .int (nI kn), .ref l4, .ref l1, w7, w8, w9, w10, w11, w12, w13, .ref nm0, w15, w16, w17, w18, w19, w20, w21, w22, w23, w24, w25, .ref pk1, .ref pk2, .int pl0, w29, w30, w31, w32, w33, w34])), (l1, .inl (kl1, 10, .inl fll)), (l4, .inl (kl4, 100, .inl fln)), (nm0, .inl (knm0, 10, .inl fnm)), (l7, .inl (kl7, 10, .inl fib)), (pk1, .inl (kpk1, 100, .inl fsl)), (pk2, .inl (kpk2, 10, .inl fpu))] sz) := by
  refine Met.ofW (cc := cX9_pack) (maxL := 5) (ret := none) (by decide) rfl ?_
  intro p e s m args below meth c s₁ B hml hv
  obtain ⟨rfl, hsz, hN, hP, hK, hD0⟩ := hv
  have hx := B.exec
  have hb := B.bytes
  have hr := B.returns
  have hts0 := atoms_spec (ws := (wq yX9_pack cX9_pack 5 none)) B.pre
  have hts : ∀ w ∈ BG, w.before _ s = true := fun w h => hts0 w (List.mem_cons_of_mem _ h)
  have hown : s.vm.findClass RX9 = some m.cls := findClass_of_methodNamed B.named
  have hlocks := B.notSynchronized
  subst hsz
  have hD := hD0.self (sz := s.heap.size)
  generalize hAe : va_A [(h0, .inr (8, [w0, w1, w2, .ref l7, .int (nI kn), .ref l4, .ref l1, w7, w8, w9, w10, w11, w12, w13, .ref nm0, w15, w16, w17, w18, w19, w20, w21, w22, w23, w24, w25, .ref pk1, .ref pk2, .int pl0, w29, w30, w31, w32, w33, w34])), (l1, .inl (kl1, 10, .inl fll)), (l4, .inl (kl4, 100, .inl fln)), (nm0, .inl (knm0, 10, .inl fnm)), (l7, .inl (kl7, 10, .inl fib)), (pk1, .inl (kpk1, 100, .inl fsl)), (pk2, .inl (kpk2, 10, .inl fpu))] s.heap.size = A at hD ⊢
  have hA : ∀ q : Nat, s.heap.size ≤ q → A q := fun q h => by rw [← hAe]; exact Or.inr h
  have hS : va_S A s.heap s.heap [] := va_S.rf
  clear hAe hD0
  have hP : va_P (dC, dI) vwCl [(h0, .inr (8, [w0, w1, w2, .ref l7, .int (nI kn), .ref l4, .ref l1, w7, w8, w9, w10, w11, w12, w13, .ref nm0, w15, w16, w17, w18, w19, w20, w21, w22, w23, w24, w25, .ref pk1, .ref pk2, .int pl0, w29, w30, w31, w32, w33, w34])), (l1, .inl (kl1, 10, .inl fll)), (l4, .inl (kl4, 100, .inl fln)), (nm0, .inl (knm0, 10, .inl fnm)), (l7, .inl (kl7, 10, .inl fib)), (pk1, .inl (kpk1, 100, .inl fsl)), (pk2, .inl (kpk2, 10, .inl fpu))] s.heap := hP
  have hl := lv_entry ([.ref h0]) (n := 5) (Nat.le_of_ble_eq_true rfl)
  rw [lg_entry_eq]
  generalize (lg_sl ([.ref h0]) ++ List.replicate (5 - (lg_sl ([.ref h0])).length) Slot.unset).toArray = ls at hl ⊢
  have hl : lv_has ls 5 [(0, .ref h0)] := hl
  refine lv_aload_n hx hb dX9_pack_0 rfl (lv_at hl 0 rfl) ?_
  refine lv_iconst (v := 0) hx hb dX9_pack_1 (by decide) ?_
  refine va_put (D := (dC, dI)) (ci := 8) (v := .int 0) (ty := .int) (C := RX9) (T := TX9) (N := 35) hx hb hts inB_9 tyX9 tyX9_ok nmX9 hown hK hP hD hS 0 rfl rfl 28 (by decide) (hts _ mw_3_210) (fun _ h9 => h9) rfl (by decide +kernel) rfl rfl (Nat.le_of_ble_eq_true rfl) dX9_pack_2 (fun H locs hP hD hS => ?_)
  have hP : va_P (dC, dI) vwCl [(h0, .inr (8, [w0, w1, w2, .ref l7, .int (nI kn), .ref l4, .ref l1, w7, w8, w9, w10, w11, w12, w13, .ref nm0, w15, w16, w17, w18, w19, w20, w21, w22, w23, w24, w25, .ref pk1, .ref pk2, .int 0, w29, w30, w31, w32, w33, w34])), (l1, .inl (kl1, 10, .inl fll)), (l4, .inl (kl4, 100, .inl fln)), (nm0, .inl (knm0, 10, .inl fnm)), (l7, .inl (kl7, 10, .inl fib)), (pk1, .inl (kpk1, 100, .inl fsl)), (pk2, .inl (kpk2, 10, .inl fpu))] H := hP
  have hD : va_D A [(h0, .inr (8, [w0, w1, w2, .ref l7, .int (nI kn), .ref l4, .ref l1, w7, w8, w9, w10, w11, w12, w13, .ref nm0, w15, w16, w17, w18, w19, w20, w21, w22, w23, w24, w25, .ref pk1, .ref pk2, .int 0, w29, w30, w31, w32, w33, w34])), (l1, .inl (kl1, 10, .inl fll)), (l4, .inl (kl4, 100, .inl fln)), (nm0, .inl (knm0, 10, .inl fnm)), (l7, .inl (kl7, 10, .inl fib)), (pk1, .inl (kpk1, 100, .inl fsl)), (pk2, .inl (kpk2, 10, .inl fpu))] := hD
  refine lv_iconst (v := 0) hx hb dX9_pack_5 (by decide) ?_
  refine lv_istore_n (lv' := [(1, .int 0), (0, .ref h0)]) hx hb dX9_pack_6 rfl hl (by decide) rfl (fun ls hl => ?_)
  have key_1 : ∀ (fu : Nat) (k : Nat) (fsx : Nat → Int32), (k ≤ 100) → (SlT fsx k) → (fsx = fiK fsl k) → 100 - k < fu → ∀ (H : Heap) (locs : List Loc), va_P (dC, dI) vwCl [(h0, .inr (8, [w0, w1, w2, .ref l7, .int (nI kn), .ref l4, .ref l1, w7, w8, w9, w10, w11, w12, w13, .ref nm0, w15, w16, w17, w18, w19, w20, w21, w22, w23, w24, w25, .ref pk1, .ref pk2, .int 0, w29, w30, w31, w32, w33, w34])), (l1, .inl (kl1, 10, .inl fll)), (l4, .inl (kl4, 100, .inl fln)), (nm0, .inl (knm0, 10, .inl fnm)), (l7, .inl (kl7, 10, .inl fib)), (pk1, .inl (kpk1, 100, .inl fsx)), (pk2, .inl (kpk2, 10, .inl fpu))] H → va_D A [(h0, .inr (8, [w0, w1, w2, .ref l7, .int (nI kn), .ref l4, .ref l1, w7, w8, w9, w10, w11, w12, w13, .ref nm0, w15, w16, w17, w18, w19, w20, w21, w22, w23, w24, w25, .ref pk1, .ref pk2, .int 0, w29, w30, w31, w32, w33, w34])), (l1, .inl (kl1, 10, .inl fll)), (l4, .inl (kl4, 100, .inl fln)), (nm0, .inl (knm0, 10, .inl fnm)), (l7, .inl (kl7, 10, .inl fib)), (pk1, .inl (kpk1, 100, .inl fsx)), (pk2, .inl (kpk2, 10, .inl fpu))] → va_S A s.heap H locs → ∀ (ls : Array Slot), lv_has ls 5 [(1, .int (nI k)), (0, .ref h0)] → W p l e (headSpec (wq yX9_pack cX9_pack 5 none) ({ frames := 3, cells := 0, slots := 0, locals := 70 })).room s m (([.ref h0] : List Value)).toArray below meth c H locs 0 0 (MQ below (va_Qv (fun _ : Unit => True) (fun _ t => ∃ (fsl2 : Nat → Int32) (fpu2 : Nat → Int32) (pl2 : Nat), (fsl2 = (pkF (fiK fsl 100) fpu (rowM fll fln fnm fib) kn).1) ∧ (fpu2 = (pkF (fiK fsl 100) fpu (rowM fll fln fnm fib) kn).2.1) ∧ (pl2 = (pkF (fiK fsl 100) fpu (rowM fll fln fnm fib) kn).2.2) ∧ va_P (dC, dI) vwCl [(h0, .inr (8, [w0, w1, w2, .ref l7, .int (nI kn), .ref l4, .ref l1, w7, w8, w9, w10, w11, w12, w13, .ref nm0, w15, w16, w17, w18, w19, w20, w21, w22, w23, w24, w25, .ref pk1, .ref pk2, .int (nI pl2), w29, w30, w31, w32, w33, w34])), (l1, .inl (kl1, 10, .inl fll)), (l4, .inl (kl4, 100, .inl fln)), (nm0, .inl (knm0, 10, .inl fnm)), (l7, .inl (kl7, 10, .inl fib)), (pk1, .inl (kpk1, 100, .inl fsl2)), (pk2, .inl (kpk2, 10, .inl fpu2))] t.heap ∧ va_K (dC, dI) vwCl [(kl1, .int), (kl4, .int), (knm0, .int), (kl7, .boolean), (kpk1, .int), (kpk2, .int)] t ∧ va_D A [(h0, .inr (8, [w0, w1, w2, .ref l7, .int (nI kn), .ref l4, .ref l1, w7, w8, w9, w10, w11, w12, w13, .ref nm0, w15, w16, w17, w18, w19, w20, w21, w22, w23, w24, w25, .ref pk1, .ref pk2, .int (nI pl2), w29, w30, w31, w32, w33, w34])), (l1, .inl (kl1, 10, .inl fll)), (l4, .inl (kl4, 100, .inl fln)), (nm0, .inl (knm0, 10, .inl fnm)), (l7, .inl (kl7, 10, .inl fib)), (pk1, .inl (kpk1, 100, .inl fsl2)), (pk2, .inl (kpk2, 10, .inl fpu2))]) A) (([.ref h0] : List Value)).toArray s 0 0 A) (F0 m 7 ls []) := by
    intro fu
    induction fu with
    | zero => intro k fsx hk hst hfi hme; exact absurd hme (Nat.not_lt_zero _)
    | succ fu ih_2 =>
      intro k fsx hk hst hfi hme H locs hP hD hS ls hl
      refine lv_iload_n hx hb dX9_pack_7 rfl (lv_at hl 0 rfl) ?_
      refine lv_bipush (v := 100) hx hb dX9_pack_8 (by decide) ?_
      refine lv_icmp_ge (tgt := 27) hx hb dX9_pack_10 (by decide) (fun c_3 => ?_) (fun c_3 => ?_)
      · have b_4 := gx_ge (X := ((k : Nat) : Int)) (C := 100) (nI_toInt (by omega)) (by decide) c_3
        refine lv_iconst (v := 0) hx hb dX9_pack_27 (by decide) ?_
        refine lv_istore_n (lv' := [(1, .int 0), (0, .ref h0)]) hx hb dX9_pack_28 rfl hl (by decide) rfl (fun ls hl => ?_)
        have key_5 : ∀ (fu : Nat) (k : Nat) (fsy : Nat → Int32) (fpy : Nat → Int32) (pl : Nat), (k ≤ kn) → (pl ≤ 8 * k) → (SlE fsy pl) → ((fsy, fpy, pl) = pkF (fiK fsl 100) fpu (rowM fll fln fnm fib) k) → kn - k < fu → ∀ (H : Heap) (locs : List Loc), va_P (dC, dI) vwCl [(h0, .inr (8, [w0, w1, w2, .ref l7, .int (nI kn), .ref l4, .ref l1, w7, w8, w9, w10, w11, w12, w13, .ref nm0, w15, w16, w17, w18, w19, w20, w21, w22, w23, w24, w25, .ref pk1, .ref pk2, .int (nI pl), w29, w30, w31, w32, w33, w34])), (l1, .inl (kl1, 10, .inl fll)), (l4, .inl (kl4, 100, .inl fln)), (nm0, .inl (knm0, 10, .inl fnm)), (l7, .inl (kl7, 10, .inl fib)), (pk1, .inl (kpk1, 100, .inl fsy)), (pk2, .inl (kpk2, 10, .inl fpy))] H → va_D A [(h0, .inr (8, [w0, w1, w2, .ref l7, .int (nI kn), .ref l4, .ref l1, w7, w8, w9, w10, w11, w12, w13, .ref nm0, w15, w16, w17, w18, w19, w20, w21, w22, w23, w24, w25, .ref pk1, .ref pk2, .int (nI pl), w29, w30, w31, w32, w33, w34])), (l1, .inl (kl1, 10, .inl fll)), (l4, .inl (kl4, 100, .inl fln)), (nm0, .inl (knm0, 10, .inl fnm)), (l7, .inl (kl7, 10, .inl fib)), (pk1, .inl (kpk1, 100, .inl fsy)), (pk2, .inl (kpk2, 10, .inl fpy))] → va_S A s.heap H locs → ∀ (ls : Array Slot), lv_has ls 5 [(1, .int (nI k)), (0, .ref h0)] → W p l e (headSpec (wq yX9_pack cX9_pack 5 none) ({ frames := 3, cells := 0, slots := 0, locals := 70 })).room s m (([.ref h0] : List Value)).toArray below meth c H locs 0 0 (MQ below (va_Qv (fun _ : Unit => True) (fun _ t => ∃ (fsl2 : Nat → Int32) (fpu2 : Nat → Int32) (pl2 : Nat), (fsl2 = (pkF (fiK fsl 100) fpu (rowM fll fln fnm fib) kn).1) ∧ (fpu2 = (pkF (fiK fsl 100) fpu (rowM fll fln fnm fib) kn).2.1) ∧ (pl2 = (pkF (fiK fsl 100) fpu (rowM fll fln fnm fib) kn).2.2) ∧ va_P (dC, dI) vwCl [(h0, .inr (8, [w0, w1, w2, .ref l7, .int (nI kn), .ref l4, .ref l1, w7, w8, w9, w10, w11, w12, w13, .ref nm0, w15, w16, w17, w18, w19, w20, w21, w22, w23, w24, w25, .ref pk1, .ref pk2, .int (nI pl2), w29, w30, w31, w32, w33, w34])), (l1, .inl (kl1, 10, .inl fll)), (l4, .inl (kl4, 100, .inl fln)), (nm0, .inl (knm0, 10, .inl fnm)), (l7, .inl (kl7, 10, .inl fib)), (pk1, .inl (kpk1, 100, .inl fsl2)), (pk2, .inl (kpk2, 10, .inl fpu2))] t.heap ∧ va_K (dC, dI) vwCl [(kl1, .int), (kl4, .int), (knm0, .int), (kl7, .boolean), (kpk1, .int), (kpk2, .int)] t ∧ va_D A [(h0, .inr (8, [w0, w1, w2, .ref l7, .int (nI kn), .ref l4, .ref l1, w7, w8, w9, w10, w11, w12, w13, .ref nm0, w15, w16, w17, w18, w19, w20, w21, w22, w23, w24, w25, .ref pk1, .ref pk2, .int (nI pl2), w29, w30, w31, w32, w33, w34])), (l1, .inl (kl1, 10, .inl fll)), (l4, .inl (kl4, 100, .inl fln)), (nm0, .inl (knm0, 10, .inl fnm)), (l7, .inl (kl7, 10, .inl fib)), (pk1, .inl (kpk1, 100, .inl fsl2)), (pk2, .inl (kpk2, 10, .inl fpu2))]) A) (([.ref h0] : List Value)).toArray s 0 0 A) (F0 m 29 ls []) := by
          intro fu
          induction fu with
          | zero => intro k fsy fpy pl hk hpl8 hsl hpk hme; exact absurd hme (Nat.not_lt_zero _)
          | succ fu ih_6 =>
            intro k fsy fpy pl hk hpl8 hsl hpk hme H locs hP hD hS ls hl
            refine lv_iload_n hx hb dX9_pack_29 rfl (lv_at hl 0 rfl) ?_
            refine lv_aload_n hx hb dX9_pack_30 rfl (lv_at hl 1 rfl) ?_
            refine va_get (D := (dC, dI)) (ci := 8) (v := .int (nI kn)) (C := RX9) (T := TX9) (N := 35) hx hb hts inB_9 hown hK hP 0 rfl rfl 4 (by decide) (hts _ mw_3_186) (fun _ h9 => h9) rfl dX9_pack_31 ?_
            refine lv_icmp_ge (tgt := 168) hx hb dX9_pack_34 (by decide) (fun c_7 => ?_) (fun c_7 => ?_)
            · have b_8 := gx_ge (X := ((k : Nat) : Int)) (C := ((kn : Nat) : Int)) (nI_toInt (by omega)) (nI_toInt (by omega)) c_7
              have hP9 := hP.sub (ws' := [(h0, .inr (8, [w0, w1, w2, .ref l7, .int (nI kn), .ref l4, .ref l1, w7, w8, w9, w10, w11, w12, w13, .ref nm0, w15, w16, w17, w18, w19, w20, w21, w22, w23, w24, w25, .ref pk1, .ref pk2, .int (nI pl), w29, w30, w31, w32, w33, w34])), (l1, .inl (kl1, 10, .inl fll)), (l4, .inl (kl4, 100, .inl fln)), (nm0, .inl (knm0, 10, .inl fnm)), (l7, .inl (kl7, 10, .inl fib)), (pk1, .inl (kpk1, 100, .inl fsy)), (pk2, .inl (kpk2, 10, .inl fpy))]) [0, 1, 2, 3, 4, 5, 6] rfl
              have hD9 := hD.sub (ws' := [(h0, .inr (8, [w0, w1, w2, .ref l7, .int (nI kn), .ref l4, .ref l1, w7, w8, w9, w10, w11, w12, w13, .ref nm0, w15, w16, w17, w18, w19, w20, w21, w22, w23, w24, w25, .ref pk1, .ref pk2, .int (nI pl), w29, w30, w31, w32, w33, w34])), (l1, .inl (kl1, 10, .inl fll)), (l4, .inl (kl4, 100, .inl fln)), (nm0, .inl (knm0, 10, .inl fnm)), (l7, .inl (kl7, 10, .inl fib)), (pk1, .inl (kpk1, 100, .inl fsy)), (pk2, .inl (kpk2, 10, .inl fpy))]) [0, 1, 2, 3, 4, 5, 6] (by decide) rfl
              have hK9 := hK.sub (tys' := [(kl1, .int), (kl4, .int), (knm0, .int), (kl7, .boolean), (kpk1, .int), (kpk2, .int)]) [0, 1, 2, 3, 4, 5] rfl
              exact W.vret hx hb hr (fun t ht hW => ⟨⟨(), rfl, trivial, fsy, fpy, pl, (pk_3 (by rw [show kn = k from (by omega)]; exact hpk)).1, (pk_3 (by rw [show kn = k from (by omega)]; exact hpk)).2.1, (pk_3 (by rw [show kn = k from (by omega)]; exact hpk)).2.2, by rw [ht]; exact hP9, va_K.moved hW.alike hK9, hD9⟩, hS.F ht⟩) hS.2.2 dX9_pack_168
            · have b_8 := gn_ge (X := ((k : Nat) : Int)) (C := ((kn : Nat) : Int)) (nI_toInt (by omega)) (nI_toInt (by omega)) c_7
              refine lv_aload_n hx hb dX9_pack_37 rfl (lv_at hl 1 rfl) ?_
              refine lv_iload_n hx hb dX9_pack_38 rfl (lv_at hl 0 rfl) ?_
              have hPc := hP.sub (ws' := [(h0, .inr (8, [w0, w1, w2, .ref l7, .int (nI kn), .ref l4, .ref l1, w7, w8, w9, w10, w11, w12, w13, .ref nm0, w15, w16, w17, w18, w19, w20, w21, w22, w23, w24, w25, .ref pk1, .ref pk2, .int (nI pl), w29, w30, w31, w32, w33, w34])), (l1, .inl (kl1, 10, .inl fll)), (l4, .inl (kl4, 100, .inl fln)), (nm0, .inl (knm0, 10, .inl fnm)), (l7, .inl (kl7, 10, .inl fib))]) [0, 1, 2, 3, 4] rfl
              have hDc := hD.sub (ws' := [(h0, .inr (8, [w0, w1, w2, .ref l7, .int (nI kn), .ref l4, .ref l1, w7, w8, w9, w10, w11, w12, w13, .ref nm0, w15, w16, w17, w18, w19, w20, w21, w22, w23, w24, w25, .ref pk1, .ref pk2, .int (nI pl), w29, w30, w31, w32, w33, w34])), (l1, .inl (kl1, 10, .inl fll)), (l4, .inl (kl4, 100, .inl fln)), (nm0, .inl (knm0, 10, .inl fnm)), (l7, .inl (kl7, 10, .inl fib))]) [0, 1, 2, 3, 4] (by decide) rfl
              have hKc := hK.sub (tys' := [(kl1, .int), (kl4, .int), (knm0, .int), (kl7, .boolean)]) [0, 1, 2, 3] rfl
              refine va_calli (va_runV (As := [.int (nI k)]) (rest := []) ⟨hx, hb, hml, hown, hts⟩ (m_answeredBy l dC dI H.size h0 (w0) (w1) (w2) l7 kn l4 l1 (w7) (w8) (w9) (w10) (w11) (w12) (w13) nm0 (w15) (w16) (w17) (w18) (w19) (w20) (w21) (w22) (w23) (w24) (w25) (.ref pk1) (.ref pk2) (.int (nI pl)) (w29) (w30) (w31) (w32) (w33) (w34) kl1 fll kl4 fln knm0 fnm kl7 fib k hkn hll hln (by omega)) (cwV 1 hts (gV mw_4_202 mw_4_204 mw_0_30 mw_1_9 mw_4_205) rfl rfl rfl (by decide +kernel) ⟨Nat.le_of_ble_eq_true rfl, Nat.le_of_ble_eq_true rfl⟩) ⟨pcW_blind, va_recv hKc hPc (ci := 8) (q0 := 0) rfl rfl, pcW_at hPc hKc hDc hN⟩ rfl rfl hl.1 rfl (lv_room (Nat.le_of_ble_eq_true rfl)) dX9_pack_39 ⟨Nat.le_of_ble_eq_true rfl, Nat.le_of_ble_eq_true rfl⟩) hS (fun q h1 h2 => absurd h2 (Nat.not_le.mpr h1)) (fun q h => hA q (Nat.le_trans hS.1 h)) (fun r_9 u t H1 locs ht hvm hw_9 hB hz1 hk1 hS => ?_)
              have hP := keepP hP hk1
              clear hz1 hk1 hB ht hvm hPc hDc hKc
              generalize H1 = H at hP hS ⊢
              refine lv_istore_n (lv' := [(2, .int r_9), (1, .int (nI k)), (0, .ref h0)]) hx hb dX9_pack_42 rfl hl (by decide) rfl (fun ls hl => ?_)
              refine lv_aload_n hx hb dX9_pack_43 rfl (lv_at hl 2 rfl) ?_
              refine va_get (D := (dC, dI)) (ci := 8) (v := .ref pk2) (C := RX9) (T := TX9) (N := 35) hx hb hts inB_9 hown hK hP 0 rfl rfl 27 (by decide) (hts _ mw_3_209) (fun _ h9 => h9) rfl dX9_pack_44 ?_
              refine lv_iload_n hx hb dX9_pack_47 rfl (lv_at hl 1 rfl) ?_
              refine lv_iload_n hx hb dX9_pack_48 rfl (lv_at hl 0 rfl) ?_
              refine lv_if_ne (tgt := 57) hx hb dX9_pack_49 (by decide) (fun c_10 => ?_) (fun c_10 => ?_)
              · have b_11 := gx_ne (X := (Int32.toInt r_9)) (C := 0) rfl (by decide) c_10
                refine lv_iconst (v := 0) hx hb dX9_pack_57 (by decide) ?_
                refine va_iast hx hb hK hP hD hS 6 5 rfl rfl (show vp_in (nI k) 10 from vp_in_nI (by omega) (by omega)) dX9_pack_58 (fun H locs hP hD hS => ?_)
                obtain ⟨f_12, ef_12⟩ : ∃ g : Nat → Int32, g = upd fpy (Int32.toNatClampNeg (nI k)) 0 := ⟨_, rfl⟩
                rw [← ef_12] at hP hD
                have ef_12 : f_12 = upd fpy k 0 := by rw [ef_12, nI_clamp (by omega)]
                have hP : va_P (dC, dI) vwCl [(h0, .inr (8, [w0, w1, w2, .ref l7, .int (nI kn), .ref l4, .ref l1, w7, w8, w9, w10, w11, w12, w13, .ref nm0, w15, w16, w17, w18, w19, w20, w21, w22, w23, w24, w25, .ref pk1, .ref pk2, .int (nI pl), w29, w30, w31, w32, w33, w34])), (l1, .inl (kl1, 10, .inl fll)), (l4, .inl (kl4, 100, .inl fln)), (nm0, .inl (knm0, 10, .inl fnm)), (l7, .inl (kl7, 10, .inl fib)), (pk1, .inl (kpk1, 100, .inl fsy)), (pk2, .inl (kpk2, 10, .inl f_12))] H := hP
                have hD : va_D A [(h0, .inr (8, [w0, w1, w2, .ref l7, .int (nI kn), .ref l4, .ref l1, w7, w8, w9, w10, w11, w12, w13, .ref nm0, w15, w16, w17, w18, w19, w20, w21, w22, w23, w24, w25, .ref pk1, .ref pk2, .int (nI pl), w29, w30, w31, w32, w33, w34])), (l1, .inl (kl1, 10, .inl fll)), (l4, .inl (kl4, 100, .inl fln)), (nm0, .inl (knm0, 10, .inl fnm)), (l7, .inl (kl7, 10, .inl fib)), (pk1, .inl (kpk1, 100, .inl fsy)), (pk2, .inl (kpk2, 10, .inl f_12))] := hD
                have key_13 : ∀ (fu : Nat) (pz : Nat) (fpz : Nat → Int32), (fpz k = nI pz) → (pz ≤ pl) → (∀ p9, p9 < pz → viP fsy r_9 p9) → (fpz = upd fpy k (nI pz)) → pl - pz < fu → ∀ (H : Heap) (locs : List Loc), va_P (dC, dI) vwCl [(h0, .inr (8, [w0, w1, w2, .ref l7, .int (nI kn), .ref l4, .ref l1, w7, w8, w9, w10, w11, w12, w13, .ref nm0, w15, w16, w17, w18, w19, w20, w21, w22, w23, w24, w25, .ref pk1, .ref pk2, .int (nI pl), w29, w30, w31, w32, w33, w34])), (l1, .inl (kl1, 10, .inl fll)), (l4, .inl (kl4, 100, .inl fln)), (nm0, .inl (knm0, 10, .inl fnm)), (l7, .inl (kl7, 10, .inl fib)), (pk1, .inl (kpk1, 100, .inl fsy)), (pk2, .inl (kpk2, 10, .inl fpz))] H → va_D A [(h0, .inr (8, [w0, w1, w2, .ref l7, .int (nI kn), .ref l4, .ref l1, w7, w8, w9, w10, w11, w12, w13, .ref nm0, w15, w16, w17, w18, w19, w20, w21, w22, w23, w24, w25, .ref pk1, .ref pk2, .int (nI pl), w29, w30, w31, w32, w33, w34])), (l1, .inl (kl1, 10, .inl fll)), (l4, .inl (kl4, 100, .inl fln)), (nm0, .inl (knm0, 10, .inl fnm)), (l7, .inl (kl7, 10, .inl fib)), (pk1, .inl (kpk1, 100, .inl fsy)), (pk2, .inl (kpk2, 10, .inl fpz))] → va_S A s.heap H locs → ∀ (ls : Array Slot), lv_has ls 5 [(2, .int r_9), (1, .int (nI k)), (0, .ref h0)] → W p l e (headSpec (wq yX9_pack cX9_pack 5 none) ({ frames := 3, cells := 0, slots := 0, locals := 70 })).room s m (([.ref h0] : List Value)).toArray below meth c H locs 0 0 (MQ below (va_Qv (fun _ : Unit => True) (fun _ t => ∃ (fsl2 : Nat → Int32) (fpu2 : Nat → Int32) (pl2 : Nat), (fsl2 = (pkF (fiK fsl 100) fpu (rowM fll fln fnm fib) kn).1) ∧ (fpu2 = (pkF (fiK fsl 100) fpu (rowM fll fln fnm fib) kn).2.1) ∧ (pl2 = (pkF (fiK fsl 100) fpu (rowM fll fln fnm fib) kn).2.2) ∧ va_P (dC, dI) vwCl [(h0, .inr (8, [w0, w1, w2, .ref l7, .int (nI kn), .ref l4, .ref l1, w7, w8, w9, w10, w11, w12, w13, .ref nm0, w15, w16, w17, w18, w19, w20, w21, w22, w23, w24, w25, .ref pk1, .ref pk2, .int (nI pl2), w29, w30, w31, w32, w33, w34])), (l1, .inl (kl1, 10, .inl fll)), (l4, .inl (kl4, 100, .inl fln)), (nm0, .inl (knm0, 10, .inl fnm)), (l7, .inl (kl7, 10, .inl fib)), (pk1, .inl (kpk1, 100, .inl fsl2)), (pk2, .inl (kpk2, 10, .inl fpu2))] t.heap ∧ va_K (dC, dI) vwCl [(kl1, .int), (kl4, .int), (knm0, .int), (kl7, .boolean), (kpk1, .int), (kpk2, .int)] t ∧ va_D A [(h0, .inr (8, [w0, w1, w2, .ref l7, .int (nI kn), .ref l4, .ref l1, w7, w8, w9, w10, w11, w12, w13, .ref nm0, w15, w16, w17, w18, w19, w20, w21, w22, w23, w24, w25, .ref pk1, .ref pk2, .int (nI pl2), w29, w30, w31, w32, w33, w34])), (l1, .inl (kl1, 10, .inl fll)), (l4, .inl (kl4, 100, .inl fln)), (nm0, .inl (knm0, 10, .inl fnm)), (l7, .inl (kl7, 10, .inl fib)), (pk1, .inl (kpk1, 100, .inl fsl2)), (pk2, .inl (kpk2, 10, .inl fpu2))]) A) (([.ref h0] : List Value)).toArray s 0 0 A) (F0 m 59 ls []) := by
                  intro fu
                  induction fu with
                  | zero => intro pz fpz epz hpz hal9 hfz hme; exact absurd hme (Nat.not_lt_zero _)
                  | succ fu ih_14 =>
                    intro pz fpz epz hpz hal9 hfz hme H locs hP hD hS ls hl
                    refine lv_iload_n hx hb dX9_pack_59 rfl (lv_at hl 0 rfl) ?_
                    refine lv_if_eq (tgt := 90) hx hb dX9_pack_60 (by decide) (fun h => absurd (gx_eq (X := (Int32.toInt r_9)) (C := 0) rfl (by decide) h) (by omega)) (fun c_15 => ?_)
                    have b_16 := gn_eq (X := (Int32.toInt r_9)) (C := 0) rfl (by decide) c_15
                    refine lv_aload_n hx hb dX9_pack_63 rfl (lv_at hl 2 rfl) ?_
                    refine lv_iload_n hx hb dX9_pack_64 rfl (lv_at hl 0 rfl) ?_
                    refine lv_aload_n hx hb dX9_pack_65 rfl (lv_at hl 2 rfl) ?_
                    refine va_get (D := (dC, dI)) (ci := 8) (v := .ref pk2) (C := RX9) (T := TX9) (N := 35) hx hb hts inB_9 hown hK hP 0 rfl rfl 27 (by decide) (hts _ mw_3_209) (fun _ h9 => h9) rfl dX9_pack_66 ?_
                    refine lv_iload_n hx hb dX9_pack_69 rfl (lv_at hl 1 rfl) ?_
                    refine va_iald hx hb hK hP 6 5 rfl rfl (show vp_in (nI k) 10 from vp_in_nI (by omega) (by omega)) dX9_pack_70 ?_
                    refine hx_top (y := (fpz k)) (congrArg _ (nI_clamp (by omega))) ?_
                    refine hx_top (y := (nI pz)) epz ?_
                    have hPc := hP.sub (ws' := [(h0, .inr (8, [w0, w1, w2, .ref l7, .int (nI kn), .ref l4, .ref l1, w7, w8, w9, w10, w11, w12, w13, .ref nm0, w15, w16, w17, w18, w19, w20, w21, w22, w23, w24, w25, .ref pk1, .ref pk2, .int (nI pl), w29, w30, w31, w32, w33, w34])), (pk1, .inl (kpk1, 100, .inl fsy))]) [0, 5] rfl
                    have hDc := hD.sub (ws' := [(h0, .inr (8, [w0, w1, w2, .ref l7, .int (nI kn), .ref l4, .ref l1, w7, w8, w9, w10, w11, w12, w13, .ref nm0, w15, w16, w17, w18, w19, w20, w21, w22, w23, w24, w25, .ref pk1, .ref pk2, .int (nI pl), w29, w30, w31, w32, w33, w34])), (pk1, .inl (kpk1, 100, .inl fsy))]) [0, 5] (by decide) rfl
                    have hKc := hK.sub (tys' := [(kpk1, .int)]) [4] rfl
                    refine va_calli (va_runV (As := [.int r_9, .int (nI pz)]) (rest := []) ⟨hx, hb, hml, hown, hts⟩ (m_isOpenAt l dC dI H.size h0 (w0) (w1) (w2) (.ref l7) (.int (nI kn)) (.ref l4) (.ref l1) (w7) (w8) (w9) (w10) (w11) (w12) (w13) (.ref nm0) (w15) (w16) (w17) (w18) (w19) (w20) (w21) (w22) (w23) (w24) (w25) pk1 (.ref pk2) (.int (nI pl)) (w29) (w30) (w31) (w32) (w33) (w34) kpk1 fsy r_9 pz (by omega)) (cwV 2 hts (gV mw_4_230 mw_4_232 mw_0_36 mw_1_9 mw_4_233) rfl rfl rfl (by decide +kernel) ⟨Nat.le_of_ble_eq_true rfl, Nat.le_of_ble_eq_true rfl⟩) ⟨pcW_blind, va_recv hKc hPc (ci := 8) (q0 := 0) rfl rfl, pcW_at hPc hKc hDc hN⟩ rfl rfl hl.1 rfl (lv_room (Nat.le_of_ble_eq_true rfl)) dX9_pack_71 ⟨Nat.le_of_ble_eq_true rfl, Nat.le_of_ble_eq_true rfl⟩) hS (fun q h1 h2 => absurd h2 (Nat.not_le.mpr h1)) (fun q h => hA q (Nat.le_trans hS.1 h)) (fun r_17 u t H1 locs ht hvm hw_17 hB hz1 hk1 hS => ?_)
                    have hP := keepP hP hk1
                    clear hz1 hk1 hB ht hvm hPc hDc hKc
                    generalize H1 = H at hP hS ⊢
                    rcases hw_17 with ⟨rfl, p_18⟩ | ⟨rfl, p_18⟩
                    · skip
                      refine lv_if_ne (tgt := 90) hx hb dX9_pack_74 (by decide) (fun _ => ?_) (fun h => absurd h (by decide))
                      refine lv_iconst (v := 0) hx hb dX9_pack_90 (by decide) ?_
                      refine lv_istore_n (lv' := [(3, .int 0), (2, .int r_9), (1, .int (nI k)), (0, .ref h0)]) hx hb dX9_pack_91 rfl hl (by decide) rfl (fun ls hl => ?_)
                      have key_19 : ∀ (fu : Nat) (n8 : Nat) (fsw : Nat → Int32) (plw : Nat), (n8 ≤ 8) → (plw ≤ pl + 8) → (SlE fsw plw) → (fsw = psK fsy r_9 pz k n8) → (plw = mxN pl (enF r_9 pz n8)) → 8 - n8 < fu → ∀ (H : Heap) (locs : List Loc), va_P (dC, dI) vwCl [(h0, .inr (8, [w0, w1, w2, .ref l7, .int (nI kn), .ref l4, .ref l1, w7, w8, w9, w10, w11, w12, w13, .ref nm0, w15, w16, w17, w18, w19, w20, w21, w22, w23, w24, w25, .ref pk1, .ref pk2, .int (nI plw), w29, w30, w31, w32, w33, w34])), (l1, .inl (kl1, 10, .inl fll)), (l4, .inl (kl4, 100, .inl fln)), (nm0, .inl (knm0, 10, .inl fnm)), (l7, .inl (kl7, 10, .inl fib)), (pk1, .inl (kpk1, 100, .inl fsw)), (pk2, .inl (kpk2, 10, .inl fpz))] H → va_D A [(h0, .inr (8, [w0, w1, w2, .ref l7, .int (nI kn), .ref l4, .ref l1, w7, w8, w9, w10, w11, w12, w13, .ref nm0, w15, w16, w17, w18, w19, w20, w21, w22, w23, w24, w25, .ref pk1, .ref pk2, .int (nI plw), w29, w30, w31, w32, w33, w34])), (l1, .inl (kl1, 10, .inl fll)), (l4, .inl (kl4, 100, .inl fln)), (nm0, .inl (knm0, 10, .inl fnm)), (l7, .inl (kl7, 10, .inl fib)), (pk1, .inl (kpk1, 100, .inl fsw)), (pk2, .inl (kpk2, 10, .inl fpz))] → va_S A s.heap H locs → ∀ (ls : Array Slot), lv_has ls 5 [(3, .int (nI n8)), (2, .int r_9), (1, .int (nI k)), (0, .ref h0)] → W p l e (headSpec (wq yX9_pack cX9_pack 5 none) ({ frames := 3, cells := 0, slots := 0, locals := 70 })).room s m (([.ref h0] : List Value)).toArray below meth c H locs 0 0 (MQ below (va_Qv (fun _ : Unit => True) (fun _ t => ∃ (fsl2 : Nat → Int32) (fpu2 : Nat → Int32) (pl2 : Nat), (fsl2 = (pkF (fiK fsl 100) fpu (rowM fll fln fnm fib) kn).1) ∧ (fpu2 = (pkF (fiK fsl 100) fpu (rowM fll fln fnm fib) kn).2.1) ∧ (pl2 = (pkF (fiK fsl 100) fpu (rowM fll fln fnm fib) kn).2.2) ∧ va_P (dC, dI) vwCl [(h0, .inr (8, [w0, w1, w2, .ref l7, .int (nI kn), .ref l4, .ref l1, w7, w8, w9, w10, w11, w12, w13, .ref nm0, w15, w16, w17, w18, w19, w20, w21, w22, w23, w24, w25, .ref pk1, .ref pk2, .int (nI pl2), w29, w30, w31, w32, w33, w34])), (l1, .inl (kl1, 10, .inl fll)), (l4, .inl (kl4, 100, .inl fln)), (nm0, .inl (knm0, 10, .inl fnm)), (l7, .inl (kl7, 10, .inl fib)), (pk1, .inl (kpk1, 100, .inl fsl2)), (pk2, .inl (kpk2, 10, .inl fpu2))] t.heap ∧ va_K (dC, dI) vwCl [(kl1, .int), (kl4, .int), (knm0, .int), (kl7, .boolean), (kpk1, .int), (kpk2, .int)] t ∧ va_D A [(h0, .inr (8, [w0, w1, w2, .ref l7, .int (nI kn), .ref l4, .ref l1, w7, w8, w9, w10, w11, w12, w13, .ref nm0, w15, w16, w17, w18, w19, w20, w21, w22, w23, w24, w25, .ref pk1, .ref pk2, .int (nI pl2), w29, w30, w31, w32, w33, w34])), (l1, .inl (kl1, 10, .inl fll)), (l4, .inl (kl4, 100, .inl fln)), (nm0, .inl (knm0, 10, .inl fnm)), (l7, .inl (kl7, 10, .inl fib)), (pk1, .inl (kpk1, 100, .inl fsl2)), (pk2, .inl (kpk2, 10, .inl fpu2))]) A) (([.ref h0] : List Value)).toArray s 0 0 A) (F0 m 92 ls []) := by
                        intro fu
                        induction fu with
                        | zero => intro n8 fsw plw hn8 hpw hsw hsw2 hpw2 hme; exact absurd hme (Nat.not_lt_zero _)
                        | succ fu ih_20 =>
                          intro n8 fsw plw hn8 hpw hsw hsw2 hpw2 hme H locs hP hD hS ls hl
                          refine lv_iload_n hx hb dX9_pack_92 rfl (lv_at hl 0 rfl) ?_
                          refine lv_bipush (v := 8) hx hb dX9_pack_93 (by decide) ?_
                          refine lv_icmp_ge (tgt := 162) hx hb dX9_pack_95 (by decide) (fun c_21 => ?_) (fun c_21 => ?_)
                          · have b_22 := gx_ge (X := ((n8 : Nat) : Int)) (C := 8) (nI_toInt (by omega)) (by decide) c_21
                            refine lv_iinc (v := (nI (k + 1))) (lv' := [(1, .int (nI (k + 1))), (3, .int (nI n8)), (2, .int r_9), (0, .ref h0)]) hx hb dX9_pack_162 hl (k := 2) rfl (nI_add k 1) (by decide) rfl (fun ls hl => ?_)
                            refine lv_goto (tgt := 29) hx hb dX9_pack_165 (by decide) ?_
                            exact ih_6 (k + 1) fsw fpz plw (by omega) (by omega) hsw (pk_yes (q := pz) hpk (by rw [← hw_9]; exact c_10) (by rw [← hw_9]; exact ⟨by omega, fun _ => p_18, hal9⟩) (by rw [← hw_9, hsw2, show n8 = 8 from (by omega)]) hfz (by rw [← hw_9, hpw2, show n8 = 8 from (by omega)])) (by omega) _ _ hP hD hS ls (lv_sub hl [0, 3] rfl)
                          · have b_22 := gn_ge (X := ((n8 : Nat) : Int)) (C := 8) (nI_toInt (by omega)) (by decide) c_21
                            refine lv_iload_n hx hb dX9_pack_98 rfl (lv_at hl 1 rfl) ?_
                            refine lv_iload_n hx hb dX9_pack_99 rfl (lv_at hl 0 rfl) ?_
                            refine lv_ishr hx hb dX9_pack_100 ?_
                            refine lv_iconst (v := 1) hx hb dX9_pack_101 (by decide) ?_
                            refine lv_iand hx hb dX9_pack_102 ?_
                            refine lv_iconst (v := 1) hx hb dX9_pack_103 (by decide) ?_
                            refine lv_icmp_ne (tgt := 156) hx hb dX9_pack_104 (by decide) (fun c_23 => ?_) (fun c_23 => ?_)
                            · have b_24 := gx_ne (X := (Int32.toInt ((r_9 >>> ((nI n8) &&& 31)) &&& 1))) (C := 1) rfl (by decide) c_23
                              refine lv_iinc (v := (nI (n8 + 1))) (lv' := [(3, .int (nI (n8 + 1))), (2, .int r_9), (1, .int (nI k)), (0, .ref h0)]) hx hb dX9_pack_156 hl (k := 0) rfl (nI_add n8 1) (by decide) rfl (fun ls hl => ?_)
                              refine lv_goto (tgt := 92) hx hb dX9_pack_159 (by decide) ?_
                              exact ih_20 (n8 + 1) fsw plw (by omega) hpw hsw (ps_no hsw2 (t_n1 (by omega) c_23)) (by rw [hpw2, ← en_f rfl (t_n1 (by omega) c_23)]) (by omega) _ _ hP hD hS ls (lv_sub hl [0, 1, 2, 3] rfl)
                            · have b_24 := gn_ne (X := (Int32.toInt ((r_9 >>> ((nI n8) &&& 31)) &&& 1))) (C := 1) rfl (by decide) c_23
                              refine lv_aload_n hx hb dX9_pack_107 rfl (lv_at hl 3 rfl) ?_
                              refine va_get (D := (dC, dI)) (ci := 8) (v := .ref pk2) (C := RX9) (T := TX9) (N := 35) hx hb hts inB_9 hown hK hP 0 rfl rfl 27 (by decide) (hts _ mw_3_209) (fun _ h9 => h9) rfl dX9_pack_108 ?_
                              refine lv_iload_n hx hb dX9_pack_111 rfl (lv_at hl 2 rfl) ?_
                              refine va_iald hx hb hK hP 6 5 rfl rfl (show vp_in (nI k) 10 from vp_in_nI (by omega) (by omega)) dX9_pack_112 ?_
                              refine hx_top (y := (fpz k)) (congrArg _ (nI_clamp (by omega))) ?_
                              refine hx_top (y := (nI pz)) epz ?_
                              refine lv_iload_n hx hb dX9_pack_113 rfl (lv_at hl 0 rfl) ?_
                              refine lv_iadd hx hb dX9_pack_114 ?_
                              refine hx_top (y := (nI (pz + n8))) (nI_add pz n8) ?_
                              refine lv_istore (lv' := [(4, .int (nI (pz + n8))), (3, .int (nI n8)), (2, .int r_9), (1, .int (nI k)), (0, .ref h0)]) hx hb dX9_pack_115 hl (by decide) rfl (fun ls hl => ?_)
                              refine lv_aload_n hx hb dX9_pack_117 rfl (lv_at hl 4 rfl) ?_
                              refine va_get (D := (dC, dI)) (ci := 8) (v := .ref pk1) (C := RX9) (T := TX9) (N := 35) hx hb hts inB_9 hown hK hP 0 rfl rfl 26 (by decide) (hts _ mw_3_208) (fun _ h9 => h9) rfl dX9_pack_118 ?_
                              refine lv_iload hx hb dX9_pack_121 (lv_at hl 0 rfl) ?_
                              refine lv_bipush (v := 10) hx hb dX9_pack_123 (by decide) ?_
                              refine lv_iload_n hx hb dX9_pack_125 rfl (lv_at hl 3 rfl) ?_
                              refine lv_imul hx hb dX9_pack_126 ?_
                              refine hx_top (y := (nI (10 * k))) (pk_mul 10 k) ?_
                              refine lv_iload_n hx hb dX9_pack_127 rfl (lv_at hl 1 rfl) ?_
                              refine lv_iadd hx hb dX9_pack_128 ?_
                              refine hx_top (y := (nI ((10 * k) + n8))) (nI_add (10 * k) n8) ?_
                              refine va_iast hx hb hK hP hD hS 5 4 rfl rfl (show vp_in (nI (pz + n8)) 100 from vp_in_nI (by omega) (by omega)) dX9_pack_129 (fun H locs hP hD hS => ?_)
                              obtain ⟨f_25, ef_25⟩ : ∃ g : Nat → Int32, g = upd fsw (Int32.toNatClampNeg (nI (pz + n8))) (nI ((10 * k) + n8)) := ⟨_, rfl⟩
                              rw [← ef_25] at hP hD
                              have ef_25 : f_25 = upd fsw (pz + n8) (nI ((10 * k) + n8)) := by rw [ef_25, nI_clamp (by omega)]
                              have hP : va_P (dC, dI) vwCl [(h0, .inr (8, [w0, w1, w2, .ref l7, .int (nI kn), .ref l4, .ref l1, w7, w8, w9, w10, w11, w12, w13, .ref nm0, w15, w16, w17, w18, w19, w20, w21, w22, w23, w24, w25, .ref pk1, .ref pk2, .int (nI plw), w29, w30, w31, w32, w33, w34])), (l1, .inl (kl1, 10, .inl fll)), (l4, .inl (kl4, 100, .inl fln)), (nm0, .inl (knm0, 10, .inl fnm)), (l7, .inl (kl7, 10, .inl fib)), (pk1, .inl (kpk1, 100, .inl f_25)), (pk2, .inl (kpk2, 10, .inl fpz))] H := hP
                              have hD : va_D A [(h0, .inr (8, [w0, w1, w2, .ref l7, .int (nI kn), .ref l4, .ref l1, w7, w8, w9, w10, w11, w12, w13, .ref nm0, w15, w16, w17, w18, w19, w20, w21, w22, w23, w24, w25, .ref pk1, .ref pk2, .int (nI plw), w29, w30, w31, w32, w33, w34])), (l1, .inl (kl1, 10, .inl fll)), (l4, .inl (kl4, 100, .inl fln)), (nm0, .inl (knm0, 10, .inl fnm)), (l7, .inl (kl7, 10, .inl fib)), (pk1, .inl (kpk1, 100, .inl f_25)), (pk2, .inl (kpk2, 10, .inl fpz))] := hD
                              refine lv_aload_n hx hb dX9_pack_130 rfl (lv_at hl 4 rfl) ?_
                              refine lv_iload hx hb dX9_pack_131 (lv_at hl 0 rfl) ?_
                              refine lv_iconst (v := 1) hx hb dX9_pack_133 (by decide) ?_
                              refine lv_iadd hx hb dX9_pack_134 ?_
                              refine hx_top (y := (nI ((pz + n8) + 1))) (nI_add (pz + n8) 1) ?_
                              refine lv_aload_n hx hb dX9_pack_135 rfl (lv_at hl 4 rfl) ?_
                              refine va_get (D := (dC, dI)) (ci := 8) (v := .int (nI plw)) (C := RX9) (T := TX9) (N := 35) hx hb hts inB_9 hown hK hP 0 rfl rfl 28 (by decide) (hts _ mw_3_210) (fun _ h9 => h9) rfl dX9_pack_136 ?_
                              refine lv_icmp_le (tgt := 149) hx hb dX9_pack_139 (by decide) (fun c_26 => ?_) (fun c_26 => ?_)
                              · have b_27 := gx_le (X := ((((pz + n8) + 1) : Nat) : Int)) (C := ((plw : Nat) : Int)) (nI_toInt (by omega)) (nI_toInt (by omega)) c_26
                                refine lv_aload_n hx hb dX9_pack_149 rfl (lv_at hl 4 rfl) ?_
                                refine va_get (D := (dC, dI)) (ci := 8) (v := .int (nI plw)) (C := RX9) (T := TX9) (N := 35) hx hb hts inB_9 hown hK hP 0 rfl rfl 28 (by decide) (hts _ mw_3_210) (fun _ h9 => h9) rfl dX9_pack_150 ?_
                                refine va_put (D := (dC, dI)) (ci := 8) (v := .int (nI plw)) (ty := .int) (C := RX9) (T := TX9) (N := 35) hx hb hts inB_9 tyX9 tyX9_ok nmX9 hown hK hP hD hS 0 rfl rfl 28 (by decide) (hts _ mw_3_210) (fun _ h9 => h9) rfl (by decide +kernel) rfl rfl (Nat.le_of_ble_eq_true rfl) dX9_pack_153 (fun H locs hP hD hS => ?_)
                                have hP : va_P (dC, dI) vwCl [(h0, .inr (8, [w0, w1, w2, .ref l7, .int (nI kn), .ref l4, .ref l1, w7, w8, w9, w10, w11, w12, w13, .ref nm0, w15, w16, w17, w18, w19, w20, w21, w22, w23, w24, w25, .ref pk1, .ref pk2, .int (nI plw), w29, w30, w31, w32, w33, w34])), (l1, .inl (kl1, 10, .inl fll)), (l4, .inl (kl4, 100, .inl fln)), (nm0, .inl (knm0, 10, .inl fnm)), (l7, .inl (kl7, 10, .inl fib)), (pk1, .inl (kpk1, 100, .inl f_25)), (pk2, .inl (kpk2, 10, .inl fpz))] H := hP
                                have hD : va_D A [(h0, .inr (8, [w0, w1, w2, .ref l7, .int (nI kn), .ref l4, .ref l1, w7, w8, w9, w10, w11, w12, w13, .ref nm0, w15, w16, w17, w18, w19, w20, w21, w22, w23, w24, w25, .ref pk1, .ref pk2, .int (nI plw), w29, w30, w31, w32, w33, w34])), (l1, .inl (kl1, 10, .inl fll)), (l4, .inl (kl4, 100, .inl fln)), (nm0, .inl (knm0, 10, .inl fnm)), (l7, .inl (kl7, 10, .inl fib)), (pk1, .inl (kpk1, 100, .inl f_25)), (pk2, .inl (kpk2, 10, .inl fpz))] := hD
                                refine lv_iinc (v := (nI (n8 + 1))) (lv' := [(3, .int (nI (n8 + 1))), (4, .int (nI (pz + n8))), (2, .int r_9), (1, .int (nI k)), (0, .ref h0)]) hx hb dX9_pack_156 hl (k := 1) rfl (nI_add n8 1) (by decide) rfl (fun ls hl => ?_)
                                refine lv_goto (tgt := 92) hx hb dX9_pack_159 (by decide) ?_
                                exact ih_20 (n8 + 1) f_25 plw (by omega) hpw (sle_put hsw (by omega) (by omega) ef_25) (ps_yes hsw2 (t_1 (by omega) c_23) ef_25) ((if_neg (by omega)).symm.trans (mx_en hpw2 (t_1 (by omega) c_23))) (by omega) _ _ hP hD hS ls (lv_sub hl [0, 2, 3, 4] rfl)
                              · have b_27 := gn_le (X := ((((pz + n8) + 1) : Nat) : Int)) (C := ((plw : Nat) : Int)) (nI_toInt (by omega)) (nI_toInt (by omega)) c_26
                                refine lv_iload hx hb dX9_pack_142 (lv_at hl 0 rfl) ?_
                                refine lv_iconst (v := 1) hx hb dX9_pack_144 (by decide) ?_
                                refine lv_iadd hx hb dX9_pack_145 ?_
                                refine hx_top (y := (nI ((pz + n8) + 1))) (nI_add (pz + n8) 1) ?_
                                refine lv_goto (tgt := 153) hx hb dX9_pack_146 (by decide) ?_
                                refine va_put (D := (dC, dI)) (ci := 8) (v := .int (nI ((pz + n8) + 1))) (ty := .int) (C := RX9) (T := TX9) (N := 35) hx hb hts inB_9 tyX9 tyX9_ok nmX9 hown hK hP hD hS 0 rfl rfl 28 (by decide) (hts _ mw_3_210) (fun _ h9 => h9) rfl (by decide +kernel) rfl rfl (Nat.le_of_ble_eq_true rfl) dX9_pack_153 (fun H locs hP hD hS => ?_)
                                have hP : va_P (dC, dI) vwCl [(h0, .inr (8, [w0, w1, w2, .ref l7, .int (nI kn), .ref l4, .ref l1, w7, w8, w9, w10, w11, w12, w13, .ref nm0, w15, w16, w17, w18, w19, w20, w21, w22, w23, w24, w25, .ref pk1, .ref pk2, .int (nI ((pz + n8) + 1)), w29, w30, w31, w32, w33, w34])), (l1, .inl (kl1, 10, .inl fll)), (l4, .inl (kl4, 100, .inl fln)), (nm0, .inl (knm0, 10, .inl fnm)), (l7, .inl (kl7, 10, .inl fib)), (pk1, .inl (kpk1, 100, .inl f_25)), (pk2, .inl (kpk2, 10, .inl fpz))] H := hP
                                have hD : va_D A [(h0, .inr (8, [w0, w1, w2, .ref l7, .int (nI kn), .ref l4, .ref l1, w7, w8, w9, w10, w11, w12, w13, .ref nm0, w15, w16, w17, w18, w19, w20, w21, w22, w23, w24, w25, .ref pk1, .ref pk2, .int (nI ((pz + n8) + 1)), w29, w30, w31, w32, w33, w34])), (l1, .inl (kl1, 10, .inl fll)), (l4, .inl (kl4, 100, .inl fln)), (nm0, .inl (knm0, 10, .inl fnm)), (l7, .inl (kl7, 10, .inl fib)), (pk1, .inl (kpk1, 100, .inl f_25)), (pk2, .inl (kpk2, 10, .inl fpz))] := hD
                                refine lv_iinc (v := (nI (n8 + 1))) (lv' := [(3, .int (nI (n8 + 1))), (4, .int (nI (pz + n8))), (2, .int r_9), (1, .int (nI k)), (0, .ref h0)]) hx hb dX9_pack_156 hl (k := 1) rfl (nI_add n8 1) (by decide) rfl (fun ls hl => ?_)
                                refine lv_goto (tgt := 92) hx hb dX9_pack_159 (by decide) ?_
                                exact ih_20 (n8 + 1) f_25 ((pz + n8) + 1) (by omega) (by omega) (sle_put hsw (by omega) (by omega) ef_25) (ps_yes hsw2 (t_1 (by omega) c_23) ef_25) ((if_pos (by omega)).symm.trans (mx_en hpw2 (t_1 (by omega) c_23))) (by omega) _ _ hP hD hS ls (lv_sub hl [0, 2, 3, 4] rfl)
                      exact key_19 ((8 - 0) + 1) 0 fsy pl (by omega) (by omega) hsl ps_0 (by have q := mx_or pl 0; show pl = mxN pl 0; omega) (Nat.lt_succ_self _) _ _ hP hD hS ls (lv_sub hl [0, 1, 2, 3] rfl)
                    · skip
                      refine lv_if_ne (tgt := 90) hx hb dX9_pack_74 (by decide) (fun h => absurd h (by decide)) (fun _ => ?_)
                      obtain ⟨n9, hn9, hv9⟩ := vi_ne p_18
                      have hlt9 := sle_lt hsl (by omega) hv9
                      refine lv_aload_n hx hb dX9_pack_77 rfl (lv_at hl 2 rfl) ?_
                      refine va_get (D := (dC, dI)) (ci := 8) (v := .ref pk2) (C := RX9) (T := TX9) (N := 35) hx hb hts inB_9 hown hK hP 0 rfl rfl 27 (by decide) (hts _ mw_3_209) (fun _ h9 => h9) rfl dX9_pack_78 ?_
                      refine lv_iload_n hx hb dX9_pack_81 rfl (lv_at hl 1 rfl) ?_
                      refine lv_dup2_11 hx hb dX9_pack_82 rfl rfl ?_
                      refine va_iald hx hb hK hP 6 5 rfl rfl (show vp_in (nI k) 10 from vp_in_nI (by omega) (by omega)) dX9_pack_83 ?_
                      refine hx_top (y := (fpz k)) (congrArg _ (nI_clamp (by omega))) ?_
                      refine hx_top (y := (nI pz)) epz ?_
                      refine lv_iconst (v := 1) hx hb dX9_pack_84 (by decide) ?_
                      refine lv_iadd hx hb dX9_pack_85 ?_
                      refine hx_top (y := (nI (pz + 1))) (nI_add pz 1) ?_
                      refine va_iast hx hb hK hP hD hS 6 5 rfl rfl (show vp_in (nI k) 10 from vp_in_nI (by omega) (by omega)) dX9_pack_86 (fun H locs hP hD hS => ?_)
                      obtain ⟨f_28, ef_28⟩ : ∃ g : Nat → Int32, g = upd fpz (Int32.toNatClampNeg (nI k)) (nI (pz + 1)) := ⟨_, rfl⟩
                      rw [← ef_28] at hP hD
                      have ef_28 : f_28 = upd fpz k (nI (pz + 1)) := by rw [ef_28, nI_clamp (by omega)]
                      have hP : va_P (dC, dI) vwCl [(h0, .inr (8, [w0, w1, w2, .ref l7, .int (nI kn), .ref l4, .ref l1, w7, w8, w9, w10, w11, w12, w13, .ref nm0, w15, w16, w17, w18, w19, w20, w21, w22, w23, w24, w25, .ref pk1, .ref pk2, .int (nI pl), w29, w30, w31, w32, w33, w34])), (l1, .inl (kl1, 10, .inl fll)), (l4, .inl (kl4, 100, .inl fln)), (nm0, .inl (knm0, 10, .inl fnm)), (l7, .inl (kl7, 10, .inl fib)), (pk1, .inl (kpk1, 100, .inl fsy)), (pk2, .inl (kpk2, 10, .inl f_28))] H := hP
                      have hD : va_D A [(h0, .inr (8, [w0, w1, w2, .ref l7, .int (nI kn), .ref l4, .ref l1, w7, w8, w9, w10, w11, w12, w13, .ref nm0, w15, w16, w17, w18, w19, w20, w21, w22, w23, w24, w25, .ref pk1, .ref pk2, .int (nI pl), w29, w30, w31, w32, w33, w34])), (l1, .inl (kl1, 10, .inl fll)), (l4, .inl (kl4, 100, .inl fln)), (nm0, .inl (knm0, 10, .inl fnm)), (l7, .inl (kl7, 10, .inl fib)), (pk1, .inl (kpk1, 100, .inl fsy)), (pk2, .inl (kpk2, 10, .inl f_28))] := hD
                      refine lv_goto (tgt := 59) hx hb dX9_pack_87 (by decide) ?_
                      exact ih_14 (pz + 1) f_28 (by rw [ef_28]; exact pk_us) (by omega) (al_step hal9 p_18) (by rw [ef_28, hfz, upd_upd]) (by omega) _ _ hP hD hS ls (lv_sub hl [0, 1, 2] rfl)
                exact key_13 ((pl - 0) + 1) 0 f_12 (by rw [ef_12]; exact pk_us) (Nat.zero_le _) (fun p9 h9 => absurd h9 (Nat.not_lt_zero p9)) ef_12 (Nat.lt_succ_self _) _ _ hP hD hS ls (lv_sub hl [0, 1, 2] rfl)
              · have b_11 := gn_ne (X := (Int32.toInt r_9)) (C := 0) rfl (by decide) c_10
                refine lv_bipush (v := (-6)) hx hb dX9_pack_52 (by decide) ?_
                refine lv_goto (tgt := 58) hx hb dX9_pack_54 (by decide) ?_
                refine va_iast hx hb hK hP hD hS 6 5 rfl rfl (show vp_in (nI k) 10 from vp_in_nI (by omega) (by omega)) dX9_pack_58 (fun H locs hP hD hS => ?_)
                obtain ⟨f_29, ef_29⟩ : ∃ g : Nat → Int32, g = upd fpy (Int32.toNatClampNeg (nI k)) (-6) := ⟨_, rfl⟩
                rw [← ef_29] at hP hD
                have ef_29 : f_29 = upd fpy k (-6) := by rw [ef_29, nI_clamp (by omega)]
                have hP : va_P (dC, dI) vwCl [(h0, .inr (8, [w0, w1, w2, .ref l7, .int (nI kn), .ref l4, .ref l1, w7, w8, w9, w10, w11, w12, w13, .ref nm0, w15, w16, w17, w18, w19, w20, w21, w22, w23, w24, w25, .ref pk1, .ref pk2, .int (nI pl), w29, w30, w31, w32, w33, w34])), (l1, .inl (kl1, 10, .inl fll)), (l4, .inl (kl4, 100, .inl fln)), (nm0, .inl (knm0, 10, .inl fnm)), (l7, .inl (kl7, 10, .inl fib)), (pk1, .inl (kpk1, 100, .inl fsy)), (pk2, .inl (kpk2, 10, .inl f_29))] H := hP
                have hD : va_D A [(h0, .inr (8, [w0, w1, w2, .ref l7, .int (nI kn), .ref l4, .ref l1, w7, w8, w9, w10, w11, w12, w13, .ref nm0, w15, w16, w17, w18, w19, w20, w21, w22, w23, w24, w25, .ref pk1, .ref pk2, .int (nI pl), w29, w30, w31, w32, w33, w34])), (l1, .inl (kl1, 10, .inl fll)), (l4, .inl (kl4, 100, .inl fln)), (nm0, .inl (knm0, 10, .inl fnm)), (l7, .inl (kl7, 10, .inl fib)), (pk1, .inl (kpk1, 100, .inl fsy)), (pk2, .inl (kpk2, 10, .inl f_29))] := hD
                refine lv_iload_n hx hb dX9_pack_59 rfl (lv_at hl 0 rfl) ?_
                refine hx_top (y := 0) (fx_sing (C := 0) (by decide) (by omega)) ?_
                refine lv_if_eq (tgt := 90) hx hb dX9_pack_60 (by decide) (fun _ => ?_) (fun h => absurd (by decide) h)
                refine lv_iconst (v := 0) hx hb dX9_pack_90 (by decide) ?_
                refine lv_istore_n (lv' := [(3, .int 0), (2, .int r_9), (1, .int (nI k)), (0, .ref h0)]) hx hb dX9_pack_91 rfl hl (by decide) rfl (fun ls hl => ?_)
                have key_30 : ∀ (fu : Nat) (n8 : Nat) (fsw : Nat → Int32) (plw : Nat), (n8 ≤ 8) → (plw ≤ pl + 8) → (SlE fsw plw) → (fsw = fsy) → (plw = pl) → 8 - n8 < fu → ∀ (H : Heap) (locs : List Loc), va_P (dC, dI) vwCl [(h0, .inr (8, [w0, w1, w2, .ref l7, .int (nI kn), .ref l4, .ref l1, w7, w8, w9, w10, w11, w12, w13, .ref nm0, w15, w16, w17, w18, w19, w20, w21, w22, w23, w24, w25, .ref pk1, .ref pk2, .int (nI plw), w29, w30, w31, w32, w33, w34])), (l1, .inl (kl1, 10, .inl fll)), (l4, .inl (kl4, 100, .inl fln)), (nm0, .inl (knm0, 10, .inl fnm)), (l7, .inl (kl7, 10, .inl fib)), (pk1, .inl (kpk1, 100, .inl fsw)), (pk2, .inl (kpk2, 10, .inl f_29))] H → va_D A [(h0, .inr (8, [w0, w1, w2, .ref l7, .int (nI kn), .ref l4, .ref l1, w7, w8, w9, w10, w11, w12, w13, .ref nm0, w15, w16, w17, w18, w19, w20, w21, w22, w23, w24, w25, .ref pk1, .ref pk2, .int (nI plw), w29, w30, w31, w32, w33, w34])), (l1, .inl (kl1, 10, .inl fll)), (l4, .inl (kl4, 100, .inl fln)), (nm0, .inl (knm0, 10, .inl fnm)), (l7, .inl (kl7, 10, .inl fib)), (pk1, .inl (kpk1, 100, .inl fsw)), (pk2, .inl (kpk2, 10, .inl f_29))] → va_S A s.heap H locs → ∀ (ls : Array Slot), lv_has ls 5 [(3, .int (nI n8)), (2, .int r_9), (1, .int (nI k)), (0, .ref h0)] → W p l e (headSpec (wq yX9_pack cX9_pack 5 none) ({ frames := 3, cells := 0, slots := 0, locals := 70 })).room s m (([.ref h0] : List Value)).toArray below meth c H locs 0 0 (MQ below (va_Qv (fun _ : Unit => True) (fun _ t => ∃ (fsl2 : Nat → Int32) (fpu2 : Nat → Int32) (pl2 : Nat), (fsl2 = (pkF (fiK fsl 100) fpu (rowM fll fln fnm fib) kn).1) ∧ (fpu2 = (pkF (fiK fsl 100) fpu (rowM fll fln fnm fib) kn).2.1) ∧ (pl2 = (pkF (fiK fsl 100) fpu (rowM fll fln fnm fib) kn).2.2) ∧ va_P (dC, dI) vwCl [(h0, .inr (8, [w0, w1, w2, .ref l7, .int (nI kn), .ref l4, .ref l1, w7, w8, w9, w10, w11, w12, w13, .ref nm0, w15, w16, w17, w18, w19, w20, w21, w22, w23, w24, w25, .ref pk1, .ref pk2, .int (nI pl2), w29, w30, w31, w32, w33, w34])), (l1, .inl (kl1, 10, .inl fll)), (l4, .inl (kl4, 100, .inl fln)), (nm0, .inl (knm0, 10, .inl fnm)), (l7, .inl (kl7, 10, .inl fib)), (pk1, .inl (kpk1, 100, .inl fsl2)), (pk2, .inl (kpk2, 10, .inl fpu2))] t.heap ∧ va_K (dC, dI) vwCl [(kl1, .int), (kl4, .int), (knm0, .int), (kl7, .boolean), (kpk1, .int), (kpk2, .int)] t ∧ va_D A [(h0, .inr (8, [w0, w1, w2, .ref l7, .int (nI kn), .ref l4, .ref l1, w7, w8, w9, w10, w11, w12, w13, .ref nm0, w15, w16, w17, w18, w19, w20, w21, w22, w23, w24, w25, .ref pk1, .ref pk2, .int (nI pl2), w29, w30, w31, w32, w33, w34])), (l1, .inl (kl1, 10, .inl fll)), (l4, .inl (kl4, 100, .inl fln)), (nm0, .inl (knm0, 10, .inl fnm)), (l7, .inl (kl7, 10, .inl fib)), (pk1, .inl (kpk1, 100, .inl fsl2)), (pk2, .inl (kpk2, 10, .inl fpu2))]) A) (([.ref h0] : List Value)).toArray s 0 0 A) (F0 m 92 ls []) := by
                  intro fu
                  induction fu with
                  | zero => intro n8 fsw plw hn8 hpw hsw hsw2 hpw2 hme; exact absurd hme (Nat.not_lt_zero _)
                  | succ fu ih_31 =>
                    intro n8 fsw plw hn8 hpw hsw hsw2 hpw2 hme H locs hP hD hS ls hl
                    refine lv_iload_n hx hb dX9_pack_92 rfl (lv_at hl 0 rfl) ?_
                    refine lv_bipush (v := 8) hx hb dX9_pack_93 (by decide) ?_
                    refine lv_icmp_ge (tgt := 162) hx hb dX9_pack_95 (by decide) (fun c_32 => ?_) (fun c_32 => ?_)
                    · have b_33 := gx_ge (X := ((n8 : Nat) : Int)) (C := 8) (nI_toInt (by omega)) (by decide) c_32
                      refine lv_iinc (v := (nI (k + 1))) (lv' := [(1, .int (nI (k + 1))), (3, .int (nI n8)), (2, .int r_9), (0, .ref h0)]) hx hb dX9_pack_162 hl (k := 2) rfl (nI_add k 1) (by decide) rfl (fun ls hl => ?_)
                      refine lv_goto (tgt := 29) hx hb dX9_pack_165 (by decide) ?_
                      exact ih_6 (k + 1) fsw f_29 plw (by omega) (by omega) hsw (by rw [hsw2, hpw2]; exact pk_no hpk (by rw [← hw_9]; exact c_10) ef_29) (by omega) _ _ hP hD hS ls (lv_sub hl [0, 3] rfl)
                    · have b_33 := gn_ge (X := ((n8 : Nat) : Int)) (C := 8) (nI_toInt (by omega)) (by decide) c_32
                      refine lv_iload_n hx hb dX9_pack_98 rfl (lv_at hl 1 rfl) ?_
                      refine hx_top (y := 0) (fx_sing (C := 0) (by decide) (by omega)) ?_
                      refine lv_iload_n hx hb dX9_pack_99 rfl (lv_at hl 0 rfl) ?_
                      refine lv_ishr hx hb dX9_pack_100 ?_
                      refine hx_top (y := 0) (z_shr _) ?_
                      refine lv_iconst (v := 1) hx hb dX9_pack_101 (by decide) ?_
                      refine lv_iand hx hb dX9_pack_102 ?_
                      refine hx_top (y := 0) (by decide) ?_
                      refine lv_iconst (v := 1) hx hb dX9_pack_103 (by decide) ?_
                      refine lv_icmp_ne (tgt := 156) hx hb dX9_pack_104 (by decide) (fun _ => ?_) (fun h => absurd h (by decide))
                      refine lv_iinc (v := (nI (n8 + 1))) (lv' := [(3, .int (nI (n8 + 1))), (2, .int r_9), (1, .int (nI k)), (0, .ref h0)]) hx hb dX9_pack_156 hl (k := 0) rfl (nI_add n8 1) (by decide) rfl (fun ls hl => ?_)
                      refine lv_goto (tgt := 92) hx hb dX9_pack_159 (by decide) ?_
                      exact ih_31 (n8 + 1) fsw plw (by omega) hpw hsw hsw2 hpw2 (by omega) _ _ hP hD hS ls (lv_sub hl [0, 1, 2, 3] rfl)
                exact key_30 ((8 - 0) + 1) 0 fsy pl (by omega) (by omega) hsl rfl rfl (Nat.lt_succ_self _) _ _ hP hD hS ls (lv_sub hl [0, 1, 2, 3] rfl)
        exact key_5 ((kn - 0) + 1) 0 fsx fpu 0 (by omega) (by omega) (sle_0 hst (by omega)) (by rw [hfi, show k = 100 from (by omega)]; rfl) (Nat.lt_succ_self _) _ _ hP hD hS ls (lv_sub hl [0, 1] rfl)
      · have b_4 := gn_ge (X := ((k : Nat) : Int)) (C := 100) (nI_toInt (by omega)) (by decide) c_3
        refine lv_aload_n hx hb dX9_pack_13 rfl (lv_at hl 1 rfl) ?_
        refine va_get (D := (dC, dI)) (ci := 8) (v := .ref pk1) (C := RX9) (T := TX9) (N := 35) hx hb hts inB_9 hown hK hP 0 rfl rfl 26 (by decide) (hts _ mw_3_208) (fun _ h9 => h9) rfl dX9_pack_14 ?_
        refine lv_iload_n hx hb dX9_pack_17 rfl (lv_at hl 0 rfl) ?_
        refine lv_bipush (v := (-6)) hx hb dX9_pack_18 (by decide) ?_
        refine va_iast hx hb hK hP hD hS 5 4 rfl rfl (show vp_in (nI k) 100 from vp_in_nI (by omega) (by omega)) dX9_pack_20 (fun H locs hP hD hS => ?_)
        obtain ⟨f_34, ef_34⟩ : ∃ g : Nat → Int32, g = upd fsx (Int32.toNatClampNeg (nI k)) (-6) := ⟨_, rfl⟩
        rw [← ef_34] at hP hD
        have ef_34 : f_34 = upd fsx k (-6) := by rw [ef_34, nI_clamp (by omega)]
        have hP : va_P (dC, dI) vwCl [(h0, .inr (8, [w0, w1, w2, .ref l7, .int (nI kn), .ref l4, .ref l1, w7, w8, w9, w10, w11, w12, w13, .ref nm0, w15, w16, w17, w18, w19, w20, w21, w22, w23, w24, w25, .ref pk1, .ref pk2, .int 0, w29, w30, w31, w32, w33, w34])), (l1, .inl (kl1, 10, .inl fll)), (l4, .inl (kl4, 100, .inl fln)), (nm0, .inl (knm0, 10, .inl fnm)), (l7, .inl (kl7, 10, .inl fib)), (pk1, .inl (kpk1, 100, .inl f_34)), (pk2, .inl (kpk2, 10, .inl fpu))] H := hP
        have hD : va_D A [(h0, .inr (8, [w0, w1, w2, .ref l7, .int (nI kn), .ref l4, .ref l1, w7, w8, w9, w10, w11, w12, w13, .ref nm0, w15, w16, w17, w18, w19, w20, w21, w22, w23, w24, w25, .ref pk1, .ref pk2, .int 0, w29, w30, w31, w32, w33, w34])), (l1, .inl (kl1, 10, .inl fll)), (l4, .inl (kl4, 100, .inl fln)), (nm0, .inl (knm0, 10, .inl fnm)), (l7, .inl (kl7, 10, .inl fib)), (pk1, .inl (kpk1, 100, .inl f_34)), (pk2, .inl (kpk2, 10, .inl fpu))] := hD
        refine lv_iinc (v := (nI (k + 1))) (lv' := [(1, .int (nI (k + 1))), (0, .ref h0)]) hx hb dX9_pack_21 hl (k := 0) rfl (nI_add k 1) (by decide) rfl (fun ls hl => ?_)
        refine lv_goto (tgt := 7) hx hb dX9_pack_24 (by decide) ?_
        exact ih_2 (k + 1) f_34 (by omega) (slt_step hst ef_34) (fi_step hfi ef_34) (by omega) _ _ hP hD hS ls (lv_sub hl [0, 1] rfl)
  exact key_1 ((100 - 0) + 1) 0 fsl (by omega) (fun j h => absurd h (Nat.not_lt_zero j)) fi_0 (Nat.lt_succ_self _) _ _ hP hD hS ls (lv_sub hl [0, 1] rfl)
set_option maxHeartbeats 4000000 in
set_option maxRecDepth 100000 in
theorem m_packed (l : Launch) (dC : Nat → ClassId) (dI : Nat → Nat → Nat) (sz : Nat) (h0 : Nat) (w0 : Value) (w1 : Value) (w2 : Value) (l7 : Nat) (kn : Nat) (l4 : Nat) (l1 : Nat) (w7 : Value) (w8 : Value) (w9 : Value) (w10 : Value) (w11 : Value) (w12 : Value) (w13 : Value) (nm0 : Nat) (w15 : Value) (w16 : Value) (w17 : Value) (w18 : Value) (w19 : Value) (w20 : Value) (w21 : Value) (w22 : Value) (w23 : Value) (w24 : Value) (w25 : Value) (pk1 : Nat) (pk2 : Nat) (pl0 : Int32) (w29 : Value) (w30 : Value) (w31 : Value) (w32 : Value) (w33 : Value) (w34 : Value) (kl1 : ClassId) (fll : Nat → Int32) (kl4 : ClassId) (fln : Nat → Int32) (knm0 : ClassId) (fnm : Nat → Int32) (kl7 : ClassId) (fib : Nat → Int32) (kpk1 : ClassId) (fsl : Nat → Int32) (kpk2 : ClassId) (fpu : Nat → Int32) (n1 : Int32) (hkn : kn ≤ 10) (hll : BdOk 10 10 fll) (hln : LnOk fll fln kn) : Met l yX9_packed (wq yX9_packed cX9_packed 2 (some .int)) ({ frames := 4, cells := 0, slots := 0, locals := 94 }) (va_Pc [.ref h0, .int n1] (pcW dC dI [(kl1, .int), (kl4, .int), (knm0, .int), (kl7, .boolean), (kpk1, .int), (kpk2, .int)] [(h0, .inr (8, [w0, w1, w2, .ref l7, .int (nI kn), .ref l4, .ref l1, w7, w8, w9, w10, w11, w12, w13, .ref nm0, w15, w16, w17, w18, w19, w20, w21, w22, w23, w24, w25, .ref pk1, .ref pk2, .int pl0, w29, w30, w31, w32, w33, w34])), (l1, .inl (kl1, 10, .inl fll)), (l4, .inl (kl4, 100, .inl fln)), (nm0, .inl (knm0, 10, .inl fnm)), (l7, .inl (kl7, 10, .inl fib)), (pk1, .inl (kpk1, 100, .inl fsl)), (pk2, .inl (kpk2, 10, .inl fpu))] sz)) (va_Qi (fun (r : Int32) (_ : Unit) => r = F_packed kn (pkl (rowM fll fln fnm fib) kn) (pkp (rowM fll fln fnm fib) kn) n1) (fun _ t => ∃ (fsl2 : Nat → Int32) (fpu2 : Nat → Int32) (pl2 : Int32), va_P (dC, dI) vwCl [(h0, .inr (8, [w0, w1, w2, .ref l7, .int (nI kn), .ref l4, .ref l1, w7, w8, w9, w10, w11, w12, w13, .ref nm0, w15, w16, w17, w18, w19, w20, w21, w22, w23, w24, w25, .ref pk1, .ref pk2, .int pl2, w29, w30, w31, w32, w33, w34])), (l1, .inl (kl1, 10, .inl fll)), (l4, .inl (kl4, 100, .inl fln)), (nm0, .inl (knm0, 10, .inl fnm)), (l7, .inl (kl7, 10, .inl fib)), (pk1, .inl (kpk1, 100, .inl fsl2)), (pk2, .inl (kpk2, 10, .inl fpu2))] t.heap ∧ va_K (dC, dI) vwCl [(kl1, .int), (kl4, .int), (knm0, .int), (kl7, .boolean), (kpk1, .int), (kpk2, .int)] t ∧ va_D (va_A [(h0, .inr (8, [w0, w1, w2, .ref l7, .int (nI kn), .ref l4, .ref l1, w7, w8, w9, w10, w11, w12, w13, .ref nm0, w15, w16, w17, w18, w19, w20, w21, w22, w23, w24, w25, .ref pk1, .ref pk2, .int pl0, w29, w30, w31, w32, w33, w34])), (l1, .inl (kl1, 10, .inl fll)), (l4, .inl (kl4, 100, .inl fln)), (nm0, .inl (knm0, 10, .inl fnm)), (l7, .inl (kl7, 10, .inl fib)), (pk1, .inl (kpk1, 100, .inl fsl)), (pk2, .inl (kpk2, 10, .inl fpu))] sz) [(h0, .inr (8, [w0, w1, w2, .ref l7, .int (nI kn), .ref l4, .ref l1, w7, w8, w9, w10, w11, w12, w13, .ref nm0, w15, w16, w17, w18, w19, w20, w21, w22, w23, w24, w25, .ref pk1, .ref pk2, .int pl2, w29, w30, w31, w32, w33, w34])), (l1, .inl (kl1, 10, .inl fll)), (l4, .inl (kl4, 100, .inl fln)), (nm0, .inl (knm0, 10, .inl fnm)), (l7, .inl (kl7, 10, .inl fib)), (pk1, .inl (kpk1, 100, .inl fsl2)), (pk2, .inl (kpk2, 10, .inl fpu2))]) (va_A [(h0, .inr (8, [w0, w1, w2, .ref l7, .int (nI kn), .ref l4, .ref l1, w7, w8, w9, w10, w11, w12, w13, .ref nm0, w15, w16, w17, w18, w19, w20, w21, w22, w23, w24, w25, .ref pk1, .ref pk2, .int pl0, w29, w30, w31, w32, w33, w34])), (l1, .inl (kl1, 10, .inl fll)), (l4, .inl (kl4, 100, .inl fln)), (nm0, .inl (knm0, 10, .inl fnm)), (l7, .inl (kl7, 10, .inl fib)), (pk1, .inl (kpk1, 100, .inl fsl)), (pk2, .inl (kpk2, 10, .inl fpu))] sz)) 0 0 (va_A [(h0, .inr (8, [w0, w1, w2, .ref l7, .int (nI kn), .ref l4, .ref l1, w7, w8, w9, w10, w11, w12, w13, .ref nm0, w15, w16, w17, w18, w19, w20, w21, w22, w23, w24, w25, .ref pk1, .ref pk2, .int pl0, w29, w30, w31, w32, w33, w34])), (l1, .inl (kl1, 10, .inl fll)), (l4, .inl (kl4, 100, .inl fln)), (nm0, .inl (knm0, 10, .inl fnm)), (l7, .inl (kl7, 10, .inl fib)), (pk1, .inl (kpk1, 100, .inl fsl)), (pk2, .inl (kpk2, 10, .inl fpu))] sz) := by
  refine Met.ofW (cc := cX9_packed) (maxL := 2) (ret := (some .int)) (by decide) rfl ?_
  intro p e s m args below meth c s₁ B hml hv
  obtain ⟨rfl, hsz, hN, hP, hK, hD0⟩ := hv
  have hx := B.exec
  have hb := B.bytes
  have hr := B.returns
  have hts0 := atoms_spec (ws := (wq yX9_packed cX9_packed 2 (some .int))) B.pre
  have hts : ∀ w ∈ BG, w.before _ s = true := fun w h => hts0 w (List.mem_cons_of_mem _ h)
  have hown : s.vm.findClass RX9 = some m.cls := findClass_of_methodNamed B.named
  have hlocks := B.notSynchronized
  subst hsz
  have hD := hD0.self (sz := s.heap.size)
  generalize hAe : va_A [(h0, .inr (8, [w0, w1, w2, .ref l7, .int (nI kn), .ref l4, .ref l1, w7, w8, w9, w10, w11, w12, w13, .ref nm0, w15, w16, w17, w18, w19, w20, w21, w22, w23, w24, w25, .ref pk1, .ref pk2, .int pl0, w29, w30, w31, w32, w33, w34])), (l1, .inl (kl1, 10, .inl fll)), (l4, .inl (kl4, 100, .inl fln)), (nm0, .inl (knm0, 10, .inl fnm)), (l7, .inl (kl7, 10, .inl fib)), (pk1, .inl (kpk1, 100, .inl fsl)), (pk2, .inl (kpk2, 10, .inl fpu))] s.heap.size = A at hD ⊢
  have hA : ∀ q : Nat, s.heap.size ≤ q → A q := fun q h => by rw [← hAe]; exact Or.inr h
  have hS : va_S A s.heap s.heap [] := va_S.rf
  clear hAe hD0
  have hP : va_P (dC, dI) vwCl [(h0, .inr (8, [w0, w1, w2, .ref l7, .int (nI kn), .ref l4, .ref l1, w7, w8, w9, w10, w11, w12, w13, .ref nm0, w15, w16, w17, w18, w19, w20, w21, w22, w23, w24, w25, .ref pk1, .ref pk2, .int pl0, w29, w30, w31, w32, w33, w34])), (l1, .inl (kl1, 10, .inl fll)), (l4, .inl (kl4, 100, .inl fln)), (nm0, .inl (knm0, 10, .inl fnm)), (l7, .inl (kl7, 10, .inl fib)), (pk1, .inl (kpk1, 100, .inl fsl)), (pk2, .inl (kpk2, 10, .inl fpu))] s.heap := hP
  have hl := lv_entry ([.ref h0, .int n1]) (n := 2) (Nat.le_of_ble_eq_true rfl)
  rw [lg_entry_eq]
  generalize (lg_sl ([.ref h0, .int n1]) ++ List.replicate (2 - (lg_sl ([.ref h0, .int n1])).length) Slot.unset).toArray = ls at hl ⊢
  have hl : lv_has ls 2 [(0, .ref h0), (1, .int n1)] := hl
  refine lv_iload_n hx hb dX9_packed_0 rfl (lv_at hl 1 rfl) ?_
  refine lv_iconst (v := (-1)) hx hb dX9_packed_1 (by decide) ?_
  refine lv_icmp_eq (tgt := 15) hx hb dX9_packed_2 (by decide) (fun c_1 => ?_) (fun c_1 => ?_)
  · have b_2 := gx_eq (X := (Int32.toInt n1)) (C := (-1)) rfl (by decide) c_1
    refine lv_aload_n hx hb dX9_packed_15 rfl (lv_at hl 0 rfl) ?_
    have hPc := hP.sub (ws' := [(h0, .inr (8, [w0, w1, w2, .ref l7, .int (nI kn), .ref l4, .ref l1, w7, w8, w9, w10, w11, w12, w13, .ref nm0, w15, w16, w17, w18, w19, w20, w21, w22, w23, w24, w25, .ref pk1, .ref pk2, .int pl0, w29, w30, w31, w32, w33, w34])), (l1, .inl (kl1, 10, .inl fll)), (l4, .inl (kl4, 100, .inl fln)), (nm0, .inl (knm0, 10, .inl fnm)), (l7, .inl (kl7, 10, .inl fib)), (pk1, .inl (kpk1, 100, .inl fsl)), (pk2, .inl (kpk2, 10, .inl fpu))]) [0, 1, 2, 3, 4, 5, 6] rfl
    have hDc := hD.sub (ws' := [(h0, .inr (8, [w0, w1, w2, .ref l7, .int (nI kn), .ref l4, .ref l1, w7, w8, w9, w10, w11, w12, w13, .ref nm0, w15, w16, w17, w18, w19, w20, w21, w22, w23, w24, w25, .ref pk1, .ref pk2, .int pl0, w29, w30, w31, w32, w33, w34])), (l1, .inl (kl1, 10, .inl fll)), (l4, .inl (kl4, 100, .inl fln)), (nm0, .inl (knm0, 10, .inl fnm)), (l7, .inl (kl7, 10, .inl fib)), (pk1, .inl (kpk1, 100, .inl fsl)), (pk2, .inl (kpk2, 10, .inl fpu))]) [0, 1, 2, 3, 4, 5, 6] (by decide) rfl
    have hKc := hK.sub (tys' := [(kl1, .int), (kl4, .int), (knm0, .int), (kl7, .boolean), (kpk1, .int), (kpk2, .int)]) [0, 1, 2, 3, 4, 5] rfl
    have hFc := va_free (wc := [(h0, .inr (8, [w0, w1, w2, .ref l7, .int (nI kn), .ref l4, .ref l1, w7, w8, w9, w10, w11, w12, w13, .ref nm0, w15, w16, w17, w18, w19, w20, w21, w22, w23, w24, w25, .ref pk1, .ref pk2, .int pl0, w29, w30, w31, w32, w33, w34])), (l1, .inl (kl1, 10, .inl fll)), (l4, .inl (kl4, 100, .inl fln)), (nm0, .inl (knm0, 10, .inl fnm)), (l7, .inl (kl7, 10, .inl fib)), (pk1, .inl (kpk1, 100, .inl fsl)), (pk2, .inl (kpk2, 10, .inl fpu))]) hD hS hA [0, 1, 2, 3, 4, 5, 6] rfl
    refine va_callv (va_runV (As := []) (rest := []) ⟨hx, hb, hml, hown, hts⟩ (m_pack l dC dI s.heap.size h0 (w0) (w1) (w2) l7 kn l4 l1 (w7) (w8) (w9) (w10) (w11) (w12) (w13) nm0 (w15) (w16) (w17) (w18) (w19) (w20) (w21) (w22) (w23) (w24) (w25) pk1 pk2 pl0 (w29) (w30) (w31) (w32) (w33) (w34) kl1 fll kl4 fln knm0 fnm kl7 fib kpk1 fsl kpk2 fpu hkn hll hln) (cwV 0 hts (gV mw_4_226 mw_4_228 mw_0_35 mw_1_9 mw_4_229) rfl rfl rfl (by decide +kernel) ⟨Nat.le_of_ble_eq_true rfl, Nat.le_of_ble_eq_true rfl⟩) ⟨pcW_blind, va_recv hKc hPc (ci := 8) (q0 := 0) rfl rfl, pcW_at hPc hKc hDc hN⟩ rfl rfl hl.1 rfl (lv_room (Nat.le_of_ble_eq_true rfl)) dX9_packed_16 ⟨Nat.le_of_ble_eq_true rfl, Nat.le_of_ble_eq_true rfl⟩) hS (fun q _ h => hFc q h) hFc (fun u t H1 locs ht hvm hw_3 hB hz1 hk1 hS => ?_)
    obtain ⟨f_4, f_5, q_6, p_7, p_8, p_9, hP1, hK1, hD1⟩ := hB
    rw [ht] at hP1
    have hK1 := va_K.moved hvm.symm hK1
    obtain ⟨hP, hD⟩ := va_join (wr := []) (w1 := [(h0, .inr (8, [w0, w1, w2, .ref l7, .int (nI kn), .ref l4, .ref l1, w7, w8, w9, w10, w11, w12, w13, .ref nm0, w15, w16, w17, w18, w19, w20, w21, w22, w23, w24, w25, .ref pk1, .ref pk2, .int (nI q_6), w29, w30, w31, w32, w33, w34])), (l1, .inl (kl1, 10, .inl fll)), (l4, .inl (kl4, 100, .inl fln)), (nm0, .inl (knm0, 10, .inl fnm)), (l7, .inl (kl7, 10, .inl fib)), (pk1, .inl (kpk1, 100, .inl f_4)), (pk2, .inl (kpk2, 10, .inl f_5))]) hP hD [0, 1, 2, 3, 4, 5, 6] [] rfl rfl (by decide) (by decide) hk1 hFc hP1 hD1
    have hK := (hK.sub (tys' := []) [] rfl).app hK1
    clear hz1 hk1 hPc hDc hKc hFc
    generalize H1 = H at hP hS ⊢
    have hK : va_K (dC, dI) vwCl [(kl1, .int), (kl4, .int), (knm0, .int), (kl7, .boolean), (kpk1, .int), (kpk2, .int)] s := hK
    have hP : va_P (dC, dI) vwCl [(h0, .inr (8, [w0, w1, w2, .ref l7, .int (nI kn), .ref l4, .ref l1, w7, w8, w9, w10, w11, w12, w13, .ref nm0, w15, w16, w17, w18, w19, w20, w21, w22, w23, w24, w25, .ref pk1, .ref pk2, .int (nI q_6), w29, w30, w31, w32, w33, w34])), (l1, .inl (kl1, 10, .inl fll)), (l4, .inl (kl4, 100, .inl fln)), (nm0, .inl (knm0, 10, .inl fnm)), (l7, .inl (kl7, 10, .inl fib)), (pk1, .inl (kpk1, 100, .inl f_4)), (pk2, .inl (kpk2, 10, .inl f_5))] H := hP
    have hD : va_D A [(h0, .inr (8, [w0, w1, w2, .ref l7, .int (nI kn), .ref l4, .ref l1, w7, w8, w9, w10, w11, w12, w13, .ref nm0, w15, w16, w17, w18, w19, w20, w21, w22, w23, w24, w25, .ref pk1, .ref pk2, .int (nI q_6), w29, w30, w31, w32, w33, w34])), (l1, .inl (kl1, 10, .inl fll)), (l4, .inl (kl4, 100, .inl fln)), (nm0, .inl (knm0, 10, .inl fnm)), (l7, .inl (kl7, 10, .inl fib)), (pk1, .inl (kpk1, 100, .inl f_4)), (pk2, .inl (kpk2, 10, .inl f_5))] := hD
    refine lv_iload_n hx hb dX9_packed_19 rfl (lv_at hl 1 rfl) ?_
    refine hx_top (y := (-1)) (fx_sing (C := -1) (by decide) (by omega)) ?_
    refine lv_iconst (v := (-1)) hx hb dX9_packed_20 (by decide) ?_
    refine lv_icmp_ne (tgt := 31) hx hb dX9_packed_21 (by decide) (fun h => absurd h (by decide)) (fun _ => ?_)
    refine lv_aload_n hx hb dX9_packed_24 rfl (lv_at hl 0 rfl) ?_
    refine va_get (D := (dC, dI)) (ci := 8) (v := .int (nI q_6)) (C := RX9) (T := TX9) (N := 35) hx hb hts inB_9 hown hK hP 0 rfl rfl 28 (by decide) (hts _ mw_3_210) (fun _ h9 => h9) rfl dX9_packed_25 ?_
    refine lv_goto (tgt := 37) hx hb dX9_packed_28 (by decide) ?_
    have hP9 := hP.sub (ws' := [(h0, .inr (8, [w0, w1, w2, .ref l7, .int (nI kn), .ref l4, .ref l1, w7, w8, w9, w10, w11, w12, w13, .ref nm0, w15, w16, w17, w18, w19, w20, w21, w22, w23, w24, w25, .ref pk1, .ref pk2, .int (nI q_6), w29, w30, w31, w32, w33, w34])), (l1, .inl (kl1, 10, .inl fll)), (l4, .inl (kl4, 100, .inl fln)), (nm0, .inl (knm0, 10, .inl fnm)), (l7, .inl (kl7, 10, .inl fib)), (pk1, .inl (kpk1, 100, .inl f_4)), (pk2, .inl (kpk2, 10, .inl f_5))]) [0, 1, 2, 3, 4, 5, 6] rfl
    have hD9 := hD.sub (ws' := [(h0, .inr (8, [w0, w1, w2, .ref l7, .int (nI kn), .ref l4, .ref l1, w7, w8, w9, w10, w11, w12, w13, .ref nm0, w15, w16, w17, w18, w19, w20, w21, w22, w23, w24, w25, .ref pk1, .ref pk2, .int (nI q_6), w29, w30, w31, w32, w33, w34])), (l1, .inl (kl1, 10, .inl fll)), (l4, .inl (kl4, 100, .inl fln)), (nm0, .inl (knm0, 10, .inl fnm)), (l7, .inl (kl7, 10, .inl fib)), (pk1, .inl (kpk1, 100, .inl f_4)), (pk2, .inl (kpk2, 10, .inl f_5))]) [0, 1, 2, 3, 4, 5, 6] (by decide) rfl
    have hK9 := hK.sub (tys' := [(kl1, .int), (kl4, .int), (knm0, .int), (kl7, .boolean), (kpk1, .int), (kpk2, .int)]) [0, 1, 2, 3, 4, 5] rfl
    exact W.iret (v := (nI q_6)) hx hb hr (fun t ht hW => ⟨⟨(nI q_6), (), rfl, (by unfold F_packed; rw [if_pos (by omega), p_9]; exact congrArg nI (pk_std (R := (rowM fll fln fnm fib)) (fun _ _ => rfl)).1), f_4, f_5, (nI q_6), by rw [ht]; exact hP9, va_K.moved hW.alike hK9, hD9⟩, hS.F ht⟩) hS.2.2 dX9_packed_37
  · have b_2 := gn_eq (X := (Int32.toInt n1)) (C := (-1)) rfl (by decide) c_1
    refine lv_aload_n hx hb dX9_packed_5 rfl (lv_at hl 0 rfl) ?_
    refine lv_iload_n hx hb dX9_packed_6 rfl (lv_at hl 1 rfl) ?_
    have hPc := hP.sub (ws' := [(h0, .inr (8, [w0, w1, w2, .ref l7, .int (nI kn), .ref l4, .ref l1, w7, w8, w9, w10, w11, w12, w13, .ref nm0, w15, w16, w17, w18, w19, w20, w21, w22, w23, w24, w25, .ref pk1, .ref pk2, .int pl0, w29, w30, w31, w32, w33, w34]))]) [0] rfl
    have hDc := hD.sub (ws' := [(h0, .inr (8, [w0, w1, w2, .ref l7, .int (nI kn), .ref l4, .ref l1, w7, w8, w9, w10, w11, w12, w13, .ref nm0, w15, w16, w17, w18, w19, w20, w21, w22, w23, w24, w25, .ref pk1, .ref pk2, .int pl0, w29, w30, w31, w32, w33, w34]))]) [0] (by decide) rfl
    have hKc := hK.sub (tys' := []) [] rfl
    refine va_calli (va_runV (As := [.int n1]) (rest := []) ⟨hx, hb, hml, hown, hts⟩ (m_isKind l dC dI s.heap.size h0 (w0) (w1) (w2) (.ref l7) kn (.ref l4) (.ref l1) (w7) (w8) (w9) (w10) (w11) (w12) (w13) (.ref nm0) (w15) (w16) (w17) (w18) (w19) (w20) (w21) (w22) (w23) (w24) (w25) (.ref pk1) (.ref pk2) (.int pl0) (w29) (w30) (w31) (w32) (w33) (w34) n1 hkn) (cwV 1 hts (gV mw_4_53 mw_4_55 mw_0_15 mw_1_9 mw_4_56) rfl rfl rfl (by decide +kernel) ⟨Nat.le_of_ble_eq_true rfl, Nat.le_of_ble_eq_true rfl⟩) ⟨pcW_blind, va_recv hKc hPc (ci := 8) (q0 := 0) rfl rfl, pcW_at hPc hKc hDc hN⟩ rfl rfl hl.1 rfl (lv_room (Nat.le_of_ble_eq_true rfl)) dX9_packed_7 ⟨Nat.le_of_ble_eq_true rfl, Nat.le_of_ble_eq_true rfl⟩) hS (fun q h1 h2 => absurd h2 (Nat.not_le.mpr h1)) (fun q h => hA q (Nat.le_trans hS.1 h)) (fun r_10 u t H1 locs ht hvm hw_10 hB hz1 hk1 hS => ?_)
    have hP := keepP hP hk1
    clear hz1 hk1 hB ht hvm hPc hDc hKc
    generalize H1 = H at hP hS ⊢
    rcases fx_bool hw_10 with ⟨rfl, b_11⟩ | ⟨rfl, b_11⟩
    · skip
      refine lv_if_ne (tgt := 15) hx hb dX9_packed_10 (by decide) (fun _ => ?_) (fun h => absurd h (by decide))
      refine lv_aload_n hx hb dX9_packed_15 rfl (lv_at hl 0 rfl) ?_
      have hPc := hP.sub (ws' := [(h0, .inr (8, [w0, w1, w2, .ref l7, .int (nI kn), .ref l4, .ref l1, w7, w8, w9, w10, w11, w12, w13, .ref nm0, w15, w16, w17, w18, w19, w20, w21, w22, w23, w24, w25, .ref pk1, .ref pk2, .int pl0, w29, w30, w31, w32, w33, w34])), (l1, .inl (kl1, 10, .inl fll)), (l4, .inl (kl4, 100, .inl fln)), (nm0, .inl (knm0, 10, .inl fnm)), (l7, .inl (kl7, 10, .inl fib)), (pk1, .inl (kpk1, 100, .inl fsl)), (pk2, .inl (kpk2, 10, .inl fpu))]) [0, 1, 2, 3, 4, 5, 6] rfl
      have hDc := hD.sub (ws' := [(h0, .inr (8, [w0, w1, w2, .ref l7, .int (nI kn), .ref l4, .ref l1, w7, w8, w9, w10, w11, w12, w13, .ref nm0, w15, w16, w17, w18, w19, w20, w21, w22, w23, w24, w25, .ref pk1, .ref pk2, .int pl0, w29, w30, w31, w32, w33, w34])), (l1, .inl (kl1, 10, .inl fll)), (l4, .inl (kl4, 100, .inl fln)), (nm0, .inl (knm0, 10, .inl fnm)), (l7, .inl (kl7, 10, .inl fib)), (pk1, .inl (kpk1, 100, .inl fsl)), (pk2, .inl (kpk2, 10, .inl fpu))]) [0, 1, 2, 3, 4, 5, 6] (by decide) rfl
      have hKc := hK.sub (tys' := [(kl1, .int), (kl4, .int), (knm0, .int), (kl7, .boolean), (kpk1, .int), (kpk2, .int)]) [0, 1, 2, 3, 4, 5] rfl
      have hFc := va_free (wc := [(h0, .inr (8, [w0, w1, w2, .ref l7, .int (nI kn), .ref l4, .ref l1, w7, w8, w9, w10, w11, w12, w13, .ref nm0, w15, w16, w17, w18, w19, w20, w21, w22, w23, w24, w25, .ref pk1, .ref pk2, .int pl0, w29, w30, w31, w32, w33, w34])), (l1, .inl (kl1, 10, .inl fll)), (l4, .inl (kl4, 100, .inl fln)), (nm0, .inl (knm0, 10, .inl fnm)), (l7, .inl (kl7, 10, .inl fib)), (pk1, .inl (kpk1, 100, .inl fsl)), (pk2, .inl (kpk2, 10, .inl fpu))]) hD hS hA [0, 1, 2, 3, 4, 5, 6] rfl
      refine va_callv (va_runV (As := []) (rest := []) ⟨hx, hb, hml, hown, hts⟩ (m_pack l dC dI H.size h0 (w0) (w1) (w2) l7 kn l4 l1 (w7) (w8) (w9) (w10) (w11) (w12) (w13) nm0 (w15) (w16) (w17) (w18) (w19) (w20) (w21) (w22) (w23) (w24) (w25) pk1 pk2 pl0 (w29) (w30) (w31) (w32) (w33) (w34) kl1 fll kl4 fln knm0 fnm kl7 fib kpk1 fsl kpk2 fpu hkn hll hln) (cwV 0 hts (gV mw_4_226 mw_4_228 mw_0_35 mw_1_9 mw_4_229) rfl rfl rfl (by decide +kernel) ⟨Nat.le_of_ble_eq_true rfl, Nat.le_of_ble_eq_true rfl⟩) ⟨pcW_blind, va_recv hKc hPc (ci := 8) (q0 := 0) rfl rfl, pcW_at hPc hKc hDc hN⟩ rfl rfl hl.1 rfl (lv_room (Nat.le_of_ble_eq_true rfl)) dX9_packed_16 ⟨Nat.le_of_ble_eq_true rfl, Nat.le_of_ble_eq_true rfl⟩) hS (fun q _ h => hFc q h) hFc (fun u t H1 locs ht hvm hw_12 hB hz1 hk1 hS => ?_)
      obtain ⟨f_13, f_14, q_15, p_16, p_17, p_18, hP1, hK1, hD1⟩ := hB
      rw [ht] at hP1
      have hK1 := va_K.moved hvm.symm hK1
      obtain ⟨hP, hD⟩ := va_join (wr := []) (w1 := [(h0, .inr (8, [w0, w1, w2, .ref l7, .int (nI kn), .ref l4, .ref l1, w7, w8, w9, w10, w11, w12, w13, .ref nm0, w15, w16, w17, w18, w19, w20, w21, w22, w23, w24, w25, .ref pk1, .ref pk2, .int (nI q_15), w29, w30, w31, w32, w33, w34])), (l1, .inl (kl1, 10, .inl fll)), (l4, .inl (kl4, 100, .inl fln)), (nm0, .inl (knm0, 10, .inl fnm)), (l7, .inl (kl7, 10, .inl fib)), (pk1, .inl (kpk1, 100, .inl f_13)), (pk2, .inl (kpk2, 10, .inl f_14))]) hP hD [0, 1, 2, 3, 4, 5, 6] [] rfl rfl (by decide) (by decide) hk1 hFc hP1 hD1
      have hK := (hK.sub (tys' := []) [] rfl).app hK1
      clear hz1 hk1 hPc hDc hKc hFc
      generalize H1 = H at hP hS ⊢
      have hK : va_K (dC, dI) vwCl [(kl1, .int), (kl4, .int), (knm0, .int), (kl7, .boolean), (kpk1, .int), (kpk2, .int)] s := hK
      have hP : va_P (dC, dI) vwCl [(h0, .inr (8, [w0, w1, w2, .ref l7, .int (nI kn), .ref l4, .ref l1, w7, w8, w9, w10, w11, w12, w13, .ref nm0, w15, w16, w17, w18, w19, w20, w21, w22, w23, w24, w25, .ref pk1, .ref pk2, .int (nI q_15), w29, w30, w31, w32, w33, w34])), (l1, .inl (kl1, 10, .inl fll)), (l4, .inl (kl4, 100, .inl fln)), (nm0, .inl (knm0, 10, .inl fnm)), (l7, .inl (kl7, 10, .inl fib)), (pk1, .inl (kpk1, 100, .inl f_13)), (pk2, .inl (kpk2, 10, .inl f_14))] H := hP
      have hD : va_D A [(h0, .inr (8, [w0, w1, w2, .ref l7, .int (nI kn), .ref l4, .ref l1, w7, w8, w9, w10, w11, w12, w13, .ref nm0, w15, w16, w17, w18, w19, w20, w21, w22, w23, w24, w25, .ref pk1, .ref pk2, .int (nI q_15), w29, w30, w31, w32, w33, w34])), (l1, .inl (kl1, 10, .inl fll)), (l4, .inl (kl4, 100, .inl fln)), (nm0, .inl (knm0, 10, .inl fnm)), (l7, .inl (kl7, 10, .inl fib)), (pk1, .inl (kpk1, 100, .inl f_13)), (pk2, .inl (kpk2, 10, .inl f_14))] := hD
      refine lv_iload_n hx hb dX9_packed_19 rfl (lv_at hl 1 rfl) ?_
      refine lv_iconst (v := (-1)) hx hb dX9_packed_20 (by decide) ?_
      refine lv_icmp_ne (tgt := 31) hx hb dX9_packed_21 (by decide) (fun c_19 => ?_) (fun h => absurd (gn_ne (X := (Int32.toInt n1)) (C := (-1)) rfl (by decide) h) (by omega))
      have b_20 := gx_ne (X := (Int32.toInt n1)) (C := (-1)) rfl (by decide) c_19
      obtain ⟨j_21, tj_21, ej_21⟩ := fx_nat (x := n1) (by omega)
      subst ej_21
      have yj_21 : Int32.toInt (nI j_21) = (j_21 : Int) := nI_toInt tj_21
      refine lv_aload_n hx hb dX9_packed_31 rfl (lv_at hl 0 rfl) ?_
      refine va_get (D := (dC, dI)) (ci := 8) (v := .ref pk2) (C := RX9) (T := TX9) (N := 35) hx hb hts inB_9 hown hK hP 0 rfl rfl 27 (by decide) (hts _ mw_3_209) (fun _ h9 => h9) rfl dX9_packed_32 ?_
      refine lv_iload_n hx hb dX9_packed_35 rfl (lv_at hl 1 rfl) ?_
      refine va_iald hx hb hK hP 6 5 rfl rfl (show vp_in (nI j_21) 10 from vp_in_nI (by omega) (by omega)) dX9_packed_36 ?_
      refine hx_top (y := (f_14 j_21)) (congrArg _ (nI_clamp (by omega))) ?_
      have hP9 := hP.sub (ws' := [(h0, .inr (8, [w0, w1, w2, .ref l7, .int (nI kn), .ref l4, .ref l1, w7, w8, w9, w10, w11, w12, w13, .ref nm0, w15, w16, w17, w18, w19, w20, w21, w22, w23, w24, w25, .ref pk1, .ref pk2, .int (nI q_15), w29, w30, w31, w32, w33, w34])), (l1, .inl (kl1, 10, .inl fll)), (l4, .inl (kl4, 100, .inl fln)), (nm0, .inl (knm0, 10, .inl fnm)), (l7, .inl (kl7, 10, .inl fib)), (pk1, .inl (kpk1, 100, .inl f_13)), (pk2, .inl (kpk2, 10, .inl f_14))]) [0, 1, 2, 3, 4, 5, 6] rfl
      have hD9 := hD.sub (ws' := [(h0, .inr (8, [w0, w1, w2, .ref l7, .int (nI kn), .ref l4, .ref l1, w7, w8, w9, w10, w11, w12, w13, .ref nm0, w15, w16, w17, w18, w19, w20, w21, w22, w23, w24, w25, .ref pk1, .ref pk2, .int (nI q_15), w29, w30, w31, w32, w33, w34])), (l1, .inl (kl1, 10, .inl fll)), (l4, .inl (kl4, 100, .inl fln)), (nm0, .inl (knm0, 10, .inl fnm)), (l7, .inl (kl7, 10, .inl fib)), (pk1, .inl (kpk1, 100, .inl f_13)), (pk2, .inl (kpk2, 10, .inl f_14))]) [0, 1, 2, 3, 4, 5, 6] (by decide) rfl
      have hK9 := hK.sub (tys' := [(kl1, .int), (kl4, .int), (knm0, .int), (kl7, .boolean), (kpk1, .int), (kpk2, .int)]) [0, 1, 2, 3, 4, 5] rfl
      exact W.iret (v := (f_14 j_21)) hx hb hr (fun t ht hW => ⟨⟨(f_14 j_21), (), rfl, (by unfold F_packed; rw [if_neg (by omega), if_pos (by omega), nI_clamp (by omega), p_17]; exact (pk_std (R := (rowM fll fln fnm fib)) (fun _ _ => rfl)).2.1 _ (by omega)), f_13, f_14, (nI q_15), by rw [ht]; exact hP9, va_K.moved hW.alike hK9, hD9⟩, hS.F ht⟩) hS.2.2 dX9_packed_37
    · skip
      refine lv_if_ne (tgt := 15) hx hb dX9_packed_10 (by decide) (fun h => absurd h (by decide)) (fun _ => ?_)
      refine lv_iconst (v := (-1)) hx hb dX9_packed_13 (by decide) ?_
      have hP9 := hP.sub (ws' := [(h0, .inr (8, [w0, w1, w2, .ref l7, .int (nI kn), .ref l4, .ref l1, w7, w8, w9, w10, w11, w12, w13, .ref nm0, w15, w16, w17, w18, w19, w20, w21, w22, w23, w24, w25, .ref pk1, .ref pk2, .int pl0, w29, w30, w31, w32, w33, w34])), (l1, .inl (kl1, 10, .inl fll)), (l4, .inl (kl4, 100, .inl fln)), (nm0, .inl (knm0, 10, .inl fnm)), (l7, .inl (kl7, 10, .inl fib)), (pk1, .inl (kpk1, 100, .inl fsl)), (pk2, .inl (kpk2, 10, .inl fpu))]) [0, 1, 2, 3, 4, 5, 6] rfl
      have hD9 := hD.sub (ws' := [(h0, .inr (8, [w0, w1, w2, .ref l7, .int (nI kn), .ref l4, .ref l1, w7, w8, w9, w10, w11, w12, w13, .ref nm0, w15, w16, w17, w18, w19, w20, w21, w22, w23, w24, w25, .ref pk1, .ref pk2, .int pl0, w29, w30, w31, w32, w33, w34])), (l1, .inl (kl1, 10, .inl fll)), (l4, .inl (kl4, 100, .inl fln)), (nm0, .inl (knm0, 10, .inl fnm)), (l7, .inl (kl7, 10, .inl fib)), (pk1, .inl (kpk1, 100, .inl fsl)), (pk2, .inl (kpk2, 10, .inl fpu))]) [0, 1, 2, 3, 4, 5, 6] (by decide) rfl
      have hK9 := hK.sub (tys' := [(kl1, .int), (kl4, .int), (knm0, .int), (kl7, .boolean), (kpk1, .int), (kpk2, .int)]) [0, 1, 2, 3, 4, 5] rfl
      exact W.iret (v := (-1)) hx hb hr (fun t ht hW => ⟨⟨(-1), (), rfl, (by unfold F_packed; rw [if_neg (by omega), if_neg (by omega)]), fsl, fpu, pl0, by rw [ht]; exact hP9, va_K.moved hW.alike hK9, hD9⟩, hS.F ht⟩) hS.2.2 dX9_packed_14
set_option maxHeartbeats 4000000 in
set_option maxRecDepth 100000 in
theorem m_slot (l : Launch) (dC : Nat → ClassId) (dI : Nat → Nat → Nat) (sz : Nat) (h0 : Nat) (w0 : Value) (w1 : Value) (w2 : Value) (l7 : Nat) (kn : Nat) (l4 : Nat) (l1 : Nat) (w7 : Value) (w8 : Value) (w9 : Value) (w10 : Value) (w11 : Value) (w12 : Value) (w13 : Value) (nm0 : Nat) (w15 : Value) (w16 : Value) (w17 : Value) (w18 : Value) (w19 : Value) (w20 : Value) (w21 : Value) (w22 : Value) (w23 : Value) (w24 : Value) (w25 : Value) (pk1 : Nat) (pk2 : Nat) (pl0 : Int32) (w29 : Value) (w30 : Value) (w31 : Value) (w32 : Value) (w33 : Value) (w34 : Value) (kl1 : ClassId) (fll : Nat → Int32) (kl4 : ClassId) (fln : Nat → Int32) (knm0 : ClassId) (fnm : Nat → Int32) (kl7 : ClassId) (fib : Nat → Int32) (kpk1 : ClassId) (fsl : Nat → Int32) (kpk2 : ClassId) (fpu : Nat → Int32) (n1 : Int32) (hkn : kn ≤ 10) (hll : BdOk 10 10 fll) (hln : LnOk fll fln kn) : Met l yX9_slot (wq yX9_slot cX9_slot 2 (some .int)) ({ frames := 4, cells := 0, slots := 0, locals := 94 }) (va_Pc [.ref h0, .int n1] (pcW dC dI [(kl1, .int), (kl4, .int), (knm0, .int), (kl7, .boolean), (kpk1, .int), (kpk2, .int)] [(h0, .inr (8, [w0, w1, w2, .ref l7, .int (nI kn), .ref l4, .ref l1, w7, w8, w9, w10, w11, w12, w13, .ref nm0, w15, w16, w17, w18, w19, w20, w21, w22, w23, w24, w25, .ref pk1, .ref pk2, .int pl0, w29, w30, w31, w32, w33, w34])), (l1, .inl (kl1, 10, .inl fll)), (l4, .inl (kl4, 100, .inl fln)), (nm0, .inl (knm0, 10, .inl fnm)), (l7, .inl (kl7, 10, .inl fib)), (pk1, .inl (kpk1, 100, .inl fsl)), (pk2, .inl (kpk2, 10, .inl fpu))] sz)) (va_Qi (fun (r : Int32) (_ : Unit) => r = F_slot (pks (rowM fll fln fnm fib) kn) n1) (fun _ t => ∃ (fsl2 : Nat → Int32) (fpu2 : Nat → Int32) (pl2 : Int32), va_P (dC, dI) vwCl [(h0, .inr (8, [w0, w1, w2, .ref l7, .int (nI kn), .ref l4, .ref l1, w7, w8, w9, w10, w11, w12, w13, .ref nm0, w15, w16, w17, w18, w19, w20, w21, w22, w23, w24, w25, .ref pk1, .ref pk2, .int pl2, w29, w30, w31, w32, w33, w34])), (l1, .inl (kl1, 10, .inl fll)), (l4, .inl (kl4, 100, .inl fln)), (nm0, .inl (knm0, 10, .inl fnm)), (l7, .inl (kl7, 10, .inl fib)), (pk1, .inl (kpk1, 100, .inl fsl2)), (pk2, .inl (kpk2, 10, .inl fpu2))] t.heap ∧ va_K (dC, dI) vwCl [(kl1, .int), (kl4, .int), (knm0, .int), (kl7, .boolean), (kpk1, .int), (kpk2, .int)] t ∧ va_D (va_A [(h0, .inr (8, [w0, w1, w2, .ref l7, .int (nI kn), .ref l4, .ref l1, w7, w8, w9, w10, w11, w12, w13, .ref nm0, w15, w16, w17, w18, w19, w20, w21, w22, w23, w24, w25, .ref pk1, .ref pk2, .int pl0, w29, w30, w31, w32, w33, w34])), (l1, .inl (kl1, 10, .inl fll)), (l4, .inl (kl4, 100, .inl fln)), (nm0, .inl (knm0, 10, .inl fnm)), (l7, .inl (kl7, 10, .inl fib)), (pk1, .inl (kpk1, 100, .inl fsl)), (pk2, .inl (kpk2, 10, .inl fpu))] sz) [(h0, .inr (8, [w0, w1, w2, .ref l7, .int (nI kn), .ref l4, .ref l1, w7, w8, w9, w10, w11, w12, w13, .ref nm0, w15, w16, w17, w18, w19, w20, w21, w22, w23, w24, w25, .ref pk1, .ref pk2, .int pl2, w29, w30, w31, w32, w33, w34])), (l1, .inl (kl1, 10, .inl fll)), (l4, .inl (kl4, 100, .inl fln)), (nm0, .inl (knm0, 10, .inl fnm)), (l7, .inl (kl7, 10, .inl fib)), (pk1, .inl (kpk1, 100, .inl fsl2)), (pk2, .inl (kpk2, 10, .inl fpu2))]) (va_A [(h0, .inr (8, [w0, w1, w2, .ref l7, .int (nI kn), .ref l4, .ref l1, w7, w8, w9, w10, w11, w12, w13, .ref nm0, w15, w16, w17, w18, w19, w20, w21, w22, w23, w24, w25, .ref pk1, .ref pk2, .int pl0, w29, w30, w31, w32, w33, w34])), (l1, .inl (kl1, 10, .inl fll)), (l4, .inl (kl4, 100, .inl fln)), (nm0, .inl (knm0, 10, .inl fnm)), (l7, .inl (kl7, 10, .inl fib)), (pk1, .inl (kpk1, 100, .inl fsl)), (pk2, .inl (kpk2, 10, .inl fpu))] sz)) 0 0 (va_A [(h0, .inr (8, [w0, w1, w2, .ref l7, .int (nI kn), .ref l4, .ref l1, w7, w8, w9, w10, w11, w12, w13, .ref nm0, w15, w16, w17, w18, w19, w20, w21, w22, w23, w24, w25, .ref pk1, .ref pk2, .int pl0, w29, w30, w31, w32, w33, w34])), (l1, .inl (kl1, 10, .inl fll)), (l4, .inl (kl4, 100, .inl fln)), (nm0, .inl (knm0, 10, .inl fnm)), (l7, .inl (kl7, 10, .inl fib)), (pk1, .inl (kpk1, 100, .inl fsl)), (pk2, .inl (kpk2, 10, .inl fpu))] sz) := by
  refine Met.ofW (cc := cX9_slot) (maxL := 2) (ret := (some .int)) (by decide) rfl ?_
  intro p e s m args below meth c s₁ B hml hv
  obtain ⟨rfl, hsz, hN, hP, hK, hD0⟩ := hv
  have hx := B.exec
  have hb := B.bytes
  have hr := B.returns
  have hts0 := atoms_spec (ws := (wq yX9_slot cX9_slot 2 (some .int))) B.pre
  have hts : ∀ w ∈ BG, w.before _ s = true := fun w h => hts0 w (List.mem_cons_of_mem _ h)
  have hown : s.vm.findClass RX9 = some m.cls := findClass_of_methodNamed B.named
  have hlocks := B.notSynchronized
  subst hsz
  have hD := hD0.self (sz := s.heap.size)
  generalize hAe : va_A [(h0, .inr (8, [w0, w1, w2, .ref l7, .int (nI kn), .ref l4, .ref l1, w7, w8, w9, w10, w11, w12, w13, .ref nm0, w15, w16, w17, w18, w19, w20, w21, w22, w23, w24, w25, .ref pk1, .ref pk2, .int pl0, w29, w30, w31, w32, w33, w34])), (l1, .inl (kl1, 10, .inl fll)), (l4, .inl (kl4, 100, .inl fln)), (nm0, .inl (knm0, 10, .inl fnm)), (l7, .inl (kl7, 10, .inl fib)), (pk1, .inl (kpk1, 100, .inl fsl)), (pk2, .inl (kpk2, 10, .inl fpu))] s.heap.size = A at hD ⊢
  have hA : ∀ q : Nat, s.heap.size ≤ q → A q := fun q h => by rw [← hAe]; exact Or.inr h
  have hS : va_S A s.heap s.heap [] := va_S.rf
  clear hAe hD0
  have hP : va_P (dC, dI) vwCl [(h0, .inr (8, [w0, w1, w2, .ref l7, .int (nI kn), .ref l4, .ref l1, w7, w8, w9, w10, w11, w12, w13, .ref nm0, w15, w16, w17, w18, w19, w20, w21, w22, w23, w24, w25, .ref pk1, .ref pk2, .int pl0, w29, w30, w31, w32, w33, w34])), (l1, .inl (kl1, 10, .inl fll)), (l4, .inl (kl4, 100, .inl fln)), (nm0, .inl (knm0, 10, .inl fnm)), (l7, .inl (kl7, 10, .inl fib)), (pk1, .inl (kpk1, 100, .inl fsl)), (pk2, .inl (kpk2, 10, .inl fpu))] s.heap := hP
  have hl := lv_entry ([.ref h0, .int n1]) (n := 2) (Nat.le_of_ble_eq_true rfl)
  rw [lg_entry_eq]
  generalize (lg_sl ([.ref h0, .int n1]) ++ List.replicate (2 - (lg_sl ([.ref h0, .int n1])).length) Slot.unset).toArray = ls at hl ⊢
  have hl : lv_has ls 2 [(0, .ref h0), (1, .int n1)] := hl
  refine lv_iload_n hx hb dX9_slot_0 rfl (lv_at hl 1 rfl) ?_
  refine lv_i2l hx hb dX9_slot_1 rfl ?_
  refine lv_lconst (v := Int32.toInt64 0) hx hb dX9_slot_2 (by decide) ?_
  refine lv_ldc2 (v := Int32.toInt64 99) hx hb hown (show (Cond.constantLong RX9 218 (Int32.toInt64 99)).before _ s = true from (hts _ mw_4_238)) dX9_slot_3 ?_
  have hPc := hP.sub (ws' := []) [] rfl
  have hDc := hD.sub (ws' := []) [] (by decide) rfl
  have hKc := hK.sub (tys' := []) [] rfl
  refine va_calli (va_runS (As := [.long (Int32.toInt64 n1), .long (Int32.toInt64 0), .long (Int32.toInt64 99)]) (rest := []) ⟨hx, hb, hml, hown, hts⟩ (m_in l dC dI s.heap.size n1 0 99 0 99 (by decide) (by decide)) (va_cwS 3 hts (gS mw_4_57 mw_4_58 mw_1_9 mw_4_59) rfl rfl rfl (by decide +kernel) ⟨Nat.le_of_ble_eq_true rfl, Nat.le_of_ble_eq_true rfl⟩) ⟨pcW_blind, pcW_at hPc hKc hDc hN⟩ rfl rfl hl.1 rfl (lv_room (Nat.le_of_ble_eq_true rfl)) dX9_slot_6 ⟨Nat.le_of_ble_eq_true rfl, Nat.le_of_ble_eq_true rfl⟩) hS (fun q h1 h2 => absurd h2 (Nat.not_le.mpr h1)) (fun q h => hA q (Nat.le_trans hS.1 h)) (fun r_1 u t H1 locs ht hvm hw_1 hB hz1 hk1 hS => ?_)
  have hP := keepP hP hk1
  clear hz1 hk1 hB ht hvm hPc hDc hKc
  generalize H1 = H at hP hS ⊢
  rcases fx_bool hw_1 with ⟨rfl, b_2⟩ | ⟨rfl, b_2⟩
  · skip
    refine lv_if_ne (tgt := 15) hx hb dX9_slot_9 (by decide) (fun _ => ?_) (fun h => absurd h (by decide))
    obtain ⟨j_3, tj_3, ej_3⟩ := fx_nat (x := n1) (by omega)
    subst ej_3
    have yj_3 : Int32.toInt (nI j_3) = (j_3 : Int) := nI_toInt tj_3
    refine lv_aload_n hx hb dX9_slot_15 rfl (lv_at hl 0 rfl) ?_
    have hPc := hP.sub (ws' := [(h0, .inr (8, [w0, w1, w2, .ref l7, .int (nI kn), .ref l4, .ref l1, w7, w8, w9, w10, w11, w12, w13, .ref nm0, w15, w16, w17, w18, w19, w20, w21, w22, w23, w24, w25, .ref pk1, .ref pk2, .int pl0, w29, w30, w31, w32, w33, w34])), (l1, .inl (kl1, 10, .inl fll)), (l4, .inl (kl4, 100, .inl fln)), (nm0, .inl (knm0, 10, .inl fnm)), (l7, .inl (kl7, 10, .inl fib)), (pk1, .inl (kpk1, 100, .inl fsl)), (pk2, .inl (kpk2, 10, .inl fpu))]) [0, 1, 2, 3, 4, 5, 6] rfl
    have hDc := hD.sub (ws' := [(h0, .inr (8, [w0, w1, w2, .ref l7, .int (nI kn), .ref l4, .ref l1, w7, w8, w9, w10, w11, w12, w13, .ref nm0, w15, w16, w17, w18, w19, w20, w21, w22, w23, w24, w25, .ref pk1, .ref pk2, .int pl0, w29, w30, w31, w32, w33, w34])), (l1, .inl (kl1, 10, .inl fll)), (l4, .inl (kl4, 100, .inl fln)), (nm0, .inl (knm0, 10, .inl fnm)), (l7, .inl (kl7, 10, .inl fib)), (pk1, .inl (kpk1, 100, .inl fsl)), (pk2, .inl (kpk2, 10, .inl fpu))]) [0, 1, 2, 3, 4, 5, 6] (by decide) rfl
    have hKc := hK.sub (tys' := [(kl1, .int), (kl4, .int), (knm0, .int), (kl7, .boolean), (kpk1, .int), (kpk2, .int)]) [0, 1, 2, 3, 4, 5] rfl
    have hFc := va_free (wc := [(h0, .inr (8, [w0, w1, w2, .ref l7, .int (nI kn), .ref l4, .ref l1, w7, w8, w9, w10, w11, w12, w13, .ref nm0, w15, w16, w17, w18, w19, w20, w21, w22, w23, w24, w25, .ref pk1, .ref pk2, .int pl0, w29, w30, w31, w32, w33, w34])), (l1, .inl (kl1, 10, .inl fll)), (l4, .inl (kl4, 100, .inl fln)), (nm0, .inl (knm0, 10, .inl fnm)), (l7, .inl (kl7, 10, .inl fib)), (pk1, .inl (kpk1, 100, .inl fsl)), (pk2, .inl (kpk2, 10, .inl fpu))]) hD hS hA [0, 1, 2, 3, 4, 5, 6] rfl
    refine va_callv (va_runV (As := []) (rest := []) ⟨hx, hb, hml, hown, hts⟩ (m_pack l dC dI H.size h0 (w0) (w1) (w2) l7 kn l4 l1 (w7) (w8) (w9) (w10) (w11) (w12) (w13) nm0 (w15) (w16) (w17) (w18) (w19) (w20) (w21) (w22) (w23) (w24) (w25) pk1 pk2 pl0 (w29) (w30) (w31) (w32) (w33) (w34) kl1 fll kl4 fln knm0 fnm kl7 fib kpk1 fsl kpk2 fpu hkn hll hln) (cwV 0 hts (gV mw_4_226 mw_4_228 mw_0_35 mw_1_9 mw_4_229) rfl rfl rfl (by decide +kernel) ⟨Nat.le_of_ble_eq_true rfl, Nat.le_of_ble_eq_true rfl⟩) ⟨pcW_blind, va_recv hKc hPc (ci := 8) (q0 := 0) rfl rfl, pcW_at hPc hKc hDc hN⟩ rfl rfl hl.1 rfl (lv_room (Nat.le_of_ble_eq_true rfl)) dX9_slot_16 ⟨Nat.le_of_ble_eq_true rfl, Nat.le_of_ble_eq_true rfl⟩) hS (fun q _ h => hFc q h) hFc (fun u t H1 locs ht hvm hw_4 hB hz1 hk1 hS => ?_)
    obtain ⟨f_5, f_6, q_7, p_8, p_9, p_10, hP1, hK1, hD1⟩ := hB
    rw [ht] at hP1
    have hK1 := va_K.moved hvm.symm hK1
    obtain ⟨hP, hD⟩ := va_join (wr := []) (w1 := [(h0, .inr (8, [w0, w1, w2, .ref l7, .int (nI kn), .ref l4, .ref l1, w7, w8, w9, w10, w11, w12, w13, .ref nm0, w15, w16, w17, w18, w19, w20, w21, w22, w23, w24, w25, .ref pk1, .ref pk2, .int (nI q_7), w29, w30, w31, w32, w33, w34])), (l1, .inl (kl1, 10, .inl fll)), (l4, .inl (kl4, 100, .inl fln)), (nm0, .inl (knm0, 10, .inl fnm)), (l7, .inl (kl7, 10, .inl fib)), (pk1, .inl (kpk1, 100, .inl f_5)), (pk2, .inl (kpk2, 10, .inl f_6))]) hP hD [0, 1, 2, 3, 4, 5, 6] [] rfl rfl (by decide) (by decide) hk1 hFc hP1 hD1
    have hK := (hK.sub (tys' := []) [] rfl).app hK1
    clear hz1 hk1 hPc hDc hKc hFc
    generalize H1 = H at hP hS ⊢
    have hK : va_K (dC, dI) vwCl [(kl1, .int), (kl4, .int), (knm0, .int), (kl7, .boolean), (kpk1, .int), (kpk2, .int)] s := hK
    have hP : va_P (dC, dI) vwCl [(h0, .inr (8, [w0, w1, w2, .ref l7, .int (nI kn), .ref l4, .ref l1, w7, w8, w9, w10, w11, w12, w13, .ref nm0, w15, w16, w17, w18, w19, w20, w21, w22, w23, w24, w25, .ref pk1, .ref pk2, .int (nI q_7), w29, w30, w31, w32, w33, w34])), (l1, .inl (kl1, 10, .inl fll)), (l4, .inl (kl4, 100, .inl fln)), (nm0, .inl (knm0, 10, .inl fnm)), (l7, .inl (kl7, 10, .inl fib)), (pk1, .inl (kpk1, 100, .inl f_5)), (pk2, .inl (kpk2, 10, .inl f_6))] H := hP
    have hD : va_D A [(h0, .inr (8, [w0, w1, w2, .ref l7, .int (nI kn), .ref l4, .ref l1, w7, w8, w9, w10, w11, w12, w13, .ref nm0, w15, w16, w17, w18, w19, w20, w21, w22, w23, w24, w25, .ref pk1, .ref pk2, .int (nI q_7), w29, w30, w31, w32, w33, w34])), (l1, .inl (kl1, 10, .inl fll)), (l4, .inl (kl4, 100, .inl fln)), (nm0, .inl (knm0, 10, .inl fnm)), (l7, .inl (kl7, 10, .inl fib)), (pk1, .inl (kpk1, 100, .inl f_5)), (pk2, .inl (kpk2, 10, .inl f_6))] := hD
    refine lv_aload_n hx hb dX9_slot_19 rfl (lv_at hl 0 rfl) ?_
    refine va_get (D := (dC, dI)) (ci := 8) (v := .ref pk1) (C := RX9) (T := TX9) (N := 35) hx hb hts inB_9 hown hK hP 0 rfl rfl 26 (by decide) (hts _ mw_3_208) (fun _ h9 => h9) rfl dX9_slot_20 ?_
    refine lv_iload_n hx hb dX9_slot_23 rfl (lv_at hl 1 rfl) ?_
    refine va_iald hx hb hK hP 5 4 rfl rfl (show vp_in (nI j_3) 100 from vp_in_nI (by omega) (by omega)) dX9_slot_24 ?_
    refine hx_top (y := (f_5 j_3)) (congrArg _ (nI_clamp (by omega))) ?_
    have hP9 := hP.sub (ws' := [(h0, .inr (8, [w0, w1, w2, .ref l7, .int (nI kn), .ref l4, .ref l1, w7, w8, w9, w10, w11, w12, w13, .ref nm0, w15, w16, w17, w18, w19, w20, w21, w22, w23, w24, w25, .ref pk1, .ref pk2, .int (nI q_7), w29, w30, w31, w32, w33, w34])), (l1, .inl (kl1, 10, .inl fll)), (l4, .inl (kl4, 100, .inl fln)), (nm0, .inl (knm0, 10, .inl fnm)), (l7, .inl (kl7, 10, .inl fib)), (pk1, .inl (kpk1, 100, .inl f_5)), (pk2, .inl (kpk2, 10, .inl f_6))]) [0, 1, 2, 3, 4, 5, 6] rfl
    have hD9 := hD.sub (ws' := [(h0, .inr (8, [w0, w1, w2, .ref l7, .int (nI kn), .ref l4, .ref l1, w7, w8, w9, w10, w11, w12, w13, .ref nm0, w15, w16, w17, w18, w19, w20, w21, w22, w23, w24, w25, .ref pk1, .ref pk2, .int (nI q_7), w29, w30, w31, w32, w33, w34])), (l1, .inl (kl1, 10, .inl fll)), (l4, .inl (kl4, 100, .inl fln)), (nm0, .inl (knm0, 10, .inl fnm)), (l7, .inl (kl7, 10, .inl fib)), (pk1, .inl (kpk1, 100, .inl f_5)), (pk2, .inl (kpk2, 10, .inl f_6))]) [0, 1, 2, 3, 4, 5, 6] (by decide) rfl
    have hK9 := hK.sub (tys' := [(kl1, .int), (kl4, .int), (knm0, .int), (kl7, .boolean), (kpk1, .int), (kpk2, .int)]) [0, 1, 2, 3, 4, 5] rfl
    exact W.iret (v := (f_5 j_3)) hx hb hr (fun t ht hW => ⟨⟨(f_5 j_3), (), rfl, (by unfold F_slot; rw [if_pos (by omega), nI_clamp (by omega), p_8]; exact (pk_std (R := (rowM fll fln fnm fib)) (fun _ _ => rfl)).2.2 _ (by omega)), f_5, f_6, (nI q_7), by rw [ht]; exact hP9, va_K.moved hW.alike hK9, hD9⟩, hS.F ht⟩) hS.2.2 dX9_slot_25
  · skip
    refine lv_if_ne (tgt := 15) hx hb dX9_slot_9 (by decide) (fun h => absurd h (by decide)) (fun _ => ?_)
    refine lv_bipush (v := (-2)) hx hb dX9_slot_12 (by decide) ?_
    have hP9 := hP.sub (ws' := [(h0, .inr (8, [w0, w1, w2, .ref l7, .int (nI kn), .ref l4, .ref l1, w7, w8, w9, w10, w11, w12, w13, .ref nm0, w15, w16, w17, w18, w19, w20, w21, w22, w23, w24, w25, .ref pk1, .ref pk2, .int pl0, w29, w30, w31, w32, w33, w34])), (l1, .inl (kl1, 10, .inl fll)), (l4, .inl (kl4, 100, .inl fln)), (nm0, .inl (knm0, 10, .inl fnm)), (l7, .inl (kl7, 10, .inl fib)), (pk1, .inl (kpk1, 100, .inl fsl)), (pk2, .inl (kpk2, 10, .inl fpu))]) [0, 1, 2, 3, 4, 5, 6] rfl
    have hD9 := hD.sub (ws' := [(h0, .inr (8, [w0, w1, w2, .ref l7, .int (nI kn), .ref l4, .ref l1, w7, w8, w9, w10, w11, w12, w13, .ref nm0, w15, w16, w17, w18, w19, w20, w21, w22, w23, w24, w25, .ref pk1, .ref pk2, .int pl0, w29, w30, w31, w32, w33, w34])), (l1, .inl (kl1, 10, .inl fll)), (l4, .inl (kl4, 100, .inl fln)), (nm0, .inl (knm0, 10, .inl fnm)), (l7, .inl (kl7, 10, .inl fib)), (pk1, .inl (kpk1, 100, .inl fsl)), (pk2, .inl (kpk2, 10, .inl fpu))]) [0, 1, 2, 3, 4, 5, 6] (by decide) rfl
    have hK9 := hK.sub (tys' := [(kl1, .int), (kl4, .int), (knm0, .int), (kl7, .boolean), (kpk1, .int), (kpk2, .int)]) [0, 1, 2, 3, 4, 5] rfl
    exact W.iret (v := (-2)) hx hb hr (fun t ht hW => ⟨⟨(-2), (), rfl, (by unfold F_slot; rw [if_neg (by omega)]), fsl, fpu, pl0, by rw [ht]; exact hP9, va_K.moved hW.alike hK9, hD9⟩, hS.F ht⟩) hS.2.2 dX9_slot_14
