theorem mw_4_64 : Cond.code yX9_layLine cX9_layLine 5 none ∈ BG := mB (t4 (i := 64) rfl) (by decide +kernel)
theorem mw_4_61 : Cond.methodLink RX9 102 yX9_layLine ∈ BG := mB (t4 (i := 61) (by decide +kernel)) (by decide +kernel)
theorem mw_4_63 : Cond.instanceMethod yX9_layLine ∈ BG := mB (t4 (i := 63) (by decide +kernel)) (by decide +kernel)
theorem mw_0_16 : Cond.selects RX9 yX9_layLine yX9_layLine ∈ BG := mB (t0 (i := 16) (by decide +kernel)) (by decide +kernel)
theorem dX9_kind_0 : decode cX9_kind 0 = .ok (.iload_n 1, 1) := by decide +kernel
theorem dX9_kind_1 : decode cX9_kind 1 = .ok (.iconst 1, 1) := by decide +kernel
theorem dX9_kind_2 : decode cX9_kind 2 = .ok (.if_icmp .lt 11, 3) := by decide +kernel
theorem dX9_kind_13 : decode cX9_kind 13 = .ok (.iload_n 1, 1) := by decide +kernel
theorem dX9_kind_14 : decode cX9_kind 14 = .ok (.iconst 2, 1) := by decide +kernel
theorem dX9_kind_15 : decode cX9_kind 15 = .ok (.if_icmp .lt 16, 3) := by decide +kernel
theorem dX9_kind_31 : decode cX9_kind 31 = .ok (.iload_n 1, 1) := by decide +kernel
theorem dX9_kind_32 : decode cX9_kind 32 = .ok (.iconst 3, 1) := by decide +kernel
theorem dX9_kind_33 : decode cX9_kind 33 = .ok (.if_icmp .lt 24, 3) := by decide +kernel
theorem dX9_kind_57 : decode cX9_kind 57 = .ok (.iconst 1, 1) := by decide +kernel
theorem dX9_kind_58 : decode cX9_kind 58 = .ok (.goto 4, 3) := by decide +kernel
theorem dX9_kind_62 : decode cX9_kind 62 = .ok (.istore 5, 2) := by decide +kernel
theorem dX9_kind_64 : decode cX9_kind 64 = .ok (.iload 5, 2) := by decide +kernel
theorem dX9_kind_66 : decode cX9_kind 66 = .ok (.ifCond .ne 5, 3) := by decide +kernel
theorem dX9_kind_71 : decode cX9_kind 71 = .ok (.iload_n 1, 1) := by decide +kernel
theorem dX9_kind_72 : decode cX9_kind 72 = .ok (.i2l, 1) := by decide +kernel
theorem dX9_kind_73 : decode cX9_kind 73 = .ok (.lconst 0, 1) := by decide +kernel
theorem dX9_kind_74 : decode cX9_kind 74 = .ok (.ldc2_w 100, 3) := by decide +kernel
theorem dX9_kind_77 : decode cX9_kind 77 = .ok (.invokestatic 90, 3) := by decide +kernel
theorem dX9_kind_80 : decode cX9_kind 80 = .ok (.ifCond .ne 6, 3) := by decide +kernel
theorem dX9_kind_86 : decode cX9_kind 86 = .ok (.aload_n 0, 1) := by decide +kernel
theorem dX9_kind_87 : decode cX9_kind 87 = .ok (.getfield 86, 3) := by decide +kernel
theorem dX9_kind_90 : decode cX9_kind 90 = .ok (.bipush 10, 2) := by decide +kernel
theorem dX9_kind_92 : decode cX9_kind 92 = .ok (.if_icmp .ne 6, 3) := by decide +kernel
theorem dX9_kind_98 : decode cX9_kind 98 = .ok (.aload_n 0, 1) := by decide +kernel
theorem dX9_kind_99 : decode cX9_kind 99 = .ok (.getfield 7, 3) := by decide +kernel
theorem dX9_kind_102 : decode cX9_kind 102 = .ok (.iconst 3, 1) := by decide +kernel
theorem dX9_kind_103 : decode cX9_kind 103 = .ok (.aload_n 0, 1) := by decide +kernel
theorem dX9_kind_104 : decode cX9_kind 104 = .ok (.getfield 86, 3) := by decide +kernel
theorem dX9_kind_107 : decode cX9_kind 107 = .ok (.imul, 1) := by decide +kernel
theorem dX9_kind_108 : decode cX9_kind 108 = .ok (.iload_n 2, 1) := by decide +kernel
theorem dX9_kind_109 : decode cX9_kind 109 = .ok (.iastore, 1) := by decide +kernel
theorem dX9_kind_110 : decode cX9_kind 110 = .ok (.aload_n 0, 1) := by decide +kernel
theorem dX9_kind_111 : decode cX9_kind 111 = .ok (.getfield 7, 3) := by decide +kernel
theorem dX9_kind_114 : decode cX9_kind 114 = .ok (.iconst 3, 1) := by decide +kernel
theorem dX9_kind_115 : decode cX9_kind 115 = .ok (.aload_n 0, 1) := by decide +kernel
theorem dX9_kind_116 : decode cX9_kind 116 = .ok (.getfield 86, 3) := by decide +kernel
theorem dX9_kind_119 : decode cX9_kind 119 = .ok (.imul, 1) := by decide +kernel
theorem dX9_kind_120 : decode cX9_kind 120 = .ok (.iconst 1, 1) := by decide +kernel
theorem dX9_kind_121 : decode cX9_kind 121 = .ok (.iadd, 1) := by decide +kernel
theorem dX9_kind_122 : decode cX9_kind 122 = .ok (.iload_n 3, 1) := by decide +kernel
theorem dX9_kind_123 : decode cX9_kind 123 = .ok (.iastore, 1) := by decide +kernel
theorem dX9_kind_124 : decode cX9_kind 124 = .ok (.aload_n 0, 1) := by decide +kernel
theorem dX9_kind_125 : decode cX9_kind 125 = .ok (.getfield 7, 3) := by decide +kernel
theorem dX9_kind_128 : decode cX9_kind 128 = .ok (.iconst 3, 1) := by decide +kernel
theorem dX9_kind_129 : decode cX9_kind 129 = .ok (.aload_n 0, 1) := by decide +kernel
theorem dX9_kind_130 : decode cX9_kind 130 = .ok (.getfield 86, 3) := by decide +kernel
theorem dX9_kind_133 : decode cX9_kind 133 = .ok (.imul, 1) := by decide +kernel
theorem dX9_kind_134 : decode cX9_kind 134 = .ok (.iconst 2, 1) := by decide +kernel
theorem dX9_kind_135 : decode cX9_kind 135 = .ok (.iadd, 1) := by decide +kernel
theorem dX9_kind_136 : decode cX9_kind 136 = .ok (.iload 4, 2) := by decide +kernel
theorem dX9_kind_138 : decode cX9_kind 138 = .ok (.iastore, 1) := by decide +kernel
theorem dX9_kind_139 : decode cX9_kind 139 = .ok (.aload_n 0, 1) := by decide +kernel
theorem dX9_kind_140 : decode cX9_kind 140 = .ok (.getfield 13, 3) := by decide +kernel
theorem dX9_kind_143 : decode cX9_kind 143 = .ok (.aload_n 0, 1) := by decide +kernel
theorem dX9_kind_144 : decode cX9_kind 144 = .ok (.getfield 86, 3) := by decide +kernel
theorem dX9_kind_147 : decode cX9_kind 147 = .ok (.iload_n 1, 1) := by decide +kernel
theorem dX9_kind_148 : decode cX9_kind 148 = .ok (.iastore, 1) := by decide +kernel
theorem dX9_kind_149 : decode cX9_kind 149 = .ok (.aload_n 0, 1) := by decide +kernel
theorem dX9_kind_150 : decode cX9_kind 150 = .ok (.getfield 16, 3) := by decide +kernel
theorem dX9_kind_153 : decode cX9_kind 153 = .ok (.aload_n 0, 1) := by decide +kernel
theorem dX9_kind_154 : decode cX9_kind 154 = .ok (.getfield 86, 3) := by decide +kernel
theorem dX9_kind_157 : decode cX9_kind 157 = .ok (.iconst 0, 1) := by decide +kernel
theorem dX9_kind_158 : decode cX9_kind 158 = .ok (.iastore, 1) := by decide +kernel
theorem dX9_kind_159 : decode cX9_kind 159 = .ok (.aload_n 0, 1) := by decide +kernel
theorem dX9_kind_160 : decode cX9_kind 160 = .ok (.getfield 19, 3) := by decide +kernel
theorem dX9_kind_163 : decode cX9_kind 163 = .ok (.aload_n 0, 1) := by decide +kernel
theorem dX9_kind_164 : decode cX9_kind 164 = .ok (.getfield 86, 3) := by decide +kernel
theorem dX9_kind_167 : decode cX9_kind 167 = .ok (.iconst 0, 1) := by decide +kernel
theorem dX9_kind_168 : decode cX9_kind 168 = .ok (.bastore, 1) := by decide +kernel
theorem dX9_kind_169 : decode cX9_kind 169 = .ok (.iconst 0, 1) := by decide +kernel
theorem dX9_kind_170 : decode cX9_kind 170 = .ok (.istore 6, 2) := by decide +kernel
theorem dX9_kind_172 : decode cX9_kind 172 = .ok (.iload 6, 2) := by decide +kernel
theorem dX9_kind_174 : decode cX9_kind 174 = .ok (.iload_n 1, 1) := by decide +kernel
theorem dX9_kind_175 : decode cX9_kind 175 = .ok (.if_icmp .ge 49, 3) := by decide +kernel
theorem dX9_kind_224 : decode cX9_kind 224 = .ok (.aload_n 0, 1) := by decide +kernel
theorem dX9_kind_225 : decode cX9_kind 225 = .ok (.aload_n 0, 1) := by decide +kernel
theorem dX9_kind_226 : decode cX9_kind 226 = .ok (.getfield 86, 3) := by decide +kernel
theorem dX9_kind_229 : decode cX9_kind 229 = .ok (.invokevirtual 102, 3) := by decide +kernel
theorem dX9_kind_232 : decode cX9_kind 232 = .ok (.aload_n 0, 1) := by decide +kernel
theorem dX9_kind_233 : decode cX9_kind 233 = .ok (.dup, 1) := by decide +kernel
theorem dX9_kind_234 : decode cX9_kind 234 = .ok (.getfield 86, 3) := by decide +kernel
theorem dX9_kind_237 : decode cX9_kind 237 = .ok (.iconst 1, 1) := by decide +kernel
theorem dX9_kind_238 : decode cX9_kind 238 = .ok (.iadd, 1) := by decide +kernel
theorem dX9_kind_239 : decode cX9_kind 239 = .ok (.putfield 86, 3) := by decide +kernel
theorem dX9_kind_242 : decode cX9_kind 242 = .ok (.aload_n 0, 1) := by decide +kernel
theorem dX9_kind_243 : decode cX9_kind 243 = .ok (.getfield 86, 3) := by decide +kernel
theorem dX9_kind_246 : decode cX9_kind 246 = .ok (.iconst 1, 1) := by decide +kernel
theorem dX9_kind_247 : decode cX9_kind 247 = .ok (.isub, 1) := by decide +kernel
theorem dX9_kind_248 : decode cX9_kind 248 = .ok (.ireturn, 1) := by decide +kernel
theorem dX9_kind_178 : decode cX9_kind 178 = .ok (.aload_n 0, 1) := by decide +kernel
theorem dX9_kind_179 : decode cX9_kind 179 = .ok (.getfield 7, 3) := by decide +kernel
theorem dX9_kind_182 : decode cX9_kind 182 = .ok (.iconst 3, 1) := by decide +kernel
theorem dX9_kind_183 : decode cX9_kind 183 = .ok (.aload_n 0, 1) := by decide +kernel
theorem dX9_kind_184 : decode cX9_kind 184 = .ok (.getfield 86, 3) := by decide +kernel
theorem dX9_kind_187 : decode cX9_kind 187 = .ok (.imul, 1) := by decide +kernel
theorem dX9_kind_188 : decode cX9_kind 188 = .ok (.iload 6, 2) := by decide +kernel
theorem dX9_kind_190 : decode cX9_kind 190 = .ok (.iadd, 1) := by decide +kernel
theorem dX9_kind_191 : decode cX9_kind 191 = .ok (.iaload, 1) := by decide +kernel
theorem dX9_kind_192 : decode cX9_kind 192 = .ok (.istore 7, 2) := by decide +kernel
theorem dX9_kind_194 : decode cX9_kind 194 = .ok (.aload_n 0, 1) := by decide +kernel
theorem dX9_kind_195 : decode cX9_kind 195 = .ok (.getfield 16, 3) := by decide +kernel
theorem dX9_kind_198 : decode cX9_kind 198 = .ok (.aload_n 0, 1) := by decide +kernel
theorem dX9_kind_199 : decode cX9_kind 199 = .ok (.getfield 86, 3) := by decide +kernel
theorem dX9_kind_202 : decode cX9_kind 202 = .ok (.dup2, 1) := by decide +kernel
theorem dX9_kind_203 : decode cX9_kind 203 = .ok (.iaload, 1) := by decide +kernel
theorem dX9_kind_204 : decode cX9_kind 204 = .ok (.aload_n 0, 1) := by decide +kernel
theorem dX9_kind_205 : decode cX9_kind 205 = .ok (.getfield 16, 3) := by decide +kernel
theorem dX9_kind_208 : decode cX9_kind 208 = .ok (.iload 7, 2) := by decide +kernel
theorem dX9_kind_210 : decode cX9_kind 210 = .ok (.iaload, 1) := by decide +kernel
theorem dX9_kind_211 : decode cX9_kind 211 = .ok (.iconst 1, 1) := by decide +kernel
theorem dX9_kind_212 : decode cX9_kind 212 = .ok (.iload 7, 2) := by decide +kernel
theorem dX9_kind_214 : decode cX9_kind 214 = .ok (.ishl, 1) := by decide +kernel
theorem dX9_kind_215 : decode cX9_kind 215 = .ok (.ior, 1) := by decide +kernel
theorem dX9_kind_216 : decode cX9_kind 216 = .ok (.ior, 1) := by decide +kernel
theorem dX9_kind_217 : decode cX9_kind 217 = .ok (.iastore, 1) := by decide +kernel
theorem dX9_kind_218 : decode cX9_kind 218 = .ok (.iinc 6 1, 3) := by decide +kernel
theorem dX9_kind_221 : decode cX9_kind 221 = .ok (.goto (-49), 3) := by decide +kernel
theorem dX9_kind_95 : decode cX9_kind 95 = .ok (.bipush (-4), 2) := by decide +kernel
theorem dX9_kind_97 : decode cX9_kind 97 = .ok (.ireturn, 1) := by decide +kernel
theorem dX9_kind_83 : decode cX9_kind 83 = .ok (.bipush (-2), 2) := by decide +kernel
theorem dX9_kind_85 : decode cX9_kind 85 = .ok (.ireturn, 1) := by decide +kernel
theorem dX9_kind_5 : decode cX9_kind 5 = .ok (.aload_n 0, 1) := by decide +kernel
theorem dX9_kind_6 : decode cX9_kind 6 = .ok (.iload_n 2, 1) := by decide +kernel
theorem dX9_kind_7 : decode cX9_kind 7 = .ok (.invokevirtual 96, 3) := by decide +kernel
theorem dX9_kind_10 : decode cX9_kind 10 = .ok (.ifCond .eq 51, 3) := by decide +kernel
theorem dX9_kind_18 : decode cX9_kind 18 = .ok (.aload_n 0, 1) := by decide +kernel
theorem dX9_kind_19 : decode cX9_kind 19 = .ok (.iload_n 3, 1) := by decide +kernel
theorem dX9_kind_20 : decode cX9_kind 20 = .ok (.invokevirtual 96, 3) := by decide +kernel
theorem dX9_kind_23 : decode cX9_kind 23 = .ok (.ifCond .eq 38, 3) := by decide +kernel
theorem dX9_kind_26 : decode cX9_kind 26 = .ok (.iload_n 3, 1) := by decide +kernel
theorem dX9_kind_27 : decode cX9_kind 27 = .ok (.iload_n 2, 1) := by decide +kernel
theorem dX9_kind_28 : decode cX9_kind 28 = .ok (.if_icmp .eq 33, 3) := by decide +kernel
theorem dX9_kind_61 : decode cX9_kind 61 = .ok (.iconst 0, 1) := by decide +kernel
theorem dX9_kind_69 : decode cX9_kind 69 = .ok (.iconst (-1), 1) := by decide +kernel
theorem dX9_kind_70 : decode cX9_kind 70 = .ok (.ireturn, 1) := by decide +kernel
theorem dX9_kind_36 : decode cX9_kind 36 = .ok (.aload_n 0, 1) := by decide +kernel
theorem dX9_kind_37 : decode cX9_kind 37 = .ok (.iload 4, 2) := by decide +kernel
theorem dX9_kind_39 : decode cX9_kind 39 = .ok (.invokevirtual 96, 3) := by decide +kernel
theorem dX9_kind_42 : decode cX9_kind 42 = .ok (.ifCond .eq 19, 3) := by decide +kernel
theorem dX9_kind_45 : decode cX9_kind 45 = .ok (.iload 4, 2) := by decide +kernel
theorem dX9_kind_47 : decode cX9_kind 47 = .ok (.iload_n 2, 1) := by decide +kernel
theorem dX9_kind_48 : decode cX9_kind 48 = .ok (.if_icmp .eq 13, 3) := by decide +kernel
theorem dX9_kind_51 : decode cX9_kind 51 = .ok (.iload 4, 2) := by decide +kernel
theorem dX9_kind_53 : decode cX9_kind 53 = .ok (.iload_n 3, 1) := by decide +kernel
theorem dX9_kind_54 : decode cX9_kind 54 = .ok (.if_icmp .eq 7, 3) := by decide +kernel
set_option maxHeartbeats 4000000 in
set_option maxRecDepth 100000 in
theorem m_kind (l : Launch) (dC : Nat → ClassId) (dI : Nat → Nat → Nat) (sz : Nat) (h0 : Nat) (l5 : Nat) (l3 : Nat) (l6 : Nat) (l7 : Nat) (kn : Nat) (l4 : Nat) (l1 : Nat) (l2 : Nat) (rw0 : Nat) (rw1 : Nat) (rw2 : Nat) (rm0 : Int32) (w12 : Value) (w13 : Value) (w14 : Value) (w15 : Value) (w16 : Value) (w17 : Value) (w18 : Value) (w19 : Value) (w20 : Value) (w21 : Value) (w22 : Value) (w23 : Value) (w24 : Value) (w25 : Value) (w26 : Value) (w27 : Value) (w28 : Value) (w29 : Value) (w30 : Value) (w31 : Value) (w32 : Value) (w33 : Value) (w34 : Value) (kl5 : ClassId) (fpr : Nat → Int32) (kl3 : ClassId) (fpm : Nat → Int32) (kl1 : ClassId) (fll : Nat → Int32) (kl2 : ClassId) (fmq : Nat → Int32) (kl4 : ClassId) (fln : Nat → Int32) (kl6 : ClassId) (fma : Nat → Int32) (kl7 : ClassId) (fib : Nat → Int32) (krw0 : ClassId) (frw : Nat → Int32) (krw1 : ClassId) (fat : Nat → Int32) (krw2 : ClassId) (fen : Nat → Int32) (n1 : Int32) (n2 : Int32) (n3 : Int32) (n4 : Int32) (hkn : kn ≤ 10) (hll : BdOk 10 10 fll) (hln : LnOk fll fln kn) (hfat : BdOk 4 10 fat) (hfen : BdOk 4 10 fen) : Met l yX9_kind (wq yX9_kind cX9_kind 8 (some .int)) ({ frames := 3, cells := 0, slots := 0, locals := 71 }) (va_Pc [.ref h0, .int n1, .int n2, .int n3, .int n4] (pcW dC dI [(kl5, .int), (kl3, .int), (kl1, .int), (kl2, .int), (kl4, .int), (kl6, .int), (kl7, .boolean), (krw0, .int), (krw1, .int), (krw2, .int)] [(h0, .inr (8, [.ref l5, .ref l3, .ref l6, .ref l7, .int (nI kn), .ref l4, .ref l1, .ref l2, .ref rw0, .ref rw1, .ref rw2, .int rm0, w12, w13, w14, w15, w16, w17, w18, w19, w20, w21, w22, w23, w24, w25, w26, w27, w28, w29, w30, w31, w32, w33, w34])), (l5, .inl (kl5, 30, .inl fpr)), (l3, .inl (kl3, 10, .inl fpm)), (l1, .inl (kl1, 10, .inl fll)), (l2, .inl (kl2, 10, .inl fmq)), (l4, .inl (kl4, 100, .inl fln)), (l6, .inl (kl6, 10, .inl fma)), (l7, .inl (kl7, 10, .inl fib)), (rw0, .inl (krw0, 40, .inl frw)), (rw1, .inl (krw1, 4, .inl fat)), (rw2, .inl (krw2, 4, .inl fen))] sz)) (va_Qi (fun (r : Int32) (_ : Unit) => r = F_kind kn n1 n2 n3 n4) (fun _ t => ∃ (kn2 : Nat) (fpr2 : Nat → Int32) (fpm2 : Nat → Int32) (fma2 : Nat → Int32) (fib2 : Nat → Int32) (frw2 : Nat → Int32) (fat2 : Nat → Int32) (fen2 : Nat → Int32) (fll2 : Nat → Int32) (fmq2 : Nat → Int32) (fln2 : Nat → Int32) (rm2 : Int32), (kn2 = K_next kn n1 n2 n3 n4) ∧ (fib2 = KB_next kn fib n1 n2 n3 n4) ∧ (fma2 = KA_next kn fma n1 n2 n3 n4) ∧ (KmX kn fll fln fmq fll2 fln2 fmq2 n1 n2 n3 n4) ∧ (kn2 ≤ 10) ∧ (BdOk 10 10 fll2) ∧ (LnOk fll2 fln2 kn2) ∧ (BdOk 4 10 fat2) ∧ (BdOk 4 10 fen2) ∧ va_P (dC, dI) vwCl [(h0, .inr (8, [.ref l5, .ref l3, .ref l6, .ref l7, .int (nI kn2), .ref l4, .ref l1, .ref l2, .ref rw0, .ref rw1, .ref rw2, .int rm2, w12, w13, w14, w15, w16, w17, w18, w19, w20, w21, w22, w23, w24, w25, w26, w27, w28, w29, w30, w31, w32, w33, w34])), (l5, .inl (kl5, 30, .inl fpr2)), (l3, .inl (kl3, 10, .inl fpm2)), (l1, .inl (kl1, 10, .inl fll2)), (l2, .inl (kl2, 10, .inl fmq2)), (l4, .inl (kl4, 100, .inl fln2)), (l6, .inl (kl6, 10, .inl fma2)), (l7, .inl (kl7, 10, .inl fib2)), (rw0, .inl (krw0, 40, .inl frw2)), (rw1, .inl (krw1, 4, .inl fat2)), (rw2, .inl (krw2, 4, .inl fen2))] t.heap ∧ va_K (dC, dI) vwCl [(kl5, .int), (kl3, .int), (kl1, .int), (kl2, .int), (kl4, .int), (kl6, .int), (kl7, .boolean), (krw0, .int), (krw1, .int), (krw2, .int)] t ∧ va_D (va_A [(h0, .inr (8, [.ref l5, .ref l3, .ref l6, .ref l7, .int (nI kn), .ref l4, .ref l1, .ref l2, .ref rw0, .ref rw1, .ref rw2, .int rm0, w12, w13, w14, w15, w16, w17, w18, w19, w20, w21, w22, w23, w24, w25, w26, w27, w28, w29, w30, w31, w32, w33, w34])), (l5, .inl (kl5, 30, .inl fpr)), (l3, .inl (kl3, 10, .inl fpm)), (l1, .inl (kl1, 10, .inl fll)), (l2, .inl (kl2, 10, .inl fmq)), (l4, .inl (kl4, 100, .inl fln)), (l6, .inl (kl6, 10, .inl fma)), (l7, .inl (kl7, 10, .inl fib)), (rw0, .inl (krw0, 40, .inl frw)), (rw1, .inl (krw1, 4, .inl fat)), (rw2, .inl (krw2, 4, .inl fen))] sz) [(h0, .inr (8, [.ref l5, .ref l3, .ref l6, .ref l7, .int (nI kn2), .ref l4, .ref l1, .ref l2, .ref rw0, .ref rw1, .ref rw2, .int rm2, w12, w13, w14, w15, w16, w17, w18, w19, w20, w21, w22, w23, w24, w25, w26, w27, w28, w29, w30, w31, w32, w33, w34])), (l5, .inl (kl5, 30, .inl fpr2)), (l3, .inl (kl3, 10, .inl fpm2)), (l1, .inl (kl1, 10, .inl fll2)), (l2, .inl (kl2, 10, .inl fmq2)), (l4, .inl (kl4, 100, .inl fln2)), (l6, .inl (kl6, 10, .inl fma2)), (l7, .inl (kl7, 10, .inl fib2)), (rw0, .inl (krw0, 40, .inl frw2)), (rw1, .inl (krw1, 4, .inl fat2)), (rw2, .inl (krw2, 4, .inl fen2))]) (va_A [(h0, .inr (8, [.ref l5, .ref l3, .ref l6, .ref l7, .int (nI kn), .ref l4, .ref l1, .ref l2, .ref rw0, .ref rw1, .ref rw2, .int rm0, w12, w13, w14, w15, w16, w17, w18, w19, w20, w21, w22, w23, w24, w25, w26, w27, w28, w29, w30, w31, w32, w33, w34])), (l5, .inl (kl5, 30, .inl fpr)), (l3, .inl (kl3, 10, .inl fpm)), (l1, .inl (kl1, 10, .inl fll)), (l2, .inl (kl2, 10, .inl fmq)), (l4, .inl (kl4, 100, .inl fln)), (l6, .inl (kl6, 10, .inl fma)), (l7, .inl (kl7, 10, .inl fib)), (rw0, .inl (krw0, 40, .inl frw)), (rw1, .inl (krw1, 4, .inl fat)), (rw2, .inl (krw2, 4, .inl fen))] sz)) 0 0 (va_A [(h0, .inr (8, [.ref l5, .ref l3, .ref l6, .ref l7, .int (nI kn), .ref l4, .ref l1, .ref l2, .ref rw0, .ref rw1, .ref rw2, .int rm0, w12, w13, w14, w15, w16, w17, w18, w19, w20, w21, w22, w23, w24, w25, w26, w27, w28, w29, w30, w31, w32, w33, w34])), (l5, .inl (kl5, 30, .inl fpr)), (l3, .inl (kl3, 10, .inl fpm)), (l1, .inl (kl1, 10, .inl fll)), (l2, .inl (kl2, 10, .inl fmq)), (l4, .inl (kl4, 100, .inl fln)), (l6, .inl (kl6, 10, .inl fma)), (l7, .inl (kl7, 10, .inl fib)), (rw0, .inl (krw0, 40, .inl frw)), (rw1, .inl (krw1, 4, .inl fat)), (rw2, .inl (krw2, 4, .inl fen))] sz) := by
  refine Met.ofW (cc := cX9_kind) (maxL := 8) (ret := (some .int)) (by decide) rfl ?_
  intro p e s m args below meth c s₁ B hml hv
  obtain ⟨rfl, hsz, hN, hP, hK, hD0⟩ := hv
  have hx := B.exec
  have hb := B.bytes
  have hr := B.returns
  have hts0 := atoms_spec (ws := (wq yX9_kind cX9_kind 8 (some .int))) B.pre
  have hts : ∀ w ∈ BG, w.before _ s = true := fun w h => hts0 w (List.mem_cons_of_mem _ h)
  have hown : s.vm.findClass RX9 = some m.cls := findClass_of_methodNamed B.named
  have hlocks := B.notSynchronized
  subst hsz
  have hD := hD0.self (sz := s.heap.size)
  generalize hAe : va_A [(h0, .inr (8, [.ref l5, .ref l3, .ref l6, .ref l7, .int (nI kn), .ref l4, .ref l1, .ref l2, .ref rw0, .ref rw1, .ref rw2, .int rm0, w12, w13, w14, w15, w16, w17, w18, w19, w20, w21, w22, w23, w24, w25, w26, w27, w28, w29, w30, w31, w32, w33, w34])), (l5, .inl (kl5, 30, .inl fpr)), (l3, .inl (kl3, 10, .inl fpm)), (l1, .inl (kl1, 10, .inl fll)), (l2, .inl (kl2, 10, .inl fmq)), (l4, .inl (kl4, 100, .inl fln)), (l6, .inl (kl6, 10, .inl fma)), (l7, .inl (kl7, 10, .inl fib)), (rw0, .inl (krw0, 40, .inl frw)), (rw1, .inl (krw1, 4, .inl fat)), (rw2, .inl (krw2, 4, .inl fen))] s.heap.size = A at hD ⊢
  have hA : ∀ q : Nat, s.heap.size ≤ q → A q := fun q h => by rw [← hAe]; exact Or.inr h
  have hS : va_S A s.heap s.heap [] := va_S.rf
  clear hAe hD0
  have hP : va_P (dC, dI) vwCl [(h0, .inr (8, [.ref l5, .ref l3, .ref l6, .ref l7, .int (nI kn), .ref l4, .ref l1, .ref l2, .ref rw0, .ref rw1, .ref rw2, .int rm0, w12, w13, w14, w15, w16, w17, w18, w19, w20, w21, w22, w23, w24, w25, w26, w27, w28, w29, w30, w31, w32, w33, w34])), (l5, .inl (kl5, 30, .inl fpr)), (l3, .inl (kl3, 10, .inl fpm)), (l1, .inl (kl1, 10, .inl fll)), (l2, .inl (kl2, 10, .inl fmq)), (l4, .inl (kl4, 100, .inl fln)), (l6, .inl (kl6, 10, .inl fma)), (l7, .inl (kl7, 10, .inl fib)), (rw0, .inl (krw0, 40, .inl frw)), (rw1, .inl (krw1, 4, .inl fat)), (rw2, .inl (krw2, 4, .inl fen))] s.heap := hP
  have hl := lv_entry ([.ref h0, .int n1, .int n2, .int n3, .int n4]) (n := 8) (Nat.le_of_ble_eq_true rfl)
  rw [lg_entry_eq]
  generalize (lg_sl ([.ref h0, .int n1, .int n2, .int n3, .int n4]) ++ List.replicate (8 - (lg_sl ([.ref h0, .int n1, .int n2, .int n3, .int n4])).length) Slot.unset).toArray = ls at hl ⊢
  have hl : lv_has ls 8 [(0, .ref h0), (1, .int n1), (2, .int n2), (3, .int n3), (4, .int n4)] := hl
  refine lv_iload_n hx hb dX9_kind_0 rfl (lv_at hl 1 rfl) ?_
  refine lv_iconst (v := 1) hx hb dX9_kind_1 (by decide) ?_
  refine lv_icmp_lt (tgt := 13) hx hb dX9_kind_2 (by decide) (fun c_1 => ?_) (fun c_1 => ?_)
  · have b_2 := gx_lt (X := (Int32.toInt n1)) (C := 1) rfl (by decide) c_1
    refine lv_iload_n hx hb dX9_kind_13 rfl (lv_at hl 1 rfl) ?_
    refine lv_iconst (v := 2) hx hb dX9_kind_14 (by decide) ?_
    refine lv_icmp_lt (tgt := 31) hx hb dX9_kind_15 (by decide) (fun c_3 => ?_) (fun h => absurd (gn_lt (X := (Int32.toInt n1)) (C := 2) rfl (by decide) h) (by omega))
    have b_4 := gx_lt (X := (Int32.toInt n1)) (C := 2) rfl (by decide) c_3
    refine lv_iload_n hx hb dX9_kind_31 rfl (lv_at hl 1 rfl) ?_
    refine lv_iconst (v := 3) hx hb dX9_kind_32 (by decide) ?_
    refine lv_icmp_lt (tgt := 57) hx hb dX9_kind_33 (by decide) (fun c_5 => ?_) (fun h => absurd (gn_lt (X := (Int32.toInt n1)) (C := 3) rfl (by decide) h) (by omega))
    have b_6 := gx_lt (X := (Int32.toInt n1)) (C := 3) rfl (by decide) c_5
    refine lv_iconst (v := 1) hx hb dX9_kind_57 (by decide) ?_
    refine lv_goto (tgt := 62) hx hb dX9_kind_58 (by decide) ?_
    refine lv_istore (lv' := [(5, .int 1), (0, .ref h0), (1, .int n1), (2, .int n2), (3, .int n3), (4, .int n4)]) hx hb dX9_kind_62 hl (by decide) rfl (fun ls hl => ?_)
    refine lv_iload hx hb dX9_kind_64 (lv_at hl 0 rfl) ?_
    refine lv_if_ne (tgt := 71) hx hb dX9_kind_66 (by decide) (fun _ => ?_) (fun h => absurd h (by decide))
    refine lv_iload_n hx hb dX9_kind_71 rfl (lv_at hl 2 rfl) ?_
    refine lv_i2l hx hb dX9_kind_72 rfl ?_
    refine lv_lconst (v := Int32.toInt64 0) hx hb dX9_kind_73 (by decide) ?_
    refine lv_ldc2 (v := Int32.toInt64 3) hx hb hown (show (Cond.constantLong RX9 100 (Int32.toInt64 3)).before _ s = true from (hts _ mw_4_60)) dX9_kind_74 ?_
    have hPc := hP.sub (ws' := []) [] rfl
    have hDc := hD.sub (ws' := []) [] (by decide) rfl
    have hKc := hK.sub (tys' := []) [] rfl
    refine va_calli (va_runS (As := [.long (Int32.toInt64 n1), .long (Int32.toInt64 0), .long (Int32.toInt64 3)]) (rest := []) ⟨hx, hb, hml, hown, hts⟩ (m_in l dC dI s.heap.size n1 0 3 0 3 (by decide) (by decide)) (va_cwS 3 hts (gS mw_4_57 mw_4_58 mw_1_9 mw_4_59) rfl rfl rfl (by decide +kernel) ⟨Nat.le_of_ble_eq_true rfl, Nat.le_of_ble_eq_true rfl⟩) ⟨pcW_blind, pcW_at hPc hKc hDc hN⟩ rfl rfl hl.1 rfl (lv_room (Nat.le_of_ble_eq_true rfl)) dX9_kind_77 ⟨Nat.le_of_ble_eq_true rfl, Nat.le_of_ble_eq_true rfl⟩) hS (fun q h1 h2 => absurd h2 (Nat.not_le.mpr h1)) (fun q h => hA q (Nat.le_trans hS.1 h)) (fun r_7 u t H1 locs ht hvm hw_7 hB hz1 hk1 hS => ?_)
    have hP := keepP hP hk1
    clear hz1 hk1 hB ht hvm hPc hDc hKc
    generalize H1 = H at hP hS ⊢
    rcases fx_bool hw_7 with ⟨rfl, b_8⟩ | ⟨rfl, b_8⟩
    · skip
      refine lv_if_ne (tgt := 86) hx hb dX9_kind_80 (by decide) (fun _ => ?_) (fun h => absurd h (by decide))
      refine lv_aload_n hx hb dX9_kind_86 rfl (lv_at hl 1 rfl) ?_
      refine va_get (D := (dC, dI)) (ci := 8) (v := .int (nI kn)) (C := RX9) (T := TX9) (N := 35) hx hb hts inB_9 hown hK hP 0 rfl rfl 4 (by decide) (hts _ mw_3_186) (fun _ h9 => h9) rfl dX9_kind_87 ?_
      refine lv_bipush (v := 10) hx hb dX9_kind_90 (by decide) ?_
      refine lv_icmp_ne (tgt := 98) hx hb dX9_kind_92 (by decide) (fun c_9 => ?_) (fun c_9 => ?_)
      · have b_10 := gx_ne (X := ((kn : Nat) : Int)) (C := 10) (nI_toInt (by omega)) (by decide) c_9
        obtain ⟨j_11, tj_11, ej_11⟩ := fx_nat (x := n1) (by omega)
        subst ej_11
        have yj_11 : Int32.toInt (nI j_11) = (j_11 : Int) := nI_toInt tj_11
        refine lv_aload_n hx hb dX9_kind_98 rfl (lv_at hl 1 rfl) ?_
        refine va_get (D := (dC, dI)) (ci := 8) (v := .ref l5) (C := RX9) (T := TX9) (N := 35) hx hb hts inB_9 hown hK hP 0 rfl rfl 0 (by decide) (hts _ mw_3_182) (fun _ h9 => h9) rfl dX9_kind_99 ?_
        refine lv_iconst (v := 3) hx hb dX9_kind_102 (by decide) ?_
        refine lv_aload_n hx hb dX9_kind_103 rfl (lv_at hl 1 rfl) ?_
        refine va_get (D := (dC, dI)) (ci := 8) (v := .int (nI kn)) (C := RX9) (T := TX9) (N := 35) hx hb hts inB_9 hown hK hP 0 rfl rfl 4 (by decide) (hts _ mw_3_186) (fun _ h9 => h9) rfl dX9_kind_104 ?_
        refine lv_imul hx hb dX9_kind_107 ?_
        refine hx_top (y := (nI (3 * kn))) (pk_mul 3 kn) ?_
        refine lv_iload_n hx hb dX9_kind_108 rfl (lv_at hl 3 rfl) ?_
        refine va_iast hx hb hK hP hD hS 1 0 rfl rfl (show vp_in (nI (3 * kn)) 30 from vp_in_nI (by omega) (by omega)) dX9_kind_109 (fun H locs hP hD hS => ?_)
        obtain ⟨f_12, ef_12⟩ : ∃ g : Nat → Int32, g = upd fpr (Int32.toNatClampNeg (nI (3 * kn))) n2 := ⟨_, rfl⟩
        rw [← ef_12] at hP hD
        have ef_12 : f_12 = upd fpr (3 * kn) n2 := by rw [ef_12, nI_clamp (by omega)]
        have hP : va_P (dC, dI) vwCl [(h0, .inr (8, [.ref l5, .ref l3, .ref l6, .ref l7, .int (nI kn), .ref l4, .ref l1, .ref l2, .ref rw0, .ref rw1, .ref rw2, .int rm0, w12, w13, w14, w15, w16, w17, w18, w19, w20, w21, w22, w23, w24, w25, w26, w27, w28, w29, w30, w31, w32, w33, w34])), (l5, .inl (kl5, 30, .inl f_12)), (l3, .inl (kl3, 10, .inl fpm)), (l1, .inl (kl1, 10, .inl fll)), (l2, .inl (kl2, 10, .inl fmq)), (l4, .inl (kl4, 100, .inl fln)), (l6, .inl (kl6, 10, .inl fma)), (l7, .inl (kl7, 10, .inl fib)), (rw0, .inl (krw0, 40, .inl frw)), (rw1, .inl (krw1, 4, .inl fat)), (rw2, .inl (krw2, 4, .inl fen))] H := hP
        have hD : va_D A [(h0, .inr (8, [.ref l5, .ref l3, .ref l6, .ref l7, .int (nI kn), .ref l4, .ref l1, .ref l2, .ref rw0, .ref rw1, .ref rw2, .int rm0, w12, w13, w14, w15, w16, w17, w18, w19, w20, w21, w22, w23, w24, w25, w26, w27, w28, w29, w30, w31, w32, w33, w34])), (l5, .inl (kl5, 30, .inl f_12)), (l3, .inl (kl3, 10, .inl fpm)), (l1, .inl (kl1, 10, .inl fll)), (l2, .inl (kl2, 10, .inl fmq)), (l4, .inl (kl4, 100, .inl fln)), (l6, .inl (kl6, 10, .inl fma)), (l7, .inl (kl7, 10, .inl fib)), (rw0, .inl (krw0, 40, .inl frw)), (rw1, .inl (krw1, 4, .inl fat)), (rw2, .inl (krw2, 4, .inl fen))] := hD
        refine lv_aload_n hx hb dX9_kind_110 rfl (lv_at hl 1 rfl) ?_
        refine va_get (D := (dC, dI)) (ci := 8) (v := .ref l5) (C := RX9) (T := TX9) (N := 35) hx hb hts inB_9 hown hK hP 0 rfl rfl 0 (by decide) (hts _ mw_3_182) (fun _ h9 => h9) rfl dX9_kind_111 ?_
        refine lv_iconst (v := 3) hx hb dX9_kind_114 (by decide) ?_
        refine lv_aload_n hx hb dX9_kind_115 rfl (lv_at hl 1 rfl) ?_
        refine va_get (D := (dC, dI)) (ci := 8) (v := .int (nI kn)) (C := RX9) (T := TX9) (N := 35) hx hb hts inB_9 hown hK hP 0 rfl rfl 4 (by decide) (hts _ mw_3_186) (fun _ h9 => h9) rfl dX9_kind_116 ?_
        refine lv_imul hx hb dX9_kind_119 ?_
        refine hx_top (y := (nI (3 * kn))) (pk_mul 3 kn) ?_
        refine lv_iconst (v := 1) hx hb dX9_kind_120 (by decide) ?_
        refine lv_iadd hx hb dX9_kind_121 ?_
        refine hx_top (y := (nI ((3 * kn) + 1))) (nI_add (3 * kn) 1) ?_
        refine lv_iload_n hx hb dX9_kind_122 rfl (lv_at hl 4 rfl) ?_
        refine va_iast hx hb hK hP hD hS 1 0 rfl rfl (show vp_in (nI ((3 * kn) + 1)) 30 from vp_in_nI (by omega) (by omega)) dX9_kind_123 (fun H locs hP hD hS => ?_)
        obtain ⟨f_13, ef_13⟩ : ∃ g : Nat → Int32, g = upd f_12 (Int32.toNatClampNeg (nI ((3 * kn) + 1))) n3 := ⟨_, rfl⟩
        rw [← ef_13] at hP hD
        have ef_13 : f_13 = upd f_12 ((3 * kn) + 1) n3 := by rw [ef_13, nI_clamp (by omega)]
        have hP : va_P (dC, dI) vwCl [(h0, .inr (8, [.ref l5, .ref l3, .ref l6, .ref l7, .int (nI kn), .ref l4, .ref l1, .ref l2, .ref rw0, .ref rw1, .ref rw2, .int rm0, w12, w13, w14, w15, w16, w17, w18, w19, w20, w21, w22, w23, w24, w25, w26, w27, w28, w29, w30, w31, w32, w33, w34])), (l5, .inl (kl5, 30, .inl f_13)), (l3, .inl (kl3, 10, .inl fpm)), (l1, .inl (kl1, 10, .inl fll)), (l2, .inl (kl2, 10, .inl fmq)), (l4, .inl (kl4, 100, .inl fln)), (l6, .inl (kl6, 10, .inl fma)), (l7, .inl (kl7, 10, .inl fib)), (rw0, .inl (krw0, 40, .inl frw)), (rw1, .inl (krw1, 4, .inl fat)), (rw2, .inl (krw2, 4, .inl fen))] H := hP
        have hD : va_D A [(h0, .inr (8, [.ref l5, .ref l3, .ref l6, .ref l7, .int (nI kn), .ref l4, .ref l1, .ref l2, .ref rw0, .ref rw1, .ref rw2, .int rm0, w12, w13, w14, w15, w16, w17, w18, w19, w20, w21, w22, w23, w24, w25, w26, w27, w28, w29, w30, w31, w32, w33, w34])), (l5, .inl (kl5, 30, .inl f_13)), (l3, .inl (kl3, 10, .inl fpm)), (l1, .inl (kl1, 10, .inl fll)), (l2, .inl (kl2, 10, .inl fmq)), (l4, .inl (kl4, 100, .inl fln)), (l6, .inl (kl6, 10, .inl fma)), (l7, .inl (kl7, 10, .inl fib)), (rw0, .inl (krw0, 40, .inl frw)), (rw1, .inl (krw1, 4, .inl fat)), (rw2, .inl (krw2, 4, .inl fen))] := hD
        refine lv_aload_n hx hb dX9_kind_124 rfl (lv_at hl 1 rfl) ?_
        refine va_get (D := (dC, dI)) (ci := 8) (v := .ref l5) (C := RX9) (T := TX9) (N := 35) hx hb hts inB_9 hown hK hP 0 rfl rfl 0 (by decide) (hts _ mw_3_182) (fun _ h9 => h9) rfl dX9_kind_125 ?_
        refine lv_iconst (v := 3) hx hb dX9_kind_128 (by decide) ?_
        refine lv_aload_n hx hb dX9_kind_129 rfl (lv_at hl 1 rfl) ?_
        refine va_get (D := (dC, dI)) (ci := 8) (v := .int (nI kn)) (C := RX9) (T := TX9) (N := 35) hx hb hts inB_9 hown hK hP 0 rfl rfl 4 (by decide) (hts _ mw_3_186) (fun _ h9 => h9) rfl dX9_kind_130 ?_
        refine lv_imul hx hb dX9_kind_133 ?_
        refine hx_top (y := (nI (3 * kn))) (pk_mul 3 kn) ?_
        refine lv_iconst (v := 2) hx hb dX9_kind_134 (by decide) ?_
        refine lv_iadd hx hb dX9_kind_135 ?_
        refine hx_top (y := (nI ((3 * kn) + 2))) (nI_add (3 * kn) 2) ?_
        refine lv_iload hx hb dX9_kind_136 (lv_at hl 5 rfl) ?_
        refine va_iast hx hb hK hP hD hS 1 0 rfl rfl (show vp_in (nI ((3 * kn) + 2)) 30 from vp_in_nI (by omega) (by omega)) dX9_kind_138 (fun H locs hP hD hS => ?_)
        obtain ⟨f_14, ef_14⟩ : ∃ g : Nat → Int32, g = upd f_13 (Int32.toNatClampNeg (nI ((3 * kn) + 2))) n4 := ⟨_, rfl⟩
        rw [← ef_14] at hP hD
        have ef_14 : f_14 = upd f_13 ((3 * kn) + 2) n4 := by rw [ef_14, nI_clamp (by omega)]
        have hP : va_P (dC, dI) vwCl [(h0, .inr (8, [.ref l5, .ref l3, .ref l6, .ref l7, .int (nI kn), .ref l4, .ref l1, .ref l2, .ref rw0, .ref rw1, .ref rw2, .int rm0, w12, w13, w14, w15, w16, w17, w18, w19, w20, w21, w22, w23, w24, w25, w26, w27, w28, w29, w30, w31, w32, w33, w34])), (l5, .inl (kl5, 30, .inl f_14)), (l3, .inl (kl3, 10, .inl fpm)), (l1, .inl (kl1, 10, .inl fll)), (l2, .inl (kl2, 10, .inl fmq)), (l4, .inl (kl4, 100, .inl fln)), (l6, .inl (kl6, 10, .inl fma)), (l7, .inl (kl7, 10, .inl fib)), (rw0, .inl (krw0, 40, .inl frw)), (rw1, .inl (krw1, 4, .inl fat)), (rw2, .inl (krw2, 4, .inl fen))] H := hP
        have hD : va_D A [(h0, .inr (8, [.ref l5, .ref l3, .ref l6, .ref l7, .int (nI kn), .ref l4, .ref l1, .ref l2, .ref rw0, .ref rw1, .ref rw2, .int rm0, w12, w13, w14, w15, w16, w17, w18, w19, w20, w21, w22, w23, w24, w25, w26, w27, w28, w29, w30, w31, w32, w33, w34])), (l5, .inl (kl5, 30, .inl f_14)), (l3, .inl (kl3, 10, .inl fpm)), (l1, .inl (kl1, 10, .inl fll)), (l2, .inl (kl2, 10, .inl fmq)), (l4, .inl (kl4, 100, .inl fln)), (l6, .inl (kl6, 10, .inl fma)), (l7, .inl (kl7, 10, .inl fib)), (rw0, .inl (krw0, 40, .inl frw)), (rw1, .inl (krw1, 4, .inl fat)), (rw2, .inl (krw2, 4, .inl fen))] := hD
        refine lv_aload_n hx hb dX9_kind_139 rfl (lv_at hl 1 rfl) ?_
        refine va_get (D := (dC, dI)) (ci := 8) (v := .ref l3) (C := RX9) (T := TX9) (N := 35) hx hb hts inB_9 hown hK hP 0 rfl rfl 1 (by decide) (hts _ mw_3_183) (fun _ h9 => h9) rfl dX9_kind_140 ?_
        refine lv_aload_n hx hb dX9_kind_143 rfl (lv_at hl 1 rfl) ?_
        refine va_get (D := (dC, dI)) (ci := 8) (v := .int (nI kn)) (C := RX9) (T := TX9) (N := 35) hx hb hts inB_9 hown hK hP 0 rfl rfl 4 (by decide) (hts _ mw_3_186) (fun _ h9 => h9) rfl dX9_kind_144 ?_
        refine lv_iload_n hx hb dX9_kind_147 rfl (lv_at hl 2 rfl) ?_
        refine va_iast hx hb hK hP hD hS 2 1 rfl rfl (show vp_in (nI kn) 10 from vp_in_nI (by omega) (by omega)) dX9_kind_148 (fun H locs hP hD hS => ?_)
        obtain ⟨f_15, ef_15⟩ : ∃ g : Nat → Int32, g = upd fpm (Int32.toNatClampNeg (nI kn)) (nI j_11) := ⟨_, rfl⟩
        rw [← ef_15] at hP hD
        have ef_15 : f_15 = upd fpm kn (nI j_11) := by rw [ef_15, nI_clamp (by omega)]
        have hP : va_P (dC, dI) vwCl [(h0, .inr (8, [.ref l5, .ref l3, .ref l6, .ref l7, .int (nI kn), .ref l4, .ref l1, .ref l2, .ref rw0, .ref rw1, .ref rw2, .int rm0, w12, w13, w14, w15, w16, w17, w18, w19, w20, w21, w22, w23, w24, w25, w26, w27, w28, w29, w30, w31, w32, w33, w34])), (l5, .inl (kl5, 30, .inl f_14)), (l3, .inl (kl3, 10, .inl f_15)), (l1, .inl (kl1, 10, .inl fll)), (l2, .inl (kl2, 10, .inl fmq)), (l4, .inl (kl4, 100, .inl fln)), (l6, .inl (kl6, 10, .inl fma)), (l7, .inl (kl7, 10, .inl fib)), (rw0, .inl (krw0, 40, .inl frw)), (rw1, .inl (krw1, 4, .inl fat)), (rw2, .inl (krw2, 4, .inl fen))] H := hP
        have hD : va_D A [(h0, .inr (8, [.ref l5, .ref l3, .ref l6, .ref l7, .int (nI kn), .ref l4, .ref l1, .ref l2, .ref rw0, .ref rw1, .ref rw2, .int rm0, w12, w13, w14, w15, w16, w17, w18, w19, w20, w21, w22, w23, w24, w25, w26, w27, w28, w29, w30, w31, w32, w33, w34])), (l5, .inl (kl5, 30, .inl f_14)), (l3, .inl (kl3, 10, .inl f_15)), (l1, .inl (kl1, 10, .inl fll)), (l2, .inl (kl2, 10, .inl fmq)), (l4, .inl (kl4, 100, .inl fln)), (l6, .inl (kl6, 10, .inl fma)), (l7, .inl (kl7, 10, .inl fib)), (rw0, .inl (krw0, 40, .inl frw)), (rw1, .inl (krw1, 4, .inl fat)), (rw2, .inl (krw2, 4, .inl fen))] := hD
        refine lv_aload_n hx hb dX9_kind_149 rfl (lv_at hl 1 rfl) ?_
        refine va_get (D := (dC, dI)) (ci := 8) (v := .ref l6) (C := RX9) (T := TX9) (N := 35) hx hb hts inB_9 hown hK hP 0 rfl rfl 2 (by decide) (hts _ mw_3_184) (fun _ h9 => h9) rfl dX9_kind_150 ?_
        refine lv_aload_n hx hb dX9_kind_153 rfl (lv_at hl 1 rfl) ?_
        refine va_get (D := (dC, dI)) (ci := 8) (v := .int (nI kn)) (C := RX9) (T := TX9) (N := 35) hx hb hts inB_9 hown hK hP 0 rfl rfl 4 (by decide) (hts _ mw_3_186) (fun _ h9 => h9) rfl dX9_kind_154 ?_
        refine lv_iconst (v := 0) hx hb dX9_kind_157 (by decide) ?_
        refine va_iast hx hb hK hP hD hS 6 5 rfl rfl (show vp_in (nI kn) 10 from vp_in_nI (by omega) (by omega)) dX9_kind_158 (fun H locs hP hD hS => ?_)
        obtain ⟨f_16, ef_16⟩ : ∃ g : Nat → Int32, g = upd fma (Int32.toNatClampNeg (nI kn)) 0 := ⟨_, rfl⟩
        rw [← ef_16] at hP hD
        have ef_16 : f_16 = upd fma kn 0 := by rw [ef_16, nI_clamp (by omega)]
        have hP : va_P (dC, dI) vwCl [(h0, .inr (8, [.ref l5, .ref l3, .ref l6, .ref l7, .int (nI kn), .ref l4, .ref l1, .ref l2, .ref rw0, .ref rw1, .ref rw2, .int rm0, w12, w13, w14, w15, w16, w17, w18, w19, w20, w21, w22, w23, w24, w25, w26, w27, w28, w29, w30, w31, w32, w33, w34])), (l5, .inl (kl5, 30, .inl f_14)), (l3, .inl (kl3, 10, .inl f_15)), (l1, .inl (kl1, 10, .inl fll)), (l2, .inl (kl2, 10, .inl fmq)), (l4, .inl (kl4, 100, .inl fln)), (l6, .inl (kl6, 10, .inl f_16)), (l7, .inl (kl7, 10, .inl fib)), (rw0, .inl (krw0, 40, .inl frw)), (rw1, .inl (krw1, 4, .inl fat)), (rw2, .inl (krw2, 4, .inl fen))] H := hP
        have hD : va_D A [(h0, .inr (8, [.ref l5, .ref l3, .ref l6, .ref l7, .int (nI kn), .ref l4, .ref l1, .ref l2, .ref rw0, .ref rw1, .ref rw2, .int rm0, w12, w13, w14, w15, w16, w17, w18, w19, w20, w21, w22, w23, w24, w25, w26, w27, w28, w29, w30, w31, w32, w33, w34])), (l5, .inl (kl5, 30, .inl f_14)), (l3, .inl (kl3, 10, .inl f_15)), (l1, .inl (kl1, 10, .inl fll)), (l2, .inl (kl2, 10, .inl fmq)), (l4, .inl (kl4, 100, .inl fln)), (l6, .inl (kl6, 10, .inl f_16)), (l7, .inl (kl7, 10, .inl fib)), (rw0, .inl (krw0, 40, .inl frw)), (rw1, .inl (krw1, 4, .inl fat)), (rw2, .inl (krw2, 4, .inl fen))] := hD
        refine lv_aload_n hx hb dX9_kind_159 rfl (lv_at hl 1 rfl) ?_
        refine va_get (D := (dC, dI)) (ci := 8) (v := .ref l7) (C := RX9) (T := TX9) (N := 35) hx hb hts inB_9 hown hK hP 0 rfl rfl 3 (by decide) (hts _ mw_3_185) (fun _ h9 => h9) rfl dX9_kind_160 ?_
        refine lv_aload_n hx hb dX9_kind_163 rfl (lv_at hl 1 rfl) ?_
        refine va_get (D := (dC, dI)) (ci := 8) (v := .int (nI kn)) (C := RX9) (T := TX9) (N := 35) hx hb hts inB_9 hown hK hP 0 rfl rfl 4 (by decide) (hts _ mw_3_186) (fun _ h9 => h9) rfl dX9_kind_164 ?_
        refine lv_iconst (v := 0) hx hb dX9_kind_167 (by decide) ?_
        refine va_zast hx hb hK hP hD hS 7 6 rfl rfl (show vp_in (nI kn) 10 from vp_in_nI (by omega) (by omega)) dX9_kind_168 (fun H locs hP hD hS => ?_)
        obtain ⟨f_17, ef_17⟩ : ∃ g : Nat → Int32, g = upd fib (Int32.toNatClampNeg (nI kn)) (vp_nar .boolean 0) := ⟨_, rfl⟩
        rw [← ef_17] at hP hD
        have ef_17 : f_17 = upd fib kn (vp_nar .boolean 0) := by rw [ef_17, nI_clamp (by omega)]
        have hP : va_P (dC, dI) vwCl [(h0, .inr (8, [.ref l5, .ref l3, .ref l6, .ref l7, .int (nI kn), .ref l4, .ref l1, .ref l2, .ref rw0, .ref rw1, .ref rw2, .int rm0, w12, w13, w14, w15, w16, w17, w18, w19, w20, w21, w22, w23, w24, w25, w26, w27, w28, w29, w30, w31, w32, w33, w34])), (l5, .inl (kl5, 30, .inl f_14)), (l3, .inl (kl3, 10, .inl f_15)), (l1, .inl (kl1, 10, .inl fll)), (l2, .inl (kl2, 10, .inl fmq)), (l4, .inl (kl4, 100, .inl fln)), (l6, .inl (kl6, 10, .inl f_16)), (l7, .inl (kl7, 10, .inl f_17)), (rw0, .inl (krw0, 40, .inl frw)), (rw1, .inl (krw1, 4, .inl fat)), (rw2, .inl (krw2, 4, .inl fen))] H := hP
        have hD : va_D A [(h0, .inr (8, [.ref l5, .ref l3, .ref l6, .ref l7, .int (nI kn), .ref l4, .ref l1, .ref l2, .ref rw0, .ref rw1, .ref rw2, .int rm0, w12, w13, w14, w15, w16, w17, w18, w19, w20, w21, w22, w23, w24, w25, w26, w27, w28, w29, w30, w31, w32, w33, w34])), (l5, .inl (kl5, 30, .inl f_14)), (l3, .inl (kl3, 10, .inl f_15)), (l1, .inl (kl1, 10, .inl fll)), (l2, .inl (kl2, 10, .inl fmq)), (l4, .inl (kl4, 100, .inl fln)), (l6, .inl (kl6, 10, .inl f_16)), (l7, .inl (kl7, 10, .inl f_17)), (rw0, .inl (krw0, 40, .inl frw)), (rw1, .inl (krw1, 4, .inl fat)), (rw2, .inl (krw2, 4, .inl fen))] := hD
        refine lv_iconst (v := 0) hx hb dX9_kind_169 (by decide) ?_
        refine lv_istore (lv' := [(6, .int 0), (5, .int 1), (0, .ref h0), (1, .int (nI j_11)), (2, .int n2), (3, .int n3), (4, .int n4)]) hx hb dX9_kind_170 hl (by decide) rfl (fun ls hl => ?_)
        have hprk : PrOk f_14 kn j_11 := pr_3 ef_12 ef_13 ef_14 (by omega) (fun q => by omega) (fun q => by omega) (fun q => by omega)
        have hpp : ∀ i, i < 3 → f_14 (3 * kn + i) = par3 n2 n3 n4 i := p3_get ef_12 ef_13 ef_14
        have key_18 : ∀ (fu : Nat) (k : Nat) (fax : Nat → Int32), (k ≤ j_11) → (fax = upd fma kn (abv fma (par3 n2 n3 n4) k)) → j_11 - k < fu → ∀ (H : Heap) (locs : List Loc), va_P (dC, dI) vwCl [(h0, .inr (8, [.ref l5, .ref l3, .ref l6, .ref l7, .int (nI kn), .ref l4, .ref l1, .ref l2, .ref rw0, .ref rw1, .ref rw2, .int rm0, w12, w13, w14, w15, w16, w17, w18, w19, w20, w21, w22, w23, w24, w25, w26, w27, w28, w29, w30, w31, w32, w33, w34])), (l5, .inl (kl5, 30, .inl f_14)), (l3, .inl (kl3, 10, .inl f_15)), (l1, .inl (kl1, 10, .inl fll)), (l2, .inl (kl2, 10, .inl fmq)), (l4, .inl (kl4, 100, .inl fln)), (l6, .inl (kl6, 10, .inl fax)), (l7, .inl (kl7, 10, .inl f_17)), (rw0, .inl (krw0, 40, .inl frw)), (rw1, .inl (krw1, 4, .inl fat)), (rw2, .inl (krw2, 4, .inl fen))] H → va_D A [(h0, .inr (8, [.ref l5, .ref l3, .ref l6, .ref l7, .int (nI kn), .ref l4, .ref l1, .ref l2, .ref rw0, .ref rw1, .ref rw2, .int rm0, w12, w13, w14, w15, w16, w17, w18, w19, w20, w21, w22, w23, w24, w25, w26, w27, w28, w29, w30, w31, w32, w33, w34])), (l5, .inl (kl5, 30, .inl f_14)), (l3, .inl (kl3, 10, .inl f_15)), (l1, .inl (kl1, 10, .inl fll)), (l2, .inl (kl2, 10, .inl fmq)), (l4, .inl (kl4, 100, .inl fln)), (l6, .inl (kl6, 10, .inl fax)), (l7, .inl (kl7, 10, .inl f_17)), (rw0, .inl (krw0, 40, .inl frw)), (rw1, .inl (krw1, 4, .inl fat)), (rw2, .inl (krw2, 4, .inl fen))] → va_S A s.heap H locs → ∀ (ls : Array Slot), lv_has ls 8 [(6, .int (nI k)), (5, .int 1), (0, .ref h0), (1, .int (nI j_11)), (2, .int n2), (3, .int n3), (4, .int n4)] → W p l e (headSpec (wq yX9_kind cX9_kind 8 (some .int)) ({ frames := 3, cells := 0, slots := 0, locals := 71 })).room s m (([.ref h0, .int (nI j_11), .int n2, .int n3, .int n4] : List Value)).toArray below meth c H locs 0 0 (MQ below (va_Qi (fun (r : Int32) (_ : Unit) => r = F_kind kn (nI j_11) n2 n3 n4) (fun _ t => ∃ (kn2 : Nat) (fpr2 : Nat → Int32) (fpm2 : Nat → Int32) (fma2 : Nat → Int32) (fib2 : Nat → Int32) (frw2 : Nat → Int32) (fat2 : Nat → Int32) (fen2 : Nat → Int32) (fll2 : Nat → Int32) (fmq2 : Nat → Int32) (fln2 : Nat → Int32) (rm2 : Int32), (kn2 = K_next kn (nI j_11) n2 n3 n4) ∧ (fib2 = KB_next kn fib (nI j_11) n2 n3 n4) ∧ (fma2 = KA_next kn fma (nI j_11) n2 n3 n4) ∧ (KmX kn fll fln fmq fll2 fln2 fmq2 (nI j_11) n2 n3 n4) ∧ (kn2 ≤ 10) ∧ (BdOk 10 10 fll2) ∧ (LnOk fll2 fln2 kn2) ∧ (BdOk 4 10 fat2) ∧ (BdOk 4 10 fen2) ∧ va_P (dC, dI) vwCl [(h0, .inr (8, [.ref l5, .ref l3, .ref l6, .ref l7, .int (nI kn2), .ref l4, .ref l1, .ref l2, .ref rw0, .ref rw1, .ref rw2, .int rm2, w12, w13, w14, w15, w16, w17, w18, w19, w20, w21, w22, w23, w24, w25, w26, w27, w28, w29, w30, w31, w32, w33, w34])), (l5, .inl (kl5, 30, .inl fpr2)), (l3, .inl (kl3, 10, .inl fpm2)), (l1, .inl (kl1, 10, .inl fll2)), (l2, .inl (kl2, 10, .inl fmq2)), (l4, .inl (kl4, 100, .inl fln2)), (l6, .inl (kl6, 10, .inl fma2)), (l7, .inl (kl7, 10, .inl fib2)), (rw0, .inl (krw0, 40, .inl frw2)), (rw1, .inl (krw1, 4, .inl fat2)), (rw2, .inl (krw2, 4, .inl fen2))] t.heap ∧ va_K (dC, dI) vwCl [(kl5, .int), (kl3, .int), (kl1, .int), (kl2, .int), (kl4, .int), (kl6, .int), (kl7, .boolean), (krw0, .int), (krw1, .int), (krw2, .int)] t ∧ va_D A [(h0, .inr (8, [.ref l5, .ref l3, .ref l6, .ref l7, .int (nI kn2), .ref l4, .ref l1, .ref l2, .ref rw0, .ref rw1, .ref rw2, .int rm2, w12, w13, w14, w15, w16, w17, w18, w19, w20, w21, w22, w23, w24, w25, w26, w27, w28, w29, w30, w31, w32, w33, w34])), (l5, .inl (kl5, 30, .inl fpr2)), (l3, .inl (kl3, 10, .inl fpm2)), (l1, .inl (kl1, 10, .inl fll2)), (l2, .inl (kl2, 10, .inl fmq2)), (l4, .inl (kl4, 100, .inl fln2)), (l6, .inl (kl6, 10, .inl fma2)), (l7, .inl (kl7, 10, .inl fib2)), (rw0, .inl (krw0, 40, .inl frw2)), (rw1, .inl (krw1, 4, .inl fat2)), (rw2, .inl (krw2, 4, .inl fen2))]) A) (([.ref h0, .int (nI j_11), .int n2, .int n3, .int n4] : List Value)).toArray s 0 0 A) (F0 m 172 ls []) := by
          intro fu
          induction fu with
          | zero => intro k fax hk hax hme; exact absurd hme (Nat.not_lt_zero _)
          | succ fu ih_19 =>
            intro k fax hk hax hme H locs hP hD hS ls hl
            refine lv_iload hx hb dX9_kind_172 (lv_at hl 0 rfl) ?_
            refine lv_iload_n hx hb dX9_kind_174 rfl (lv_at hl 3 rfl) ?_
            refine lv_icmp_ge (tgt := 224) hx hb dX9_kind_175 (by decide) (fun c_20 => ?_) (fun c_20 => ?_)
            · have b_21 := gx_ge (X := ((k : Nat) : Int)) (C := ((j_11 : Nat) : Int)) (nI_toInt (by omega)) (nI_toInt (by omega)) c_20
              refine lv_aload_n hx hb dX9_kind_224 rfl (lv_at hl 2 rfl) ?_
              refine lv_aload_n hx hb dX9_kind_225 rfl (lv_at hl 2 rfl) ?_
              refine va_get (D := (dC, dI)) (ci := 8) (v := .int (nI kn)) (C := RX9) (T := TX9) (N := 35) hx hb hts inB_9 hown hK hP 0 rfl rfl 4 (by decide) (hts _ mw_3_186) (fun _ h9 => h9) rfl dX9_kind_226 ?_
              have hPc := hP.sub (ws' := [(h0, .inr (8, [.ref l5, .ref l3, .ref l6, .ref l7, .int (nI kn), .ref l4, .ref l1, .ref l2, .ref rw0, .ref rw1, .ref rw2, .int rm0, w12, w13, w14, w15, w16, w17, w18, w19, w20, w21, w22, w23, w24, w25, w26, w27, w28, w29, w30, w31, w32, w33, w34])), (l5, .inl (kl5, 30, .inl f_14)), (l3, .inl (kl3, 10, .inl f_15)), (l1, .inl (kl1, 10, .inl fll)), (l2, .inl (kl2, 10, .inl fmq)), (l4, .inl (kl4, 100, .inl fln)), (rw0, .inl (krw0, 40, .inl frw)), (rw1, .inl (krw1, 4, .inl fat)), (rw2, .inl (krw2, 4, .inl fen))]) [0, 1, 2, 3, 4, 5, 8, 9, 10] rfl
              have hDc := hD.sub (ws' := [(h0, .inr (8, [.ref l5, .ref l3, .ref l6, .ref l7, .int (nI kn), .ref l4, .ref l1, .ref l2, .ref rw0, .ref rw1, .ref rw2, .int rm0, w12, w13, w14, w15, w16, w17, w18, w19, w20, w21, w22, w23, w24, w25, w26, w27, w28, w29, w30, w31, w32, w33, w34])), (l5, .inl (kl5, 30, .inl f_14)), (l3, .inl (kl3, 10, .inl f_15)), (l1, .inl (kl1, 10, .inl fll)), (l2, .inl (kl2, 10, .inl fmq)), (l4, .inl (kl4, 100, .inl fln)), (rw0, .inl (krw0, 40, .inl frw)), (rw1, .inl (krw1, 4, .inl fat)), (rw2, .inl (krw2, 4, .inl fen))]) [0, 1, 2, 3, 4, 5, 8, 9, 10] (by decide) rfl
              have hKc := hK.sub (tys' := [(kl5, .int), (kl3, .int), (kl1, .int), (kl2, .int), (kl4, .int), (krw0, .int), (krw1, .int), (krw2, .int)]) [0, 1, 2, 3, 4, 7, 8, 9] rfl
              have hFc := va_free (wc := [(h0, .inr (8, [.ref l5, .ref l3, .ref l6, .ref l7, .int (nI kn), .ref l4, .ref l1, .ref l2, .ref rw0, .ref rw1, .ref rw2, .int rm0, w12, w13, w14, w15, w16, w17, w18, w19, w20, w21, w22, w23, w24, w25, w26, w27, w28, w29, w30, w31, w32, w33, w34])), (l5, .inl (kl5, 30, .inl f_14)), (l3, .inl (kl3, 10, .inl f_15)), (l1, .inl (kl1, 10, .inl fll)), (l2, .inl (kl2, 10, .inl fmq)), (l4, .inl (kl4, 100, .inl fln)), (rw0, .inl (krw0, 40, .inl frw)), (rw1, .inl (krw1, 4, .inl fat)), (rw2, .inl (krw2, 4, .inl fen))]) hD hS hA [0, 1, 2, 3, 4, 5, 8, 9, 10] rfl
              refine va_callv (va_runV (As := [.int (nI kn)]) (rest := []) ⟨hx, hb, hml, hown, hts⟩ (m_layLine l dC dI H.size h0 l5 l3 (.ref l6) (.ref l7) (.int (nI kn)) l4 l1 l2 rw0 rw1 rw2 rm0 (w12) (w13) (w14) (w15) (w16) (w17) (w18) (w19) (w20) (w21) (w22) (w23) (w24) (w25) (w26) (w27) (w28) (w29) (w30) (w31) (w32) (w33) (w34) kl5 f_14 kl3 f_15 kl1 fll kl2 fmq kl4 fln krw0 frw krw1 fat krw2 fen kn j_11 (by omega) (by rw [ef_15]; exact pk_us) (by omega) hprk hll hln hfat hfen) (cwV 1 hts (gV mw_4_61 mw_4_63 mw_0_16 mw_1_9 mw_4_64) rfl rfl rfl (by decide +kernel) ⟨Nat.le_of_ble_eq_true rfl, Nat.le_of_ble_eq_true rfl⟩) ⟨pcW_blind, va_recv hKc hPc (ci := 8) (q0 := 0) rfl rfl, pcW_at hPc hKc hDc hN⟩ rfl rfl hl.1 rfl (lv_room (Nat.le_of_ble_eq_true rfl)) dX9_kind_229 ⟨Nat.le_of_ble_eq_true rfl, Nat.le_of_ble_eq_true rfl⟩) hS (fun q _ h => hFc q h) hFc (fun u t H1 locs ht hvm hw_22 hB hz1 hk1 hS => ?_)
              obtain ⟨f_23, f_24, f_25, f_26, f_27, f_28, z_29, p_30, p_31, p_32, p_33, p_34, hP1, hK1, hD1⟩ := hB
              rw [ht] at hP1
              have hK1 := va_K.moved hvm.symm hK1
              obtain ⟨hP, hD⟩ := va_join (wr := [(l6, .inl (kl6, 10, .inl fax)), (l7, .inl (kl7, 10, .inl f_17))]) (w1 := [(h0, .inr (8, [.ref l5, .ref l3, .ref l6, .ref l7, .int (nI kn), .ref l4, .ref l1, .ref l2, .ref rw0, .ref rw1, .ref rw2, .int z_29, w12, w13, w14, w15, w16, w17, w18, w19, w20, w21, w22, w23, w24, w25, w26, w27, w28, w29, w30, w31, w32, w33, w34])), (l5, .inl (kl5, 30, .inl f_14)), (l3, .inl (kl3, 10, .inl f_15)), (l1, .inl (kl1, 10, .inl f_26)), (l2, .inl (kl2, 10, .inl f_27)), (l4, .inl (kl4, 100, .inl f_28)), (rw0, .inl (krw0, 40, .inl f_23)), (rw1, .inl (krw1, 4, .inl f_24)), (rw2, .inl (krw2, 4, .inl f_25))]) hP hD [0, 1, 2, 3, 4, 5, 8, 9, 10] [6, 7] rfl rfl (by decide) (by decide) hk1 hFc hP1 hD1
              have hK := (hK.sub (tys' := [(kl6, .int), (kl7, .boolean)]) [5, 6] rfl).app hK1
              clear hz1 hk1 hPc hDc hKc hFc
              generalize H1 = H at hP hS ⊢
              have hK : va_K (dC, dI) vwCl [(kl6, .int), (kl7, .boolean), (kl5, .int), (kl3, .int), (kl1, .int), (kl2, .int), (kl4, .int), (krw0, .int), (krw1, .int), (krw2, .int)] s := hK
              have hP : va_P (dC, dI) vwCl [(l6, .inl (kl6, 10, .inl fax)), (l7, .inl (kl7, 10, .inl f_17)), (h0, .inr (8, [.ref l5, .ref l3, .ref l6, .ref l7, .int (nI kn), .ref l4, .ref l1, .ref l2, .ref rw0, .ref rw1, .ref rw2, .int z_29, w12, w13, w14, w15, w16, w17, w18, w19, w20, w21, w22, w23, w24, w25, w26, w27, w28, w29, w30, w31, w32, w33, w34])), (l5, .inl (kl5, 30, .inl f_14)), (l3, .inl (kl3, 10, .inl f_15)), (l1, .inl (kl1, 10, .inl f_26)), (l2, .inl (kl2, 10, .inl f_27)), (l4, .inl (kl4, 100, .inl f_28)), (rw0, .inl (krw0, 40, .inl f_23)), (rw1, .inl (krw1, 4, .inl f_24)), (rw2, .inl (krw2, 4, .inl f_25))] H := hP
              have hD : va_D A [(l6, .inl (kl6, 10, .inl fax)), (l7, .inl (kl7, 10, .inl f_17)), (h0, .inr (8, [.ref l5, .ref l3, .ref l6, .ref l7, .int (nI kn), .ref l4, .ref l1, .ref l2, .ref rw0, .ref rw1, .ref rw2, .int z_29, w12, w13, w14, w15, w16, w17, w18, w19, w20, w21, w22, w23, w24, w25, w26, w27, w28, w29, w30, w31, w32, w33, w34])), (l5, .inl (kl5, 30, .inl f_14)), (l3, .inl (kl3, 10, .inl f_15)), (l1, .inl (kl1, 10, .inl f_26)), (l2, .inl (kl2, 10, .inl f_27)), (l4, .inl (kl4, 100, .inl f_28)), (rw0, .inl (krw0, 40, .inl f_23)), (rw1, .inl (krw1, 4, .inl f_24)), (rw2, .inl (krw2, 4, .inl f_25))] := hD
              refine lv_aload_n hx hb dX9_kind_232 rfl (lv_at hl 2 rfl) ?_
              refine lv_dup hx hb dX9_kind_233 rfl ?_
              refine va_get (D := (dC, dI)) (ci := 8) (v := .int (nI kn)) (C := RX9) (T := TX9) (N := 35) hx hb hts inB_9 hown hK hP 2 rfl rfl 4 (by decide) (hts _ mw_3_186) (fun _ h9 => h9) rfl dX9_kind_234 ?_
              refine lv_iconst (v := 1) hx hb dX9_kind_237 (by decide) ?_
              refine lv_iadd hx hb dX9_kind_238 ?_
              refine hx_top (y := (nI (kn + 1))) (nI_add kn 1) ?_
              refine va_put (D := (dC, dI)) (ci := 8) (v := .int (nI (kn + 1))) (ty := .int) (C := RX9) (T := TX9) (N := 35) hx hb hts inB_9 tyX9 tyX9_ok nmX9 hown hK hP hD hS 2 rfl rfl 4 (by decide) (hts _ mw_3_186) (fun _ h9 => h9) rfl (by decide +kernel) rfl rfl (Nat.le_of_ble_eq_true rfl) dX9_kind_239 (fun H locs hP hD hS => ?_)
              have hP : va_P (dC, dI) vwCl [(l6, .inl (kl6, 10, .inl fax)), (l7, .inl (kl7, 10, .inl f_17)), (h0, .inr (8, [.ref l5, .ref l3, .ref l6, .ref l7, .int (nI (kn + 1)), .ref l4, .ref l1, .ref l2, .ref rw0, .ref rw1, .ref rw2, .int z_29, w12, w13, w14, w15, w16, w17, w18, w19, w20, w21, w22, w23, w24, w25, w26, w27, w28, w29, w30, w31, w32, w33, w34])), (l5, .inl (kl5, 30, .inl f_14)), (l3, .inl (kl3, 10, .inl f_15)), (l1, .inl (kl1, 10, .inl f_26)), (l2, .inl (kl2, 10, .inl f_27)), (l4, .inl (kl4, 100, .inl f_28)), (rw0, .inl (krw0, 40, .inl f_23)), (rw1, .inl (krw1, 4, .inl f_24)), (rw2, .inl (krw2, 4, .inl f_25))] H := hP
              have hD : va_D A [(l6, .inl (kl6, 10, .inl fax)), (l7, .inl (kl7, 10, .inl f_17)), (h0, .inr (8, [.ref l5, .ref l3, .ref l6, .ref l7, .int (nI (kn + 1)), .ref l4, .ref l1, .ref l2, .ref rw0, .ref rw1, .ref rw2, .int z_29, w12, w13, w14, w15, w16, w17, w18, w19, w20, w21, w22, w23, w24, w25, w26, w27, w28, w29, w30, w31, w32, w33, w34])), (l5, .inl (kl5, 30, .inl f_14)), (l3, .inl (kl3, 10, .inl f_15)), (l1, .inl (kl1, 10, .inl f_26)), (l2, .inl (kl2, 10, .inl f_27)), (l4, .inl (kl4, 100, .inl f_28)), (rw0, .inl (krw0, 40, .inl f_23)), (rw1, .inl (krw1, 4, .inl f_24)), (rw2, .inl (krw2, 4, .inl f_25))] := hD
              refine lv_aload_n hx hb dX9_kind_242 rfl (lv_at hl 2 rfl) ?_
              refine va_get (D := (dC, dI)) (ci := 8) (v := .int (nI (kn + 1))) (C := RX9) (T := TX9) (N := 35) hx hb hts inB_9 hown hK hP 2 rfl rfl 4 (by decide) (hts _ mw_3_186) (fun _ h9 => h9) rfl dX9_kind_243 ?_
              refine lv_iconst (v := 1) hx hb dX9_kind_246 (by decide) ?_
              refine lv_isub hx hb dX9_kind_247 ?_
              refine hx_top (y := (nI ((kn + 1) - 1))) (pk_sub (a := (kn + 1)) (b := 1) (by omega)) ?_
              have hF9 : nI kn = F_kind kn (nI j_11) n2 n3 n4 := (by (unfold F_kind; repeat' split) <;> first | rfl | (exfalso; omega))
              have hP9 := hP.sub (ws' := [(h0, .inr (8, [.ref l5, .ref l3, .ref l6, .ref l7, .int (nI (kn + 1)), .ref l4, .ref l1, .ref l2, .ref rw0, .ref rw1, .ref rw2, .int z_29, w12, w13, w14, w15, w16, w17, w18, w19, w20, w21, w22, w23, w24, w25, w26, w27, w28, w29, w30, w31, w32, w33, w34])), (l5, .inl (kl5, 30, .inl f_14)), (l3, .inl (kl3, 10, .inl f_15)), (l1, .inl (kl1, 10, .inl f_26)), (l2, .inl (kl2, 10, .inl f_27)), (l4, .inl (kl4, 100, .inl f_28)), (l6, .inl (kl6, 10, .inl fax)), (l7, .inl (kl7, 10, .inl f_17)), (rw0, .inl (krw0, 40, .inl f_23)), (rw1, .inl (krw1, 4, .inl f_24)), (rw2, .inl (krw2, 4, .inl f_25))]) [2, 3, 4, 5, 6, 7, 0, 1, 8, 9, 10] rfl
              have hD9 := hD.sub (ws' := [(h0, .inr (8, [.ref l5, .ref l3, .ref l6, .ref l7, .int (nI (kn + 1)), .ref l4, .ref l1, .ref l2, .ref rw0, .ref rw1, .ref rw2, .int z_29, w12, w13, w14, w15, w16, w17, w18, w19, w20, w21, w22, w23, w24, w25, w26, w27, w28, w29, w30, w31, w32, w33, w34])), (l5, .inl (kl5, 30, .inl f_14)), (l3, .inl (kl3, 10, .inl f_15)), (l1, .inl (kl1, 10, .inl f_26)), (l2, .inl (kl2, 10, .inl f_27)), (l4, .inl (kl4, 100, .inl f_28)), (l6, .inl (kl6, 10, .inl fax)), (l7, .inl (kl7, 10, .inl f_17)), (rw0, .inl (krw0, 40, .inl f_23)), (rw1, .inl (krw1, 4, .inl f_24)), (rw2, .inl (krw2, 4, .inl f_25))]) [2, 3, 4, 5, 6, 7, 0, 1, 8, 9, 10] (by decide) rfl
              have hK9 := hK.sub (tys' := [(kl5, .int), (kl3, .int), (kl1, .int), (kl2, .int), (kl4, .int), (kl6, .int), (kl7, .boolean), (krw0, .int), (krw1, .int), (krw2, .int)]) [2, 3, 4, 5, 6, 0, 1, 7, 8, 9] rfl
              exact W.iret (v := (nI ((kn + 1) - 1))) hx hb hr (fun t ht hW => ⟨⟨(nI ((kn + 1) - 1)), (), rfl, hF9, (kn + 1), f_14, f_15, fax, f_17, f_23, f_24, f_25, f_26, f_27, f_28, z_29, (K_yes hF9 (by omega)), (KB_yes hF9 (by omega) ef_17), (KA_yes (m := j_11) hF9 (by omega) (nI_clamp (by omega)) (by rw [hax, show k = j_11 from (by omega)])), (km_yes (m := j_11) hF9 (by omega) (nI_clamp (by omega)) (km_p hpp (by omega) p_34)), (by omega), p_30, p_31, p_32, p_33, by rw [ht]; exact hP9, va_K.moved hW.alike hK9, hD9⟩, hS.F ht⟩) hS.2.2 dX9_kind_248
            · have b_21 := gn_ge (X := ((k : Nat) : Int)) (C := ((j_11 : Nat) : Int)) (nI_toInt (by omega)) (nI_toInt (by omega)) c_20
              refine lv_aload_n hx hb dX9_kind_178 rfl (lv_at hl 2 rfl) ?_
              refine va_get (D := (dC, dI)) (ci := 8) (v := .ref l5) (C := RX9) (T := TX9) (N := 35) hx hb hts inB_9 hown hK hP 0 rfl rfl 0 (by decide) (hts _ mw_3_182) (fun _ h9 => h9) rfl dX9_kind_179 ?_
              refine lv_iconst (v := 3) hx hb dX9_kind_182 (by decide) ?_
              refine lv_aload_n hx hb dX9_kind_183 rfl (lv_at hl 2 rfl) ?_
              refine va_get (D := (dC, dI)) (ci := 8) (v := .int (nI kn)) (C := RX9) (T := TX9) (N := 35) hx hb hts inB_9 hown hK hP 0 rfl rfl 4 (by decide) (hts _ mw_3_186) (fun _ h9 => h9) rfl dX9_kind_184 ?_
              refine lv_imul hx hb dX9_kind_187 ?_
              refine hx_top (y := (nI (3 * kn))) (pk_mul 3 kn) ?_
              refine lv_iload hx hb dX9_kind_188 (lv_at hl 0 rfl) ?_
              refine lv_iadd hx hb dX9_kind_190 ?_
              refine hx_top (y := (nI ((3 * kn) + k))) (nI_add (3 * kn) k) ?_
              refine va_iald hx hb hK hP 1 0 rfl rfl (show vp_in (nI ((3 * kn) + k)) 30 from vp_in_nI (by omega) (by omega)) dX9_kind_191 ?_
              refine hx_top (y := (f_14 ((3 * kn) + k))) (congrArg _ (nI_clamp (by omega))) ?_
              obtain ⟨n_35, hn_35, en_35⟩ := hprk k (by omega)
              refine hx_top (y := (nI n_35)) en_35 ?_
              refine lv_istore (lv' := [(7, .int (nI n_35)), (6, .int (nI k)), (5, .int 1), (0, .ref h0), (1, .int (nI j_11)), (2, .int n2), (3, .int n3), (4, .int n4)]) hx hb dX9_kind_192 hl (by decide) rfl (fun ls hl => ?_)
              refine lv_aload_n hx hb dX9_kind_194 rfl (lv_at hl 3 rfl) ?_
              refine va_get (D := (dC, dI)) (ci := 8) (v := .ref l6) (C := RX9) (T := TX9) (N := 35) hx hb hts inB_9 hown hK hP 0 rfl rfl 2 (by decide) (hts _ mw_3_184) (fun _ h9 => h9) rfl dX9_kind_195 ?_
              refine lv_aload_n hx hb dX9_kind_198 rfl (lv_at hl 3 rfl) ?_
              refine va_get (D := (dC, dI)) (ci := 8) (v := .int (nI kn)) (C := RX9) (T := TX9) (N := 35) hx hb hts inB_9 hown hK hP 0 rfl rfl 4 (by decide) (hts _ mw_3_186) (fun _ h9 => h9) rfl dX9_kind_199 ?_
              refine lv_dup2_11 hx hb dX9_kind_202 rfl rfl ?_
              refine va_iald hx hb hK hP 6 5 rfl rfl (show vp_in (nI kn) 10 from vp_in_nI (by omega) (by omega)) dX9_kind_203 ?_
              refine hx_top (y := (fax kn)) (congrArg _ (nI_clamp (by omega))) ?_
              refine lv_aload_n hx hb dX9_kind_204 rfl (lv_at hl 3 rfl) ?_
              refine va_get (D := (dC, dI)) (ci := 8) (v := .ref l6) (C := RX9) (T := TX9) (N := 35) hx hb hts inB_9 hown hK hP 0 rfl rfl 2 (by decide) (hts _ mw_3_184) (fun _ h9 => h9) rfl dX9_kind_205 ?_
              refine lv_iload hx hb dX9_kind_208 (lv_at hl 0 rfl) ?_
              refine va_iald hx hb hK hP 6 5 rfl rfl (show vp_in (nI n_35) 10 from vp_in_nI (by omega) (by omega)) dX9_kind_210 ?_
              refine hx_top (y := (fax n_35)) (congrArg _ (nI_clamp (by omega))) ?_
              refine lv_iconst (v := 1) hx hb dX9_kind_211 (by decide) ?_
              refine lv_iload hx hb dX9_kind_212 (lv_at hl 0 rfl) ?_
              refine lv_ishl hx hb dX9_kind_214 ?_
              refine lv_ior hx hb dX9_kind_215 ?_
              refine lv_ior hx hb dX9_kind_216 ?_
              refine va_iast hx hb hK hP hD hS 6 5 rfl rfl (show vp_in (nI kn) 10 from vp_in_nI (by omega) (by omega)) dX9_kind_217 (fun H locs hP hD hS => ?_)
              obtain ⟨f_36, ef_36⟩ : ∃ g : Nat → Int32, g = upd fax (Int32.toNatClampNeg (nI kn)) ((fax kn) ||| ((fax n_35) ||| (1 <<< ((nI n_35) &&& 31)))) := ⟨_, rfl⟩
              rw [← ef_36] at hP hD
              have ef_36 : f_36 = upd fax kn ((fax kn) ||| ((fax n_35) ||| (1 <<< ((nI n_35) &&& 31)))) := by rw [ef_36, nI_clamp (by omega)]
              have hP : va_P (dC, dI) vwCl [(h0, .inr (8, [.ref l5, .ref l3, .ref l6, .ref l7, .int (nI kn), .ref l4, .ref l1, .ref l2, .ref rw0, .ref rw1, .ref rw2, .int rm0, w12, w13, w14, w15, w16, w17, w18, w19, w20, w21, w22, w23, w24, w25, w26, w27, w28, w29, w30, w31, w32, w33, w34])), (l5, .inl (kl5, 30, .inl f_14)), (l3, .inl (kl3, 10, .inl f_15)), (l1, .inl (kl1, 10, .inl fll)), (l2, .inl (kl2, 10, .inl fmq)), (l4, .inl (kl4, 100, .inl fln)), (l6, .inl (kl6, 10, .inl f_36)), (l7, .inl (kl7, 10, .inl f_17)), (rw0, .inl (krw0, 40, .inl frw)), (rw1, .inl (krw1, 4, .inl fat)), (rw2, .inl (krw2, 4, .inl fen))] H := hP
              have hD : va_D A [(h0, .inr (8, [.ref l5, .ref l3, .ref l6, .ref l7, .int (nI kn), .ref l4, .ref l1, .ref l2, .ref rw0, .ref rw1, .ref rw2, .int rm0, w12, w13, w14, w15, w16, w17, w18, w19, w20, w21, w22, w23, w24, w25, w26, w27, w28, w29, w30, w31, w32, w33, w34])), (l5, .inl (kl5, 30, .inl f_14)), (l3, .inl (kl3, 10, .inl f_15)), (l1, .inl (kl1, 10, .inl fll)), (l2, .inl (kl2, 10, .inl fmq)), (l4, .inl (kl4, 100, .inl fln)), (l6, .inl (kl6, 10, .inl f_36)), (l7, .inl (kl7, 10, .inl f_17)), (rw0, .inl (krw0, 40, .inl frw)), (rw1, .inl (krw1, 4, .inl fat)), (rw2, .inl (krw2, 4, .inl fen))] := hD
              refine lv_iinc (v := (nI (k + 1))) (lv' := [(6, .int (nI (k + 1))), (7, .int (nI n_35)), (5, .int 1), (0, .ref h0), (1, .int (nI j_11)), (2, .int n2), (3, .int n3), (4, .int n4)]) hx hb dX9_kind_218 hl (k := 1) rfl (nI_add k 1) (by decide) rfl (fun ls hl => ?_)
              refine lv_goto (tgt := 172) hx hb dX9_kind_221 (by decide) ?_
              exact ih_19 (k + 1) f_36 (by omega) (ab_stepM hax ((hpp k (by omega)).symm.trans en_35) (by omega) (by omega) ef_36) (by omega) _ _ hP hD hS ls (lv_sub hl [0, 2, 3, 4, 5, 6, 7] rfl)
        exact key_18 ((j_11 - 0) + 1) 0 f_16 (by omega) ef_16 (Nat.lt_succ_self _) _ _ hP hD hS ls (lv_sub hl [0, 1, 2, 3, 4, 5, 6] rfl)
      · have b_10 := gn_ne (X := ((kn : Nat) : Int)) (C := 10) (nI_toInt (by omega)) (by decide) c_9
        refine lv_bipush (v := (-4)) hx hb dX9_kind_95 (by decide) ?_
        have hF9 : ((-4) : Int32) = F_kind kn n1 n2 n3 n4 := (by (unfold F_kind; repeat' split) <;> first | rfl | (exfalso; omega))
        have hP9 := hP.sub (ws' := [(h0, .inr (8, [.ref l5, .ref l3, .ref l6, .ref l7, .int (nI kn), .ref l4, .ref l1, .ref l2, .ref rw0, .ref rw1, .ref rw2, .int rm0, w12, w13, w14, w15, w16, w17, w18, w19, w20, w21, w22, w23, w24, w25, w26, w27, w28, w29, w30, w31, w32, w33, w34])), (l5, .inl (kl5, 30, .inl fpr)), (l3, .inl (kl3, 10, .inl fpm)), (l1, .inl (kl1, 10, .inl fll)), (l2, .inl (kl2, 10, .inl fmq)), (l4, .inl (kl4, 100, .inl fln)), (l6, .inl (kl6, 10, .inl fma)), (l7, .inl (kl7, 10, .inl fib)), (rw0, .inl (krw0, 40, .inl frw)), (rw1, .inl (krw1, 4, .inl fat)), (rw2, .inl (krw2, 4, .inl fen))]) [0, 1, 2, 3, 4, 5, 6, 7, 8, 9, 10] rfl
        have hD9 := hD.sub (ws' := [(h0, .inr (8, [.ref l5, .ref l3, .ref l6, .ref l7, .int (nI kn), .ref l4, .ref l1, .ref l2, .ref rw0, .ref rw1, .ref rw2, .int rm0, w12, w13, w14, w15, w16, w17, w18, w19, w20, w21, w22, w23, w24, w25, w26, w27, w28, w29, w30, w31, w32, w33, w34])), (l5, .inl (kl5, 30, .inl fpr)), (l3, .inl (kl3, 10, .inl fpm)), (l1, .inl (kl1, 10, .inl fll)), (l2, .inl (kl2, 10, .inl fmq)), (l4, .inl (kl4, 100, .inl fln)), (l6, .inl (kl6, 10, .inl fma)), (l7, .inl (kl7, 10, .inl fib)), (rw0, .inl (krw0, 40, .inl frw)), (rw1, .inl (krw1, 4, .inl fat)), (rw2, .inl (krw2, 4, .inl fen))]) [0, 1, 2, 3, 4, 5, 6, 7, 8, 9, 10] (by decide) rfl
        have hK9 := hK.sub (tys' := [(kl5, .int), (kl3, .int), (kl1, .int), (kl2, .int), (kl4, .int), (kl6, .int), (kl7, .boolean), (krw0, .int), (krw1, .int), (krw2, .int)]) [0, 1, 2, 3, 4, 5, 6, 7, 8, 9] rfl
        exact W.iret (v := (-4)) hx hb hr (fun t ht hW => ⟨⟨(-4), (), rfl, hF9, kn, fpr, fpm, fma, fib, frw, fat, fen, fll, fmq, fln, rm0, (K_no (v := (-4)) hF9 (by decide)), (KB_no (v := (-4)) hF9 (by decide)), (KA_no (v := (-4)) hF9 (by decide)), (km_no (v := (-4)) hF9 (by decide)), hkn, hll, hln, hfat, hfen, by rw [ht]; exact hP9, va_K.moved hW.alike hK9, hD9⟩, hS.F ht⟩) hS.2.2 dX9_kind_97
    · skip
      refine lv_if_ne (tgt := 86) hx hb dX9_kind_80 (by decide) (fun h => absurd h (by decide)) (fun _ => ?_)
      refine lv_bipush (v := (-2)) hx hb dX9_kind_83 (by decide) ?_
      have hF9 : ((-2) : Int32) = F_kind kn n1 n2 n3 n4 := (by (unfold F_kind; repeat' split) <;> first | rfl | (exfalso; omega))
      have hP9 := hP.sub (ws' := [(h0, .inr (8, [.ref l5, .ref l3, .ref l6, .ref l7, .int (nI kn), .ref l4, .ref l1, .ref l2, .ref rw0, .ref rw1, .ref rw2, .int rm0, w12, w13, w14, w15, w16, w17, w18, w19, w20, w21, w22, w23, w24, w25, w26, w27, w28, w29, w30, w31, w32, w33, w34])), (l5, .inl (kl5, 30, .inl fpr)), (l3, .inl (kl3, 10, .inl fpm)), (l1, .inl (kl1, 10, .inl fll)), (l2, .inl (kl2, 10, .inl fmq)), (l4, .inl (kl4, 100, .inl fln)), (l6, .inl (kl6, 10, .inl fma)), (l7, .inl (kl7, 10, .inl fib)), (rw0, .inl (krw0, 40, .inl frw)), (rw1, .inl (krw1, 4, .inl fat)), (rw2, .inl (krw2, 4, .inl fen))]) [0, 1, 2, 3, 4, 5, 6, 7, 8, 9, 10] rfl
      have hD9 := hD.sub (ws' := [(h0, .inr (8, [.ref l5, .ref l3, .ref l6, .ref l7, .int (nI kn), .ref l4, .ref l1, .ref l2, .ref rw0, .ref rw1, .ref rw2, .int rm0, w12, w13, w14, w15, w16, w17, w18, w19, w20, w21, w22, w23, w24, w25, w26, w27, w28, w29, w30, w31, w32, w33, w34])), (l5, .inl (kl5, 30, .inl fpr)), (l3, .inl (kl3, 10, .inl fpm)), (l1, .inl (kl1, 10, .inl fll)), (l2, .inl (kl2, 10, .inl fmq)), (l4, .inl (kl4, 100, .inl fln)), (l6, .inl (kl6, 10, .inl fma)), (l7, .inl (kl7, 10, .inl fib)), (rw0, .inl (krw0, 40, .inl frw)), (rw1, .inl (krw1, 4, .inl fat)), (rw2, .inl (krw2, 4, .inl fen))]) [0, 1, 2, 3, 4, 5, 6, 7, 8, 9, 10] (by decide) rfl
      have hK9 := hK.sub (tys' := [(kl5, .int), (kl3, .int), (kl1, .int), (kl2, .int), (kl4, .int), (kl6, .int), (kl7, .boolean), (krw0, .int), (krw1, .int), (krw2, .int)]) [0, 1, 2, 3, 4, 5, 6, 7, 8, 9] rfl
      exact W.iret (v := (-2)) hx hb hr (fun t ht hW => ⟨⟨(-2), (), rfl, hF9, kn, fpr, fpm, fma, fib, frw, fat, fen, fll, fmq, fln, rm0, (K_no (v := (-2)) hF9 (by decide)), (KB_no (v := (-2)) hF9 (by decide)), (KA_no (v := (-2)) hF9 (by decide)), (km_no (v := (-2)) hF9 (by decide)), hkn, hll, hln, hfat, hfen, by rw [ht]; exact hP9, va_K.moved hW.alike hK9, hD9⟩, hS.F ht⟩) hS.2.2 dX9_kind_85
  · have b_2 := gn_lt (X := (Int32.toInt n1)) (C := 1) rfl (by decide) c_1
    refine lv_aload_n hx hb dX9_kind_5 rfl (lv_at hl 0 rfl) ?_
    refine lv_iload_n hx hb dX9_kind_6 rfl (lv_at hl 2 rfl) ?_
    have hPc := hP.sub (ws' := [(h0, .inr (8, [.ref l5, .ref l3, .ref l6, .ref l7, .int (nI kn), .ref l4, .ref l1, .ref l2, .ref rw0, .ref rw1, .ref rw2, .int rm0, w12, w13, w14, w15, w16, w17, w18, w19, w20, w21, w22, w23, w24, w25, w26, w27, w28, w29, w30, w31, w32, w33, w34]))]) [0] rfl
    have hDc := hD.sub (ws' := [(h0, .inr (8, [.ref l5, .ref l3, .ref l6, .ref l7, .int (nI kn), .ref l4, .ref l1, .ref l2, .ref rw0, .ref rw1, .ref rw2, .int rm0, w12, w13, w14, w15, w16, w17, w18, w19, w20, w21, w22, w23, w24, w25, w26, w27, w28, w29, w30, w31, w32, w33, w34]))]) [0] (by decide) rfl
    have hKc := hK.sub (tys' := []) [] rfl
    refine va_calli (va_runV (As := [.int n2]) (rest := []) ⟨hx, hb, hml, hown, hts⟩ (m_isKind l dC dI s.heap.size h0 (.ref l5) (.ref l3) (.ref l6) (.ref l7) kn (.ref l4) (.ref l1) (.ref l2) (.ref rw0) (.ref rw1) (.ref rw2) (.int rm0) (w12) (w13) (w14) (w15) (w16) (w17) (w18) (w19) (w20) (w21) (w22) (w23) (w24) (w25) (w26) (w27) (w28) (w29) (w30) (w31) (w32) (w33) (w34) n2 hkn) (cwV 1 hts (gV mw_4_53 mw_4_55 mw_0_15 mw_1_9 mw_4_56) rfl rfl rfl (by decide +kernel) ⟨Nat.le_of_ble_eq_true rfl, Nat.le_of_ble_eq_true rfl⟩) ⟨pcW_blind, va_recv hKc hPc (ci := 8) (q0 := 0) rfl rfl, pcW_at hPc hKc hDc hN⟩ rfl rfl hl.1 rfl (lv_room (Nat.le_of_ble_eq_true rfl)) dX9_kind_7 ⟨Nat.le_of_ble_eq_true rfl, Nat.le_of_ble_eq_true rfl⟩) hS (fun q h1 h2 => absurd h2 (Nat.not_le.mpr h1)) (fun q h => hA q (Nat.le_trans hS.1 h)) (fun r_37 u t H1 locs ht hvm hw_37 hB hz1 hk1 hS => ?_)
    have hP := keepP hP hk1
    clear hz1 hk1 hB ht hvm hPc hDc hKc
    generalize H1 = H at hP hS ⊢
    rcases fx_bool hw_37 with ⟨rfl, b_38⟩ | ⟨rfl, b_38⟩
    · skip
      refine lv_if_eq (tgt := 61) hx hb dX9_kind_10 (by decide) (fun h => absurd h (by decide)) (fun _ => ?_)
      refine lv_iload_n hx hb dX9_kind_13 rfl (lv_at hl 1 rfl) ?_
      refine lv_iconst (v := 2) hx hb dX9_kind_14 (by decide) ?_
      refine lv_icmp_lt (tgt := 31) hx hb dX9_kind_15 (by decide) (fun c_39 => ?_) (fun c_39 => ?_)
      · have b_40 := gx_lt (X := (Int32.toInt n1)) (C := 2) rfl (by decide) c_39
        refine lv_iload_n hx hb dX9_kind_31 rfl (lv_at hl 1 rfl) ?_
        refine hx_top (y := 1) (fx_sing (C := 1) (by decide) (by omega)) ?_
        refine lv_iconst (v := 3) hx hb dX9_kind_32 (by decide) ?_
        refine lv_icmp_lt (tgt := 57) hx hb dX9_kind_33 (by decide) (fun _ => ?_) (fun h => absurd (by decide) h)
        refine lv_iconst (v := 1) hx hb dX9_kind_57 (by decide) ?_
        refine lv_goto (tgt := 62) hx hb dX9_kind_58 (by decide) ?_
        refine lv_istore (lv' := [(5, .int 1), (0, .ref h0), (1, .int n1), (2, .int n2), (3, .int n3), (4, .int n4)]) hx hb dX9_kind_62 hl (by decide) rfl (fun ls hl => ?_)
        refine lv_iload hx hb dX9_kind_64 (lv_at hl 0 rfl) ?_
        refine lv_if_ne (tgt := 71) hx hb dX9_kind_66 (by decide) (fun _ => ?_) (fun h => absurd h (by decide))
        refine lv_iload_n hx hb dX9_kind_71 rfl (lv_at hl 2 rfl) ?_
        refine hx_top (y := 1) (fx_sing (C := 1) (by decide) (by omega)) ?_
        refine lv_i2l hx hb dX9_kind_72 rfl ?_
        refine lv_lconst (v := Int32.toInt64 0) hx hb dX9_kind_73 (by decide) ?_
        refine lv_ldc2 (v := Int32.toInt64 3) hx hb hown (show (Cond.constantLong RX9 100 (Int32.toInt64 3)).before _ s = true from (hts _ mw_4_60)) dX9_kind_74 ?_
        have hPc := hP.sub (ws' := []) [] rfl
        have hDc := hD.sub (ws' := []) [] (by decide) rfl
        have hKc := hK.sub (tys' := []) [] rfl
        refine va_calli (va_runS (As := [.long (Int32.toInt64 1), .long (Int32.toInt64 0), .long (Int32.toInt64 3)]) (rest := []) ⟨hx, hb, hml, hown, hts⟩ (m_in l dC dI H.size 1 0 3 0 3 (by decide) (by decide)) (va_cwS 3 hts (gS mw_4_57 mw_4_58 mw_1_9 mw_4_59) rfl rfl rfl (by decide +kernel) ⟨Nat.le_of_ble_eq_true rfl, Nat.le_of_ble_eq_true rfl⟩) ⟨pcW_blind, pcW_at hPc hKc hDc hN⟩ rfl rfl hl.1 rfl (lv_room (Nat.le_of_ble_eq_true rfl)) dX9_kind_77 ⟨Nat.le_of_ble_eq_true rfl, Nat.le_of_ble_eq_true rfl⟩) hS (fun q h1 h2 => absurd h2 (Nat.not_le.mpr h1)) (fun q h => hA q (Nat.le_trans hS.1 h)) (fun r_41 u t H1 locs ht hvm hw_41 hB hz1 hk1 hS => ?_)
        have hP := keepP hP hk1
        clear hz1 hk1 hB ht hvm hPc hDc hKc
        generalize H1 = H at hP hS ⊢
        obtain rfl : r_41 = 1 := hw_41.trans (if_pos (by decide))
        refine lv_if_ne (tgt := 86) hx hb dX9_kind_80 (by decide) (fun _ => ?_) (fun h => absurd h (by decide))
        refine lv_aload_n hx hb dX9_kind_86 rfl (lv_at hl 1 rfl) ?_
        refine va_get (D := (dC, dI)) (ci := 8) (v := .int (nI kn)) (C := RX9) (T := TX9) (N := 35) hx hb hts inB_9 hown hK hP 0 rfl rfl 4 (by decide) (hts _ mw_3_186) (fun _ h9 => h9) rfl dX9_kind_87 ?_
        refine lv_bipush (v := 10) hx hb dX9_kind_90 (by decide) ?_
        refine lv_icmp_ne (tgt := 98) hx hb dX9_kind_92 (by decide) (fun c_43 => ?_) (fun c_43 => ?_)
        · have b_44 := gx_ne (X := ((kn : Nat) : Int)) (C := 10) (nI_toInt (by omega)) (by decide) c_43
          obtain ⟨j_45, tj_45, ej_45⟩ := fx_nat (x := n1) (by omega)
          subst ej_45
          have yj_45 : Int32.toInt (nI j_45) = (j_45 : Int) := nI_toInt tj_45
          refine lv_aload_n hx hb dX9_kind_98 rfl (lv_at hl 1 rfl) ?_
          refine va_get (D := (dC, dI)) (ci := 8) (v := .ref l5) (C := RX9) (T := TX9) (N := 35) hx hb hts inB_9 hown hK hP 0 rfl rfl 0 (by decide) (hts _ mw_3_182) (fun _ h9 => h9) rfl dX9_kind_99 ?_
          refine lv_iconst (v := 3) hx hb dX9_kind_102 (by decide) ?_
          refine lv_aload_n hx hb dX9_kind_103 rfl (lv_at hl 1 rfl) ?_
          refine va_get (D := (dC, dI)) (ci := 8) (v := .int (nI kn)) (C := RX9) (T := TX9) (N := 35) hx hb hts inB_9 hown hK hP 0 rfl rfl 4 (by decide) (hts _ mw_3_186) (fun _ h9 => h9) rfl dX9_kind_104 ?_
          refine lv_imul hx hb dX9_kind_107 ?_
          refine hx_top (y := (nI (3 * kn))) (pk_mul 3 kn) ?_
          refine lv_iload_n hx hb dX9_kind_108 rfl (lv_at hl 3 rfl) ?_
          refine va_iast hx hb hK hP hD hS 1 0 rfl rfl (show vp_in (nI (3 * kn)) 30 from vp_in_nI (by omega) (by omega)) dX9_kind_109 (fun H locs hP hD hS => ?_)
          obtain ⟨f_46, ef_46⟩ : ∃ g : Nat → Int32, g = upd fpr (Int32.toNatClampNeg (nI (3 * kn))) n2 := ⟨_, rfl⟩
          rw [← ef_46] at hP hD
          have ef_46 : f_46 = upd fpr (3 * kn) n2 := by rw [ef_46, nI_clamp (by omega)]
          have hP : va_P (dC, dI) vwCl [(h0, .inr (8, [.ref l5, .ref l3, .ref l6, .ref l7, .int (nI kn), .ref l4, .ref l1, .ref l2, .ref rw0, .ref rw1, .ref rw2, .int rm0, w12, w13, w14, w15, w16, w17, w18, w19, w20, w21, w22, w23, w24, w25, w26, w27, w28, w29, w30, w31, w32, w33, w34])), (l5, .inl (kl5, 30, .inl f_46)), (l3, .inl (kl3, 10, .inl fpm)), (l1, .inl (kl1, 10, .inl fll)), (l2, .inl (kl2, 10, .inl fmq)), (l4, .inl (kl4, 100, .inl fln)), (l6, .inl (kl6, 10, .inl fma)), (l7, .inl (kl7, 10, .inl fib)), (rw0, .inl (krw0, 40, .inl frw)), (rw1, .inl (krw1, 4, .inl fat)), (rw2, .inl (krw2, 4, .inl fen))] H := hP
          have hD : va_D A [(h0, .inr (8, [.ref l5, .ref l3, .ref l6, .ref l7, .int (nI kn), .ref l4, .ref l1, .ref l2, .ref rw0, .ref rw1, .ref rw2, .int rm0, w12, w13, w14, w15, w16, w17, w18, w19, w20, w21, w22, w23, w24, w25, w26, w27, w28, w29, w30, w31, w32, w33, w34])), (l5, .inl (kl5, 30, .inl f_46)), (l3, .inl (kl3, 10, .inl fpm)), (l1, .inl (kl1, 10, .inl fll)), (l2, .inl (kl2, 10, .inl fmq)), (l4, .inl (kl4, 100, .inl fln)), (l6, .inl (kl6, 10, .inl fma)), (l7, .inl (kl7, 10, .inl fib)), (rw0, .inl (krw0, 40, .inl frw)), (rw1, .inl (krw1, 4, .inl fat)), (rw2, .inl (krw2, 4, .inl fen))] := hD
          refine lv_aload_n hx hb dX9_kind_110 rfl (lv_at hl 1 rfl) ?_
          refine va_get (D := (dC, dI)) (ci := 8) (v := .ref l5) (C := RX9) (T := TX9) (N := 35) hx hb hts inB_9 hown hK hP 0 rfl rfl 0 (by decide) (hts _ mw_3_182) (fun _ h9 => h9) rfl dX9_kind_111 ?_
          refine lv_iconst (v := 3) hx hb dX9_kind_114 (by decide) ?_
          refine lv_aload_n hx hb dX9_kind_115 rfl (lv_at hl 1 rfl) ?_
          refine va_get (D := (dC, dI)) (ci := 8) (v := .int (nI kn)) (C := RX9) (T := TX9) (N := 35) hx hb hts inB_9 hown hK hP 0 rfl rfl 4 (by decide) (hts _ mw_3_186) (fun _ h9 => h9) rfl dX9_kind_116 ?_
          refine lv_imul hx hb dX9_kind_119 ?_
          refine hx_top (y := (nI (3 * kn))) (pk_mul 3 kn) ?_
          refine lv_iconst (v := 1) hx hb dX9_kind_120 (by decide) ?_
          refine lv_iadd hx hb dX9_kind_121 ?_
          refine hx_top (y := (nI ((3 * kn) + 1))) (nI_add (3 * kn) 1) ?_
          refine lv_iload_n hx hb dX9_kind_122 rfl (lv_at hl 4 rfl) ?_
          refine va_iast hx hb hK hP hD hS 1 0 rfl rfl (show vp_in (nI ((3 * kn) + 1)) 30 from vp_in_nI (by omega) (by omega)) dX9_kind_123 (fun H locs hP hD hS => ?_)
          obtain ⟨f_47, ef_47⟩ : ∃ g : Nat → Int32, g = upd f_46 (Int32.toNatClampNeg (nI ((3 * kn) + 1))) n3 := ⟨_, rfl⟩
          rw [← ef_47] at hP hD
          have ef_47 : f_47 = upd f_46 ((3 * kn) + 1) n3 := by rw [ef_47, nI_clamp (by omega)]
          have hP : va_P (dC, dI) vwCl [(h0, .inr (8, [.ref l5, .ref l3, .ref l6, .ref l7, .int (nI kn), .ref l4, .ref l1, .ref l2, .ref rw0, .ref rw1, .ref rw2, .int rm0, w12, w13, w14, w15, w16, w17, w18, w19, w20, w21, w22, w23, w24, w25, w26, w27, w28, w29, w30, w31, w32, w33, w34])), (l5, .inl (kl5, 30, .inl f_47)), (l3, .inl (kl3, 10, .inl fpm)), (l1, .inl (kl1, 10, .inl fll)), (l2, .inl (kl2, 10, .inl fmq)), (l4, .inl (kl4, 100, .inl fln)), (l6, .inl (kl6, 10, .inl fma)), (l7, .inl (kl7, 10, .inl fib)), (rw0, .inl (krw0, 40, .inl frw)), (rw1, .inl (krw1, 4, .inl fat)), (rw2, .inl (krw2, 4, .inl fen))] H := hP
          have hD : va_D A [(h0, .inr (8, [.ref l5, .ref l3, .ref l6, .ref l7, .int (nI kn), .ref l4, .ref l1, .ref l2, .ref rw0, .ref rw1, .ref rw2, .int rm0, w12, w13, w14, w15, w16, w17, w18, w19, w20, w21, w22, w23, w24, w25, w26, w27, w28, w29, w30, w31, w32, w33, w34])), (l5, .inl (kl5, 30, .inl f_47)), (l3, .inl (kl3, 10, .inl fpm)), (l1, .inl (kl1, 10, .inl fll)), (l2, .inl (kl2, 10, .inl fmq)), (l4, .inl (kl4, 100, .inl fln)), (l6, .inl (kl6, 10, .inl fma)), (l7, .inl (kl7, 10, .inl fib)), (rw0, .inl (krw0, 40, .inl frw)), (rw1, .inl (krw1, 4, .inl fat)), (rw2, .inl (krw2, 4, .inl fen))] := hD
          refine lv_aload_n hx hb dX9_kind_124 rfl (lv_at hl 1 rfl) ?_
          refine va_get (D := (dC, dI)) (ci := 8) (v := .ref l5) (C := RX9) (T := TX9) (N := 35) hx hb hts inB_9 hown hK hP 0 rfl rfl 0 (by decide) (hts _ mw_3_182) (fun _ h9 => h9) rfl dX9_kind_125 ?_
          refine lv_iconst (v := 3) hx hb dX9_kind_128 (by decide) ?_
          refine lv_aload_n hx hb dX9_kind_129 rfl (lv_at hl 1 rfl) ?_
          refine va_get (D := (dC, dI)) (ci := 8) (v := .int (nI kn)) (C := RX9) (T := TX9) (N := 35) hx hb hts inB_9 hown hK hP 0 rfl rfl 4 (by decide) (hts _ mw_3_186) (fun _ h9 => h9) rfl dX9_kind_130 ?_
          refine lv_imul hx hb dX9_kind_133 ?_
          refine hx_top (y := (nI (3 * kn))) (pk_mul 3 kn) ?_
          refine lv_iconst (v := 2) hx hb dX9_kind_134 (by decide) ?_
          refine lv_iadd hx hb dX9_kind_135 ?_
          refine hx_top (y := (nI ((3 * kn) + 2))) (nI_add (3 * kn) 2) ?_
          refine lv_iload hx hb dX9_kind_136 (lv_at hl 5 rfl) ?_
          refine va_iast hx hb hK hP hD hS 1 0 rfl rfl (show vp_in (nI ((3 * kn) + 2)) 30 from vp_in_nI (by omega) (by omega)) dX9_kind_138 (fun H locs hP hD hS => ?_)
          obtain ⟨f_48, ef_48⟩ : ∃ g : Nat → Int32, g = upd f_47 (Int32.toNatClampNeg (nI ((3 * kn) + 2))) n4 := ⟨_, rfl⟩
          rw [← ef_48] at hP hD
          have ef_48 : f_48 = upd f_47 ((3 * kn) + 2) n4 := by rw [ef_48, nI_clamp (by omega)]
          have hP : va_P (dC, dI) vwCl [(h0, .inr (8, [.ref l5, .ref l3, .ref l6, .ref l7, .int (nI kn), .ref l4, .ref l1, .ref l2, .ref rw0, .ref rw1, .ref rw2, .int rm0, w12, w13, w14, w15, w16, w17, w18, w19, w20, w21, w22, w23, w24, w25, w26, w27, w28, w29, w30, w31, w32, w33, w34])), (l5, .inl (kl5, 30, .inl f_48)), (l3, .inl (kl3, 10, .inl fpm)), (l1, .inl (kl1, 10, .inl fll)), (l2, .inl (kl2, 10, .inl fmq)), (l4, .inl (kl4, 100, .inl fln)), (l6, .inl (kl6, 10, .inl fma)), (l7, .inl (kl7, 10, .inl fib)), (rw0, .inl (krw0, 40, .inl frw)), (rw1, .inl (krw1, 4, .inl fat)), (rw2, .inl (krw2, 4, .inl fen))] H := hP
          have hD : va_D A [(h0, .inr (8, [.ref l5, .ref l3, .ref l6, .ref l7, .int (nI kn), .ref l4, .ref l1, .ref l2, .ref rw0, .ref rw1, .ref rw2, .int rm0, w12, w13, w14, w15, w16, w17, w18, w19, w20, w21, w22, w23, w24, w25, w26, w27, w28, w29, w30, w31, w32, w33, w34])), (l5, .inl (kl5, 30, .inl f_48)), (l3, .inl (kl3, 10, .inl fpm)), (l1, .inl (kl1, 10, .inl fll)), (l2, .inl (kl2, 10, .inl fmq)), (l4, .inl (kl4, 100, .inl fln)), (l6, .inl (kl6, 10, .inl fma)), (l7, .inl (kl7, 10, .inl fib)), (rw0, .inl (krw0, 40, .inl frw)), (rw1, .inl (krw1, 4, .inl fat)), (rw2, .inl (krw2, 4, .inl fen))] := hD
          refine lv_aload_n hx hb dX9_kind_139 rfl (lv_at hl 1 rfl) ?_
          refine va_get (D := (dC, dI)) (ci := 8) (v := .ref l3) (C := RX9) (T := TX9) (N := 35) hx hb hts inB_9 hown hK hP 0 rfl rfl 1 (by decide) (hts _ mw_3_183) (fun _ h9 => h9) rfl dX9_kind_140 ?_
          refine lv_aload_n hx hb dX9_kind_143 rfl (lv_at hl 1 rfl) ?_
          refine va_get (D := (dC, dI)) (ci := 8) (v := .int (nI kn)) (C := RX9) (T := TX9) (N := 35) hx hb hts inB_9 hown hK hP 0 rfl rfl 4 (by decide) (hts _ mw_3_186) (fun _ h9 => h9) rfl dX9_kind_144 ?_
          refine lv_iload_n hx hb dX9_kind_147 rfl (lv_at hl 2 rfl) ?_
          refine va_iast hx hb hK hP hD hS 2 1 rfl rfl (show vp_in (nI kn) 10 from vp_in_nI (by omega) (by omega)) dX9_kind_148 (fun H locs hP hD hS => ?_)
          obtain ⟨f_49, ef_49⟩ : ∃ g : Nat → Int32, g = upd fpm (Int32.toNatClampNeg (nI kn)) (nI j_45) := ⟨_, rfl⟩
          rw [← ef_49] at hP hD
          have ef_49 : f_49 = upd fpm kn (nI j_45) := by rw [ef_49, nI_clamp (by omega)]
          have hP : va_P (dC, dI) vwCl [(h0, .inr (8, [.ref l5, .ref l3, .ref l6, .ref l7, .int (nI kn), .ref l4, .ref l1, .ref l2, .ref rw0, .ref rw1, .ref rw2, .int rm0, w12, w13, w14, w15, w16, w17, w18, w19, w20, w21, w22, w23, w24, w25, w26, w27, w28, w29, w30, w31, w32, w33, w34])), (l5, .inl (kl5, 30, .inl f_48)), (l3, .inl (kl3, 10, .inl f_49)), (l1, .inl (kl1, 10, .inl fll)), (l2, .inl (kl2, 10, .inl fmq)), (l4, .inl (kl4, 100, .inl fln)), (l6, .inl (kl6, 10, .inl fma)), (l7, .inl (kl7, 10, .inl fib)), (rw0, .inl (krw0, 40, .inl frw)), (rw1, .inl (krw1, 4, .inl fat)), (rw2, .inl (krw2, 4, .inl fen))] H := hP
          have hD : va_D A [(h0, .inr (8, [.ref l5, .ref l3, .ref l6, .ref l7, .int (nI kn), .ref l4, .ref l1, .ref l2, .ref rw0, .ref rw1, .ref rw2, .int rm0, w12, w13, w14, w15, w16, w17, w18, w19, w20, w21, w22, w23, w24, w25, w26, w27, w28, w29, w30, w31, w32, w33, w34])), (l5, .inl (kl5, 30, .inl f_48)), (l3, .inl (kl3, 10, .inl f_49)), (l1, .inl (kl1, 10, .inl fll)), (l2, .inl (kl2, 10, .inl fmq)), (l4, .inl (kl4, 100, .inl fln)), (l6, .inl (kl6, 10, .inl fma)), (l7, .inl (kl7, 10, .inl fib)), (rw0, .inl (krw0, 40, .inl frw)), (rw1, .inl (krw1, 4, .inl fat)), (rw2, .inl (krw2, 4, .inl fen))] := hD
          refine lv_aload_n hx hb dX9_kind_149 rfl (lv_at hl 1 rfl) ?_
          refine va_get (D := (dC, dI)) (ci := 8) (v := .ref l6) (C := RX9) (T := TX9) (N := 35) hx hb hts inB_9 hown hK hP 0 rfl rfl 2 (by decide) (hts _ mw_3_184) (fun _ h9 => h9) rfl dX9_kind_150 ?_
          refine lv_aload_n hx hb dX9_kind_153 rfl (lv_at hl 1 rfl) ?_
          refine va_get (D := (dC, dI)) (ci := 8) (v := .int (nI kn)) (C := RX9) (T := TX9) (N := 35) hx hb hts inB_9 hown hK hP 0 rfl rfl 4 (by decide) (hts _ mw_3_186) (fun _ h9 => h9) rfl dX9_kind_154 ?_
          refine lv_iconst (v := 0) hx hb dX9_kind_157 (by decide) ?_
          refine va_iast hx hb hK hP hD hS 6 5 rfl rfl (show vp_in (nI kn) 10 from vp_in_nI (by omega) (by omega)) dX9_kind_158 (fun H locs hP hD hS => ?_)
          obtain ⟨f_50, ef_50⟩ : ∃ g : Nat → Int32, g = upd fma (Int32.toNatClampNeg (nI kn)) 0 := ⟨_, rfl⟩
          rw [← ef_50] at hP hD
          have ef_50 : f_50 = upd fma kn 0 := by rw [ef_50, nI_clamp (by omega)]
          have hP : va_P (dC, dI) vwCl [(h0, .inr (8, [.ref l5, .ref l3, .ref l6, .ref l7, .int (nI kn), .ref l4, .ref l1, .ref l2, .ref rw0, .ref rw1, .ref rw2, .int rm0, w12, w13, w14, w15, w16, w17, w18, w19, w20, w21, w22, w23, w24, w25, w26, w27, w28, w29, w30, w31, w32, w33, w34])), (l5, .inl (kl5, 30, .inl f_48)), (l3, .inl (kl3, 10, .inl f_49)), (l1, .inl (kl1, 10, .inl fll)), (l2, .inl (kl2, 10, .inl fmq)), (l4, .inl (kl4, 100, .inl fln)), (l6, .inl (kl6, 10, .inl f_50)), (l7, .inl (kl7, 10, .inl fib)), (rw0, .inl (krw0, 40, .inl frw)), (rw1, .inl (krw1, 4, .inl fat)), (rw2, .inl (krw2, 4, .inl fen))] H := hP
          have hD : va_D A [(h0, .inr (8, [.ref l5, .ref l3, .ref l6, .ref l7, .int (nI kn), .ref l4, .ref l1, .ref l2, .ref rw0, .ref rw1, .ref rw2, .int rm0, w12, w13, w14, w15, w16, w17, w18, w19, w20, w21, w22, w23, w24, w25, w26, w27, w28, w29, w30, w31, w32, w33, w34])), (l5, .inl (kl5, 30, .inl f_48)), (l3, .inl (kl3, 10, .inl f_49)), (l1, .inl (kl1, 10, .inl fll)), (l2, .inl (kl2, 10, .inl fmq)), (l4, .inl (kl4, 100, .inl fln)), (l6, .inl (kl6, 10, .inl f_50)), (l7, .inl (kl7, 10, .inl fib)), (rw0, .inl (krw0, 40, .inl frw)), (rw1, .inl (krw1, 4, .inl fat)), (rw2, .inl (krw2, 4, .inl fen))] := hD
          refine lv_aload_n hx hb dX9_kind_159 rfl (lv_at hl 1 rfl) ?_
          refine va_get (D := (dC, dI)) (ci := 8) (v := .ref l7) (C := RX9) (T := TX9) (N := 35) hx hb hts inB_9 hown hK hP 0 rfl rfl 3 (by decide) (hts _ mw_3_185) (fun _ h9 => h9) rfl dX9_kind_160 ?_
          refine lv_aload_n hx hb dX9_kind_163 rfl (lv_at hl 1 rfl) ?_
          refine va_get (D := (dC, dI)) (ci := 8) (v := .int (nI kn)) (C := RX9) (T := TX9) (N := 35) hx hb hts inB_9 hown hK hP 0 rfl rfl 4 (by decide) (hts _ mw_3_186) (fun _ h9 => h9) rfl dX9_kind_164 ?_
          refine lv_iconst (v := 0) hx hb dX9_kind_167 (by decide) ?_
          refine va_zast hx hb hK hP hD hS 7 6 rfl rfl (show vp_in (nI kn) 10 from vp_in_nI (by omega) (by omega)) dX9_kind_168 (fun H locs hP hD hS => ?_)
          obtain ⟨f_51, ef_51⟩ : ∃ g : Nat → Int32, g = upd fib (Int32.toNatClampNeg (nI kn)) (vp_nar .boolean 0) := ⟨_, rfl⟩
          rw [← ef_51] at hP hD
          have ef_51 : f_51 = upd fib kn (vp_nar .boolean 0) := by rw [ef_51, nI_clamp (by omega)]
          have hP : va_P (dC, dI) vwCl [(h0, .inr (8, [.ref l5, .ref l3, .ref l6, .ref l7, .int (nI kn), .ref l4, .ref l1, .ref l2, .ref rw0, .ref rw1, .ref rw2, .int rm0, w12, w13, w14, w15, w16, w17, w18, w19, w20, w21, w22, w23, w24, w25, w26, w27, w28, w29, w30, w31, w32, w33, w34])), (l5, .inl (kl5, 30, .inl f_48)), (l3, .inl (kl3, 10, .inl f_49)), (l1, .inl (kl1, 10, .inl fll)), (l2, .inl (kl2, 10, .inl fmq)), (l4, .inl (kl4, 100, .inl fln)), (l6, .inl (kl6, 10, .inl f_50)), (l7, .inl (kl7, 10, .inl f_51)), (rw0, .inl (krw0, 40, .inl frw)), (rw1, .inl (krw1, 4, .inl fat)), (rw2, .inl (krw2, 4, .inl fen))] H := hP
          have hD : va_D A [(h0, .inr (8, [.ref l5, .ref l3, .ref l6, .ref l7, .int (nI kn), .ref l4, .ref l1, .ref l2, .ref rw0, .ref rw1, .ref rw2, .int rm0, w12, w13, w14, w15, w16, w17, w18, w19, w20, w21, w22, w23, w24, w25, w26, w27, w28, w29, w30, w31, w32, w33, w34])), (l5, .inl (kl5, 30, .inl f_48)), (l3, .inl (kl3, 10, .inl f_49)), (l1, .inl (kl1, 10, .inl fll)), (l2, .inl (kl2, 10, .inl fmq)), (l4, .inl (kl4, 100, .inl fln)), (l6, .inl (kl6, 10, .inl f_50)), (l7, .inl (kl7, 10, .inl f_51)), (rw0, .inl (krw0, 40, .inl frw)), (rw1, .inl (krw1, 4, .inl fat)), (rw2, .inl (krw2, 4, .inl fen))] := hD
          refine lv_iconst (v := 0) hx hb dX9_kind_169 (by decide) ?_
          refine lv_istore (lv' := [(6, .int 0), (5, .int 1), (0, .ref h0), (1, .int (nI j_45)), (2, .int n2), (3, .int n3), (4, .int n4)]) hx hb dX9_kind_170 hl (by decide) rfl (fun ls hl => ?_)
          have hprk : PrOk f_48 kn j_45 := pr_3 ef_46 ef_47 ef_48 (by omega) (fun q => by omega) (fun q => by omega) (fun q => by omega)
          have hpp : ∀ i, i < 3 → f_48 (3 * kn + i) = par3 n2 n3 n4 i := p3_get ef_46 ef_47 ef_48
          have key_52 : ∀ (fu : Nat) (k : Nat) (fax : Nat → Int32), (k ≤ j_45) → (fax = upd fma kn (abv fma (par3 n2 n3 n4) k)) → j_45 - k < fu → ∀ (H : Heap) (locs : List Loc), va_P (dC, dI) vwCl [(h0, .inr (8, [.ref l5, .ref l3, .ref l6, .ref l7, .int (nI kn), .ref l4, .ref l1, .ref l2, .ref rw0, .ref rw1, .ref rw2, .int rm0, w12, w13, w14, w15, w16, w17, w18, w19, w20, w21, w22, w23, w24, w25, w26, w27, w28, w29, w30, w31, w32, w33, w34])), (l5, .inl (kl5, 30, .inl f_48)), (l3, .inl (kl3, 10, .inl f_49)), (l1, .inl (kl1, 10, .inl fll)), (l2, .inl (kl2, 10, .inl fmq)), (l4, .inl (kl4, 100, .inl fln)), (l6, .inl (kl6, 10, .inl fax)), (l7, .inl (kl7, 10, .inl f_51)), (rw0, .inl (krw0, 40, .inl frw)), (rw1, .inl (krw1, 4, .inl fat)), (rw2, .inl (krw2, 4, .inl fen))] H → va_D A [(h0, .inr (8, [.ref l5, .ref l3, .ref l6, .ref l7, .int (nI kn), .ref l4, .ref l1, .ref l2, .ref rw0, .ref rw1, .ref rw2, .int rm0, w12, w13, w14, w15, w16, w17, w18, w19, w20, w21, w22, w23, w24, w25, w26, w27, w28, w29, w30, w31, w32, w33, w34])), (l5, .inl (kl5, 30, .inl f_48)), (l3, .inl (kl3, 10, .inl f_49)), (l1, .inl (kl1, 10, .inl fll)), (l2, .inl (kl2, 10, .inl fmq)), (l4, .inl (kl4, 100, .inl fln)), (l6, .inl (kl6, 10, .inl fax)), (l7, .inl (kl7, 10, .inl f_51)), (rw0, .inl (krw0, 40, .inl frw)), (rw1, .inl (krw1, 4, .inl fat)), (rw2, .inl (krw2, 4, .inl fen))] → va_S A s.heap H locs → ∀ (ls : Array Slot), lv_has ls 8 [(6, .int (nI k)), (5, .int 1), (0, .ref h0), (1, .int (nI j_45)), (2, .int n2), (3, .int n3), (4, .int n4)] → W p l e (headSpec (wq yX9_kind cX9_kind 8 (some .int)) ({ frames := 3, cells := 0, slots := 0, locals := 71 })).room s m (([.ref h0, .int (nI j_45), .int n2, .int n3, .int n4] : List Value)).toArray below meth c H locs 0 0 (MQ below (va_Qi (fun (r : Int32) (_ : Unit) => r = F_kind kn (nI j_45) n2 n3 n4) (fun _ t => ∃ (kn2 : Nat) (fpr2 : Nat → Int32) (fpm2 : Nat → Int32) (fma2 : Nat → Int32) (fib2 : Nat → Int32) (frw2 : Nat → Int32) (fat2 : Nat → Int32) (fen2 : Nat → Int32) (fll2 : Nat → Int32) (fmq2 : Nat → Int32) (fln2 : Nat → Int32) (rm2 : Int32), (kn2 = K_next kn (nI j_45) n2 n3 n4) ∧ (fib2 = KB_next kn fib (nI j_45) n2 n3 n4) ∧ (fma2 = KA_next kn fma (nI j_45) n2 n3 n4) ∧ (KmX kn fll fln fmq fll2 fln2 fmq2 (nI j_45) n2 n3 n4) ∧ (kn2 ≤ 10) ∧ (BdOk 10 10 fll2) ∧ (LnOk fll2 fln2 kn2) ∧ (BdOk 4 10 fat2) ∧ (BdOk 4 10 fen2) ∧ va_P (dC, dI) vwCl [(h0, .inr (8, [.ref l5, .ref l3, .ref l6, .ref l7, .int (nI kn2), .ref l4, .ref l1, .ref l2, .ref rw0, .ref rw1, .ref rw2, .int rm2, w12, w13, w14, w15, w16, w17, w18, w19, w20, w21, w22, w23, w24, w25, w26, w27, w28, w29, w30, w31, w32, w33, w34])), (l5, .inl (kl5, 30, .inl fpr2)), (l3, .inl (kl3, 10, .inl fpm2)), (l1, .inl (kl1, 10, .inl fll2)), (l2, .inl (kl2, 10, .inl fmq2)), (l4, .inl (kl4, 100, .inl fln2)), (l6, .inl (kl6, 10, .inl fma2)), (l7, .inl (kl7, 10, .inl fib2)), (rw0, .inl (krw0, 40, .inl frw2)), (rw1, .inl (krw1, 4, .inl fat2)), (rw2, .inl (krw2, 4, .inl fen2))] t.heap ∧ va_K (dC, dI) vwCl [(kl5, .int), (kl3, .int), (kl1, .int), (kl2, .int), (kl4, .int), (kl6, .int), (kl7, .boolean), (krw0, .int), (krw1, .int), (krw2, .int)] t ∧ va_D A [(h0, .inr (8, [.ref l5, .ref l3, .ref l6, .ref l7, .int (nI kn2), .ref l4, .ref l1, .ref l2, .ref rw0, .ref rw1, .ref rw2, .int rm2, w12, w13, w14, w15, w16, w17, w18, w19, w20, w21, w22, w23, w24, w25, w26, w27, w28, w29, w30, w31, w32, w33, w34])), (l5, .inl (kl5, 30, .inl fpr2)), (l3, .inl (kl3, 10, .inl fpm2)), (l1, .inl (kl1, 10, .inl fll2)), (l2, .inl (kl2, 10, .inl fmq2)), (l4, .inl (kl4, 100, .inl fln2)), (l6, .inl (kl6, 10, .inl fma2)), (l7, .inl (kl7, 10, .inl fib2)), (rw0, .inl (krw0, 40, .inl frw2)), (rw1, .inl (krw1, 4, .inl fat2)), (rw2, .inl (krw2, 4, .inl fen2))]) A) (([.ref h0, .int (nI j_45), .int n2, .int n3, .int n4] : List Value)).toArray s 0 0 A) (F0 m 172 ls []) := by
            intro fu
            induction fu with
            | zero => intro k fax hk hax hme; exact absurd hme (Nat.not_lt_zero _)
            | succ fu ih_53 =>
              intro k fax hk hax hme H locs hP hD hS ls hl
              refine lv_iload hx hb dX9_kind_172 (lv_at hl 0 rfl) ?_
              refine lv_iload_n hx hb dX9_kind_174 rfl (lv_at hl 3 rfl) ?_
              refine lv_icmp_ge (tgt := 224) hx hb dX9_kind_175 (by decide) (fun c_54 => ?_) (fun c_54 => ?_)
              · have b_55 := gx_ge (X := ((k : Nat) : Int)) (C := ((j_45 : Nat) : Int)) (nI_toInt (by omega)) (nI_toInt (by omega)) c_54
                refine lv_aload_n hx hb dX9_kind_224 rfl (lv_at hl 2 rfl) ?_
                refine lv_aload_n hx hb dX9_kind_225 rfl (lv_at hl 2 rfl) ?_
                refine va_get (D := (dC, dI)) (ci := 8) (v := .int (nI kn)) (C := RX9) (T := TX9) (N := 35) hx hb hts inB_9 hown hK hP 0 rfl rfl 4 (by decide) (hts _ mw_3_186) (fun _ h9 => h9) rfl dX9_kind_226 ?_
                have hPc := hP.sub (ws' := [(h0, .inr (8, [.ref l5, .ref l3, .ref l6, .ref l7, .int (nI kn), .ref l4, .ref l1, .ref l2, .ref rw0, .ref rw1, .ref rw2, .int rm0, w12, w13, w14, w15, w16, w17, w18, w19, w20, w21, w22, w23, w24, w25, w26, w27, w28, w29, w30, w31, w32, w33, w34])), (l5, .inl (kl5, 30, .inl f_48)), (l3, .inl (kl3, 10, .inl f_49)), (l1, .inl (kl1, 10, .inl fll)), (l2, .inl (kl2, 10, .inl fmq)), (l4, .inl (kl4, 100, .inl fln)), (rw0, .inl (krw0, 40, .inl frw)), (rw1, .inl (krw1, 4, .inl fat)), (rw2, .inl (krw2, 4, .inl fen))]) [0, 1, 2, 3, 4, 5, 8, 9, 10] rfl
                have hDc := hD.sub (ws' := [(h0, .inr (8, [.ref l5, .ref l3, .ref l6, .ref l7, .int (nI kn), .ref l4, .ref l1, .ref l2, .ref rw0, .ref rw1, .ref rw2, .int rm0, w12, w13, w14, w15, w16, w17, w18, w19, w20, w21, w22, w23, w24, w25, w26, w27, w28, w29, w30, w31, w32, w33, w34])), (l5, .inl (kl5, 30, .inl f_48)), (l3, .inl (kl3, 10, .inl f_49)), (l1, .inl (kl1, 10, .inl fll)), (l2, .inl (kl2, 10, .inl fmq)), (l4, .inl (kl4, 100, .inl fln)), (rw0, .inl (krw0, 40, .inl frw)), (rw1, .inl (krw1, 4, .inl fat)), (rw2, .inl (krw2, 4, .inl fen))]) [0, 1, 2, 3, 4, 5, 8, 9, 10] (by decide) rfl
                have hKc := hK.sub (tys' := [(kl5, .int), (kl3, .int), (kl1, .int), (kl2, .int), (kl4, .int), (krw0, .int), (krw1, .int), (krw2, .int)]) [0, 1, 2, 3, 4, 7, 8, 9] rfl
                have hFc := va_free (wc := [(h0, .inr (8, [.ref l5, .ref l3, .ref l6, .ref l7, .int (nI kn), .ref l4, .ref l1, .ref l2, .ref rw0, .ref rw1, .ref rw2, .int rm0, w12, w13, w14, w15, w16, w17, w18, w19, w20, w21, w22, w23, w24, w25, w26, w27, w28, w29, w30, w31, w32, w33, w34])), (l5, .inl (kl5, 30, .inl f_48)), (l3, .inl (kl3, 10, .inl f_49)), (l1, .inl (kl1, 10, .inl fll)), (l2, .inl (kl2, 10, .inl fmq)), (l4, .inl (kl4, 100, .inl fln)), (rw0, .inl (krw0, 40, .inl frw)), (rw1, .inl (krw1, 4, .inl fat)), (rw2, .inl (krw2, 4, .inl fen))]) hD hS hA [0, 1, 2, 3, 4, 5, 8, 9, 10] rfl
                refine va_callv (va_runV (As := [.int (nI kn)]) (rest := []) ⟨hx, hb, hml, hown, hts⟩ (m_layLine l dC dI H.size h0 l5 l3 (.ref l6) (.ref l7) (.int (nI kn)) l4 l1 l2 rw0 rw1 rw2 rm0 (w12) (w13) (w14) (w15) (w16) (w17) (w18) (w19) (w20) (w21) (w22) (w23) (w24) (w25) (w26) (w27) (w28) (w29) (w30) (w31) (w32) (w33) (w34) kl5 f_48 kl3 f_49 kl1 fll kl2 fmq kl4 fln krw0 frw krw1 fat krw2 fen kn j_45 (by omega) (by rw [ef_49]; exact pk_us) (by omega) hprk hll hln hfat hfen) (cwV 1 hts (gV mw_4_61 mw_4_63 mw_0_16 mw_1_9 mw_4_64) rfl rfl rfl (by decide +kernel) ⟨Nat.le_of_ble_eq_true rfl, Nat.le_of_ble_eq_true rfl⟩) ⟨pcW_blind, va_recv hKc hPc (ci := 8) (q0 := 0) rfl rfl, pcW_at hPc hKc hDc hN⟩ rfl rfl hl.1 rfl (lv_room (Nat.le_of_ble_eq_true rfl)) dX9_kind_229 ⟨Nat.le_of_ble_eq_true rfl, Nat.le_of_ble_eq_true rfl⟩) hS (fun q _ h => hFc q h) hFc (fun u t H1 locs ht hvm hw_56 hB hz1 hk1 hS => ?_)
                obtain ⟨f_57, f_58, f_59, f_60, f_61, f_62, z_63, p_64, p_65, p_66, p_67, p_68, hP1, hK1, hD1⟩ := hB
                rw [ht] at hP1
                have hK1 := va_K.moved hvm.symm hK1
                obtain ⟨hP, hD⟩ := va_join (wr := [(l6, .inl (kl6, 10, .inl fax)), (l7, .inl (kl7, 10, .inl f_51))]) (w1 := [(h0, .inr (8, [.ref l5, .ref l3, .ref l6, .ref l7, .int (nI kn), .ref l4, .ref l1, .ref l2, .ref rw0, .ref rw1, .ref rw2, .int z_63, w12, w13, w14, w15, w16, w17, w18, w19, w20, w21, w22, w23, w24, w25, w26, w27, w28, w29, w30, w31, w32, w33, w34])), (l5, .inl (kl5, 30, .inl f_48)), (l3, .inl (kl3, 10, .inl f_49)), (l1, .inl (kl1, 10, .inl f_60)), (l2, .inl (kl2, 10, .inl f_61)), (l4, .inl (kl4, 100, .inl f_62)), (rw0, .inl (krw0, 40, .inl f_57)), (rw1, .inl (krw1, 4, .inl f_58)), (rw2, .inl (krw2, 4, .inl f_59))]) hP hD [0, 1, 2, 3, 4, 5, 8, 9, 10] [6, 7] rfl rfl (by decide) (by decide) hk1 hFc hP1 hD1
                have hK := (hK.sub (tys' := [(kl6, .int), (kl7, .boolean)]) [5, 6] rfl).app hK1
                clear hz1 hk1 hPc hDc hKc hFc
                generalize H1 = H at hP hS ⊢
                have hK : va_K (dC, dI) vwCl [(kl6, .int), (kl7, .boolean), (kl5, .int), (kl3, .int), (kl1, .int), (kl2, .int), (kl4, .int), (krw0, .int), (krw1, .int), (krw2, .int)] s := hK
                have hP : va_P (dC, dI) vwCl [(l6, .inl (kl6, 10, .inl fax)), (l7, .inl (kl7, 10, .inl f_51)), (h0, .inr (8, [.ref l5, .ref l3, .ref l6, .ref l7, .int (nI kn), .ref l4, .ref l1, .ref l2, .ref rw0, .ref rw1, .ref rw2, .int z_63, w12, w13, w14, w15, w16, w17, w18, w19, w20, w21, w22, w23, w24, w25, w26, w27, w28, w29, w30, w31, w32, w33, w34])), (l5, .inl (kl5, 30, .inl f_48)), (l3, .inl (kl3, 10, .inl f_49)), (l1, .inl (kl1, 10, .inl f_60)), (l2, .inl (kl2, 10, .inl f_61)), (l4, .inl (kl4, 100, .inl f_62)), (rw0, .inl (krw0, 40, .inl f_57)), (rw1, .inl (krw1, 4, .inl f_58)), (rw2, .inl (krw2, 4, .inl f_59))] H := hP
                have hD : va_D A [(l6, .inl (kl6, 10, .inl fax)), (l7, .inl (kl7, 10, .inl f_51)), (h0, .inr (8, [.ref l5, .ref l3, .ref l6, .ref l7, .int (nI kn), .ref l4, .ref l1, .ref l2, .ref rw0, .ref rw1, .ref rw2, .int z_63, w12, w13, w14, w15, w16, w17, w18, w19, w20, w21, w22, w23, w24, w25, w26, w27, w28, w29, w30, w31, w32, w33, w34])), (l5, .inl (kl5, 30, .inl f_48)), (l3, .inl (kl3, 10, .inl f_49)), (l1, .inl (kl1, 10, .inl f_60)), (l2, .inl (kl2, 10, .inl f_61)), (l4, .inl (kl4, 100, .inl f_62)), (rw0, .inl (krw0, 40, .inl f_57)), (rw1, .inl (krw1, 4, .inl f_58)), (rw2, .inl (krw2, 4, .inl f_59))] := hD
                refine lv_aload_n hx hb dX9_kind_232 rfl (lv_at hl 2 rfl) ?_
                refine lv_dup hx hb dX9_kind_233 rfl ?_
                refine va_get (D := (dC, dI)) (ci := 8) (v := .int (nI kn)) (C := RX9) (T := TX9) (N := 35) hx hb hts inB_9 hown hK hP 2 rfl rfl 4 (by decide) (hts _ mw_3_186) (fun _ h9 => h9) rfl dX9_kind_234 ?_
                refine lv_iconst (v := 1) hx hb dX9_kind_237 (by decide) ?_
                refine lv_iadd hx hb dX9_kind_238 ?_
                refine hx_top (y := (nI (kn + 1))) (nI_add kn 1) ?_
                refine va_put (D := (dC, dI)) (ci := 8) (v := .int (nI (kn + 1))) (ty := .int) (C := RX9) (T := TX9) (N := 35) hx hb hts inB_9 tyX9 tyX9_ok nmX9 hown hK hP hD hS 2 rfl rfl 4 (by decide) (hts _ mw_3_186) (fun _ h9 => h9) rfl (by decide +kernel) rfl rfl (Nat.le_of_ble_eq_true rfl) dX9_kind_239 (fun H locs hP hD hS => ?_)
                have hP : va_P (dC, dI) vwCl [(l6, .inl (kl6, 10, .inl fax)), (l7, .inl (kl7, 10, .inl f_51)), (h0, .inr (8, [.ref l5, .ref l3, .ref l6, .ref l7, .int (nI (kn + 1)), .ref l4, .ref l1, .ref l2, .ref rw0, .ref rw1, .ref rw2, .int z_63, w12, w13, w14, w15, w16, w17, w18, w19, w20, w21, w22, w23, w24, w25, w26, w27, w28, w29, w30, w31, w32, w33, w34])), (l5, .inl (kl5, 30, .inl f_48)), (l3, .inl (kl3, 10, .inl f_49)), (l1, .inl (kl1, 10, .inl f_60)), (l2, .inl (kl2, 10, .inl f_61)), (l4, .inl (kl4, 100, .inl f_62)), (rw0, .inl (krw0, 40, .inl f_57)), (rw1, .inl (krw1, 4, .inl f_58)), (rw2, .inl (krw2, 4, .inl f_59))] H := hP
                have hD : va_D A [(l6, .inl (kl6, 10, .inl fax)), (l7, .inl (kl7, 10, .inl f_51)), (h0, .inr (8, [.ref l5, .ref l3, .ref l6, .ref l7, .int (nI (kn + 1)), .ref l4, .ref l1, .ref l2, .ref rw0, .ref rw1, .ref rw2, .int z_63, w12, w13, w14, w15, w16, w17, w18, w19, w20, w21, w22, w23, w24, w25, w26, w27, w28, w29, w30, w31, w32, w33, w34])), (l5, .inl (kl5, 30, .inl f_48)), (l3, .inl (kl3, 10, .inl f_49)), (l1, .inl (kl1, 10, .inl f_60)), (l2, .inl (kl2, 10, .inl f_61)), (l4, .inl (kl4, 100, .inl f_62)), (rw0, .inl (krw0, 40, .inl f_57)), (rw1, .inl (krw1, 4, .inl f_58)), (rw2, .inl (krw2, 4, .inl f_59))] := hD
                refine lv_aload_n hx hb dX9_kind_242 rfl (lv_at hl 2 rfl) ?_
                refine va_get (D := (dC, dI)) (ci := 8) (v := .int (nI (kn + 1))) (C := RX9) (T := TX9) (N := 35) hx hb hts inB_9 hown hK hP 2 rfl rfl 4 (by decide) (hts _ mw_3_186) (fun _ h9 => h9) rfl dX9_kind_243 ?_
                refine lv_iconst (v := 1) hx hb dX9_kind_246 (by decide) ?_
                refine lv_isub hx hb dX9_kind_247 ?_
                refine hx_top (y := (nI ((kn + 1) - 1))) (pk_sub (a := (kn + 1)) (b := 1) (by omega)) ?_
                have hF9 : nI kn = F_kind kn (nI j_45) n2 n3 n4 := (by (unfold F_kind; repeat' split) <;> first | rfl | (exfalso; omega))
                have hP9 := hP.sub (ws' := [(h0, .inr (8, [.ref l5, .ref l3, .ref l6, .ref l7, .int (nI (kn + 1)), .ref l4, .ref l1, .ref l2, .ref rw0, .ref rw1, .ref rw2, .int z_63, w12, w13, w14, w15, w16, w17, w18, w19, w20, w21, w22, w23, w24, w25, w26, w27, w28, w29, w30, w31, w32, w33, w34])), (l5, .inl (kl5, 30, .inl f_48)), (l3, .inl (kl3, 10, .inl f_49)), (l1, .inl (kl1, 10, .inl f_60)), (l2, .inl (kl2, 10, .inl f_61)), (l4, .inl (kl4, 100, .inl f_62)), (l6, .inl (kl6, 10, .inl fax)), (l7, .inl (kl7, 10, .inl f_51)), (rw0, .inl (krw0, 40, .inl f_57)), (rw1, .inl (krw1, 4, .inl f_58)), (rw2, .inl (krw2, 4, .inl f_59))]) [2, 3, 4, 5, 6, 7, 0, 1, 8, 9, 10] rfl
                have hD9 := hD.sub (ws' := [(h0, .inr (8, [.ref l5, .ref l3, .ref l6, .ref l7, .int (nI (kn + 1)), .ref l4, .ref l1, .ref l2, .ref rw0, .ref rw1, .ref rw2, .int z_63, w12, w13, w14, w15, w16, w17, w18, w19, w20, w21, w22, w23, w24, w25, w26, w27, w28, w29, w30, w31, w32, w33, w34])), (l5, .inl (kl5, 30, .inl f_48)), (l3, .inl (kl3, 10, .inl f_49)), (l1, .inl (kl1, 10, .inl f_60)), (l2, .inl (kl2, 10, .inl f_61)), (l4, .inl (kl4, 100, .inl f_62)), (l6, .inl (kl6, 10, .inl fax)), (l7, .inl (kl7, 10, .inl f_51)), (rw0, .inl (krw0, 40, .inl f_57)), (rw1, .inl (krw1, 4, .inl f_58)), (rw2, .inl (krw2, 4, .inl f_59))]) [2, 3, 4, 5, 6, 7, 0, 1, 8, 9, 10] (by decide) rfl
                have hK9 := hK.sub (tys' := [(kl5, .int), (kl3, .int), (kl1, .int), (kl2, .int), (kl4, .int), (kl6, .int), (kl7, .boolean), (krw0, .int), (krw1, .int), (krw2, .int)]) [2, 3, 4, 5, 6, 0, 1, 7, 8, 9] rfl
                exact W.iret (v := (nI ((kn + 1) - 1))) hx hb hr (fun t ht hW => ⟨⟨(nI ((kn + 1) - 1)), (), rfl, hF9, (kn + 1), f_48, f_49, fax, f_51, f_57, f_58, f_59, f_60, f_61, f_62, z_63, (K_yes hF9 (by omega)), (KB_yes hF9 (by omega) ef_51), (KA_yes (m := j_45) hF9 (by omega) (nI_clamp (by omega)) (by rw [hax, show k = j_45 from (by omega)])), (km_yes (m := j_45) hF9 (by omega) (nI_clamp (by omega)) (km_p hpp (by omega) p_68)), (by omega), p_64, p_65, p_66, p_67, by rw [ht]; exact hP9, va_K.moved hW.alike hK9, hD9⟩, hS.F ht⟩) hS.2.2 dX9_kind_248
              · have b_55 := gn_ge (X := ((k : Nat) : Int)) (C := ((j_45 : Nat) : Int)) (nI_toInt (by omega)) (nI_toInt (by omega)) c_54
                refine lv_aload_n hx hb dX9_kind_178 rfl (lv_at hl 2 rfl) ?_
                refine va_get (D := (dC, dI)) (ci := 8) (v := .ref l5) (C := RX9) (T := TX9) (N := 35) hx hb hts inB_9 hown hK hP 0 rfl rfl 0 (by decide) (hts _ mw_3_182) (fun _ h9 => h9) rfl dX9_kind_179 ?_
                refine lv_iconst (v := 3) hx hb dX9_kind_182 (by decide) ?_
                refine lv_aload_n hx hb dX9_kind_183 rfl (lv_at hl 2 rfl) ?_
                refine va_get (D := (dC, dI)) (ci := 8) (v := .int (nI kn)) (C := RX9) (T := TX9) (N := 35) hx hb hts inB_9 hown hK hP 0 rfl rfl 4 (by decide) (hts _ mw_3_186) (fun _ h9 => h9) rfl dX9_kind_184 ?_
                refine lv_imul hx hb dX9_kind_187 ?_
                refine hx_top (y := (nI (3 * kn))) (pk_mul 3 kn) ?_
                refine lv_iload hx hb dX9_kind_188 (lv_at hl 0 rfl) ?_
                refine lv_iadd hx hb dX9_kind_190 ?_
                refine hx_top (y := (nI ((3 * kn) + k))) (nI_add (3 * kn) k) ?_
                refine va_iald hx hb hK hP 1 0 rfl rfl (show vp_in (nI ((3 * kn) + k)) 30 from vp_in_nI (by omega) (by omega)) dX9_kind_191 ?_
                refine hx_top (y := (f_48 ((3 * kn) + k))) (congrArg _ (nI_clamp (by omega))) ?_
                obtain ⟨n_69, hn_69, en_69⟩ := hprk k (by omega)
                refine hx_top (y := (nI n_69)) en_69 ?_
                refine lv_istore (lv' := [(7, .int (nI n_69)), (6, .int (nI k)), (5, .int 1), (0, .ref h0), (1, .int (nI j_45)), (2, .int n2), (3, .int n3), (4, .int n4)]) hx hb dX9_kind_192 hl (by decide) rfl (fun ls hl => ?_)
                refine lv_aload_n hx hb dX9_kind_194 rfl (lv_at hl 3 rfl) ?_
                refine va_get (D := (dC, dI)) (ci := 8) (v := .ref l6) (C := RX9) (T := TX9) (N := 35) hx hb hts inB_9 hown hK hP 0 rfl rfl 2 (by decide) (hts _ mw_3_184) (fun _ h9 => h9) rfl dX9_kind_195 ?_
                refine lv_aload_n hx hb dX9_kind_198 rfl (lv_at hl 3 rfl) ?_
                refine va_get (D := (dC, dI)) (ci := 8) (v := .int (nI kn)) (C := RX9) (T := TX9) (N := 35) hx hb hts inB_9 hown hK hP 0 rfl rfl 4 (by decide) (hts _ mw_3_186) (fun _ h9 => h9) rfl dX9_kind_199 ?_
                refine lv_dup2_11 hx hb dX9_kind_202 rfl rfl ?_
                refine va_iald hx hb hK hP 6 5 rfl rfl (show vp_in (nI kn) 10 from vp_in_nI (by omega) (by omega)) dX9_kind_203 ?_
                refine hx_top (y := (fax kn)) (congrArg _ (nI_clamp (by omega))) ?_
                refine lv_aload_n hx hb dX9_kind_204 rfl (lv_at hl 3 rfl) ?_
                refine va_get (D := (dC, dI)) (ci := 8) (v := .ref l6) (C := RX9) (T := TX9) (N := 35) hx hb hts inB_9 hown hK hP 0 rfl rfl 2 (by decide) (hts _ mw_3_184) (fun _ h9 => h9) rfl dX9_kind_205 ?_
                refine lv_iload hx hb dX9_kind_208 (lv_at hl 0 rfl) ?_
                refine va_iald hx hb hK hP 6 5 rfl rfl (show vp_in (nI n_69) 10 from vp_in_nI (by omega) (by omega)) dX9_kind_210 ?_
                refine hx_top (y := (fax n_69)) (congrArg _ (nI_clamp (by omega))) ?_
                refine lv_iconst (v := 1) hx hb dX9_kind_211 (by decide) ?_
                refine lv_iload hx hb dX9_kind_212 (lv_at hl 0 rfl) ?_
                refine lv_ishl hx hb dX9_kind_214 ?_
                refine lv_ior hx hb dX9_kind_215 ?_
                refine lv_ior hx hb dX9_kind_216 ?_
                refine va_iast hx hb hK hP hD hS 6 5 rfl rfl (show vp_in (nI kn) 10 from vp_in_nI (by omega) (by omega)) dX9_kind_217 (fun H locs hP hD hS => ?_)
                obtain ⟨f_70, ef_70⟩ : ∃ g : Nat → Int32, g = upd fax (Int32.toNatClampNeg (nI kn)) ((fax kn) ||| ((fax n_69) ||| (1 <<< ((nI n_69) &&& 31)))) := ⟨_, rfl⟩
                rw [← ef_70] at hP hD
                have ef_70 : f_70 = upd fax kn ((fax kn) ||| ((fax n_69) ||| (1 <<< ((nI n_69) &&& 31)))) := by rw [ef_70, nI_clamp (by omega)]
                have hP : va_P (dC, dI) vwCl [(h0, .inr (8, [.ref l5, .ref l3, .ref l6, .ref l7, .int (nI kn), .ref l4, .ref l1, .ref l2, .ref rw0, .ref rw1, .ref rw2, .int rm0, w12, w13, w14, w15, w16, w17, w18, w19, w20, w21, w22, w23, w24, w25, w26, w27, w28, w29, w30, w31, w32, w33, w34])), (l5, .inl (kl5, 30, .inl f_48)), (l3, .inl (kl3, 10, .inl f_49)), (l1, .inl (kl1, 10, .inl fll)), (l2, .inl (kl2, 10, .inl fmq)), (l4, .inl (kl4, 100, .inl fln)), (l6, .inl (kl6, 10, .inl f_70)), (l7, .inl (kl7, 10, .inl f_51)), (rw0, .inl (krw0, 40, .inl frw)), (rw1, .inl (krw1, 4, .inl fat)), (rw2, .inl (krw2, 4, .inl fen))] H := hP
                have hD : va_D A [(h0, .inr (8, [.ref l5, .ref l3, .ref l6, .ref l7, .int (nI kn), .ref l4, .ref l1, .ref l2, .ref rw0, .ref rw1, .ref rw2, .int rm0, w12, w13, w14, w15, w16, w17, w18, w19, w20, w21, w22, w23, w24, w25, w26, w27, w28, w29, w30, w31, w32, w33, w34])), (l5, .inl (kl5, 30, .inl f_48)), (l3, .inl (kl3, 10, .inl f_49)), (l1, .inl (kl1, 10, .inl fll)), (l2, .inl (kl2, 10, .inl fmq)), (l4, .inl (kl4, 100, .inl fln)), (l6, .inl (kl6, 10, .inl f_70)), (l7, .inl (kl7, 10, .inl f_51)), (rw0, .inl (krw0, 40, .inl frw)), (rw1, .inl (krw1, 4, .inl fat)), (rw2, .inl (krw2, 4, .inl fen))] := hD
                refine lv_iinc (v := (nI (k + 1))) (lv' := [(6, .int (nI (k + 1))), (7, .int (nI n_69)), (5, .int 1), (0, .ref h0), (1, .int (nI j_45)), (2, .int n2), (3, .int n3), (4, .int n4)]) hx hb dX9_kind_218 hl (k := 1) rfl (nI_add k 1) (by decide) rfl (fun ls hl => ?_)
                refine lv_goto (tgt := 172) hx hb dX9_kind_221 (by decide) ?_
                exact ih_53 (k + 1) f_70 (by omega) (ab_stepM hax ((hpp k (by omega)).symm.trans en_69) (by omega) (by omega) ef_70) (by omega) _ _ hP hD hS ls (lv_sub hl [0, 2, 3, 4, 5, 6, 7] rfl)
          exact key_52 ((j_45 - 0) + 1) 0 f_50 (by omega) ef_50 (Nat.lt_succ_self _) _ _ hP hD hS ls (lv_sub hl [0, 1, 2, 3, 4, 5, 6] rfl)
        · have b_44 := gn_ne (X := ((kn : Nat) : Int)) (C := 10) (nI_toInt (by omega)) (by decide) c_43
          refine lv_bipush (v := (-4)) hx hb dX9_kind_95 (by decide) ?_
          have hF9 : ((-4) : Int32) = F_kind kn n1 n2 n3 n4 := (by (unfold F_kind; repeat' split) <;> first | rfl | (exfalso; omega))
          have hP9 := hP.sub (ws' := [(h0, .inr (8, [.ref l5, .ref l3, .ref l6, .ref l7, .int (nI kn), .ref l4, .ref l1, .ref l2, .ref rw0, .ref rw1, .ref rw2, .int rm0, w12, w13, w14, w15, w16, w17, w18, w19, w20, w21, w22, w23, w24, w25, w26, w27, w28, w29, w30, w31, w32, w33, w34])), (l5, .inl (kl5, 30, .inl fpr)), (l3, .inl (kl3, 10, .inl fpm)), (l1, .inl (kl1, 10, .inl fll)), (l2, .inl (kl2, 10, .inl fmq)), (l4, .inl (kl4, 100, .inl fln)), (l6, .inl (kl6, 10, .inl fma)), (l7, .inl (kl7, 10, .inl fib)), (rw0, .inl (krw0, 40, .inl frw)), (rw1, .inl (krw1, 4, .inl fat)), (rw2, .inl (krw2, 4, .inl fen))]) [0, 1, 2, 3, 4, 5, 6, 7, 8, 9, 10] rfl
          have hD9 := hD.sub (ws' := [(h0, .inr (8, [.ref l5, .ref l3, .ref l6, .ref l7, .int (nI kn), .ref l4, .ref l1, .ref l2, .ref rw0, .ref rw1, .ref rw2, .int rm0, w12, w13, w14, w15, w16, w17, w18, w19, w20, w21, w22, w23, w24, w25, w26, w27, w28, w29, w30, w31, w32, w33, w34])), (l5, .inl (kl5, 30, .inl fpr)), (l3, .inl (kl3, 10, .inl fpm)), (l1, .inl (kl1, 10, .inl fll)), (l2, .inl (kl2, 10, .inl fmq)), (l4, .inl (kl4, 100, .inl fln)), (l6, .inl (kl6, 10, .inl fma)), (l7, .inl (kl7, 10, .inl fib)), (rw0, .inl (krw0, 40, .inl frw)), (rw1, .inl (krw1, 4, .inl fat)), (rw2, .inl (krw2, 4, .inl fen))]) [0, 1, 2, 3, 4, 5, 6, 7, 8, 9, 10] (by decide) rfl
          have hK9 := hK.sub (tys' := [(kl5, .int), (kl3, .int), (kl1, .int), (kl2, .int), (kl4, .int), (kl6, .int), (kl7, .boolean), (krw0, .int), (krw1, .int), (krw2, .int)]) [0, 1, 2, 3, 4, 5, 6, 7, 8, 9] rfl
          exact W.iret (v := (-4)) hx hb hr (fun t ht hW => ⟨⟨(-4), (), rfl, hF9, kn, fpr, fpm, fma, fib, frw, fat, fen, fll, fmq, fln, rm0, (K_no (v := (-4)) hF9 (by decide)), (KB_no (v := (-4)) hF9 (by decide)), (KA_no (v := (-4)) hF9 (by decide)), (km_no (v := (-4)) hF9 (by decide)), hkn, hll, hln, hfat, hfen, by rw [ht]; exact hP9, va_K.moved hW.alike hK9, hD9⟩, hS.F ht⟩) hS.2.2 dX9_kind_97
      · have b_40 := gn_lt (X := (Int32.toInt n1)) (C := 2) rfl (by decide) c_39
        refine lv_aload_n hx hb dX9_kind_18 rfl (lv_at hl 0 rfl) ?_
        refine lv_iload_n hx hb dX9_kind_19 rfl (lv_at hl 3 rfl) ?_
        have hPc := hP.sub (ws' := [(h0, .inr (8, [.ref l5, .ref l3, .ref l6, .ref l7, .int (nI kn), .ref l4, .ref l1, .ref l2, .ref rw0, .ref rw1, .ref rw2, .int rm0, w12, w13, w14, w15, w16, w17, w18, w19, w20, w21, w22, w23, w24, w25, w26, w27, w28, w29, w30, w31, w32, w33, w34]))]) [0] rfl
        have hDc := hD.sub (ws' := [(h0, .inr (8, [.ref l5, .ref l3, .ref l6, .ref l7, .int (nI kn), .ref l4, .ref l1, .ref l2, .ref rw0, .ref rw1, .ref rw2, .int rm0, w12, w13, w14, w15, w16, w17, w18, w19, w20, w21, w22, w23, w24, w25, w26, w27, w28, w29, w30, w31, w32, w33, w34]))]) [0] (by decide) rfl
        have hKc := hK.sub (tys' := []) [] rfl
        refine va_calli (va_runV (As := [.int n3]) (rest := []) ⟨hx, hb, hml, hown, hts⟩ (m_isKind l dC dI H.size h0 (.ref l5) (.ref l3) (.ref l6) (.ref l7) kn (.ref l4) (.ref l1) (.ref l2) (.ref rw0) (.ref rw1) (.ref rw2) (.int rm0) (w12) (w13) (w14) (w15) (w16) (w17) (w18) (w19) (w20) (w21) (w22) (w23) (w24) (w25) (w26) (w27) (w28) (w29) (w30) (w31) (w32) (w33) (w34) n3 hkn) (cwV 1 hts (gV mw_4_53 mw_4_55 mw_0_15 mw_1_9 mw_4_56) rfl rfl rfl (by decide +kernel) ⟨Nat.le_of_ble_eq_true rfl, Nat.le_of_ble_eq_true rfl⟩) ⟨pcW_blind, va_recv hKc hPc (ci := 8) (q0 := 0) rfl rfl, pcW_at hPc hKc hDc hN⟩ rfl rfl hl.1 rfl (lv_room (Nat.le_of_ble_eq_true rfl)) dX9_kind_20 ⟨Nat.le_of_ble_eq_true rfl, Nat.le_of_ble_eq_true rfl⟩) hS (fun q h1 h2 => absurd h2 (Nat.not_le.mpr h1)) (fun q h => hA q (Nat.le_trans hS.1 h)) (fun r_71 u t H1 locs ht hvm hw_71 hB hz1 hk1 hS => ?_)
        have hP := keepP hP hk1
        clear hz1 hk1 hB ht hvm hPc hDc hKc
        generalize H1 = H at hP hS ⊢
        rcases fx_bool hw_71 with ⟨rfl, b_72⟩ | ⟨rfl, b_72⟩
        · skip
          refine lv_if_eq (tgt := 61) hx hb dX9_kind_23 (by decide) (fun h => absurd h (by decide)) (fun _ => ?_)
          refine lv_iload_n hx hb dX9_kind_26 rfl (lv_at hl 3 rfl) ?_
          refine lv_iload_n hx hb dX9_kind_27 rfl (lv_at hl 2 rfl) ?_
          refine lv_icmp_eq (tgt := 61) hx hb dX9_kind_28 (by decide) (fun c_73 => ?_) (fun c_73 => ?_)
          · have b_74 := gx_eq (X := (Int32.toInt n3)) (C := (Int32.toInt n2)) rfl rfl c_73
            refine lv_iconst (v := 0) hx hb dX9_kind_61 (by decide) ?_
            refine lv_istore (lv' := [(5, .int 0), (0, .ref h0), (1, .int n1), (2, .int n2), (3, .int n3), (4, .int n4)]) hx hb dX9_kind_62 hl (by decide) rfl (fun ls hl => ?_)
            refine lv_iload hx hb dX9_kind_64 (lv_at hl 0 rfl) ?_
            refine lv_if_ne (tgt := 71) hx hb dX9_kind_66 (by decide) (fun h => absurd h (by decide)) (fun _ => ?_)
            refine lv_iconst (v := (-1)) hx hb dX9_kind_69 (by decide) ?_
            have hF9 : ((-1) : Int32) = F_kind kn n1 n2 n3 n4 := (by (unfold F_kind; repeat' split) <;> first | rfl | (exfalso; omega))
            have hP9 := hP.sub (ws' := [(h0, .inr (8, [.ref l5, .ref l3, .ref l6, .ref l7, .int (nI kn), .ref l4, .ref l1, .ref l2, .ref rw0, .ref rw1, .ref rw2, .int rm0, w12, w13, w14, w15, w16, w17, w18, w19, w20, w21, w22, w23, w24, w25, w26, w27, w28, w29, w30, w31, w32, w33, w34])), (l5, .inl (kl5, 30, .inl fpr)), (l3, .inl (kl3, 10, .inl fpm)), (l1, .inl (kl1, 10, .inl fll)), (l2, .inl (kl2, 10, .inl fmq)), (l4, .inl (kl4, 100, .inl fln)), (l6, .inl (kl6, 10, .inl fma)), (l7, .inl (kl7, 10, .inl fib)), (rw0, .inl (krw0, 40, .inl frw)), (rw1, .inl (krw1, 4, .inl fat)), (rw2, .inl (krw2, 4, .inl fen))]) [0, 1, 2, 3, 4, 5, 6, 7, 8, 9, 10] rfl
            have hD9 := hD.sub (ws' := [(h0, .inr (8, [.ref l5, .ref l3, .ref l6, .ref l7, .int (nI kn), .ref l4, .ref l1, .ref l2, .ref rw0, .ref rw1, .ref rw2, .int rm0, w12, w13, w14, w15, w16, w17, w18, w19, w20, w21, w22, w23, w24, w25, w26, w27, w28, w29, w30, w31, w32, w33, w34])), (l5, .inl (kl5, 30, .inl fpr)), (l3, .inl (kl3, 10, .inl fpm)), (l1, .inl (kl1, 10, .inl fll)), (l2, .inl (kl2, 10, .inl fmq)), (l4, .inl (kl4, 100, .inl fln)), (l6, .inl (kl6, 10, .inl fma)), (l7, .inl (kl7, 10, .inl fib)), (rw0, .inl (krw0, 40, .inl frw)), (rw1, .inl (krw1, 4, .inl fat)), (rw2, .inl (krw2, 4, .inl fen))]) [0, 1, 2, 3, 4, 5, 6, 7, 8, 9, 10] (by decide) rfl
            have hK9 := hK.sub (tys' := [(kl5, .int), (kl3, .int), (kl1, .int), (kl2, .int), (kl4, .int), (kl6, .int), (kl7, .boolean), (krw0, .int), (krw1, .int), (krw2, .int)]) [0, 1, 2, 3, 4, 5, 6, 7, 8, 9] rfl
            exact W.iret (v := (-1)) hx hb hr (fun t ht hW => ⟨⟨(-1), (), rfl, hF9, kn, fpr, fpm, fma, fib, frw, fat, fen, fll, fmq, fln, rm0, (K_no (v := (-1)) hF9 (by decide)), (KB_no (v := (-1)) hF9 (by decide)), (KA_no (v := (-1)) hF9 (by decide)), (km_no (v := (-1)) hF9 (by decide)), hkn, hll, hln, hfat, hfen, by rw [ht]; exact hP9, va_K.moved hW.alike hK9, hD9⟩, hS.F ht⟩) hS.2.2 dX9_kind_70
          · have b_74 := gn_eq (X := (Int32.toInt n3)) (C := (Int32.toInt n2)) rfl rfl c_73
            refine lv_iload_n hx hb dX9_kind_31 rfl (lv_at hl 1 rfl) ?_
            refine lv_iconst (v := 3) hx hb dX9_kind_32 (by decide) ?_
            refine lv_icmp_lt (tgt := 57) hx hb dX9_kind_33 (by decide) (fun c_75 => ?_) (fun c_75 => ?_)
            · have b_76 := gx_lt (X := (Int32.toInt n1)) (C := 3) rfl (by decide) c_75
              refine lv_iconst (v := 1) hx hb dX9_kind_57 (by decide) ?_
              refine lv_goto (tgt := 62) hx hb dX9_kind_58 (by decide) ?_
              refine lv_istore (lv' := [(5, .int 1), (0, .ref h0), (1, .int n1), (2, .int n2), (3, .int n3), (4, .int n4)]) hx hb dX9_kind_62 hl (by decide) rfl (fun ls hl => ?_)
              refine lv_iload hx hb dX9_kind_64 (lv_at hl 0 rfl) ?_
              refine lv_if_ne (tgt := 71) hx hb dX9_kind_66 (by decide) (fun _ => ?_) (fun h => absurd h (by decide))
              refine lv_iload_n hx hb dX9_kind_71 rfl (lv_at hl 2 rfl) ?_
              refine hx_top (y := 2) (fx_sing (C := 2) (by decide) (by omega)) ?_
              refine lv_i2l hx hb dX9_kind_72 rfl ?_
              refine lv_lconst (v := Int32.toInt64 0) hx hb dX9_kind_73 (by decide) ?_
              refine lv_ldc2 (v := Int32.toInt64 3) hx hb hown (show (Cond.constantLong RX9 100 (Int32.toInt64 3)).before _ s = true from (hts _ mw_4_60)) dX9_kind_74 ?_
              have hPc := hP.sub (ws' := []) [] rfl
              have hDc := hD.sub (ws' := []) [] (by decide) rfl
              have hKc := hK.sub (tys' := []) [] rfl
              refine va_calli (va_runS (As := [.long (Int32.toInt64 2), .long (Int32.toInt64 0), .long (Int32.toInt64 3)]) (rest := []) ⟨hx, hb, hml, hown, hts⟩ (m_in l dC dI H.size 2 0 3 0 3 (by decide) (by decide)) (va_cwS 3 hts (gS mw_4_57 mw_4_58 mw_1_9 mw_4_59) rfl rfl rfl (by decide +kernel) ⟨Nat.le_of_ble_eq_true rfl, Nat.le_of_ble_eq_true rfl⟩) ⟨pcW_blind, pcW_at hPc hKc hDc hN⟩ rfl rfl hl.1 rfl (lv_room (Nat.le_of_ble_eq_true rfl)) dX9_kind_77 ⟨Nat.le_of_ble_eq_true rfl, Nat.le_of_ble_eq_true rfl⟩) hS (fun q h1 h2 => absurd h2 (Nat.not_le.mpr h1)) (fun q h => hA q (Nat.le_trans hS.1 h)) (fun r_77 u t H1 locs ht hvm hw_77 hB hz1 hk1 hS => ?_)
              have hP := keepP hP hk1
              clear hz1 hk1 hB ht hvm hPc hDc hKc
              generalize H1 = H at hP hS ⊢
              obtain rfl : r_77 = 1 := hw_77.trans (if_pos (by decide))
              refine lv_if_ne (tgt := 86) hx hb dX9_kind_80 (by decide) (fun _ => ?_) (fun h => absurd h (by decide))
              refine lv_aload_n hx hb dX9_kind_86 rfl (lv_at hl 1 rfl) ?_
              refine va_get (D := (dC, dI)) (ci := 8) (v := .int (nI kn)) (C := RX9) (T := TX9) (N := 35) hx hb hts inB_9 hown hK hP 0 rfl rfl 4 (by decide) (hts _ mw_3_186) (fun _ h9 => h9) rfl dX9_kind_87 ?_
              refine lv_bipush (v := 10) hx hb dX9_kind_90 (by decide) ?_
              refine lv_icmp_ne (tgt := 98) hx hb dX9_kind_92 (by decide) (fun c_79 => ?_) (fun c_79 => ?_)
              · have b_80 := gx_ne (X := ((kn : Nat) : Int)) (C := 10) (nI_toInt (by omega)) (by decide) c_79
                obtain ⟨j_81, tj_81, ej_81⟩ := fx_nat (x := n1) (by omega)
                subst ej_81
                have yj_81 : Int32.toInt (nI j_81) = (j_81 : Int) := nI_toInt tj_81
                refine lv_aload_n hx hb dX9_kind_98 rfl (lv_at hl 1 rfl) ?_
                refine va_get (D := (dC, dI)) (ci := 8) (v := .ref l5) (C := RX9) (T := TX9) (N := 35) hx hb hts inB_9 hown hK hP 0 rfl rfl 0 (by decide) (hts _ mw_3_182) (fun _ h9 => h9) rfl dX9_kind_99 ?_
                refine lv_iconst (v := 3) hx hb dX9_kind_102 (by decide) ?_
                refine lv_aload_n hx hb dX9_kind_103 rfl (lv_at hl 1 rfl) ?_
                refine va_get (D := (dC, dI)) (ci := 8) (v := .int (nI kn)) (C := RX9) (T := TX9) (N := 35) hx hb hts inB_9 hown hK hP 0 rfl rfl 4 (by decide) (hts _ mw_3_186) (fun _ h9 => h9) rfl dX9_kind_104 ?_
                refine lv_imul hx hb dX9_kind_107 ?_
                refine hx_top (y := (nI (3 * kn))) (pk_mul 3 kn) ?_
                refine lv_iload_n hx hb dX9_kind_108 rfl (lv_at hl 3 rfl) ?_
                refine va_iast hx hb hK hP hD hS 1 0 rfl rfl (show vp_in (nI (3 * kn)) 30 from vp_in_nI (by omega) (by omega)) dX9_kind_109 (fun H locs hP hD hS => ?_)
                obtain ⟨f_82, ef_82⟩ : ∃ g : Nat → Int32, g = upd fpr (Int32.toNatClampNeg (nI (3 * kn))) n2 := ⟨_, rfl⟩
                rw [← ef_82] at hP hD
                have ef_82 : f_82 = upd fpr (3 * kn) n2 := by rw [ef_82, nI_clamp (by omega)]
                have hP : va_P (dC, dI) vwCl [(h0, .inr (8, [.ref l5, .ref l3, .ref l6, .ref l7, .int (nI kn), .ref l4, .ref l1, .ref l2, .ref rw0, .ref rw1, .ref rw2, .int rm0, w12, w13, w14, w15, w16, w17, w18, w19, w20, w21, w22, w23, w24, w25, w26, w27, w28, w29, w30, w31, w32, w33, w34])), (l5, .inl (kl5, 30, .inl f_82)), (l3, .inl (kl3, 10, .inl fpm)), (l1, .inl (kl1, 10, .inl fll)), (l2, .inl (kl2, 10, .inl fmq)), (l4, .inl (kl4, 100, .inl fln)), (l6, .inl (kl6, 10, .inl fma)), (l7, .inl (kl7, 10, .inl fib)), (rw0, .inl (krw0, 40, .inl frw)), (rw1, .inl (krw1, 4, .inl fat)), (rw2, .inl (krw2, 4, .inl fen))] H := hP
                have hD : va_D A [(h0, .inr (8, [.ref l5, .ref l3, .ref l6, .ref l7, .int (nI kn), .ref l4, .ref l1, .ref l2, .ref rw0, .ref rw1, .ref rw2, .int rm0, w12, w13, w14, w15, w16, w17, w18, w19, w20, w21, w22, w23, w24, w25, w26, w27, w28, w29, w30, w31, w32, w33, w34])), (l5, .inl (kl5, 30, .inl f_82)), (l3, .inl (kl3, 10, .inl fpm)), (l1, .inl (kl1, 10, .inl fll)), (l2, .inl (kl2, 10, .inl fmq)), (l4, .inl (kl4, 100, .inl fln)), (l6, .inl (kl6, 10, .inl fma)), (l7, .inl (kl7, 10, .inl fib)), (rw0, .inl (krw0, 40, .inl frw)), (rw1, .inl (krw1, 4, .inl fat)), (rw2, .inl (krw2, 4, .inl fen))] := hD
                refine lv_aload_n hx hb dX9_kind_110 rfl (lv_at hl 1 rfl) ?_
                refine va_get (D := (dC, dI)) (ci := 8) (v := .ref l5) (C := RX9) (T := TX9) (N := 35) hx hb hts inB_9 hown hK hP 0 rfl rfl 0 (by decide) (hts _ mw_3_182) (fun _ h9 => h9) rfl dX9_kind_111 ?_
                refine lv_iconst (v := 3) hx hb dX9_kind_114 (by decide) ?_
                refine lv_aload_n hx hb dX9_kind_115 rfl (lv_at hl 1 rfl) ?_
                refine va_get (D := (dC, dI)) (ci := 8) (v := .int (nI kn)) (C := RX9) (T := TX9) (N := 35) hx hb hts inB_9 hown hK hP 0 rfl rfl 4 (by decide) (hts _ mw_3_186) (fun _ h9 => h9) rfl dX9_kind_116 ?_
                refine lv_imul hx hb dX9_kind_119 ?_
                refine hx_top (y := (nI (3 * kn))) (pk_mul 3 kn) ?_
                refine lv_iconst (v := 1) hx hb dX9_kind_120 (by decide) ?_
                refine lv_iadd hx hb dX9_kind_121 ?_
                refine hx_top (y := (nI ((3 * kn) + 1))) (nI_add (3 * kn) 1) ?_
                refine lv_iload_n hx hb dX9_kind_122 rfl (lv_at hl 4 rfl) ?_
                refine va_iast hx hb hK hP hD hS 1 0 rfl rfl (show vp_in (nI ((3 * kn) + 1)) 30 from vp_in_nI (by omega) (by omega)) dX9_kind_123 (fun H locs hP hD hS => ?_)
                obtain ⟨f_83, ef_83⟩ : ∃ g : Nat → Int32, g = upd f_82 (Int32.toNatClampNeg (nI ((3 * kn) + 1))) n3 := ⟨_, rfl⟩
                rw [← ef_83] at hP hD
                have ef_83 : f_83 = upd f_82 ((3 * kn) + 1) n3 := by rw [ef_83, nI_clamp (by omega)]
                have hP : va_P (dC, dI) vwCl [(h0, .inr (8, [.ref l5, .ref l3, .ref l6, .ref l7, .int (nI kn), .ref l4, .ref l1, .ref l2, .ref rw0, .ref rw1, .ref rw2, .int rm0, w12, w13, w14, w15, w16, w17, w18, w19, w20, w21, w22, w23, w24, w25, w26, w27, w28, w29, w30, w31, w32, w33, w34])), (l5, .inl (kl5, 30, .inl f_83)), (l3, .inl (kl3, 10, .inl fpm)), (l1, .inl (kl1, 10, .inl fll)), (l2, .inl (kl2, 10, .inl fmq)), (l4, .inl (kl4, 100, .inl fln)), (l6, .inl (kl6, 10, .inl fma)), (l7, .inl (kl7, 10, .inl fib)), (rw0, .inl (krw0, 40, .inl frw)), (rw1, .inl (krw1, 4, .inl fat)), (rw2, .inl (krw2, 4, .inl fen))] H := hP
                have hD : va_D A [(h0, .inr (8, [.ref l5, .ref l3, .ref l6, .ref l7, .int (nI kn), .ref l4, .ref l1, .ref l2, .ref rw0, .ref rw1, .ref rw2, .int rm0, w12, w13, w14, w15, w16, w17, w18, w19, w20, w21, w22, w23, w24, w25, w26, w27, w28, w29, w30, w31, w32, w33, w34])), (l5, .inl (kl5, 30, .inl f_83)), (l3, .inl (kl3, 10, .inl fpm)), (l1, .inl (kl1, 10, .inl fll)), (l2, .inl (kl2, 10, .inl fmq)), (l4, .inl (kl4, 100, .inl fln)), (l6, .inl (kl6, 10, .inl fma)), (l7, .inl (kl7, 10, .inl fib)), (rw0, .inl (krw0, 40, .inl frw)), (rw1, .inl (krw1, 4, .inl fat)), (rw2, .inl (krw2, 4, .inl fen))] := hD
                refine lv_aload_n hx hb dX9_kind_124 rfl (lv_at hl 1 rfl) ?_
                refine va_get (D := (dC, dI)) (ci := 8) (v := .ref l5) (C := RX9) (T := TX9) (N := 35) hx hb hts inB_9 hown hK hP 0 rfl rfl 0 (by decide) (hts _ mw_3_182) (fun _ h9 => h9) rfl dX9_kind_125 ?_
                refine lv_iconst (v := 3) hx hb dX9_kind_128 (by decide) ?_
                refine lv_aload_n hx hb dX9_kind_129 rfl (lv_at hl 1 rfl) ?_
                refine va_get (D := (dC, dI)) (ci := 8) (v := .int (nI kn)) (C := RX9) (T := TX9) (N := 35) hx hb hts inB_9 hown hK hP 0 rfl rfl 4 (by decide) (hts _ mw_3_186) (fun _ h9 => h9) rfl dX9_kind_130 ?_
                refine lv_imul hx hb dX9_kind_133 ?_
                refine hx_top (y := (nI (3 * kn))) (pk_mul 3 kn) ?_
                refine lv_iconst (v := 2) hx hb dX9_kind_134 (by decide) ?_
                refine lv_iadd hx hb dX9_kind_135 ?_
                refine hx_top (y := (nI ((3 * kn) + 2))) (nI_add (3 * kn) 2) ?_
                refine lv_iload hx hb dX9_kind_136 (lv_at hl 5 rfl) ?_
                refine va_iast hx hb hK hP hD hS 1 0 rfl rfl (show vp_in (nI ((3 * kn) + 2)) 30 from vp_in_nI (by omega) (by omega)) dX9_kind_138 (fun H locs hP hD hS => ?_)
                obtain ⟨f_84, ef_84⟩ : ∃ g : Nat → Int32, g = upd f_83 (Int32.toNatClampNeg (nI ((3 * kn) + 2))) n4 := ⟨_, rfl⟩
                rw [← ef_84] at hP hD
                have ef_84 : f_84 = upd f_83 ((3 * kn) + 2) n4 := by rw [ef_84, nI_clamp (by omega)]
                have hP : va_P (dC, dI) vwCl [(h0, .inr (8, [.ref l5, .ref l3, .ref l6, .ref l7, .int (nI kn), .ref l4, .ref l1, .ref l2, .ref rw0, .ref rw1, .ref rw2, .int rm0, w12, w13, w14, w15, w16, w17, w18, w19, w20, w21, w22, w23, w24, w25, w26, w27, w28, w29, w30, w31, w32, w33, w34])), (l5, .inl (kl5, 30, .inl f_84)), (l3, .inl (kl3, 10, .inl fpm)), (l1, .inl (kl1, 10, .inl fll)), (l2, .inl (kl2, 10, .inl fmq)), (l4, .inl (kl4, 100, .inl fln)), (l6, .inl (kl6, 10, .inl fma)), (l7, .inl (kl7, 10, .inl fib)), (rw0, .inl (krw0, 40, .inl frw)), (rw1, .inl (krw1, 4, .inl fat)), (rw2, .inl (krw2, 4, .inl fen))] H := hP
                have hD : va_D A [(h0, .inr (8, [.ref l5, .ref l3, .ref l6, .ref l7, .int (nI kn), .ref l4, .ref l1, .ref l2, .ref rw0, .ref rw1, .ref rw2, .int rm0, w12, w13, w14, w15, w16, w17, w18, w19, w20, w21, w22, w23, w24, w25, w26, w27, w28, w29, w30, w31, w32, w33, w34])), (l5, .inl (kl5, 30, .inl f_84)), (l3, .inl (kl3, 10, .inl fpm)), (l1, .inl (kl1, 10, .inl fll)), (l2, .inl (kl2, 10, .inl fmq)), (l4, .inl (kl4, 100, .inl fln)), (l6, .inl (kl6, 10, .inl fma)), (l7, .inl (kl7, 10, .inl fib)), (rw0, .inl (krw0, 40, .inl frw)), (rw1, .inl (krw1, 4, .inl fat)), (rw2, .inl (krw2, 4, .inl fen))] := hD
                refine lv_aload_n hx hb dX9_kind_139 rfl (lv_at hl 1 rfl) ?_
                refine va_get (D := (dC, dI)) (ci := 8) (v := .ref l3) (C := RX9) (T := TX9) (N := 35) hx hb hts inB_9 hown hK hP 0 rfl rfl 1 (by decide) (hts _ mw_3_183) (fun _ h9 => h9) rfl dX9_kind_140 ?_
                refine lv_aload_n hx hb dX9_kind_143 rfl (lv_at hl 1 rfl) ?_
                refine va_get (D := (dC, dI)) (ci := 8) (v := .int (nI kn)) (C := RX9) (T := TX9) (N := 35) hx hb hts inB_9 hown hK hP 0 rfl rfl 4 (by decide) (hts _ mw_3_186) (fun _ h9 => h9) rfl dX9_kind_144 ?_
                refine lv_iload_n hx hb dX9_kind_147 rfl (lv_at hl 2 rfl) ?_
                refine va_iast hx hb hK hP hD hS 2 1 rfl rfl (show vp_in (nI kn) 10 from vp_in_nI (by omega) (by omega)) dX9_kind_148 (fun H locs hP hD hS => ?_)
                obtain ⟨f_85, ef_85⟩ : ∃ g : Nat → Int32, g = upd fpm (Int32.toNatClampNeg (nI kn)) (nI j_81) := ⟨_, rfl⟩
                rw [← ef_85] at hP hD
                have ef_85 : f_85 = upd fpm kn (nI j_81) := by rw [ef_85, nI_clamp (by omega)]
                have hP : va_P (dC, dI) vwCl [(h0, .inr (8, [.ref l5, .ref l3, .ref l6, .ref l7, .int (nI kn), .ref l4, .ref l1, .ref l2, .ref rw0, .ref rw1, .ref rw2, .int rm0, w12, w13, w14, w15, w16, w17, w18, w19, w20, w21, w22, w23, w24, w25, w26, w27, w28, w29, w30, w31, w32, w33, w34])), (l5, .inl (kl5, 30, .inl f_84)), (l3, .inl (kl3, 10, .inl f_85)), (l1, .inl (kl1, 10, .inl fll)), (l2, .inl (kl2, 10, .inl fmq)), (l4, .inl (kl4, 100, .inl fln)), (l6, .inl (kl6, 10, .inl fma)), (l7, .inl (kl7, 10, .inl fib)), (rw0, .inl (krw0, 40, .inl frw)), (rw1, .inl (krw1, 4, .inl fat)), (rw2, .inl (krw2, 4, .inl fen))] H := hP
                have hD : va_D A [(h0, .inr (8, [.ref l5, .ref l3, .ref l6, .ref l7, .int (nI kn), .ref l4, .ref l1, .ref l2, .ref rw0, .ref rw1, .ref rw2, .int rm0, w12, w13, w14, w15, w16, w17, w18, w19, w20, w21, w22, w23, w24, w25, w26, w27, w28, w29, w30, w31, w32, w33, w34])), (l5, .inl (kl5, 30, .inl f_84)), (l3, .inl (kl3, 10, .inl f_85)), (l1, .inl (kl1, 10, .inl fll)), (l2, .inl (kl2, 10, .inl fmq)), (l4, .inl (kl4, 100, .inl fln)), (l6, .inl (kl6, 10, .inl fma)), (l7, .inl (kl7, 10, .inl fib)), (rw0, .inl (krw0, 40, .inl frw)), (rw1, .inl (krw1, 4, .inl fat)), (rw2, .inl (krw2, 4, .inl fen))] := hD
                refine lv_aload_n hx hb dX9_kind_149 rfl (lv_at hl 1 rfl) ?_
                refine va_get (D := (dC, dI)) (ci := 8) (v := .ref l6) (C := RX9) (T := TX9) (N := 35) hx hb hts inB_9 hown hK hP 0 rfl rfl 2 (by decide) (hts _ mw_3_184) (fun _ h9 => h9) rfl dX9_kind_150 ?_
                refine lv_aload_n hx hb dX9_kind_153 rfl (lv_at hl 1 rfl) ?_
                refine va_get (D := (dC, dI)) (ci := 8) (v := .int (nI kn)) (C := RX9) (T := TX9) (N := 35) hx hb hts inB_9 hown hK hP 0 rfl rfl 4 (by decide) (hts _ mw_3_186) (fun _ h9 => h9) rfl dX9_kind_154 ?_
                refine lv_iconst (v := 0) hx hb dX9_kind_157 (by decide) ?_
                refine va_iast hx hb hK hP hD hS 6 5 rfl rfl (show vp_in (nI kn) 10 from vp_in_nI (by omega) (by omega)) dX9_kind_158 (fun H locs hP hD hS => ?_)
                obtain ⟨f_86, ef_86⟩ : ∃ g : Nat → Int32, g = upd fma (Int32.toNatClampNeg (nI kn)) 0 := ⟨_, rfl⟩
                rw [← ef_86] at hP hD
                have ef_86 : f_86 = upd fma kn 0 := by rw [ef_86, nI_clamp (by omega)]
                have hP : va_P (dC, dI) vwCl [(h0, .inr (8, [.ref l5, .ref l3, .ref l6, .ref l7, .int (nI kn), .ref l4, .ref l1, .ref l2, .ref rw0, .ref rw1, .ref rw2, .int rm0, w12, w13, w14, w15, w16, w17, w18, w19, w20, w21, w22, w23, w24, w25, w26, w27, w28, w29, w30, w31, w32, w33, w34])), (l5, .inl (kl5, 30, .inl f_84)), (l3, .inl (kl3, 10, .inl f_85)), (l1, .inl (kl1, 10, .inl fll)), (l2, .inl (kl2, 10, .inl fmq)), (l4, .inl (kl4, 100, .inl fln)), (l6, .inl (kl6, 10, .inl f_86)), (l7, .inl (kl7, 10, .inl fib)), (rw0, .inl (krw0, 40, .inl frw)), (rw1, .inl (krw1, 4, .inl fat)), (rw2, .inl (krw2, 4, .inl fen))] H := hP
                have hD : va_D A [(h0, .inr (8, [.ref l5, .ref l3, .ref l6, .ref l7, .int (nI kn), .ref l4, .ref l1, .ref l2, .ref rw0, .ref rw1, .ref rw2, .int rm0, w12, w13, w14, w15, w16, w17, w18, w19, w20, w21, w22, w23, w24, w25, w26, w27, w28, w29, w30, w31, w32, w33, w34])), (l5, .inl (kl5, 30, .inl f_84)), (l3, .inl (kl3, 10, .inl f_85)), (l1, .inl (kl1, 10, .inl fll)), (l2, .inl (kl2, 10, .inl fmq)), (l4, .inl (kl4, 100, .inl fln)), (l6, .inl (kl6, 10, .inl f_86)), (l7, .inl (kl7, 10, .inl fib)), (rw0, .inl (krw0, 40, .inl frw)), (rw1, .inl (krw1, 4, .inl fat)), (rw2, .inl (krw2, 4, .inl fen))] := hD
                refine lv_aload_n hx hb dX9_kind_159 rfl (lv_at hl 1 rfl) ?_
                refine va_get (D := (dC, dI)) (ci := 8) (v := .ref l7) (C := RX9) (T := TX9) (N := 35) hx hb hts inB_9 hown hK hP 0 rfl rfl 3 (by decide) (hts _ mw_3_185) (fun _ h9 => h9) rfl dX9_kind_160 ?_
                refine lv_aload_n hx hb dX9_kind_163 rfl (lv_at hl 1 rfl) ?_
                refine va_get (D := (dC, dI)) (ci := 8) (v := .int (nI kn)) (C := RX9) (T := TX9) (N := 35) hx hb hts inB_9 hown hK hP 0 rfl rfl 4 (by decide) (hts _ mw_3_186) (fun _ h9 => h9) rfl dX9_kind_164 ?_
                refine lv_iconst (v := 0) hx hb dX9_kind_167 (by decide) ?_
                refine va_zast hx hb hK hP hD hS 7 6 rfl rfl (show vp_in (nI kn) 10 from vp_in_nI (by omega) (by omega)) dX9_kind_168 (fun H locs hP hD hS => ?_)
                obtain ⟨f_87, ef_87⟩ : ∃ g : Nat → Int32, g = upd fib (Int32.toNatClampNeg (nI kn)) (vp_nar .boolean 0) := ⟨_, rfl⟩
                rw [← ef_87] at hP hD
                have ef_87 : f_87 = upd fib kn (vp_nar .boolean 0) := by rw [ef_87, nI_clamp (by omega)]
                have hP : va_P (dC, dI) vwCl [(h0, .inr (8, [.ref l5, .ref l3, .ref l6, .ref l7, .int (nI kn), .ref l4, .ref l1, .ref l2, .ref rw0, .ref rw1, .ref rw2, .int rm0, w12, w13, w14, w15, w16, w17, w18, w19, w20, w21, w22, w23, w24, w25, w26, w27, w28, w29, w30, w31, w32, w33, w34])), (l5, .inl (kl5, 30, .inl f_84)), (l3, .inl (kl3, 10, .inl f_85)), (l1, .inl (kl1, 10, .inl fll)), (l2, .inl (kl2, 10, .inl fmq)), (l4, .inl (kl4, 100, .inl fln)), (l6, .inl (kl6, 10, .inl f_86)), (l7, .inl (kl7, 10, .inl f_87)), (rw0, .inl (krw0, 40, .inl frw)), (rw1, .inl (krw1, 4, .inl fat)), (rw2, .inl (krw2, 4, .inl fen))] H := hP
                have hD : va_D A [(h0, .inr (8, [.ref l5, .ref l3, .ref l6, .ref l7, .int (nI kn), .ref l4, .ref l1, .ref l2, .ref rw0, .ref rw1, .ref rw2, .int rm0, w12, w13, w14, w15, w16, w17, w18, w19, w20, w21, w22, w23, w24, w25, w26, w27, w28, w29, w30, w31, w32, w33, w34])), (l5, .inl (kl5, 30, .inl f_84)), (l3, .inl (kl3, 10, .inl f_85)), (l1, .inl (kl1, 10, .inl fll)), (l2, .inl (kl2, 10, .inl fmq)), (l4, .inl (kl4, 100, .inl fln)), (l6, .inl (kl6, 10, .inl f_86)), (l7, .inl (kl7, 10, .inl f_87)), (rw0, .inl (krw0, 40, .inl frw)), (rw1, .inl (krw1, 4, .inl fat)), (rw2, .inl (krw2, 4, .inl fen))] := hD
                refine lv_iconst (v := 0) hx hb dX9_kind_169 (by decide) ?_
                refine lv_istore (lv' := [(6, .int 0), (5, .int 1), (0, .ref h0), (1, .int (nI j_81)), (2, .int n2), (3, .int n3), (4, .int n4)]) hx hb dX9_kind_170 hl (by decide) rfl (fun ls hl => ?_)
                have hprk : PrOk f_84 kn j_81 := pr_3 ef_82 ef_83 ef_84 (by omega) (fun q => by omega) (fun q => by omega) (fun q => by omega)
                have hpp : ∀ i, i < 3 → f_84 (3 * kn + i) = par3 n2 n3 n4 i := p3_get ef_82 ef_83 ef_84
                have key_88 : ∀ (fu : Nat) (k : Nat) (fax : Nat → Int32), (k ≤ j_81) → (fax = upd fma kn (abv fma (par3 n2 n3 n4) k)) → j_81 - k < fu → ∀ (H : Heap) (locs : List Loc), va_P (dC, dI) vwCl [(h0, .inr (8, [.ref l5, .ref l3, .ref l6, .ref l7, .int (nI kn), .ref l4, .ref l1, .ref l2, .ref rw0, .ref rw1, .ref rw2, .int rm0, w12, w13, w14, w15, w16, w17, w18, w19, w20, w21, w22, w23, w24, w25, w26, w27, w28, w29, w30, w31, w32, w33, w34])), (l5, .inl (kl5, 30, .inl f_84)), (l3, .inl (kl3, 10, .inl f_85)), (l1, .inl (kl1, 10, .inl fll)), (l2, .inl (kl2, 10, .inl fmq)), (l4, .inl (kl4, 100, .inl fln)), (l6, .inl (kl6, 10, .inl fax)), (l7, .inl (kl7, 10, .inl f_87)), (rw0, .inl (krw0, 40, .inl frw)), (rw1, .inl (krw1, 4, .inl fat)), (rw2, .inl (krw2, 4, .inl fen))] H → va_D A [(h0, .inr (8, [.ref l5, .ref l3, .ref l6, .ref l7, .int (nI kn), .ref l4, .ref l1, .ref l2, .ref rw0, .ref rw1, .ref rw2, .int rm0, w12, w13, w14, w15, w16, w17, w18, w19, w20, w21, w22, w23, w24, w25, w26, w27, w28, w29, w30, w31, w32, w33, w34])), (l5, .inl (kl5, 30, .inl f_84)), (l3, .inl (kl3, 10, .inl f_85)), (l1, .inl (kl1, 10, .inl fll)), (l2, .inl (kl2, 10, .inl fmq)), (l4, .inl (kl4, 100, .inl fln)), (l6, .inl (kl6, 10, .inl fax)), (l7, .inl (kl7, 10, .inl f_87)), (rw0, .inl (krw0, 40, .inl frw)), (rw1, .inl (krw1, 4, .inl fat)), (rw2, .inl (krw2, 4, .inl fen))] → va_S A s.heap H locs → ∀ (ls : Array Slot), lv_has ls 8 [(6, .int (nI k)), (5, .int 1), (0, .ref h0), (1, .int (nI j_81)), (2, .int n2), (3, .int n3), (4, .int n4)] → W p l e (headSpec (wq yX9_kind cX9_kind 8 (some .int)) ({ frames := 3, cells := 0, slots := 0, locals := 71 })).room s m (([.ref h0, .int (nI j_81), .int n2, .int n3, .int n4] : List Value)).toArray below meth c H locs 0 0 (MQ below (va_Qi (fun (r : Int32) (_ : Unit) => r = F_kind kn (nI j_81) n2 n3 n4) (fun _ t => ∃ (kn2 : Nat) (fpr2 : Nat → Int32) (fpm2 : Nat → Int32) (fma2 : Nat → Int32) (fib2 : Nat → Int32) (frw2 : Nat → Int32) (fat2 : Nat → Int32) (fen2 : Nat → Int32) (fll2 : Nat → Int32) (fmq2 : Nat → Int32) (fln2 : Nat → Int32) (rm2 : Int32), (kn2 = K_next kn (nI j_81) n2 n3 n4) ∧ (fib2 = KB_next kn fib (nI j_81) n2 n3 n4) ∧ (fma2 = KA_next kn fma (nI j_81) n2 n3 n4) ∧ (KmX kn fll fln fmq fll2 fln2 fmq2 (nI j_81) n2 n3 n4) ∧ (kn2 ≤ 10) ∧ (BdOk 10 10 fll2) ∧ (LnOk fll2 fln2 kn2) ∧ (BdOk 4 10 fat2) ∧ (BdOk 4 10 fen2) ∧ va_P (dC, dI) vwCl [(h0, .inr (8, [.ref l5, .ref l3, .ref l6, .ref l7, .int (nI kn2), .ref l4, .ref l1, .ref l2, .ref rw0, .ref rw1, .ref rw2, .int rm2, w12, w13, w14, w15, w16, w17, w18, w19, w20, w21, w22, w23, w24, w25, w26, w27, w28, w29, w30, w31, w32, w33, w34])), (l5, .inl (kl5, 30, .inl fpr2)), (l3, .inl (kl3, 10, .inl fpm2)), (l1, .inl (kl1, 10, .inl fll2)), (l2, .inl (kl2, 10, .inl fmq2)), (l4, .inl (kl4, 100, .inl fln2)), (l6, .inl (kl6, 10, .inl fma2)), (l7, .inl (kl7, 10, .inl fib2)), (rw0, .inl (krw0, 40, .inl frw2)), (rw1, .inl (krw1, 4, .inl fat2)), (rw2, .inl (krw2, 4, .inl fen2))] t.heap ∧ va_K (dC, dI) vwCl [(kl5, .int), (kl3, .int), (kl1, .int), (kl2, .int), (kl4, .int), (kl6, .int), (kl7, .boolean), (krw0, .int), (krw1, .int), (krw2, .int)] t ∧ va_D A [(h0, .inr (8, [.ref l5, .ref l3, .ref l6, .ref l7, .int (nI kn2), .ref l4, .ref l1, .ref l2, .ref rw0, .ref rw1, .ref rw2, .int rm2, w12, w13, w14, w15, w16, w17, w18, w19, w20, w21, w22, w23, w24, w25, w26, w27, w28, w29, w30, w31, w32, w33, w34])), (l5, .inl (kl5, 30, .inl fpr2)), (l3, .inl (kl3, 10, .inl fpm2)), (l1, .inl (kl1, 10, .inl fll2)), (l2, .inl (kl2, 10, .inl fmq2)), (l4, .inl (kl4, 100, .inl fln2)), (l6, .inl (kl6, 10, .inl fma2)), (l7, .inl (kl7, 10, .inl fib2)), (rw0, .inl (krw0, 40, .inl frw2)), (rw1, .inl (krw1, 4, .inl fat2)), (rw2, .inl (krw2, 4, .inl fen2))]) A) (([.ref h0, .int (nI j_81), .int n2, .int n3, .int n4] : List Value)).toArray s 0 0 A) (F0 m 172 ls []) := by
                  intro fu
                  induction fu with
                  | zero => intro k fax hk hax hme; exact absurd hme (Nat.not_lt_zero _)
                  | succ fu ih_89 =>
                    intro k fax hk hax hme H locs hP hD hS ls hl
                    refine lv_iload hx hb dX9_kind_172 (lv_at hl 0 rfl) ?_
                    refine lv_iload_n hx hb dX9_kind_174 rfl (lv_at hl 3 rfl) ?_
                    refine lv_icmp_ge (tgt := 224) hx hb dX9_kind_175 (by decide) (fun c_90 => ?_) (fun c_90 => ?_)
                    · have b_91 := gx_ge (X := ((k : Nat) : Int)) (C := ((j_81 : Nat) : Int)) (nI_toInt (by omega)) (nI_toInt (by omega)) c_90
                      refine lv_aload_n hx hb dX9_kind_224 rfl (lv_at hl 2 rfl) ?_
                      refine lv_aload_n hx hb dX9_kind_225 rfl (lv_at hl 2 rfl) ?_
                      refine va_get (D := (dC, dI)) (ci := 8) (v := .int (nI kn)) (C := RX9) (T := TX9) (N := 35) hx hb hts inB_9 hown hK hP 0 rfl rfl 4 (by decide) (hts _ mw_3_186) (fun _ h9 => h9) rfl dX9_kind_226 ?_
                      have hPc := hP.sub (ws' := [(h0, .inr (8, [.ref l5, .ref l3, .ref l6, .ref l7, .int (nI kn), .ref l4, .ref l1, .ref l2, .ref rw0, .ref rw1, .ref rw2, .int rm0, w12, w13, w14, w15, w16, w17, w18, w19, w20, w21, w22, w23, w24, w25, w26, w27, w28, w29, w30, w31, w32, w33, w34])), (l5, .inl (kl5, 30, .inl f_84)), (l3, .inl (kl3, 10, .inl f_85)), (l1, .inl (kl1, 10, .inl fll)), (l2, .inl (kl2, 10, .inl fmq)), (l4, .inl (kl4, 100, .inl fln)), (rw0, .inl (krw0, 40, .inl frw)), (rw1, .inl (krw1, 4, .inl fat)), (rw2, .inl (krw2, 4, .inl fen))]) [0, 1, 2, 3, 4, 5, 8, 9, 10] rfl
                      have hDc := hD.sub (ws' := [(h0, .inr (8, [.ref l5, .ref l3, .ref l6, .ref l7, .int (nI kn), .ref l4, .ref l1, .ref l2, .ref rw0, .ref rw1, .ref rw2, .int rm0, w12, w13, w14, w15, w16, w17, w18, w19, w20, w21, w22, w23, w24, w25, w26, w27, w28, w29, w30, w31, w32, w33, w34])), (l5, .inl (kl5, 30, .inl f_84)), (l3, .inl (kl3, 10, .inl f_85)), (l1, .inl (kl1, 10, .inl fll)), (l2, .inl (kl2, 10, .inl fmq)), (l4, .inl (kl4, 100, .inl fln)), (rw0, .inl (krw0, 40, .inl frw)), (rw1, .inl (krw1, 4, .inl fat)), (rw2, .inl (krw2, 4, .inl fen))]) [0, 1, 2, 3, 4, 5, 8, 9, 10] (by decide) rfl
                      have hKc := hK.sub (tys' := [(kl5, .int), (kl3, .int), (kl1, .int), (kl2, .int), (kl4, .int), (krw0, .int), (krw1, .int), (krw2, .int)]) [0, 1, 2, 3, 4, 7, 8, 9] rfl
                      have hFc := va_free (wc := [(h0, .inr (8, [.ref l5, .ref l3, .ref l6, .ref l7, .int (nI kn), .ref l4, .ref l1, .ref l2, .ref rw0, .ref rw1, .ref rw2, .int rm0, w12, w13, w14, w15, w16, w17, w18, w19, w20, w21, w22, w23, w24, w25, w26, w27, w28, w29, w30, w31, w32, w33, w34])), (l5, .inl (kl5, 30, .inl f_84)), (l3, .inl (kl3, 10, .inl f_85)), (l1, .inl (kl1, 10, .inl fll)), (l2, .inl (kl2, 10, .inl fmq)), (l4, .inl (kl4, 100, .inl fln)), (rw0, .inl (krw0, 40, .inl frw)), (rw1, .inl (krw1, 4, .inl fat)), (rw2, .inl (krw2, 4, .inl fen))]) hD hS hA [0, 1, 2, 3, 4, 5, 8, 9, 10] rfl
                      refine va_callv (va_runV (As := [.int (nI kn)]) (rest := []) ⟨hx, hb, hml, hown, hts⟩ (m_layLine l dC dI H.size h0 l5 l3 (.ref l6) (.ref l7) (.int (nI kn)) l4 l1 l2 rw0 rw1 rw2 rm0 (w12) (w13) (w14) (w15) (w16) (w17) (w18) (w19) (w20) (w21) (w22) (w23) (w24) (w25) (w26) (w27) (w28) (w29) (w30) (w31) (w32) (w33) (w34) kl5 f_84 kl3 f_85 kl1 fll kl2 fmq kl4 fln krw0 frw krw1 fat krw2 fen kn j_81 (by omega) (by rw [ef_85]; exact pk_us) (by omega) hprk hll hln hfat hfen) (cwV 1 hts (gV mw_4_61 mw_4_63 mw_0_16 mw_1_9 mw_4_64) rfl rfl rfl (by decide +kernel) ⟨Nat.le_of_ble_eq_true rfl, Nat.le_of_ble_eq_true rfl⟩) ⟨pcW_blind, va_recv hKc hPc (ci := 8) (q0 := 0) rfl rfl, pcW_at hPc hKc hDc hN⟩ rfl rfl hl.1 rfl (lv_room (Nat.le_of_ble_eq_true rfl)) dX9_kind_229 ⟨Nat.le_of_ble_eq_true rfl, Nat.le_of_ble_eq_true rfl⟩) hS (fun q _ h => hFc q h) hFc (fun u t H1 locs ht hvm hw_92 hB hz1 hk1 hS => ?_)
                      obtain ⟨f_93, f_94, f_95, f_96, f_97, f_98, z_99, p_100, p_101, p_102, p_103, p_104, hP1, hK1, hD1⟩ := hB
                      rw [ht] at hP1
                      have hK1 := va_K.moved hvm.symm hK1
                      obtain ⟨hP, hD⟩ := va_join (wr := [(l6, .inl (kl6, 10, .inl fax)), (l7, .inl (kl7, 10, .inl f_87))]) (w1 := [(h0, .inr (8, [.ref l5, .ref l3, .ref l6, .ref l7, .int (nI kn), .ref l4, .ref l1, .ref l2, .ref rw0, .ref rw1, .ref rw2, .int z_99, w12, w13, w14, w15, w16, w17, w18, w19, w20, w21, w22, w23, w24, w25, w26, w27, w28, w29, w30, w31, w32, w33, w34])), (l5, .inl (kl5, 30, .inl f_84)), (l3, .inl (kl3, 10, .inl f_85)), (l1, .inl (kl1, 10, .inl f_96)), (l2, .inl (kl2, 10, .inl f_97)), (l4, .inl (kl4, 100, .inl f_98)), (rw0, .inl (krw0, 40, .inl f_93)), (rw1, .inl (krw1, 4, .inl f_94)), (rw2, .inl (krw2, 4, .inl f_95))]) hP hD [0, 1, 2, 3, 4, 5, 8, 9, 10] [6, 7] rfl rfl (by decide) (by decide) hk1 hFc hP1 hD1
                      have hK := (hK.sub (tys' := [(kl6, .int), (kl7, .boolean)]) [5, 6] rfl).app hK1
                      clear hz1 hk1 hPc hDc hKc hFc
                      generalize H1 = H at hP hS ⊢
                      have hK : va_K (dC, dI) vwCl [(kl6, .int), (kl7, .boolean), (kl5, .int), (kl3, .int), (kl1, .int), (kl2, .int), (kl4, .int), (krw0, .int), (krw1, .int), (krw2, .int)] s := hK
                      have hP : va_P (dC, dI) vwCl [(l6, .inl (kl6, 10, .inl fax)), (l7, .inl (kl7, 10, .inl f_87)), (h0, .inr (8, [.ref l5, .ref l3, .ref l6, .ref l7, .int (nI kn), .ref l4, .ref l1, .ref l2, .ref rw0, .ref rw1, .ref rw2, .int z_99, w12, w13, w14, w15, w16, w17, w18, w19, w20, w21, w22, w23, w24, w25, w26, w27, w28, w29, w30, w31, w32, w33, w34])), (l5, .inl (kl5, 30, .inl f_84)), (l3, .inl (kl3, 10, .inl f_85)), (l1, .inl (kl1, 10, .inl f_96)), (l2, .inl (kl2, 10, .inl f_97)), (l4, .inl (kl4, 100, .inl f_98)), (rw0, .inl (krw0, 40, .inl f_93)), (rw1, .inl (krw1, 4, .inl f_94)), (rw2, .inl (krw2, 4, .inl f_95))] H := hP
                      have hD : va_D A [(l6, .inl (kl6, 10, .inl fax)), (l7, .inl (kl7, 10, .inl f_87)), (h0, .inr (8, [.ref l5, .ref l3, .ref l6, .ref l7, .int (nI kn), .ref l4, .ref l1, .ref l2, .ref rw0, .ref rw1, .ref rw2, .int z_99, w12, w13, w14, w15, w16, w17, w18, w19, w20, w21, w22, w23, w24, w25, w26, w27, w28, w29, w30, w31, w32, w33, w34])), (l5, .inl (kl5, 30, .inl f_84)), (l3, .inl (kl3, 10, .inl f_85)), (l1, .inl (kl1, 10, .inl f_96)), (l2, .inl (kl2, 10, .inl f_97)), (l4, .inl (kl4, 100, .inl f_98)), (rw0, .inl (krw0, 40, .inl f_93)), (rw1, .inl (krw1, 4, .inl f_94)), (rw2, .inl (krw2, 4, .inl f_95))] := hD
                      refine lv_aload_n hx hb dX9_kind_232 rfl (lv_at hl 2 rfl) ?_
                      refine lv_dup hx hb dX9_kind_233 rfl ?_
                      refine va_get (D := (dC, dI)) (ci := 8) (v := .int (nI kn)) (C := RX9) (T := TX9) (N := 35) hx hb hts inB_9 hown hK hP 2 rfl rfl 4 (by decide) (hts _ mw_3_186) (fun _ h9 => h9) rfl dX9_kind_234 ?_
                      refine lv_iconst (v := 1) hx hb dX9_kind_237 (by decide) ?_
                      refine lv_iadd hx hb dX9_kind_238 ?_
                      refine hx_top (y := (nI (kn + 1))) (nI_add kn 1) ?_
                      refine va_put (D := (dC, dI)) (ci := 8) (v := .int (nI (kn + 1))) (ty := .int) (C := RX9) (T := TX9) (N := 35) hx hb hts inB_9 tyX9 tyX9_ok nmX9 hown hK hP hD hS 2 rfl rfl 4 (by decide) (hts _ mw_3_186) (fun _ h9 => h9) rfl (by decide +kernel) rfl rfl (Nat.le_of_ble_eq_true rfl) dX9_kind_239 (fun H locs hP hD hS => ?_)
                      have hP : va_P (dC, dI) vwCl [(l6, .inl (kl6, 10, .inl fax)), (l7, .inl (kl7, 10, .inl f_87)), (h0, .inr (8, [.ref l5, .ref l3, .ref l6, .ref l7, .int (nI (kn + 1)), .ref l4, .ref l1, .ref l2, .ref rw0, .ref rw1, .ref rw2, .int z_99, w12, w13, w14, w15, w16, w17, w18, w19, w20, w21, w22, w23, w24, w25, w26, w27, w28, w29, w30, w31, w32, w33, w34])), (l5, .inl (kl5, 30, .inl f_84)), (l3, .inl (kl3, 10, .inl f_85)), (l1, .inl (kl1, 10, .inl f_96)), (l2, .inl (kl2, 10, .inl f_97)), (l4, .inl (kl4, 100, .inl f_98)), (rw0, .inl (krw0, 40, .inl f_93)), (rw1, .inl (krw1, 4, .inl f_94)), (rw2, .inl (krw2, 4, .inl f_95))] H := hP
                      have hD : va_D A [(l6, .inl (kl6, 10, .inl fax)), (l7, .inl (kl7, 10, .inl f_87)), (h0, .inr (8, [.ref l5, .ref l3, .ref l6, .ref l7, .int (nI (kn + 1)), .ref l4, .ref l1, .ref l2, .ref rw0, .ref rw1, .ref rw2, .int z_99, w12, w13, w14, w15, w16, w17, w18, w19, w20, w21, w22, w23, w24, w25, w26, w27, w28, w29, w30, w31, w32, w33, w34])), (l5, .inl (kl5, 30, .inl f_84)), (l3, .inl (kl3, 10, .inl f_85)), (l1, .inl (kl1, 10, .inl f_96)), (l2, .inl (kl2, 10, .inl f_97)), (l4, .inl (kl4, 100, .inl f_98)), (rw0, .inl (krw0, 40, .inl f_93)), (rw1, .inl (krw1, 4, .inl f_94)), (rw2, .inl (krw2, 4, .inl f_95))] := hD
                      refine lv_aload_n hx hb dX9_kind_242 rfl (lv_at hl 2 rfl) ?_
                      refine va_get (D := (dC, dI)) (ci := 8) (v := .int (nI (kn + 1))) (C := RX9) (T := TX9) (N := 35) hx hb hts inB_9 hown hK hP 2 rfl rfl 4 (by decide) (hts _ mw_3_186) (fun _ h9 => h9) rfl dX9_kind_243 ?_
                      refine lv_iconst (v := 1) hx hb dX9_kind_246 (by decide) ?_
                      refine lv_isub hx hb dX9_kind_247 ?_
                      refine hx_top (y := (nI ((kn + 1) - 1))) (pk_sub (a := (kn + 1)) (b := 1) (by omega)) ?_
                      have hF9 : nI kn = F_kind kn (nI j_81) n2 n3 n4 := (by (unfold F_kind; repeat' split) <;> first | rfl | (exfalso; omega))
                      have hP9 := hP.sub (ws' := [(h0, .inr (8, [.ref l5, .ref l3, .ref l6, .ref l7, .int (nI (kn + 1)), .ref l4, .ref l1, .ref l2, .ref rw0, .ref rw1, .ref rw2, .int z_99, w12, w13, w14, w15, w16, w17, w18, w19, w20, w21, w22, w23, w24, w25, w26, w27, w28, w29, w30, w31, w32, w33, w34])), (l5, .inl (kl5, 30, .inl f_84)), (l3, .inl (kl3, 10, .inl f_85)), (l1, .inl (kl1, 10, .inl f_96)), (l2, .inl (kl2, 10, .inl f_97)), (l4, .inl (kl4, 100, .inl f_98)), (l6, .inl (kl6, 10, .inl fax)), (l7, .inl (kl7, 10, .inl f_87)), (rw0, .inl (krw0, 40, .inl f_93)), (rw1, .inl (krw1, 4, .inl f_94)), (rw2, .inl (krw2, 4, .inl f_95))]) [2, 3, 4, 5, 6, 7, 0, 1, 8, 9, 10] rfl
                      have hD9 := hD.sub (ws' := [(h0, .inr (8, [.ref l5, .ref l3, .ref l6, .ref l7, .int (nI (kn + 1)), .ref l4, .ref l1, .ref l2, .ref rw0, .ref rw1, .ref rw2, .int z_99, w12, w13, w14, w15, w16, w17, w18, w19, w20, w21, w22, w23, w24, w25, w26, w27, w28, w29, w30, w31, w32, w33, w34])), (l5, .inl (kl5, 30, .inl f_84)), (l3, .inl (kl3, 10, .inl f_85)), (l1, .inl (kl1, 10, .inl f_96)), (l2, .inl (kl2, 10, .inl f_97)), (l4, .inl (kl4, 100, .inl f_98)), (l6, .inl (kl6, 10, .inl fax)), (l7, .inl (kl7, 10, .inl f_87)), (rw0, .inl (krw0, 40, .inl f_93)), (rw1, .inl (krw1, 4, .inl f_94)), (rw2, .inl (krw2, 4, .inl f_95))]) [2, 3, 4, 5, 6, 7, 0, 1, 8, 9, 10] (by decide) rfl
                      have hK9 := hK.sub (tys' := [(kl5, .int), (kl3, .int), (kl1, .int), (kl2, .int), (kl4, .int), (kl6, .int), (kl7, .boolean), (krw0, .int), (krw1, .int), (krw2, .int)]) [2, 3, 4, 5, 6, 0, 1, 7, 8, 9] rfl
                      exact W.iret (v := (nI ((kn + 1) - 1))) hx hb hr (fun t ht hW => ⟨⟨(nI ((kn + 1) - 1)), (), rfl, hF9, (kn + 1), f_84, f_85, fax, f_87, f_93, f_94, f_95, f_96, f_97, f_98, z_99, (K_yes hF9 (by omega)), (KB_yes hF9 (by omega) ef_87), (KA_yes (m := j_81) hF9 (by omega) (nI_clamp (by omega)) (by rw [hax, show k = j_81 from (by omega)])), (km_yes (m := j_81) hF9 (by omega) (nI_clamp (by omega)) (km_p hpp (by omega) p_104)), (by omega), p_100, p_101, p_102, p_103, by rw [ht]; exact hP9, va_K.moved hW.alike hK9, hD9⟩, hS.F ht⟩) hS.2.2 dX9_kind_248
                    · have b_91 := gn_ge (X := ((k : Nat) : Int)) (C := ((j_81 : Nat) : Int)) (nI_toInt (by omega)) (nI_toInt (by omega)) c_90
                      refine lv_aload_n hx hb dX9_kind_178 rfl (lv_at hl 2 rfl) ?_
                      refine va_get (D := (dC, dI)) (ci := 8) (v := .ref l5) (C := RX9) (T := TX9) (N := 35) hx hb hts inB_9 hown hK hP 0 rfl rfl 0 (by decide) (hts _ mw_3_182) (fun _ h9 => h9) rfl dX9_kind_179 ?_
                      refine lv_iconst (v := 3) hx hb dX9_kind_182 (by decide) ?_
                      refine lv_aload_n hx hb dX9_kind_183 rfl (lv_at hl 2 rfl) ?_
                      refine va_get (D := (dC, dI)) (ci := 8) (v := .int (nI kn)) (C := RX9) (T := TX9) (N := 35) hx hb hts inB_9 hown hK hP 0 rfl rfl 4 (by decide) (hts _ mw_3_186) (fun _ h9 => h9) rfl dX9_kind_184 ?_
                      refine lv_imul hx hb dX9_kind_187 ?_
                      refine hx_top (y := (nI (3 * kn))) (pk_mul 3 kn) ?_
                      refine lv_iload hx hb dX9_kind_188 (lv_at hl 0 rfl) ?_
                      refine lv_iadd hx hb dX9_kind_190 ?_
                      refine hx_top (y := (nI ((3 * kn) + k))) (nI_add (3 * kn) k) ?_
                      refine va_iald hx hb hK hP 1 0 rfl rfl (show vp_in (nI ((3 * kn) + k)) 30 from vp_in_nI (by omega) (by omega)) dX9_kind_191 ?_
                      refine hx_top (y := (f_84 ((3 * kn) + k))) (congrArg _ (nI_clamp (by omega))) ?_
                      obtain ⟨n_105, hn_105, en_105⟩ := hprk k (by omega)
                      refine hx_top (y := (nI n_105)) en_105 ?_
                      refine lv_istore (lv' := [(7, .int (nI n_105)), (6, .int (nI k)), (5, .int 1), (0, .ref h0), (1, .int (nI j_81)), (2, .int n2), (3, .int n3), (4, .int n4)]) hx hb dX9_kind_192 hl (by decide) rfl (fun ls hl => ?_)
                      refine lv_aload_n hx hb dX9_kind_194 rfl (lv_at hl 3 rfl) ?_
                      refine va_get (D := (dC, dI)) (ci := 8) (v := .ref l6) (C := RX9) (T := TX9) (N := 35) hx hb hts inB_9 hown hK hP 0 rfl rfl 2 (by decide) (hts _ mw_3_184) (fun _ h9 => h9) rfl dX9_kind_195 ?_
                      refine lv_aload_n hx hb dX9_kind_198 rfl (lv_at hl 3 rfl) ?_
                      refine va_get (D := (dC, dI)) (ci := 8) (v := .int (nI kn)) (C := RX9) (T := TX9) (N := 35) hx hb hts inB_9 hown hK hP 0 rfl rfl 4 (by decide) (hts _ mw_3_186) (fun _ h9 => h9) rfl dX9_kind_199 ?_
                      refine lv_dup2_11 hx hb dX9_kind_202 rfl rfl ?_
                      refine va_iald hx hb hK hP 6 5 rfl rfl (show vp_in (nI kn) 10 from vp_in_nI (by omega) (by omega)) dX9_kind_203 ?_
                      refine hx_top (y := (fax kn)) (congrArg _ (nI_clamp (by omega))) ?_
                      refine lv_aload_n hx hb dX9_kind_204 rfl (lv_at hl 3 rfl) ?_
                      refine va_get (D := (dC, dI)) (ci := 8) (v := .ref l6) (C := RX9) (T := TX9) (N := 35) hx hb hts inB_9 hown hK hP 0 rfl rfl 2 (by decide) (hts _ mw_3_184) (fun _ h9 => h9) rfl dX9_kind_205 ?_
                      refine lv_iload hx hb dX9_kind_208 (lv_at hl 0 rfl) ?_
                      refine va_iald hx hb hK hP 6 5 rfl rfl (show vp_in (nI n_105) 10 from vp_in_nI (by omega) (by omega)) dX9_kind_210 ?_
                      refine hx_top (y := (fax n_105)) (congrArg _ (nI_clamp (by omega))) ?_
                      refine lv_iconst (v := 1) hx hb dX9_kind_211 (by decide) ?_
                      refine lv_iload hx hb dX9_kind_212 (lv_at hl 0 rfl) ?_
                      refine lv_ishl hx hb dX9_kind_214 ?_
                      refine lv_ior hx hb dX9_kind_215 ?_
                      refine lv_ior hx hb dX9_kind_216 ?_
                      refine va_iast hx hb hK hP hD hS 6 5 rfl rfl (show vp_in (nI kn) 10 from vp_in_nI (by omega) (by omega)) dX9_kind_217 (fun H locs hP hD hS => ?_)
                      obtain ⟨f_106, ef_106⟩ : ∃ g : Nat → Int32, g = upd fax (Int32.toNatClampNeg (nI kn)) ((fax kn) ||| ((fax n_105) ||| (1 <<< ((nI n_105) &&& 31)))) := ⟨_, rfl⟩
                      rw [← ef_106] at hP hD
                      have ef_106 : f_106 = upd fax kn ((fax kn) ||| ((fax n_105) ||| (1 <<< ((nI n_105) &&& 31)))) := by rw [ef_106, nI_clamp (by omega)]
                      have hP : va_P (dC, dI) vwCl [(h0, .inr (8, [.ref l5, .ref l3, .ref l6, .ref l7, .int (nI kn), .ref l4, .ref l1, .ref l2, .ref rw0, .ref rw1, .ref rw2, .int rm0, w12, w13, w14, w15, w16, w17, w18, w19, w20, w21, w22, w23, w24, w25, w26, w27, w28, w29, w30, w31, w32, w33, w34])), (l5, .inl (kl5, 30, .inl f_84)), (l3, .inl (kl3, 10, .inl f_85)), (l1, .inl (kl1, 10, .inl fll)), (l2, .inl (kl2, 10, .inl fmq)), (l4, .inl (kl4, 100, .inl fln)), (l6, .inl (kl6, 10, .inl f_106)), (l7, .inl (kl7, 10, .inl f_87)), (rw0, .inl (krw0, 40, .inl frw)), (rw1, .inl (krw1, 4, .inl fat)), (rw2, .inl (krw2, 4, .inl fen))] H := hP
                      have hD : va_D A [(h0, .inr (8, [.ref l5, .ref l3, .ref l6, .ref l7, .int (nI kn), .ref l4, .ref l1, .ref l2, .ref rw0, .ref rw1, .ref rw2, .int rm0, w12, w13, w14, w15, w16, w17, w18, w19, w20, w21, w22, w23, w24, w25, w26, w27, w28, w29, w30, w31, w32, w33, w34])), (l5, .inl (kl5, 30, .inl f_84)), (l3, .inl (kl3, 10, .inl f_85)), (l1, .inl (kl1, 10, .inl fll)), (l2, .inl (kl2, 10, .inl fmq)), (l4, .inl (kl4, 100, .inl fln)), (l6, .inl (kl6, 10, .inl f_106)), (l7, .inl (kl7, 10, .inl f_87)), (rw0, .inl (krw0, 40, .inl frw)), (rw1, .inl (krw1, 4, .inl fat)), (rw2, .inl (krw2, 4, .inl fen))] := hD
                      refine lv_iinc (v := (nI (k + 1))) (lv' := [(6, .int (nI (k + 1))), (7, .int (nI n_105)), (5, .int 1), (0, .ref h0), (1, .int (nI j_81)), (2, .int n2), (3, .int n3), (4, .int n4)]) hx hb dX9_kind_218 hl (k := 1) rfl (nI_add k 1) (by decide) rfl (fun ls hl => ?_)
                      refine lv_goto (tgt := 172) hx hb dX9_kind_221 (by decide) ?_
                      exact ih_89 (k + 1) f_106 (by omega) (ab_stepM hax ((hpp k (by omega)).symm.trans en_105) (by omega) (by omega) ef_106) (by omega) _ _ hP hD hS ls (lv_sub hl [0, 2, 3, 4, 5, 6, 7] rfl)
                exact key_88 ((j_81 - 0) + 1) 0 f_86 (by omega) ef_86 (Nat.lt_succ_self _) _ _ hP hD hS ls (lv_sub hl [0, 1, 2, 3, 4, 5, 6] rfl)
              · have b_80 := gn_ne (X := ((kn : Nat) : Int)) (C := 10) (nI_toInt (by omega)) (by decide) c_79
                refine lv_bipush (v := (-4)) hx hb dX9_kind_95 (by decide) ?_
                have hF9 : ((-4) : Int32) = F_kind kn n1 n2 n3 n4 := (by (unfold F_kind; repeat' split) <;> first | rfl | (exfalso; omega))
                have hP9 := hP.sub (ws' := [(h0, .inr (8, [.ref l5, .ref l3, .ref l6, .ref l7, .int (nI kn), .ref l4, .ref l1, .ref l2, .ref rw0, .ref rw1, .ref rw2, .int rm0, w12, w13, w14, w15, w16, w17, w18, w19, w20, w21, w22, w23, w24, w25, w26, w27, w28, w29, w30, w31, w32, w33, w34])), (l5, .inl (kl5, 30, .inl fpr)), (l3, .inl (kl3, 10, .inl fpm)), (l1, .inl (kl1, 10, .inl fll)), (l2, .inl (kl2, 10, .inl fmq)), (l4, .inl (kl4, 100, .inl fln)), (l6, .inl (kl6, 10, .inl fma)), (l7, .inl (kl7, 10, .inl fib)), (rw0, .inl (krw0, 40, .inl frw)), (rw1, .inl (krw1, 4, .inl fat)), (rw2, .inl (krw2, 4, .inl fen))]) [0, 1, 2, 3, 4, 5, 6, 7, 8, 9, 10] rfl
                have hD9 := hD.sub (ws' := [(h0, .inr (8, [.ref l5, .ref l3, .ref l6, .ref l7, .int (nI kn), .ref l4, .ref l1, .ref l2, .ref rw0, .ref rw1, .ref rw2, .int rm0, w12, w13, w14, w15, w16, w17, w18, w19, w20, w21, w22, w23, w24, w25, w26, w27, w28, w29, w30, w31, w32, w33, w34])), (l5, .inl (kl5, 30, .inl fpr)), (l3, .inl (kl3, 10, .inl fpm)), (l1, .inl (kl1, 10, .inl fll)), (l2, .inl (kl2, 10, .inl fmq)), (l4, .inl (kl4, 100, .inl fln)), (l6, .inl (kl6, 10, .inl fma)), (l7, .inl (kl7, 10, .inl fib)), (rw0, .inl (krw0, 40, .inl frw)), (rw1, .inl (krw1, 4, .inl fat)), (rw2, .inl (krw2, 4, .inl fen))]) [0, 1, 2, 3, 4, 5, 6, 7, 8, 9, 10] (by decide) rfl
                have hK9 := hK.sub (tys' := [(kl5, .int), (kl3, .int), (kl1, .int), (kl2, .int), (kl4, .int), (kl6, .int), (kl7, .boolean), (krw0, .int), (krw1, .int), (krw2, .int)]) [0, 1, 2, 3, 4, 5, 6, 7, 8, 9] rfl
                exact W.iret (v := (-4)) hx hb hr (fun t ht hW => ⟨⟨(-4), (), rfl, hF9, kn, fpr, fpm, fma, fib, frw, fat, fen, fll, fmq, fln, rm0, (K_no (v := (-4)) hF9 (by decide)), (KB_no (v := (-4)) hF9 (by decide)), (KA_no (v := (-4)) hF9 (by decide)), (km_no (v := (-4)) hF9 (by decide)), hkn, hll, hln, hfat, hfen, by rw [ht]; exact hP9, va_K.moved hW.alike hK9, hD9⟩, hS.F ht⟩) hS.2.2 dX9_kind_97
            · have b_76 := gn_lt (X := (Int32.toInt n1)) (C := 3) rfl (by decide) c_75
              refine lv_aload_n hx hb dX9_kind_36 rfl (lv_at hl 0 rfl) ?_
              refine lv_iload hx hb dX9_kind_37 (lv_at hl 4 rfl) ?_
              have hPc := hP.sub (ws' := [(h0, .inr (8, [.ref l5, .ref l3, .ref l6, .ref l7, .int (nI kn), .ref l4, .ref l1, .ref l2, .ref rw0, .ref rw1, .ref rw2, .int rm0, w12, w13, w14, w15, w16, w17, w18, w19, w20, w21, w22, w23, w24, w25, w26, w27, w28, w29, w30, w31, w32, w33, w34]))]) [0] rfl
              have hDc := hD.sub (ws' := [(h0, .inr (8, [.ref l5, .ref l3, .ref l6, .ref l7, .int (nI kn), .ref l4, .ref l1, .ref l2, .ref rw0, .ref rw1, .ref rw2, .int rm0, w12, w13, w14, w15, w16, w17, w18, w19, w20, w21, w22, w23, w24, w25, w26, w27, w28, w29, w30, w31, w32, w33, w34]))]) [0] (by decide) rfl
              have hKc := hK.sub (tys' := []) [] rfl
              refine va_calli (va_runV (As := [.int n4]) (rest := []) ⟨hx, hb, hml, hown, hts⟩ (m_isKind l dC dI H.size h0 (.ref l5) (.ref l3) (.ref l6) (.ref l7) kn (.ref l4) (.ref l1) (.ref l2) (.ref rw0) (.ref rw1) (.ref rw2) (.int rm0) (w12) (w13) (w14) (w15) (w16) (w17) (w18) (w19) (w20) (w21) (w22) (w23) (w24) (w25) (w26) (w27) (w28) (w29) (w30) (w31) (w32) (w33) (w34) n4 hkn) (cwV 1 hts (gV mw_4_53 mw_4_55 mw_0_15 mw_1_9 mw_4_56) rfl rfl rfl (by decide +kernel) ⟨Nat.le_of_ble_eq_true rfl, Nat.le_of_ble_eq_true rfl⟩) ⟨pcW_blind, va_recv hKc hPc (ci := 8) (q0 := 0) rfl rfl, pcW_at hPc hKc hDc hN⟩ rfl rfl hl.1 rfl (lv_room (Nat.le_of_ble_eq_true rfl)) dX9_kind_39 ⟨Nat.le_of_ble_eq_true rfl, Nat.le_of_ble_eq_true rfl⟩) hS (fun q h1 h2 => absurd h2 (Nat.not_le.mpr h1)) (fun q h => hA q (Nat.le_trans hS.1 h)) (fun r_107 u t H1 locs ht hvm hw_107 hB hz1 hk1 hS => ?_)
              have hP := keepP hP hk1
              clear hz1 hk1 hB ht hvm hPc hDc hKc
              generalize H1 = H at hP hS ⊢
              rcases fx_bool hw_107 with ⟨rfl, b_108⟩ | ⟨rfl, b_108⟩
              · skip
                refine lv_if_eq (tgt := 61) hx hb dX9_kind_42 (by decide) (fun h => absurd h (by decide)) (fun _ => ?_)
                refine lv_iload hx hb dX9_kind_45 (lv_at hl 4 rfl) ?_
                refine lv_iload_n hx hb dX9_kind_47 rfl (lv_at hl 2 rfl) ?_
                refine lv_icmp_eq (tgt := 61) hx hb dX9_kind_48 (by decide) (fun c_109 => ?_) (fun c_109 => ?_)
                · have b_110 := gx_eq (X := (Int32.toInt n4)) (C := (Int32.toInt n2)) rfl rfl c_109
                  refine lv_iconst (v := 0) hx hb dX9_kind_61 (by decide) ?_
                  refine lv_istore (lv' := [(5, .int 0), (0, .ref h0), (1, .int n1), (2, .int n2), (3, .int n3), (4, .int n4)]) hx hb dX9_kind_62 hl (by decide) rfl (fun ls hl => ?_)
                  refine lv_iload hx hb dX9_kind_64 (lv_at hl 0 rfl) ?_
                  refine lv_if_ne (tgt := 71) hx hb dX9_kind_66 (by decide) (fun h => absurd h (by decide)) (fun _ => ?_)
                  refine lv_iconst (v := (-1)) hx hb dX9_kind_69 (by decide) ?_
                  have hF9 : ((-1) : Int32) = F_kind kn n1 n2 n3 n4 := (by (unfold F_kind; repeat' split) <;> first | rfl | (exfalso; omega))
                  have hP9 := hP.sub (ws' := [(h0, .inr (8, [.ref l5, .ref l3, .ref l6, .ref l7, .int (nI kn), .ref l4, .ref l1, .ref l2, .ref rw0, .ref rw1, .ref rw2, .int rm0, w12, w13, w14, w15, w16, w17, w18, w19, w20, w21, w22, w23, w24, w25, w26, w27, w28, w29, w30, w31, w32, w33, w34])), (l5, .inl (kl5, 30, .inl fpr)), (l3, .inl (kl3, 10, .inl fpm)), (l1, .inl (kl1, 10, .inl fll)), (l2, .inl (kl2, 10, .inl fmq)), (l4, .inl (kl4, 100, .inl fln)), (l6, .inl (kl6, 10, .inl fma)), (l7, .inl (kl7, 10, .inl fib)), (rw0, .inl (krw0, 40, .inl frw)), (rw1, .inl (krw1, 4, .inl fat)), (rw2, .inl (krw2, 4, .inl fen))]) [0, 1, 2, 3, 4, 5, 6, 7, 8, 9, 10] rfl
                  have hD9 := hD.sub (ws' := [(h0, .inr (8, [.ref l5, .ref l3, .ref l6, .ref l7, .int (nI kn), .ref l4, .ref l1, .ref l2, .ref rw0, .ref rw1, .ref rw2, .int rm0, w12, w13, w14, w15, w16, w17, w18, w19, w20, w21, w22, w23, w24, w25, w26, w27, w28, w29, w30, w31, w32, w33, w34])), (l5, .inl (kl5, 30, .inl fpr)), (l3, .inl (kl3, 10, .inl fpm)), (l1, .inl (kl1, 10, .inl fll)), (l2, .inl (kl2, 10, .inl fmq)), (l4, .inl (kl4, 100, .inl fln)), (l6, .inl (kl6, 10, .inl fma)), (l7, .inl (kl7, 10, .inl fib)), (rw0, .inl (krw0, 40, .inl frw)), (rw1, .inl (krw1, 4, .inl fat)), (rw2, .inl (krw2, 4, .inl fen))]) [0, 1, 2, 3, 4, 5, 6, 7, 8, 9, 10] (by decide) rfl
                  have hK9 := hK.sub (tys' := [(kl5, .int), (kl3, .int), (kl1, .int), (kl2, .int), (kl4, .int), (kl6, .int), (kl7, .boolean), (krw0, .int), (krw1, .int), (krw2, .int)]) [0, 1, 2, 3, 4, 5, 6, 7, 8, 9] rfl
                  exact W.iret (v := (-1)) hx hb hr (fun t ht hW => ⟨⟨(-1), (), rfl, hF9, kn, fpr, fpm, fma, fib, frw, fat, fen, fll, fmq, fln, rm0, (K_no (v := (-1)) hF9 (by decide)), (KB_no (v := (-1)) hF9 (by decide)), (KA_no (v := (-1)) hF9 (by decide)), (km_no (v := (-1)) hF9 (by decide)), hkn, hll, hln, hfat, hfen, by rw [ht]; exact hP9, va_K.moved hW.alike hK9, hD9⟩, hS.F ht⟩) hS.2.2 dX9_kind_70
                · have b_110 := gn_eq (X := (Int32.toInt n4)) (C := (Int32.toInt n2)) rfl rfl c_109
                  refine lv_iload hx hb dX9_kind_51 (lv_at hl 4 rfl) ?_
                  refine lv_iload_n hx hb dX9_kind_53 rfl (lv_at hl 3 rfl) ?_
                  refine lv_icmp_eq (tgt := 61) hx hb dX9_kind_54 (by decide) (fun c_111 => ?_) (fun c_111 => ?_)
                  · have b_112 := gx_eq (X := (Int32.toInt n4)) (C := (Int32.toInt n3)) rfl rfl c_111
                    refine lv_iconst (v := 0) hx hb dX9_kind_61 (by decide) ?_
                    refine lv_istore (lv' := [(5, .int 0), (0, .ref h0), (1, .int n1), (2, .int n2), (3, .int n3), (4, .int n4)]) hx hb dX9_kind_62 hl (by decide) rfl (fun ls hl => ?_)
                    refine lv_iload hx hb dX9_kind_64 (lv_at hl 0 rfl) ?_
                    refine lv_if_ne (tgt := 71) hx hb dX9_kind_66 (by decide) (fun h => absurd h (by decide)) (fun _ => ?_)
                    refine lv_iconst (v := (-1)) hx hb dX9_kind_69 (by decide) ?_
                    have hF9 : ((-1) : Int32) = F_kind kn n1 n2 n3 n4 := (by (unfold F_kind; repeat' split) <;> first | rfl | (exfalso; omega))
                    have hP9 := hP.sub (ws' := [(h0, .inr (8, [.ref l5, .ref l3, .ref l6, .ref l7, .int (nI kn), .ref l4, .ref l1, .ref l2, .ref rw0, .ref rw1, .ref rw2, .int rm0, w12, w13, w14, w15, w16, w17, w18, w19, w20, w21, w22, w23, w24, w25, w26, w27, w28, w29, w30, w31, w32, w33, w34])), (l5, .inl (kl5, 30, .inl fpr)), (l3, .inl (kl3, 10, .inl fpm)), (l1, .inl (kl1, 10, .inl fll)), (l2, .inl (kl2, 10, .inl fmq)), (l4, .inl (kl4, 100, .inl fln)), (l6, .inl (kl6, 10, .inl fma)), (l7, .inl (kl7, 10, .inl fib)), (rw0, .inl (krw0, 40, .inl frw)), (rw1, .inl (krw1, 4, .inl fat)), (rw2, .inl (krw2, 4, .inl fen))]) [0, 1, 2, 3, 4, 5, 6, 7, 8, 9, 10] rfl
                    have hD9 := hD.sub (ws' := [(h0, .inr (8, [.ref l5, .ref l3, .ref l6, .ref l7, .int (nI kn), .ref l4, .ref l1, .ref l2, .ref rw0, .ref rw1, .ref rw2, .int rm0, w12, w13, w14, w15, w16, w17, w18, w19, w20, w21, w22, w23, w24, w25, w26, w27, w28, w29, w30, w31, w32, w33, w34])), (l5, .inl (kl5, 30, .inl fpr)), (l3, .inl (kl3, 10, .inl fpm)), (l1, .inl (kl1, 10, .inl fll)), (l2, .inl (kl2, 10, .inl fmq)), (l4, .inl (kl4, 100, .inl fln)), (l6, .inl (kl6, 10, .inl fma)), (l7, .inl (kl7, 10, .inl fib)), (rw0, .inl (krw0, 40, .inl frw)), (rw1, .inl (krw1, 4, .inl fat)), (rw2, .inl (krw2, 4, .inl fen))]) [0, 1, 2, 3, 4, 5, 6, 7, 8, 9, 10] (by decide) rfl
                    have hK9 := hK.sub (tys' := [(kl5, .int), (kl3, .int), (kl1, .int), (kl2, .int), (kl4, .int), (kl6, .int), (kl7, .boolean), (krw0, .int), (krw1, .int), (krw2, .int)]) [0, 1, 2, 3, 4, 5, 6, 7, 8, 9] rfl
                    exact W.iret (v := (-1)) hx hb hr (fun t ht hW => ⟨⟨(-1), (), rfl, hF9, kn, fpr, fpm, fma, fib, frw, fat, fen, fll, fmq, fln, rm0, (K_no (v := (-1)) hF9 (by decide)), (KB_no (v := (-1)) hF9 (by decide)), (KA_no (v := (-1)) hF9 (by decide)), (km_no (v := (-1)) hF9 (by decide)), hkn, hll, hln, hfat, hfen, by rw [ht]; exact hP9, va_K.moved hW.alike hK9, hD9⟩, hS.F ht⟩) hS.2.2 dX9_kind_70
                  · have b_112 := gn_eq (X := (Int32.toInt n4)) (C := (Int32.toInt n3)) rfl rfl c_111
                    refine lv_iconst (v := 1) hx hb dX9_kind_57 (by decide) ?_
                    refine lv_goto (tgt := 62) hx hb dX9_kind_58 (by decide) ?_
                    refine lv_istore (lv' := [(5, .int 1), (0, .ref h0), (1, .int n1), (2, .int n2), (3, .int n3), (4, .int n4)]) hx hb dX9_kind_62 hl (by decide) rfl (fun ls hl => ?_)
                    refine lv_iload hx hb dX9_kind_64 (lv_at hl 0 rfl) ?_
                    refine lv_if_ne (tgt := 71) hx hb dX9_kind_66 (by decide) (fun _ => ?_) (fun h => absurd h (by decide))
                    refine lv_iload_n hx hb dX9_kind_71 rfl (lv_at hl 2 rfl) ?_
                    refine lv_i2l hx hb dX9_kind_72 rfl ?_
                    refine lv_lconst (v := Int32.toInt64 0) hx hb dX9_kind_73 (by decide) ?_
                    refine lv_ldc2 (v := Int32.toInt64 3) hx hb hown (show (Cond.constantLong RX9 100 (Int32.toInt64 3)).before _ s = true from (hts _ mw_4_60)) dX9_kind_74 ?_
                    have hPc := hP.sub (ws' := []) [] rfl
                    have hDc := hD.sub (ws' := []) [] (by decide) rfl
                    have hKc := hK.sub (tys' := []) [] rfl
                    refine va_calli (va_runS (As := [.long (Int32.toInt64 n1), .long (Int32.toInt64 0), .long (Int32.toInt64 3)]) (rest := []) ⟨hx, hb, hml, hown, hts⟩ (m_in l dC dI H.size n1 0 3 0 3 (by decide) (by decide)) (va_cwS 3 hts (gS mw_4_57 mw_4_58 mw_1_9 mw_4_59) rfl rfl rfl (by decide +kernel) ⟨Nat.le_of_ble_eq_true rfl, Nat.le_of_ble_eq_true rfl⟩) ⟨pcW_blind, pcW_at hPc hKc hDc hN⟩ rfl rfl hl.1 rfl (lv_room (Nat.le_of_ble_eq_true rfl)) dX9_kind_77 ⟨Nat.le_of_ble_eq_true rfl, Nat.le_of_ble_eq_true rfl⟩) hS (fun q h1 h2 => absurd h2 (Nat.not_le.mpr h1)) (fun q h => hA q (Nat.le_trans hS.1 h)) (fun r_113 u t H1 locs ht hvm hw_113 hB hz1 hk1 hS => ?_)
                    have hP := keepP hP hk1
                    clear hz1 hk1 hB ht hvm hPc hDc hKc
                    generalize H1 = H at hP hS ⊢
                    rcases fx_bool hw_113 with ⟨rfl, b_114⟩ | ⟨rfl, b_114⟩
                    · skip
                      refine lv_if_ne (tgt := 86) hx hb dX9_kind_80 (by decide) (fun _ => ?_) (fun h => absurd h (by decide))
                      refine lv_aload_n hx hb dX9_kind_86 rfl (lv_at hl 1 rfl) ?_
                      refine va_get (D := (dC, dI)) (ci := 8) (v := .int (nI kn)) (C := RX9) (T := TX9) (N := 35) hx hb hts inB_9 hown hK hP 0 rfl rfl 4 (by decide) (hts _ mw_3_186) (fun _ h9 => h9) rfl dX9_kind_87 ?_
                      refine lv_bipush (v := 10) hx hb dX9_kind_90 (by decide) ?_
                      refine lv_icmp_ne (tgt := 98) hx hb dX9_kind_92 (by decide) (fun c_115 => ?_) (fun c_115 => ?_)
                      · have b_116 := gx_ne (X := ((kn : Nat) : Int)) (C := 10) (nI_toInt (by omega)) (by decide) c_115
                        obtain ⟨j_117, tj_117, ej_117⟩ := fx_nat (x := n1) (by omega)
                        subst ej_117
                        have yj_117 : Int32.toInt (nI j_117) = (j_117 : Int) := nI_toInt tj_117
                        refine lv_aload_n hx hb dX9_kind_98 rfl (lv_at hl 1 rfl) ?_
                        refine va_get (D := (dC, dI)) (ci := 8) (v := .ref l5) (C := RX9) (T := TX9) (N := 35) hx hb hts inB_9 hown hK hP 0 rfl rfl 0 (by decide) (hts _ mw_3_182) (fun _ h9 => h9) rfl dX9_kind_99 ?_
                        refine lv_iconst (v := 3) hx hb dX9_kind_102 (by decide) ?_
                        refine lv_aload_n hx hb dX9_kind_103 rfl (lv_at hl 1 rfl) ?_
                        refine va_get (D := (dC, dI)) (ci := 8) (v := .int (nI kn)) (C := RX9) (T := TX9) (N := 35) hx hb hts inB_9 hown hK hP 0 rfl rfl 4 (by decide) (hts _ mw_3_186) (fun _ h9 => h9) rfl dX9_kind_104 ?_
                        refine lv_imul hx hb dX9_kind_107 ?_
                        refine hx_top (y := (nI (3 * kn))) (pk_mul 3 kn) ?_
                        refine lv_iload_n hx hb dX9_kind_108 rfl (lv_at hl 3 rfl) ?_
                        refine va_iast hx hb hK hP hD hS 1 0 rfl rfl (show vp_in (nI (3 * kn)) 30 from vp_in_nI (by omega) (by omega)) dX9_kind_109 (fun H locs hP hD hS => ?_)
                        obtain ⟨f_118, ef_118⟩ : ∃ g : Nat → Int32, g = upd fpr (Int32.toNatClampNeg (nI (3 * kn))) n2 := ⟨_, rfl⟩
                        rw [← ef_118] at hP hD
                        have ef_118 : f_118 = upd fpr (3 * kn) n2 := by rw [ef_118, nI_clamp (by omega)]
                        have hP : va_P (dC, dI) vwCl [(h0, .inr (8, [.ref l5, .ref l3, .ref l6, .ref l7, .int (nI kn), .ref l4, .ref l1, .ref l2, .ref rw0, .ref rw1, .ref rw2, .int rm0, w12, w13, w14, w15, w16, w17, w18, w19, w20, w21, w22, w23, w24, w25, w26, w27, w28, w29, w30, w31, w32, w33, w34])), (l5, .inl (kl5, 30, .inl f_118)), (l3, .inl (kl3, 10, .inl fpm)), (l1, .inl (kl1, 10, .inl fll)), (l2, .inl (kl2, 10, .inl fmq)), (l4, .inl (kl4, 100, .inl fln)), (l6, .inl (kl6, 10, .inl fma)), (l7, .inl (kl7, 10, .inl fib)), (rw0, .inl (krw0, 40, .inl frw)), (rw1, .inl (krw1, 4, .inl fat)), (rw2, .inl (krw2, 4, .inl fen))] H := hP
                        have hD : va_D A [(h0, .inr (8, [.ref l5, .ref l3, .ref l6, .ref l7, .int (nI kn), .ref l4, .ref l1, .ref l2, .ref rw0, .ref rw1, .ref rw2, .int rm0, w12, w13, w14, w15, w16, w17, w18, w19, w20, w21, w22, w23, w24, w25, w26, w27, w28, w29, w30, w31, w32, w33, w34])), (l5, .inl (kl5, 30, .inl f_118)), (l3, .inl (kl3, 10, .inl fpm)), (l1, .inl (kl1, 10, .inl fll)), (l2, .inl (kl2, 10, .inl fmq)), (l4, .inl (kl4, 100, .inl fln)), (l6, .inl (kl6, 10, .inl fma)), (l7, .inl (kl7, 10, .inl fib)), (rw0, .inl (krw0, 40, .inl frw)), (rw1, .inl (krw1, 4, .inl fat)), (rw2, .inl (krw2, 4, .inl fen))] := hD
                        refine lv_aload_n hx hb dX9_kind_110 rfl (lv_at hl 1 rfl) ?_
                        refine va_get (D := (dC, dI)) (ci := 8) (v := .ref l5) (C := RX9) (T := TX9) (N := 35) hx hb hts inB_9 hown hK hP 0 rfl rfl 0 (by decide) (hts _ mw_3_182) (fun _ h9 => h9) rfl dX9_kind_111 ?_
                        refine lv_iconst (v := 3) hx hb dX9_kind_114 (by decide) ?_
                        refine lv_aload_n hx hb dX9_kind_115 rfl (lv_at hl 1 rfl) ?_
                        refine va_get (D := (dC, dI)) (ci := 8) (v := .int (nI kn)) (C := RX9) (T := TX9) (N := 35) hx hb hts inB_9 hown hK hP 0 rfl rfl 4 (by decide) (hts _ mw_3_186) (fun _ h9 => h9) rfl dX9_kind_116 ?_
                        refine lv_imul hx hb dX9_kind_119 ?_
                        refine hx_top (y := (nI (3 * kn))) (pk_mul 3 kn) ?_
                        refine lv_iconst (v := 1) hx hb dX9_kind_120 (by decide) ?_
                        refine lv_iadd hx hb dX9_kind_121 ?_
                        refine hx_top (y := (nI ((3 * kn) + 1))) (nI_add (3 * kn) 1) ?_
                        refine lv_iload_n hx hb dX9_kind_122 rfl (lv_at hl 4 rfl) ?_
                        refine va_iast hx hb hK hP hD hS 1 0 rfl rfl (show vp_in (nI ((3 * kn) + 1)) 30 from vp_in_nI (by omega) (by omega)) dX9_kind_123 (fun H locs hP hD hS => ?_)
                        obtain ⟨f_119, ef_119⟩ : ∃ g : Nat → Int32, g = upd f_118 (Int32.toNatClampNeg (nI ((3 * kn) + 1))) n3 := ⟨_, rfl⟩
                        rw [← ef_119] at hP hD
                        have ef_119 : f_119 = upd f_118 ((3 * kn) + 1) n3 := by rw [ef_119, nI_clamp (by omega)]
                        have hP : va_P (dC, dI) vwCl [(h0, .inr (8, [.ref l5, .ref l3, .ref l6, .ref l7, .int (nI kn), .ref l4, .ref l1, .ref l2, .ref rw0, .ref rw1, .ref rw2, .int rm0, w12, w13, w14, w15, w16, w17, w18, w19, w20, w21, w22, w23, w24, w25, w26, w27, w28, w29, w30, w31, w32, w33, w34])), (l5, .inl (kl5, 30, .inl f_119)), (l3, .inl (kl3, 10, .inl fpm)), (l1, .inl (kl1, 10, .inl fll)), (l2, .inl (kl2, 10, .inl fmq)), (l4, .inl (kl4, 100, .inl fln)), (l6, .inl (kl6, 10, .inl fma)), (l7, .inl (kl7, 10, .inl fib)), (rw0, .inl (krw0, 40, .inl frw)), (rw1, .inl (krw1, 4, .inl fat)), (rw2, .inl (krw2, 4, .inl fen))] H := hP
                        have hD : va_D A [(h0, .inr (8, [.ref l5, .ref l3, .ref l6, .ref l7, .int (nI kn), .ref l4, .ref l1, .ref l2, .ref rw0, .ref rw1, .ref rw2, .int rm0, w12, w13, w14, w15, w16, w17, w18, w19, w20, w21, w22, w23, w24, w25, w26, w27, w28, w29, w30, w31, w32, w33, w34])), (l5, .inl (kl5, 30, .inl f_119)), (l3, .inl (kl3, 10, .inl fpm)), (l1, .inl (kl1, 10, .inl fll)), (l2, .inl (kl2, 10, .inl fmq)), (l4, .inl (kl4, 100, .inl fln)), (l6, .inl (kl6, 10, .inl fma)), (l7, .inl (kl7, 10, .inl fib)), (rw0, .inl (krw0, 40, .inl frw)), (rw1, .inl (krw1, 4, .inl fat)), (rw2, .inl (krw2, 4, .inl fen))] := hD
                        refine lv_aload_n hx hb dX9_kind_124 rfl (lv_at hl 1 rfl) ?_
                        refine va_get (D := (dC, dI)) (ci := 8) (v := .ref l5) (C := RX9) (T := TX9) (N := 35) hx hb hts inB_9 hown hK hP 0 rfl rfl 0 (by decide) (hts _ mw_3_182) (fun _ h9 => h9) rfl dX9_kind_125 ?_
                        refine lv_iconst (v := 3) hx hb dX9_kind_128 (by decide) ?_
                        refine lv_aload_n hx hb dX9_kind_129 rfl (lv_at hl 1 rfl) ?_
                        refine va_get (D := (dC, dI)) (ci := 8) (v := .int (nI kn)) (C := RX9) (T := TX9) (N := 35) hx hb hts inB_9 hown hK hP 0 rfl rfl 4 (by decide) (hts _ mw_3_186) (fun _ h9 => h9) rfl dX9_kind_130 ?_
                        refine lv_imul hx hb dX9_kind_133 ?_
                        refine hx_top (y := (nI (3 * kn))) (pk_mul 3 kn) ?_
                        refine lv_iconst (v := 2) hx hb dX9_kind_134 (by decide) ?_
                        refine lv_iadd hx hb dX9_kind_135 ?_
                        refine hx_top (y := (nI ((3 * kn) + 2))) (nI_add (3 * kn) 2) ?_
                        refine lv_iload hx hb dX9_kind_136 (lv_at hl 5 rfl) ?_
                        refine va_iast hx hb hK hP hD hS 1 0 rfl rfl (show vp_in (nI ((3 * kn) + 2)) 30 from vp_in_nI (by omega) (by omega)) dX9_kind_138 (fun H locs hP hD hS => ?_)
                        obtain ⟨f_120, ef_120⟩ : ∃ g : Nat → Int32, g = upd f_119 (Int32.toNatClampNeg (nI ((3 * kn) + 2))) n4 := ⟨_, rfl⟩
                        rw [← ef_120] at hP hD
                        have ef_120 : f_120 = upd f_119 ((3 * kn) + 2) n4 := by rw [ef_120, nI_clamp (by omega)]
                        have hP : va_P (dC, dI) vwCl [(h0, .inr (8, [.ref l5, .ref l3, .ref l6, .ref l7, .int (nI kn), .ref l4, .ref l1, .ref l2, .ref rw0, .ref rw1, .ref rw2, .int rm0, w12, w13, w14, w15, w16, w17, w18, w19, w20, w21, w22, w23, w24, w25, w26, w27, w28, w29, w30, w31, w32, w33, w34])), (l5, .inl (kl5, 30, .inl f_120)), (l3, .inl (kl3, 10, .inl fpm)), (l1, .inl (kl1, 10, .inl fll)), (l2, .inl (kl2, 10, .inl fmq)), (l4, .inl (kl4, 100, .inl fln)), (l6, .inl (kl6, 10, .inl fma)), (l7, .inl (kl7, 10, .inl fib)), (rw0, .inl (krw0, 40, .inl frw)), (rw1, .inl (krw1, 4, .inl fat)), (rw2, .inl (krw2, 4, .inl fen))] H := hP
                        have hD : va_D A [(h0, .inr (8, [.ref l5, .ref l3, .ref l6, .ref l7, .int (nI kn), .ref l4, .ref l1, .ref l2, .ref rw0, .ref rw1, .ref rw2, .int rm0, w12, w13, w14, w15, w16, w17, w18, w19, w20, w21, w22, w23, w24, w25, w26, w27, w28, w29, w30, w31, w32, w33, w34])), (l5, .inl (kl5, 30, .inl f_120)), (l3, .inl (kl3, 10, .inl fpm)), (l1, .inl (kl1, 10, .inl fll)), (l2, .inl (kl2, 10, .inl fmq)), (l4, .inl (kl4, 100, .inl fln)), (l6, .inl (kl6, 10, .inl fma)), (l7, .inl (kl7, 10, .inl fib)), (rw0, .inl (krw0, 40, .inl frw)), (rw1, .inl (krw1, 4, .inl fat)), (rw2, .inl (krw2, 4, .inl fen))] := hD
                        refine lv_aload_n hx hb dX9_kind_139 rfl (lv_at hl 1 rfl) ?_
                        refine va_get (D := (dC, dI)) (ci := 8) (v := .ref l3) (C := RX9) (T := TX9) (N := 35) hx hb hts inB_9 hown hK hP 0 rfl rfl 1 (by decide) (hts _ mw_3_183) (fun _ h9 => h9) rfl dX9_kind_140 ?_
                        refine lv_aload_n hx hb dX9_kind_143 rfl (lv_at hl 1 rfl) ?_
                        refine va_get (D := (dC, dI)) (ci := 8) (v := .int (nI kn)) (C := RX9) (T := TX9) (N := 35) hx hb hts inB_9 hown hK hP 0 rfl rfl 4 (by decide) (hts _ mw_3_186) (fun _ h9 => h9) rfl dX9_kind_144 ?_
                        refine lv_iload_n hx hb dX9_kind_147 rfl (lv_at hl 2 rfl) ?_
                        refine va_iast hx hb hK hP hD hS 2 1 rfl rfl (show vp_in (nI kn) 10 from vp_in_nI (by omega) (by omega)) dX9_kind_148 (fun H locs hP hD hS => ?_)
                        obtain ⟨f_121, ef_121⟩ : ∃ g : Nat → Int32, g = upd fpm (Int32.toNatClampNeg (nI kn)) (nI j_117) := ⟨_, rfl⟩
                        rw [← ef_121] at hP hD
                        have ef_121 : f_121 = upd fpm kn (nI j_117) := by rw [ef_121, nI_clamp (by omega)]
                        have hP : va_P (dC, dI) vwCl [(h0, .inr (8, [.ref l5, .ref l3, .ref l6, .ref l7, .int (nI kn), .ref l4, .ref l1, .ref l2, .ref rw0, .ref rw1, .ref rw2, .int rm0, w12, w13, w14, w15, w16, w17, w18, w19, w20, w21, w22, w23, w24, w25, w26, w27, w28, w29, w30, w31, w32, w33, w34])), (l5, .inl (kl5, 30, .inl f_120)), (l3, .inl (kl3, 10, .inl f_121)), (l1, .inl (kl1, 10, .inl fll)), (l2, .inl (kl2, 10, .inl fmq)), (l4, .inl (kl4, 100, .inl fln)), (l6, .inl (kl6, 10, .inl fma)), (l7, .inl (kl7, 10, .inl fib)), (rw0, .inl (krw0, 40, .inl frw)), (rw1, .inl (krw1, 4, .inl fat)), (rw2, .inl (krw2, 4, .inl fen))] H := hP
                        have hD : va_D A [(h0, .inr (8, [.ref l5, .ref l3, .ref l6, .ref l7, .int (nI kn), .ref l4, .ref l1, .ref l2, .ref rw0, .ref rw1, .ref rw2, .int rm0, w12, w13, w14, w15, w16, w17, w18, w19, w20, w21, w22, w23, w24, w25, w26, w27, w28, w29, w30, w31, w32, w33, w34])), (l5, .inl (kl5, 30, .inl f_120)), (l3, .inl (kl3, 10, .inl f_121)), (l1, .inl (kl1, 10, .inl fll)), (l2, .inl (kl2, 10, .inl fmq)), (l4, .inl (kl4, 100, .inl fln)), (l6, .inl (kl6, 10, .inl fma)), (l7, .inl (kl7, 10, .inl fib)), (rw0, .inl (krw0, 40, .inl frw)), (rw1, .inl (krw1, 4, .inl fat)), (rw2, .inl (krw2, 4, .inl fen))] := hD
                        refine lv_aload_n hx hb dX9_kind_149 rfl (lv_at hl 1 rfl) ?_
                        refine va_get (D := (dC, dI)) (ci := 8) (v := .ref l6) (C := RX9) (T := TX9) (N := 35) hx hb hts inB_9 hown hK hP 0 rfl rfl 2 (by decide) (hts _ mw_3_184) (fun _ h9 => h9) rfl dX9_kind_150 ?_
                        refine lv_aload_n hx hb dX9_kind_153 rfl (lv_at hl 1 rfl) ?_
                        refine va_get (D := (dC, dI)) (ci := 8) (v := .int (nI kn)) (C := RX9) (T := TX9) (N := 35) hx hb hts inB_9 hown hK hP 0 rfl rfl 4 (by decide) (hts _ mw_3_186) (fun _ h9 => h9) rfl dX9_kind_154 ?_
                        refine lv_iconst (v := 0) hx hb dX9_kind_157 (by decide) ?_
                        refine va_iast hx hb hK hP hD hS 6 5 rfl rfl (show vp_in (nI kn) 10 from vp_in_nI (by omega) (by omega)) dX9_kind_158 (fun H locs hP hD hS => ?_)
                        obtain ⟨f_122, ef_122⟩ : ∃ g : Nat → Int32, g = upd fma (Int32.toNatClampNeg (nI kn)) 0 := ⟨_, rfl⟩
                        rw [← ef_122] at hP hD
                        have ef_122 : f_122 = upd fma kn 0 := by rw [ef_122, nI_clamp (by omega)]
                        have hP : va_P (dC, dI) vwCl [(h0, .inr (8, [.ref l5, .ref l3, .ref l6, .ref l7, .int (nI kn), .ref l4, .ref l1, .ref l2, .ref rw0, .ref rw1, .ref rw2, .int rm0, w12, w13, w14, w15, w16, w17, w18, w19, w20, w21, w22, w23, w24, w25, w26, w27, w28, w29, w30, w31, w32, w33, w34])), (l5, .inl (kl5, 30, .inl f_120)), (l3, .inl (kl3, 10, .inl f_121)), (l1, .inl (kl1, 10, .inl fll)), (l2, .inl (kl2, 10, .inl fmq)), (l4, .inl (kl4, 100, .inl fln)), (l6, .inl (kl6, 10, .inl f_122)), (l7, .inl (kl7, 10, .inl fib)), (rw0, .inl (krw0, 40, .inl frw)), (rw1, .inl (krw1, 4, .inl fat)), (rw2, .inl (krw2, 4, .inl fen))] H := hP
                        have hD : va_D A [(h0, .inr (8, [.ref l5, .ref l3, .ref l6, .ref l7, .int (nI kn), .ref l4, .ref l1, .ref l2, .ref rw0, .ref rw1, .ref rw2, .int rm0, w12, w13, w14, w15, w16, w17, w18, w19, w20, w21, w22, w23, w24, w25, w26, w27, w28, w29, w30, w31, w32, w33, w34])), (l5, .inl (kl5, 30, .inl f_120)), (l3, .inl (kl3, 10, .inl f_121)), (l1, .inl (kl1, 10, .inl fll)), (l2, .inl (kl2, 10, .inl fmq)), (l4, .inl (kl4, 100, .inl fln)), (l6, .inl (kl6, 10, .inl f_122)), (l7, .inl (kl7, 10, .inl fib)), (rw0, .inl (krw0, 40, .inl frw)), (rw1, .inl (krw1, 4, .inl fat)), (rw2, .inl (krw2, 4, .inl fen))] := hD
                        refine lv_aload_n hx hb dX9_kind_159 rfl (lv_at hl 1 rfl) ?_
                        refine va_get (D := (dC, dI)) (ci := 8) (v := .ref l7) (C := RX9) (T := TX9) (N := 35) hx hb hts inB_9 hown hK hP 0 rfl rfl 3 (by decide) (hts _ mw_3_185) (fun _ h9 => h9) rfl dX9_kind_160 ?_
                        refine lv_aload_n hx hb dX9_kind_163 rfl (lv_at hl 1 rfl) ?_
                        refine va_get (D := (dC, dI)) (ci := 8) (v := .int (nI kn)) (C := RX9) (T := TX9) (N := 35) hx hb hts inB_9 hown hK hP 0 rfl rfl 4 (by decide) (hts _ mw_3_186) (fun _ h9 => h9) rfl dX9_kind_164 ?_
                        refine lv_iconst (v := 0) hx hb dX9_kind_167 (by decide) ?_
                        refine va_zast hx hb hK hP hD hS 7 6 rfl rfl (show vp_in (nI kn) 10 from vp_in_nI (by omega) (by omega)) dX9_kind_168 (fun H locs hP hD hS => ?_)
                        obtain ⟨f_123, ef_123⟩ : ∃ g : Nat → Int32, g = upd fib (Int32.toNatClampNeg (nI kn)) (vp_nar .boolean 0) := ⟨_, rfl⟩
                        rw [← ef_123] at hP hD
                        have ef_123 : f_123 = upd fib kn (vp_nar .boolean 0) := by rw [ef_123, nI_clamp (by omega)]
                        have hP : va_P (dC, dI) vwCl [(h0, .inr (8, [.ref l5, .ref l3, .ref l6, .ref l7, .int (nI kn), .ref l4, .ref l1, .ref l2, .ref rw0, .ref rw1, .ref rw2, .int rm0, w12, w13, w14, w15, w16, w17, w18, w19, w20, w21, w22, w23, w24, w25, w26, w27, w28, w29, w30, w31, w32, w33, w34])), (l5, .inl (kl5, 30, .inl f_120)), (l3, .inl (kl3, 10, .inl f_121)), (l1, .inl (kl1, 10, .inl fll)), (l2, .inl (kl2, 10, .inl fmq)), (l4, .inl (kl4, 100, .inl fln)), (l6, .inl (kl6, 10, .inl f_122)), (l7, .inl (kl7, 10, .inl f_123)), (rw0, .inl (krw0, 40, .inl frw)), (rw1, .inl (krw1, 4, .inl fat)), (rw2, .inl (krw2, 4, .inl fen))] H := hP
                        have hD : va_D A [(h0, .inr (8, [.ref l5, .ref l3, .ref l6, .ref l7, .int (nI kn), .ref l4, .ref l1, .ref l2, .ref rw0, .ref rw1, .ref rw2, .int rm0, w12, w13, w14, w15, w16, w17, w18, w19, w20, w21, w22, w23, w24, w25, w26, w27, w28, w29, w30, w31, w32, w33, w34])), (l5, .inl (kl5, 30, .inl f_120)), (l3, .inl (kl3, 10, .inl f_121)), (l1, .inl (kl1, 10, .inl fll)), (l2, .inl (kl2, 10, .inl fmq)), (l4, .inl (kl4, 100, .inl fln)), (l6, .inl (kl6, 10, .inl f_122)), (l7, .inl (kl7, 10, .inl f_123)), (rw0, .inl (krw0, 40, .inl frw)), (rw1, .inl (krw1, 4, .inl fat)), (rw2, .inl (krw2, 4, .inl fen))] := hD
                        refine lv_iconst (v := 0) hx hb dX9_kind_169 (by decide) ?_
                        refine lv_istore (lv' := [(6, .int 0), (5, .int 1), (0, .ref h0), (1, .int (nI j_117)), (2, .int n2), (3, .int n3), (4, .int n4)]) hx hb dX9_kind_170 hl (by decide) rfl (fun ls hl => ?_)
                        have hprk : PrOk f_120 kn j_117 := pr_3 ef_118 ef_119 ef_120 (by omega) (fun q => by omega) (fun q => by omega) (fun q => by omega)
                        have hpp : ∀ i, i < 3 → f_120 (3 * kn + i) = par3 n2 n3 n4 i := p3_get ef_118 ef_119 ef_120
                        have key_124 : ∀ (fu : Nat) (k : Nat) (fax : Nat → Int32), (k ≤ j_117) → (fax = upd fma kn (abv fma (par3 n2 n3 n4) k)) → j_117 - k < fu → ∀ (H : Heap) (locs : List Loc), va_P (dC, dI) vwCl [(h0, .inr (8, [.ref l5, .ref l3, .ref l6, .ref l7, .int (nI kn), .ref l4, .ref l1, .ref l2, .ref rw0, .ref rw1, .ref rw2, .int rm0, w12, w13, w14, w15, w16, w17, w18, w19, w20, w21, w22, w23, w24, w25, w26, w27, w28, w29, w30, w31, w32, w33, w34])), (l5, .inl (kl5, 30, .inl f_120)), (l3, .inl (kl3, 10, .inl f_121)), (l1, .inl (kl1, 10, .inl fll)), (l2, .inl (kl2, 10, .inl fmq)), (l4, .inl (kl4, 100, .inl fln)), (l6, .inl (kl6, 10, .inl fax)), (l7, .inl (kl7, 10, .inl f_123)), (rw0, .inl (krw0, 40, .inl frw)), (rw1, .inl (krw1, 4, .inl fat)), (rw2, .inl (krw2, 4, .inl fen))] H → va_D A [(h0, .inr (8, [.ref l5, .ref l3, .ref l6, .ref l7, .int (nI kn), .ref l4, .ref l1, .ref l2, .ref rw0, .ref rw1, .ref rw2, .int rm0, w12, w13, w14, w15, w16, w17, w18, w19, w20, w21, w22, w23, w24, w25, w26, w27, w28, w29, w30, w31, w32, w33, w34])), (l5, .inl (kl5, 30, .inl f_120)), (l3, .inl (kl3, 10, .inl f_121)), (l1, .inl (kl1, 10, .inl fll)), (l2, .inl (kl2, 10, .inl fmq)), (l4, .inl (kl4, 100, .inl fln)), (l6, .inl (kl6, 10, .inl fax)), (l7, .inl (kl7, 10, .inl f_123)), (rw0, .inl (krw0, 40, .inl frw)), (rw1, .inl (krw1, 4, .inl fat)), (rw2, .inl (krw2, 4, .inl fen))] → va_S A s.heap H locs → ∀ (ls : Array Slot), lv_has ls 8 [(6, .int (nI k)), (5, .int 1), (0, .ref h0), (1, .int (nI j_117)), (2, .int n2), (3, .int n3), (4, .int n4)] → W p l e (headSpec (wq yX9_kind cX9_kind 8 (some .int)) ({ frames := 3, cells := 0, slots := 0, locals := 71 })).room s m (([.ref h0, .int (nI j_117), .int n2, .int n3, .int n4] : List Value)).toArray below meth c H locs 0 0 (MQ below (va_Qi (fun (r : Int32) (_ : Unit) => r = F_kind kn (nI j_117) n2 n3 n4) (fun _ t => ∃ (kn2 : Nat) (fpr2 : Nat → Int32) (fpm2 : Nat → Int32) (fma2 : Nat → Int32) (fib2 : Nat → Int32) (frw2 : Nat → Int32) (fat2 : Nat → Int32) (fen2 : Nat → Int32) (fll2 : Nat → Int32) (fmq2 : Nat → Int32) (fln2 : Nat → Int32) (rm2 : Int32), (kn2 = K_next kn (nI j_117) n2 n3 n4) ∧ (fib2 = KB_next kn fib (nI j_117) n2 n3 n4) ∧ (fma2 = KA_next kn fma (nI j_117) n2 n3 n4) ∧ (KmX kn fll fln fmq fll2 fln2 fmq2 (nI j_117) n2 n3 n4) ∧ (kn2 ≤ 10) ∧ (BdOk 10 10 fll2) ∧ (LnOk fll2 fln2 kn2) ∧ (BdOk 4 10 fat2) ∧ (BdOk 4 10 fen2) ∧ va_P (dC, dI) vwCl [(h0, .inr (8, [.ref l5, .ref l3, .ref l6, .ref l7, .int (nI kn2), .ref l4, .ref l1, .ref l2, .ref rw0, .ref rw1, .ref rw2, .int rm2, w12, w13, w14, w15, w16, w17, w18, w19, w20, w21, w22, w23, w24, w25, w26, w27, w28, w29, w30, w31, w32, w33, w34])), (l5, .inl (kl5, 30, .inl fpr2)), (l3, .inl (kl3, 10, .inl fpm2)), (l1, .inl (kl1, 10, .inl fll2)), (l2, .inl (kl2, 10, .inl fmq2)), (l4, .inl (kl4, 100, .inl fln2)), (l6, .inl (kl6, 10, .inl fma2)), (l7, .inl (kl7, 10, .inl fib2)), (rw0, .inl (krw0, 40, .inl frw2)), (rw1, .inl (krw1, 4, .inl fat2)), (rw2, .inl (krw2, 4, .inl fen2))] t.heap ∧ va_K (dC, dI) vwCl [(kl5, .int), (kl3, .int), (kl1, .int), (kl2, .int), (kl4, .int), (kl6, .int), (kl7, .boolean), (krw0, .int), (krw1, .int), (krw2, .int)] t ∧ va_D A [(h0, .inr (8, [.ref l5, .ref l3, .ref l6, .ref l7, .int (nI kn2), .ref l4, .ref l1, .ref l2, .ref rw0, .ref rw1, .ref rw2, .int rm2, w12, w13, w14, w15, w16, w17, w18, w19, w20, w21, w22, w23, w24, w25, w26, w27, w28, w29, w30, w31, w32, w33, w34])), (l5, .inl (kl5, 30, .inl fpr2)), (l3, .inl (kl3, 10, .inl fpm2)), (l1, .inl (kl1, 10, .inl fll2)), (l2, .inl (kl2, 10, .inl fmq2)), (l4, .inl (kl4, 100, .inl fln2)), (l6, .inl (kl6, 10, .inl fma2)), (l7, .inl (kl7, 10, .inl fib2)), (rw0, .inl (krw0, 40, .inl frw2)), (rw1, .inl (krw1, 4, .inl fat2)), (rw2, .inl (krw2, 4, .inl fen2))]) A) (([.ref h0, .int (nI j_117), .int n2, .int n3, .int n4] : List Value)).toArray s 0 0 A) (F0 m 172 ls []) := by
                          intro fu
                          induction fu with
                          | zero => intro k fax hk hax hme; exact absurd hme (Nat.not_lt_zero _)
                          | succ fu ih_125 =>
                            intro k fax hk hax hme H locs hP hD hS ls hl
                            refine lv_iload hx hb dX9_kind_172 (lv_at hl 0 rfl) ?_
                            refine lv_iload_n hx hb dX9_kind_174 rfl (lv_at hl 3 rfl) ?_
                            refine lv_icmp_ge (tgt := 224) hx hb dX9_kind_175 (by decide) (fun c_126 => ?_) (fun c_126 => ?_)
                            · have b_127 := gx_ge (X := ((k : Nat) : Int)) (C := ((j_117 : Nat) : Int)) (nI_toInt (by omega)) (nI_toInt (by omega)) c_126
                              refine lv_aload_n hx hb dX9_kind_224 rfl (lv_at hl 2 rfl) ?_
                              refine lv_aload_n hx hb dX9_kind_225 rfl (lv_at hl 2 rfl) ?_
                              refine va_get (D := (dC, dI)) (ci := 8) (v := .int (nI kn)) (C := RX9) (T := TX9) (N := 35) hx hb hts inB_9 hown hK hP 0 rfl rfl 4 (by decide) (hts _ mw_3_186) (fun _ h9 => h9) rfl dX9_kind_226 ?_
                              have hPc := hP.sub (ws' := [(h0, .inr (8, [.ref l5, .ref l3, .ref l6, .ref l7, .int (nI kn), .ref l4, .ref l1, .ref l2, .ref rw0, .ref rw1, .ref rw2, .int rm0, w12, w13, w14, w15, w16, w17, w18, w19, w20, w21, w22, w23, w24, w25, w26, w27, w28, w29, w30, w31, w32, w33, w34])), (l5, .inl (kl5, 30, .inl f_120)), (l3, .inl (kl3, 10, .inl f_121)), (l1, .inl (kl1, 10, .inl fll)), (l2, .inl (kl2, 10, .inl fmq)), (l4, .inl (kl4, 100, .inl fln)), (rw0, .inl (krw0, 40, .inl frw)), (rw1, .inl (krw1, 4, .inl fat)), (rw2, .inl (krw2, 4, .inl fen))]) [0, 1, 2, 3, 4, 5, 8, 9, 10] rfl
                              have hDc := hD.sub (ws' := [(h0, .inr (8, [.ref l5, .ref l3, .ref l6, .ref l7, .int (nI kn), .ref l4, .ref l1, .ref l2, .ref rw0, .ref rw1, .ref rw2, .int rm0, w12, w13, w14, w15, w16, w17, w18, w19, w20, w21, w22, w23, w24, w25, w26, w27, w28, w29, w30, w31, w32, w33, w34])), (l5, .inl (kl5, 30, .inl f_120)), (l3, .inl (kl3, 10, .inl f_121)), (l1, .inl (kl1, 10, .inl fll)), (l2, .inl (kl2, 10, .inl fmq)), (l4, .inl (kl4, 100, .inl fln)), (rw0, .inl (krw0, 40, .inl frw)), (rw1, .inl (krw1, 4, .inl fat)), (rw2, .inl (krw2, 4, .inl fen))]) [0, 1, 2, 3, 4, 5, 8, 9, 10] (by decide) rfl
                              have hKc := hK.sub (tys' := [(kl5, .int), (kl3, .int), (kl1, .int), (kl2, .int), (kl4, .int), (krw0, .int), (krw1, .int), (krw2, .int)]) [0, 1, 2, 3, 4, 7, 8, 9] rfl
                              have hFc := va_free (wc := [(h0, .inr (8, [.ref l5, .ref l3, .ref l6, .ref l7, .int (nI kn), .ref l4, .ref l1, .ref l2, .ref rw0, .ref rw1, .ref rw2, .int rm0, w12, w13, w14, w15, w16, w17, w18, w19, w20, w21, w22, w23, w24, w25, w26, w27, w28, w29, w30, w31, w32, w33, w34])), (l5, .inl (kl5, 30, .inl f_120)), (l3, .inl (kl3, 10, .inl f_121)), (l1, .inl (kl1, 10, .inl fll)), (l2, .inl (kl2, 10, .inl fmq)), (l4, .inl (kl4, 100, .inl fln)), (rw0, .inl (krw0, 40, .inl frw)), (rw1, .inl (krw1, 4, .inl fat)), (rw2, .inl (krw2, 4, .inl fen))]) hD hS hA [0, 1, 2, 3, 4, 5, 8, 9, 10] rfl
                              refine va_callv (va_runV (As := [.int (nI kn)]) (rest := []) ⟨hx, hb, hml, hown, hts⟩ (m_layLine l dC dI H.size h0 l5 l3 (.ref l6) (.ref l7) (.int (nI kn)) l4 l1 l2 rw0 rw1 rw2 rm0 (w12) (w13) (w14) (w15) (w16) (w17) (w18) (w19) (w20) (w21) (w22) (w23) (w24) (w25) (w26) (w27) (w28) (w29) (w30) (w31) (w32) (w33) (w34) kl5 f_120 kl3 f_121 kl1 fll kl2 fmq kl4 fln krw0 frw krw1 fat krw2 fen kn j_117 (by omega) (by rw [ef_121]; exact pk_us) (by omega) hprk hll hln hfat hfen) (cwV 1 hts (gV mw_4_61 mw_4_63 mw_0_16 mw_1_9 mw_4_64) rfl rfl rfl (by decide +kernel) ⟨Nat.le_of_ble_eq_true rfl, Nat.le_of_ble_eq_true rfl⟩) ⟨pcW_blind, va_recv hKc hPc (ci := 8) (q0 := 0) rfl rfl, pcW_at hPc hKc hDc hN⟩ rfl rfl hl.1 rfl (lv_room (Nat.le_of_ble_eq_true rfl)) dX9_kind_229 ⟨Nat.le_of_ble_eq_true rfl, Nat.le_of_ble_eq_true rfl⟩) hS (fun q _ h => hFc q h) hFc (fun u t H1 locs ht hvm hw_128 hB hz1 hk1 hS => ?_)
                              obtain ⟨f_129, f_130, f_131, f_132, f_133, f_134, z_135, p_136, p_137, p_138, p_139, p_140, hP1, hK1, hD1⟩ := hB
                              rw [ht] at hP1
                              have hK1 := va_K.moved hvm.symm hK1
                              obtain ⟨hP, hD⟩ := va_join (wr := [(l6, .inl (kl6, 10, .inl fax)), (l7, .inl (kl7, 10, .inl f_123))]) (w1 := [(h0, .inr (8, [.ref l5, .ref l3, .ref l6, .ref l7, .int (nI kn), .ref l4, .ref l1, .ref l2, .ref rw0, .ref rw1, .ref rw2, .int z_135, w12, w13, w14, w15, w16, w17, w18, w19, w20, w21, w22, w23, w24, w25, w26, w27, w28, w29, w30, w31, w32, w33, w34])), (l5, .inl (kl5, 30, .inl f_120)), (l3, .inl (kl3, 10, .inl f_121)), (l1, .inl (kl1, 10, .inl f_132)), (l2, .inl (kl2, 10, .inl f_133)), (l4, .inl (kl4, 100, .inl f_134)), (rw0, .inl (krw0, 40, .inl f_129)), (rw1, .inl (krw1, 4, .inl f_130)), (rw2, .inl (krw2, 4, .inl f_131))]) hP hD [0, 1, 2, 3, 4, 5, 8, 9, 10] [6, 7] rfl rfl (by decide) (by decide) hk1 hFc hP1 hD1
                              have hK := (hK.sub (tys' := [(kl6, .int), (kl7, .boolean)]) [5, 6] rfl).app hK1
                              clear hz1 hk1 hPc hDc hKc hFc
                              generalize H1 = H at hP hS ⊢
                              have hK : va_K (dC, dI) vwCl [(kl6, .int), (kl7, .boolean), (kl5, .int), (kl3, .int), (kl1, .int), (kl2, .int), (kl4, .int), (krw0, .int), (krw1, .int), (krw2, .int)] s := hK
                              have hP : va_P (dC, dI) vwCl [(l6, .inl (kl6, 10, .inl fax)), (l7, .inl (kl7, 10, .inl f_123)), (h0, .inr (8, [.ref l5, .ref l3, .ref l6, .ref l7, .int (nI kn), .ref l4, .ref l1, .ref l2, .ref rw0, .ref rw1, .ref rw2, .int z_135, w12, w13, w14, w15, w16, w17, w18, w19, w20, w21, w22, w23, w24, w25, w26, w27, w28, w29, w30, w31, w32, w33, w34])), (l5, .inl (kl5, 30, .inl f_120)), (l3, .inl (kl3, 10, .inl f_121)), (l1, .inl (kl1, 10, .inl f_132)), (l2, .inl (kl2, 10, .inl f_133)), (l4, .inl (kl4, 100, .inl f_134)), (rw0, .inl (krw0, 40, .inl f_129)), (rw1, .inl (krw1, 4, .inl f_130)), (rw2, .inl (krw2, 4, .inl f_131))] H := hP
                              have hD : va_D A [(l6, .inl (kl6, 10, .inl fax)), (l7, .inl (kl7, 10, .inl f_123)), (h0, .inr (8, [.ref l5, .ref l3, .ref l6, .ref l7, .int (nI kn), .ref l4, .ref l1, .ref l2, .ref rw0, .ref rw1, .ref rw2, .int z_135, w12, w13, w14, w15, w16, w17, w18, w19, w20, w21, w22, w23, w24, w25, w26, w27, w28, w29, w30, w31, w32, w33, w34])), (l5, .inl (kl5, 30, .inl f_120)), (l3, .inl (kl3, 10, .inl f_121)), (l1, .inl (kl1, 10, .inl f_132)), (l2, .inl (kl2, 10, .inl f_133)), (l4, .inl (kl4, 100, .inl f_134)), (rw0, .inl (krw0, 40, .inl f_129)), (rw1, .inl (krw1, 4, .inl f_130)), (rw2, .inl (krw2, 4, .inl f_131))] := hD
                              refine lv_aload_n hx hb dX9_kind_232 rfl (lv_at hl 2 rfl) ?_
                              refine lv_dup hx hb dX9_kind_233 rfl ?_
                              refine va_get (D := (dC, dI)) (ci := 8) (v := .int (nI kn)) (C := RX9) (T := TX9) (N := 35) hx hb hts inB_9 hown hK hP 2 rfl rfl 4 (by decide) (hts _ mw_3_186) (fun _ h9 => h9) rfl dX9_kind_234 ?_
                              refine lv_iconst (v := 1) hx hb dX9_kind_237 (by decide) ?_
                              refine lv_iadd hx hb dX9_kind_238 ?_
                              refine hx_top (y := (nI (kn + 1))) (nI_add kn 1) ?_
                              refine va_put (D := (dC, dI)) (ci := 8) (v := .int (nI (kn + 1))) (ty := .int) (C := RX9) (T := TX9) (N := 35) hx hb hts inB_9 tyX9 tyX9_ok nmX9 hown hK hP hD hS 2 rfl rfl 4 (by decide) (hts _ mw_3_186) (fun _ h9 => h9) rfl (by decide +kernel) rfl rfl (Nat.le_of_ble_eq_true rfl) dX9_kind_239 (fun H locs hP hD hS => ?_)
                              have hP : va_P (dC, dI) vwCl [(l6, .inl (kl6, 10, .inl fax)), (l7, .inl (kl7, 10, .inl f_123)), (h0, .inr (8, [.ref l5, .ref l3, .ref l6, .ref l7, .int (nI (kn + 1)), .ref l4, .ref l1, .ref l2, .ref rw0, .ref rw1, .ref rw2, .int z_135, w12, w13, w14, w15, w16, w17, w18, w19, w20, w21, w22, w23, w24, w25, w26, w27, w28, w29, w30, w31, w32, w33, w34])), (l5, .inl (kl5, 30, .inl f_120)), (l3, .inl (kl3, 10, .inl f_121)), (l1, .inl (kl1, 10, .inl f_132)), (l2, .inl (kl2, 10, .inl f_133)), (l4, .inl (kl4, 100, .inl f_134)), (rw0, .inl (krw0, 40, .inl f_129)), (rw1, .inl (krw1, 4, .inl f_130)), (rw2, .inl (krw2, 4, .inl f_131))] H := hP
                              have hD : va_D A [(l6, .inl (kl6, 10, .inl fax)), (l7, .inl (kl7, 10, .inl f_123)), (h0, .inr (8, [.ref l5, .ref l3, .ref l6, .ref l7, .int (nI (kn + 1)), .ref l4, .ref l1, .ref l2, .ref rw0, .ref rw1, .ref rw2, .int z_135, w12, w13, w14, w15, w16, w17, w18, w19, w20, w21, w22, w23, w24, w25, w26, w27, w28, w29, w30, w31, w32, w33, w34])), (l5, .inl (kl5, 30, .inl f_120)), (l3, .inl (kl3, 10, .inl f_121)), (l1, .inl (kl1, 10, .inl f_132)), (l2, .inl (kl2, 10, .inl f_133)), (l4, .inl (kl4, 100, .inl f_134)), (rw0, .inl (krw0, 40, .inl f_129)), (rw1, .inl (krw1, 4, .inl f_130)), (rw2, .inl (krw2, 4, .inl f_131))] := hD
                              refine lv_aload_n hx hb dX9_kind_242 rfl (lv_at hl 2 rfl) ?_
                              refine va_get (D := (dC, dI)) (ci := 8) (v := .int (nI (kn + 1))) (C := RX9) (T := TX9) (N := 35) hx hb hts inB_9 hown hK hP 2 rfl rfl 4 (by decide) (hts _ mw_3_186) (fun _ h9 => h9) rfl dX9_kind_243 ?_
                              refine lv_iconst (v := 1) hx hb dX9_kind_246 (by decide) ?_
                              refine lv_isub hx hb dX9_kind_247 ?_
                              refine hx_top (y := (nI ((kn + 1) - 1))) (pk_sub (a := (kn + 1)) (b := 1) (by omega)) ?_
                              have hF9 : nI kn = F_kind kn (nI j_117) n2 n3 n4 := (by (unfold F_kind; repeat' split) <;> first | rfl | (exfalso; omega))
                              have hP9 := hP.sub (ws' := [(h0, .inr (8, [.ref l5, .ref l3, .ref l6, .ref l7, .int (nI (kn + 1)), .ref l4, .ref l1, .ref l2, .ref rw0, .ref rw1, .ref rw2, .int z_135, w12, w13, w14, w15, w16, w17, w18, w19, w20, w21, w22, w23, w24, w25, w26, w27, w28, w29, w30, w31, w32, w33, w34])), (l5, .inl (kl5, 30, .inl f_120)), (l3, .inl (kl3, 10, .inl f_121)), (l1, .inl (kl1, 10, .inl f_132)), (l2, .inl (kl2, 10, .inl f_133)), (l4, .inl (kl4, 100, .inl f_134)), (l6, .inl (kl6, 10, .inl fax)), (l7, .inl (kl7, 10, .inl f_123)), (rw0, .inl (krw0, 40, .inl f_129)), (rw1, .inl (krw1, 4, .inl f_130)), (rw2, .inl (krw2, 4, .inl f_131))]) [2, 3, 4, 5, 6, 7, 0, 1, 8, 9, 10] rfl
                              have hD9 := hD.sub (ws' := [(h0, .inr (8, [.ref l5, .ref l3, .ref l6, .ref l7, .int (nI (kn + 1)), .ref l4, .ref l1, .ref l2, .ref rw0, .ref rw1, .ref rw2, .int z_135, w12, w13, w14, w15, w16, w17, w18, w19, w20, w21, w22, w23, w24, w25, w26, w27, w28, w29, w30, w31, w32, w33, w34])), (l5, .inl (kl5, 30, .inl f_120)), (l3, .inl (kl3, 10, .inl f_121)), (l1, .inl (kl1, 10, .inl f_132)), (l2, .inl (kl2, 10, .inl f_133)), (l4, .inl (kl4, 100, .inl f_134)), (l6, .inl (kl6, 10, .inl fax)), (l7, .inl (kl7, 10, .inl f_123)), (rw0, .inl (krw0, 40, .inl f_129)), (rw1, .inl (krw1, 4, .inl f_130)), (rw2, .inl (krw2, 4, .inl f_131))]) [2, 3, 4, 5, 6, 7, 0, 1, 8, 9, 10] (by decide) rfl
                              have hK9 := hK.sub (tys' := [(kl5, .int), (kl3, .int), (kl1, .int), (kl2, .int), (kl4, .int), (kl6, .int), (kl7, .boolean), (krw0, .int), (krw1, .int), (krw2, .int)]) [2, 3, 4, 5, 6, 0, 1, 7, 8, 9] rfl
                              exact W.iret (v := (nI ((kn + 1) - 1))) hx hb hr (fun t ht hW => ⟨⟨(nI ((kn + 1) - 1)), (), rfl, hF9, (kn + 1), f_120, f_121, fax, f_123, f_129, f_130, f_131, f_132, f_133, f_134, z_135, (K_yes hF9 (by omega)), (KB_yes hF9 (by omega) ef_123), (KA_yes (m := j_117) hF9 (by omega) (nI_clamp (by omega)) (by rw [hax, show k = j_117 from (by omega)])), (km_yes (m := j_117) hF9 (by omega) (nI_clamp (by omega)) (km_p hpp (by omega) p_140)), (by omega), p_136, p_137, p_138, p_139, by rw [ht]; exact hP9, va_K.moved hW.alike hK9, hD9⟩, hS.F ht⟩) hS.2.2 dX9_kind_248
                            · have b_127 := gn_ge (X := ((k : Nat) : Int)) (C := ((j_117 : Nat) : Int)) (nI_toInt (by omega)) (nI_toInt (by omega)) c_126
                              refine lv_aload_n hx hb dX9_kind_178 rfl (lv_at hl 2 rfl) ?_
                              refine va_get (D := (dC, dI)) (ci := 8) (v := .ref l5) (C := RX9) (T := TX9) (N := 35) hx hb hts inB_9 hown hK hP 0 rfl rfl 0 (by decide) (hts _ mw_3_182) (fun _ h9 => h9) rfl dX9_kind_179 ?_
                              refine lv_iconst (v := 3) hx hb dX9_kind_182 (by decide) ?_
                              refine lv_aload_n hx hb dX9_kind_183 rfl (lv_at hl 2 rfl) ?_
                              refine va_get (D := (dC, dI)) (ci := 8) (v := .int (nI kn)) (C := RX9) (T := TX9) (N := 35) hx hb hts inB_9 hown hK hP 0 rfl rfl 4 (by decide) (hts _ mw_3_186) (fun _ h9 => h9) rfl dX9_kind_184 ?_
                              refine lv_imul hx hb dX9_kind_187 ?_
                              refine hx_top (y := (nI (3 * kn))) (pk_mul 3 kn) ?_
                              refine lv_iload hx hb dX9_kind_188 (lv_at hl 0 rfl) ?_
                              refine lv_iadd hx hb dX9_kind_190 ?_
                              refine hx_top (y := (nI ((3 * kn) + k))) (nI_add (3 * kn) k) ?_
                              refine va_iald hx hb hK hP 1 0 rfl rfl (show vp_in (nI ((3 * kn) + k)) 30 from vp_in_nI (by omega) (by omega)) dX9_kind_191 ?_
                              refine hx_top (y := (f_120 ((3 * kn) + k))) (congrArg _ (nI_clamp (by omega))) ?_
                              obtain ⟨n_141, hn_141, en_141⟩ := hprk k (by omega)
                              refine hx_top (y := (nI n_141)) en_141 ?_
                              refine lv_istore (lv' := [(7, .int (nI n_141)), (6, .int (nI k)), (5, .int 1), (0, .ref h0), (1, .int (nI j_117)), (2, .int n2), (3, .int n3), (4, .int n4)]) hx hb dX9_kind_192 hl (by decide) rfl (fun ls hl => ?_)
                              refine lv_aload_n hx hb dX9_kind_194 rfl (lv_at hl 3 rfl) ?_
                              refine va_get (D := (dC, dI)) (ci := 8) (v := .ref l6) (C := RX9) (T := TX9) (N := 35) hx hb hts inB_9 hown hK hP 0 rfl rfl 2 (by decide) (hts _ mw_3_184) (fun _ h9 => h9) rfl dX9_kind_195 ?_
                              refine lv_aload_n hx hb dX9_kind_198 rfl (lv_at hl 3 rfl) ?_
                              refine va_get (D := (dC, dI)) (ci := 8) (v := .int (nI kn)) (C := RX9) (T := TX9) (N := 35) hx hb hts inB_9 hown hK hP 0 rfl rfl 4 (by decide) (hts _ mw_3_186) (fun _ h9 => h9) rfl dX9_kind_199 ?_
                              refine lv_dup2_11 hx hb dX9_kind_202 rfl rfl ?_
                              refine va_iald hx hb hK hP 6 5 rfl rfl (show vp_in (nI kn) 10 from vp_in_nI (by omega) (by omega)) dX9_kind_203 ?_
                              refine hx_top (y := (fax kn)) (congrArg _ (nI_clamp (by omega))) ?_
                              refine lv_aload_n hx hb dX9_kind_204 rfl (lv_at hl 3 rfl) ?_
                              refine va_get (D := (dC, dI)) (ci := 8) (v := .ref l6) (C := RX9) (T := TX9) (N := 35) hx hb hts inB_9 hown hK hP 0 rfl rfl 2 (by decide) (hts _ mw_3_184) (fun _ h9 => h9) rfl dX9_kind_205 ?_
                              refine lv_iload hx hb dX9_kind_208 (lv_at hl 0 rfl) ?_
                              refine va_iald hx hb hK hP 6 5 rfl rfl (show vp_in (nI n_141) 10 from vp_in_nI (by omega) (by omega)) dX9_kind_210 ?_
                              refine hx_top (y := (fax n_141)) (congrArg _ (nI_clamp (by omega))) ?_
                              refine lv_iconst (v := 1) hx hb dX9_kind_211 (by decide) ?_
                              refine lv_iload hx hb dX9_kind_212 (lv_at hl 0 rfl) ?_
                              refine lv_ishl hx hb dX9_kind_214 ?_
                              refine lv_ior hx hb dX9_kind_215 ?_
                              refine lv_ior hx hb dX9_kind_216 ?_
                              refine va_iast hx hb hK hP hD hS 6 5 rfl rfl (show vp_in (nI kn) 10 from vp_in_nI (by omega) (by omega)) dX9_kind_217 (fun H locs hP hD hS => ?_)
                              obtain ⟨f_142, ef_142⟩ : ∃ g : Nat → Int32, g = upd fax (Int32.toNatClampNeg (nI kn)) ((fax kn) ||| ((fax n_141) ||| (1 <<< ((nI n_141) &&& 31)))) := ⟨_, rfl⟩
                              rw [← ef_142] at hP hD
                              have ef_142 : f_142 = upd fax kn ((fax kn) ||| ((fax n_141) ||| (1 <<< ((nI n_141) &&& 31)))) := by rw [ef_142, nI_clamp (by omega)]
                              have hP : va_P (dC, dI) vwCl [(h0, .inr (8, [.ref l5, .ref l3, .ref l6, .ref l7, .int (nI kn), .ref l4, .ref l1, .ref l2, .ref rw0, .ref rw1, .ref rw2, .int rm0, w12, w13, w14, w15, w16, w17, w18, w19, w20, w21, w22, w23, w24, w25, w26, w27, w28, w29, w30, w31, w32, w33, w34])), (l5, .inl (kl5, 30, .inl f_120)), (l3, .inl (kl3, 10, .inl f_121)), (l1, .inl (kl1, 10, .inl fll)), (l2, .inl (kl2, 10, .inl fmq)), (l4, .inl (kl4, 100, .inl fln)), (l6, .inl (kl6, 10, .inl f_142)), (l7, .inl (kl7, 10, .inl f_123)), (rw0, .inl (krw0, 40, .inl frw)), (rw1, .inl (krw1, 4, .inl fat)), (rw2, .inl (krw2, 4, .inl fen))] H := hP
                              have hD : va_D A [(h0, .inr (8, [.ref l5, .ref l3, .ref l6, .ref l7, .int (nI kn), .ref l4, .ref l1, .ref l2, .ref rw0, .ref rw1, .ref rw2, .int rm0, w12, w13, w14, w15, w16, w17, w18, w19, w20, w21, w22, w23, w24, w25, w26, w27, w28, w29, w30, w31, w32, w33, w34])), (l5, .inl (kl5, 30, .inl f_120)), (l3, .inl (kl3, 10, .inl f_121)), (l1, .inl (kl1, 10, .inl fll)), (l2, .inl (kl2, 10, .inl fmq)), (l4, .inl (kl4, 100, .inl fln)), (l6, .inl (kl6, 10, .inl f_142)), (l7, .inl (kl7, 10, .inl f_123)), (rw0, .inl (krw0, 40, .inl frw)), (rw1, .inl (krw1, 4, .inl fat)), (rw2, .inl (krw2, 4, .inl fen))] := hD
                              refine lv_iinc (v := (nI (k + 1))) (lv' := [(6, .int (nI (k + 1))), (7, .int (nI n_141)), (5, .int 1), (0, .ref h0), (1, .int (nI j_117)), (2, .int n2), (3, .int n3), (4, .int n4)]) hx hb dX9_kind_218 hl (k := 1) rfl (nI_add k 1) (by decide) rfl (fun ls hl => ?_)
                              refine lv_goto (tgt := 172) hx hb dX9_kind_221 (by decide) ?_
                              exact ih_125 (k + 1) f_142 (by omega) (ab_stepM hax ((hpp k (by omega)).symm.trans en_141) (by omega) (by omega) ef_142) (by omega) _ _ hP hD hS ls (lv_sub hl [0, 2, 3, 4, 5, 6, 7] rfl)
                        exact key_124 ((j_117 - 0) + 1) 0 f_122 (by omega) ef_122 (Nat.lt_succ_self _) _ _ hP hD hS ls (lv_sub hl [0, 1, 2, 3, 4, 5, 6] rfl)
                      · have b_116 := gn_ne (X := ((kn : Nat) : Int)) (C := 10) (nI_toInt (by omega)) (by decide) c_115
                        refine lv_bipush (v := (-4)) hx hb dX9_kind_95 (by decide) ?_
                        have hF9 : ((-4) : Int32) = F_kind kn n1 n2 n3 n4 := (by (unfold F_kind; repeat' split) <;> first | rfl | (exfalso; omega))
                        have hP9 := hP.sub (ws' := [(h0, .inr (8, [.ref l5, .ref l3, .ref l6, .ref l7, .int (nI kn), .ref l4, .ref l1, .ref l2, .ref rw0, .ref rw1, .ref rw2, .int rm0, w12, w13, w14, w15, w16, w17, w18, w19, w20, w21, w22, w23, w24, w25, w26, w27, w28, w29, w30, w31, w32, w33, w34])), (l5, .inl (kl5, 30, .inl fpr)), (l3, .inl (kl3, 10, .inl fpm)), (l1, .inl (kl1, 10, .inl fll)), (l2, .inl (kl2, 10, .inl fmq)), (l4, .inl (kl4, 100, .inl fln)), (l6, .inl (kl6, 10, .inl fma)), (l7, .inl (kl7, 10, .inl fib)), (rw0, .inl (krw0, 40, .inl frw)), (rw1, .inl (krw1, 4, .inl fat)), (rw2, .inl (krw2, 4, .inl fen))]) [0, 1, 2, 3, 4, 5, 6, 7, 8, 9, 10] rfl
                        have hD9 := hD.sub (ws' := [(h0, .inr (8, [.ref l5, .ref l3, .ref l6, .ref l7, .int (nI kn), .ref l4, .ref l1, .ref l2, .ref rw0, .ref rw1, .ref rw2, .int rm0, w12, w13, w14, w15, w16, w17, w18, w19, w20, w21, w22, w23, w24, w25, w26, w27, w28, w29, w30, w31, w32, w33, w34])), (l5, .inl (kl5, 30, .inl fpr)), (l3, .inl (kl3, 10, .inl fpm)), (l1, .inl (kl1, 10, .inl fll)), (l2, .inl (kl2, 10, .inl fmq)), (l4, .inl (kl4, 100, .inl fln)), (l6, .inl (kl6, 10, .inl fma)), (l7, .inl (kl7, 10, .inl fib)), (rw0, .inl (krw0, 40, .inl frw)), (rw1, .inl (krw1, 4, .inl fat)), (rw2, .inl (krw2, 4, .inl fen))]) [0, 1, 2, 3, 4, 5, 6, 7, 8, 9, 10] (by decide) rfl
                        have hK9 := hK.sub (tys' := [(kl5, .int), (kl3, .int), (kl1, .int), (kl2, .int), (kl4, .int), (kl6, .int), (kl7, .boolean), (krw0, .int), (krw1, .int), (krw2, .int)]) [0, 1, 2, 3, 4, 5, 6, 7, 8, 9] rfl
                        exact W.iret (v := (-4)) hx hb hr (fun t ht hW => ⟨⟨(-4), (), rfl, hF9, kn, fpr, fpm, fma, fib, frw, fat, fen, fll, fmq, fln, rm0, (K_no (v := (-4)) hF9 (by decide)), (KB_no (v := (-4)) hF9 (by decide)), (KA_no (v := (-4)) hF9 (by decide)), (km_no (v := (-4)) hF9 (by decide)), hkn, hll, hln, hfat, hfen, by rw [ht]; exact hP9, va_K.moved hW.alike hK9, hD9⟩, hS.F ht⟩) hS.2.2 dX9_kind_97
                    · skip
                      refine lv_if_ne (tgt := 86) hx hb dX9_kind_80 (by decide) (fun h => absurd h (by decide)) (fun _ => ?_)
                      refine lv_bipush (v := (-2)) hx hb dX9_kind_83 (by decide) ?_
                      have hF9 : ((-2) : Int32) = F_kind kn n1 n2 n3 n4 := (by (unfold F_kind; repeat' split) <;> first | rfl | (exfalso; omega))
                      have hP9 := hP.sub (ws' := [(h0, .inr (8, [.ref l5, .ref l3, .ref l6, .ref l7, .int (nI kn), .ref l4, .ref l1, .ref l2, .ref rw0, .ref rw1, .ref rw2, .int rm0, w12, w13, w14, w15, w16, w17, w18, w19, w20, w21, w22, w23, w24, w25, w26, w27, w28, w29, w30, w31, w32, w33, w34])), (l5, .inl (kl5, 30, .inl fpr)), (l3, .inl (kl3, 10, .inl fpm)), (l1, .inl (kl1, 10, .inl fll)), (l2, .inl (kl2, 10, .inl fmq)), (l4, .inl (kl4, 100, .inl fln)), (l6, .inl (kl6, 10, .inl fma)), (l7, .inl (kl7, 10, .inl fib)), (rw0, .inl (krw0, 40, .inl frw)), (rw1, .inl (krw1, 4, .inl fat)), (rw2, .inl (krw2, 4, .inl fen))]) [0, 1, 2, 3, 4, 5, 6, 7, 8, 9, 10] rfl
                      have hD9 := hD.sub (ws' := [(h0, .inr (8, [.ref l5, .ref l3, .ref l6, .ref l7, .int (nI kn), .ref l4, .ref l1, .ref l2, .ref rw0, .ref rw1, .ref rw2, .int rm0, w12, w13, w14, w15, w16, w17, w18, w19, w20, w21, w22, w23, w24, w25, w26, w27, w28, w29, w30, w31, w32, w33, w34])), (l5, .inl (kl5, 30, .inl fpr)), (l3, .inl (kl3, 10, .inl fpm)), (l1, .inl (kl1, 10, .inl fll)), (l2, .inl (kl2, 10, .inl fmq)), (l4, .inl (kl4, 100, .inl fln)), (l6, .inl (kl6, 10, .inl fma)), (l7, .inl (kl7, 10, .inl fib)), (rw0, .inl (krw0, 40, .inl frw)), (rw1, .inl (krw1, 4, .inl fat)), (rw2, .inl (krw2, 4, .inl fen))]) [0, 1, 2, 3, 4, 5, 6, 7, 8, 9, 10] (by decide) rfl
                      have hK9 := hK.sub (tys' := [(kl5, .int), (kl3, .int), (kl1, .int), (kl2, .int), (kl4, .int), (kl6, .int), (kl7, .boolean), (krw0, .int), (krw1, .int), (krw2, .int)]) [0, 1, 2, 3, 4, 5, 6, 7, 8, 9] rfl
                      exact W.iret (v := (-2)) hx hb hr (fun t ht hW => ⟨⟨(-2), (), rfl, hF9, kn, fpr, fpm, fma, fib, frw, fat, fen, fll, fmq, fln, rm0, (K_no (v := (-2)) hF9 (by decide)), (KB_no (v := (-2)) hF9 (by decide)), (KA_no (v := (-2)) hF9 (by decide)), (km_no (v := (-2)) hF9 (by decide)), hkn, hll, hln, hfat, hfen, by rw [ht]; exact hP9, va_K.moved hW.alike hK9, hD9⟩, hS.F ht⟩) hS.2.2 dX9_kind_85
              · skip
                refine lv_if_eq (tgt := 61) hx hb dX9_kind_42 (by decide) (fun _ => ?_) (fun h => absurd (by decide) h)
                refine lv_iconst (v := 0) hx hb dX9_kind_61 (by decide) ?_
                refine lv_istore (lv' := [(5, .int 0), (0, .ref h0), (1, .int n1), (2, .int n2), (3, .int n3), (4, .int n4)]) hx hb dX9_kind_62 hl (by decide) rfl (fun ls hl => ?_)
                refine lv_iload hx hb dX9_kind_64 (lv_at hl 0 rfl) ?_
                refine lv_if_ne (tgt := 71) hx hb dX9_kind_66 (by decide) (fun h => absurd h (by decide)) (fun _ => ?_)
                refine lv_iconst (v := (-1)) hx hb dX9_kind_69 (by decide) ?_
                have hF9 : ((-1) : Int32) = F_kind kn n1 n2 n3 n4 := (by (unfold F_kind; repeat' split) <;> first | rfl | (exfalso; omega))
                have hP9 := hP.sub (ws' := [(h0, .inr (8, [.ref l5, .ref l3, .ref l6, .ref l7, .int (nI kn), .ref l4, .ref l1, .ref l2, .ref rw0, .ref rw1, .ref rw2, .int rm0, w12, w13, w14, w15, w16, w17, w18, w19, w20, w21, w22, w23, w24, w25, w26, w27, w28, w29, w30, w31, w32, w33, w34])), (l5, .inl (kl5, 30, .inl fpr)), (l3, .inl (kl3, 10, .inl fpm)), (l1, .inl (kl1, 10, .inl fll)), (l2, .inl (kl2, 10, .inl fmq)), (l4, .inl (kl4, 100, .inl fln)), (l6, .inl (kl6, 10, .inl fma)), (l7, .inl (kl7, 10, .inl fib)), (rw0, .inl (krw0, 40, .inl frw)), (rw1, .inl (krw1, 4, .inl fat)), (rw2, .inl (krw2, 4, .inl fen))]) [0, 1, 2, 3, 4, 5, 6, 7, 8, 9, 10] rfl
                have hD9 := hD.sub (ws' := [(h0, .inr (8, [.ref l5, .ref l3, .ref l6, .ref l7, .int (nI kn), .ref l4, .ref l1, .ref l2, .ref rw0, .ref rw1, .ref rw2, .int rm0, w12, w13, w14, w15, w16, w17, w18, w19, w20, w21, w22, w23, w24, w25, w26, w27, w28, w29, w30, w31, w32, w33, w34])), (l5, .inl (kl5, 30, .inl fpr)), (l3, .inl (kl3, 10, .inl fpm)), (l1, .inl (kl1, 10, .inl fll)), (l2, .inl (kl2, 10, .inl fmq)), (l4, .inl (kl4, 100, .inl fln)), (l6, .inl (kl6, 10, .inl fma)), (l7, .inl (kl7, 10, .inl fib)), (rw0, .inl (krw0, 40, .inl frw)), (rw1, .inl (krw1, 4, .inl fat)), (rw2, .inl (krw2, 4, .inl fen))]) [0, 1, 2, 3, 4, 5, 6, 7, 8, 9, 10] (by decide) rfl
                have hK9 := hK.sub (tys' := [(kl5, .int), (kl3, .int), (kl1, .int), (kl2, .int), (kl4, .int), (kl6, .int), (kl7, .boolean), (krw0, .int), (krw1, .int), (krw2, .int)]) [0, 1, 2, 3, 4, 5, 6, 7, 8, 9] rfl
                exact W.iret (v := (-1)) hx hb hr (fun t ht hW => ⟨⟨(-1), (), rfl, hF9, kn, fpr, fpm, fma, fib, frw, fat, fen, fll, fmq, fln, rm0, (K_no (v := (-1)) hF9 (by decide)), (KB_no (v := (-1)) hF9 (by decide)), (KA_no (v := (-1)) hF9 (by decide)), (km_no (v := (-1)) hF9 (by decide)), hkn, hll, hln, hfat, hfen, by rw [ht]; exact hP9, va_K.moved hW.alike hK9, hD9⟩, hS.F ht⟩) hS.2.2 dX9_kind_70
        · skip
          refine lv_if_eq (tgt := 61) hx hb dX9_kind_23 (by decide) (fun _ => ?_) (fun h => absurd (by decide) h)
          refine lv_iconst (v := 0) hx hb dX9_kind_61 (by decide) ?_
          refine lv_istore (lv' := [(5, .int 0), (0, .ref h0), (1, .int n1), (2, .int n2), (3, .int n3), (4, .int n4)]) hx hb dX9_kind_62 hl (by decide) rfl (fun ls hl => ?_)
          refine lv_iload hx hb dX9_kind_64 (lv_at hl 0 rfl) ?_
          refine lv_if_ne (tgt := 71) hx hb dX9_kind_66 (by decide) (fun h => absurd h (by decide)) (fun _ => ?_)
          refine lv_iconst (v := (-1)) hx hb dX9_kind_69 (by decide) ?_
          have hF9 : ((-1) : Int32) = F_kind kn n1 n2 n3 n4 := (by (unfold F_kind; repeat' split) <;> first | rfl | (exfalso; omega))
          have hP9 := hP.sub (ws' := [(h0, .inr (8, [.ref l5, .ref l3, .ref l6, .ref l7, .int (nI kn), .ref l4, .ref l1, .ref l2, .ref rw0, .ref rw1, .ref rw2, .int rm0, w12, w13, w14, w15, w16, w17, w18, w19, w20, w21, w22, w23, w24, w25, w26, w27, w28, w29, w30, w31, w32, w33, w34])), (l5, .inl (kl5, 30, .inl fpr)), (l3, .inl (kl3, 10, .inl fpm)), (l1, .inl (kl1, 10, .inl fll)), (l2, .inl (kl2, 10, .inl fmq)), (l4, .inl (kl4, 100, .inl fln)), (l6, .inl (kl6, 10, .inl fma)), (l7, .inl (kl7, 10, .inl fib)), (rw0, .inl (krw0, 40, .inl frw)), (rw1, .inl (krw1, 4, .inl fat)), (rw2, .inl (krw2, 4, .inl fen))]) [0, 1, 2, 3, 4, 5, 6, 7, 8, 9, 10] rfl
          have hD9 := hD.sub (ws' := [(h0, .inr (8, [.ref l5, .ref l3, .ref l6, .ref l7, .int (nI kn), .ref l4, .ref l1, .ref l2, .ref rw0, .ref rw1, .ref rw2, .int rm0, w12, w13, w14, w15, w16, w17, w18, w19, w20, w21, w22, w23, w24, w25, w26, w27, w28, w29, w30, w31, w32, w33, w34])), (l5, .inl (kl5, 30, .inl fpr)), (l3, .inl (kl3, 10, .inl fpm)), (l1, .inl (kl1, 10, .inl fll)), (l2, .inl (kl2, 10, .inl fmq)), (l4, .inl (kl4, 100, .inl fln)), (l6, .inl (kl6, 10, .inl fma)), (l7, .inl (kl7, 10, .inl fib)), (rw0, .inl (krw0, 40, .inl frw)), (rw1, .inl (krw1, 4, .inl fat)), (rw2, .inl (krw2, 4, .inl fen))]) [0, 1, 2, 3, 4, 5, 6, 7, 8, 9, 10] (by decide) rfl
          have hK9 := hK.sub (tys' := [(kl5, .int), (kl3, .int), (kl1, .int), (kl2, .int), (kl4, .int), (kl6, .int), (kl7, .boolean), (krw0, .int), (krw1, .int), (krw2, .int)]) [0, 1, 2, 3, 4, 5, 6, 7, 8, 9] rfl
          exact W.iret (v := (-1)) hx hb hr (fun t ht hW => ⟨⟨(-1), (), rfl, hF9, kn, fpr, fpm, fma, fib, frw, fat, fen, fll, fmq, fln, rm0, (K_no (v := (-1)) hF9 (by decide)), (KB_no (v := (-1)) hF9 (by decide)), (KA_no (v := (-1)) hF9 (by decide)), (km_no (v := (-1)) hF9 (by decide)), hkn, hll, hln, hfat, hfen, by rw [ht]; exact hP9, va_K.moved hW.alike hK9, hD9⟩, hS.F ht⟩) hS.2.2 dX9_kind_70
    · skip
      refine lv_if_eq (tgt := 61) hx hb dX9_kind_10 (by decide) (fun _ => ?_) (fun h => absurd (by decide) h)
      refine lv_iconst (v := 0) hx hb dX9_kind_61 (by decide) ?_
      refine lv_istore (lv' := [(5, .int 0), (0, .ref h0), (1, .int n1), (2, .int n2), (3, .int n3), (4, .int n4)]) hx hb dX9_kind_62 hl (by decide) rfl (fun ls hl => ?_)
      refine lv_iload hx hb dX9_kind_64 (lv_at hl 0 rfl) ?_
      refine lv_if_ne (tgt := 71) hx hb dX9_kind_66 (by decide) (fun h => absurd h (by decide)) (fun _ => ?_)
      refine lv_iconst (v := (-1)) hx hb dX9_kind_69 (by decide) ?_
      have hF9 : ((-1) : Int32) = F_kind kn n1 n2 n3 n4 := (by (unfold F_kind; repeat' split) <;> first | rfl | (exfalso; omega))
      have hP9 := hP.sub (ws' := [(h0, .inr (8, [.ref l5, .ref l3, .ref l6, .ref l7, .int (nI kn), .ref l4, .ref l1, .ref l2, .ref rw0, .ref rw1, .ref rw2, .int rm0, w12, w13, w14, w15, w16, w17, w18, w19, w20, w21, w22, w23, w24, w25, w26, w27, w28, w29, w30, w31, w32, w33, w34])), (l5, .inl (kl5, 30, .inl fpr)), (l3, .inl (kl3, 10, .inl fpm)), (l1, .inl (kl1, 10, .inl fll)), (l2, .inl (kl2, 10, .inl fmq)), (l4, .inl (kl4, 100, .inl fln)), (l6, .inl (kl6, 10, .inl fma)), (l7, .inl (kl7, 10, .inl fib)), (rw0, .inl (krw0, 40, .inl frw)), (rw1, .inl (krw1, 4, .inl fat)), (rw2, .inl (krw2, 4, .inl fen))]) [0, 1, 2, 3, 4, 5, 6, 7, 8, 9, 10] rfl
      have hD9 := hD.sub (ws' := [(h0, .inr (8, [.ref l5, .ref l3, .ref l6, .ref l7, .int (nI kn), .ref l4, .ref l1, .ref l2, .ref rw0, .ref rw1, .ref rw2, .int rm0, w12, w13, w14, w15, w16, w17, w18, w19, w20, w21, w22, w23, w24, w25, w26, w27, w28, w29, w30, w31, w32, w33, w34])), (l5, .inl (kl5, 30, .inl fpr)), (l3, .inl (kl3, 10, .inl fpm)), (l1, .inl (kl1, 10, .inl fll)), (l2, .inl (kl2, 10, .inl fmq)), (l4, .inl (kl4, 100, .inl fln)), (l6, .inl (kl6, 10, .inl fma)), (l7, .inl (kl7, 10, .inl fib)), (rw0, .inl (krw0, 40, .inl frw)), (rw1, .inl (krw1, 4, .inl fat)), (rw2, .inl (krw2, 4, .inl fen))]) [0, 1, 2, 3, 4, 5, 6, 7, 8, 9, 10] (by decide) rfl
      have hK9 := hK.sub (tys' := [(kl5, .int), (kl3, .int), (kl1, .int), (kl2, .int), (kl4, .int), (kl6, .int), (kl7, .boolean), (krw0, .int), (krw1, .int), (krw2, .int)]) [0, 1, 2, 3, 4, 5, 6, 7, 8, 9] rfl
      exact W.iret (v := (-1)) hx hb hr (fun t ht hW => ⟨⟨(-1), (), rfl, hF9, kn, fpr, fpm, fma, fib, frw, fat, fen, fll, fmq, fln, rm0, (K_no (v := (-1)) hF9 (by decide)), (KB_no (v := (-1)) hF9 (by decide)), (KA_no (v := (-1)) hF9 (by decide)), (km_no (v := (-1)) hF9 (by decide)), hkn, hll, hln, hfat, hfen, by rw [ht]; exact hP9, va_K.moved hW.alike hK9, hD9⟩, hS.F ht⟩) hS.2.2 dX9_kind_70
