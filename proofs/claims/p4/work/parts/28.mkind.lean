theorem mw_4_64 : Cond.code yX9_layLine cX9_layLine 5 none ∈ BG := mB (t4 (i := 64) rfl) (by decide +kernel)
theorem mw_4_61 : Cond.methodLink RX9 102 yX9_layLine ∈ BG := mB (t4 (i := 61) (by decide +kernel)) (by decide +kernel)
theorem mw_4_63 : Cond.instanceMethod yX9_layLine ∈ BG := mB (t4 (i := 63) (by decide +kernel)) (by decide +kernel)
theorem mw_0_16 : Cond.selects RX9 yX9_layLine yX9_layLine ∈ BG := mB (t0 (i := 16) (by decide +kernel)) (by decide +kernel)
theorem dX9_kind_0 : decode cX9_kind 0 = .ok (.iload_n 1, 1) := by decide +kernel
theorem dX9_kind_1 : decode cX9_kind 1 = .ok (.iconst 1, 1) := by decide +kernel
theorem dX9_kind_2 : decode cX9_kind 2 = .ok (.if_icmp .lt 11, 3) := by decide +kernel
theorem dX9_kind_13 : decode cX9_kind 13 = .ok (.iload_n 1, 1) := by decide +kernel
theorem dX9_kind_14 : decode cX9_kind 14 = .ok (.iconst 2, 1) := by decide +kernel
theorem dX9_kind_15 : decode cX9_kind 15 = .ok (.if_icmp .lt 16, 3) := by decide +kernel
theorem dX9_kind_31 : decode cX9_kind 31 = .ok (.iload_n 1, 1) := by decide +kernel
theorem dX9_kind_32 : decode cX9_kind 32 = .ok (.iconst 3, 1) := by decide +kernel
theorem dX9_kind_33 : decode cX9_kind 33 = .ok (.if_icmp .lt 24, 3) := by decide +kernel
theorem dX9_kind_57 : decode cX9_kind 57 = .ok (.iconst 1, 1) := by decide +kernel
theorem dX9_kind_58 : decode cX9_kind 58 = .ok (.goto 4, 3) := by decide +kernel
theorem dX9_kind_62 : decode cX9_kind 62 = .ok (.istore 5, 2) := by decide +kernel
theorem dX9_kind_64 : decode cX9_kind 64 = .ok (.iload 5, 2) := by decide +kernel
theorem dX9_kind_66 : decode cX9_kind 66 = .ok (.ifCond .ne 5, 3) := by decide +kernel
theorem dX9_kind_71 : decode cX9_kind 71 = .ok (.iload_n 1, 1) := by decide +kernel
theorem dX9_kind_72 : decode cX9_kind 72 = .ok (.i2l, 1) := by decide +kernel
theorem dX9_kind_73 : decode cX9_kind 73 = .ok (.lconst 0, 1) := by decide +kernel
theorem dX9_kind_74 : decode cX9_kind 74 = .ok (.ldc2_w 100, 3) := by decide +kernel
theorem dX9_kind_77 : decode cX9_kind 77 = .ok (.invokestatic 90, 3) := by decide +kernel
theorem dX9_kind_80 : decode cX9_kind 80 = .ok (.ifCond .ne 6, 3) := by decide +kernel
theorem dX9_kind_86 : decode cX9_kind 86 = .ok (.aload_n 0, 1) := by decide +kernel
theorem dX9_kind_87 : decode cX9_kind 87 = .ok (.getfield 86, 3) := by decide +kernel
theorem dX9_kind_90 : decode cX9_kind 90 = .ok (.bipush 10, 2) := by decide +kernel
theorem dX9_kind_92 : decode cX9_kind 92 = .ok (.if_icmp .ne 6, 3) := by decide +kernel
theorem dX9_kind_98 : decode cX9_kind 98 = .ok (.aload_n 0, 1) := by decide +kernel
theorem dX9_kind_99 : decode cX9_kind 99 = .ok (.getfield 7, 3) := by decide +kernel
theorem dX9_kind_102 : decode cX9_kind 102 = .ok (.iconst 3, 1) := by decide +kernel
theorem dX9_kind_103 : decode cX9_kind 103 = .ok (.aload_n 0, 1) := by decide +kernel
theorem dX9_kind_104 : decode cX9_kind 104 = .ok (.getfield 86, 3) := by decide +kernel
theorem dX9_kind_107 : decode cX9_kind 107 = .ok (.imul, 1) := by decide +kernel
theorem dX9_kind_108 : decode cX9_kind 108 = .ok (.iload_n 2, 1) := by decide +kernel
theorem dX9_kind_109 : decode cX9_kind 109 = .ok (.iastore, 1) := by decide +kernel
theorem dX9_kind_110 : decode cX9_kind 110 = .ok (.aload_n 0, 1) := by decide +kernel
theorem dX9_kind_111 : decode cX9_kind 111 = .ok (.getfield 7, 3) := by decide +kernel
theorem dX9_kind_114 : decode cX9_kind 114 = .ok (.iconst 3, 1) := by decide +kernel
theorem dX9_kind_115 : decode cX9_kind 115 = .ok (.aload_n 0, 1) := by decide +kernel
theorem dX9_kind_116 : decode cX9_kind 116 = .ok (.getfield 86, 3) := by decide +kernel
theorem dX9_kind_119 : decode cX9_kind 119 = .ok (.imul, 1) := by decide +kernel
theorem dX9_kind_120 : decode cX9_kind 120 = .ok (.iconst 1, 1) := by decide +kernel
theorem dX9_kind_121 : decode cX9_kind 121 = .ok (.iadd, 1) := by decide +kernel
theorem dX9_kind_122 : decode cX9_kind 122 = .ok (.iload_n 3, 1) := by decide +kernel
theorem dX9_kind_123 : decode cX9_kind 123 = .ok (.iastore, 1) := by decide +kernel
theorem dX9_kind_124 : decode cX9_kind 124 = .ok (.aload_n 0, 1) := by decide +kernel
theorem dX9_kind_125 : decode cX9_kind 125 = .ok (.getfield 7, 3) := by decide +kernel
theorem dX9_kind_128 : decode cX9_kind 128 = .ok (.iconst 3, 1) := by decide +kernel
theorem dX9_kind_129 : decode cX9_kind 129 = .ok (.aload_n 0, 1) := by decide +kernel
theorem dX9_kind_130 : decode cX9_kind 130 = .ok (.getfield 86, 3) := by decide +kernel
theorem dX9_kind_133 : decode cX9_kind 133 = .ok (.imul, 1) := by decide +kernel
theorem dX9_kind_134 : decode cX9_kind 134 = .ok (.iconst 2, 1) := by decide +kernel
theorem dX9_kind_135 : decode cX9_kind 135 = .ok (.iadd, 1) := by decide +kernel
theorem dX9_kind_136 : decode cX9_kind 136 = .ok (.iload 4, 2) := by decide +kernel
theorem dX9_kind_138 : decode cX9_kind 138 = .ok (.iastore, 1) := by decide +kernel
theorem dX9_kind_139 : decode cX9_kind 139 = .ok (.aload_n 0, 1) := by decide +kernel
theorem dX9_kind_140 : decode cX9_kind 140 = .ok (.getfield 13, 3) := by decide +kernel
theorem dX9_kind_143 : decode cX9_kind 143 = .ok (.aload_n 0, 1) := by decide +kernel
theorem dX9_kind_144 : decode cX9_kind 144 = .ok (.getfield 86, 3) := by decide +kernel
theorem dX9_kind_147 : decode cX9_kind 147 = .ok (.iload_n 1, 1) := by decide +kernel
theorem dX9_kind_148 : decode cX9_kind 148 = .ok (.iastore, 1) := by decide +kernel
theorem dX9_kind_149 : decode cX9_kind 149 = .ok (.aload_n 0, 1) := by decide +kernel
theorem dX9_kind_150 : decode cX9_kind 150 = .ok (.getfield 16, 3) := by decide +kernel
theorem dX9_kind_153 : decode cX9_kind 153 = .ok (.aload_n 0, 1) := by decide +kernel
theorem dX9_kind_154 : decode cX9_kind 154 = .ok (.getfield 86, 3) := by decide +kernel
theorem dX9_kind_157 : decode cX9_kind 157 = .ok (.iconst 0, 1) := by decide +kernel
theorem dX9_kind_158 : decode cX9_kind 158 = .ok (.iastore, 1) := by decide +kernel
theorem dX9_kind_159 : decode cX9_kind 159 = .ok (.aload_n 0, 1) := by decide +kernel
theorem dX9_kind_160 : decode cX9_kind 160 = .ok (.getfield 19, 3) := by decide +kernel
theorem dX9_kind_163 : decode cX9_kind 163 = .ok (.aload_n 0, 1) := by decide +kernel
theorem dX9_kind_164 : decode cX9_kind 164 = .ok (.getfield 86, 3) := by decide +kernel
theorem dX9_kind_167 : decode cX9_kind 167 = .ok (.iconst 0, 1) := by decide +kernel
theorem dX9_kind_168 : decode cX9_kind 168 = .ok (.bastore, 1) := by decide +kernel
theorem dX9_kind_169 : decode cX9_kind 169 = .ok (.iconst 0, 1) := by decide +kernel
theorem dX9_kind_170 : decode cX9_kind 170 = .ok (.istore 6, 2) := by decide +kernel
theorem dX9_kind_172 : decode cX9_kind 172 = .ok (.iload 6, 2) := by decide +kernel
theorem dX9_kind_174 : decode cX9_kind 174 = .ok (.iload_n 1, 1) := by decide +kernel
theorem dX9_kind_175 : decode cX9_kind 175 = .ok (.if_icmp .ge 49, 3) := by decide +kernel
theorem dX9_kind_224 : decode cX9_kind 224 = .ok (.aload_n 0, 1) := by decide +kernel
theorem dX9_kind_225 : decode cX9_kind 225 = .ok (.aload_n 0, 1) := by decide +kernel
theorem dX9_kind_226 : decode cX9_kind 226 = .ok (.getfield 86, 3) := by decide +kernel
theorem dX9_kind_229 : decode cX9_kind 229 = .ok (.invokevirtual 102, 3) := by decide +kernel
theorem dX9_kind_232 : decode cX9_kind 232 = .ok (.aload_n 0, 1) := by decide +kernel
theorem dX9_kind_233 : decode cX9_kind 233 = .ok (.dup, 1) := by decide +kernel
theorem dX9_kind_234 : decode cX9_kind 234 = .ok (.getfield 86, 3) := by decide +kernel
theorem dX9_kind_237 : decode cX9_kind 237 = .ok (.iconst 1, 1) := by decide +kernel
theorem dX9_kind_238 : decode cX9_kind 238 = .ok (.iadd, 1) := by decide +kernel
theorem dX9_kind_239 : decode cX9_kind 239 = .ok (.putfield 86, 3) := by decide +kernel
theorem dX9_kind_242 : decode cX9_kind 242 = .ok (.aload_n 0, 1) := by decide +kernel
theorem dX9_kind_243 : decode cX9_kind 243 = .ok (.getfield 86, 3) := by decide +kernel
theorem dX9_kind_246 : decode cX9_kind 246 = .ok (.iconst 1, 1) := by decide +kernel
theorem dX9_kind_247 : decode cX9_kind 247 = .ok (.isub, 1) := by decide +kernel
theorem dX9_kind_248 : decode cX9_kind 248 = .ok (.ireturn, 1) := by decide +kernel
theorem dX9_kind_178 : decode cX9_kind 178 = .ok (.aload_n 0, 1) := by decide +kernel
theorem dX9_kind_179 : decode cX9_kind 179 = .ok (.getfield 7, 3) := by decide +kernel
theorem dX9_kind_182 : decode cX9_kind 182 = .ok (.iconst 3, 1) := by decide +kernel
theorem dX9_kind_183 : decode cX9_kind 183 = .ok (.aload_n 0, 1) := by decide +kernel
theorem dX9_kind_184 : decode cX9_kind 184 = .ok (.getfield 86, 3) := by decide +kernel
theorem dX9_kind_187 : decode cX9_kind 187 = .ok (.imul, 1) := by decide +kernel
theorem dX9_kind_188 : decode cX9_kind 188 = .ok (.iload 6, 2) := by decide +kernel
theorem dX9_kind_190 : decode cX9_kind 190 = .ok (.iadd, 1) := by decide +kernel
theorem dX9_kind_191 : decode cX9_kind 191 = .ok (.iaload, 1) := by decide +kernel
theorem dX9_kind_192 : decode cX9_kind 192 = .ok (.istore 7, 2) := by decide +kernel
theorem dX9_kind_194 : decode cX9_kind 194 = .ok (.aload_n 0, 1) := by decide +kernel
theorem dX9_kind_195 : decode cX9_kind 195 = .ok (.getfield 16, 3) := by decide +kernel
theorem dX9_kind_198 : decode cX9_kind 198 = .ok (.aload_n 0, 1) := by decide +kernel
theorem dX9_kind_199 : decode cX9_kind 199 = .ok (.getfield 86, 3) := by decide +kernel
theorem dX9_kind_202 : decode cX9_kind 202 = .ok (.dup2, 1) := by decide +kernel
theorem dX9_kind_203 : decode cX9_kind 203 = .ok (.iaload, 1) := by decide +kernel
theorem dX9_kind_204 : decode cX9_kind 204 = .ok (.aload_n 0, 1) := by decide +kernel
theorem dX9_kind_205 : decode cX9_kind 205 = .ok (.getfield 16, 3) := by decide +kernel
theorem dX9_kind_208 : decode cX9_kind 208 = .ok (.iload 7, 2) := by decide +kernel
theorem dX9_kind_210 : decode cX9_kind 210 = .ok (.iaload, 1) := by decide +kernel
theorem dX9_kind_211 : decode cX9_kind 211 = .ok (.iconst 1, 1) := by decide +kernel
theorem dX9_kind_212 : decode cX9_kind 212 = .ok (.iload 7, 2) := by decide +kernel
theorem dX9_kind_214 : decode cX9_kind 214 = .ok (.ishl, 1) := by decide +kernel
theorem dX9_kind_215 : decode cX9_kind 215 = .ok (.ior, 1) := by decide +kernel
theorem dX9_kind_216 : decode cX9_kind 216 = .ok (.ior, 1) := by decide +kernel
theorem dX9_kind_217 : decode cX9_kind 217 = .ok (.iastore, 1) := by decide +kernel
theorem dX9_kind_218 : decode cX9_kind 218 = .ok (.iinc 6 1, 3) := by decide +kernel
theorem dX9_kind_221 : decode cX9_kind 221 = .ok (.goto (-49), 3) := by decide +kernel
theorem dX9_kind_95 : decode cX9_kind 95 = .ok (.bipush (-4), 2) := by decide +kernel
theorem dX9_kind_97 : decode cX9_kind 97 = .ok (.ireturn, 1) := by decide +kernel
theorem dX9_kind_83 : decode cX9_kind 83 = .ok (.bipush (-2), 2) := by decide +kernel
theorem dX9_kind_85 : decode cX9_kind 85 = .ok (.ireturn, 1) := by decide +kernel
theorem dX9_kind_5 : decode cX9_kind 5 = .ok (.aload_n 0, 1) := by decide +kernel
theorem dX9_kind_6 : decode cX9_kind 6 = .ok (.iload_n 2, 1) := by decide +kernel
theorem dX9_kind_7 : decode cX9_kind 7 = .ok (.invokevirtual 96, 3) := by decide +kernel
theorem dX9_kind_10 : decode cX9_kind 10 = .ok (.ifCond .eq 51, 3) := by decide +kernel
theorem dX9_kind_18 : decode cX9_kind 18 = .ok (.aload_n 0, 1) := by decide +kernel
theorem dX9_kind_19 : decode cX9_kind 19 = .ok (.iload_n 3, 1) := by decide +kernel
theorem dX9_kind_20 : decode cX9_kind 20 = .ok (.invokevirtual 96, 3) := by decide +kernel
theorem dX9_kind_23 : decode cX9_kind 23 = .ok (.ifCond .eq 38, 3) := by decide +kernel
theorem dX9_kind_26 : decode cX9_kind 26 = .ok (.iload_n 3, 1) := by decide +kernel
theorem dX9_kind_27 : decode cX9_kind 27 = .ok (.iload_n 2, 1) := by decide +kernel
theorem dX9_kind_28 : decode cX9_kind 28 = .ok (.if_icmp .eq 33, 3) := by decide +kernel
theorem dX9_kind_61 : decode cX9_kind 61 = .ok (.iconst 0, 1) := by decide +kernel
theorem dX9_kind_69 : decode cX9_kind 69 = .ok (.iconst (-1), 1) := by decide +kernel
theorem dX9_kind_70 : decode cX9_kind 70 = .ok (.ireturn, 1) := by decide +kernel
theorem dX9_kind_36 : decode cX9_kind 36 = .ok (.aload_n 0, 1) := by decide +kernel
theorem dX9_kind_37 : decode cX9_kind 37 = .ok (.iload 4, 2) := by decide +kernel
theorem dX9_kind_39 : decode cX9_kind 39 = .ok (.invokevirtual 96, 3) := by decide +kernel
theorem dX9_kind_42 : decode cX9_kind 42 = .ok (.ifCond .eq 19, 3) := by decide +kernel
theorem dX9_kind_45 : decode cX9_kind 45 = .ok (.iload 4, 2) := by decide +kernel
theorem dX9_kind_47 : decode cX9_kind 47 = .ok (.iload_n 2, 1) := by decide +kernel
theorem dX9_kind_48 : decode cX9_kind 48 = .ok (.if_icmp .eq 13, 3) := by decide +kernel
theorem dX9_kind_51 : decode cX9_kind 51 = .ok (.iload 4, 2) := by decide +kernel
theorem dX9_kind_53 : decode cX9_kind 53 = .ok (.iload_n 3, 1) := by decide +kernel
theorem dX9_kind_54 : decode cX9_kind 54 = .ok (.if_icmp .eq 7, 3) := by decide +kernel
set_option maxHeartbeats 4000000 in
set_option maxRecDepth 100000 in
theorem m_kind (l : Launch) (dC : Nat → ClassId) (dI : Nat → Nat → Nat) (sz : Nat) (h0 : Nat) (l5 : Nat) (l3 : Nat) (l6 : Nat) (l7 : Nat) (kn : Nat) (l4 : Nat) (l1 : Nat) (l2 : Nat) (rw0 : Nat) (rw1 : Nat) (rw2 : Nat) (rm0 : Int32) (w12 : Value) (w13 : Value) (w14 : Value) (w15 : Value) (w16 : Value) (w17 : Value) (w18 : Value) (w19 : Value) (w20 : Value) (w21 : Value) (w22 : Value) (w23 : Value) (w24 : Value) (w25 : Value) (w26 : Value) (w27 : Value) (w28 : Value) (w29 : Value) (w30 : Value) (w31 : Value) (w32 : Value) (w33 : Value) (w34 : Value) (kl5 : ClassId) (fpr : Nat → Int32) (kl3 : ClassId) (fpm : Nat → Int32) (kl1 : ClassId) (fll : Nat → Int32) (kl2 : ClassId) (fmq : Nat → Int32) (kl4 : ClassId) (fln : Nat → Int32) (kl6 : ClassId) (fma : Nat → Int32) (kl7 : ClassId) (fib : Nat → Int32) (krw0 : ClassId) (frw : Nat → Int32) (krw1 : ClassId) (fat : Nat → Int32) (krw2 : ClassId) (fen : Nat → Int32) (n1 : Int32) (n2 : Int32) (n3 : Int32) (n4 : Int32) (hkn : kn ≤ 10) (hll : BdOk 10 10 fll) (hln : LnOk fll fln kn) (hfat : BdOk 4 10 fat) (hfen : BdOk 4 10 fen) : Met l yX9_kind (wq yX9_kind cX9_kind 8 (some .int)) ({ frames := 3, cells := 0, slots := 0, locals := 71 }) (va_Pc [.ref h0, .int n1, .int n2, .int n3, .int n4] (pcW dC dI [(kl5, .int), (kl3, .int), (kl1, .int), (kl2, .int), (kl4, .int), (kl6, .int), (kl7, .boolean), (krw0, .int), (krw1, .int), (krw2, .int)] [(h0, .inr (8, [.ref l5, .ref l3, .ref l6, .ref l7, .int (nI kn), .ref l4, .ref l1, .ref l2, .ref rw0, .ref rw1, .ref rw2, .int rm0, w12, w13, w14, w15, w16, w17, w18, w19, w20, w21, w22, w23, w24, w25, w26, w27, w28, w29, w30, w31, w32, w33, w34])), (l5, .inl (kl5, 30, .inl fpr)), (l3, .inl (kl3, 10, .inl fpm)), (l1, .inl (kl1, 10, .inl fll)), (l2, .inl (kl2, 10, .inl fmq)), (l4, .inl (kl4, 100, .inl fln)), (l6, .inl (kl6, 10, .inl fma)), (l7, .inl (kl7, 10, .inl fib)), (rw0, .inl (krw0, 40, .inl frw)), (rw1, .inl (krw1, 4, .inl fat)), (rw2, .inl (krw2, 4, .inl fen))] sz)) (va_Qi (fun (r : Int32) (_ : Unit) => r = F_kind kn n1 n2 n3 n4) (fun _ t => ∃ (kn2 : Nat) (fpr2 : Nat → Int32) (fpm2 : Nat → Int32) (fma2 : Nat → Int32) (fib2 : Nat → Int32) (frw2 : Nat → Int32) (fat2 : Nat → Int32) (fen2 : Nat → Int32) (fll2 : Nat → Int32) (fmq2 : Nat → Int32) (fln2 : Nat → Int32) (rm2 : Int32), (kn2 = K_next kn n1 n2 n3 n4) ∧ (fib2 = KB_next kn fib n1 n2 n3 n4) ∧ (fma2 = KA_next kn fma n1 n2 n3 n4) ∧ (kn2 ≤ 10) ∧ (BdOk 10 10 fll2) ∧ (LnOk fll2 fln2 kn2) ∧ (BdOk 4 10 fat2) ∧ (BdOk 4 10 fen2) ∧ va_P (dC, dI) vwCl [(h0, .inr (8, [.ref l5, .ref l3, .ref l6, .ref l7, .int (nI kn2), .ref l4, .ref l1, .ref l2, .ref rw0, .ref rw1, .ref rw2, .int rm2, w12, w13, w14, w15, w16, w17, w18, w19, w20, w21, w22, w23, w24, w25, w26, w27, w28, w29, w30, w31, w32, w33, w34])), (l5, .inl (kl5, 30, .inl fpr2)), (l3, .inl (kl3, 10, .inl fpm2)), (l1, .inl (kl1, 10, .inl fll2)), (l2, .inl (kl2, 10, .inl fmq2)), (l4, .inl (kl4, 100, .inl fln2)), (l6, .inl (kl6, 10, .inl fma2)), (l7, .inl (kl7, 10, .inl fib2)), (rw0, .inl (krw0, 40, .inl frw2)), (rw1, .inl (krw1, 4, .inl fat2)), (rw2, .inl (krw2, 4, .inl fen2))] t.heap ∧ va_K (dC, dI) vwCl [(kl5, .int), (kl3, .int), (kl1, .int), (kl2, .int), (kl4, .int), (kl6, .int), (kl7, .boolean), (krw0, .int), (krw1, .int), (krw2, .int)] t ∧ va_D (va_A [(h0, .inr (8, [.ref l5, .ref l3, .ref l6, .ref l7, .int (nI kn), .ref l4, .ref l1, .ref l2, .ref rw0, .ref rw1, .ref rw2, .int rm0, w12, w13, w14, w15, w16, w17, w18, w19, w20, w21, w22, w23, w24, w25, w26, w27, w28, w29, w30, w31, w32, w33, w34])), (l5, .inl (kl5, 30, .inl fpr)), (l3, .inl (kl3, 10, .inl fpm)), (l1, .inl (kl1, 10, .inl fll)), (l2, .inl (kl2, 10, .inl fmq)), (l4, .inl (kl4, 100, .inl fln)), (l6, .inl (kl6, 10, .inl fma)), (l7, .inl (kl7, 10, .inl fib)), (rw0, .inl (krw0, 40, .inl frw)), (rw1, .inl (krw1, 4, .inl fat)), (rw2, .inl (krw2, 4, .inl fen))] sz) [(h0, .inr (8, [.ref l5, .ref l3, .ref l6, .ref l7, .int (nI kn2), .ref l4, .ref l1, .ref l2, .ref rw0, .ref rw1, .ref rw2, .int rm2, w12, w13, w14, w15, w16, w17, w18, w19, w20, w21, w22, w23, w24, w25, w26, w27, w28, w29, w30, w31, w32, w33, w34])), (l5, .inl (kl5, 30, .inl fpr2)), (l3, .inl (kl3, 10, .inl fpm2)), (l1, .inl (kl1, 10, .inl fll2)), (l2, .inl (kl2, 10, .inl fmq2)), (l4, .inl (kl4, 100, .inl fln2)), (l6, .inl (kl6, 10, .inl fma2)), (l7, .inl (kl7, 10, .inl fib2)), (rw0, .inl (krw0, 40, .inl frw2)), (rw1, .inl (krw1, 4, .inl fat2)), (rw2, .inl (krw2, 4, .inl fen2))]) (va_A [(h0, .inr (8, [.ref l5, .ref l3, .ref l6, .ref l7, .int (nI kn), .ref l4, .ref l1, .ref l2, .ref rw0, .ref rw1, .ref rw2, .int rm0, w12, w13, w14, w15, w16, w17, w18, w19, w20, w21, w22, w23, w24, w25, w26, w27, w28, w29, w30, w31, w32, w33, w34])), (l5, .inl (kl5, 30, .inl fpr)), (l3, .inl (kl3, 10, .inl fpm)), (l1, .inl (kl1, 10, .inl fll)), (l2, .inl (kl2, 10, .inl fmq)), (l4, .inl (kl4, 100, .inl fln)), (l6, .inl (kl6, 10, .inl fma)), (l7, .inl (kl7, 10, .inl fib)), (rw0, .inl (krw0, 40, .inl frw)), (rw1, .inl (krw1, 4, .inl fat)), (rw2, .inl (krw2, 4, .inl fen))] sz)) 0 0 (va_A [(h0, .inr (8, [.ref l5, .ref l3, .ref l6, .ref l7, .int (nI kn), .ref l4, .ref l1, .ref l2, .ref rw0, .ref rw1, .ref rw2, .int rm0, w12, w13, w14, w15, w16, w17, w18, w19, w20, w21, w22, w23, w24, w25, w26, w27, w28, w29, w30, w31, w32, w33, w34])), (l5, .inl (kl5, 30, .inl fpr)), (l3, .inl (kl3, 10, .inl fpm)), (l1, .inl (kl1, 10, .inl fll)), (l2, .inl (kl2, 10, .inl fmq)), (l4, .inl (kl4, 100, .inl fln)), (l6, .inl (kl6, 10, .inl fma)), (l7, .inl (kl7, 10, .inl fib)), (rw0, .inl (krw0, 40, .inl frw)), (rw1, .inl (krw1, 4, .inl fat)), (rw2, .inl (krw2, 4, .inl fen))] sz) := by
  refine Met.ofW (cc := cX9_kind) (maxL := 8) (ret := (some .int)) (by decide) rfl ?_
  intro p e s m args below meth c s₁ B hml hv
  obtain ⟨rfl, hsz, hN, hP, hK, hD0⟩ := hv
  have hx := B.exec
  have hb := B.bytes
  have hr := B.returns
  have hts0 := atoms_spec (ws := (wq yX9_kind cX9_kind 8 (some .int))) B.pre
  have hts : ∀ w ∈ BG, w.before _ s = true := fun w h => hts0 w (List.mem_cons_of_mem _ h)
  have hown : s.vm.findClass RX9 = some m.cls := findClass_of_methodNamed B.named
  have hlocks := B.notSynchronized
  subst hsz
  have hD := hD0.self (sz := s.heap.size)
  generalize hAe : va_A [(h0, .inr (8, [.ref l5, .ref l3, .ref l6, .ref l7, .int (nI kn), .ref l4, .ref l1, .ref l2, .ref rw0, .ref rw1, .ref rw2, .int rm0, w12, w13, w14, w15, w16, w17, w18, w19, w20, w21, w22, w23, w24, w25, w26, w27, w28, w29, w30, w31, w32, w33, w34])), (l5, .inl (kl5, 30, .inl fpr)), (l3, .inl (kl3, 10, .inl fpm)), (l1, .inl (kl1, 10, .inl fll)), (l2, .inl (kl2, 10, .inl fmq)), (l4, .inl (kl4, 100, .inl fln)), (l6, .inl (kl6, 10, .inl fma)), (l7, .inl (kl7, 10, .inl fib)), (rw0, .inl (krw0, 40, .inl frw)), (rw1, .inl (krw1, 4, .inl fat)), (rw2, .inl (krw2, 4, .inl fen))] s.heap.size = A at hD ⊢
  have hA : ∀ q : Nat, s.heap.size ≤ q → A q := fun q h => by rw [← hAe]; exact Or.inr h
  have hS : va_S A s.heap s.heap [] := va_S.rf
  clear hAe hD0
  have hP : va_P (dC, dI) vwCl [(h0, .inr (8, [.ref l5, .ref l3, .ref l6, .ref l7, .int (nI kn), .ref l4, .ref l1, .ref l2, .ref rw0, .ref rw1, .ref rw2, .int rm0, w12, w13, w14, w15, w16, w17, w18, w19, w20, w21, w22, w23, w24, w25, w26, w27, w28, w29, w30, w31, w32, w33, w34])), (l5, .inl (kl5, 30, .inl fpr)), (l3, .inl (kl3, 10, .inl fpm)), (l1, .inl (kl1, 10, .inl fll)), (l2, .inl (kl2, 10, .inl fmq)), (l4, .inl (kl4, 100, .inl fln)), (l6, .inl (kl6, 10, .inl fma)), (l7, .inl (kl7, 10, .inl fib)), (rw0, .inl (krw0, 40, .inl frw)), (rw1, .inl (krw1, 4, .inl fat)), (rw2, .inl (krw2, 4, .inl fen))] s.heap := hP
  have hl := lv_entry ([.ref h0, .int n1, .int n2, .int n3, .int n4]) (n := 8) (Nat.le_of_ble_eq_true rfl)
  rw [lg_entry_eq]
  generalize (lg_sl ([.ref h0, .int n1, .int n2, .int n3, .int n4]) ++ List.replicate (8 - (lg_sl ([.ref h0, .int n1, .int n2, .int n3, .int n4])).length) Slot.unset).toArray = ls at hl ⊢
  have hl : lv_has ls 8 [(0, .ref h0), (1, .int n1), (2, .int n2), (3, .int n3), (4, .int n4)] := hl
  refine lv_iload_n hx hb dX9_kind_0 rfl (lv_at hl 1 rfl) ?_
  refine lv_iconst (v := 1) hx hb dX9_kind_1 (by decide) ?_
  refine lv_icmp_lt (tgt := 13) hx hb dX9_kind_2 (by decide) (fun c_1 => ?_) (fun c_1 => ?_)
  · have b_2 := gx_lt (X := (Int32.toInt n1)) (C := 1) rfl (by decide) c_1
    refine lv_iload_n hx hb dX9_kind_13 rfl (lv_at hl 1 rfl) ?_
    refine lv_iconst (v := 2) hx hb dX9_kind_14 (by decide) ?_
    refine lv_icmp_lt (tgt := 31) hx hb dX9_kind_15 (by decide) (fun c_3 => ?_) (fun h => absurd (gn_lt (X := (Int32.toInt n1)) (C := 2) rfl (by decide) h) (by omega))
    have b_4 := gx_lt (X := (Int32.toInt n1)) (C := 2) rfl (by decide) c_3
    refine lv_iload_n hx hb dX9_kind_31 rfl (lv_at hl 1 rfl) ?_
    refine lv_iconst (v := 3) hx hb dX9_kind_32 (by decide) ?_
    refine lv_icmp_lt (tgt := 57) hx hb dX9_kind_33 (by decide) (fun c_5 => ?_) (fun h => absurd (gn_lt (X := (Int32.toInt n1)) (C := 3) rfl (by decide) h) (by omega))
    have b_6 := gx_lt (X := (Int32.toInt n1)) (C := 3) rfl (by decide) c_5
    refine lv_iconst (v := 1) hx hb dX9_kind_57 (by decide) ?_
    refine lv_goto (tgt := 62) hx hb dX9_kind_58 (by decide) ?_
    refine lv_istore (lv' := [(5, .int 1), (0, .ref h0), (1, .int n1), (2, .int n2), (3, .int n3), (4, .int n4)]) hx hb dX9_kind_62 hl (by decide) rfl (fun ls hl => ?_)
    refine lv_iload hx hb dX9_kind_64 (lv_at hl 0 rfl) ?_
    refine lv_if_ne (tgt := 71) hx hb dX9_kind_66 (by decide) (fun _ => ?_) (fun h => absurd h (by decide))
    refine lv_iload_n hx hb dX9_kind_71 rfl (lv_at hl 2 rfl) ?_
    refine lv_i2l hx hb dX9_kind_72 rfl ?_
    refine lv_lconst (v := Int32.toInt64 0) hx hb dX9_kind_73 (by decide) ?_
    refine lv_ldc2 (v := Int32.toInt64 3) hx hb hown (show (Cond.constantLong RX9 100 (Int32.toInt64 3)).before _ s = true from (hts _ mw_4_60)) dX9_kind_74 ?_
    have hPc := hP.sub (ws' := []) [] rfl
    have hDc := hD.sub (ws' := []) [] (by decide) rfl
    have hKc := hK.sub (tys' := []) [] rfl
    refine va_calli (va_runS (As := [.long (Int32.toInt64 n1), .long (Int32.toInt64 0), .long (Int32.toInt64 3)]) (rest := []) ⟨hx, hb, hml, hown, hts⟩ (m_in l dC dI s.heap.size n1 0 3 0 3 (by decide) (by decide)) (va_cwS 3 hts (gS mw_4_57 mw_4_58 mw_1_9 mw_4_59) rfl rfl rfl (by decide +kernel) ⟨Nat.le_of_ble_eq_true rfl, Nat.le_of_ble_eq_true rfl⟩) ⟨pcW_blind, pcW_at hPc hKc hDc hN⟩ rfl rfl hl.1 rfl (lv_room (Nat.le_of_ble_eq_true rfl)) dX9_kind_77 ⟨Nat.le_of_ble_eq_true rfl, Nat.le_of_ble_eq_true rfl⟩) hS (fun q h1 h2 => absurd h2 (Nat.not_le.mpr h1)) (fun q h => hA q (Nat.le_trans hS.1 h)) (fun r_7 u t H1 locs ht hvm hw_7 hB hz1 hk1 hS => ?_)
    have hP := keepP hP hk1
    clear hz1 hk1 hB ht hvm hPc hDc hKc
    generalize H1 = H at hP hS ⊢
    rcases fx_bool hw_7 with ⟨rfl, b_8⟩ | ⟨rfl, b_8⟩
    · skip
      refine lv_if_ne (tgt := 86) hx hb dX9_kind_80 (by decide) (fun _ => ?_) (fun h => absurd h (by decide))
      refine lv_aload_n hx hb dX9_kind_86 rfl (lv_at hl 1 rfl) ?_
      refine va_get (D := (dC, dI)) (ci := 8) (v := .int (nI kn)) (C := RX9) (T := TX9) (N := 35) hx hb hts inB_9 hown hK hP 0 rfl rfl 4 (by decide) (hts _ mw_3_186) (fun _ h9 => h9) rfl dX9_kind_87 ?_
      refine lv_bipush (v := 10) hx hb dX9_kind_90 (by decide) ?_
      refine lv_icmp_ne (tgt := 98) hx hb dX9_kind_92 (by decide) (fun c_9 => ?_) (fun c_9 => ?_)
      · have b_10 := gx_ne (X := ((kn : Nat) : Int)) (C := 10) (nI_toInt (by omega)) (by decide) c_9
        obtain ⟨j_11, tj_11, ej_11⟩ := fx_nat (x := n1) (by omega)
        subst ej_11
        have yj_11 : Int32.toInt (nI j_11) = (j_11 : Int) := nI_toInt tj_11
        refine lv_aload_n hx hb dX9_kind_98 rfl (lv_at hl 1 rfl) ?_
        refine va_get (D := (dC, dI)) (ci := 8) (v := .ref l5) (C := RX9) (T := TX9) (N := 35) hx hb hts inB_9 hown hK hP 0 rfl rfl 0 (by decide) (hts _ mw_3_182) (fun _ h9 => h9) rfl dX9_kind_99 ?_
        refine lv_iconst (v := 3) hx hb dX9_kind_102 (by decide) ?_
        refine lv_aload_n hx hb dX9_kind_103 rfl (lv_at hl 1 rfl) ?_
        refine va_get (D := (dC, dI)) (ci := 8) (v := .int (nI kn)) (C := RX9) (T := TX9) (N := 35) hx hb hts inB_9 hown hK hP 0 rfl rfl 4 (by decide) (hts _ mw_3_186) (fun _ h9 => h9) rfl dX9_kind_104 ?_
        refine lv_imul hx hb dX9_kind_107 ?_
        refine hx_top (y := (nI (3 * kn))) (pk_mul 3 kn) ?_
        refine lv_iload_n hx hb dX9_kind_108 rfl (lv_at hl 3 rfl) ?_
        refine va_iast hx hb hK hP hD hS 1 0 rfl rfl (show vp_in (nI (3 * kn)) 30 from vp_in_nI (by omega) (by omega)) dX9_kind_109 (fun H locs hP hD hS => ?_)
        obtain ⟨f_12, ef_12⟩ : ∃ g : Nat → Int32, g = upd fpr (Int32.toNatClampNeg (nI (3 * kn))) n2 := ⟨_, rfl⟩
        rw [← ef_12] at hP hD
        have ef_12 : f_12 = upd fpr (3 * kn) n2 := by rw [ef_12, nI_clamp (by omega)]
        have hP : va_P (dC, dI) vwCl [(h0, .inr (8, [.ref l5, .ref l3, .ref l6, .ref l7, .int (nI kn), .ref l4, .ref l1, .ref l2, .ref rw0, .ref rw1, .ref rw2, .int rm0, w12, w13, w14, w15, w16, w17, w18, w19, w20, w21, w22, w23, w24, w25, w26, w27, w28, w29, w30, w31, w32, w33, w34])), (l5, .inl (kl5, 30, .inl f_12)), (l3, .inl (kl3, 10, .inl fpm)), (l1, .inl (kl1, 10, .inl fll)), (l2, .inl (kl2, 10, .inl fmq)), (l4, .inl (kl4, 100, .inl fln)), (l6, .inl (kl6, 10, .inl fma)), (l7, .inl (kl7, 10, .inl fib)), (rw0, .inl (krw0, 40, .inl frw)), (rw1, .inl (krw1, 4, .inl fat)), (rw2, .inl (krw2, 4, .inl fen))] H := hP
        have hD : va_D A [(h0, .inr (8, [.ref l5, .ref l3, .ref l6, .ref l7, .int (nI kn), .ref l4, .ref l1, .ref l2, .ref rw0, .ref rw1, .ref rw2, .int rm0, w12, w13, w14, w15, w16, w17, w18, w19, w20, w21, w22, w23, w24, w25, w26, w27, w28, w29, w30, w31, w32, w33, w34])), (l5, .inl (kl5, 30, .inl f_12)), (l3, .inl (kl3, 10, .inl fpm)), (l1, .inl (kl1, 10, .inl fll)), (l2, .inl (kl2, 10, .inl fmq)), (l4, .inl (kl4, 100, .inl fln)), (l6, .inl (kl6, 10, .inl fma)), (l7, .inl (kl7, 10, .inl fib)), (rw0, .inl (krw0, 40, .inl frw)), (rw1, .inl (krw1, 4, .inl fat)), (rw2, .inl (krw2, 4, .inl fen))] := hD
        refine lv_aload_n hx hb dX9_kind_110 rfl (lv_at hl 1 rfl) ?_
        refine va_get (D := (dC, dI)) (ci := 8) (v := .ref l5) (C := RX9) (T := TX9) (N := 35) hx hb hts inB_9 hown hK hP 0 rfl rfl 0 (by decide) (hts _ mw_3_182) (fun _ h9 => h9) rfl dX9_kind_111 ?_
        refine lv_iconst (v := 3) hx hb dX9_kind_114 (by decide) ?_
        refine lv_aload_n hx hb dX9_kind_115 rfl (lv_at hl 1 rfl) ?_
        refine va_get (D := (dC, dI)) (ci := 8) (v := .int (nI kn)) (C := RX9) (T := TX9) (N := 35) hx hb hts inB_9 hown hK hP 0 rfl rfl 4 (by decide) (hts _ mw_3_186) (fun _ h9 => h9) rfl dX9_kind_116 ?_
        refine lv_imul hx hb dX9_kind_119 ?_
        refine hx_top (y := (nI (3 * kn))) (pk_mul 3 kn) ?_
        refine lv_iconst (v := 1) hx hb dX9_kind_120 (by decide) ?_
        refine lv_iadd hx hb dX9_kind_121 ?_
        refine hx_top (y := (nI ((3 * kn) + 1))) (nI_add (3 * kn) 1) ?_
        refine lv_iload_n hx hb dX9_kind_122 rfl (lv_at hl 4 rfl) ?_
        refine va_iast hx hb hK hP hD hS 1 0 rfl rfl (show vp_in (nI ((3 * kn) + 1)) 30 from vp_in_nI (by omega) (by omega)) dX9_kind_123 (fun H locs hP hD hS => ?_)
        obtain ⟨f_13, ef_13⟩ : ∃ g : Nat → Int32, g = upd f_12 (Int32.toNatClampNeg (nI ((3 * kn) + 1))) n3 := ⟨_, rfl⟩
        rw [← ef_13] at hP hD
        have ef_13 : f_13 = upd f_12 ((3 * kn) + 1) n3 := by rw [ef_13, nI_clamp (by omega)]
        have hP : va_P (dC, dI) vwCl [(h0, .inr (8, [.ref l5, .ref l3, .ref l6, .ref l7, .int (nI kn), .ref l4, .ref l1, .ref l2, .ref rw0, .ref rw1, .ref rw2, .int rm0, w12, w13, w14, w15, w16, w17, w18, w19, w20, w21, w22, w23, w24, w25, w26, w27, w28, w29, w30, w31, w32, w33, w34])), (l5, .inl (kl5, 30, .inl f_13)), (l3, .inl (kl3, 10, .inl fpm)), (l1, .inl (kl1, 10, .inl fll)), (l2, .inl (kl2, 10, .inl fmq)), (l4, .inl (kl4, 100, .inl fln)), (l6, .inl (kl6, 10, .inl fma)), (l7, .inl (kl7, 10, .inl fib)), (rw0, .inl (krw0, 40, .inl frw)), (rw1, .inl (krw1, 4, .inl fat)), (rw2, .inl (krw2, 4, .inl fen))] H := hP
        have hD : va_D A [(h0, .inr (8, [.ref l5, .ref l3, .ref l6, .ref l7, .int (nI kn), .ref l4, .ref l1, .ref l2, .ref rw0, .ref rw1, .ref rw2, .int rm0, w12, w13, w14, w15, w16, w17, w18, w19, w20, w21, w22, w23, w24, w25, w26, w27, w28, w29, w30, w31, w32, w33, w34])), (l5, .inl (kl5, 30, .inl f_13)), (l3, .inl (kl3, 10, .inl fpm)), (l1, .inl (kl1, 10, .inl fll)), (l2, .inl (kl2, 10, .inl fmq)), (l4, .inl (kl4, 100, .inl fln)), (l6, .inl (kl6, 10, .inl fma)), (l7, .inl (kl7, 10, .inl fib)), (rw0, .inl (krw0, 40, .inl frw)), (rw1, .inl (krw1, 4, .inl fat)), (rw2, .inl (krw2, 4, .inl fen))] := hD
        refine lv_aload_n hx hb dX9_kind_124 rfl (lv_at hl 1 rfl) ?_
        refine va_get (D := (dC, dI)) (ci := 8) (v := .ref l5) (C := RX9) (T := TX9) (N := 35) hx hb hts inB_9 hown hK hP 0 rfl rfl 0 (by decide) (hts _ mw_3_182) (fun _ h9 => h9) rfl dX9_kind_125 ?_
        refine lv_iconst (v := 3) hx hb dX9_kind_128 (by decide) ?_
        refine lv_aload_n hx hb dX9_kind_129 rfl (lv_at hl 1 rfl) ?_
        refine va_get (D := (dC, dI)) (ci := 8) (v := .int (nI kn)) (C := RX9) (T := TX9) (N := 35) hx hb hts inB_9 hown hK hP 0 rfl rfl 4 (by decide) (hts _ mw_3_186) (fun _ h9 => h9) rfl dX9_kind_130 ?_
        refine lv_imul hx hb dX9_kind_133 ?_
        refine hx_top (y := (nI (3 * kn))) (pk_mul 3 kn) ?_
        refine lv_iconst (v := 2) hx hb dX9_kind_134 (by decide) ?_
        refine lv_iadd hx hb dX9_kind_135 ?_
        refine hx_top (y := (nI ((3 * kn) + 2))) (nI_add (3 * kn) 2) ?_
        refine lv_iload hx hb dX9_kind_136 (lv_at hl 5 rfl) ?_
        refine va_iast hx hb hK hP hD hS 1 0 rfl rfl (show vp_in (nI ((3 * kn) + 2)) 30 from vp_in_nI (by omega) (by omega)) dX9_kind_138 (fun H locs hP hD hS => ?_)
        obtain ⟨f_14, ef_14⟩ : ∃ g : Nat → Int32, g = upd f_13 (Int32.toNatClampNeg (nI ((3 * kn) + 2))) n4 := ⟨_, rfl⟩
        rw [← ef_14] at hP hD
        have ef_14 : f_14 = upd f_13 ((3 * kn) + 2) n4 := by rw [ef_14, nI_clamp (by omega)]
        have hP : va_P (dC, dI) vwCl [(h0, .inr (8, [.ref l5, .ref l3, .ref l6, .ref l7, .int (nI kn), .ref l4, .ref l1, .ref l2, .ref rw0, .ref rw1, .ref rw2, .int rm0, w12, w13, w14, w15, w16, w17, w18, w19, w20, w21, w22, w23, w24, w25, w26, w27, w28, w29, w30, w31, w32, w33, w34])), (l5, .inl (kl5, 30, .inl f_14)), (l3, .inl (kl3, 10, .inl fpm)), (l1, .inl (kl1, 10, .inl fll)), (l2, .inl (kl2, 10, .inl fmq)), (l4, .inl (kl4, 100, .inl fln)), (l6, .inl (kl6, 10, .inl fma)), (l7, .inl (kl7, 10, .inl fib)), (rw0, .inl (krw0, 40, .inl frw)), (rw1, .inl (krw1, 4, .inl fat)), (rw2, .inl (krw2, 4, .inl fen))] H := hP
        have hD : va_D A [(h0, .inr (8, [.ref l5, .ref l3, .ref l6, .ref l7, .int (nI kn), .ref l4, .ref l1, .ref l2, .ref rw0, .ref rw1, .ref rw2, .int rm0, w12, w13, w14, w15, w16, w17, w18, w19, w20, w21, w22, w23, w24, w25, w26, w27, w28, w29, w30, w31, w32, w33, w34])), (l5, .inl (kl5, 30, .inl f_14)), (l3, .inl (kl3, 10, .inl fpm)), (l1, .inl (kl1, 10, .inl fll)), (l2, .inl (kl2, 10, .inl fmq)), (l4, .inl (kl4, 100, .inl fln)), (l6, .inl (kl6, 10, .inl fma)), (l7, .inl (kl7, 10, .inl fib)), (rw0, .inl (krw0, 40, .inl frw)), (rw1, .inl (krw1, 4, .inl fat)), (rw2, .inl (krw2, 4, .inl fen))] := hD
        refine lv_aload_n hx hb dX9_kind_139 rfl (lv_at hl 1 rfl) ?_
        refine va_get (D := (dC, dI)) (ci := 8) (v := .ref l3) (C := RX9) (T := TX9) (N := 35) hx hb hts inB_9 hown hK hP 0 rfl rfl 1 (by decide) (hts _ mw_3_183) (fun _ h9 => h9) rfl dX9_kind_140 ?_
        refine lv_aload_n hx hb dX9_kind_143 rfl (lv_at hl 1 rfl) ?_
        refine va_get (D := (dC, dI)) (ci := 8) (v := .int (nI kn)) (C := RX9) (T := TX9) (N := 35) hx hb hts inB_9 hown hK hP 0 rfl rfl 4 (by decide) (hts _ mw_3_186) (fun _ h9 => h9) rfl dX9_kind_144 ?_
        refine lv_iload_n hx hb dX9_kind_147 rfl (lv_at hl 2 rfl) ?_
        refine va_iast hx hb hK hP hD hS 2 1 rfl rfl (show vp_in (nI kn) 10 from vp_in_nI (by omega) (by omega)) dX9_kind_148 (fun H locs hP hD hS => ?_)
        obtain ⟨f_15, ef_15⟩ : ∃ g : Nat → Int32, g = upd fpm (Int32.toNatClampNeg (nI kn)) (nI j_11) := ⟨_, rfl⟩
        rw [← ef_15] at hP hD
        have ef_15 : f_15 = upd fpm kn (nI j_11) := by rw [ef_15, nI_clamp (by omega)]
        have hP : va_P (dC, dI) vwCl [(h0, .inr (8, [.ref l5, .ref l3, .ref l6, .ref l7, .int (nI kn), .ref l4, .ref l1, .ref l2, .ref rw0, .ref rw1, .ref rw2, .int rm0, w12, w13, w14, w15, w16, w17, w18, w19, w20, w21, w22, w23, w24, w25, w26, w27, w28, w29, w30, w31, w32, w33, w34])), (l5, .inl (kl5, 30, .inl f_14)), (l3, .inl (kl3, 10, .inl f_15)), (l1, .inl (kl1, 10, .inl fll)), (l2, .inl (kl2, 10, .inl fmq)), (l4, .inl (kl4, 100, .inl fln)), (l6, .inl (kl6, 10, .inl fma)), (l7, .inl (kl7, 10, .inl fib)), (rw0, .inl (krw0, 40, .inl frw)), (rw1, .inl (krw1, 4, .inl fat)), (rw2, .inl (krw2, 4, .inl fen))] H := hP
        have hD : va_D A [(h0, .inr (8, [.ref l5, .ref l3, .ref l6, .ref l7, .int (nI kn), .ref l4, .ref l1, .ref l2, .ref rw0, .ref rw1, .ref rw2, .int rm0, w12, w13, w14, w15, w16, w17, w18, w19, w20, w21, w22, w23, w24, w25, w26, w27, w28, w29, w30, w31, w32, w33, w34])), (l5, .inl (kl5, 30, .inl f_14)), (l3, .inl (kl3, 10, .inl f_15)), (l1, .inl (kl1, 10, .inl fll)), (l2, .inl (kl2, 10, .inl fmq)), (l4, .inl (kl4, 100, .inl fln)), (l6, .inl (kl6, 10, .inl fma)), (l7, .inl (kl7, 10, .inl fib)), (rw0, .inl (krw0, 40, .inl frw)), (rw1, .inl (krw1, 4, .inl fat)), (rw2, .inl (krw2, 4, .inl fen))] := hD
        refine lv_aload_n hx hb dX9_kind_149 rfl (lv_at hl 1 rfl) ?_
        refine va_get (D := (dC, dI)) (ci := 8) (v := .ref l6) (C := RX9) (T := TX9) (N := 35) hx hb hts inB_9 hown hK hP 0 rfl rfl 2 (by decide) (hts _ mw_3_184) (fun _ h9 => h9) rfl dX9_kind_150 ?_
        refine lv_aload_n hx hb dX9_kind_153 rfl (lv_at hl 1 rfl) ?_
        refine va_get (D := (dC, dI)) (ci := 8) (v := .int (nI kn)) (C := RX9) (T := TX9) (N := 35) hx hb hts inB_9 hown hK hP 0 rfl rfl 4 (by decide) (hts _ mw_3_186) (fun _ h9 => h9) rfl dX9_kind_154 ?_
        refine lv_iconst (v := 0) hx hb dX9_kind_157 (by decide) ?_
        refine va_iast hx hb hK hP hD hS 6 5 rfl rfl (show vp_in (nI kn) 10 from vp_in_nI (by omega) (by omega)) dX9_kind_158 (fun H locs hP hD hS => ?_)
        obtain ⟨f_16, ef_16⟩ : ∃ g : Nat → Int32, g = upd fma (Int32.toNatClampNeg (nI kn)) 0 := ⟨_, rfl⟩
        rw [← ef_16] at hP hD
        have ef_16 : f_16 = upd fma kn 0 := by rw [ef_16, nI_clamp (by omega)]
        have hP : va_P (dC, dI) vwCl [(h0, .inr (8, [.ref l5, .ref l3, .ref l6, .ref l7, .int (nI kn), .ref l4, .ref l1, .ref l2, .ref rw0, .ref rw1, .ref rw2, .int rm0, w12, w13, w14, w15, w16, w17, w18, w19, w20, w21, w22, w23, w24, w25, w26, w27, w28, w29, w30, w31, w32, w33, w34])), (l5, .inl (kl5, 30, .inl f_14)), (l3, .inl (kl3, 10, .inl f_15)), (l1, .inl (kl1, 10, .inl fll)), (l2, .inl (kl2, 10, .inl fmq)), (l4, .inl (kl4, 100, .inl fln)), (l6, .inl (kl6, 10, .inl f_16)), (l7, .inl (kl7, 10, .inl fib)), (rw0, .inl (krw0, 40, .inl frw)), (rw1, .inl (krw1, 4, .inl fat)), (rw2, .inl (krw2, 4, .inl fen))] H := hP
        have hD : va_D A [(h0, .inr (8, [.ref l5, .ref l3, .ref l6, .ref l7, .int (nI kn), .ref l4, .ref l1, .ref l2, .ref rw0, .ref rw1, .ref rw2, .int rm0, w12, w13, w14, w15, w16, w17, w18, w19, w20, w21, w22, w23, w24, w25, w26, w27, w28, w29, w30, w31, w32, w33, w34])), (l5, .inl (kl5, 30, .inl f_14)), (l3, .inl (kl3, 10, .inl f_15)), (l1, .inl (kl1, 10, .inl fll)), (l2, .inl (kl2, 10, .inl fmq)), (l4, .inl (kl4, 100, .inl fln)), (l6, .inl (kl6, 10, .inl f_16)), (l7, .inl (kl7, 10, .inl fib)), (rw0, .inl (krw0, 40, .inl frw)), (rw1, .inl (krw1, 4, .inl fat)), (rw2, .inl (krw2, 4, .inl fen))] := hD
        refine lv_aload_n hx hb dX9_kind_159 rfl (lv_at hl 1 rfl) ?_
        refine va_get (D := (dC, dI)) (ci := 8) (v := .ref l7) (C := RX9) (T := TX9) (N := 35) hx hb hts inB_9 hown hK hP 0 rfl rfl 3 (by decide) (hts _ mw_3_185) (fun _ h9 => h9) rfl dX9_kind_160 ?_
        refine lv_aload_n hx hb dX9_kind_163 rfl (lv_at hl 1 rfl) ?_
        refine va_get (D := (dC, dI)) (ci := 8) (v := .int (nI kn)) (C := RX9) (T := TX9) (N := 35) hx hb hts inB_9 hown hK hP 0 rfl rfl 4 (by decide) (hts _ mw_3_186) (fun _ h9 => h9) rfl dX9_kind_164 ?_
        refine lv_iconst (v := 0) hx hb dX9_kind_167 (by decide) ?_
        refine va_zast hx hb hK hP hD hS 7 6 rfl rfl (show vp_in (nI kn) 10 from vp_in_nI (by omega) (by omega)) dX9_kind_168 (fun H locs hP hD hS => ?_)
        obtain ⟨f_17, ef_17⟩ : ∃ g : Nat → Int32, g = upd fib (Int32.toNatClampNeg (nI kn)) (vp_nar .boolean 0) := ⟨_, rfl⟩
        rw [← ef_17] at hP hD
        have ef_17 : f_17 = upd fib kn (vp_nar .boolean 0) := by rw [ef_17, nI_clamp (by omega)]
        have hP : va_P (dC, dI) vwCl [(h0, .inr (8, [.ref l5, .ref l3, .ref l6, .ref l7, .int (nI kn), .ref l4, .ref l1, .ref l2, .ref rw0, .ref rw1, .ref rw2, .int rm0, w12, w13, w14, w15, w16, w17, w18, w19, w20, w21, w22, w23, w24, w25, w26, w27, w28, w29, w30, w31, w32, w33, w34])), (l5, .inl (kl5, 30, .inl f_14)), (l3, .inl (kl3, 10, .inl f_15)), (l1, .inl (kl1, 10, .inl fll)), (l2, .inl (kl2, 10, .inl fmq)), (l4, .inl (kl4, 100, .inl fln)), (l6, .inl (kl6, 10, .inl f_16)), (l7, .inl (kl7, 10, .inl f_17)), (rw0, .inl (krw0, 40, .inl frw)), (rw1, .inl (krw1, 4, .inl fat)), (rw2, .inl (krw2, 4, .inl fen))] H := hP
        have hD : va_D A [(h0, .inr (8, [.ref l5, .ref l3, .ref l6, .ref l7, .int (nI kn), .ref l4, .ref l1, .ref l2, .ref rw0, .ref rw1, .ref rw2, .int rm0, w12, w13, w14, w15, w16, w17, w18, w19, w20, w21, w22, w23, w24, w25, w26, w27, w28, w29, w30, w31, w32, w33, w34])), (l5, .inl (kl5, 30, .inl f_14)), (l3, .inl (kl3, 10, .inl f_15)), (l1, .inl (kl1, 10, .inl fll)), (l2, .inl (kl2, 10, .inl fmq)), (l4, .inl (kl4, 100, .inl fln)), (l6, .inl (kl6, 10, .inl f_16)), (l7, .inl (kl7, 10, .inl f_17)), (rw0, .inl (krw0, 40, .inl frw)), (rw1, .inl (krw1, 4, .inl fat)), (rw2, .inl (krw2, 4, .inl fen))] := hD
        refine lv_iconst (v := 0) hx hb dX9_kind_169 (by decide) ?_
        refine lv_istore (lv' := [(6, .int 0), (5, .int 1), (0, .ref h0), (1, .int (nI j_11)), (2, .int n2), (3, .int n3), (4, .int n4)]) hx hb dX9_kind_170 hl (by decide) rfl (fun ls hl => ?_)
        have hprk : PrOk f_14 kn j_11 := pr_3 ef_12 ef_13 ef_14 (by omega) (fun q => by omega) (fun q => by omega) (fun q => by omega)
        have hpp : ∀ i, i < 3 → f_14 (3 * kn + i) = par3 n2 n3 n4 i := p3_get ef_12 ef_13 ef_14
        have key_18 : ∀ (fu : Nat) (k : Nat) (fax : Nat → Int32), (k ≤ j_11) → (fax = upd fma kn (abv fma (par3 n2 n3 n4) k)) → j_11 - k < fu → ∀ (H : Heap) (locs : List Loc), va_P (dC, dI) vwCl [(h0, .inr (8, [.ref l5, .ref l3, .ref l6, .ref l7, .int (nI kn), .ref l4, .ref l1, .ref l2, .ref rw0, .ref rw1, .ref rw2, .int rm0, w12, w13, w14, w15, w16, w17, w18, w19, w20, w21, w22, w23, w24, w25, w26, w27, w28, w29, w30, w31, w32, w33, w34])), (l5, .inl (kl5, 30, .inl f_14)), (l3, .inl (kl3, 10, .inl f_15)), (l1, .inl (kl1, 10, .inl fll)), (l2, .inl (kl2, 10, .inl fmq)), (l4, .inl (kl4, 100, .inl fln)), (l6, .inl (kl6, 10, .inl fax)), (l7, .inl (kl7, 10, .inl f_17)), (rw0, .inl (krw0, 40, .inl frw)), (rw1, .inl (krw1, 4, .inl fat)), (rw2, .inl (krw2, 4, .inl fen))] H → va_D A [(h0, .inr (8, [.ref l5, .ref l3, .ref l6, .ref l7, .int (nI kn), .ref l4, .ref l1, .ref l2, .ref rw0, .ref rw1, .ref rw2, .int rm0, w12, w13, w14, w15, w16, w17, w18, w19, w20, w21, w22, w23, w24, w25, w26, w27, w28, w29, w30, w31, w32, w33, w34])), (l5, .inl (kl5, 30, .inl f_14)), (l3, .inl (kl3, 10, .inl f_15)), (l1, .inl (kl1, 10, .inl fll)), (l2, .inl (kl2, 10, .inl fmq)), (l4, .inl (kl4, 100, .inl fln)), (l6, .inl (kl6, 10, .inl fax)), (l7, .inl (kl7, 10, .inl f_17)), (rw0, .inl (krw0, 40, .inl frw)), (rw1, .inl (krw1, 4, .inl fat)), (rw2, .inl (krw2, 4, .inl fen))] → va_S A s.heap H locs → ∀ (ls : Array Slot), lv_has ls 8 [(6, .int (nI k)), (5, .int 1), (0, .ref h0), (1, .int (nI j_11)), (2, .int n2), (3, .int n3), (4, .int n4)] → W p l e (headSpec (wq yX9_kind cX9_kind 8 (some .int)) ({ frames := 3, cells := 0, slots := 0, locals := 71 })).room s m (([.ref h0, .int (nI j_11), .int n2, .int n3, .int n4] : List Value)).toArray below meth c H locs 0 0 (MQ below (va_Qi (fun (r : Int32) (_ : Unit) => r = F_kind kn (nI j_11) n2 n3 n4) (fun _ t => ∃ (kn2 : Nat) (fpr2 : Nat → Int32) (fpm2 : Nat → Int32) (fma2 : Nat → Int32) (fib2 : Nat → Int32) (frw2 : Nat → Int32) (fat2 : Nat → Int32) (fen2 : Nat → Int32) (fll2 : Nat → Int32) (fmq2 : Nat → Int32) (fln2 : Nat → Int32) (rm2 : Int32), (kn2 = K_next kn (nI j_11) n2 n3 n4) ∧ (fib2 = KB_next kn fib (nI j_11) n2 n3 n4) ∧ (fma2 = KA_next kn fma (nI j_11) n2 n3 n4) ∧ (kn2 ≤ 10) ∧ (BdOk 10 10 fll2) ∧ (LnOk fll2 fln2 kn2) ∧ (BdOk 4 10 fat2) ∧ (BdOk 4 10 fen2) ∧ va_P (dC, dI) vwCl [(h0, .inr (8, [.ref l5, .ref l3, .ref l6, .ref l7, .int (nI kn2), .ref l4, .ref l1, .ref l2, .ref rw0, .ref rw1, .ref rw2, .int rm2, w12, w13, w14, w15, w16, w17, w18, w19, w20, w21, w22, w23, w24, w25, w26, w27, w28, w29, w30, w31, w32, w33, w34])), (l5, .inl (kl5, 30, .inl fpr2)), (l3, .inl (kl3, 10, .inl fpm2)), (l1, .inl (kl1, 10, .inl fll2)), (l2, .inl (kl2, 10, .inl fmq2)), (l4, .inl (kl4, 100, .inl fln2)), (l6, .inl (kl6, 10, .inl fma2)), (l7, .inl (kl7, 10, .inl fib2)), (rw0, .inl (krw0, 40, .inl frw2)), (rw1, .inl (krw1, 4, .inl fat2)), (rw2, .inl (krw2, 4, .inl fen2))] t.heap ∧ va_K (dC, dI) vwCl [(kl5, .int), (kl3, .int), (kl1, .int), (kl2, .int), (kl4, .int), (kl6, .int), (kl7, .boolean), (krw0, .int), (krw1, .int), (krw2, .int)] t ∧ va_D A [(h0, .inr (8, [.ref l5, .ref l3, .ref l6, .ref l7, .int (nI kn2), .ref l4, .ref l1, .ref l2, .ref rw0, .ref rw1, .ref rw2, .int rm2, w12, w13, w14, w15, w16, w17, w18, w19, w20, w21, w22, w23, w24, w25, w26, w27, w28, w29, w30, w31, w32, w33, w34])), (l5, .inl (kl5, 30, .inl fpr2)), (l3, .inl (kl3, 10, .inl fpm2)), (l1, .inl (kl1, 10, .inl fll2)), (l2, .inl (kl2, 10, .inl fmq2)), (l4, .inl (kl4, 100, .inl fln2)), (l6, .inl (kl6, 10, .inl fma2)), (l7, .inl (kl7, 10, .inl fib2)), (rw0, .inl (krw0, 40, .inl frw2)), (rw1, .inl (krw1, 4, .inl fat2)), (rw2, .inl (krw2, 4, .inl fen2))]) A) (([.ref h0, .int (nI j_11), .int n2, .int n3, .int n4] : List Value)).toArray s 0 0 A) (F0 m 172 ls []) := by
          intro fu
          induction fu with
          | zero => intro k fax hk hax hme; exact absurd hme (Nat.not_lt_zero _)
          | succ fu ih_19 =>
            intro k fax hk hax hme H locs hP hD hS ls hl
            refine lv_iload hx hb dX9_kind_172 (lv_at hl 0 rfl) ?_
            refine lv_iload_n hx hb dX9_kind_174 rfl (lv_at hl 3 rfl) ?_
            refine lv_icmp_ge (tgt := 224) hx hb dX9_kind_175 (by decide) (fun c_20 => ?_) (fun c_20 => ?_)
            · have b_21 := gx_ge (X := ((k : Nat) : Int)) (C := ((j_11 : Nat) : Int)) (nI_toInt (by omega)) (nI_toInt (by omega)) c_20
              refine lv_aload_n hx hb dX9_kind_224 rfl (lv_at hl 2 rfl) ?_
              refine lv_aload_n hx hb dX9_kind_225 rfl (lv_at hl 2 rfl) ?_
              refine va_get (D := (dC, dI)) (ci := 8) (v := .int (nI kn)) (C := RX9) (T := TX9) (N := 35) hx hb hts inB_9 hown hK hP 0 rfl rfl 4 (by decide) (hts _ mw_3_186) (fun _ h9 => h9) rfl dX9_kind_226 ?_
              have hPc := hP.sub (ws' := [(h0, .inr (8, [.ref l5, .ref l3, .ref l6, .ref l7, .int (nI kn), .ref l4, .ref l1, .ref l2, .ref rw0, .ref rw1, .ref rw2, .int rm0, w12, w13, w14, w15, w16, w17, w18, w19, w20, w21, w22, w23, w24, w25, w26, w27, w28, w29, w30, w31, w32, w33, w34])), (l5, .inl (kl5, 30, .inl f_14)), (l3, .inl (kl3, 10, .inl f_15)), (l1, .inl (kl1, 10, .inl fll)), (l2, .inl (kl2, 10, .inl fmq)), (l4, .inl (kl4, 100, .inl fln)), (rw0, .inl (krw0, 40, .inl frw)), (rw1, .inl (krw1, 4, .inl fat)), (rw2, .inl (krw2, 4, .inl fen))]) [0, 1, 2, 3, 4, 5, 8, 9, 10] rfl
              have hDc := hD.sub (ws' := [(h0, .inr (8, [.ref l5, .ref l3, .ref l6, .ref l7, .int (nI kn), .ref l4, .ref l1, .ref l2, .ref rw0, .ref rw1, .ref rw2, .int rm0, w12, w13, w14, w15, w16, w17, w18, w19, w20, w21, w22, w23, w24, w25, w26, w27, w28, w29, w30, w31, w32, w33, w34])), (l5, .inl (kl5, 30, .inl f_14)), (l3, .inl (kl3, 10, .inl f_15)), (l1, .inl (kl1, 10, .inl fll)), (l2, .inl (kl2, 10, .inl fmq)), (l4, .inl (kl4, 100, .inl fln)), (rw0, .inl (krw0, 40, .inl frw)), (rw1, .inl (krw1, 4, .inl fat)), (rw2, .inl (krw2, 4, .inl fen))]) [0, 1, 2, 3, 4, 5, 8, 9, 10] (by decide) rfl
              have hKc := hK.sub (tys' := [(kl5, .int), (kl3, .int), (kl1, .int), (kl2, .int), (kl4, .int), (krw0, .int), (krw1, .int), (krw2, .int)]) [0, 1, 2, 3, 4, 7, 8, 9] rfl
              have hFc := va_free (wc := [(h0, .inr (8, [.ref l5, .ref l3, .ref l6, .ref l7, .int (nI kn), .ref l4, .ref l1, .ref l2, .ref rw0, .ref rw1, .ref rw2, .int rm0, w12, w13, w14, w15, w16, w17, w18, w19, w20, w21, w22, w23, w24, w25, w26, w27, w28, w29, w30, w31, w32, w33, w34])), (l5, .inl (kl5, 30, .inl f_14)), (l3, .inl (kl3, 10, .inl f_15)), (l1, .inl (kl1, 10, .inl fll)), (l2, .inl (kl2, 10, .inl fmq)), (l4, .inl (kl4, 100, .inl fln)), (rw0, .inl (krw0, 40, .inl frw)), (rw1, .inl (krw1, 4, .inl fat)), (rw2, .inl (krw2, 4, .inl fen))]) hD hS hA [0, 1, 2, 3, 4, 5, 8, 9, 10] rfl
              refine va_callv (va_runV (As := [.int (nI kn)]) (rest := []) ⟨hx, hb, hml, hown, hts⟩ (m_layLine l dC dI H.size h0 l5 l3 (.ref l6) (.ref l7) (.int (nI kn)) l4 l1 l2 rw0 rw1 rw2 rm0 (w12) (w13) (w14) (w15) (w16) (w17) (w18) (w19) (w20) (w21) (w22) (w23) (w24) (w25) (w26) (w27) (w28) (w29) (w30) (w31) (w32) (w33) (w34) kl5 f_14 kl3 f_15 kl1 fll kl2 fmq kl4 fln krw0 frw krw1 fat krw2 fen kn j_11 (by omega) (by rw [ef_15]; exact pk_us) (by omega) hprk hll hln hfat hfen) (cwV 1 hts (gV mw_4_61 mw_4_63 mw_0_16 mw_1_9 mw_4_64) rfl rfl rfl (by decide +kernel) ⟨Nat.le_of_ble_eq_true rfl, Nat.le_of_ble_eq_true rfl⟩) ⟨pcW_blind, va_recv hKc hPc (ci := 8) (q0 := 0) rfl rfl, pcW_at hPc hKc hDc hN⟩ rfl rfl hl.1 rfl (lv_room (Nat.le_of_ble_eq_true rfl)) dX9_kind_229 ⟨Nat.le_of_ble_eq_true rfl, Nat.le_of_ble_eq_true rfl⟩) hS (fun q _ h => hFc q h) hFc (fun u t H1 locs ht hvm hw_22 hB hz1 hk1 hS => ?_)
              obtain ⟨f_23, f_24, f_25, f_26, f_27, f_28, z_29, p_30, p_31, p_32, p_33, hP1, hK1, hD1⟩ := hB
              rw [ht] at hP1
              have hK1 := va_K.moved hvm.symm hK1
              obtain ⟨hP, hD⟩ := va_join (wr := [(l6, .inl (kl6, 10, .inl fax)), (l7, .inl (kl7, 10, .inl f_17))]) (w1 := [(h0, .inr (8, [.ref l5, .ref l3, .ref l6, .ref l7, .int (nI kn), .ref l4, .ref l1, .ref l2, .ref rw0, .ref rw1, .ref rw2, .int z_29, w12, w13, w14, w15, w16, w17, w18, w19, w20, w21, w22, w23, w24, w25, w26, w27, w28, w29, w30, w31, w32, w33, w34])), (l5, .inl (kl5, 30, .inl f_14)), (l3, .inl (kl3, 10, .inl f_15)), (l1, .inl (kl1, 10, .inl f_26)), (l2, .inl (kl2, 10, .inl f_27)), (l4, .inl (kl4, 100, .inl f_28)), (rw0, .inl (krw0, 40, .inl f_23)), (rw1, .inl (krw1, 4, .inl f_24)), (rw2, .inl (krw2, 4, .inl f_25))]) hP hD [0, 1, 2, 3, 4, 5, 8, 9, 10] [6, 7] rfl rfl (by decide) (by decide) hk1 hFc hP1 hD1
              have hK := (hK.sub (tys' := [(kl6, .int), (kl7, .boolean)]) [5, 6] rfl).app hK1
              clear hz1 hk1 hPc hDc hKc hFc
              generalize H1 = H at hP hS ⊢
              have hK : va_K (dC, dI) vwCl [(kl6, .int), (kl7, .boolean), (kl5, .int), (kl3, .int), (kl1, .int), (kl2, .int), (kl4, .int), (krw0, .int), (krw1, .int), (krw2, .int)] s := hK
              have hP : va_P (dC, dI) vwCl [(l6, .inl (kl6, 10, .inl fax)), (l7, .inl (kl7, 10, .inl f_17)), (h0, .inr (8, [.ref l5, .ref l3, .ref l6, .ref l7, .int (nI kn), .ref l4, .ref l1, .ref l2, .ref rw0, .ref rw1, .ref rw2, .int z_29, w12, w13, w14, w15, w16, w17, w18, w19, w20, w21, w22, w23, w24, w25, w26, w27, w28, w29, w30, w31, w32, w33, w34])), (l5, .inl (kl5, 30, .inl f_14)), (l3, .inl (kl3, 10, .inl f_15)), (l1, .inl (kl1, 10, .inl f_26)), (l2, .inl (kl2, 10, .inl f_27)), (l4, .inl (kl4, 100, .inl f_28)), (rw0, .inl (krw0, 40, .inl f_23)), (rw1, .inl (krw1, 4, .inl f_24)), (rw2, .inl (krw2, 4, .inl f_25))] H := hP
              have hD : va_D A [(l6, .inl (kl6, 10, .inl fax)), (l7, .inl (kl7, 10, .inl f_17)), (h0, .inr (8, [.ref l5, .ref l3, .ref l6, .ref l7, .int (nI kn), .ref l4, .ref l1, .ref l2, .ref rw0, .ref rw1, .ref rw2, .int z_29, w12, w13, w14, w15, w16, w17, w18, w19, w20, w21, w22, w23, w24, w25, w26, w27, w28, w29, w30, w31, w32, w33, w34])), (l5, .inl (kl5, 30, .inl f_14)), (l3, .inl (kl3, 10, .inl f_15)), (l1, .inl (kl1, 10, .inl f_26)), (l2, .inl (kl2, 10, .inl f_27)), (l4, .inl (kl4, 100, .inl f_28)), (rw0, .inl (krw0, 40, .inl f_23)), (rw1, .inl (krw1, 4, .inl f_24)), (rw2, .inl (krw2, 4, .inl f_25))] := hD
              refine lv_aload_n hx hb dX9_kind_232 rfl (lv_at hl 2 rfl) ?_
              refine lv_dup hx hb dX9_kind_233 rfl ?_
              refine va_get (D := (dC, dI)) (ci := 8) (v := .int (nI kn)) (C := RX9) (T := TX9) (N := 35) hx hb hts inB_9 hown hK hP 2 rfl rfl 4 (by decide) (hts _ mw_3_186) (fun _ h9 => h9) rfl dX9_kind_234 ?_
              refine lv_iconst (v := 1) hx hb dX9_kind_237 (by decide) ?_
              refine lv_iadd hx hb dX9_kind_238 ?_
              refine hx_top (y := (nI (kn + 1))) (nI_add kn 1) ?_
              refine va_put (D := (dC, dI)) (ci := 8) (v := .int (nI (kn + 1))) (ty := .int) (C := RX9) (T := TX9) (N := 35) hx hb hts inB_9 tyX9 tyX9_ok nmX9 hown hK hP hD hS 2 rfl rfl 4 (by decide) (hts _ mw_3_186) (fun _ h9 => h9) rfl (by decide +kernel) rfl rfl (Nat.le_of_ble_eq_true rfl) dX9_kind_239 (fun H locs hP hD hS => ?_)
              have hP : va_P (dC, dI) vwCl [(l6, .inl (kl6, 10, .inl fax)), (l7, .inl (kl7, 10, .inl f_17)), (h0, .inr (8, [.ref l5, .ref l3, .ref l6, .ref l7, .int (nI (kn + 1)), .ref l4, .ref l1, .ref l2, .ref rw0, .ref rw1, .ref rw2, .int z_29, w12, w13, w14, w15, w16, w17, w18, w19, w20, w21, w22, w23, w24, w25, w26, w27, w28, w29, w30, w31, w32, w33, w34])), (l5, .inl (kl5, 30, .inl f_14)), (l3, .inl (kl3, 10, .inl f_15)), (l1, .inl (kl1, 10, .inl f_26)), (l2, .inl (kl2, 10, .inl f_27)), (l4, .inl (kl4, 100, .inl f_28)), (rw0, .inl (krw0, 40, .inl f_23)), (rw1, .inl (krw1, 4, .inl f_24)), (rw2, .inl (krw2, 4, .inl f_25))] H := hP
              have hD : va_D A [(l6, .inl (kl6, 10, .inl fax)), (l7, .inl (kl7, 10, .inl f_17)), (h0, .inr (8, [.ref l5, .ref l3, .ref l6, .ref l7, .int (nI (kn + 1)), .ref l4, .ref l1, .ref l2, .ref rw0, .ref rw1, .ref rw2, .int z_29, w12, w13, w14, w15, w16, w17, w18, w19, w20, w21, w22, w23, w24, w25, w26, w27, w28, w29, w30, w31, w32, w33, w34])), (l5, .inl (kl5, 30, .inl f_14)), (l3, .inl (kl3, 10, .inl f_15)), (l1, .inl (kl1, 10, .inl f_26)), (l2, .inl (kl2, 10, .inl f_27)), (l4, .inl (kl4, 100, .inl f_28)), (rw0, .inl (krw0, 40, .inl f_23)), (rw1, .inl (krw1, 4, .inl f_24)), (rw2, .inl (krw2, 4, .inl f_25))] := hD
              refine lv_aload_n hx hb dX9_kind_242 rfl (lv_at hl 2 rfl) ?_
              refine va_get (D := (dC, dI)) (ci := 8) (v := .int (nI (kn + 1))) (C := RX9) (T := TX9) (N := 35) hx hb hts inB_9 hown hK hP 2 rfl rfl 4 (by decide) (hts _ mw_3_186) (fun _ h9 => h9) rfl dX9_kind_243 ?_
              refine lv_iconst (v := 1) hx hb dX9_kind_246 (by decide) ?_
              refine lv_isub hx hb dX9_kind_247 ?_
              refine hx_top (y := (nI ((kn + 1) - 1))) (pk_sub (a := (kn + 1)) (b := 1) (by omega)) ?_
              have hP9 := hP.sub (ws' := [(h0, .inr (8, [.ref l5, .ref l3, .ref l6, .ref l7, .int (nI (kn + 1)), .ref l4, .ref l1, .ref l2, .ref rw0, .ref rw1, .ref rw2, .int z_29, w12, w13, w14, w15, w16, w17, w18, w19, w20, w21, w22, w23, w24, w25, w26, w27, w28, w29, w30, w31, w32, w33, w34])), (l5, .inl (kl5, 30, .inl f_14)), (l3, .inl (kl3, 10, .inl f_15)), (l1, .inl (kl1, 10, .inl f_26)), (l2, .inl (kl2, 10, .inl f_27)), (l4, .inl (kl4, 100, .inl f_28)), (l6, .inl (kl6, 10, .inl fax)), (l7, .inl (kl7, 10, .inl f_17)), (rw0, .inl (krw0, 40, .inl f_23)), (rw1, .inl (krw1, 4, .inl f_24)), (rw2, .inl (krw2, 4, .inl f_25))]) [2, 3, 4, 5, 6, 7, 0, 1, 8, 9, 10] rfl
              have hD9 := hD.sub (ws' := [(h0, .inr (8, [.ref l5, .ref l3, .ref l6, .ref l7, .int (nI (kn + 1)), .ref l4, .ref l1, .ref l2, .ref rw0, .ref rw1, .ref rw2, .int z_29, w12, w13, w14, w15, w16, w17, w18, w19, w20, w21, w22, w23, w24, w25, w26, w27, w28, w29, w30, w31, w32, w33, w34])), (l5, .inl (kl5, 30, .inl f_14)), (l3, .inl (kl3, 10, .inl f_15)), (l1, .inl (kl1, 10, .inl f_26)), (l2, .inl (kl2, 10, .inl f_27)), (l4, .inl (kl4, 100, .inl f_28)), (l6, .inl (kl6, 10, .inl fax)), (l7, .inl (kl7, 10, .inl f_17)), (rw0, .inl (krw0, 40, .inl f_23)), (rw1, .inl (krw1, 4, .inl f_24)), (rw2, .inl (krw2, 4, .inl f_25))]) [2, 3, 4, 5, 6, 7, 0, 1, 8, 9, 10] (by decide) rfl
              have hK9 := hK.sub (tys' := [(kl5, .int), (kl3, .int), (kl1, .int), (kl2, .int), (kl4, .int), (kl6, .int), (kl7, .boolean), (krw0, .int), (krw1, .int), (krw2, .int)]) [2, 3, 4, 5, 6, 0, 1, 7, 8, 9] rfl
              exact W.iret (v := (nI ((kn + 1) - 1))) hx hb hr (fun t ht hW => ⟨⟨(nI ((kn + 1) - 1)), (), rfl, (by (unfold F_kind; repeat' split) <;> first | rfl | (exfalso; omega)), (kn + 1), f_14, f_15, fax, f_17, f_23, f_24, f_25, f_26, f_27, f_28, z_29, (K_yes (show nI kn = F_kind kn (nI j_11) n2 n3 n4 from (by (unfold F_kind; repeat' split) <;> first | rfl | (exfalso; omega))) (by omega)), (KB_yes (show nI kn = F_kind kn (nI j_11) n2 n3 n4 from (by (unfold F_kind; repeat' split) <;> first | rfl | (exfalso; omega))) (by omega) ef_17), (KA_yes (m := j_11) (show nI kn = F_kind kn (nI j_11) n2 n3 n4 from (by (unfold F_kind; repeat' split) <;> first | rfl | (exfalso; omega))) (by omega) (nI_clamp (by omega)) (by rw [hax, show k = j_11 from (by omega)])), (by omega), p_30, p_31, p_32, p_33, by rw [ht]; exact hP9, va_K.moved hW.alike hK9, hD9⟩, hS.F ht⟩) hS.2.2 dX9_kind_248
            · have b_21 := gn_ge (X := ((k : Nat) : Int)) (C := ((j_11 : Nat) : Int)) (nI_toInt (by omega)) (nI_toInt (by omega)) c_20
              refine lv_aload_n hx hb dX9_kind_178 rfl (lv_at hl 2 rfl) ?_
              refine va_get (D := (dC, dI)) (ci := 8) (v := .ref l5) (C := RX9) (T := TX9) (N := 35) hx hb hts inB_9 hown hK hP 0 rfl rfl 0 (by decide) (hts _ mw_3_182) (fun _ h9 => h9) rfl dX9_kind_179 ?_
              refine lv_iconst (v := 3) hx hb dX9_kind_182 (by decide) ?_
              refine lv_aload_n hx hb dX9_kind_183 rfl (lv_at hl 2 rfl) ?_
              refine va_get (D := (dC, dI)) (ci := 8) (v := .int (nI kn)) (C := RX9) (T := TX9) (N := 35) hx hb hts inB_9 hown hK hP 0 rfl rfl 4 (by decide) (hts _ mw_3_186) (fun _ h9 => h9) rfl dX9_kind_184 ?_
              refine lv_imul hx hb dX9_kind_187 ?_
              refine hx_top (y := (nI (3 * kn))) (pk_mul 3 kn) ?_
              refine lv_iload hx hb dX9_kind_188 (lv_at hl 0 rfl) ?_
              refine lv_iadd hx hb dX9_kind_190 ?_
              refine hx_top (y := (nI ((3 * kn) + k))) (nI_add (3 * kn) k) ?_
              refine va_iald hx hb hK hP 1 0 rfl rfl (show vp_in (nI ((3 * kn) + k)) 30 from vp_in_nI (by omega) (by omega)) dX9_kind_191 ?_
              refine hx_top (y := (f_14 ((3 * kn) + k))) (congrArg _ (nI_clamp (by omega))) ?_
              obtain ⟨n_34, hn_34, en_34⟩ := hprk k (by omega)
              refine hx_top (y := (nI n_34)) en_34 ?_
              refine lv_istore (lv' := [(7, .int (nI n_34)), (6, .int (nI k)), (5, .int 1), (0, .ref h0), (1, .int (nI j_11)), (2, .int n2), (3, .int n3), (4, .int n4)]) hx hb dX9_kind_192 hl (by decide) rfl (fun ls hl => ?_)
              refine lv_aload_n hx hb dX9_kind_194 rfl (lv_at hl 3 rfl) ?_
              refine va_get (D := (dC, dI)) (ci := 8) (v := .ref l6) (C := RX9) (T := TX9) (N := 35) hx hb hts inB_9 hown hK hP 0 rfl rfl 2 (by decide) (hts _ mw_3_184) (fun _ h9 => h9) rfl dX9_kind_195 ?_
              refine lv_aload_n hx hb dX9_kind_198 rfl (lv_at hl 3 rfl) ?_
              refine va_get (D := (dC, dI)) (ci := 8) (v := .int (nI kn)) (C := RX9) (T := TX9) (N := 35) hx hb hts inB_9 hown hK hP 0 rfl rfl 4 (by decide) (hts _ mw_3_186) (fun _ h9 => h9) rfl dX9_kind_199 ?_
              refine lv_dup2_11 hx hb dX9_kind_202 rfl rfl ?_
              refine va_iald hx hb hK hP 6 5 rfl rfl (show vp_in (nI kn) 10 from vp_in_nI (by omega) (by omega)) dX9_kind_203 ?_
              refine hx_top (y := (fax kn)) (congrArg _ (nI_clamp (by omega))) ?_
              refine lv_aload_n hx hb dX9_kind_204 rfl (lv_at hl 3 rfl) ?_
              refine va_get (D := (dC, dI)) (ci := 8) (v := .ref l6) (C := RX9) (T := TX9) (N := 35) hx hb hts inB_9 hown hK hP 0 rfl rfl 2 (by decide) (hts _ mw_3_184) (fun _ h9 => h9) rfl dX9_kind_205 ?_
              refine lv_iload hx hb dX9_kind_208 (lv_at hl 0 rfl) ?_
              refine va_iald hx hb hK hP 6 5 rfl rfl (show vp_in (nI n_34) 10 from vp_in_nI (by omega) (by omega)) dX9_kind_210 ?_
              refine hx_top (y := (fax n_34)) (congrArg _ (nI_clamp (by omega))) ?_
              refine lv_iconst (v := 1) hx hb dX9_kind_211 (by decide) ?_
              refine lv_iload hx hb dX9_kind_212 (lv_at hl 0 rfl) ?_
              refine lv_ishl hx hb dX9_kind_214 ?_
              refine lv_ior hx hb dX9_kind_215 ?_
              refine lv_ior hx hb dX9_kind_216 ?_
              refine va_iast hx hb hK hP hD hS 6 5 rfl rfl (show vp_in (nI kn) 10 from vp_in_nI (by omega) (by omega)) dX9_kind_217 (fun H locs hP hD hS => ?_)
              obtain ⟨f_35, ef_35⟩ : ∃ g : Nat → Int32, g = upd fax (Int32.toNatClampNeg (nI kn)) ((fax kn) ||| ((fax n_34) ||| (1 <<< ((nI n_34) &&& 31)))) := ⟨_, rfl⟩
              rw [← ef_35] at hP hD
              have ef_35 : f_35 = upd fax kn ((fax kn) ||| ((fax n_34) ||| (1 <<< ((nI n_34) &&& 31)))) := by rw [ef_35, nI_clamp (by omega)]
              have hP : va_P (dC, dI) vwCl [(h0, .inr (8, [.ref l5, .ref l3, .ref l6, .ref l7, .int (nI kn), .ref l4, .ref l1, .ref l2, .ref rw0, .ref rw1, .ref rw2, .int rm0, w12, w13, w14, w15, w16, w17, w18, w19, w20, w21, w22, w23, w24, w25, w26, w27, w28, w29, w30, w31, w32, w33, w34])), (l5, .inl (kl5, 30, .inl f_14)), (l3, .inl (kl3, 10, .inl f_15)), (l1, .inl (kl1, 10, .inl fll)), (l2, .inl (kl2, 10, .inl fmq)), (l4, .inl (kl4, 100, .inl fln)), (l6, .inl (kl6, 10, .inl f_35)), (l7, .inl (kl7, 10, .inl f_17)), (rw0, .inl (krw0, 40, .inl frw)), (rw1, .inl (krw1, 4, .inl fat)), (rw2, .inl (krw2, 4, .inl fen))] H := hP
              have hD : va_D A [(h0, .inr (8, [.ref l5, .ref l3, .ref l6, .ref l7, .int (nI kn), .ref l4, .ref l1, .ref l2, .ref rw0, .ref rw1, .ref rw2, .int rm0, w12, w13, w14, w15, w16, w17, w18, w19, w20, w21, w22, w23, w24, w25, w26, w27, w28, w29, w30, w31, w32, w33, w34])), (l5, .inl (kl5, 30, .inl f_14)), (l3, .inl (kl3, 10, .inl f_15)), (l1, .inl (kl1, 10, .inl fll)), (l2, .inl (kl2, 10, .inl fmq)), (l4, .inl (kl4, 100, .inl fln)), (l6, .inl (kl6, 10, .inl f_35)), (l7, .inl (kl7, 10, .inl f_17)), (rw0, .inl (krw0, 40, .inl frw)), (rw1, .inl (krw1, 4, .inl fat)), (rw2, .inl (krw2, 4, .inl fen))] := hD
              refine lv_iinc (v := (nI (k + 1))) (lv' := [(6, .int (nI (k + 1))), (7, .int (nI n_34)), (5, .int 1), (0, .ref h0), (1, .int (nI j_11)), (2, .int n2), (3, .int n3), (4, .int n4)]) hx hb dX9_kind_218 hl (k := 1) rfl (nI_add k 1) (by decide) rfl (fun ls hl => ?_)
              refine lv_goto (tgt := 172) hx hb dX9_kind_221 (by decide) ?_
              exact ih_19 (k + 1) f_35 (by omega) (ab_stepM hax ((hpp k (by omega)).symm.trans en_34) (by omega) (by omega) ef_35) (by omega) _ _ hP hD hS ls (lv_sub hl [0, 2, 3, 4, 5, 6, 7] rfl)
        exact key_18 ((j_11 - 0) + 1) 0 f_16 (by omega) ef_16 (Nat.lt_succ_self _) _ _ hP hD hS ls (lv_sub hl [0, 1, 2, 3, 4, 5, 6] rfl)
      · have b_10 := gn_ne (X := ((kn : Nat) : Int)) (C := 10) (nI_toInt (by omega)) (by decide) c_9
        refine lv_bipush (v := (-4)) hx hb dX9_kind_95 (by decide) ?_
        have hP9 := hP.sub (ws' := [(h0, .inr (8, [.ref l5, .ref l3, .ref l6, .ref l7, .int (nI kn), .ref l4, .ref l1, .ref l2, .ref rw0, .ref rw1, .ref rw2, .int rm0, w12, w13, w14, w15, w16, w17, w18, w19, w20, w21, w22, w23, w24, w25, w26, w27, w28, w29, w30, w31, w32, w33, w34])), (l5, .inl (kl5, 30, .inl fpr)), (l3, .inl (kl3, 10, .inl fpm)), (l1, .inl (kl1, 10, .inl fll)), (l2, .inl (kl2, 10, .inl fmq)), (l4, .inl (kl4, 100, .inl fln)), (l6, .inl (kl6, 10, .inl fma)), (l7, .inl (kl7, 10, .inl fib)), (rw0, .inl (krw0, 40, .inl frw)), (rw1, .inl (krw1, 4, .inl fat)), (rw2, .inl (krw2, 4, .inl fen))]) [0, 1, 2, 3, 4, 5, 6, 7, 8, 9, 10] rfl
        have hD9 := hD.sub (ws' := [(h0, .inr (8, [.ref l5, .ref l3, .ref l6, .ref l7, .int (nI kn), .ref l4, .ref l1, .ref l2, .ref rw0, .ref rw1, .ref rw2, .int rm0, w12, w13, w14, w15, w16, w17, w18, w19, w20, w21, w22, w23, w24, w25, w26, w27, w28, w29, w30, w31, w32, w33, w34])), (l5, .inl (kl5, 30, .inl fpr)), (l3, .inl (kl3, 10, .inl fpm)), (l1, .inl (kl1, 10, .inl fll)), (l2, .inl (kl2, 10, .inl fmq)), (l4, .inl (kl4, 100, .inl fln)), (l6, .inl (kl6, 10, .inl fma)), (l7, .inl (kl7, 10, .inl fib)), (rw0, .inl (krw0, 40, .inl frw)), (rw1, .inl (krw1, 4, .inl fat)), (rw2, .inl (krw2, 4, .inl fen))]) [0, 1, 2, 3, 4, 5, 6, 7, 8, 9, 10] (by decide) rfl
        have hK9 := hK.sub (tys' := [(kl5, .int), (kl3, .int), (kl1, .int), (kl2, .int), (kl4, .int), (kl6, .int), (kl7, .boolean), (krw0, .int), (krw1, .int), (krw2, .int)]) [0, 1, 2, 3, 4, 5, 6, 7, 8, 9] rfl
        exact W.iret (v := (-4)) hx hb hr (fun t ht hW => ⟨⟨(-4), (), rfl, (by (unfold F_kind; repeat' split) <;> first | rfl | (exfalso; omega)), kn, fpr, fpm, fma, fib, frw, fat, fen, fll, fmq, fln, rm0, (K_no (v := (-4)) (show ((-4) : Int32) = F_kind kn n1 n2 n3 n4 from (by (unfold F_kind; repeat' split) <;> first | rfl | (exfalso; omega))) (by decide)), (KB_no (v := (-4)) (show ((-4) : Int32) = F_kind kn n1 n2 n3 n4 from (by (unfold F_kind; repeat' split) <;> first | rfl | (exfalso; omega))) (by decide)), (KA_no (v := (-4)) (show ((-4) : Int32) = F_kind kn n1 n2 n3 n4 from (by (unfold F_kind; repeat' split) <;> first | rfl | (exfalso; omega))) (by decide)), hkn, hll, hln, hfat, hfen, by rw [ht]; exact hP9, va_K.moved hW.alike hK9, hD9⟩, hS.F ht⟩) hS.2.2 dX9_kind_97
    · skip
      refine lv_if_ne (tgt := 86) hx hb dX9_kind_80 (by decide) (fun h => absurd h (by decide)) (fun _ => ?_)
      refine lv_bipush (v := (-2)) hx hb dX9_kind_83 (by decide) ?_
      have hP9 := hP.sub (ws' := [(h0, .inr (8, [.ref l5, .ref l3, .ref l6, .ref l7, .int (nI kn), .ref l4, .ref l1, .ref l2, .ref rw0, .ref rw1, .ref rw2, .int rm0, w12, w13, w14, w15, w16, w17, w18, w19, w20, w21, w22, w23, w24, w25, w26, w27, w28, w29, w30, w31, w32, w33, w34])), (l5, .inl (kl5, 30, .inl fpr)), (l3, .inl (kl3, 10, .inl fpm)), (l1, .inl (kl1, 10, .inl fll)), (l2, .inl (kl2, 10, .inl fmq)), (l4, .inl (kl4, 100, .inl fln)), (l6, .inl (kl6, 10, .inl fma)), (l7, .inl (kl7, 10, .inl fib)), (rw0, .inl (krw0, 40, .inl frw)), (rw1, .inl (krw1, 4, .inl fat)), (rw2, .inl (krw2, 4, .inl fen))]) [0, 1, 2, 3, 4, 5, 6, 7, 8, 9, 10] rfl
      have hD9 := hD.sub (ws' := [(h0, .inr (8, [.ref l5, .ref l3, .ref l6, .ref l7, .int (nI kn), .ref l4, .ref l1, .ref l2, .ref rw0, .ref rw1, .ref rw2, .int rm0, w12, w13, w14, w15, w16, w17, w18, w19, w20, w21, w22, w23, w24, w25, w26, w27, w28, w29, w30, w31, w32, w33, w34])), (l5, .inl (kl5, 30, .inl fpr)), (l3, .inl (kl3, 10, .inl fpm)), (l1, .inl (kl1, 10, .inl fll)), (l2, .inl (kl2, 10, .inl fmq)), (l4, .inl (kl4, 100, .inl fln)), (l6, .inl (kl6, 10, .inl fma)), (l7, .inl (kl7, 10, .inl fib)), (rw0, .inl (krw0, 40, .inl frw)), (rw1, .inl (krw1, 4, .inl fat)), (rw2, .inl (krw2, 4, .inl fen))]) [0, 1, 2, 3, 4, 5, 6, 7, 8, 9, 10] (by decide) rfl
      have hK9 := hK.sub (tys' := [(kl5, .int), (kl3, .int), (kl1, .int), (kl2, .int), (kl4, .int), (kl6, .int), (kl7, .boolean), (krw0, .int), (krw1, .int), (krw2, .int)]) [0, 1, 2, 3, 4, 5, 6, 7, 8, 9] rfl
      exact W.iret (v := (-2)) hx hb hr (fun t ht hW => ⟨⟨(-2), (), rfl, (by (unfold F_kind; repeat' split) <;> first | rfl | (exfalso; omega)), kn, fpr, fpm, fma, fib, frw, fat, fen, fll, fmq, fln, rm0, (K_no (v := (-2)) (show ((-2) : Int32) = F_kind kn n1 n2 n3 n4 from (by (unfold F_kind; repeat' split) <;> first | rfl | (exfalso; omega))) (by decide)), (KB_no (v := (-2)) (show ((-2) : Int32) = F_kind kn n1 n2 n3 n4 from (by (unfold F_kind; repeat' split) <;> first | rfl | (exfalso; omega))) (by decide)), (KA_no (v := (-2)) (show ((-2) : Int32) = F_kind kn n1 n2 n3 n4 from (by (unfold F_kind; repeat' split) <;> first | rfl | (exfalso; omega))) (by decide)), hkn, hll, hln, hfat, hfen, by rw [ht]; exact hP9, va_K.moved hW.alike hK9, hD9⟩, hS.F ht⟩) hS.2.2 dX9_kind_85
  · have b_2 := gn_lt (X := (Int32.toInt n1)) (C := 1) rfl (by decide) c_1
    refine lv_aload_n hx hb dX9_kind_5 rfl (lv_at hl 0 rfl) ?_
    refine lv_iload_n hx hb dX9_kind_6 rfl (lv_at hl 2 rfl) ?_
    have hPc := hP.sub (ws' := [(h0, .inr (8, [.ref l5, .ref l3, .ref l6, .ref l7, .int (nI kn), .ref l4, .ref l1, .ref l2, .ref rw0, .ref rw1, .ref rw2, .int rm0, w12, w13, w14, w15, w16, w17, w18, w19, w20, w21, w22, w23, w24, w25, w26, w27, w28, w29, w30, w31, w32, w33, w34]))]) [0] rfl
    have hDc := hD.sub (ws' := [(h0, .inr (8, [.ref l5, .ref l3, .ref l6, .ref l7, .int (nI kn), .ref l4, .ref l1, .ref l2, .ref rw0, .ref rw1, .ref rw2, .int rm0, w12, w13, w14, w15, w16, w17, w18, w19, w20, w21, w22, w23, w24, w25, w26, w27, w28, w29, w30, w31, w32, w33, w34]))]) [0] (by decide) rfl
    have hKc := hK.sub (tys' := []) [] rfl
    refine va_calli (va_runV (As := [.int n2]) (rest := []) ⟨hx, hb, hml, hown, hts⟩ (m_isKind l dC dI s.heap.size h0 (.ref l5) (.ref l3) (.ref l6) (.ref l7) kn (.ref l4) (.ref l1) (.ref l2) (.ref rw0) (.ref rw1) (.ref rw2) (.int rm0) (w12) (w13) (w14) (w15) (w16) (w17) (w18) (w19) (w20) (w21) (w22) (w23) (w24) (w25) (w26) (w27) (w28) (w29) (w30) (w31) (w32) (w33) (w34) n2 hkn) (cwV 1 hts (gV mw_4_53 mw_4_55 mw_0_15 mw_1_9 mw_4_56) rfl rfl rfl (by decide +kernel) ⟨Nat.le_of_ble_eq_true rfl, Nat.le_of_ble_eq_true rfl⟩) ⟨pcW_blind, va_recv hKc hPc (ci := 8) (q0 := 0) rfl rfl, pcW_at hPc hKc hDc hN⟩ rfl rfl hl.1 rfl (lv_room (Nat.le_of_ble_eq_true rfl)) dX9_kind_7 ⟨Nat.le_of_ble_eq_true rfl, Nat.le_of_ble_eq_true rfl⟩) hS (fun q h1 h2 => absurd h2 (Nat.not_le.mpr h1)) (fun q h => hA q (Nat.le_trans hS.1 h)) (fun r_36 u t H1 locs ht hvm hw_36 hB hz1 hk1 hS => ?_)
    have hP := keepP hP hk1
    clear hz1 hk1 hB ht hvm hPc hDc hKc
    generalize H1 = H at hP hS ⊢
    rcases fx_bool hw_36 with ⟨rfl, b_37⟩ | ⟨rfl, b_37⟩
    · skip
      refine lv_if_eq (tgt := 61) hx hb dX9_kind_10 (by decide) (fun h => absurd h (by decide)) (fun _ => ?_)
      refine lv_iload_n hx hb dX9_kind_13 rfl (lv_at hl 1 rfl) ?_
      refine lv_iconst (v := 2) hx hb dX9_kind_14 (by decide) ?_
      refine lv_icmp_lt (tgt := 31) hx hb dX9_kind_15 (by decide) (fun c_38 => ?_) (fun c_38 => ?_)
      · have b_39 := gx_lt (X := (Int32.toInt n1)) (C := 2) rfl (by decide) c_38
        refine lv_iload_n hx hb dX9_kind_31 rfl (lv_at hl 1 rfl) ?_
        refine hx_top (y := 1) (fx_sing (C := 1) (by decide) (by omega)) ?_
        refine lv_iconst (v := 3) hx hb dX9_kind_32 (by decide) ?_
        refine lv_icmp_lt (tgt := 57) hx hb dX9_kind_33 (by decide) (fun _ => ?_) (fun h => absurd (by decide) h)
        refine lv_iconst (v := 1) hx hb dX9_kind_57 (by decide) ?_
        refine lv_goto (tgt := 62) hx hb dX9_kind_58 (by decide) ?_
        refine lv_istore (lv' := [(5, .int 1), (0, .ref h0), (1, .int n1), (2, .int n2), (3, .int n3), (4, .int n4)]) hx hb dX9_kind_62 hl (by decide) rfl (fun ls hl => ?_)
        refine lv_iload hx hb dX9_kind_64 (lv_at hl 0 rfl) ?_
        refine lv_if_ne (tgt := 71) hx hb dX9_kind_66 (by decide) (fun _ => ?_) (fun h => absurd h (by decide))
        refine lv_iload_n hx hb dX9_kind_71 rfl (lv_at hl 2 rfl) ?_
        refine hx_top (y := 1) (fx_sing (C := 1) (by decide) (by omega)) ?_
        refine lv_i2l hx hb dX9_kind_72 rfl ?_
        refine lv_lconst (v := Int32.toInt64 0) hx hb dX9_kind_73 (by decide) ?_
        refine lv_ldc2 (v := Int32.toInt64 3) hx hb hown (show (Cond.constantLong RX9 100 (Int32.toInt64 3)).before _ s = true from (hts _ mw_4_60)) dX9_kind_74 ?_
        have hPc := hP.sub (ws' := []) [] rfl
        have hDc := hD.sub (ws' := []) [] (by decide) rfl
        have hKc := hK.sub (tys' := []) [] rfl
        refine va_calli (va_runS (As := [.long (Int32.toInt64 1), .long (Int32.toInt64 0), .long (Int32.toInt64 3)]) (rest := []) ⟨hx, hb, hml, hown, hts⟩ (m_in l dC dI H.size 1 0 3 0 3 (by decide) (by decide)) (va_cwS 3 hts (gS mw_4_57 mw_4_58 mw_1_9 mw_4_59) rfl rfl rfl (by decide +kernel) ⟨Nat.le_of_ble_eq_true rfl, Nat.le_of_ble_eq_true rfl⟩) ⟨pcW_blind, pcW_at hPc hKc hDc hN⟩ rfl rfl hl.1 rfl (lv_room (Nat.le_of_ble_eq_true rfl)) dX9_kind_77 ⟨Nat.le_of_ble_eq_true rfl, Nat.le_of_ble_eq_true rfl⟩) hS (fun q h1 h2 => absurd h2 (Nat.not_le.mpr h1)) (fun q h => hA q (Nat.le_trans hS.1 h)) (fun r_40 u t H1 locs ht hvm hw_40 hB hz1 hk1 hS => ?_)
        have hP := keepP hP hk1
        clear hz1 hk1 hB ht hvm hPc hDc hKc
        generalize H1 = H at hP hS ⊢
        obtain rfl : r_40 = 1 := hw_40.trans (if_pos (by decide))
        refine lv_if_ne (tgt := 86) hx hb dX9_kind_80 (by decide) (fun _ => ?_) (fun h => absurd h (by decide))
        refine lv_aload_n hx hb dX9_kind_86 rfl (lv_at hl 1 rfl) ?_
        refine va_get (D := (dC, dI)) (ci := 8) (v := .int (nI kn)) (C := RX9) (T := TX9) (N := 35) hx hb hts inB_9 hown hK hP 0 rfl rfl 4 (by decide) (hts _ mw_3_186) (fun _ h9 => h9) rfl dX9_kind_87 ?_
        refine lv_bipush (v := 10) hx hb dX9_kind_90 (by decide) ?_
        refine lv_icmp_ne (tgt := 98) hx hb dX9_kind_92 (by decide) (fun c_42 => ?_) (fun c_42 => ?_)
        · have b_43 := gx_ne (X := ((kn : Nat) : Int)) (C := 10) (nI_toInt (by omega)) (by decide) c_42
          obtain ⟨j_44, tj_44, ej_44⟩ := fx_nat (x := n1) (by omega)
          subst ej_44
          have yj_44 : Int32.toInt (nI j_44) = (j_44 : Int) := nI_toInt tj_44
          refine lv_aload_n hx hb dX9_kind_98 rfl (lv_at hl 1 rfl) ?_
          refine va_get (D := (dC, dI)) (ci := 8) (v := .ref l5) (C := RX9) (T := TX9) (N := 35) hx hb hts inB_9 hown hK hP 0 rfl rfl 0 (by decide) (hts _ mw_3_182) (fun _ h9 => h9) rfl dX9_kind_99 ?_
          refine lv_iconst (v := 3) hx hb dX9_kind_102 (by decide) ?_
          refine lv_aload_n hx hb dX9_kind_103 rfl (lv_at hl 1 rfl) ?_
          refine va_get (D := (dC, dI)) (ci := 8) (v := .int (nI kn)) (C := RX9) (T := TX9) (N := 35) hx hb hts inB_9 hown hK hP 0 rfl rfl 4 (by decide) (hts _ mw_3_186) (fun _ h9 => h9) rfl dX9_kind_104 ?_
          refine lv_imul hx hb dX9_kind_107 ?_
          refine hx_top (y := (nI (3 * kn))) (pk_mul 3 kn) ?_
          refine lv_iload_n hx hb dX9_kind_108 rfl (lv_at hl 3 rfl) ?_
          refine va_iast hx hb hK hP hD hS 1 0 rfl rfl (show vp_in (nI (3 * kn)) 30 from vp_in_nI (by omega) (by omega)) dX9_kind_109 (fun H locs hP hD hS => ?_)
          obtain ⟨f_45, ef_45⟩ : ∃ g : Nat → Int32, g = upd fpr (Int32.toNatClampNeg (nI (3 * kn))) n2 := ⟨_, rfl⟩
          rw [← ef_45] at hP hD
          have ef_45 : f_45 = upd fpr (3 * kn) n2 := by rw [ef_45, nI_clamp (by omega)]
          have hP : va_P (dC, dI) vwCl [(h0, .inr (8, [.ref l5, .ref l3, .ref l6, .ref l7, .int (nI kn), .ref l4, .ref l1, .ref l2, .ref rw0, .ref rw1, .ref rw2, .int rm0, w12, w13, w14, w15, w16, w17, w18, w19, w20, w21, w22, w23, w24, w25, w26, w27, w28, w29, w30, w31, w32, w33, w34])), (l5, .inl (kl5, 30, .inl f_45)), (l3, .inl (kl3, 10, .inl fpm)), (l1, .inl (kl1, 10, .inl fll)), (l2, .inl (kl2, 10, .inl fmq)), (l4, .inl (kl4, 100, .inl fln)), (l6, .inl (kl6, 10, .inl fma)), (l7, .inl (kl7, 10, .inl fib)), (rw0, .inl (krw0, 40, .inl frw)), (rw1, .inl (krw1, 4, .inl fat)), (rw2, .inl (krw2, 4, .inl fen))] H := hP
          have hD : va_D A [(h0, .inr (8, [.ref l5, .ref l3, .ref l6, .ref l7, .int (nI kn), .ref l4, .ref l1, .ref l2, .ref rw0, .ref rw1, .ref rw2, .int rm0, w12, w13, w14, w15, w16, w17, w18, w19, w20, w21, w22, w23, w24, w25, w26, w27, w28, w29, w30, w31, w32, w33, w34])), (l5, .inl (kl5, 30, .inl f_45)), (l3, .inl (kl3, 10, .inl fpm)), (l1, .inl (kl1, 10, .inl fll)), (l2, .inl (kl2, 10, .inl fmq)), (l4, .inl (kl4, 100, .inl fln)), (l6, .inl (kl6, 10, .inl fma)), (l7, .inl (kl7, 10, .inl fib)), (rw0, .inl (krw0, 40, .inl frw)), (rw1, .inl (krw1, 4, .inl fat)), (rw2, .inl (krw2, 4, .inl fen))] := hD
          refine lv_aload_n hx hb dX9_kind_110 rfl (lv_at hl 1 rfl) ?_
          refine va_get (D := (dC, dI)) (ci := 8) (v := .ref l5) (C := RX9) (T := TX9) (N := 35) hx hb hts inB_9 hown hK hP 0 rfl rfl 0 (by decide) (hts _ mw_3_182) (fun _ h9 => h9) rfl dX9_kind_111 ?_
          refine lv_iconst (v := 3) hx hb dX9_kind_114 (by decide) ?_
          refine lv_aload_n hx hb dX9_kind_115 rfl (lv_at hl 1 rfl) ?_
          refine va_get (D := (dC, dI)) (ci := 8) (v := .int (nI kn)) (C := RX9) (T := TX9) (N := 35) hx hb hts inB_9 hown hK hP 0 rfl rfl 4 (by decide) (hts _ mw_3_186) (fun _ h9 => h9) rfl dX9_kind_116 ?_
          refine lv_imul hx hb dX9_kind_119 ?_
          refine hx_top (y := (nI (3 * kn))) (pk_mul 3 kn) ?_
          refine lv_iconst (v := 1) hx hb dX9_kind_120 (by decide) ?_
          refine lv_iadd hx hb dX9_kind_121 ?_
          refine hx_top (y := (nI ((3 * kn) + 1))) (nI_add (3 * kn) 1) ?_
          refine lv_iload_n hx hb dX9_kind_122 rfl (lv_at hl 4 rfl) ?_
          refine va_iast hx hb hK hP hD hS 1 0 rfl rfl (show vp_in (nI ((3 * kn) + 1)) 30 from vp_in_nI (by omega) (by omega)) dX9_kind_123 (fun H locs hP hD hS => ?_)
          obtain ⟨f_46, ef_46⟩ : ∃ g : Nat → Int32, g = upd f_45 (Int32.toNatClampNeg (nI ((3 * kn) + 1))) n3 := ⟨_, rfl⟩
          rw [← ef_46] at hP hD
          have ef_46 : f_46 = upd f_45 ((3 * kn) + 1) n3 := by rw [ef_46, nI_clamp (by omega)]
          have hP : va_P (dC, dI) vwCl [(h0, .inr (8, [.ref l5, .ref l3, .ref l6, .ref l7, .int (nI kn), .ref l4, .ref l1, .ref l2, .ref rw0, .ref rw1, .ref rw2, .int rm0, w12, w13, w14, w15, w16, w17, w18, w19, w20, w21, w22, w23, w24, w25, w26, w27, w28, w29, w30, w31, w32, w33, w34])), (l5, .inl (kl5, 30, .inl f_46)), (l3, .inl (kl3, 10, .inl fpm)), (l1, .inl (kl1, 10, .inl fll)), (l2, .inl (kl2, 10, .inl fmq)), (l4, .inl (kl4, 100, .inl fln)), (l6, .inl (kl6, 10, .inl fma)), (l7, .inl (kl7, 10, .inl fib)), (rw0, .inl (krw0, 40, .inl frw)), (rw1, .inl (krw1, 4, .inl fat)), (rw2, .inl (krw2, 4, .inl fen))] H := hP
          have hD : va_D A [(h0, .inr (8, [.ref l5, .ref l3, .ref l6, .ref l7, .int (nI kn), .ref l4, .ref l1, .ref l2, .ref rw0, .ref rw1, .ref rw2, .int rm0, w12, w13, w14, w15, w16, w17, w18, w19, w20, w21, w22, w23, w24, w25, w26, w27, w28, w29, w30, w31, w32, w33, w34])), (l5, .inl (kl5, 30, .inl f_46)), (l3, .inl (kl3, 10, .inl fpm)), (l1, .inl (kl1, 10, .inl fll)), (l2, .inl (kl2, 10, .inl fmq)), (l4, .inl (kl4, 100, .inl fln)), (l6, .inl (kl6, 10, .inl fma)), (l7, .inl (kl7, 10, .inl fib)), (rw0, .inl (krw0, 40, .inl frw)), (rw1, .inl (krw1, 4, .inl fat)), (rw2, .inl (krw2, 4, .inl fen))] := hD
          refine lv_aload_n hx hb dX9_kind_124 rfl (lv_at hl 1 rfl) ?_
          refine va_get (D := (dC, dI)) (ci := 8) (v := .ref l5) (C := RX9) (T := TX9) (N := 35) hx hb hts inB_9 hown hK hP 0 rfl rfl 0 (by decide) (hts _ mw_3_182) (fun _ h9 => h9) rfl dX9_kind_125 ?_
          refine lv_iconst (v := 3) hx hb dX9_kind_128 (by decide) ?_
          refine lv_aload_n hx hb dX9_kind_129 rfl (lv_at hl 1 rfl) ?_
          refine va_get (D := (dC, dI)) (ci := 8) (v := .int (nI kn)) (C := RX9) (T := TX9) (N := 35) hx hb hts inB_9 hown hK hP 0 rfl rfl 4 (by decide) (hts _ mw_3_186) (fun _ h9 => h9) rfl dX9_kind_130 ?_
          refine lv_imul hx hb dX9_kind_133 ?_
          refine hx_top (y := (nI (3 * kn))) (pk_mul 3 kn) ?_
          refine lv_iconst (v := 2) hx hb dX9_kind_134 (by decide) ?_
          refine lv_iadd hx hb dX9_kind_135 ?_
          refine hx_top (y := (nI ((3 * kn) + 2))) (nI_add (3 * kn) 2) ?_
          refine lv_iload hx hb dX9_kind_136 (lv_at hl 5 rfl) ?_
          refine va_iast hx hb hK hP hD hS 1 0 rfl rfl (show vp_in (nI ((3 * kn) + 2)) 30 from vp_in_nI (by omega) (by omega)) dX9_kind_138 (fun H locs hP hD hS => ?_)
          obtain ⟨f_47, ef_47⟩ : ∃ g : Nat → Int32, g = upd f_46 (Int32.toNatClampNeg (nI ((3 * kn) + 2))) n4 := ⟨_, rfl⟩
          rw [← ef_47] at hP hD
          have ef_47 : f_47 = upd f_46 ((3 * kn) + 2) n4 := by rw [ef_47, nI_clamp (by omega)]
          have hP : va_P (dC, dI) vwCl [(h0, .inr (8, [.ref l5, .ref l3, .ref l6, .ref l7, .int (nI kn), .ref l4, .ref l1, .ref l2, .ref rw0, .ref rw1, .ref rw2, .int rm0, w12, w13, w14, w15, w16, w17, w18, w19, w20, w21, w22, w23, w24, w25, w26, w27, w28, w29, w30, w31, w32, w33, w34])), (l5, .inl (kl5, 30, .inl f_47)), (l3, .inl (kl3, 10, .inl fpm)), (l1, .inl (kl1, 10, .inl fll)), (l2, .inl (kl2, 10, .inl fmq)), (l4, .inl (kl4, 100, .inl fln)), (l6, .inl (kl6, 10, .inl fma)), (l7, .inl (kl7, 10, .inl fib)), (rw0, .inl (krw0, 40, .inl frw)), (rw1, .inl (krw1, 4, .inl fat)), (rw2, .inl (krw2, 4, .inl fen))] H := hP
          have hD : va_D A [(h0, .inr (8, [.ref l5, .ref l3, .ref l6, .ref l7, .int (nI kn), .ref l4, .ref l1, .ref l2, .ref rw0, .ref rw1, .ref rw2, .int rm0, w12, w13, w14, w15, w16, w17, w18, w19, w20, w21, w22, w23, w24, w25, w26, w27, w28, w29, w30, w31, w32, w33, w34])), (l5, .inl (kl5, 30, .inl f_47)), (l3, .inl (kl3, 10, .inl fpm)), (l1, .inl (kl1, 10, .inl fll)), (l2, .inl (kl2, 10, .inl fmq)), (l4, .inl (kl4, 100, .inl fln)), (l6, .inl (kl6, 10, .inl fma)), (l7, .inl (kl7, 10, .inl fib)), (rw0, .inl (krw0, 40, .inl frw)), (rw1, .inl (krw1, 4, .inl fat)), (rw2, .inl (krw2, 4, .inl fen))] := hD
          refine lv_aload_n hx hb dX9_kind_139 rfl (lv_at hl 1 rfl) ?_
          refine va_get (D := (dC, dI)) (ci := 8) (v := .ref l3) (C := RX9) (T := TX9) (N := 35) hx hb hts inB_9 hown hK hP 0 rfl rfl 1 (by decide) (hts _ mw_3_183) (fun _ h9 => h9) rfl dX9_kind_140 ?_
          refine lv_aload_n hx hb dX9_kind_143 rfl (lv_at hl 1 rfl) ?_
          refine va_get (D := (dC, dI)) (ci := 8) (v := .int (nI kn)) (C := RX9) (T := TX9) (N := 35) hx hb hts inB_9 hown hK hP 0 rfl rfl 4 (by decide) (hts _ mw_3_186) (fun _ h9 => h9) rfl dX9_kind_144 ?_
          refine lv_iload_n hx hb dX9_kind_147 rfl (lv_at hl 2 rfl) ?_
          refine va_iast hx hb hK hP hD hS 2 1 rfl rfl (show vp_in (nI kn) 10 from vp_in_nI (by omega) (by omega)) dX9_kind_148 (fun H locs hP hD hS => ?_)
          obtain ⟨f_48, ef_48⟩ : ∃ g : Nat → Int32, g = upd fpm (Int32.toNatClampNeg (nI kn)) (nI j_44) := ⟨_, rfl⟩
          rw [← ef_48] at hP hD
          have ef_48 : f_48 = upd fpm kn (nI j_44) := by rw [ef_48, nI_clamp (by omega)]
          have hP : va_P (dC, dI) vwCl [(h0, .inr (8, [.ref l5, .ref l3, .ref l6, .ref l7, .int (nI kn), .ref l4, .ref l1, .ref l2, .ref rw0, .ref rw1, .ref rw2, .int rm0, w12, w13, w14, w15, w16, w17, w18, w19, w20, w21, w22, w23, w24, w25, w26, w27, w28, w29, w30, w31, w32, w33, w34])), (l5, .inl (kl5, 30, .inl f_47)), (l3, .inl (kl3, 10, .inl f_48)), (l1, .inl (kl1, 10, .inl fll)), (l2, .inl (kl2, 10, .inl fmq)), (l4, .inl (kl4, 100, .inl fln)), (l6, .inl (kl6, 10, .inl fma)), (l7, .inl (kl7, 10, .inl fib)), (rw0, .inl (krw0, 40, .inl frw)), (rw1, .inl (krw1, 4, .inl fat)), (rw2, .inl (krw2, 4, .inl fen))] H := hP
          have hD : va_D A [(h0, .inr (8, [.ref l5, .ref l3, .ref l6, .ref l7, .int (nI kn), .ref l4, .ref l1, .ref l2, .ref rw0, .ref rw1, .ref rw2, .int rm0, w12, w13, w14, w15, w16, w17, w18, w19, w20, w21, w22, w23, w24, w25, w26, w27, w28, w29, w30, w31, w32, w33, w34])), (l5, .inl (kl5, 30, .inl f_47)), (l3, .inl (kl3, 10, .inl f_48)), (l1, .inl (kl1, 10, .inl fll)), (l2, .inl (kl2, 10, .inl fmq)), (l4, .inl (kl4, 100, .inl fln)), (l6, .inl (kl6, 10, .inl fma)), (l7, .inl (kl7, 10, .inl fib)), (rw0, .inl (krw0, 40, .inl frw)), (rw1, .inl (krw1, 4, .inl fat)), (rw2, .inl (krw2, 4, .inl fen))] := hD
          refine lv_aload_n hx hb dX9_kind_149 rfl (lv_at hl 1 rfl) ?_
          refine va_get (D := (dC, dI)) (ci := 8) (v := .ref l6) (C := RX9) (T := TX9) (N := 35) hx hb hts inB_9 hown hK hP 0 rfl rfl 2 (by decide) (hts _ mw_3_184) (fun _ h9 => h9) rfl dX9_kind_150 ?_
          refine lv_aload_n hx hb dX9_kind_153 rfl (lv_at hl 1 rfl) ?_
          refine va_get (D := (dC, dI)) (ci := 8) (v := .int (nI kn)) (C := RX9) (T := TX9) (N := 35) hx hb hts inB_9 hown hK hP 0 rfl rfl 4 (by decide) (hts _ mw_3_186) (fun _ h9 => h9) rfl dX9_kind_154 ?_
          refine lv_iconst (v := 0) hx hb dX9_kind_157 (by decide) ?_
          refine va_iast hx hb hK hP hD hS 6 5 rfl rfl (show vp_in (nI kn) 10 from vp_in_nI (by omega) (by omega)) dX9_kind_158 (fun H locs hP hD hS => ?_)
          obtain ⟨f_49, ef_49⟩ : ∃ g : Nat → Int32, g = upd fma (Int32.toNatClampNeg (nI kn)) 0 := ⟨_, rfl⟩
          rw [← ef_49] at hP hD
          have ef_49 : f_49 = upd fma kn 0 := by rw [ef_49, nI_clamp (by omega)]
          have hP : va_P (dC, dI) vwCl [(h0, .inr (8, [.ref l5, .ref l3, .ref l6, .ref l7, .int (nI kn), .ref l4, .ref l1, .ref l2, .ref rw0, .ref rw1, .ref rw2, .int rm0, w12, w13, w14, w15, w16, w17, w18, w19, w20, w21, w22, w23, w24, w25, w26, w27, w28, w29, w30, w31, w32, w33, w34])), (l5, .inl (kl5, 30, .inl f_47)), (l3, .inl (kl3, 10, .inl f_48)), (l1, .inl (kl1, 10, .inl fll)), (l2, .inl (kl2, 10, .inl fmq)), (l4, .inl (kl4, 100, .inl fln)), (l6, .inl (kl6, 10, .inl f_49)), (l7, .inl (kl7, 10, .inl fib)), (rw0, .inl (krw0, 40, .inl frw)), (rw1, .inl (krw1, 4, .inl fat)), (rw2, .inl (krw2, 4, .inl fen))] H := hP
          have hD : va_D A [(h0, .inr (8, [.ref l5, .ref l3, .ref l6, .ref l7, .int (nI kn), .ref l4, .ref l1, .ref l2, .ref rw0, .ref rw1, .ref rw2, .int rm0, w12, w13, w14, w15, w16, w17, w18, w19, w20, w21, w22, w23, w24, w25, w26, w27, w28, w29, w30, w31, w32, w33, w34])), (l5, .inl (kl5, 30, .inl f_47)), (l3, .inl (kl3, 10, .inl f_48)), (l1, .inl (kl1, 10, .inl fll)), (l2, .inl (kl2, 10, .inl fmq)), (l4, .inl (kl4, 100, .inl fln)), (l6, .inl (kl6, 10, .inl f_49)), (l7, .inl (kl7, 10, .inl fib)), (rw0, .inl (krw0, 40, .inl frw)), (rw1, .inl (krw1, 4, .inl fat)), (rw2, .inl (krw2, 4, .inl fen))] := hD
          refine lv_aload_n hx hb dX9_kind_159 rfl (lv_at hl 1 rfl) ?_
          refine va_get (D := (dC, dI)) (ci := 8) (v := .ref l7) (C := RX9) (T := TX9) (N := 35) hx hb hts inB_9 hown hK hP 0 rfl rfl 3 (by decide) (hts _ mw_3_185) (fun _ h9 => h9) rfl dX9_kind_160 ?_
          refine lv_aload_n hx hb dX9_kind_163 rfl (lv_at hl 1 rfl) ?_
          refine va_get (D := (dC, dI)) (ci := 8) (v := .int (nI kn)) (C := RX9) (T := TX9) (N := 35) hx hb hts inB_9 hown hK hP 0 rfl rfl 4 (by decide) (hts _ mw_3_186) (fun _ h9 => h9) rfl dX9_kind_164 ?_
          refine lv_iconst (v := 0) hx hb dX9_kind_167 (by decide) ?_
          refine va_zast hx hb hK hP hD hS 7 6 rfl rfl (show vp_in (nI kn) 10 from vp_in_nI (by omega) (by omega)) dX9_kind_168 (fun H locs hP hD hS => ?_)
          obtain ⟨f_50, ef_50⟩ : ∃ g : Nat → Int32, g = upd fib (Int32.toNatClampNeg (nI kn)) (vp_nar .boolean 0) := ⟨_, rfl⟩
          rw [← ef_50] at hP hD
          have ef_50 : f_50 = upd fib kn (vp_nar .boolean 0) := by rw [ef_50, nI_clamp (by omega)]
          have hP : va_P (dC, dI) vwCl [(h0, .inr (8, [.ref l5, .ref l3, .ref l6, .ref l7, .int (nI kn), .ref l4, .ref l1, .ref l2, .ref rw0, .ref rw1, .ref rw2, .int rm0, w12, w13, w14, w15, w16, w17, w18, w19, w20, w21, w22, w23, w24, w25, w26, w27, w28, w29, w30, w31, w32, w33, w34])), (l5, .inl (kl5, 30, .inl f_47)), (l3, .inl (kl3, 10, .inl f_48)), (l1, .inl (kl1, 10, .inl fll)), (l2, .inl (kl2, 10, .inl fmq)), (l4, .inl (kl4, 100, .inl fln)), (l6, .inl (kl6, 10, .inl f_49)), (l7, .inl (kl7, 10, .inl f_50)), (rw0, .inl (krw0, 40, .inl frw)), (rw1, .inl (krw1, 4, .inl fat)), (rw2, .inl (krw2, 4, .inl fen))] H := hP
          have hD : va_D A [(h0, .inr (8, [.ref l5, .ref l3, .ref l6, .ref l7, .int (nI kn), .ref l4, .ref l1, .ref l2, .ref rw0, .ref rw1, .ref rw2, .int rm0, w12, w13, w14, w15, w16, w17, w18, w19, w20, w21, w22, w23, w24, w25, w26, w27, w28, w29, w30, w31, w32, w33, w34])), (l5, .inl (kl5, 30, .inl f_47)), (l3, .inl (kl3, 10, .inl f_48)), (l1, .inl (kl1, 10, .inl fll)), (l2, .inl (kl2, 10, .inl fmq)), (l4, .inl (kl4, 100, .inl fln)), (l6, .inl (kl6, 10, .inl f_49)), (l7, .inl (kl7, 10, .inl f_50)), (rw0, .inl (krw0, 40, .inl frw)), (rw1, .inl (krw1, 4, .inl fat)), (rw2, .inl (krw2, 4, .inl fen))] := hD
          refine lv_iconst (v := 0) hx hb dX9_kind_169 (by decide) ?_
          refine lv_istore (lv' := [(6, .int 0), (5, .int 1), (0, .ref h0), (1, .int (nI j_44)), (2, .int n2), (3, .int n3), (4, .int n4)]) hx hb dX9_kind_170 hl (by decide) rfl (fun ls hl => ?_)
          have hprk : PrOk f_47 kn j_44 := pr_3 ef_45 ef_46 ef_47 (by omega) (fun q => by omega) (fun q => by omega) (fun q => by omega)
          have hpp : ∀ i, i < 3 → f_47 (3 * kn + i) = par3 n2 n3 n4 i := p3_get ef_45 ef_46 ef_47
          have key_51 : ∀ (fu : Nat) (k : Nat) (fax : Nat → Int32), (k ≤ j_44) → (fax = upd fma kn (abv fma (par3 n2 n3 n4) k)) → j_44 - k < fu → ∀ (H : Heap) (locs : List Loc), va_P (dC, dI) vwCl [(h0, .inr (8, [.ref l5, .ref l3, .ref l6, .ref l7, .int (nI kn), .ref l4, .ref l1, .ref l2, .ref rw0, .ref rw1, .ref rw2, .int rm0, w12, w13, w14, w15, w16, w17, w18, w19, w20, w21, w22, w23, w24, w25, w26, w27, w28, w29, w30, w31, w32, w33, w34])), (l5, .inl (kl5, 30, .inl f_47)), (l3, .inl (kl3, 10, .inl f_48)), (l1, .inl (kl1, 10, .inl fll)), (l2, .inl (kl2, 10, .inl fmq)), (l4, .inl (kl4, 100, .inl fln)), (l6, .inl (kl6, 10, .inl fax)), (l7, .inl (kl7, 10, .inl f_50)), (rw0, .inl (krw0, 40, .inl frw)), (rw1, .inl (krw1, 4, .inl fat)), (rw2, .inl (krw2, 4, .inl fen))] H → va_D A [(h0, .inr (8, [.ref l5, .ref l3, .ref l6, .ref l7, .int (nI kn), .ref l4, .ref l1, .ref l2, .ref rw0, .ref rw1, .ref rw2, .int rm0, w12, w13, w14, w15, w16, w17, w18, w19, w20, w21, w22, w23, w24, w25, w26, w27, w28, w29, w30, w31, w32, w33, w34])), (l5, .inl (kl5, 30, .inl f_47)), (l3, .inl (kl3, 10, .inl f_48)), (l1, .inl (kl1, 10, .inl fll)), (l2, .inl (kl2, 10, .inl fmq)), (l4, .inl (kl4, 100, .inl fln)), (l6, .inl (kl6, 10, .inl fax)), (l7, .inl (kl7, 10, .inl f_50)), (rw0, .inl (krw0, 40, .inl frw)), (rw1, .inl (krw1, 4, .inl fat)), (rw2, .inl (krw2, 4, .inl fen))] → va_S A s.heap H locs → ∀ (ls : Array Slot), lv_has ls 8 [(6, .int (nI k)), (5, .int 1), (0, .ref h0), (1, .int (nI j_44)), (2, .int n2), (3, .int n3), (4, .int n4)] → W p l e (headSpec (wq yX9_kind cX9_kind 8 (some .int)) ({ frames := 3, cells := 0, slots := 0, locals := 71 })).room s m (([.ref h0, .int (nI j_44), .int n2, .int n3, .int n4] : List Value)).toArray below meth c H locs 0 0 (MQ below (va_Qi (fun (r : Int32) (_ : Unit) => r = F_kind kn (nI j_44) n2 n3 n4) (fun _ t => ∃ (kn2 : Nat) (fpr2 : Nat → Int32) (fpm2 : Nat → Int32) (fma2 : Nat → Int32) (fib2 : Nat → Int32) (frw2 : Nat → Int32) (fat2 : Nat → Int32) (fen2 : Nat → Int32) (fll2 : Nat → Int32) (fmq2 : Nat → Int32) (fln2 : Nat → Int32) (rm2 : Int32), (kn2 = K_next kn (nI j_44) n2 n3 n4) ∧ (fib2 = KB_next kn fib (nI j_44) n2 n3 n4) ∧ (fma2 = KA_next kn fma (nI j_44) n2 n3 n4) ∧ (kn2 ≤ 10) ∧ (BdOk 10 10 fll2) ∧ (LnOk fll2 fln2 kn2) ∧ (BdOk 4 10 fat2) ∧ (BdOk 4 10 fen2) ∧ va_P (dC, dI) vwCl [(h0, .inr (8, [.ref l5, .ref l3, .ref l6, .ref l7, .int (nI kn2), .ref l4, .ref l1, .ref l2, .ref rw0, .ref rw1, .ref rw2, .int rm2, w12, w13, w14, w15, w16, w17, w18, w19, w20, w21, w22, w23, w24, w25, w26, w27, w28, w29, w30, w31, w32, w33, w34])), (l5, .inl (kl5, 30, .inl fpr2)), (l3, .inl (kl3, 10, .inl fpm2)), (l1, .inl (kl1, 10, .inl fll2)), (l2, .inl (kl2, 10, .inl fmq2)), (l4, .inl (kl4, 100, .inl fln2)), (l6, .inl (kl6, 10, .inl fma2)), (l7, .inl (kl7, 10, .inl fib2)), (rw0, .inl (krw0, 40, .inl frw2)), (rw1, .inl (krw1, 4, .inl fat2)), (rw2, .inl (krw2, 4, .inl fen2))] t.heap ∧ va_K (dC, dI) vwCl [(kl5, .int), (kl3, .int), (kl1, .int), (kl2, .int), (kl4, .int), (kl6, .int), (kl7, .boolean), (krw0, .int), (krw1, .int), (krw2, .int)] t ∧ va_D A [(h0, .inr (8, [.ref l5, .ref l3, .ref l6, .ref l7, .int (nI kn2), .ref l4, .ref l1, .ref l2, .ref rw0, .ref rw1, .ref rw2, .int rm2, w12, w13, w14, w15, w16, w17, w18, w19, w20, w21, w22, w23, w24, w25, w26, w27, w28, w29, w30, w31, w32, w33, w34])), (l5, .inl (kl5, 30, .inl fpr2)), (l3, .inl (kl3, 10, .inl fpm2)), (l1, .inl (kl1, 10, .inl fll2)), (l2, .inl (kl2, 10, .inl fmq2)), (l4, .inl (kl4, 100, .inl fln2)), (l6, .inl (kl6, 10, .inl fma2)), (l7, .inl (kl7, 10, .inl fib2)), (rw0, .inl (krw0, 40, .inl frw2)), (rw1, .inl (krw1, 4, .inl fat2)), (rw2, .inl (krw2, 4, .inl fen2))]) A) (([.ref h0, .int (nI j_44), .int n2, .int n3, .int n4] : List Value)).toArray s 0 0 A) (F0 m 172 ls []) := by
            intro fu
            induction fu with
            | zero => intro k fax hk hax hme; exact absurd hme (Nat.not_lt_zero _)
            | succ fu ih_52 =>
              intro k fax hk hax hme H locs hP hD hS ls hl
              refine lv_iload hx hb dX9_kind_172 (lv_at hl 0 rfl) ?_
              refine lv_iload_n hx hb dX9_kind_174 rfl (lv_at hl 3 rfl) ?_
              refine lv_icmp_ge (tgt := 224) hx hb dX9_kind_175 (by decide) (fun c_53 => ?_) (fun c_53 => ?_)
              · have b_54 := gx_ge (X := ((k : Nat) : Int)) (C := ((j_44 : Nat) : Int)) (nI_toInt (by omega)) (nI_toInt (by omega)) c_53
                refine lv_aload_n hx hb dX9_kind_224 rfl (lv_at hl 2 rfl) ?_
                refine lv_aload_n hx hb dX9_kind_225 rfl (lv_at hl 2 rfl) ?_
                refine va_get (D := (dC, dI)) (ci := 8) (v := .int (nI kn)) (C := RX9) (T := TX9) (N := 35) hx hb hts inB_9 hown hK hP 0 rfl rfl 4 (by decide) (hts _ mw_3_186) (fun _ h9 => h9) rfl dX9_kind_226 ?_
                have hPc := hP.sub (ws' := [(h0, .inr (8, [.ref l5, .ref l3, .ref l6, .ref l7, .int (nI kn), .ref l4, .ref l1, .ref l2, .ref rw0, .ref rw1, .ref rw2, .int rm0, w12, w13, w14, w15, w16, w17, w18, w19, w20, w21, w22, w23, w24, w25, w26, w27, w28, w29, w30, w31, w32, w33, w34])), (l5, .inl (kl5, 30, .inl f_47)), (l3, .inl (kl3, 10, .inl f_48)), (l1, .inl (kl1, 10, .inl fll)), (l2, .inl (kl2, 10, .inl fmq)), (l4, .inl (kl4, 100, .inl fln)), (rw0, .inl (krw0, 40, .inl frw)), (rw1, .inl (krw1, 4, .inl fat)), (rw2, .inl (krw2, 4, .inl fen))]) [0, 1, 2, 3, 4, 5, 8, 9, 10] rfl
                have hDc := hD.sub (ws' := [(h0, .inr (8, [.ref l5, .ref l3, .ref l6, .ref l7, .int (nI kn), .ref l4, .ref l1, .ref l2, .ref rw0, .ref rw1, .ref rw2, .int rm0, w12, w13, w14, w15, w16, w17, w18, w19, w20, w21, w22, w23, w24, w25, w26, w27, w28, w29, w30, w31, w32, w33, w34])), (l5, .inl (kl5, 30, .inl f_47)), (l3, .inl (kl3, 10, .inl f_48)), (l1, .inl (kl1, 10, .inl fll)), (l2, .inl (kl2, 10, .inl fmq)), (l4, .inl (kl4, 100, .inl fln)), (rw0, .inl (krw0, 40, .inl frw)), (rw1, .inl (krw1, 4, .inl fat)), (rw2, .inl (krw2, 4, .inl fen))]) [0, 1, 2, 3, 4, 5, 8, 9, 10] (by decide) rfl
                have hKc := hK.sub (tys' := [(kl5, .int), (kl3, .int), (kl1, .int), (kl2, .int), (kl4, .int), (krw0, .int), (krw1, .int), (krw2, .int)]) [0, 1, 2, 3, 4, 7, 8, 9] rfl
                have hFc := va_free (wc := [(h0, .inr (8, [.ref l5, .ref l3, .ref l6, .ref l7, .int (nI kn), .ref l4, .ref l1, .ref l2, .ref rw0, .ref rw1, .ref rw2, .int rm0, w12, w13, w14, w15, w16, w17, w18, w19, w20, w21, w22, w23, w24, w25, w26, w27, w28, w29, w30, w31, w32, w33, w34])), (l5, .inl (kl5, 30, .inl f_47)), (l3, .inl (kl3, 10, .inl f_48)), (l1, .inl (kl1, 10, .inl fll)), (l2, .inl (kl2, 10, .inl fmq)), (l4, .inl (kl4, 100, .inl fln)), (rw0, .inl (krw0, 40, .inl frw)), (rw1, .inl (krw1, 4, .inl fat)), (rw2, .inl (krw2, 4, .inl fen))]) hD hS hA [0, 1, 2, 3, 4, 5, 8, 9, 10] rfl
                refine va_callv (va_runV (As := [.int (nI kn)]) (rest := []) ⟨hx, hb, hml, hown, hts⟩ (m_layLine l dC dI H.size h0 l5 l3 (.ref l6) (.ref l7) (.int (nI kn)) l4 l1 l2 rw0 rw1 rw2 rm0 (w12) (w13) (w14) (w15) (w16) (w17) (w18) (w19) (w20) (w21) (w22) (w23) (w24) (w25) (w26) (w27) (w28) (w29) (w30) (w31) (w32) (w33) (w34) kl5 f_47 kl3 f_48 kl1 fll kl2 fmq kl4 fln krw0 frw krw1 fat krw2 fen kn j_44 (by omega) (by rw [ef_48]; exact pk_us) (by omega) hprk hll hln hfat hfen) (cwV 1 hts (gV mw_4_61 mw_4_63 mw_0_16 mw_1_9 mw_4_64) rfl rfl rfl (by decide +kernel) ⟨Nat.le_of_ble_eq_true rfl, Nat.le_of_ble_eq_true rfl⟩) ⟨pcW_blind, va_recv hKc hPc (ci := 8) (q0 := 0) rfl rfl, pcW_at hPc hKc hDc hN⟩ rfl rfl hl.1 rfl (lv_room (Nat.le_of_ble_eq_true rfl)) dX9_kind_229 ⟨Nat.le_of_ble_eq_true rfl, Nat.le_of_ble_eq_true rfl⟩) hS (fun q _ h => hFc q h) hFc (fun u t H1 locs ht hvm hw_55 hB hz1 hk1 hS => ?_)
                obtain ⟨f_56, f_57, f_58, f_59, f_60, f_61, z_62, p_63, p_64, p_65, p_66, hP1, hK1, hD1⟩ := hB
                rw [ht] at hP1
                have hK1 := va_K.moved hvm.symm hK1
                obtain ⟨hP, hD⟩ := va_join (wr := [(l6, .inl (kl6, 10, .inl fax)), (l7, .inl (kl7, 10, .inl f_50))]) (w1 := [(h0, .inr (8, [.ref l5, .ref l3, .ref l6, .ref l7, .int (nI kn), .ref l4, .ref l1, .ref l2, .ref rw0, .ref rw1, .ref rw2, .int z_62, w12, w13, w14, w15, w16, w17, w18, w19, w20, w21, w22, w23, w24, w25, w26, w27, w28, w29, w30, w31, w32, w33, w34])), (l5, .inl (kl5, 30, .inl f_47)), (l3, .inl (kl3, 10, .inl f_48)), (l1, .inl (kl1, 10, .inl f_59)), (l2, .inl (kl2, 10, .inl f_60)), (l4, .inl (kl4, 100, .inl f_61)), (rw0, .inl (krw0, 40, .inl f_56)), (rw1, .inl (krw1, 4, .inl f_57)), (rw2, .inl (krw2, 4, .inl f_58))]) hP hD [0, 1, 2, 3, 4, 5, 8, 9, 10] [6, 7] rfl rfl (by decide) (by decide) hk1 hFc hP1 hD1
                have hK := (hK.sub (tys' := [(kl6, .int), (kl7, .boolean)]) [5, 6] rfl).app hK1
                clear hz1 hk1 hPc hDc hKc hFc
                generalize H1 = H at hP hS ⊢
                have hK : va_K (dC, dI) vwCl [(kl6, .int), (kl7, .boolean), (kl5, .int), (kl3, .int), (kl1, .int), (kl2, .int), (kl4, .int), (krw0, .int), (krw1, .int), (krw2, .int)] s := hK
                have hP : va_P (dC, dI) vwCl [(l6, .inl (kl6, 10, .inl fax)), (l7, .inl (kl7, 10, .inl f_50)), (h0, .inr (8, [.ref l5, .ref l3, .ref l6, .ref l7, .int (nI kn), .ref l4, .ref l1, .ref l2, .ref rw0, .ref rw1, .ref rw2, .int z_62, w12, w13, w14, w15, w16, w17, w18, w19, w20, w21, w22, w23, w24, w25, w26, w27, w28, w29, w30, w31, w32, w33, w34])), (l5, .inl (kl5, 30, .inl f_47)), (l3, .inl (kl3, 10, .inl f_48)), (l1, .inl (kl1, 10, .inl f_59)), (l2, .inl (kl2, 10, .inl f_60)), (l4, .inl (kl4, 100, .inl f_61)), (rw0, .inl (krw0, 40, .inl f_56)), (rw1, .inl (krw1, 4, .inl f_57)), (rw2, .inl (krw2, 4, .inl f_58))] H := hP
                have hD : va_D A [(l6, .inl (kl6, 10, .inl fax)), (l7, .inl (kl7, 10, .inl f_50)), (h0, .inr (8, [.ref l5, .ref l3, .ref l6, .ref l7, .int (nI kn), .ref l4, .ref l1, .ref l2, .ref rw0, .ref rw1, .ref rw2, .int z_62, w12, w13, w14, w15, w16, w17, w18, w19, w20, w21, w22, w23, w24, w25, w26, w27, w28, w29, w30, w31, w32, w33, w34])), (l5, .inl (kl5, 30, .inl f_47)), (l3, .inl (kl3, 10, .inl f_48)), (l1, .inl (kl1, 10, .inl f_59)), (l2, .inl (kl2, 10, .inl f_60)), (l4, .inl (kl4, 100, .inl f_61)), (rw0, .inl (krw0, 40, .inl f_56)), (rw1, .inl (krw1, 4, .inl f_57)), (rw2, .inl (krw2, 4, .inl f_58))] := hD
                refine lv_aload_n hx hb dX9_kind_232 rfl (lv_at hl 2 rfl) ?_
                refine lv_dup hx hb dX9_kind_233 rfl ?_
                refine va_get (D := (dC, dI)) (ci := 8) (v := .int (nI kn)) (C := RX9) (T := TX9) (N := 35) hx hb hts inB_9 hown hK hP 2 rfl rfl 4 (by decide) (hts _ mw_3_186) (fun _ h9 => h9) rfl dX9_kind_234 ?_
                refine lv_iconst (v := 1) hx hb dX9_kind_237 (by decide) ?_
                refine lv_iadd hx hb dX9_kind_238 ?_
                refine hx_top (y := (nI (kn + 1))) (nI_add kn 1) ?_
                refine va_put (D := (dC, dI)) (ci := 8) (v := .int (nI (kn + 1))) (ty := .int) (C := RX9) (T := TX9) (N := 35) hx hb hts inB_9 tyX9 tyX9_ok nmX9 hown hK hP hD hS 2 rfl rfl 4 (by decide) (hts _ mw_3_186) (fun _ h9 => h9) rfl (by decide +kernel) rfl rfl (Nat.le_of_ble_eq_true rfl) dX9_kind_239 (fun H locs hP hD hS => ?_)
                have hP : va_P (dC, dI) vwCl [(l6, .inl (kl6, 10, .inl fax)), (l7, .inl (kl7, 10, .inl f_50)), (h0, .inr (8, [.ref l5, .ref l3, .ref l6, .ref l7, .int (nI (kn + 1)), .ref l4, .ref l1, .ref l2, .ref rw0, .ref rw1, .ref rw2, .int z_62, w12, w13, w14, w15, w16, w17, w18, w19, w20, w21, w22, w23, w24, w25, w26, w27, w28, w29, w30, w31, w32, w33, w34])), (l5, .inl (kl5, 30, .inl f_47)), (l3, .inl (kl3, 10, .inl f_48)), (l1, .inl (kl1, 10, .inl f_59)), (l2, .inl (kl2, 10, .inl f_60)), (l4, .inl (kl4, 100, .inl f_61)), (rw0, .inl (krw0, 40, .inl f_56)), (rw1, .inl (krw1, 4, .inl f_57)), (rw2, .inl (krw2, 4, .inl f_58))] H := hP
                have hD : va_D A [(l6, .inl (kl6, 10, .inl fax)), (l7, .inl (kl7, 10, .inl f_50)), (h0, .inr (8, [.ref l5, .ref l3, .ref l6, .ref l7, .int (nI (kn + 1)), .ref l4, .ref l1, .ref l2, .ref rw0, .ref rw1, .ref rw2, .int z_62, w12, w13, w14, w15, w16, w17, w18, w19, w20, w21, w22, w23, w24, w25, w26, w27, w28, w29, w30, w31, w32, w33, w34])), (l5, .inl (kl5, 30, .inl f_47)), (l3, .inl (kl3, 10, .inl f_48)), (l1, .inl (kl1, 10, .inl f_59)), (l2, .inl (kl2, 10, .inl f_60)), (l4, .inl (kl4, 100, .inl f_61)), (rw0, .inl (krw0, 40, .inl f_56)), (rw1, .inl (krw1, 4, .inl f_57)), (rw2, .inl (krw2, 4, .inl f_58))] := hD
                refine lv_aload_n hx hb dX9_kind_242 rfl (lv_at hl 2 rfl) ?_
                refine va_get (D := (dC, dI)) (ci := 8) (v := .int (nI (kn + 1))) (C := RX9) (T := TX9) (N := 35) hx hb hts inB_9 hown hK hP 2 rfl rfl 4 (by decide) (hts _ mw_3_186) (fun _ h9 => h9) rfl dX9_kind_243 ?_
                refine lv_iconst (v := 1) hx hb dX9_kind_246 (by decide) ?_
                refine lv_isub hx hb dX9_kind_247 ?_
                refine hx_top (y := (nI ((kn + 1) - 1))) (pk_sub (a := (kn + 1)) (b := 1) (by omega)) ?_
                have hP9 := hP.sub (ws' := [(h0, .inr (8, [.ref l5, .ref l3, .ref l6, .ref l7, .int (nI (kn + 1)), .ref l4, .ref l1, .ref l2, .ref rw0, .ref rw1, .ref rw2, .int z_62, w12, w13, w14, w15, w16, w17, w18, w19, w20, w21, w22, w23, w24, w25, w26, w27, w28, w29, w30, w31, w32, w33, w34])), (l5, .inl (kl5, 30, .inl f_47)), (l3, .inl (kl3, 10, .inl f_48)), (l1, .inl (kl1, 10, .inl f_59)), (l2, .inl (kl2, 10, .inl f_60)), (l4, .inl (kl4, 100, .inl f_61)), (l6, .inl (kl6, 10, .inl fax)), (l7, .inl (kl7, 10, .inl f_50)), (rw0, .inl (krw0, 40, .inl f_56)), (rw1, .inl (krw1, 4, .inl f_57)), (rw2, .inl (krw2, 4, .inl f_58))]) [2, 3, 4, 5, 6, 7, 0, 1, 8, 9, 10] rfl
                have hD9 := hD.sub (ws' := [(h0, .inr (8, [.ref l5, .ref l3, .ref l6, .ref l7, .int (nI (kn + 1)), .ref l4, .ref l1, .ref l2, .ref rw0, .ref rw1, .ref rw2, .int z_62, w12, w13, w14, w15, w16, w17, w18, w19, w20, w21, w22, w23, w24, w25, w26, w27, w28, w29, w30, w31, w32, w33, w34])), (l5, .inl (kl5, 30, .inl f_47)), (l3, .inl (kl3, 10, .inl f_48)), (l1, .inl (kl1, 10, .inl f_59)), (l2, .inl (kl2, 10, .inl f_60)), (l4, .inl (kl4, 100, .inl f_61)), (l6, .inl (kl6, 10, .inl fax)), (l7, .inl (kl7, 10, .inl f_50)), (rw0, .inl (krw0, 40, .inl f_56)), (rw1, .inl (krw1, 4, .inl f_57)), (rw2, .inl (krw2, 4, .inl f_58))]) [2, 3, 4, 5, 6, 7, 0, 1, 8, 9, 10] (by decide) rfl
                have hK9 := hK.sub (tys' := [(kl5, .int), (kl3, .int), (kl1, .int), (kl2, .int), (kl4, .int), (kl6, .int), (kl7, .boolean), (krw0, .int), (krw1, .int), (krw2, .int)]) [2, 3, 4, 5, 6, 0, 1, 7, 8, 9] rfl
                exact W.iret (v := (nI ((kn + 1) - 1))) hx hb hr (fun t ht hW => ⟨⟨(nI ((kn + 1) - 1)), (), rfl, (by (unfold F_kind; repeat' split) <;> first | rfl | (exfalso; omega)), (kn + 1), f_47, f_48, fax, f_50, f_56, f_57, f_58, f_59, f_60, f_61, z_62, (K_yes (show nI kn = F_kind kn (nI j_44) n2 n3 n4 from (by (unfold F_kind; repeat' split) <;> first | rfl | (exfalso; omega))) (by omega)), (KB_yes (show nI kn = F_kind kn (nI j_44) n2 n3 n4 from (by (unfold F_kind; repeat' split) <;> first | rfl | (exfalso; omega))) (by omega) ef_50), (KA_yes (m := j_44) (show nI kn = F_kind kn (nI j_44) n2 n3 n4 from (by (unfold F_kind; repeat' split) <;> first | rfl | (exfalso; omega))) (by omega) (nI_clamp (by omega)) (by rw [hax, show k = j_44 from (by omega)])), (by omega), p_63, p_64, p_65, p_66, by rw [ht]; exact hP9, va_K.moved hW.alike hK9, hD9⟩, hS.F ht⟩) hS.2.2 dX9_kind_248
              · have b_54 := gn_ge (X := ((k : Nat) : Int)) (C := ((j_44 : Nat) : Int)) (nI_toInt (by omega)) (nI_toInt (by omega)) c_53
                refine lv_aload_n hx hb dX9_kind_178 rfl (lv_at hl 2 rfl) ?_
                refine va_get (D := (dC, dI)) (ci := 8) (v := .ref l5) (C := RX9) (T := TX9) (N := 35) hx hb hts inB_9 hown hK hP 0 rfl rfl 0 (by decide) (hts _ mw_3_182) (fun _ h9 => h9) rfl dX9_kind_179 ?_
                refine lv_iconst (v := 3) hx hb dX9_kind_182 (by decide) ?_
                refine lv_aload_n hx hb dX9_kind_183 rfl (lv_at hl 2 rfl) ?_
                refine va_get (D := (dC, dI)) (ci := 8) (v := .int (nI kn)) (C := RX9) (T := TX9) (N := 35) hx hb hts inB_9 hown hK hP 0 rfl rfl 4 (by decide) (hts _ mw_3_186) (fun _ h9 => h9) rfl dX9_kind_184 ?_
                refine lv_imul hx hb dX9_kind_187 ?_
                refine hx_top (y := (nI (3 * kn))) (pk_mul 3 kn) ?_
                refine lv_iload hx hb dX9_kind_188 (lv_at hl 0 rfl) ?_
                refine lv_iadd hx hb dX9_kind_190 ?_
                refine hx_top (y := (nI ((3 * kn) + k))) (nI_add (3 * kn) k) ?_
                refine va_iald hx hb hK hP 1 0 rfl rfl (show vp_in (nI ((3 * kn) + k)) 30 from vp_in_nI (by omega) (by omega)) dX9_kind_191 ?_
                refine hx_top (y := (f_47 ((3 * kn) + k))) (congrArg _ (nI_clamp (by omega))) ?_
                obtain ⟨n_67, hn_67, en_67⟩ := hprk k (by omega)
                refine hx_top (y := (nI n_67)) en_67 ?_
                refine lv_istore (lv' := [(7, .int (nI n_67)), (6, .int (nI k)), (5, .int 1), (0, .ref h0), (1, .int (nI j_44)), (2, .int n2), (3, .int n3), (4, .int n4)]) hx hb dX9_kind_192 hl (by decide) rfl (fun ls hl => ?_)
                refine lv_aload_n hx hb dX9_kind_194 rfl (lv_at hl 3 rfl) ?_
                refine va_get (D := (dC, dI)) (ci := 8) (v := .ref l6) (C := RX9) (T := TX9) (N := 35) hx hb hts inB_9 hown hK hP 0 rfl rfl 2 (by decide) (hts _ mw_3_184) (fun _ h9 => h9) rfl dX9_kind_195 ?_
                refine lv_aload_n hx hb dX9_kind_198 rfl (lv_at hl 3 rfl) ?_
                refine va_get (D := (dC, dI)) (ci := 8) (v := .int (nI kn)) (C := RX9) (T := TX9) (N := 35) hx hb hts inB_9 hown hK hP 0 rfl rfl 4 (by decide) (hts _ mw_3_186) (fun _ h9 => h9) rfl dX9_kind_199 ?_
                refine lv_dup2_11 hx hb dX9_kind_202 rfl rfl ?_
                refine va_iald hx hb hK hP 6 5 rfl rfl (show vp_in (nI kn) 10 from vp_in_nI (by omega) (by omega)) dX9_kind_203 ?_
                refine hx_top (y := (fax kn)) (congrArg _ (nI_clamp (by omega))) ?_
                refine lv_aload_n hx hb dX9_kind_204 rfl (lv_at hl 3 rfl) ?_
                refine va_get (D := (dC, dI)) (ci := 8) (v := .ref l6) (C := RX9) (T := TX9) (N := 35) hx hb hts inB_9 hown hK hP 0 rfl rfl 2 (by decide) (hts _ mw_3_184) (fun _ h9 => h9) rfl dX9_kind_205 ?_
                refine lv_iload hx hb dX9_kind_208 (lv_at hl 0 rfl) ?_
                refine va_iald hx hb hK hP 6 5 rfl rfl (show vp_in (nI n_67) 10 from vp_in_nI (by omega) (by omega)) dX9_kind_210 ?_
                refine hx_top (y := (fax n_67)) (congrArg _ (nI_clamp (by omega))) ?_
                refine lv_iconst (v := 1) hx hb dX9_kind_211 (by decide) ?_
                refine lv_iload hx hb dX9_kind_212 (lv_at hl 0 rfl) ?_
                refine lv_ishl hx hb dX9_kind_214 ?_
                refine lv_ior hx hb dX9_kind_215 ?_
                refine lv_ior hx hb dX9_kind_216 ?_
                refine va_iast hx hb hK hP hD hS 6 5 rfl rfl (show vp_in (nI kn) 10 from vp_in_nI (by omega) (by omega)) dX9_kind_217 (fun H locs hP hD hS => ?_)
                obtain ⟨f_68, ef_68⟩ : ∃ g : Nat → Int32, g = upd fax (Int32.toNatClampNeg (nI kn)) ((fax kn) ||| ((fax n_67) ||| (1 <<< ((nI n_67) &&& 31)))) := ⟨_, rfl⟩
                rw [← ef_68] at hP hD
                have ef_68 : f_68 = upd fax kn ((fax kn) ||| ((fax n_67) ||| (1 <<< ((nI n_67) &&& 31)))) := by rw [ef_68, nI_clamp (by omega)]
                have hP : va_P (dC, dI) vwCl [(h0, .inr (8, [.ref l5, .ref l3, .ref l6, .ref l7, .int (nI kn), .ref l4, .ref l1, .ref l2, .ref rw0, .ref rw1, .ref rw2, .int rm0, w12, w13, w14, w15, w16, w17, w18, w19, w20, w21, w22, w23, w24, w25, w26, w27, w28, w29, w30, w31, w32, w33, w34])), (l5, .inl (kl5, 30, .inl f_47)), (l3, .inl (kl3, 10, .inl f_48)), (l1, .inl (kl1, 10, .inl fll)), (l2, .inl (kl2, 10, .inl fmq)), (l4, .inl (kl4, 100, .inl fln)), (l6, .inl (kl6, 10, .inl f_68)), (l7, .inl (kl7, 10, .inl f_50)), (rw0, .inl (krw0, 40, .inl frw)), (rw1, .inl (krw1, 4, .inl fat)), (rw2, .inl (krw2, 4, .inl fen))] H := hP
                have hD : va_D A [(h0, .inr (8, [.ref l5, .ref l3, .ref l6, .ref l7, .int (nI kn), .ref l4, .ref l1, .ref l2, .ref rw0, .ref rw1, .ref rw2, .int rm0, w12, w13, w14, w15, w16, w17, w18, w19, w20, w21, w22, w23, w24, w25, w26, w27, w28, w29, w30, w31, w32, w33, w34])), (l5, .inl (kl5, 30, .inl f_47)), (l3, .inl (kl3, 10, .inl f_48)), (l1, .inl (kl1, 10, .inl fll)), (l2, .inl (kl2, 10, .inl fmq)), (l4, .inl (kl4, 100, .inl fln)), (l6, .inl (kl6, 10, .inl f_68)), (l7, .inl (kl7, 10, .inl f_50)), (rw0, .inl (krw0, 40, .inl frw)), (rw1, .inl (krw1, 4, .inl fat)), (rw2, .inl (krw2, 4, .inl fen))] := hD
                refine lv_iinc (v := (nI (k + 1))) (lv' := [(6, .int (nI (k + 1))), (7, .int (nI n_67)), (5, .int 1), (0, .ref h0), (1, .int (nI j_44)), (2, .int n2), (3, .int n3), (4, .int n4)]) hx hb dX9_kind_218 hl (k := 1) rfl (nI_add k 1) (by decide) rfl (fun ls hl => ?_)
                refine lv_goto (tgt := 172) hx hb dX9_kind_221 (by decide) ?_
                exact ih_52 (k + 1) f_68 (by omega) (ab_stepM hax ((hpp k (by omega)).symm.trans en_67) (by omega) (by omega) ef_68) (by omega) _ _ hP hD hS ls (lv_sub hl [0, 2, 3, 4, 5, 6, 7] rfl)
          exact key_51 ((j_44 - 0) + 1) 0 f_49 (by omega) ef_49 (Nat.lt_succ_self _) _ _ hP hD hS ls (lv_sub hl [0, 1, 2, 3, 4, 5, 6] rfl)
        · have b_43 := gn_ne (X := ((kn : Nat) : Int)) (C := 10) (nI_toInt (by omega)) (by decide) c_42
          refine lv_bipush (v := (-4)) hx hb dX9_kind_95 (by decide) ?_
          have hP9 := hP.sub (ws' := [(h0, .inr (8, [.ref l5, .ref l3, .ref l6, .ref l7, .int (nI kn), .ref l4, .ref l1, .ref l2, .ref rw0, .ref rw1, .ref rw2, .int rm0, w12, w13, w14, w15, w16, w17, w18, w19, w20, w21, w22, w23, w24, w25, w26, w27, w28, w29, w30, w31, w32, w33, w34])), (l5, .inl (kl5, 30, .inl fpr)), (l3, .inl (kl3, 10, .inl fpm)), (l1, .inl (kl1, 10, .inl fll)), (l2, .inl (kl2, 10, .inl fmq)), (l4, .inl (kl4, 100, .inl fln)), (l6, .inl (kl6, 10, .inl fma)), (l7, .inl (kl7, 10, .inl fib)), (rw0, .inl (krw0, 40, .inl frw)), (rw1, .inl (krw1, 4, .inl fat)), (rw2, .inl (krw2, 4, .inl fen))]) [0, 1, 2, 3, 4, 5, 6, 7, 8, 9, 10] rfl
          have hD9 := hD.sub (ws' := [(h0, .inr (8, [.ref l5, .ref l3, .ref l6, .ref l7, .int (nI kn), .ref l4, .ref l1, .ref l2, .ref rw0, .ref rw1, .ref rw2, .int rm0, w12, w13, w14, w15, w16, w17, w18, w19, w20, w21, w22, w23, w24, w25, w26, w27, w28, w29, w30, w31, w32, w33, w34])), (l5, .inl (kl5, 30, .inl fpr)), (l3, .inl (kl3, 10, .inl fpm)), (l1, .inl (kl1, 10, .inl fll)), (l2, .inl (kl2, 10, .inl fmq)), (l4, .inl (kl4, 100, .inl fln)), (l6, .inl (kl6, 10, .inl fma)), (l7, .inl (kl7, 10, .inl fib)), (rw0, .inl (krw0, 40, .inl frw)), (rw1, .inl (krw1, 4, .inl fat)), (rw2, .inl (krw2, 4, .inl fen))]) [0, 1, 2, 3, 4, 5, 6, 7, 8, 9, 10] (by decide) rfl
          have hK9 := hK.sub (tys' := [(kl5, .int), (kl3, .int), (kl1, .int), (kl2, .int), (kl4, .int), (kl6, .int), (kl7, .boolean), (krw0, .int), (krw1, .int), (krw2, .int)]) [0, 1, 2, 3, 4, 5, 6, 7, 8, 9] rfl
          exact W.iret (v := (-4)) hx hb hr (fun t ht hW => ⟨⟨(-4), (), rfl, (by (unfold F_kind; repeat' split) <;> first | rfl | (exfalso; omega)), kn, fpr, fpm, fma, fib, frw, fat, fen, fll, fmq, fln, rm0, (K_no (v := (-4)) (show ((-4) : Int32) = F_kind kn n1 n2 n3 n4 from (by (unfold F_kind; repeat' split) <;> first | rfl | (exfalso; omega))) (by decide)), (KB_no (v := (-4)) (show ((-4) : Int32) = F_kind kn n1 n2 n3 n4 from (by (unfold F_kind; repeat' split) <;> first | rfl | (exfalso; omega))) (by decide)), (KA_no (v := (-4)) (show ((-4) : Int32) = F_kind kn n1 n2 n3 n4 from (by (unfold F_kind; repeat' split) <;> first | rfl | (exfalso; omega))) (by decide)), hkn, hll, hln, hfat, hfen, by rw [ht]; exact hP9, va_K.moved hW.alike hK9, hD9⟩, hS.F ht⟩) hS.2.2 dX9_kind_97
      · have b_39 := gn_lt (X := (Int32.toInt n1)) (C := 2) rfl (by decide) c_38
        refine lv_aload_n hx hb dX9_kind_18 rfl (lv_at hl 0 rfl) ?_
        refine lv_iload_n hx hb dX9_kind_19 rfl (lv_at hl 3 rfl) ?_
        have hPc := hP.sub (ws' := [(h0, .inr (8, [.ref l5, .ref l3, .ref l6, .ref l7, .int (nI kn), .ref l4, .ref l1, .ref l2, .ref rw0, .ref rw1, .ref rw2, .int rm0, w12, w13, w14, w15, w16, w17, w18, w19, w20, w21, w22, w23, w24, w25, w26, w27, w28, w29, w30, w31, w32, w33, w34]))]) [0] rfl
        have hDc := hD.sub (ws' := [(h0, .inr (8, [.ref l5, .ref l3, .ref l6, .ref l7, .int (nI kn), .ref l4, .ref l1, .ref l2, .ref rw0, .ref rw1, .ref rw2, .int rm0, w12, w13, w14, w15, w16, w17, w18, w19, w20, w21, w22, w23, w24, w25, w26, w27, w28, w29, w30, w31, w32, w33, w34]))]) [0] (by decide) rfl
        have hKc := hK.sub (tys' := []) [] rfl
        refine va_calli (va_runV (As := [.int n3]) (rest := []) ⟨hx, hb, hml, hown, hts⟩ (m_isKind l dC dI H.size h0 (.ref l5) (.ref l3) (.ref l6) (.ref l7) kn (.ref l4) (.ref l1) (.ref l2) (.ref rw0) (.ref rw1) (.ref rw2) (.int rm0) (w12) (w13) (w14) (w15) (w16) (w17) (w18) (w19) (w20) (w21) (w22) (w23) (w24) (w25) (w26) (w27) (w28) (w29) (w30) (w31) (w32) (w33) (w34) n3 hkn) (cwV 1 hts (gV mw_4_53 mw_4_55 mw_0_15 mw_1_9 mw_4_56) rfl rfl rfl (by decide +kernel) ⟨Nat.le_of_ble_eq_true rfl, Nat.le_of_ble_eq_true rfl⟩) ⟨pcW_blind, va_recv hKc hPc (ci := 8) (q0 := 0) rfl rfl, pcW_at hPc hKc hDc hN⟩ rfl rfl hl.1 rfl (lv_room (Nat.le_of_ble_eq_true rfl)) dX9_kind_20 ⟨Nat.le_of_ble_eq_true rfl, Nat.le_of_ble_eq_true rfl⟩) hS (fun q h1 h2 => absurd h2 (Nat.not_le.mpr h1)) (fun q h => hA q (Nat.le_trans hS.1 h)) (fun r_69 u t H1 locs ht hvm hw_69 hB hz1 hk1 hS => ?_)
        have hP := keepP hP hk1
        clear hz1 hk1 hB ht hvm hPc hDc hKc
        generalize H1 = H at hP hS ⊢
        rcases fx_bool hw_69 with ⟨rfl, b_70⟩ | ⟨rfl, b_70⟩
        · skip
          refine lv_if_eq (tgt := 61) hx hb dX9_kind_23 (by decide) (fun h => absurd h (by decide)) (fun _ => ?_)
          refine lv_iload_n hx hb dX9_kind_26 rfl (lv_at hl 3 rfl) ?_
          refine lv_iload_n hx hb dX9_kind_27 rfl (lv_at hl 2 rfl) ?_
          refine lv_icmp_eq (tgt := 61) hx hb dX9_kind_28 (by decide) (fun c_71 => ?_) (fun c_71 => ?_)
          · have b_72 := gx_eq (X := (Int32.toInt n3)) (C := (Int32.toInt n2)) rfl rfl c_71
            refine lv_iconst (v := 0) hx hb dX9_kind_61 (by decide) ?_
            refine lv_istore (lv' := [(5, .int 0), (0, .ref h0), (1, .int n1), (2, .int n2), (3, .int n3), (4, .int n4)]) hx hb dX9_kind_62 hl (by decide) rfl (fun ls hl => ?_)
            refine lv_iload hx hb dX9_kind_64 (lv_at hl 0 rfl) ?_
            refine lv_if_ne (tgt := 71) hx hb dX9_kind_66 (by decide) (fun h => absurd h (by decide)) (fun _ => ?_)
            refine lv_iconst (v := (-1)) hx hb dX9_kind_69 (by decide) ?_
            have hP9 := hP.sub (ws' := [(h0, .inr (8, [.ref l5, .ref l3, .ref l6, .ref l7, .int (nI kn), .ref l4, .ref l1, .ref l2, .ref rw0, .ref rw1, .ref rw2, .int rm0, w12, w13, w14, w15, w16, w17, w18, w19, w20, w21, w22, w23, w24, w25, w26, w27, w28, w29, w30, w31, w32, w33, w34])), (l5, .inl (kl5, 30, .inl fpr)), (l3, .inl (kl3, 10, .inl fpm)), (l1, .inl (kl1, 10, .inl fll)), (l2, .inl (kl2, 10, .inl fmq)), (l4, .inl (kl4, 100, .inl fln)), (l6, .inl (kl6, 10, .inl fma)), (l7, .inl (kl7, 10, .inl fib)), (rw0, .inl (krw0, 40, .inl frw)), (rw1, .inl (krw1, 4, .inl fat)), (rw2, .inl (krw2, 4, .inl fen))]) [0, 1, 2, 3, 4, 5, 6, 7, 8, 9, 10] rfl
            have hD9 := hD.sub (ws' := [(h0, .inr (8, [.ref l5, .ref l3, .ref l6, .ref l7, .int (nI kn), .ref l4, .ref l1, .ref l2, .ref rw0, .ref rw1, .ref rw2, .int rm0, w12, w13, w14, w15, w16, w17, w18, w19, w20, w21, w22, w23, w24, w25, w26, w27, w28, w29, w30, w31, w32, w33, w34])), (l5, .inl (kl5, 30, .inl fpr)), (l3, .inl (kl3, 10, .inl fpm)), (l1, .inl (kl1, 10, .inl fll)), (l2, .inl (kl2, 10, .inl fmq)), (l4, .inl (kl4, 100, .inl fln)), (l6, .inl (kl6, 10, .inl fma)), (l7, .inl (kl7, 10, .inl fib)), (rw0, .inl (krw0, 40, .inl frw)), (rw1, .inl (krw1, 4, .inl fat)), (rw2, .inl (krw2, 4, .inl fen))]) [0, 1, 2, 3, 4, 5, 6, 7, 8, 9, 10] (by decide) rfl
            have hK9 := hK.sub (tys' := [(kl5, .int), (kl3, .int), (kl1, .int), (kl2, .int), (kl4, .int), (kl6, .int), (kl7, .boolean), (krw0, .int), (krw1, .int), (krw2, .int)]) [0, 1, 2, 3, 4, 5, 6, 7, 8, 9] rfl
            exact W.iret (v := (-1)) hx hb hr (fun t ht hW => ⟨⟨(-1), (), rfl, (by (unfold F_kind; repeat' split) <;> first | rfl | (exfalso; omega)), kn, fpr, fpm, fma, fib, frw, fat, fen, fll, fmq, fln, rm0, (K_no (v := (-1)) (show ((-1) : Int32) = F_kind kn n1 n2 n3 n4 from (by (unfold F_kind; repeat' split) <;> first | rfl | (exfalso; omega))) (by decide)), (KB_no (v := (-1)) (show ((-1) : Int32) = F_kind kn n1 n2 n3 n4 from (by (unfold F_kind; repeat' split) <;> first | rfl | (exfalso; omega))) (by decide)), (KA_no (v := (-1)) (show ((-1) : Int32) = F_kind kn n1 n2 n3 n4 from (by (unfold F_kind; repeat' split) <;> first | rfl | (exfalso; omega))) (by decide)), hkn, hll, hln, hfat, hfen, by rw [ht]; exact hP9, va_K.moved hW.alike hK9, hD9⟩, hS.F ht⟩) hS.2.2 dX9_kind_70
          · have b_72 := gn_eq (X := (Int32.toInt n3)) (C := (Int32.toInt n2)) rfl rfl c_71
            refine lv_iload_n hx hb dX9_kind_31 rfl (lv_at hl 1 rfl) ?_
            refine lv_iconst (v := 3) hx hb dX9_kind_32 (by decide) ?_
            refine lv_icmp_lt (tgt := 57) hx hb dX9_kind_33 (by decide) (fun c_73 => ?_) (fun c_73 => ?_)
            · have b_74 := gx_lt (X := (Int32.toInt n1)) (C := 3) rfl (by decide) c_73
              refine lv_iconst (v := 1) hx hb dX9_kind_57 (by decide) ?_
              refine lv_goto (tgt := 62) hx hb dX9_kind_58 (by decide) ?_
              refine lv_istore (lv' := [(5, .int 1), (0, .ref h0), (1, .int n1), (2, .int n2), (3, .int n3), (4, .int n4)]) hx hb dX9_kind_62 hl (by decide) rfl (fun ls hl => ?_)
              refine lv_iload hx hb dX9_kind_64 (lv_at hl 0 rfl) ?_
              refine lv_if_ne (tgt := 71) hx hb dX9_kind_66 (by decide) (fun _ => ?_) (fun h => absurd h (by decide))
              refine lv_iload_n hx hb dX9_kind_71 rfl (lv_at hl 2 rfl) ?_
              refine hx_top (y := 2) (fx_sing (C := 2) (by decide) (by omega)) ?_
              refine lv_i2l hx hb dX9_kind_72 rfl ?_
              refine lv_lconst (v := Int32.toInt64 0) hx hb dX9_kind_73 (by decide) ?_
              refine lv_ldc2 (v := Int32.toInt64 3) hx hb hown (show (Cond.constantLong RX9 100 (Int32.toInt64 3)).before _ s = true from (hts _ mw_4_60)) dX9_kind_74 ?_
              have hPc := hP.sub (ws' := []) [] rfl
              have hDc := hD.sub (ws' := []) [] (by decide) rfl
              have hKc := hK.sub (tys' := []) [] rfl
              refine va_calli (va_runS (As := [.long (Int32.toInt64 2), .long (Int32.toInt64 0), .long (Int32.toInt64 3)]) (rest := []) ⟨hx, hb, hml, hown, hts⟩ (m_in l dC dI H.size 2 0 3 0 3 (by decide) (by decide)) (va_cwS 3 hts (gS mw_4_57 mw_4_58 mw_1_9 mw_4_59) rfl rfl rfl (by decide +kernel) ⟨Nat.le_of_ble_eq_true rfl, Nat.le_of_ble_eq_true rfl⟩) ⟨pcW_blind, pcW_at hPc hKc hDc hN⟩ rfl rfl hl.1 rfl (lv_room (Nat.le_of_ble_eq_true rfl)) dX9_kind_77 ⟨Nat.le_of_ble_eq_true rfl, Nat.le_of_ble_eq_true rfl⟩) hS (fun q h1 h2 => absurd h2 (Nat.not_le.mpr h1)) (fun q h => hA q (Nat.le_trans hS.1 h)) (fun r_75 u t H1 locs ht hvm hw_75 hB hz1 hk1 hS => ?_)
              have hP := keepP hP hk1
              clear hz1 hk1 hB ht hvm hPc hDc hKc
              generalize H1 = H at hP hS ⊢
              obtain rfl : r_75 = 1 := hw_75.trans (if_pos (by decide))
              refine lv_if_ne (tgt := 86) hx hb dX9_kind_80 (by decide) (fun _ => ?_) (fun h => absurd h (by decide))
              refine lv_aload_n hx hb dX9_kind_86 rfl (lv_at hl 1 rfl) ?_
              refine va_get (D := (dC, dI)) (ci := 8) (v := .int (nI kn)) (C := RX9) (T := TX9) (N := 35) hx hb hts inB_9 hown hK hP 0 rfl rfl 4 (by decide) (hts _ mw_3_186) (fun _ h9 => h9) rfl dX9_kind_87 ?_
              refine lv_bipush (v := 10) hx hb dX9_kind_90 (by decide) ?_
              refine lv_icmp_ne (tgt := 98) hx hb dX9_kind_92 (by decide) (fun c_77 => ?_) (fun c_77 => ?_)
              · have b_78 := gx_ne (X := ((kn : Nat) : Int)) (C := 10) (nI_toInt (by omega)) (by decide) c_77
                obtain ⟨j_79, tj_79, ej_79⟩ := fx_nat (x := n1) (by omega)
                subst ej_79
                have yj_79 : Int32.toInt (nI j_79) = (j_79 : Int) := nI_toInt tj_79
                refine lv_aload_n hx hb dX9_kind_98 rfl (lv_at hl 1 rfl) ?_
                refine va_get (D := (dC, dI)) (ci := 8) (v := .ref l5) (C := RX9) (T := TX9) (N := 35) hx hb hts inB_9 hown hK hP 0 rfl rfl 0 (by decide) (hts _ mw_3_182) (fun _ h9 => h9) rfl dX9_kind_99 ?_
                refine lv_iconst (v := 3) hx hb dX9_kind_102 (by decide) ?_
                refine lv_aload_n hx hb dX9_kind_103 rfl (lv_at hl 1 rfl) ?_
                refine va_get (D := (dC, dI)) (ci := 8) (v := .int (nI kn)) (C := RX9) (T := TX9) (N := 35) hx hb hts inB_9 hown hK hP 0 rfl rfl 4 (by decide) (hts _ mw_3_186) (fun _ h9 => h9) rfl dX9_kind_104 ?_
                refine lv_imul hx hb dX9_kind_107 ?_
                refine hx_top (y := (nI (3 * kn))) (pk_mul 3 kn) ?_
                refine lv_iload_n hx hb dX9_kind_108 rfl (lv_at hl 3 rfl) ?_
                refine va_iast hx hb hK hP hD hS 1 0 rfl rfl (show vp_in (nI (3 * kn)) 30 from vp_in_nI (by omega) (by omega)) dX9_kind_109 (fun H locs hP hD hS => ?_)
                obtain ⟨f_80, ef_80⟩ : ∃ g : Nat → Int32, g = upd fpr (Int32.toNatClampNeg (nI (3 * kn))) n2 := ⟨_, rfl⟩
                rw [← ef_80] at hP hD
                have ef_80 : f_80 = upd fpr (3 * kn) n2 := by rw [ef_80, nI_clamp (by omega)]
                have hP : va_P (dC, dI) vwCl [(h0, .inr (8, [.ref l5, .ref l3, .ref l6, .ref l7, .int (nI kn), .ref l4, .ref l1, .ref l2, .ref rw0, .ref rw1, .ref rw2, .int rm0, w12, w13, w14, w15, w16, w17, w18, w19, w20, w21, w22, w23, w24, w25, w26, w27, w28, w29, w30, w31, w32, w33, w34])), (l5, .inl (kl5, 30, .inl f_80)), (l3, .inl (kl3, 10, .inl fpm)), (l1, .inl (kl1, 10, .inl fll)), (l2, .inl (kl2, 10, .inl fmq)), (l4, .inl (kl4, 100, .inl fln)), (l6, .inl (kl6, 10, .inl fma)), (l7, .inl (kl7, 10, .inl fib)), (rw0, .inl (krw0, 40, .inl frw)), (rw1, .inl (krw1, 4, .inl fat)), (rw2, .inl (krw2, 4, .inl fen))] H := hP
                have hD : va_D A [(h0, .inr (8, [.ref l5, .ref l3, .ref l6, .ref l7, .int (nI kn), .ref l4, .ref l1, .ref l2, .ref rw0, .ref rw1, .ref rw2, .int rm0, w12, w13, w14, w15, w16, w17, w18, w19, w20, w21, w22, w23, w24, w25, w26, w27, w28, w29, w30, w31, w32, w33, w34])), (l5, .inl (kl5, 30, .inl f_80)), (l3, .inl (kl3, 10, .inl fpm)), (l1, .inl (kl1, 10, .inl fll)), (l2, .inl (kl2, 10, .inl fmq)), (l4, .inl (kl4, 100, .inl fln)), (l6, .inl (kl6, 10, .inl fma)), (l7, .inl (kl7, 10, .inl fib)), (rw0, .inl (krw0, 40, .inl frw)), (rw1, .inl (krw1, 4, .inl fat)), (rw2, .inl (krw2, 4, .inl fen))] := hD
                refine lv_aload_n hx hb dX9_kind_110 rfl (lv_at hl 1 rfl) ?_
                refine va_get (D := (dC, dI)) (ci := 8) (v := .ref l5) (C := RX9) (T := TX9) (N := 35) hx hb hts inB_9 hown hK hP 0 rfl rfl 0 (by decide) (hts _ mw_3_182) (fun _ h9 => h9) rfl dX9_kind_111 ?_
                refine lv_iconst (v := 3) hx hb dX9_kind_114 (by decide) ?_
                refine lv_aload_n hx hb dX9_kind_115 rfl (lv_at hl 1 rfl) ?_
                refine va_get (D := (dC, dI)) (ci := 8) (v := .int (nI kn)) (C := RX9) (T := TX9) (N := 35) hx hb hts inB_9 hown hK hP 0 rfl rfl 4 (by decide) (hts _ mw_3_186) (fun _ h9 => h9) rfl dX9_kind_116 ?_
                refine lv_imul hx hb dX9_kind_119 ?_
                refine hx_top (y := (nI (3 * kn))) (pk_mul 3 kn) ?_
                refine lv_iconst (v := 1) hx hb dX9_kind_120 (by decide) ?_
                refine lv_iadd hx hb dX9_kind_121 ?_
                refine hx_top (y := (nI ((3 * kn) + 1))) (nI_add (3 * kn) 1) ?_
                refine lv_iload_n hx hb dX9_kind_122 rfl (lv_at hl 4 rfl) ?_
                refine va_iast hx hb hK hP hD hS 1 0 rfl rfl (show vp_in (nI ((3 * kn) + 1)) 30 from vp_in_nI (by omega) (by omega)) dX9_kind_123 (fun H locs hP hD hS => ?_)
                obtain ⟨f_81, ef_81⟩ : ∃ g : Nat → Int32, g = upd f_80 (Int32.toNatClampNeg (nI ((3 * kn) + 1))) n3 := ⟨_, rfl⟩
                rw [← ef_81] at hP hD
                have ef_81 : f_81 = upd f_80 ((3 * kn) + 1) n3 := by rw [ef_81, nI_clamp (by omega)]
                have hP : va_P (dC, dI) vwCl [(h0, .inr (8, [.ref l5, .ref l3, .ref l6, .ref l7, .int (nI kn), .ref l4, .ref l1, .ref l2, .ref rw0, .ref rw1, .ref rw2, .int rm0, w12, w13, w14, w15, w16, w17, w18, w19, w20, w21, w22, w23, w24, w25, w26, w27, w28, w29, w30, w31, w32, w33, w34])), (l5, .inl (kl5, 30, .inl f_81)), (l3, .inl (kl3, 10, .inl fpm)), (l1, .inl (kl1, 10, .inl fll)), (l2, .inl (kl2, 10, .inl fmq)), (l4, .inl (kl4, 100, .inl fln)), (l6, .inl (kl6, 10, .inl fma)), (l7, .inl (kl7, 10, .inl fib)), (rw0, .inl (krw0, 40, .inl frw)), (rw1, .inl (krw1, 4, .inl fat)), (rw2, .inl (krw2, 4, .inl fen))] H := hP
                have hD : va_D A [(h0, .inr (8, [.ref l5, .ref l3, .ref l6, .ref l7, .int (nI kn), .ref l4, .ref l1, .ref l2, .ref rw0, .ref rw1, .ref rw2, .int rm0, w12, w13, w14, w15, w16, w17, w18, w19, w20, w21, w22, w23, w24, w25, w26, w27, w28, w29, w30, w31, w32, w33, w34])), (l5, .inl (kl5, 30, .inl f_81)), (l3, .inl (kl3, 10, .inl fpm)), (l1, .inl (kl1, 10, .inl fll)), (l2, .inl (kl2, 10, .inl fmq)), (l4, .inl (kl4, 100, .inl fln)), (l6, .inl (kl6, 10, .inl fma)), (l7, .inl (kl7, 10, .inl fib)), (rw0, .inl (krw0, 40, .inl frw)), (rw1, .inl (krw1, 4, .inl fat)), (rw2, .inl (krw2, 4, .inl fen))] := hD
                refine lv_aload_n hx hb dX9_kind_124 rfl (lv_at hl 1 rfl) ?_
                refine va_get (D := (dC, dI)) (ci := 8) (v := .ref l5) (C := RX9) (T := TX9) (N := 35) hx hb hts inB_9 hown hK hP 0 rfl rfl 0 (by decide) (hts _ mw_3_182) (fun _ h9 => h9) rfl dX9_kind_125 ?_
                refine lv_iconst (v := 3) hx hb dX9_kind_128 (by decide) ?_
                refine lv_aload_n hx hb dX9_kind_129 rfl (lv_at hl 1 rfl) ?_
                refine va_get (D := (dC, dI)) (ci := 8) (v := .int (nI kn)) (C := RX9) (T := TX9) (N := 35) hx hb hts inB_9 hown hK hP 0 rfl rfl 4 (by decide) (hts _ mw_3_186) (fun _ h9 => h9) rfl dX9_kind_130 ?_
                refine lv_imul hx hb dX9_kind_133 ?_
                refine hx_top (y := (nI (3 * kn))) (pk_mul 3 kn) ?_
                refine lv_iconst (v := 2) hx hb dX9_kind_134 (by decide) ?_
                refine lv_iadd hx hb dX9_kind_135 ?_
                refine hx_top (y := (nI ((3 * kn) + 2))) (nI_add (3 * kn) 2) ?_
                refine lv_iload hx hb dX9_kind_136 (lv_at hl 5 rfl) ?_
                refine va_iast hx hb hK hP hD hS 1 0 rfl rfl (show vp_in (nI ((3 * kn) + 2)) 30 from vp_in_nI (by omega) (by omega)) dX9_kind_138 (fun H locs hP hD hS => ?_)
                obtain ⟨f_82, ef_82⟩ : ∃ g : Nat → Int32, g = upd f_81 (Int32.toNatClampNeg (nI ((3 * kn) + 2))) n4 := ⟨_, rfl⟩
                rw [← ef_82] at hP hD
                have ef_82 : f_82 = upd f_81 ((3 * kn) + 2) n4 := by rw [ef_82, nI_clamp (by omega)]
                have hP : va_P (dC, dI) vwCl [(h0, .inr (8, [.ref l5, .ref l3, .ref l6, .ref l7, .int (nI kn), .ref l4, .ref l1, .ref l2, .ref rw0, .ref rw1, .ref rw2, .int rm0, w12, w13, w14, w15, w16, w17, w18, w19, w20, w21, w22, w23, w24, w25, w26, w27, w28, w29, w30, w31, w32, w33, w34])), (l5, .inl (kl5, 30, .inl f_82)), (l3, .inl (kl3, 10, .inl fpm)), (l1, .inl (kl1, 10, .inl fll)), (l2, .inl (kl2, 10, .inl fmq)), (l4, .inl (kl4, 100, .inl fln)), (l6, .inl (kl6, 10, .inl fma)), (l7, .inl (kl7, 10, .inl fib)), (rw0, .inl (krw0, 40, .inl frw)), (rw1, .inl (krw1, 4, .inl fat)), (rw2, .inl (krw2, 4, .inl fen))] H := hP
                have hD : va_D A [(h0, .inr (8, [.ref l5, .ref l3, .ref l6, .ref l7, .int (nI kn), .ref l4, .ref l1, .ref l2, .ref rw0, .ref rw1, .ref rw2, .int rm0, w12, w13, w14, w15, w16, w17, w18, w19, w20, w21, w22, w23, w24, w25, w26, w27, w28, w29, w30, w31, w32, w33, w34])), (l5, .inl (kl5, 30, .inl f_82)), (l3, .inl (kl3, 10, .inl fpm)), (l1, .inl (kl1, 10, .inl fll)), (l2, .inl (kl2, 10, .inl fmq)), (l4, .inl (kl4, 100, .inl fln)), (l6, .inl (kl6, 10, .inl fma)), (l7, .inl (kl7, 10, .inl fib)), (rw0, .inl (krw0, 40, .inl frw)), (rw1, .inl (krw1, 4, .inl fat)), (rw2, .inl (krw2, 4, .inl fen))] := hD
                refine lv_aload_n hx hb dX9_kind_139 rfl (lv_at hl 1 rfl) ?_
                refine va_get (D := (dC, dI)) (ci := 8) (v := .ref l3) (C := RX9) (T := TX9) (N := 35) hx hb hts inB_9 hown hK hP 0 rfl rfl 1 (by decide) (hts _ mw_3_183) (fun _ h9 => h9) rfl dX9_kind_140 ?_
                refine lv_aload_n hx hb dX9_kind_143 rfl (lv_at hl 1 rfl) ?_
                refine va_get (D := (dC, dI)) (ci := 8) (v := .int (nI kn)) (C := RX9) (T := TX9) (N := 35) hx hb hts inB_9 hown hK hP 0 rfl rfl 4 (by decide) (hts _ mw_3_186) (fun _ h9 => h9) rfl dX9_kind_144 ?_
                refine lv_iload_n hx hb dX9_kind_147 rfl (lv_at hl 2 rfl) ?_
                refine va_iast hx hb hK hP hD hS 2 1 rfl rfl (show vp_in (nI kn) 10 from vp_in_nI (by omega) (by omega)) dX9_kind_148 (fun H locs hP hD hS => ?_)
                obtain ⟨f_83, ef_83⟩ : ∃ g : Nat → Int32, g = upd fpm (Int32.toNatClampNeg (nI kn)) (nI j_79) := ⟨_, rfl⟩
                rw [← ef_83] at hP hD
                have ef_83 : f_83 = upd fpm kn (nI j_79) := by rw [ef_83, nI_clamp (by omega)]
                have hP : va_P (dC, dI) vwCl [(h0, .inr (8, [.ref l5, .ref l3, .ref l6, .ref l7, .int (nI kn), .ref l4, .ref l1, .ref l2, .ref rw0, .ref rw1, .ref rw2, .int rm0, w12, w13, w14, w15, w16, w17, w18, w19, w20, w21, w22, w23, w24, w25, w26, w27, w28, w29, w30, w31, w32, w33, w34])), (l5, .inl (kl5, 30, .inl f_82)), (l3, .inl (kl3, 10, .inl f_83)), (l1, .inl (kl1, 10, .inl fll)), (l2, .inl (kl2, 10, .inl fmq)), (l4, .inl (kl4, 100, .inl fln)), (l6, .inl (kl6, 10, .inl fma)), (l7, .inl (kl7, 10, .inl fib)), (rw0, .inl (krw0, 40, .inl frw)), (rw1, .inl (krw1, 4, .inl fat)), (rw2, .inl (krw2, 4, .inl fen))] H := hP
                have hD : va_D A [(h0, .inr (8, [.ref l5, .ref l3, .ref l6, .ref l7, .int (nI kn), .ref l4, .ref l1, .ref l2, .ref rw0, .ref rw1, .ref rw2, .int rm0, w12, w13, w14, w15, w16, w17, w18, w19, w20, w21, w22, w23, w24, w25, w26, w27, w28, w29, w30, w31, w32, w33, w34])), (l5, .inl (kl5, 30, .inl f_82)), (l3, .inl (kl3, 10, .inl f_83)), (l1, .inl (kl1, 10, .inl fll)), (l2, .inl (kl2, 10, .inl fmq)), (l4, .inl (kl4, 100, .inl fln)), (l6, .inl (kl6, 10, .inl fma)), (l7, .inl (kl7, 10, .inl fib)), (rw0, .inl (krw0, 40, .inl frw)), (rw1, .inl (krw1, 4, .inl fat)), (rw2, .inl (krw2, 4, .inl fen))] := hD
                refine lv_aload_n hx hb dX9_kind_149 rfl (lv_at hl 1 rfl) ?_
                refine va_get (D := (dC, dI)) (ci := 8) (v := .ref l6) (C := RX9) (T := TX9) (N := 35) hx hb hts inB_9 hown hK hP 0 rfl rfl 2 (by decide) (hts _ mw_3_184) (fun _ h9 => h9) rfl dX9_kind_150 ?_
                refine lv_aload_n hx hb dX9_kind_153 rfl (lv_at hl 1 rfl) ?_
                refine va_get (D := (dC, dI)) (ci := 8) (v := .int (nI kn)) (C := RX9) (T := TX9) (N := 35) hx hb hts inB_9 hown hK hP 0 rfl rfl 4 (by decide) (hts _ mw_3_186) (fun _ h9 => h9) rfl dX9_kind_154 ?_
                refine lv_iconst (v := 0) hx hb dX9_kind_157 (by decide) ?_
                refine va_iast hx hb hK hP hD hS 6 5 rfl rfl (show vp_in (nI kn) 10 from vp_in_nI (by omega) (by omega)) dX9_kind_158 (fun H locs hP hD hS => ?_)
                obtain ⟨f_84, ef_84⟩ : ∃ g : Nat → Int32, g = upd fma (Int32.toNatClampNeg (nI kn)) 0 := ⟨_, rfl⟩
                rw [← ef_84] at hP hD
                have ef_84 : f_84 = upd fma kn 0 := by rw [ef_84, nI_clamp (by omega)]
                have hP : va_P (dC, dI) vwCl [(h0, .inr (8, [.ref l5, .ref l3, .ref l6, .ref l7, .int (nI kn), .ref l4, .ref l1, .ref l2, .ref rw0, .ref rw1, .ref rw2, .int rm0, w12, w13, w14, w15, w16, w17, w18, w19, w20, w21, w22, w23, w24, w25, w26, w27, w28, w29, w30, w31, w32, w33, w34])), (l5, .inl (kl5, 30, .inl f_82)), (l3, .inl (kl3, 10, .inl f_83)), (l1, .inl (kl1, 10, .inl fll)), (l2, .inl (kl2, 10, .inl fmq)), (l4, .inl (kl4, 100, .inl fln)), (l6, .inl (kl6, 10, .inl f_84)), (l7, .inl (kl7, 10, .inl fib)), (rw0, .inl (krw0, 40, .inl frw)), (rw1, .inl (krw1, 4, .inl fat)), (rw2, .inl (krw2, 4, .inl fen))] H := hP
                have hD : va_D A [(h0, .inr (8, [.ref l5, .ref l3, .ref l6, .ref l7, .int (nI kn), .ref l4, .ref l1, .ref l2, .ref rw0, .ref rw1, .ref rw2, .int rm0, w12, w13, w14, w15, w16, w17, w18, w19, w20, w21, w22, w23, w24, w25, w26, w27, w28, w29, w30, w31, w32, w33, w34])), (l5, .inl (kl5, 30, .inl f_82)), (l3, .inl (kl3, 10, .inl f_83)), (l1, .inl (kl1, 10, .inl fll)), (l2, .inl (kl2, 10, .inl fmq)), (l4, .inl (kl4, 100, .inl fln)), (l6, .inl (kl6, 10, .inl f_84)), (l7, .inl (kl7, 10, .inl fib)), (rw0, .inl (krw0, 40, .inl frw)), (rw1, .inl (krw1, 4, .inl fat)), (rw2, .inl (krw2, 4, .inl fen))] := hD
                refine lv_aload_n hx hb dX9_kind_159 rfl (lv_at hl 1 rfl) ?_
                refine va_get (D := (dC, dI)) (ci := 8) (v := .ref l7) (C := RX9) (T := TX9) (N := 35) hx hb hts inB_9 hown hK hP 0 rfl rfl 3 (by decide) (hts _ mw_3_185) (fun _ h9 => h9) rfl dX9_kind_160 ?_
                refine lv_aload_n hx hb dX9_kind_163 rfl (lv_at hl 1 rfl) ?_
                refine va_get (D := (dC, dI)) (ci := 8) (v := .int (nI kn)) (C := RX9) (T := TX9) (N := 35) hx hb hts inB_9 hown hK hP 0 rfl rfl 4 (by decide) (hts _ mw_3_186) (fun _ h9 => h9) rfl dX9_kind_164 ?_
                refine lv_iconst (v := 0) hx hb dX9_kind_167 (by decide) ?_
                refine va_zast hx hb hK hP hD hS 7 6 rfl rfl (show vp_in (nI kn) 10 from vp_in_nI (by omega) (by omega)) dX9_kind_168 (fun H locs hP hD hS => ?_)
                obtain ⟨f_85, ef_85⟩ : ∃ g : Nat → Int32, g = upd fib (Int32.toNatClampNeg (nI kn)) (vp_nar .boolean 0) := ⟨_, rfl⟩
                rw [← ef_85] at hP hD
                have ef_85 : f_85 = upd fib kn (vp_nar .boolean 0) := by rw [ef_85, nI_clamp (by omega)]
                have hP : va_P (dC, dI) vwCl [(h0, .inr (8, [.ref l5, .ref l3, .ref l6, .ref l7, .int (nI kn), .ref l4, .ref l1, .ref l2, .ref rw0, .ref rw1, .ref rw2, .int rm0, w12, w13, w14, w15, w16, w17, w18, w19, w20, w21, w22, w23, w24, w25, w26, w27, w28, w29, w30, w31, w32, w33, w34])), (l5, .inl (kl5, 30, .inl f_82)), (l3, .inl (kl3, 10, .inl f_83)), (l1, .inl (kl1, 10, .inl fll)), (l2, .inl (kl2, 10, .inl fmq)), (l4, .inl (kl4, 100, .inl fln)), (l6, .inl (kl6, 10, .inl f_84)), (l7, .inl (kl7, 10, .inl f_85)), (rw0, .inl (krw0, 40, .inl frw)), (rw1, .inl (krw1, 4, .inl fat)), (rw2, .inl (krw2, 4, .inl fen))] H := hP
                have hD : va_D A [(h0, .inr (8, [.ref l5, .ref l3, .ref l6, .ref l7, .int (nI kn), .ref l4, .ref l1, .ref l2, .ref rw0, .ref rw1, .ref rw2, .int rm0, w12, w13, w14, w15, w16, w17, w18, w19, w20, w21, w22, w23, w24, w25, w26, w27, w28, w29, w30, w31, w32, w33, w34])), (l5, .inl (kl5, 30, .inl f_82)), (l3, .inl (kl3, 10, .inl f_83)), (l1, .inl (kl1, 10, .inl fll)), (l2, .inl (kl2, 10, .inl fmq)), (l4, .inl (kl4, 100, .inl fln)), (l6, .inl (kl6, 10, .inl f_84)), (l7, .inl (kl7, 10, .inl f_85)), (rw0, .inl (krw0, 40, .inl frw)), (rw1, .inl (krw1, 4, .inl fat)), (rw2, .inl (krw2, 4, .inl fen))] := hD
                refine lv_iconst (v := 0) hx hb dX9_kind_169 (by decide) ?_
                refine lv_istore (lv' := [(6, .int 0), (5, .int 1), (0, .ref h0), (1, .int (nI j_79)), (2, .int n2), (3, .int n3), (4, .int n4)]) hx hb dX9_kind_170 hl (by decide) rfl (fun ls hl => ?_)
                have hprk : PrOk f_82 kn j_79 := pr_3 ef_80 ef_81 ef_82 (by omega) (fun q => by omega) (fun q => by omega) (fun q => by omega)
                have hpp : ∀ i, i < 3 → f_82 (3 * kn + i) = par3 n2 n3 n4 i := p3_get ef_80 ef_81 ef_82
                have key_86 : ∀ (fu : Nat) (k : Nat) (fax : Nat → Int32), (k ≤ j_79) → (fax = upd fma kn (abv fma (par3 n2 n3 n4) k)) → j_79 - k < fu → ∀ (H : Heap) (locs : List Loc), va_P (dC, dI) vwCl [(h0, .inr (8, [.ref l5, .ref l3, .ref l6, .ref l7, .int (nI kn), .ref l4, .ref l1, .ref l2, .ref rw0, .ref rw1, .ref rw2, .int rm0, w12, w13, w14, w15, w16, w17, w18, w19, w20, w21, w22, w23, w24, w25, w26, w27, w28, w29, w30, w31, w32, w33, w34])), (l5, .inl (kl5, 30, .inl f_82)), (l3, .inl (kl3, 10, .inl f_83)), (l1, .inl (kl1, 10, .inl fll)), (l2, .inl (kl2, 10, .inl fmq)), (l4, .inl (kl4, 100, .inl fln)), (l6, .inl (kl6, 10, .inl fax)), (l7, .inl (kl7, 10, .inl f_85)), (rw0, .inl (krw0, 40, .inl frw)), (rw1, .inl (krw1, 4, .inl fat)), (rw2, .inl (krw2, 4, .inl fen))] H → va_D A [(h0, .inr (8, [.ref l5, .ref l3, .ref l6, .ref l7, .int (nI kn), .ref l4, .ref l1, .ref l2, .ref rw0, .ref rw1, .ref rw2, .int rm0, w12, w13, w14, w15, w16, w17, w18, w19, w20, w21, w22, w23, w24, w25, w26, w27, w28, w29, w30, w31, w32, w33, w34])), (l5, .inl (kl5, 30, .inl f_82)), (l3, .inl (kl3, 10, .inl f_83)), (l1, .inl (kl1, 10, .inl fll)), (l2, .inl (kl2, 10, .inl fmq)), (l4, .inl (kl4, 100, .inl fln)), (l6, .inl (kl6, 10, .inl fax)), (l7, .inl (kl7, 10, .inl f_85)), (rw0, .inl (krw0, 40, .inl frw)), (rw1, .inl (krw1, 4, .inl fat)), (rw2, .inl (krw2, 4, .inl fen))] → va_S A s.heap H locs → ∀ (ls : Array Slot), lv_has ls 8 [(6, .int (nI k)), (5, .int 1), (0, .ref h0), (1, .int (nI j_79)), (2, .int n2), (3, .int n3), (4, .int n4)] → W p l e (headSpec (wq yX9_kind cX9_kind 8 (some .int)) ({ frames := 3, cells := 0, slots := 0, locals := 71 })).room s m (([.ref h0, .int (nI j_79), .int n2, .int n3, .int n4] : List Value)).toArray below meth c H locs 0 0 (MQ below (va_Qi (fun (r : Int32) (_ : Unit) => r = F_kind kn (nI j_79) n2 n3 n4) (fun _ t => ∃ (kn2 : Nat) (fpr2 : Nat → Int32) (fpm2 : Nat → Int32) (fma2 : Nat → Int32) (fib2 : Nat → Int32) (frw2 : Nat → Int32) (fat2 : Nat → Int32) (fen2 : Nat → Int32) (fll2 : Nat → Int32) (fmq2 : Nat → Int32) (fln2 : Nat → Int32) (rm2 : Int32), (kn2 = K_next kn (nI j_79) n2 n3 n4) ∧ (fib2 = KB_next kn fib (nI j_79) n2 n3 n4) ∧ (fma2 = KA_next kn fma (nI j_79) n2 n3 n4) ∧ (kn2 ≤ 10) ∧ (BdOk 10 10 fll2) ∧ (LnOk fll2 fln2 kn2) ∧ (BdOk 4 10 fat2) ∧ (BdOk 4 10 fen2) ∧ va_P (dC, dI) vwCl [(h0, .inr (8, [.ref l5, .ref l3, .ref l6, .ref l7, .int (nI kn2), .ref l4, .ref l1, .ref l2, .ref rw0, .ref rw1, .ref rw2, .int rm2, w12, w13, w14, w15, w16, w17, w18, w19, w20, w21, w22, w23, w24, w25, w26, w27, w28, w29, w30, w31, w32, w33, w34])), (l5, .inl (kl5, 30, .inl fpr2)), (l3, .inl (kl3, 10, .inl fpm2)), (l1, .inl (kl1, 10, .inl fll2)), (l2, .inl (kl2, 10, .inl fmq2)), (l4, .inl (kl4, 100, .inl fln2)), (l6, .inl (kl6, 10, .inl fma2)), (l7, .inl (kl7, 10, .inl fib2)), (rw0, .inl (krw0, 40, .inl frw2)), (rw1, .inl (krw1, 4, .inl fat2)), (rw2, .inl (krw2, 4, .inl fen2))] t.heap ∧ va_K (dC, dI) vwCl [(kl5, .int), (kl3, .int), (kl1, .int), (kl2, .int), (kl4, .int), (kl6, .int), (kl7, .boolean), (krw0, .int), (krw1, .int), (krw2, .int)] t ∧ va_D A [(h0, .inr (8, [.ref l5, .ref l3, .ref l6, .ref l7, .int (nI kn2), .ref l4, .ref l1, .ref l2, .ref rw0, .ref rw1, .ref rw2, .int rm2, w12, w13, w14, w15, w16, w17, w18, w19, w20, w21, w22, w23, w24, w25, w26, w27, w28, w29, w30, w31, w32, w33, w34])), (l5, .inl (kl5, 30, .inl fpr2)), (l3, .inl (kl3, 10, .inl fpm2)), (l1, .inl (kl1, 10, .inl fll2)), (l2, .inl (kl2, 10, .inl fmq2)), (l4, .inl (kl4, 100, .inl fln2)), (l6, .inl (kl6, 10, .inl fma2)), (l7, .inl (kl7, 10, .inl fib2)), (rw0, .inl (krw0, 40, .inl frw2)), (rw1, .inl (krw1, 4, .inl fat2)), (rw2, .inl (krw2, 4, .inl fen2))]) A) (([.ref h0, .int (nI j_79), .int n2, .int n3, .int n4] : List Value)).toArray s 0 0 A) (F0 m 172 ls []) := by
                  intro fu
                  induction fu with
                  | zero => intro k fax hk hax hme; exact absurd hme (Nat.not_lt_zero _)
                  | succ fu ih_87 =>
                    intro k fax hk hax hme H locs hP hD hS ls hl
                    refine lv_iload hx hb dX9_kind_172 (lv_at hl 0 rfl) ?_
                    refine lv_iload_n hx hb dX9_kind_174 rfl (lv_at hl 3 rfl) ?_
                    refine lv_icmp_ge (tgt := 224) hx hb dX9_kind_175 (by decide) (fun c_88 => ?_) (fun c_88 => ?_)
                    · have b_89 := gx_ge (X := ((k : Nat) : Int)) (C := ((j_79 : Nat) : Int)) (nI_toInt (by omega)) (nI_toInt (by omega)) c_88
                      refine lv_aload_n hx hb dX9_kind_224 rfl (lv_at hl 2 rfl) ?_
                      refine lv_aload_n hx hb dX9_kind_225 rfl (lv_at hl 2 rfl) ?_
                      refine va_get (D := (dC, dI)) (ci := 8) (v := .int (nI kn)) (C := RX9) (T := TX9) (N := 35) hx hb hts inB_9 hown hK hP 0 rfl rfl 4 (by decide) (hts _ mw_3_186) (fun _ h9 => h9) rfl dX9_kind_226 ?_
                      have hPc := hP.sub (ws' := [(h0, .inr (8, [.ref l5, .ref l3, .ref l6, .ref l7, .int (nI kn), .ref l4, .ref l1, .ref l2, .ref rw0, .ref rw1, .ref rw2, .int rm0, w12, w13, w14, w15, w16, w17, w18, w19, w20, w21, w22, w23, w24, w25, w26, w27, w28, w29, w30, w31, w32, w33, w34])), (l5, .inl (kl5, 30, .inl f_82)), (l3, .inl (kl3, 10, .inl f_83)), (l1, .inl (kl1, 10, .inl fll)), (l2, .inl (kl2, 10, .inl fmq)), (l4, .inl (kl4, 100, .inl fln)), (rw0, .inl (krw0, 40, .inl frw)), (rw1, .inl (krw1, 4, .inl fat)), (rw2, .inl (krw2, 4, .inl fen))]) [0, 1, 2, 3, 4, 5, 8, 9, 10] rfl
                      have hDc := hD.sub (ws' := [(h0, .inr (8, [.ref l5, .ref l3, .ref l6, .ref l7, .int (nI kn), .ref l4, .ref l1, .ref l2, .ref rw0, .ref rw1, .ref rw2, .int rm0, w12, w13, w14, w15, w16, w17, w18, w19, w20, w21, w22, w23, w24, w25, w26, w27, w28, w29, w30, w31, w32, w33, w34])), (l5, .inl (kl5, 30, .inl f_82)), (l3, .inl (kl3, 10, .inl f_83)), (l1, .inl (kl1, 10, .inl fll)), (l2, .inl (kl2, 10, .inl fmq)), (l4, .inl (kl4, 100, .inl fln)), (rw0, .inl (krw0, 40, .inl frw)), (rw1, .inl (krw1, 4, .inl fat)), (rw2, .inl (krw2, 4, .inl fen))]) [0, 1, 2, 3, 4, 5, 8, 9, 10] (by decide) rfl
                      have hKc := hK.sub (tys' := [(kl5, .int), (kl3, .int), (kl1, .int), (kl2, .int), (kl4, .int), (krw0, .int), (krw1, .int), (krw2, .int)]) [0, 1, 2, 3, 4, 7, 8, 9] rfl
                      have hFc := va_free (wc := [(h0, .inr (8, [.ref l5, .ref l3, .ref l6, .ref l7, .int (nI kn), .ref l4, .ref l1, .ref l2, .ref rw0, .ref rw1, .ref rw2, .int rm0, w12, w13, w14, w15, w16, w17, w18, w19, w20, w21, w22, w23, w24, w25, w26, w27, w28, w29, w30, w31, w32, w33, w34])), (l5, .inl (kl5, 30, .inl f_82)), (l3, .inl (kl3, 10, .inl f_83)), (l1, .inl (kl1, 10, .inl fll)), (l2, .inl (kl2, 10, .inl fmq)), (l4, .inl (kl4, 100, .inl fln)), (rw0, .inl (krw0, 40, .inl frw)), (rw1, .inl (krw1, 4, .inl fat)), (rw2, .inl (krw2, 4, .inl fen))]) hD hS hA [0, 1, 2, 3, 4, 5, 8, 9, 10] rfl
                      refine va_callv (va_runV (As := [.int (nI kn)]) (rest := []) ⟨hx, hb, hml, hown, hts⟩ (m_layLine l dC dI H.size h0 l5 l3 (.ref l6) (.ref l7) (.int (nI kn)) l4 l1 l2 rw0 rw1 rw2 rm0 (w12) (w13) (w14) (w15) (w16) (w17) (w18) (w19) (w20) (w21) (w22) (w23) (w24) (w25) (w26) (w27) (w28) (w29) (w30) (w31) (w32) (w33) (w34) kl5 f_82 kl3 f_83 kl1 fll kl2 fmq kl4 fln krw0 frw krw1 fat krw2 fen kn j_79 (by omega) (by rw [ef_83]; exact pk_us) (by omega) hprk hll hln hfat hfen) (cwV 1 hts (gV mw_4_61 mw_4_63 mw_0_16 mw_1_9 mw_4_64) rfl rfl rfl (by decide +kernel) ⟨Nat.le_of_ble_eq_true rfl, Nat.le_of_ble_eq_true rfl⟩) ⟨pcW_blind, va_recv hKc hPc (ci := 8) (q0 := 0) rfl rfl, pcW_at hPc hKc hDc hN⟩ rfl rfl hl.1 rfl (lv_room (Nat.le_of_ble_eq_true rfl)) dX9_kind_229 ⟨Nat.le_of_ble_eq_true rfl, Nat.le_of_ble_eq_true rfl⟩) hS (fun q _ h => hFc q h) hFc (fun u t H1 locs ht hvm hw_90 hB hz1 hk1 hS => ?_)
                      obtain ⟨f_91, f_92, f_93, f_94, f_95, f_96, z_97, p_98, p_99, p_100, p_101, hP1, hK1, hD1⟩ := hB
                      rw [ht] at hP1
                      have hK1 := va_K.moved hvm.symm hK1
                      obtain ⟨hP, hD⟩ := va_join (wr := [(l6, .inl (kl6, 10, .inl fax)), (l7, .inl (kl7, 10, .inl f_85))]) (w1 := [(h0, .inr (8, [.ref l5, .ref l3, .ref l6, .ref l7, .int (nI kn), .ref l4, .ref l1, .ref l2, .ref rw0, .ref rw1, .ref rw2, .int z_97, w12, w13, w14, w15, w16, w17, w18, w19, w20, w21, w22, w23, w24, w25, w26, w27, w28, w29, w30, w31, w32, w33, w34])), (l5, .inl (kl5, 30, .inl f_82)), (l3, .inl (kl3, 10, .inl f_83)), (l1, .inl (kl1, 10, .inl f_94)), (l2, .inl (kl2, 10, .inl f_95)), (l4, .inl (kl4, 100, .inl f_96)), (rw0, .inl (krw0, 40, .inl f_91)), (rw1, .inl (krw1, 4, .inl f_92)), (rw2, .inl (krw2, 4, .inl f_93))]) hP hD [0, 1, 2, 3, 4, 5, 8, 9, 10] [6, 7] rfl rfl (by decide) (by decide) hk1 hFc hP1 hD1
                      have hK := (hK.sub (tys' := [(kl6, .int), (kl7, .boolean)]) [5, 6] rfl).app hK1
                      clear hz1 hk1 hPc hDc hKc hFc
                      generalize H1 = H at hP hS ⊢
                      have hK : va_K (dC, dI) vwCl [(kl6, .int), (kl7, .boolean), (kl5, .int), (kl3, .int), (kl1, .int), (kl2, .int), (kl4, .int), (krw0, .int), (krw1, .int), (krw2, .int)] s := hK
                      have hP : va_P (dC, dI) vwCl [(l6, .inl (kl6, 10, .inl fax)), (l7, .inl (kl7, 10, .inl f_85)), (h0, .inr (8, [.ref l5, .ref l3, .ref l6, .ref l7, .int (nI kn), .ref l4, .ref l1, .ref l2, .ref rw0, .ref rw1, .ref rw2, .int z_97, w12, w13, w14, w15, w16, w17, w18, w19, w20, w21, w22, w23, w24, w25, w26, w27, w28, w29, w30, w31, w32, w33, w34])), (l5, .inl (kl5, 30, .inl f_82)), (l3, .inl (kl3, 10, .inl f_83)), (l1, .inl (kl1, 10, .inl f_94)), (l2, .inl (kl2, 10, .inl f_95)), (l4, .inl (kl4, 100, .inl f_96)), (rw0, .inl (krw0, 40, .inl f_91)), (rw1, .inl (krw1, 4, .inl f_92)), (rw2, .inl (krw2, 4, .inl f_93))] H := hP
                      have hD : va_D A [(l6, .inl (kl6, 10, .inl fax)), (l7, .inl (kl7, 10, .inl f_85)), (h0, .inr (8, [.ref l5, .ref l3, .ref l6, .ref l7, .int (nI kn), .ref l4, .ref l1, .ref l2, .ref rw0, .ref rw1, .ref rw2, .int z_97, w12, w13, w14, w15, w16, w17, w18, w19, w20, w21, w22, w23, w24, w25, w26, w27, w28, w29, w30, w31, w32, w33, w34])), (l5, .inl (kl5, 30, .inl f_82)), (l3, .inl (kl3, 10, .inl f_83)), (l1, .inl (kl1, 10, .inl f_94)), (l2, .inl (kl2, 10, .inl f_95)), (l4, .inl (kl4, 100, .inl f_96)), (rw0, .inl (krw0, 40, .inl f_91)), (rw1, .inl (krw1, 4, .inl f_92)), (rw2, .inl (krw2, 4, .inl f_93))] := hD
                      refine lv_aload_n hx hb dX9_kind_232 rfl (lv_at hl 2 rfl) ?_
                      refine lv_dup hx hb dX9_kind_233 rfl ?_
                      refine va_get (D := (dC, dI)) (ci := 8) (v := .int (nI kn)) (C := RX9) (T := TX9) (N := 35) hx hb hts inB_9 hown hK hP 2 rfl rfl 4 (by decide) (hts _ mw_3_186) (fun _ h9 => h9) rfl dX9_kind_234 ?_
                      refine lv_iconst (v := 1) hx hb dX9_kind_237 (by decide) ?_
                      refine lv_iadd hx hb dX9_kind_238 ?_
                      refine hx_top (y := (nI (kn + 1))) (nI_add kn 1) ?_
                      refine va_put (D := (dC, dI)) (ci := 8) (v := .int (nI (kn + 1))) (ty := .int) (C := RX9) (T := TX9) (N := 35) hx hb hts inB_9 tyX9 tyX9_ok nmX9 hown hK hP hD hS 2 rfl rfl 4 (by decide) (hts _ mw_3_186) (fun _ h9 => h9) rfl (by decide +kernel) rfl rfl (Nat.le_of_ble_eq_true rfl) dX9_kind_239 (fun H locs hP hD hS => ?_)
                      have hP : va_P (dC, dI) vwCl [(l6, .inl (kl6, 10, .inl fax)), (l7, .inl (kl7, 10, .inl f_85)), (h0, .inr (8, [.ref l5, .ref l3, .ref l6, .ref l7, .int (nI (kn + 1)), .ref l4, .ref l1, .ref l2, .ref rw0, .ref rw1, .ref rw2, .int z_97, w12, w13, w14, w15, w16, w17, w18, w19, w20, w21, w22, w23, w24, w25, w26, w27, w28, w29, w30, w31, w32, w33, w34])), (l5, .inl (kl5, 30, .inl f_82)), (l3, .inl (kl3, 10, .inl f_83)), (l1, .inl (kl1, 10, .inl f_94)), (l2, .inl (kl2, 10, .inl f_95)), (l4, .inl (kl4, 100, .inl f_96)), (rw0, .inl (krw0, 40, .inl f_91)), (rw1, .inl (krw1, 4, .inl f_92)), (rw2, .inl (krw2, 4, .inl f_93))] H := hP
                      have hD : va_D A [(l6, .inl (kl6, 10, .inl fax)), (l7, .inl (kl7, 10, .inl f_85)), (h0, .inr (8, [.ref l5, .ref l3, .ref l6, .ref l7, .int (nI (kn + 1)), .ref l4, .ref l1, .ref l2, .ref rw0, .ref rw1, .ref rw2, .int z_97, w12, w13, w14, w15, w16, w17, w18, w19, w20, w21, w22, w23, w24, w25, w26, w27, w28, w29, w30, w31, w32, w33, w34])), (l5, .inl (kl5, 30, .inl f_82)), (l3, .inl (kl3, 10, .inl f_83)), (l1, .inl (kl1, 10, .inl f_94)), (l2, .inl (kl2, 10, .inl f_95)), (l4, .inl (kl4, 100, .inl f_96)), (rw0, .inl (krw0, 40, .inl f_91)), (rw1, .inl (krw1, 4, .inl f_92)), (rw2, .inl (krw2, 4, .inl f_93))] := hD
                      refine lv_aload_n hx hb dX9_kind_242 rfl (lv_at hl 2 rfl) ?_
                      refine va_get (D := (dC, dI)) (ci := 8) (v := .int (nI (kn + 1))) (C := RX9) (T := TX9) (N := 35) hx hb hts inB_9 hown hK hP 2 rfl rfl 4 (by decide) (hts _ mw_3_186) (fun _ h9 => h9) rfl dX9_kind_243 ?_
                      refine lv_iconst (v := 1) hx hb dX9_kind_246 (by decide) ?_
                      refine lv_isub hx hb dX9_kind_247 ?_
                      refine hx_top (y := (nI ((kn + 1) - 1))) (pk_sub (a := (kn + 1)) (b := 1) (by omega)) ?_
                      have hP9 := hP.sub (ws' := [(h0, .inr (8, [.ref l5, .ref l3, .ref l6, .ref l7, .int (nI (kn + 1)), .ref l4, .ref l1, .ref l2, .ref rw0, .ref rw1, .ref rw2, .int z_97, w12, w13, w14, w15, w16, w17, w18, w19, w20, w21, w22, w23, w24, w25, w26, w27, w28, w29, w30, w31, w32, w33, w34])), (l5, .inl (kl5, 30, .inl f_82)), (l3, .inl (kl3, 10, .inl f_83)), (l1, .inl (kl1, 10, .inl f_94)), (l2, .inl (kl2, 10, .inl f_95)), (l4, .inl (kl4, 100, .inl f_96)), (l6, .inl (kl6, 10, .inl fax)), (l7, .inl (kl7, 10, .inl f_85)), (rw0, .inl (krw0, 40, .inl f_91)), (rw1, .inl (krw1, 4, .inl f_92)), (rw2, .inl (krw2, 4, .inl f_93))]) [2, 3, 4, 5, 6, 7, 0, 1, 8, 9, 10] rfl
                      have hD9 := hD.sub (ws' := [(h0, .inr (8, [.ref l5, .ref l3, .ref l6, .ref l7, .int (nI (kn + 1)), .ref l4, .ref l1, .ref l2, .ref rw0, .ref rw1, .ref rw2, .int z_97, w12, w13, w14, w15, w16, w17, w18, w19, w20, w21, w22, w23, w24, w25, w26, w27, w28, w29, w30, w31, w32, w33, w34])), (l5, .inl (kl5, 30, .inl f_82)), (l3, .inl (kl3, 10, .inl f_83)), (l1, .inl (kl1, 10, .inl f_94)), (l2, .inl (kl2, 10, .inl f_95)), (l4, .inl (kl4, 100, .inl f_96)), (l6, .inl (kl6, 10, .inl fax)), (l7, .inl (kl7, 10, .inl f_85)), (rw0, .inl (krw0, 40, .inl f_91)), (rw1, .inl (krw1, 4, .inl f_92)), (rw2, .inl (krw2, 4, .inl f_93))]) [2, 3, 4, 5, 6, 7, 0, 1, 8, 9, 10] (by decide) rfl
                      have hK9 := hK.sub (tys' := [(kl5, .int), (kl3, .int), (kl1, .int), (kl2, .int), (kl4, .int), (kl6, .int), (kl7, .boolean), (krw0, .int), (krw1, .int), (krw2, .int)]) [2, 3, 4, 5, 6, 0, 1, 7, 8, 9] rfl
                      exact W.iret (v := (nI ((kn + 1) - 1))) hx hb hr (fun t ht hW => ⟨⟨(nI ((kn + 1) - 1)), (), rfl, (by (unfold F_kind; repeat' split) <;> first | rfl | (exfalso; omega)), (kn + 1), f_82, f_83, fax, f_85, f_91, f_92, f_93, f_94, f_95, f_96, z_97, (K_yes (show nI kn = F_kind kn (nI j_79) n2 n3 n4 from (by (unfold F_kind; repeat' split) <;> first | rfl | (exfalso; omega))) (by omega)), (KB_yes (show nI kn = F_kind kn (nI j_79) n2 n3 n4 from (by (unfold F_kind; repeat' split) <;> first | rfl | (exfalso; omega))) (by omega) ef_85), (KA_yes (m := j_79) (show nI kn = F_kind kn (nI j_79) n2 n3 n4 from (by (unfold F_kind; repeat' split) <;> first | rfl | (exfalso; omega))) (by omega) (nI_clamp (by omega)) (by rw [hax, show k = j_79 from (by omega)])), (by omega), p_98, p_99, p_100, p_101, by rw [ht]; exact hP9, va_K.moved hW.alike hK9, hD9⟩, hS.F ht⟩) hS.2.2 dX9_kind_248
                    · have b_89 := gn_ge (X := ((k : Nat) : Int)) (C := ((j_79 : Nat) : Int)) (nI_toInt (by omega)) (nI_toInt (by omega)) c_88
                      refine lv_aload_n hx hb dX9_kind_178 rfl (lv_at hl 2 rfl) ?_
                      refine va_get (D := (dC, dI)) (ci := 8) (v := .ref l5) (C := RX9) (T := TX9) (N := 35) hx hb hts inB_9 hown hK hP 0 rfl rfl 0 (by decide) (hts _ mw_3_182) (fun _ h9 => h9) rfl dX9_kind_179 ?_
                      refine lv_iconst (v := 3) hx hb dX9_kind_182 (by decide) ?_
                      refine lv_aload_n hx hb dX9_kind_183 rfl (lv_at hl 2 rfl) ?_
                      refine va_get (D := (dC, dI)) (ci := 8) (v := .int (nI kn)) (C := RX9) (T := TX9) (N := 35) hx hb hts inB_9 hown hK hP 0 rfl rfl 4 (by decide) (hts _ mw_3_186) (fun _ h9 => h9) rfl dX9_kind_184 ?_
                      refine lv_imul hx hb dX9_kind_187 ?_
                      refine hx_top (y := (nI (3 * kn))) (pk_mul 3 kn) ?_
                      refine lv_iload hx hb dX9_kind_188 (lv_at hl 0 rfl) ?_
                      refine lv_iadd hx hb dX9_kind_190 ?_
                      refine hx_top (y := (nI ((3 * kn) + k))) (nI_add (3 * kn) k) ?_
                      refine va_iald hx hb hK hP 1 0 rfl rfl (show vp_in (nI ((3 * kn) + k)) 30 from vp_in_nI (by omega) (by omega)) dX9_kind_191 ?_
                      refine hx_top (y := (f_82 ((3 * kn) + k))) (congrArg _ (nI_clamp (by omega))) ?_
                      obtain ⟨n_102, hn_102, en_102⟩ := hprk k (by omega)
                      refine hx_top (y := (nI n_102)) en_102 ?_
                      refine lv_istore (lv' := [(7, .int (nI n_102)), (6, .int (nI k)), (5, .int 1), (0, .ref h0), (1, .int (nI j_79)), (2, .int n2), (3, .int n3), (4, .int n4)]) hx hb dX9_kind_192 hl (by decide) rfl (fun ls hl => ?_)
                      refine lv_aload_n hx hb dX9_kind_194 rfl (lv_at hl 3 rfl) ?_
                      refine va_get (D := (dC, dI)) (ci := 8) (v := .ref l6) (C := RX9) (T := TX9) (N := 35) hx hb hts inB_9 hown hK hP 0 rfl rfl 2 (by decide) (hts _ mw_3_184) (fun _ h9 => h9) rfl dX9_kind_195 ?_
                      refine lv_aload_n hx hb dX9_kind_198 rfl (lv_at hl 3 rfl) ?_
                      refine va_get (D := (dC, dI)) (ci := 8) (v := .int (nI kn)) (C := RX9) (T := TX9) (N := 35) hx hb hts inB_9 hown hK hP 0 rfl rfl 4 (by decide) (hts _ mw_3_186) (fun _ h9 => h9) rfl dX9_kind_199 ?_
                      refine lv_dup2_11 hx hb dX9_kind_202 rfl rfl ?_
                      refine va_iald hx hb hK hP 6 5 rfl rfl (show vp_in (nI kn) 10 from vp_in_nI (by omega) (by omega)) dX9_kind_203 ?_
                      refine hx_top (y := (fax kn)) (congrArg _ (nI_clamp (by omega))) ?_
                      refine lv_aload_n hx hb dX9_kind_204 rfl (lv_at hl 3 rfl) ?_
                      refine va_get (D := (dC, dI)) (ci := 8) (v := .ref l6) (C := RX9) (T := TX9) (N := 35) hx hb hts inB_9 hown hK hP 0 rfl rfl 2 (by decide) (hts _ mw_3_184) (fun _ h9 => h9) rfl dX9_kind_205 ?_
                      refine lv_iload hx hb dX9_kind_208 (lv_at hl 0 rfl) ?_
                      refine va_iald hx hb hK hP 6 5 rfl rfl (show vp_in (nI n_102) 10 from vp_in_nI (by omega) (by omega)) dX9_kind_210 ?_
                      refine hx_top (y := (fax n_102)) (congrArg _ (nI_clamp (by omega))) ?_
                      refine lv_iconst (v := 1) hx hb dX9_kind_211 (by decide) ?_
                      refine lv_iload hx hb dX9_kind_212 (lv_at hl 0 rfl) ?_
                      refine lv_ishl hx hb dX9_kind_214 ?_
                      refine lv_ior hx hb dX9_kind_215 ?_
                      refine lv_ior hx hb dX9_kind_216 ?_
                      refine va_iast hx hb hK hP hD hS 6 5 rfl rfl (show vp_in (nI kn) 10 from vp_in_nI (by omega) (by omega)) dX9_kind_217 (fun H locs hP hD hS => ?_)
                      obtain ⟨f_103, ef_103⟩ : ∃ g : Nat → Int32, g = upd fax (Int32.toNatClampNeg (nI kn)) ((fax kn) ||| ((fax n_102) ||| (1 <<< ((nI n_102) &&& 31)))) := ⟨_, rfl⟩
                      rw [← ef_103] at hP hD
                      have ef_103 : f_103 = upd fax kn ((fax kn) ||| ((fax n_102) ||| (1 <<< ((nI n_102) &&& 31)))) := by rw [ef_103, nI_clamp (by omega)]
                      have hP : va_P (dC, dI) vwCl [(h0, .inr (8, [.ref l5, .ref l3, .ref l6, .ref l7, .int (nI kn), .ref l4, .ref l1, .ref l2, .ref rw0, .ref rw1, .ref rw2, .int rm0, w12, w13, w14, w15, w16, w17, w18, w19, w20, w21, w22, w23, w24, w25, w26, w27, w28, w29, w30, w31, w32, w33, w34])), (l5, .inl (kl5, 30, .inl f_82)), (l3, .inl (kl3, 10, .inl f_83)), (l1, .inl (kl1, 10, .inl fll)), (l2, .inl (kl2, 10, .inl fmq)), (l4, .inl (kl4, 100, .inl fln)), (l6, .inl (kl6, 10, .inl f_103)), (l7, .inl (kl7, 10, .inl f_85)), (rw0, .inl (krw0, 40, .inl frw)), (rw1, .inl (krw1, 4, .inl fat)), (rw2, .inl (krw2, 4, .inl fen))] H := hP
                      have hD : va_D A [(h0, .inr (8, [.ref l5, .ref l3, .ref l6, .ref l7, .int (nI kn), .ref l4, .ref l1, .ref l2, .ref rw0, .ref rw1, .ref rw2, .int rm0, w12, w13, w14, w15, w16, w17, w18, w19, w20, w21, w22, w23, w24, w25, w26, w27, w28, w29, w30, w31, w32, w33, w34])), (l5, .inl (kl5, 30, .inl f_82)), (l3, .inl (kl3, 10, .inl f_83)), (l1, .inl (kl1, 10, .inl fll)), (l2, .inl (kl2, 10, .inl fmq)), (l4, .inl (kl4, 100, .inl fln)), (l6, .inl (kl6, 10, .inl f_103)), (l7, .inl (kl7, 10, .inl f_85)), (rw0, .inl (krw0, 40, .inl frw)), (rw1, .inl (krw1, 4, .inl fat)), (rw2, .inl (krw2, 4, .inl fen))] := hD
                      refine lv_iinc (v := (nI (k + 1))) (lv' := [(6, .int (nI (k + 1))), (7, .int (nI n_102)), (5, .int 1), (0, .ref h0), (1, .int (nI j_79)), (2, .int n2), (3, .int n3), (4, .int n4)]) hx hb dX9_kind_218 hl (k := 1) rfl (nI_add k 1) (by decide) rfl (fun ls hl => ?_)
                      refine lv_goto (tgt := 172) hx hb dX9_kind_221 (by decide) ?_
                      exact ih_87 (k + 1) f_103 (by omega) (ab_stepM hax ((hpp k (by omega)).symm.trans en_102) (by omega) (by omega) ef_103) (by omega) _ _ hP hD hS ls (lv_sub hl [0, 2, 3, 4, 5, 6, 7] rfl)
                exact key_86 ((j_79 - 0) + 1) 0 f_84 (by omega) ef_84 (Nat.lt_succ_self _) _ _ hP hD hS ls (lv_sub hl [0, 1, 2, 3, 4, 5, 6] rfl)
              · have b_78 := gn_ne (X := ((kn : Nat) : Int)) (C := 10) (nI_toInt (by omega)) (by decide) c_77
                refine lv_bipush (v := (-4)) hx hb dX9_kind_95 (by decide) ?_
                have hP9 := hP.sub (ws' := [(h0, .inr (8, [.ref l5, .ref l3, .ref l6, .ref l7, .int (nI kn), .ref l4, .ref l1, .ref l2, .ref rw0, .ref rw1, .ref rw2, .int rm0, w12, w13, w14, w15, w16, w17, w18, w19, w20, w21, w22, w23, w24, w25, w26, w27, w28, w29, w30, w31, w32, w33, w34])), (l5, .inl (kl5, 30, .inl fpr)), (l3, .inl (kl3, 10, .inl fpm)), (l1, .inl (kl1, 10, .inl fll)), (l2, .inl (kl2, 10, .inl fmq)), (l4, .inl (kl4, 100, .inl fln)), (l6, .inl (kl6, 10, .inl fma)), (l7, .inl (kl7, 10, .inl fib)), (rw0, .inl (krw0, 40, .inl frw)), (rw1, .inl (krw1, 4, .inl fat)), (rw2, .inl (krw2, 4, .inl fen))]) [0, 1, 2, 3, 4, 5, 6, 7, 8, 9, 10] rfl
                have hD9 := hD.sub (ws' := [(h0, .inr (8, [.ref l5, .ref l3, .ref l6, .ref l7, .int (nI kn), .ref l4, .ref l1, .ref l2, .ref rw0, .ref rw1, .ref rw2, .int rm0, w12, w13, w14, w15, w16, w17, w18, w19, w20, w21, w22, w23, w24, w25, w26, w27, w28, w29, w30, w31, w32, w33, w34])), (l5, .inl (kl5, 30, .inl fpr)), (l3, .inl (kl3, 10, .inl fpm)), (l1, .inl (kl1, 10, .inl fll)), (l2, .inl (kl2, 10, .inl fmq)), (l4, .inl (kl4, 100, .inl fln)), (l6, .inl (kl6, 10, .inl fma)), (l7, .inl (kl7, 10, .inl fib)), (rw0, .inl (krw0, 40, .inl frw)), (rw1, .inl (krw1, 4, .inl fat)), (rw2, .inl (krw2, 4, .inl fen))]) [0, 1, 2, 3, 4, 5, 6, 7, 8, 9, 10] (by decide) rfl
                have hK9 := hK.sub (tys' := [(kl5, .int), (kl3, .int), (kl1, .int), (kl2, .int), (kl4, .int), (kl6, .int), (kl7, .boolean), (krw0, .int), (krw1, .int), (krw2, .int)]) [0, 1, 2, 3, 4, 5, 6, 7, 8, 9] rfl
                exact W.iret (v := (-4)) hx hb hr (fun t ht hW => ⟨⟨(-4), (), rfl, (by (unfold F_kind; repeat' split) <;> first | rfl | (exfalso; omega)), kn, fpr, fpm, fma, fib, frw, fat, fen, fll, fmq, fln, rm0, (K_no (v := (-4)) (show ((-4) : Int32) = F_kind kn n1 n2 n3 n4 from (by (unfold F_kind; repeat' split) <;> first | rfl | (exfalso; omega))) (by decide)), (KB_no (v := (-4)) (show ((-4) : Int32) = F_kind kn n1 n2 n3 n4 from (by (unfold F_kind; repeat' split) <;> first | rfl | (exfalso; omega))) (by decide)), (KA_no (v := (-4)) (show ((-4) : Int32) = F_kind kn n1 n2 n3 n4 from (by (unfold F_kind; repeat' split) <;> first | rfl | (exfalso; omega))) (by decide)), hkn, hll, hln, hfat, hfen, by rw [ht]; exact hP9, va_K.moved hW.alike hK9, hD9⟩, hS.F ht⟩) hS.2.2 dX9_kind_97
            · have b_74 := gn_lt (X := (Int32.toInt n1)) (C := 3) rfl (by decide) c_73
              refine lv_aload_n hx hb dX9_kind_36 rfl (lv_at hl 0 rfl) ?_
              refine lv_iload hx hb dX9_kind_37 (lv_at hl 4 rfl) ?_
              have hPc := hP.sub (ws' := [(h0, .inr (8, [.ref l5, .ref l3, .ref l6, .ref l7, .int (nI kn), .ref l4, .ref l1, .ref l2, .ref rw0, .ref rw1, .ref rw2, .int rm0, w12, w13, w14, w15, w16, w17, w18, w19, w20, w21, w22, w23, w24, w25, w26, w27, w28, w29, w30, w31, w32, w33, w34]))]) [0] rfl
              have hDc := hD.sub (ws' := [(h0, .inr (8, [.ref l5, .ref l3, .ref l6, .ref l7, .int (nI kn), .ref l4, .ref l1, .ref l2, .ref rw0, .ref rw1, .ref rw2, .int rm0, w12, w13, w14, w15, w16, w17, w18, w19, w20, w21, w22, w23, w24, w25, w26, w27, w28, w29, w30, w31, w32, w33, w34]))]) [0] (by decide) rfl
              have hKc := hK.sub (tys' := []) [] rfl
              refine va_calli (va_runV (As := [.int n4]) (rest := []) ⟨hx, hb, hml, hown, hts⟩ (m_isKind l dC dI H.size h0 (.ref l5) (.ref l3) (.ref l6) (.ref l7) kn (.ref l4) (.ref l1) (.ref l2) (.ref rw0) (.ref rw1) (.ref rw2) (.int rm0) (w12) (w13) (w14) (w15) (w16) (w17) (w18) (w19) (w20) (w21) (w22) (w23) (w24) (w25) (w26) (w27) (w28) (w29) (w30) (w31) (w32) (w33) (w34) n4 hkn) (cwV 1 hts (gV mw_4_53 mw_4_55 mw_0_15 mw_1_9 mw_4_56) rfl rfl rfl (by decide +kernel) ⟨Nat.le_of_ble_eq_true rfl, Nat.le_of_ble_eq_true rfl⟩) ⟨pcW_blind, va_recv hKc hPc (ci := 8) (q0 := 0) rfl rfl, pcW_at hPc hKc hDc hN⟩ rfl rfl hl.1 rfl (lv_room (Nat.le_of_ble_eq_true rfl)) dX9_kind_39 ⟨Nat.le_of_ble_eq_true rfl, Nat.le_of_ble_eq_true rfl⟩) hS (fun q h1 h2 => absurd h2 (Nat.not_le.mpr h1)) (fun q h => hA q (Nat.le_trans hS.1 h)) (fun r_104 u t H1 locs ht hvm hw_104 hB hz1 hk1 hS => ?_)
              have hP := keepP hP hk1
              clear hz1 hk1 hB ht hvm hPc hDc hKc
              generalize H1 = H at hP hS ⊢
              rcases fx_bool hw_104 with ⟨rfl, b_105⟩ | ⟨rfl, b_105⟩
              · skip
                refine lv_if_eq (tgt := 61) hx hb dX9_kind_42 (by decide) (fun h => absurd h (by decide)) (fun _ => ?_)
                refine lv_iload hx hb dX9_kind_45 (lv_at hl 4 rfl) ?_
                refine lv_iload_n hx hb dX9_kind_47 rfl (lv_at hl 2 rfl) ?_
                refine lv_icmp_eq (tgt := 61) hx hb dX9_kind_48 (by decide) (fun c_106 => ?_) (fun c_106 => ?_)
                · have b_107 := gx_eq (X := (Int32.toInt n4)) (C := (Int32.toInt n2)) rfl rfl c_106
                  refine lv_iconst (v := 0) hx hb dX9_kind_61 (by decide) ?_
                  refine lv_istore (lv' := [(5, .int 0), (0, .ref h0), (1, .int n1), (2, .int n2), (3, .int n3), (4, .int n4)]) hx hb dX9_kind_62 hl (by decide) rfl (fun ls hl => ?_)
                  refine lv_iload hx hb dX9_kind_64 (lv_at hl 0 rfl) ?_
                  refine lv_if_ne (tgt := 71) hx hb dX9_kind_66 (by decide) (fun h => absurd h (by decide)) (fun _ => ?_)
                  refine lv_iconst (v := (-1)) hx hb dX9_kind_69 (by decide) ?_
                  have hP9 := hP.sub (ws' := [(h0, .inr (8, [.ref l5, .ref l3, .ref l6, .ref l7, .int (nI kn), .ref l4, .ref l1, .ref l2, .ref rw0, .ref rw1, .ref rw2, .int rm0, w12, w13, w14, w15, w16, w17, w18, w19, w20, w21, w22, w23, w24, w25, w26, w27, w28, w29, w30, w31, w32, w33, w34])), (l5, .inl (kl5, 30, .inl fpr)), (l3, .inl (kl3, 10, .inl fpm)), (l1, .inl (kl1, 10, .inl fll)), (l2, .inl (kl2, 10, .inl fmq)), (l4, .inl (kl4, 100, .inl fln)), (l6, .inl (kl6, 10, .inl fma)), (l7, .inl (kl7, 10, .inl fib)), (rw0, .inl (krw0, 40, .inl frw)), (rw1, .inl (krw1, 4, .inl fat)), (rw2, .inl (krw2, 4, .inl fen))]) [0, 1, 2, 3, 4, 5, 6, 7, 8, 9, 10] rfl
                  have hD9 := hD.sub (ws' := [(h0, .inr (8, [.ref l5, .ref l3, .ref l6, .ref l7, .int (nI kn), .ref l4, .ref l1, .ref l2, .ref rw0, .ref rw1, .ref rw2, .int rm0, w12, w13, w14, w15, w16, w17, w18, w19, w20, w21, w22, w23, w24, w25, w26, w27, w28, w29, w30, w31, w32, w33, w34])), (l5, .inl (kl5, 30, .inl fpr)), (l3, .inl (kl3, 10, .inl fpm)), (l1, .inl (kl1, 10, .inl fll)), (l2, .inl (kl2, 10, .inl fmq)), (l4, .inl (kl4, 100, .inl fln)), (l6, .inl (kl6, 10, .inl fma)), (l7, .inl (kl7, 10, .inl fib)), (rw0, .inl (krw0, 40, .inl frw)), (rw1, .inl (krw1, 4, .inl fat)), (rw2, .inl (krw2, 4, .inl fen))]) [0, 1, 2, 3, 4, 5, 6, 7, 8, 9, 10] (by decide) rfl
                  have hK9 := hK.sub (tys' := [(kl5, .int), (kl3, .int), (kl1, .int), (kl2, .int), (kl4, .int), (kl6, .int), (kl7, .boolean), (krw0, .int), (krw1, .int), (krw2, .int)]) [0, 1, 2, 3, 4, 5, 6, 7, 8, 9] rfl
                  exact W.iret (v := (-1)) hx hb hr (fun t ht hW => ⟨⟨(-1), (), rfl, (by (unfold F_kind; repeat' split) <;> first | rfl | (exfalso; omega)), kn, fpr, fpm, fma, fib, frw, fat, fen, fll, fmq, fln, rm0, (K_no (v := (-1)) (show ((-1) : Int32) = F_kind kn n1 n2 n3 n4 from (by (unfold F_kind; repeat' split) <;> first | rfl | (exfalso; omega))) (by decide)), (KB_no (v := (-1)) (show ((-1) : Int32) = F_kind kn n1 n2 n3 n4 from (by (unfold F_kind; repeat' split) <;> first | rfl | (exfalso; omega))) (by decide)), (KA_no (v := (-1)) (show ((-1) : Int32) = F_kind kn n1 n2 n3 n4 from (by (unfold F_kind; repeat' split) <;> first | rfl | (exfalso; omega))) (by decide)), hkn, hll, hln, hfat, hfen, by rw [ht]; exact hP9, va_K.moved hW.alike hK9, hD9⟩, hS.F ht⟩) hS.2.2 dX9_kind_70
                · have b_107 := gn_eq (X := (Int32.toInt n4)) (C := (Int32.toInt n2)) rfl rfl c_106
                  refine lv_iload hx hb dX9_kind_51 (lv_at hl 4 rfl) ?_
                  refine lv_iload_n hx hb dX9_kind_53 rfl (lv_at hl 3 rfl) ?_
                  refine lv_icmp_eq (tgt := 61) hx hb dX9_kind_54 (by decide) (fun c_108 => ?_) (fun c_108 => ?_)
                  · have b_109 := gx_eq (X := (Int32.toInt n4)) (C := (Int32.toInt n3)) rfl rfl c_108
                    refine lv_iconst (v := 0) hx hb dX9_kind_61 (by decide) ?_
                    refine lv_istore (lv' := [(5, .int 0), (0, .ref h0), (1, .int n1), (2, .int n2), (3, .int n3), (4, .int n4)]) hx hb dX9_kind_62 hl (by decide) rfl (fun ls hl => ?_)
                    refine lv_iload hx hb dX9_kind_64 (lv_at hl 0 rfl) ?_
                    refine lv_if_ne (tgt := 71) hx hb dX9_kind_66 (by decide) (fun h => absurd h (by decide)) (fun _ => ?_)
                    refine lv_iconst (v := (-1)) hx hb dX9_kind_69 (by decide) ?_
                    have hP9 := hP.sub (ws' := [(h0, .inr (8, [.ref l5, .ref l3, .ref l6, .ref l7, .int (nI kn), .ref l4, .ref l1, .ref l2, .ref rw0, .ref rw1, .ref rw2, .int rm0, w12, w13, w14, w15, w16, w17, w18, w19, w20, w21, w22, w23, w24, w25, w26, w27, w28, w29, w30, w31, w32, w33, w34])), (l5, .inl (kl5, 30, .inl fpr)), (l3, .inl (kl3, 10, .inl fpm)), (l1, .inl (kl1, 10, .inl fll)), (l2, .inl (kl2, 10, .inl fmq)), (l4, .inl (kl4, 100, .inl fln)), (l6, .inl (kl6, 10, .inl fma)), (l7, .inl (kl7, 10, .inl fib)), (rw0, .inl (krw0, 40, .inl frw)), (rw1, .inl (krw1, 4, .inl fat)), (rw2, .inl (krw2, 4, .inl fen))]) [0, 1, 2, 3, 4, 5, 6, 7, 8, 9, 10] rfl
                    have hD9 := hD.sub (ws' := [(h0, .inr (8, [.ref l5, .ref l3, .ref l6, .ref l7, .int (nI kn), .ref l4, .ref l1, .ref l2, .ref rw0, .ref rw1, .ref rw2, .int rm0, w12, w13, w14, w15, w16, w17, w18, w19, w20, w21, w22, w23, w24, w25, w26, w27, w28, w29, w30, w31, w32, w33, w34])), (l5, .inl (kl5, 30, .inl fpr)), (l3, .inl (kl3, 10, .inl fpm)), (l1, .inl (kl1, 10, .inl fll)), (l2, .inl (kl2, 10, .inl fmq)), (l4, .inl (kl4, 100, .inl fln)), (l6, .inl (kl6, 10, .inl fma)), (l7, .inl (kl7, 10, .inl fib)), (rw0, .inl (krw0, 40, .inl frw)), (rw1, .inl (krw1, 4, .inl fat)), (rw2, .inl (krw2, 4, .inl fen))]) [0, 1, 2, 3, 4, 5, 6, 7, 8, 9, 10] (by decide) rfl
                    have hK9 := hK.sub (tys' := [(kl5, .int), (kl3, .int), (kl1, .int), (kl2, .int), (kl4, .int), (kl6, .int), (kl7, .boolean), (krw0, .int), (krw1, .int), (krw2, .int)]) [0, 1, 2, 3, 4, 5, 6, 7, 8, 9] rfl
                    exact W.iret (v := (-1)) hx hb hr (fun t ht hW => ⟨⟨(-1), (), rfl, (by (unfold F_kind; repeat' split) <;> first | rfl | (exfalso; omega)), kn, fpr, fpm, fma, fib, frw, fat, fen, fll, fmq, fln, rm0, (K_no (v := (-1)) (show ((-1) : Int32) = F_kind kn n1 n2 n3 n4 from (by (unfold F_kind; repeat' split) <;> first | rfl | (exfalso; omega))) (by decide)), (KB_no (v := (-1)) (show ((-1) : Int32) = F_kind kn n1 n2 n3 n4 from (by (unfold F_kind; repeat' split) <;> first | rfl | (exfalso; omega))) (by decide)), (KA_no (v := (-1)) (show ((-1) : Int32) = F_kind kn n1 n2 n3 n4 from (by (unfold F_kind; repeat' split) <;> first | rfl | (exfalso; omega))) (by decide)), hkn, hll, hln, hfat, hfen, by rw [ht]; exact hP9, va_K.moved hW.alike hK9, hD9⟩, hS.F ht⟩) hS.2.2 dX9_kind_70
                  · have b_109 := gn_eq (X := (Int32.toInt n4)) (C := (Int32.toInt n3)) rfl rfl c_108
                    refine lv_iconst (v := 1) hx hb dX9_kind_57 (by decide) ?_
                    refine lv_goto (tgt := 62) hx hb dX9_kind_58 (by decide) ?_
                    refine lv_istore (lv' := [(5, .int 1), (0, .ref h0), (1, .int n1), (2, .int n2), (3, .int n3), (4, .int n4)]) hx hb dX9_kind_62 hl (by decide) rfl (fun ls hl => ?_)
                    refine lv_iload hx hb dX9_kind_64 (lv_at hl 0 rfl) ?_
                    refine lv_if_ne (tgt := 71) hx hb dX9_kind_66 (by decide) (fun _ => ?_) (fun h => absurd h (by decide))
                    refine lv_iload_n hx hb dX9_kind_71 rfl (lv_at hl 2 rfl) ?_
                    refine lv_i2l hx hb dX9_kind_72 rfl ?_
                    refine lv_lconst (v := Int32.toInt64 0) hx hb dX9_kind_73 (by decide) ?_
                    refine lv_ldc2 (v := Int32.toInt64 3) hx hb hown (show (Cond.constantLong RX9 100 (Int32.toInt64 3)).before _ s = true from (hts _ mw_4_60)) dX9_kind_74 ?_
                    have hPc := hP.sub (ws' := []) [] rfl
                    have hDc := hD.sub (ws' := []) [] (by decide) rfl
                    have hKc := hK.sub (tys' := []) [] rfl
                    refine va_calli (va_runS (As := [.long (Int32.toInt64 n1), .long (Int32.toInt64 0), .long (Int32.toInt64 3)]) (rest := []) ⟨hx, hb, hml, hown, hts⟩ (m_in l dC dI H.size n1 0 3 0 3 (by decide) (by decide)) (va_cwS 3 hts (gS mw_4_57 mw_4_58 mw_1_9 mw_4_59) rfl rfl rfl (by decide +kernel) ⟨Nat.le_of_ble_eq_true rfl, Nat.le_of_ble_eq_true rfl⟩) ⟨pcW_blind, pcW_at hPc hKc hDc hN⟩ rfl rfl hl.1 rfl (lv_room (Nat.le_of_ble_eq_true rfl)) dX9_kind_77 ⟨Nat.le_of_ble_eq_true rfl, Nat.le_of_ble_eq_true rfl⟩) hS (fun q h1 h2 => absurd h2 (Nat.not_le.mpr h1)) (fun q h => hA q (Nat.le_trans hS.1 h)) (fun r_110 u t H1 locs ht hvm hw_110 hB hz1 hk1 hS => ?_)
                    have hP := keepP hP hk1
                    clear hz1 hk1 hB ht hvm hPc hDc hKc
                    generalize H1 = H at hP hS ⊢
                    rcases fx_bool hw_110 with ⟨rfl, b_111⟩ | ⟨rfl, b_111⟩
                    · skip
                      refine lv_if_ne (tgt := 86) hx hb dX9_kind_80 (by decide) (fun _ => ?_) (fun h => absurd h (by decide))
                      refine lv_aload_n hx hb dX9_kind_86 rfl (lv_at hl 1 rfl) ?_
                      refine va_get (D := (dC, dI)) (ci := 8) (v := .int (nI kn)) (C := RX9) (T := TX9) (N := 35) hx hb hts inB_9 hown hK hP 0 rfl rfl 4 (by decide) (hts _ mw_3_186) (fun _ h9 => h9) rfl dX9_kind_87 ?_
                      refine lv_bipush (v := 10) hx hb dX9_kind_90 (by decide) ?_
                      refine lv_icmp_ne (tgt := 98) hx hb dX9_kind_92 (by decide) (fun c_112 => ?_) (fun c_112 => ?_)
                      · have b_113 := gx_ne (X := ((kn : Nat) : Int)) (C := 10) (nI_toInt (by omega)) (by decide) c_112
                        obtain ⟨j_114, tj_114, ej_114⟩ := fx_nat (x := n1) (by omega)
                        subst ej_114
                        have yj_114 : Int32.toInt (nI j_114) = (j_114 : Int) := nI_toInt tj_114
                        refine lv_aload_n hx hb dX9_kind_98 rfl (lv_at hl 1 rfl) ?_
                        refine va_get (D := (dC, dI)) (ci := 8) (v := .ref l5) (C := RX9) (T := TX9) (N := 35) hx hb hts inB_9 hown hK hP 0 rfl rfl 0 (by decide) (hts _ mw_3_182) (fun _ h9 => h9) rfl dX9_kind_99 ?_
                        refine lv_iconst (v := 3) hx hb dX9_kind_102 (by decide) ?_
                        refine lv_aload_n hx hb dX9_kind_103 rfl (lv_at hl 1 rfl) ?_
                        refine va_get (D := (dC, dI)) (ci := 8) (v := .int (nI kn)) (C := RX9) (T := TX9) (N := 35) hx hb hts inB_9 hown hK hP 0 rfl rfl 4 (by decide) (hts _ mw_3_186) (fun _ h9 => h9) rfl dX9_kind_104 ?_
                        refine lv_imul hx hb dX9_kind_107 ?_
                        refine hx_top (y := (nI (3 * kn))) (pk_mul 3 kn) ?_
                        refine lv_iload_n hx hb dX9_kind_108 rfl (lv_at hl 3 rfl) ?_
                        refine va_iast hx hb hK hP hD hS 1 0 rfl rfl (show vp_in (nI (3 * kn)) 30 from vp_in_nI (by omega) (by omega)) dX9_kind_109 (fun H locs hP hD hS => ?_)
                        obtain ⟨f_115, ef_115⟩ : ∃ g : Nat → Int32, g = upd fpr (Int32.toNatClampNeg (nI (3 * kn))) n2 := ⟨_, rfl⟩
                        rw [← ef_115] at hP hD
                        have ef_115 : f_115 = upd fpr (3 * kn) n2 := by rw [ef_115, nI_clamp (by omega)]
                        have hP : va_P (dC, dI) vwCl [(h0, .inr (8, [.ref l5, .ref l3, .ref l6, .ref l7, .int (nI kn), .ref l4, .ref l1, .ref l2, .ref rw0, .ref rw1, .ref rw2, .int rm0, w12, w13, w14, w15, w16, w17, w18, w19, w20, w21, w22, w23, w24, w25, w26, w27, w28, w29, w30, w31, w32, w33, w34])), (l5, .inl (kl5, 30, .inl f_115)), (l3, .inl (kl3, 10, .inl fpm)), (l1, .inl (kl1, 10, .inl fll)), (l2, .inl (kl2, 10, .inl fmq)), (l4, .inl (kl4, 100, .inl fln)), (l6, .inl (kl6, 10, .inl fma)), (l7, .inl (kl7, 10, .inl fib)), (rw0, .inl (krw0, 40, .inl frw)), (rw1, .inl (krw1, 4, .inl fat)), (rw2, .inl (krw2, 4, .inl fen))] H := hP
                        have hD : va_D A [(h0, .inr (8, [.ref l5, .ref l3, .ref l6, .ref l7, .int (nI kn), .ref l4, .ref l1, .ref l2, .ref rw0, .ref rw1, .ref rw2, .int rm0, w12, w13, w14, w15, w16, w17, w18, w19, w20, w21, w22, w23, w24, w25, w26, w27, w28, w29, w30, w31, w32, w33, w34])), (l5, .inl (kl5, 30, .inl f_115)), (l3, .inl (kl3, 10, .inl fpm)), (l1, .inl (kl1, 10, .inl fll)), (l2, .inl (kl2, 10, .inl fmq)), (l4, .inl (kl4, 100, .inl fln)), (l6, .inl (kl6, 10, .inl fma)), (l7, .inl (kl7, 10, .inl fib)), (rw0, .inl (krw0, 40, .inl frw)), (rw1, .inl (krw1, 4, .inl fat)), (rw2, .inl (krw2, 4, .inl fen))] := hD
                        refine lv_aload_n hx hb dX9_kind_110 rfl (lv_at hl 1 rfl) ?_
                        refine va_get (D := (dC, dI)) (ci := 8) (v := .ref l5) (C := RX9) (T := TX9) (N := 35) hx hb hts inB_9 hown hK hP 0 rfl rfl 0 (by decide) (hts _ mw_3_182) (fun _ h9 => h9) rfl dX9_kind_111 ?_
                        refine lv_iconst (v := 3) hx hb dX9_kind_114 (by decide) ?_
                        refine lv_aload_n hx hb dX9_kind_115 rfl (lv_at hl 1 rfl) ?_
                        refine va_get (D := (dC, dI)) (ci := 8) (v := .int (nI kn)) (C := RX9) (T := TX9) (N := 35) hx hb hts inB_9 hown hK hP 0 rfl rfl 4 (by decide) (hts _ mw_3_186) (fun _ h9 => h9) rfl dX9_kind_116 ?_
                        refine lv_imul hx hb dX9_kind_119 ?_
                        refine hx_top (y := (nI (3 * kn))) (pk_mul 3 kn) ?_
                        refine lv_iconst (v := 1) hx hb dX9_kind_120 (by decide) ?_
                        refine lv_iadd hx hb dX9_kind_121 ?_
                        refine hx_top (y := (nI ((3 * kn) + 1))) (nI_add (3 * kn) 1) ?_
                        refine lv_iload_n hx hb dX9_kind_122 rfl (lv_at hl 4 rfl) ?_
                        refine va_iast hx hb hK hP hD hS 1 0 rfl rfl (show vp_in (nI ((3 * kn) + 1)) 30 from vp_in_nI (by omega) (by omega)) dX9_kind_123 (fun H locs hP hD hS => ?_)
                        obtain ⟨f_116, ef_116⟩ : ∃ g : Nat → Int32, g = upd f_115 (Int32.toNatClampNeg (nI ((3 * kn) + 1))) n3 := ⟨_, rfl⟩
                        rw [← ef_116] at hP hD
                        have ef_116 : f_116 = upd f_115 ((3 * kn) + 1) n3 := by rw [ef_116, nI_clamp (by omega)]
                        have hP : va_P (dC, dI) vwCl [(h0, .inr (8, [.ref l5, .ref l3, .ref l6, .ref l7, .int (nI kn), .ref l4, .ref l1, .ref l2, .ref rw0, .ref rw1, .ref rw2, .int rm0, w12, w13, w14, w15, w16, w17, w18, w19, w20, w21, w22, w23, w24, w25, w26, w27, w28, w29, w30, w31, w32, w33, w34])), (l5, .inl (kl5, 30, .inl f_116)), (l3, .inl (kl3, 10, .inl fpm)), (l1, .inl (kl1, 10, .inl fll)), (l2, .inl (kl2, 10, .inl fmq)), (l4, .inl (kl4, 100, .inl fln)), (l6, .inl (kl6, 10, .inl fma)), (l7, .inl (kl7, 10, .inl fib)), (rw0, .inl (krw0, 40, .inl frw)), (rw1, .inl (krw1, 4, .inl fat)), (rw2, .inl (krw2, 4, .inl fen))] H := hP
                        have hD : va_D A [(h0, .inr (8, [.ref l5, .ref l3, .ref l6, .ref l7, .int (nI kn), .ref l4, .ref l1, .ref l2, .ref rw0, .ref rw1, .ref rw2, .int rm0, w12, w13, w14, w15, w16, w17, w18, w19, w20, w21, w22, w23, w24, w25, w26, w27, w28, w29, w30, w31, w32, w33, w34])), (l5, .inl (kl5, 30, .inl f_116)), (l3, .inl (kl3, 10, .inl fpm)), (l1, .inl (kl1, 10, .inl fll)), (l2, .inl (kl2, 10, .inl fmq)), (l4, .inl (kl4, 100, .inl fln)), (l6, .inl (kl6, 10, .inl fma)), (l7, .inl (kl7, 10, .inl fib)), (rw0, .inl (krw0, 40, .inl frw)), (rw1, .inl (krw1, 4, .inl fat)), (rw2, .inl (krw2, 4, .inl fen))] := hD
                        refine lv_aload_n hx hb dX9_kind_124 rfl (lv_at hl 1 rfl) ?_
                        refine va_get (D := (dC, dI)) (ci := 8) (v := .ref l5) (C := RX9) (T := TX9) (N := 35) hx hb hts inB_9 hown hK hP 0 rfl rfl 0 (by decide) (hts _ mw_3_182) (fun _ h9 => h9) rfl dX9_kind_125 ?_
                        refine lv_iconst (v := 3) hx hb dX9_kind_128 (by decide) ?_
                        refine lv_aload_n hx hb dX9_kind_129 rfl (lv_at hl 1 rfl) ?_
                        refine va_get (D := (dC, dI)) (ci := 8) (v := .int (nI kn)) (C := RX9) (T := TX9) (N := 35) hx hb hts inB_9 hown hK hP 0 rfl rfl 4 (by decide) (hts _ mw_3_186) (fun _ h9 => h9) rfl dX9_kind_130 ?_
                        refine lv_imul hx hb dX9_kind_133 ?_
                        refine hx_top (y := (nI (3 * kn))) (pk_mul 3 kn) ?_
                        refine lv_iconst (v := 2) hx hb dX9_kind_134 (by decide) ?_
                        refine lv_iadd hx hb dX9_kind_135 ?_
                        refine hx_top (y := (nI ((3 * kn) + 2))) (nI_add (3 * kn) 2) ?_
                        refine lv_iload hx hb dX9_kind_136 (lv_at hl 5 rfl) ?_
                        refine va_iast hx hb hK hP hD hS 1 0 rfl rfl (show vp_in (nI ((3 * kn) + 2)) 30 from vp_in_nI (by omega) (by omega)) dX9_kind_138 (fun H locs hP hD hS => ?_)
                        obtain ⟨f_117, ef_117⟩ : ∃ g : Nat → Int32, g = upd f_116 (Int32.toNatClampNeg (nI ((3 * kn) + 2))) n4 := ⟨_, rfl⟩
                        rw [← ef_117] at hP hD
                        have ef_117 : f_117 = upd f_116 ((3 * kn) + 2) n4 := by rw [ef_117, nI_clamp (by omega)]
                        have hP : va_P (dC, dI) vwCl [(h0, .inr (8, [.ref l5, .ref l3, .ref l6, .ref l7, .int (nI kn), .ref l4, .ref l1, .ref l2, .ref rw0, .ref rw1, .ref rw2, .int rm0, w12, w13, w14, w15, w16, w17, w18, w19, w20, w21, w22, w23, w24, w25, w26, w27, w28, w29, w30, w31, w32, w33, w34])), (l5, .inl (kl5, 30, .inl f_117)), (l3, .inl (kl3, 10, .inl fpm)), (l1, .inl (kl1, 10, .inl fll)), (l2, .inl (kl2, 10, .inl fmq)), (l4, .inl (kl4, 100, .inl fln)), (l6, .inl (kl6, 10, .inl fma)), (l7, .inl (kl7, 10, .inl fib)), (rw0, .inl (krw0, 40, .inl frw)), (rw1, .inl (krw1, 4, .inl fat)), (rw2, .inl (krw2, 4, .inl fen))] H := hP
                        have hD : va_D A [(h0, .inr (8, [.ref l5, .ref l3, .ref l6, .ref l7, .int (nI kn), .ref l4, .ref l1, .ref l2, .ref rw0, .ref rw1, .ref rw2, .int rm0, w12, w13, w14, w15, w16, w17, w18, w19, w20, w21, w22, w23, w24, w25, w26, w27, w28, w29, w30, w31, w32, w33, w34])), (l5, .inl (kl5, 30, .inl f_117)), (l3, .inl (kl3, 10, .inl fpm)), (l1, .inl (kl1, 10, .inl fll)), (l2, .inl (kl2, 10, .inl fmq)), (l4, .inl (kl4, 100, .inl fln)), (l6, .inl (kl6, 10, .inl fma)), (l7, .inl (kl7, 10, .inl fib)), (rw0, .inl (krw0, 40, .inl frw)), (rw1, .inl (krw1, 4, .inl fat)), (rw2, .inl (krw2, 4, .inl fen))] := hD
                        refine lv_aload_n hx hb dX9_kind_139 rfl (lv_at hl 1 rfl) ?_
                        refine va_get (D := (dC, dI)) (ci := 8) (v := .ref l3) (C := RX9) (T := TX9) (N := 35) hx hb hts inB_9 hown hK hP 0 rfl rfl 1 (by decide) (hts _ mw_3_183) (fun _ h9 => h9) rfl dX9_kind_140 ?_
                        refine lv_aload_n hx hb dX9_kind_143 rfl (lv_at hl 1 rfl) ?_
                        refine va_get (D := (dC, dI)) (ci := 8) (v := .int (nI kn)) (C := RX9) (T := TX9) (N := 35) hx hb hts inB_9 hown hK hP 0 rfl rfl 4 (by decide) (hts _ mw_3_186) (fun _ h9 => h9) rfl dX9_kind_144 ?_
                        refine lv_iload_n hx hb dX9_kind_147 rfl (lv_at hl 2 rfl) ?_
                        refine va_iast hx hb hK hP hD hS 2 1 rfl rfl (show vp_in (nI kn) 10 from vp_in_nI (by omega) (by omega)) dX9_kind_148 (fun H locs hP hD hS => ?_)
                        obtain ⟨f_118, ef_118⟩ : ∃ g : Nat → Int32, g = upd fpm (Int32.toNatClampNeg (nI kn)) (nI j_114) := ⟨_, rfl⟩
                        rw [← ef_118] at hP hD
                        have ef_118 : f_118 = upd fpm kn (nI j_114) := by rw [ef_118, nI_clamp (by omega)]
                        have hP : va_P (dC, dI) vwCl [(h0, .inr (8, [.ref l5, .ref l3, .ref l6, .ref l7, .int (nI kn), .ref l4, .ref l1, .ref l2, .ref rw0, .ref rw1, .ref rw2, .int rm0, w12, w13, w14, w15, w16, w17, w18, w19, w20, w21, w22, w23, w24, w25, w26, w27, w28, w29, w30, w31, w32, w33, w34])), (l5, .inl (kl5, 30, .inl f_117)), (l3, .inl (kl3, 10, .inl f_118)), (l1, .inl (kl1, 10, .inl fll)), (l2, .inl (kl2, 10, .inl fmq)), (l4, .inl (kl4, 100, .inl fln)), (l6, .inl (kl6, 10, .inl fma)), (l7, .inl (kl7, 10, .inl fib)), (rw0, .inl (krw0, 40, .inl frw)), (rw1, .inl (krw1, 4, .inl fat)), (rw2, .inl (krw2, 4, .inl fen))] H := hP
                        have hD : va_D A [(h0, .inr (8, [.ref l5, .ref l3, .ref l6, .ref l7, .int (nI kn), .ref l4, .ref l1, .ref l2, .ref rw0, .ref rw1, .ref rw2, .int rm0, w12, w13, w14, w15, w16, w17, w18, w19, w20, w21, w22, w23, w24, w25, w26, w27, w28, w29, w30, w31, w32, w33, w34])), (l5, .inl (kl5, 30, .inl f_117)), (l3, .inl (kl3, 10, .inl f_118)), (l1, .inl (kl1, 10, .inl fll)), (l2, .inl (kl2, 10, .inl fmq)), (l4, .inl (kl4, 100, .inl fln)), (l6, .inl (kl6, 10, .inl fma)), (l7, .inl (kl7, 10, .inl fib)), (rw0, .inl (krw0, 40, .inl frw)), (rw1, .inl (krw1, 4, .inl fat)), (rw2, .inl (krw2, 4, .inl fen))] := hD
                        refine lv_aload_n hx hb dX9_kind_149 rfl (lv_at hl 1 rfl) ?_
                        refine va_get (D := (dC, dI)) (ci := 8) (v := .ref l6) (C := RX9) (T := TX9) (N := 35) hx hb hts inB_9 hown hK hP 0 rfl rfl 2 (by decide) (hts _ mw_3_184) (fun _ h9 => h9) rfl dX9_kind_150 ?_
                        refine lv_aload_n hx hb dX9_kind_153 rfl (lv_at hl 1 rfl) ?_
                        refine va_get (D := (dC, dI)) (ci := 8) (v := .int (nI kn)) (C := RX9) (T := TX9) (N := 35) hx hb hts inB_9 hown hK hP 0 rfl rfl 4 (by decide) (hts _ mw_3_186) (fun _ h9 => h9) rfl dX9_kind_154 ?_
                        refine lv_iconst (v := 0) hx hb dX9_kind_157 (by decide) ?_
                        refine va_iast hx hb hK hP hD hS 6 5 rfl rfl (show vp_in (nI kn) 10 from vp_in_nI (by omega) (by omega)) dX9_kind_158 (fun H locs hP hD hS => ?_)
                        obtain ⟨f_119, ef_119⟩ : ∃ g : Nat → Int32, g = upd fma (Int32.toNatClampNeg (nI kn)) 0 := ⟨_, rfl⟩
                        rw [← ef_119] at hP hD
                        have ef_119 : f_119 = upd fma kn 0 := by rw [ef_119, nI_clamp (by omega)]
                        have hP : va_P (dC, dI) vwCl [(h0, .inr (8, [.ref l5, .ref l3, .ref l6, .ref l7, .int (nI kn), .ref l4, .ref l1, .ref l2, .ref rw0, .ref rw1, .ref rw2, .int rm0, w12, w13, w14, w15, w16, w17, w18, w19, w20, w21, w22, w23, w24, w25, w26, w27, w28, w29, w30, w31, w32, w33, w34])), (l5, .inl (kl5, 30, .inl f_117)), (l3, .inl (kl3, 10, .inl f_118)), (l1, .inl (kl1, 10, .inl fll)), (l2, .inl (kl2, 10, .inl fmq)), (l4, .inl (kl4, 100, .inl fln)), (l6, .inl (kl6, 10, .inl f_119)), (l7, .inl (kl7, 10, .inl fib)), (rw0, .inl (krw0, 40, .inl frw)), (rw1, .inl (krw1, 4, .inl fat)), (rw2, .inl (krw2, 4, .inl fen))] H := hP
                        have hD : va_D A [(h0, .inr (8, [.ref l5, .ref l3, .ref l6, .ref l7, .int (nI kn), .ref l4, .ref l1, .ref l2, .ref rw0, .ref rw1, .ref rw2, .int rm0, w12, w13, w14, w15, w16, w17, w18, w19, w20, w21, w22, w23, w24, w25, w26, w27, w28, w29, w30, w31, w32, w33, w34])), (l5, .inl (kl5, 30, .inl f_117)), (l3, .inl (kl3, 10, .inl f_118)), (l1, .inl (kl1, 10, .inl fll)), (l2, .inl (kl2, 10, .inl fmq)), (l4, .inl (kl4, 100, .inl fln)), (l6, .inl (kl6, 10, .inl f_119)), (l7, .inl (kl7, 10, .inl fib)), (rw0, .inl (krw0, 40, .inl frw)), (rw1, .inl (krw1, 4, .inl fat)), (rw2, .inl (krw2, 4, .inl fen))] := hD
                        refine lv_aload_n hx hb dX9_kind_159 rfl (lv_at hl 1 rfl) ?_
                        refine va_get (D := (dC, dI)) (ci := 8) (v := .ref l7) (C := RX9) (T := TX9) (N := 35) hx hb hts inB_9 hown hK hP 0 rfl rfl 3 (by decide) (hts _ mw_3_185) (fun _ h9 => h9) rfl dX9_kind_160 ?_
                        refine lv_aload_n hx hb dX9_kind_163 rfl (lv_at hl 1 rfl) ?_
                        refine va_get (D := (dC, dI)) (ci := 8) (v := .int (nI kn)) (C := RX9) (T := TX9) (N := 35) hx hb hts inB_9 hown hK hP 0 rfl rfl 4 (by decide) (hts _ mw_3_186) (fun _ h9 => h9) rfl dX9_kind_164 ?_
                        refine lv_iconst (v := 0) hx hb dX9_kind_167 (by decide) ?_
                        refine va_zast hx hb hK hP hD hS 7 6 rfl rfl (show vp_in (nI kn) 10 from vp_in_nI (by omega) (by omega)) dX9_kind_168 (fun H locs hP hD hS => ?_)
                        obtain ⟨f_120, ef_120⟩ : ∃ g : Nat → Int32, g = upd fib (Int32.toNatClampNeg (nI kn)) (vp_nar .boolean 0) := ⟨_, rfl⟩
                        rw [← ef_120] at hP hD
                        have ef_120 : f_120 = upd fib kn (vp_nar .boolean 0) := by rw [ef_120, nI_clamp (by omega)]
                        have hP : va_P (dC, dI) vwCl [(h0, .inr (8, [.ref l5, .ref l3, .ref l6, .ref l7, .int (nI kn), .ref l4, .ref l1, .ref l2, .ref rw0, .ref rw1, .ref rw2, .int rm0, w12, w13, w14, w15, w16, w17, w18, w19, w20, w21, w22, w23, w24, w25, w26, w27, w28, w29, w30, w31, w32, w33, w34])), (l5, .inl (kl5, 30, .inl f_117)), (l3, .inl (kl3, 10, .inl f_118)), (l1, .inl (kl1, 10, .inl fll)), (l2, .inl (kl2, 10, .inl fmq)), (l4, .inl (kl4, 100, .inl fln)), (l6, .inl (kl6, 10, .inl f_119)), (l7, .inl (kl7, 10, .inl f_120)), (rw0, .inl (krw0, 40, .inl frw)), (rw1, .inl (krw1, 4, .inl fat)), (rw2, .inl (krw2, 4, .inl fen))] H := hP
                        have hD : va_D A [(h0, .inr (8, [.ref l5, .ref l3, .ref l6, .ref l7, .int (nI kn), .ref l4, .ref l1, .ref l2, .ref rw0, .ref rw1, .ref rw2, .int rm0, w12, w13, w14, w15, w16, w17, w18, w19, w20, w21, w22, w23, w24, w25, w26, w27, w28, w29, w30, w31, w32, w33, w34])), (l5, .inl (kl5, 30, .inl f_117)), (l3, .inl (kl3, 10, .inl f_118)), (l1, .inl (kl1, 10, .inl fll)), (l2, .inl (kl2, 10, .inl fmq)), (l4, .inl (kl4, 100, .inl fln)), (l6, .inl (kl6, 10, .inl f_119)), (l7, .inl (kl7, 10, .inl f_120)), (rw0, .inl (krw0, 40, .inl frw)), (rw1, .inl (krw1, 4, .inl fat)), (rw2, .inl (krw2, 4, .inl fen))] := hD
                        refine lv_iconst (v := 0) hx hb dX9_kind_169 (by decide) ?_
                        refine lv_istore (lv' := [(6, .int 0), (5, .int 1), (0, .ref h0), (1, .int (nI j_114)), (2, .int n2), (3, .int n3), (4, .int n4)]) hx hb dX9_kind_170 hl (by decide) rfl (fun ls hl => ?_)
                        have hprk : PrOk f_117 kn j_114 := pr_3 ef_115 ef_116 ef_117 (by omega) (fun q => by omega) (fun q => by omega) (fun q => by omega)
                        have hpp : ∀ i, i < 3 → f_117 (3 * kn + i) = par3 n2 n3 n4 i := p3_get ef_115 ef_116 ef_117
                        have key_121 : ∀ (fu : Nat) (k : Nat) (fax : Nat → Int32), (k ≤ j_114) → (fax = upd fma kn (abv fma (par3 n2 n3 n4) k)) → j_114 - k < fu → ∀ (H : Heap) (locs : List Loc), va_P (dC, dI) vwCl [(h0, .inr (8, [.ref l5, .ref l3, .ref l6, .ref l7, .int (nI kn), .ref l4, .ref l1, .ref l2, .ref rw0, .ref rw1, .ref rw2, .int rm0, w12, w13, w14, w15, w16, w17, w18, w19, w20, w21, w22, w23, w24, w25, w26, w27, w28, w29, w30, w31, w32, w33, w34])), (l5, .inl (kl5, 30, .inl f_117)), (l3, .inl (kl3, 10, .inl f_118)), (l1, .inl (kl1, 10, .inl fll)), (l2, .inl (kl2, 10, .inl fmq)), (l4, .inl (kl4, 100, .inl fln)), (l6, .inl (kl6, 10, .inl fax)), (l7, .inl (kl7, 10, .inl f_120)), (rw0, .inl (krw0, 40, .inl frw)), (rw1, .inl (krw1, 4, .inl fat)), (rw2, .inl (krw2, 4, .inl fen))] H → va_D A [(h0, .inr (8, [.ref l5, .ref l3, .ref l6, .ref l7, .int (nI kn), .ref l4, .ref l1, .ref l2, .ref rw0, .ref rw1, .ref rw2, .int rm0, w12, w13, w14, w15, w16, w17, w18, w19, w20, w21, w22, w23, w24, w25, w26, w27, w28, w29, w30, w31, w32, w33, w34])), (l5, .inl (kl5, 30, .inl f_117)), (l3, .inl (kl3, 10, .inl f_118)), (l1, .inl (kl1, 10, .inl fll)), (l2, .inl (kl2, 10, .inl fmq)), (l4, .inl (kl4, 100, .inl fln)), (l6, .inl (kl6, 10, .inl fax)), (l7, .inl (kl7, 10, .inl f_120)), (rw0, .inl (krw0, 40, .inl frw)), (rw1, .inl (krw1, 4, .inl fat)), (rw2, .inl (krw2, 4, .inl fen))] → va_S A s.heap H locs → ∀ (ls : Array Slot), lv_has ls 8 [(6, .int (nI k)), (5, .int 1), (0, .ref h0), (1, .int (nI j_114)), (2, .int n2), (3, .int n3), (4, .int n4)] → W p l e (headSpec (wq yX9_kind cX9_kind 8 (some .int)) ({ frames := 3, cells := 0, slots := 0, locals := 71 })).room s m (([.ref h0, .int (nI j_114), .int n2, .int n3, .int n4] : List Value)).toArray below meth c H locs 0 0 (MQ below (va_Qi (fun (r : Int32) (_ : Unit) => r = F_kind kn (nI j_114) n2 n3 n4) (fun _ t => ∃ (kn2 : Nat) (fpr2 : Nat → Int32) (fpm2 : Nat → Int32) (fma2 : Nat → Int32) (fib2 : Nat → Int32) (frw2 : Nat → Int32) (fat2 : Nat → Int32) (fen2 : Nat → Int32) (fll2 : Nat → Int32) (fmq2 : Nat → Int32) (fln2 : Nat → Int32) (rm2 : Int32), (kn2 = K_next kn (nI j_114) n2 n3 n4) ∧ (fib2 = KB_next kn fib (nI j_114) n2 n3 n4) ∧ (fma2 = KA_next kn fma (nI j_114) n2 n3 n4) ∧ (kn2 ≤ 10) ∧ (BdOk 10 10 fll2) ∧ (LnOk fll2 fln2 kn2) ∧ (BdOk 4 10 fat2) ∧ (BdOk 4 10 fen2) ∧ va_P (dC, dI) vwCl [(h0, .inr (8, [.ref l5, .ref l3, .ref l6, .ref l7, .int (nI kn2), .ref l4, .ref l1, .ref l2, .ref rw0, .ref rw1, .ref rw2, .int rm2, w12, w13, w14, w15, w16, w17, w18, w19, w20, w21, w22, w23, w24, w25, w26, w27, w28, w29, w30, w31, w32, w33, w34])), (l5, .inl (kl5, 30, .inl fpr2)), (l3, .inl (kl3, 10, .inl fpm2)), (l1, .inl (kl1, 10, .inl fll2)), (l2, .inl (kl2, 10, .inl fmq2)), (l4, .inl (kl4, 100, .inl fln2)), (l6, .inl (kl6, 10, .inl fma2)), (l7, .inl (kl7, 10, .inl fib2)), (rw0, .inl (krw0, 40, .inl frw2)), (rw1, .inl (krw1, 4, .inl fat2)), (rw2, .inl (krw2, 4, .inl fen2))] t.heap ∧ va_K (dC, dI) vwCl [(kl5, .int), (kl3, .int), (kl1, .int), (kl2, .int), (kl4, .int), (kl6, .int), (kl7, .boolean), (krw0, .int), (krw1, .int), (krw2, .int)] t ∧ va_D A [(h0, .inr (8, [.ref l5, .ref l3, .ref l6, .ref l7, .int (nI kn2), .ref l4, .ref l1, .ref l2, .ref rw0, .ref rw1, .ref rw2, .int rm2, w12, w13, w14, w15, w16, w17, w18, w19, w20, w21, w22, w23, w24, w25, w26, w27, w28, w29, w30, w31, w32, w33, w34])), (l5, .inl (kl5, 30, .inl fpr2)), (l3, .inl (kl3, 10, .inl fpm2)), (l1, .inl (kl1, 10, .inl fll2)), (l2, .inl (kl2, 10, .inl fmq2)), (l4, .inl (kl4, 100, .inl fln2)), (l6, .inl (kl6, 10, .inl fma2)), (l7, .inl (kl7, 10, .inl fib2)), (rw0, .inl (krw0, 40, .inl frw2)), (rw1, .inl (krw1, 4, .inl fat2)), (rw2, .inl (krw2, 4, .inl fen2))]) A) (([.ref h0, .int (nI j_114), .int n2, .int n3, .int n4] : List Value)).toArray s 0 0 A) (F0 m 172 ls []) := by
                          intro fu
                          induction fu with
                          | zero => intro k fax hk hax hme; exact absurd hme (Nat.not_lt_zero _)
                          | succ fu ih_122 =>
                            intro k fax hk hax hme H locs hP hD hS ls hl
                            refine lv_iload hx hb dX9_kind_172 (lv_at hl 0 rfl) ?_
                            refine lv_iload_n hx hb dX9_kind_174 rfl (lv_at hl 3 rfl) ?_
                            refine lv_icmp_ge (tgt := 224) hx hb dX9_kind_175 (by decide) (fun c_123 => ?_) (fun c_123 => ?_)
                            · have b_124 := gx_ge (X := ((k : Nat) : Int)) (C := ((j_114 : Nat) : Int)) (nI_toInt (by omega)) (nI_toInt (by omega)) c_123
                              refine lv_aload_n hx hb dX9_kind_224 rfl (lv_at hl 2 rfl) ?_
                              refine lv_aload_n hx hb dX9_kind_225 rfl (lv_at hl 2 rfl) ?_
                              refine va_get (D := (dC, dI)) (ci := 8) (v := .int (nI kn)) (C := RX9) (T := TX9) (N := 35) hx hb hts inB_9 hown hK hP 0 rfl rfl 4 (by decide) (hts _ mw_3_186) (fun _ h9 => h9) rfl dX9_kind_226 ?_
                              have hPc := hP.sub (ws' := [(h0, .inr (8, [.ref l5, .ref l3, .ref l6, .ref l7, .int (nI kn), .ref l4, .ref l1, .ref l2, .ref rw0, .ref rw1, .ref rw2, .int rm0, w12, w13, w14, w15, w16, w17, w18, w19, w20, w21, w22, w23, w24, w25, w26, w27, w28, w29, w30, w31, w32, w33, w34])), (l5, .inl (kl5, 30, .inl f_117)), (l3, .inl (kl3, 10, .inl f_118)), (l1, .inl (kl1, 10, .inl fll)), (l2, .inl (kl2, 10, .inl fmq)), (l4, .inl (kl4, 100, .inl fln)), (rw0, .inl (krw0, 40, .inl frw)), (rw1, .inl (krw1, 4, .inl fat)), (rw2, .inl (krw2, 4, .inl fen))]) [0, 1, 2, 3, 4, 5, 8, 9, 10] rfl
                              have hDc := hD.sub (ws' := [(h0, .inr (8, [.ref l5, .ref l3, .ref l6, .ref l7, .int (nI kn), .ref l4, .ref l1, .ref l2, .ref rw0, .ref rw1, .ref rw2, .int rm0, w12, w13, w14, w15, w16, w17, w18, w19, w20, w21, w22, w23, w24, w25, w26, w27, w28, w29, w30, w31, w32, w33, w34])), (l5, .inl (kl5, 30, .inl f_117)), (l3, .inl (kl3, 10, .inl f_118)), (l1, .inl (kl1, 10, .inl fll)), (l2, .inl (kl2, 10, .inl fmq)), (l4, .inl (kl4, 100, .inl fln)), (rw0, .inl (krw0, 40, .inl frw)), (rw1, .inl (krw1, 4, .inl fat)), (rw2, .inl (krw2, 4, .inl fen))]) [0, 1, 2, 3, 4, 5, 8, 9, 10] (by decide) rfl
                              have hKc := hK.sub (tys' := [(kl5, .int), (kl3, .int), (kl1, .int), (kl2, .int), (kl4, .int), (krw0, .int), (krw1, .int), (krw2, .int)]) [0, 1, 2, 3, 4, 7, 8, 9] rfl
                              have hFc := va_free (wc := [(h0, .inr (8, [.ref l5, .ref l3, .ref l6, .ref l7, .int (nI kn), .ref l4, .ref l1, .ref l2, .ref rw0, .ref rw1, .ref rw2, .int rm0, w12, w13, w14, w15, w16, w17, w18, w19, w20, w21, w22, w23, w24, w25, w26, w27, w28, w29, w30, w31, w32, w33, w34])), (l5, .inl (kl5, 30, .inl f_117)), (l3, .inl (kl3, 10, .inl f_118)), (l1, .inl (kl1, 10, .inl fll)), (l2, .inl (kl2, 10, .inl fmq)), (l4, .inl (kl4, 100, .inl fln)), (rw0, .inl (krw0, 40, .inl frw)), (rw1, .inl (krw1, 4, .inl fat)), (rw2, .inl (krw2, 4, .inl fen))]) hD hS hA [0, 1, 2, 3, 4, 5, 8, 9, 10] rfl
                              refine va_callv (va_runV (As := [.int (nI kn)]) (rest := []) ⟨hx, hb, hml, hown, hts⟩ (m_layLine l dC dI H.size h0 l5 l3 (.ref l6) (.ref l7) (.int (nI kn)) l4 l1 l2 rw0 rw1 rw2 rm0 (w12) (w13) (w14) (w15) (w16) (w17) (w18) (w19) (w20) (w21) (w22) (w23) (w24) (w25) (w26) (w27) (w28) (w29) (w30) (w31) (w32) (w33) (w34) kl5 f_117 kl3 f_118 kl1 fll kl2 fmq kl4 fln krw0 frw krw1 fat krw2 fen kn j_114 (by omega) (by rw [ef_118]; exact pk_us) (by omega) hprk hll hln hfat hfen) (cwV 1 hts (gV mw_4_61 mw_4_63 mw_0_16 mw_1_9 mw_4_64) rfl rfl rfl (by decide +kernel) ⟨Nat.le_of_ble_eq_true rfl, Nat.le_of_ble_eq_true rfl⟩) ⟨pcW_blind, va_recv hKc hPc (ci := 8) (q0 := 0) rfl rfl, pcW_at hPc hKc hDc hN⟩ rfl rfl hl.1 rfl (lv_room (Nat.le_of_ble_eq_true rfl)) dX9_kind_229 ⟨Nat.le_of_ble_eq_true rfl, Nat.le_of_ble_eq_true rfl⟩) hS (fun q _ h => hFc q h) hFc (fun u t H1 locs ht hvm hw_125 hB hz1 hk1 hS => ?_)
                              obtain ⟨f_126, f_127, f_128, f_129, f_130, f_131, z_132, p_133, p_134, p_135, p_136, hP1, hK1, hD1⟩ := hB
                              rw [ht] at hP1
                              have hK1 := va_K.moved hvm.symm hK1
                              obtain ⟨hP, hD⟩ := va_join (wr := [(l6, .inl (kl6, 10, .inl fax)), (l7, .inl (kl7, 10, .inl f_120))]) (w1 := [(h0, .inr (8, [.ref l5, .ref l3, .ref l6, .ref l7, .int (nI kn), .ref l4, .ref l1, .ref l2, .ref rw0, .ref rw1, .ref rw2, .int z_132, w12, w13, w14, w15, w16, w17, w18, w19, w20, w21, w22, w23, w24, w25, w26, w27, w28, w29, w30, w31, w32, w33, w34])), (l5, .inl (kl5, 30, .inl f_117)), (l3, .inl (kl3, 10, .inl f_118)), (l1, .inl (kl1, 10, .inl f_129)), (l2, .inl (kl2, 10, .inl f_130)), (l4, .inl (kl4, 100, .inl f_131)), (rw0, .inl (krw0, 40, .inl f_126)), (rw1, .inl (krw1, 4, .inl f_127)), (rw2, .inl (krw2, 4, .inl f_128))]) hP hD [0, 1, 2, 3, 4, 5, 8, 9, 10] [6, 7] rfl rfl (by decide) (by decide) hk1 hFc hP1 hD1
                              have hK := (hK.sub (tys' := [(kl6, .int), (kl7, .boolean)]) [5, 6] rfl).app hK1
                              clear hz1 hk1 hPc hDc hKc hFc
                              generalize H1 = H at hP hS ⊢
                              have hK : va_K (dC, dI) vwCl [(kl6, .int), (kl7, .boolean), (kl5, .int), (kl3, .int), (kl1, .int), (kl2, .int), (kl4, .int), (krw0, .int), (krw1, .int), (krw2, .int)] s := hK
                              have hP : va_P (dC, dI) vwCl [(l6, .inl (kl6, 10, .inl fax)), (l7, .inl (kl7, 10, .inl f_120)), (h0, .inr (8, [.ref l5, .ref l3, .ref l6, .ref l7, .int (nI kn), .ref l4, .ref l1, .ref l2, .ref rw0, .ref rw1, .ref rw2, .int z_132, w12, w13, w14, w15, w16, w17, w18, w19, w20, w21, w22, w23, w24, w25, w26, w27, w28, w29, w30, w31, w32, w33, w34])), (l5, .inl (kl5, 30, .inl f_117)), (l3, .inl (kl3, 10, .inl f_118)), (l1, .inl (kl1, 10, .inl f_129)), (l2, .inl (kl2, 10, .inl f_130)), (l4, .inl (kl4, 100, .inl f_131)), (rw0, .inl (krw0, 40, .inl f_126)), (rw1, .inl (krw1, 4, .inl f_127)), (rw2, .inl (krw2, 4, .inl f_128))] H := hP
                              have hD : va_D A [(l6, .inl (kl6, 10, .inl fax)), (l7, .inl (kl7, 10, .inl f_120)), (h0, .inr (8, [.ref l5, .ref l3, .ref l6, .ref l7, .int (nI kn), .ref l4, .ref l1, .ref l2, .ref rw0, .ref rw1, .ref rw2, .int z_132, w12, w13, w14, w15, w16, w17, w18, w19, w20, w21, w22, w23, w24, w25, w26, w27, w28, w29, w30, w31, w32, w33, w34])), (l5, .inl (kl5, 30, .inl f_117)), (l3, .inl (kl3, 10, .inl f_118)), (l1, .inl (kl1, 10, .inl f_129)), (l2, .inl (kl2, 10, .inl f_130)), (l4, .inl (kl4, 100, .inl f_131)), (rw0, .inl (krw0, 40, .inl f_126)), (rw1, .inl (krw1, 4, .inl f_127)), (rw2, .inl (krw2, 4, .inl f_128))] := hD
                              refine lv_aload_n hx hb dX9_kind_232 rfl (lv_at hl 2 rfl) ?_
                              refine lv_dup hx hb dX9_kind_233 rfl ?_
                              refine va_get (D := (dC, dI)) (ci := 8) (v := .int (nI kn)) (C := RX9) (T := TX9) (N := 35) hx hb hts inB_9 hown hK hP 2 rfl rfl 4 (by decide) (hts _ mw_3_186) (fun _ h9 => h9) rfl dX9_kind_234 ?_
                              refine lv_iconst (v := 1) hx hb dX9_kind_237 (by decide) ?_
                              refine lv_iadd hx hb dX9_kind_238 ?_
                              refine hx_top (y := (nI (kn + 1))) (nI_add kn 1) ?_
                              refine va_put (D := (dC, dI)) (ci := 8) (v := .int (nI (kn + 1))) (ty := .int) (C := RX9) (T := TX9) (N := 35) hx hb hts inB_9 tyX9 tyX9_ok nmX9 hown hK hP hD hS 2 rfl rfl 4 (by decide) (hts _ mw_3_186) (fun _ h9 => h9) rfl (by decide +kernel) rfl rfl (Nat.le_of_ble_eq_true rfl) dX9_kind_239 (fun H locs hP hD hS => ?_)
                              have hP : va_P (dC, dI) vwCl [(l6, .inl (kl6, 10, .inl fax)), (l7, .inl (kl7, 10, .inl f_120)), (h0, .inr (8, [.ref l5, .ref l3, .ref l6, .ref l7, .int (nI (kn + 1)), .ref l4, .ref l1, .ref l2, .ref rw0, .ref rw1, .ref rw2, .int z_132, w12, w13, w14, w15, w16, w17, w18, w19, w20, w21, w22, w23, w24, w25, w26, w27, w28, w29, w30, w31, w32, w33, w34])), (l5, .inl (kl5, 30, .inl f_117)), (l3, .inl (kl3, 10, .inl f_118)), (l1, .inl (kl1, 10, .inl f_129)), (l2, .inl (kl2, 10, .inl f_130)), (l4, .inl (kl4, 100, .inl f_131)), (rw0, .inl (krw0, 40, .inl f_126)), (rw1, .inl (krw1, 4, .inl f_127)), (rw2, .inl (krw2, 4, .inl f_128))] H := hP
                              have hD : va_D A [(l6, .inl (kl6, 10, .inl fax)), (l7, .inl (kl7, 10, .inl f_120)), (h0, .inr (8, [.ref l5, .ref l3, .ref l6, .ref l7, .int (nI (kn + 1)), .ref l4, .ref l1, .ref l2, .ref rw0, .ref rw1, .ref rw2, .int z_132, w12, w13, w14, w15, w16, w17, w18, w19, w20, w21, w22, w23, w24, w25, w26, w27, w28, w29, w30, w31, w32, w33, w34])), (l5, .inl (kl5, 30, .inl f_117)), (l3, .inl (kl3, 10, .inl f_118)), (l1, .inl (kl1, 10, .inl f_129)), (l2, .inl (kl2, 10, .inl f_130)), (l4, .inl (kl4, 100, .inl f_131)), (rw0, .inl (krw0, 40, .inl f_126)), (rw1, .inl (krw1, 4, .inl f_127)), (rw2, .inl (krw2, 4, .inl f_128))] := hD
                              refine lv_aload_n hx hb dX9_kind_242 rfl (lv_at hl 2 rfl) ?_
                              refine va_get (D := (dC, dI)) (ci := 8) (v := .int (nI (kn + 1))) (C := RX9) (T := TX9) (N := 35) hx hb hts inB_9 hown hK hP 2 rfl rfl 4 (by decide) (hts _ mw_3_186) (fun _ h9 => h9) rfl dX9_kind_243 ?_
                              refine lv_iconst (v := 1) hx hb dX9_kind_246 (by decide) ?_
                              refine lv_isub hx hb dX9_kind_247 ?_
                              refine hx_top (y := (nI ((kn + 1) - 1))) (pk_sub (a := (kn + 1)) (b := 1) (by omega)) ?_
                              have hP9 := hP.sub (ws' := [(h0, .inr (8, [.ref l5, .ref l3, .ref l6, .ref l7, .int (nI (kn + 1)), .ref l4, .ref l1, .ref l2, .ref rw0, .ref rw1, .ref rw2, .int z_132, w12, w13, w14, w15, w16, w17, w18, w19, w20, w21, w22, w23, w24, w25, w26, w27, w28, w29, w30, w31, w32, w33, w34])), (l5, .inl (kl5, 30, .inl f_117)), (l3, .inl (kl3, 10, .inl f_118)), (l1, .inl (kl1, 10, .inl f_129)), (l2, .inl (kl2, 10, .inl f_130)), (l4, .inl (kl4, 100, .inl f_131)), (l6, .inl (kl6, 10, .inl fax)), (l7, .inl (kl7, 10, .inl f_120)), (rw0, .inl (krw0, 40, .inl f_126)), (rw1, .inl (krw1, 4, .inl f_127)), (rw2, .inl (krw2, 4, .inl f_128))]) [2, 3, 4, 5, 6, 7, 0, 1, 8, 9, 10] rfl
                              have hD9 := hD.sub (ws' := [(h0, .inr (8, [.ref l5, .ref l3, .ref l6, .ref l7, .int (nI (kn + 1)), .ref l4, .ref l1, .ref l2, .ref rw0, .ref rw1, .ref rw2, .int z_132, w12, w13, w14, w15, w16, w17, w18, w19, w20, w21, w22, w23, w24, w25, w26, w27, w28, w29, w30, w31, w32, w33, w34])), (l5, .inl (kl5, 30, .inl f_117)), (l3, .inl (kl3, 10, .inl f_118)), (l1, .inl (kl1, 10, .inl f_129)), (l2, .inl (kl2, 10, .inl f_130)), (l4, .inl (kl4, 100, .inl f_131)), (l6, .inl (kl6, 10, .inl fax)), (l7, .inl (kl7, 10, .inl f_120)), (rw0, .inl (krw0, 40, .inl f_126)), (rw1, .inl (krw1, 4, .inl f_127)), (rw2, .inl (krw2, 4, .inl f_128))]) [2, 3, 4, 5, 6, 7, 0, 1, 8, 9, 10] (by decide) rfl
                              have hK9 := hK.sub (tys' := [(kl5, .int), (kl3, .int), (kl1, .int), (kl2, .int), (kl4, .int), (kl6, .int), (kl7, .boolean), (krw0, .int), (krw1, .int), (krw2, .int)]) [2, 3, 4, 5, 6, 0, 1, 7, 8, 9] rfl
                              exact W.iret (v := (nI ((kn + 1) - 1))) hx hb hr (fun t ht hW => ⟨⟨(nI ((kn + 1) - 1)), (), rfl, (by (unfold F_kind; repeat' split) <;> first | rfl | (exfalso; omega)), (kn + 1), f_117, f_118, fax, f_120, f_126, f_127, f_128, f_129, f_130, f_131, z_132, (K_yes (show nI kn = F_kind kn (nI j_114) n2 n3 n4 from (by (unfold F_kind; repeat' split) <;> first | rfl | (exfalso; omega))) (by omega)), (KB_yes (show nI kn = F_kind kn (nI j_114) n2 n3 n4 from (by (unfold F_kind; repeat' split) <;> first | rfl | (exfalso; omega))) (by omega) ef_120), (KA_yes (m := j_114) (show nI kn = F_kind kn (nI j_114) n2 n3 n4 from (by (unfold F_kind; repeat' split) <;> first | rfl | (exfalso; omega))) (by omega) (nI_clamp (by omega)) (by rw [hax, show k = j_114 from (by omega)])), (by omega), p_133, p_134, p_135, p_136, by rw [ht]; exact hP9, va_K.moved hW.alike hK9, hD9⟩, hS.F ht⟩) hS.2.2 dX9_kind_248
                            · have b_124 := gn_ge (X := ((k : Nat) : Int)) (C := ((j_114 : Nat) : Int)) (nI_toInt (by omega)) (nI_toInt (by omega)) c_123
                              refine lv_aload_n hx hb dX9_kind_178 rfl (lv_at hl 2 rfl) ?_
                              refine va_get (D := (dC, dI)) (ci := 8) (v := .ref l5) (C := RX9) (T := TX9) (N := 35) hx hb hts inB_9 hown hK hP 0 rfl rfl 0 (by decide) (hts _ mw_3_182) (fun _ h9 => h9) rfl dX9_kind_179 ?_
                              refine lv_iconst (v := 3) hx hb dX9_kind_182 (by decide) ?_
                              refine lv_aload_n hx hb dX9_kind_183 rfl (lv_at hl 2 rfl) ?_
                              refine va_get (D := (dC, dI)) (ci := 8) (v := .int (nI kn)) (C := RX9) (T := TX9) (N := 35) hx hb hts inB_9 hown hK hP 0 rfl rfl 4 (by decide) (hts _ mw_3_186) (fun _ h9 => h9) rfl dX9_kind_184 ?_
                              refine lv_imul hx hb dX9_kind_187 ?_
                              refine hx_top (y := (nI (3 * kn))) (pk_mul 3 kn) ?_
                              refine lv_iload hx hb dX9_kind_188 (lv_at hl 0 rfl) ?_
                              refine lv_iadd hx hb dX9_kind_190 ?_
                              refine hx_top (y := (nI ((3 * kn) + k))) (nI_add (3 * kn) k) ?_
                              refine va_iald hx hb hK hP 1 0 rfl rfl (show vp_in (nI ((3 * kn) + k)) 30 from vp_in_nI (by omega) (by omega)) dX9_kind_191 ?_
                              refine hx_top (y := (f_117 ((3 * kn) + k))) (congrArg _ (nI_clamp (by omega))) ?_
                              obtain ⟨n_137, hn_137, en_137⟩ := hprk k (by omega)
                              refine hx_top (y := (nI n_137)) en_137 ?_
                              refine lv_istore (lv' := [(7, .int (nI n_137)), (6, .int (nI k)), (5, .int 1), (0, .ref h0), (1, .int (nI j_114)), (2, .int n2), (3, .int n3), (4, .int n4)]) hx hb dX9_kind_192 hl (by decide) rfl (fun ls hl => ?_)
                              refine lv_aload_n hx hb dX9_kind_194 rfl (lv_at hl 3 rfl) ?_
                              refine va_get (D := (dC, dI)) (ci := 8) (v := .ref l6) (C := RX9) (T := TX9) (N := 35) hx hb hts inB_9 hown hK hP 0 rfl rfl 2 (by decide) (hts _ mw_3_184) (fun _ h9 => h9) rfl dX9_kind_195 ?_
                              refine lv_aload_n hx hb dX9_kind_198 rfl (lv_at hl 3 rfl) ?_
                              refine va_get (D := (dC, dI)) (ci := 8) (v := .int (nI kn)) (C := RX9) (T := TX9) (N := 35) hx hb hts inB_9 hown hK hP 0 rfl rfl 4 (by decide) (hts _ mw_3_186) (fun _ h9 => h9) rfl dX9_kind_199 ?_
                              refine lv_dup2_11 hx hb dX9_kind_202 rfl rfl ?_
                              refine va_iald hx hb hK hP 6 5 rfl rfl (show vp_in (nI kn) 10 from vp_in_nI (by omega) (by omega)) dX9_kind_203 ?_
                              refine hx_top (y := (fax kn)) (congrArg _ (nI_clamp (by omega))) ?_
                              refine lv_aload_n hx hb dX9_kind_204 rfl (lv_at hl 3 rfl) ?_
                              refine va_get (D := (dC, dI)) (ci := 8) (v := .ref l6) (C := RX9) (T := TX9) (N := 35) hx hb hts inB_9 hown hK hP 0 rfl rfl 2 (by decide) (hts _ mw_3_184) (fun _ h9 => h9) rfl dX9_kind_205 ?_
                              refine lv_iload hx hb dX9_kind_208 (lv_at hl 0 rfl) ?_
                              refine va_iald hx hb hK hP 6 5 rfl rfl (show vp_in (nI n_137) 10 from vp_in_nI (by omega) (by omega)) dX9_kind_210 ?_
                              refine hx_top (y := (fax n_137)) (congrArg _ (nI_clamp (by omega))) ?_
                              refine lv_iconst (v := 1) hx hb dX9_kind_211 (by decide) ?_
                              refine lv_iload hx hb dX9_kind_212 (lv_at hl 0 rfl) ?_
                              refine lv_ishl hx hb dX9_kind_214 ?_
                              refine lv_ior hx hb dX9_kind_215 ?_
                              refine lv_ior hx hb dX9_kind_216 ?_
                              refine va_iast hx hb hK hP hD hS 6 5 rfl rfl (show vp_in (nI kn) 10 from vp_in_nI (by omega) (by omega)) dX9_kind_217 (fun H locs hP hD hS => ?_)
                              obtain ⟨f_138, ef_138⟩ : ∃ g : Nat → Int32, g = upd fax (Int32.toNatClampNeg (nI kn)) ((fax kn) ||| ((fax n_137) ||| (1 <<< ((nI n_137) &&& 31)))) := ⟨_, rfl⟩
                              rw [← ef_138] at hP hD
                              have ef_138 : f_138 = upd fax kn ((fax kn) ||| ((fax n_137) ||| (1 <<< ((nI n_137) &&& 31)))) := by rw [ef_138, nI_clamp (by omega)]
                              have hP : va_P (dC, dI) vwCl [(h0, .inr (8, [.ref l5, .ref l3, .ref l6, .ref l7, .int (nI kn), .ref l4, .ref l1, .ref l2, .ref rw0, .ref rw1, .ref rw2, .int rm0, w12, w13, w14, w15, w16, w17, w18, w19, w20, w21, w22, w23, w24, w25, w26, w27, w28, w29, w30, w31, w32, w33, w34])), (l5, .inl (kl5, 30, .inl f_117)), (l3, .inl (kl3, 10, .inl f_118)), (l1, .inl (kl1, 10, .inl fll)), (l2, .inl (kl2, 10, .inl fmq)), (l4, .inl (kl4, 100, .inl fln)), (l6, .inl (kl6, 10, .inl f_138)), (l7, .inl (kl7, 10, .inl f_120)), (rw0, .inl (krw0, 40, .inl frw)), (rw1, .inl (krw1, 4, .inl fat)), (rw2, .inl (krw2, 4, .inl fen))] H := hP
                              have hD : va_D A [(h0, .inr (8, [.ref l5, .ref l3, .ref l6, .ref l7, .int (nI kn), .ref l4, .ref l1, .ref l2, .ref rw0, .ref rw1, .ref rw2, .int rm0, w12, w13, w14, w15, w16, w17, w18, w19, w20, w21, w22, w23, w24, w25, w26, w27, w28, w29, w30, w31, w32, w33, w34])), (l5, .inl (kl5, 30, .inl f_117)), (l3, .inl (kl3, 10, .inl f_118)), (l1, .inl (kl1, 10, .inl fll)), (l2, .inl (kl2, 10, .inl fmq)), (l4, .inl (kl4, 100, .inl fln)), (l6, .inl (kl6, 10, .inl f_138)), (l7, .inl (kl7, 10, .inl f_120)), (rw0, .inl (krw0, 40, .inl frw)), (rw1, .inl (krw1, 4, .inl fat)), (rw2, .inl (krw2, 4, .inl fen))] := hD
                              refine lv_iinc (v := (nI (k + 1))) (lv' := [(6, .int (nI (k + 1))), (7, .int (nI n_137)), (5, .int 1), (0, .ref h0), (1, .int (nI j_114)), (2, .int n2), (3, .int n3), (4, .int n4)]) hx hb dX9_kind_218 hl (k := 1) rfl (nI_add k 1) (by decide) rfl (fun ls hl => ?_)
                              refine lv_goto (tgt := 172) hx hb dX9_kind_221 (by decide) ?_
                              exact ih_122 (k + 1) f_138 (by omega) (ab_stepM hax ((hpp k (by omega)).symm.trans en_137) (by omega) (by omega) ef_138) (by omega) _ _ hP hD hS ls (lv_sub hl [0, 2, 3, 4, 5, 6, 7] rfl)
                        exact key_121 ((j_114 - 0) + 1) 0 f_119 (by omega) ef_119 (Nat.lt_succ_self _) _ _ hP hD hS ls (lv_sub hl [0, 1, 2, 3, 4, 5, 6] rfl)
                      · have b_113 := gn_ne (X := ((kn : Nat) : Int)) (C := 10) (nI_toInt (by omega)) (by decide) c_112
                        refine lv_bipush (v := (-4)) hx hb dX9_kind_95 (by decide) ?_
                        have hP9 := hP.sub (ws' := [(h0, .inr (8, [.ref l5, .ref l3, .ref l6, .ref l7, .int (nI kn), .ref l4, .ref l1, .ref l2, .ref rw0, .ref rw1, .ref rw2, .int rm0, w12, w13, w14, w15, w16, w17, w18, w19, w20, w21, w22, w23, w24, w25, w26, w27, w28, w29, w30, w31, w32, w33, w34])), (l5, .inl (kl5, 30, .inl fpr)), (l3, .inl (kl3, 10, .inl fpm)), (l1, .inl (kl1, 10, .inl fll)), (l2, .inl (kl2, 10, .inl fmq)), (l4, .inl (kl4, 100, .inl fln)), (l6, .inl (kl6, 10, .inl fma)), (l7, .inl (kl7, 10, .inl fib)), (rw0, .inl (krw0, 40, .inl frw)), (rw1, .inl (krw1, 4, .inl fat)), (rw2, .inl (krw2, 4, .inl fen))]) [0, 1, 2, 3, 4, 5, 6, 7, 8, 9, 10] rfl
                        have hD9 := hD.sub (ws' := [(h0, .inr (8, [.ref l5, .ref l3, .ref l6, .ref l7, .int (nI kn), .ref l4, .ref l1, .ref l2, .ref rw0, .ref rw1, .ref rw2, .int rm0, w12, w13, w14, w15, w16, w17, w18, w19, w20, w21, w22, w23, w24, w25, w26, w27, w28, w29, w30, w31, w32, w33, w34])), (l5, .inl (kl5, 30, .inl fpr)), (l3, .inl (kl3, 10, .inl fpm)), (l1, .inl (kl1, 10, .inl fll)), (l2, .inl (kl2, 10, .inl fmq)), (l4, .inl (kl4, 100, .inl fln)), (l6, .inl (kl6, 10, .inl fma)), (l7, .inl (kl7, 10, .inl fib)), (rw0, .inl (krw0, 40, .inl frw)), (rw1, .inl (krw1, 4, .inl fat)), (rw2, .inl (krw2, 4, .inl fen))]) [0, 1, 2, 3, 4, 5, 6, 7, 8, 9, 10] (by decide) rfl
                        have hK9 := hK.sub (tys' := [(kl5, .int), (kl3, .int), (kl1, .int), (kl2, .int), (kl4, .int), (kl6, .int), (kl7, .boolean), (krw0, .int), (krw1, .int), (krw2, .int)]) [0, 1, 2, 3, 4, 5, 6, 7, 8, 9] rfl
                        exact W.iret (v := (-4)) hx hb hr (fun t ht hW => ⟨⟨(-4), (), rfl, (by (unfold F_kind; repeat' split) <;> first | rfl | (exfalso; omega)), kn, fpr, fpm, fma, fib, frw, fat, fen, fll, fmq, fln, rm0, (K_no (v := (-4)) (show ((-4) : Int32) = F_kind kn n1 n2 n3 n4 from (by (unfold F_kind; repeat' split) <;> first | rfl | (exfalso; omega))) (by decide)), (KB_no (v := (-4)) (show ((-4) : Int32) = F_kind kn n1 n2 n3 n4 from (by (unfold F_kind; repeat' split) <;> first | rfl | (exfalso; omega))) (by decide)), (KA_no (v := (-4)) (show ((-4) : Int32) = F_kind kn n1 n2 n3 n4 from (by (unfold F_kind; repeat' split) <;> first | rfl | (exfalso; omega))) (by decide)), hkn, hll, hln, hfat, hfen, by rw [ht]; exact hP9, va_K.moved hW.alike hK9, hD9⟩, hS.F ht⟩) hS.2.2 dX9_kind_97
                    · skip
                      refine lv_if_ne (tgt := 86) hx hb dX9_kind_80 (by decide) (fun h => absurd h (by decide)) (fun _ => ?_)
                      refine lv_bipush (v := (-2)) hx hb dX9_kind_83 (by decide) ?_
                      have hP9 := hP.sub (ws' := [(h0, .inr (8, [.ref l5, .ref l3, .ref l6, .ref l7, .int (nI kn), .ref l4, .ref l1, .ref l2, .ref rw0, .ref rw1, .ref rw2, .int rm0, w12, w13, w14, w15, w16, w17, w18, w19, w20, w21, w22, w23, w24, w25, w26, w27, w28, w29, w30, w31, w32, w33, w34])), (l5, .inl (kl5, 30, .inl fpr)), (l3, .inl (kl3, 10, .inl fpm)), (l1, .inl (kl1, 10, .inl fll)), (l2, .inl (kl2, 10, .inl fmq)), (l4, .inl (kl4, 100, .inl fln)), (l6, .inl (kl6, 10, .inl fma)), (l7, .inl (kl7, 10, .inl fib)), (rw0, .inl (krw0, 40, .inl frw)), (rw1, .inl (krw1, 4, .inl fat)), (rw2, .inl (krw2, 4, .inl fen))]) [0, 1, 2, 3, 4, 5, 6, 7, 8, 9, 10] rfl
                      have hD9 := hD.sub (ws' := [(h0, .inr (8, [.ref l5, .ref l3, .ref l6, .ref l7, .int (nI kn), .ref l4, .ref l1, .ref l2, .ref rw0, .ref rw1, .ref rw2, .int rm0, w12, w13, w14, w15, w16, w17, w18, w19, w20, w21, w22, w23, w24, w25, w26, w27, w28, w29, w30, w31, w32, w33, w34])), (l5, .inl (kl5, 30, .inl fpr)), (l3, .inl (kl3, 10, .inl fpm)), (l1, .inl (kl1, 10, .inl fll)), (l2, .inl (kl2, 10, .inl fmq)), (l4, .inl (kl4, 100, .inl fln)), (l6, .inl (kl6, 10, .inl fma)), (l7, .inl (kl7, 10, .inl fib)), (rw0, .inl (krw0, 40, .inl frw)), (rw1, .inl (krw1, 4, .inl fat)), (rw2, .inl (krw2, 4, .inl fen))]) [0, 1, 2, 3, 4, 5, 6, 7, 8, 9, 10] (by decide) rfl
                      have hK9 := hK.sub (tys' := [(kl5, .int), (kl3, .int), (kl1, .int), (kl2, .int), (kl4, .int), (kl6, .int), (kl7, .boolean), (krw0, .int), (krw1, .int), (krw2, .int)]) [0, 1, 2, 3, 4, 5, 6, 7, 8, 9] rfl
                      exact W.iret (v := (-2)) hx hb hr (fun t ht hW => ⟨⟨(-2), (), rfl, (by (unfold F_kind; repeat' split) <;> first | rfl | (exfalso; omega)), kn, fpr, fpm, fma, fib, frw, fat, fen, fll, fmq, fln, rm0, (K_no (v := (-2)) (show ((-2) : Int32) = F_kind kn n1 n2 n3 n4 from (by (unfold F_kind; repeat' split) <;> first | rfl | (exfalso; omega))) (by decide)), (KB_no (v := (-2)) (show ((-2) : Int32) = F_kind kn n1 n2 n3 n4 from (by (unfold F_kind; repeat' split) <;> first | rfl | (exfalso; omega))) (by decide)), (KA_no (v := (-2)) (show ((-2) : Int32) = F_kind kn n1 n2 n3 n4 from (by (unfold F_kind; repeat' split) <;> first | rfl | (exfalso; omega))) (by decide)), hkn, hll, hln, hfat, hfen, by rw [ht]; exact hP9, va_K.moved hW.alike hK9, hD9⟩, hS.F ht⟩) hS.2.2 dX9_kind_85
              · skip
                refine lv_if_eq (tgt := 61) hx hb dX9_kind_42 (by decide) (fun _ => ?_) (fun h => absurd (by decide) h)
                refine lv_iconst (v := 0) hx hb dX9_kind_61 (by decide) ?_
                refine lv_istore (lv' := [(5, .int 0), (0, .ref h0), (1, .int n1), (2, .int n2), (3, .int n3), (4, .int n4)]) hx hb dX9_kind_62 hl (by decide) rfl (fun ls hl => ?_)
                refine lv_iload hx hb dX9_kind_64 (lv_at hl 0 rfl) ?_
                refine lv_if_ne (tgt := 71) hx hb dX9_kind_66 (by decide) (fun h => absurd h (by decide)) (fun _ => ?_)
                refine lv_iconst (v := (-1)) hx hb dX9_kind_69 (by decide) ?_
                have hP9 := hP.sub (ws' := [(h0, .inr (8, [.ref l5, .ref l3, .ref l6, .ref l7, .int (nI kn), .ref l4, .ref l1, .ref l2, .ref rw0, .ref rw1, .ref rw2, .int rm0, w12, w13, w14, w15, w16, w17, w18, w19, w20, w21, w22, w23, w24, w25, w26, w27, w28, w29, w30, w31, w32, w33, w34])), (l5, .inl (kl5, 30, .inl fpr)), (l3, .inl (kl3, 10, .inl fpm)), (l1, .inl (kl1, 10, .inl fll)), (l2, .inl (kl2, 10, .inl fmq)), (l4, .inl (kl4, 100, .inl fln)), (l6, .inl (kl6, 10, .inl fma)), (l7, .inl (kl7, 10, .inl fib)), (rw0, .inl (krw0, 40, .inl frw)), (rw1, .inl (krw1, 4, .inl fat)), (rw2, .inl (krw2, 4, .inl fen))]) [0, 1, 2, 3, 4, 5, 6, 7, 8, 9, 10] rfl
                have hD9 := hD.sub (ws' := [(h0, .inr (8, [.ref l5, .ref l3, .ref l6, .ref l7, .int (nI kn), .ref l4, .ref l1, .ref l2, .ref rw0, .ref rw1, .ref rw2, .int rm0, w12, w13, w14, w15, w16, w17, w18, w19, w20, w21, w22, w23, w24, w25, w26, w27, w28, w29, w30, w31, w32, w33, w34])), (l5, .inl (kl5, 30, .inl fpr)), (l3, .inl (kl3, 10, .inl fpm)), (l1, .inl (kl1, 10, .inl fll)), (l2, .inl (kl2, 10, .inl fmq)), (l4, .inl (kl4, 100, .inl fln)), (l6, .inl (kl6, 10, .inl fma)), (l7, .inl (kl7, 10, .inl fib)), (rw0, .inl (krw0, 40, .inl frw)), (rw1, .inl (krw1, 4, .inl fat)), (rw2, .inl (krw2, 4, .inl fen))]) [0, 1, 2, 3, 4, 5, 6, 7, 8, 9, 10] (by decide) rfl
                have hK9 := hK.sub (tys' := [(kl5, .int), (kl3, .int), (kl1, .int), (kl2, .int), (kl4, .int), (kl6, .int), (kl7, .boolean), (krw0, .int), (krw1, .int), (krw2, .int)]) [0, 1, 2, 3, 4, 5, 6, 7, 8, 9] rfl
                exact W.iret (v := (-1)) hx hb hr (fun t ht hW => ⟨⟨(-1), (), rfl, (by (unfold F_kind; repeat' split) <;> first | rfl | (exfalso; omega)), kn, fpr, fpm, fma, fib, frw, fat, fen, fll, fmq, fln, rm0, (K_no (v := (-1)) (show ((-1) : Int32) = F_kind kn n1 n2 n3 n4 from (by (unfold F_kind; repeat' split) <;> first | rfl | (exfalso; omega))) (by decide)), (KB_no (v := (-1)) (show ((-1) : Int32) = F_kind kn n1 n2 n3 n4 from (by (unfold F_kind; repeat' split) <;> first | rfl | (exfalso; omega))) (by decide)), (KA_no (v := (-1)) (show ((-1) : Int32) = F_kind kn n1 n2 n3 n4 from (by (unfold F_kind; repeat' split) <;> first | rfl | (exfalso; omega))) (by decide)), hkn, hll, hln, hfat, hfen, by rw [ht]; exact hP9, va_K.moved hW.alike hK9, hD9⟩, hS.F ht⟩) hS.2.2 dX9_kind_70
        · skip
          refine lv_if_eq (tgt := 61) hx hb dX9_kind_23 (by decide) (fun _ => ?_) (fun h => absurd (by decide) h)
          refine lv_iconst (v := 0) hx hb dX9_kind_61 (by decide) ?_
          refine lv_istore (lv' := [(5, .int 0), (0, .ref h0), (1, .int n1), (2, .int n2), (3, .int n3), (4, .int n4)]) hx hb dX9_kind_62 hl (by decide) rfl (fun ls hl => ?_)
          refine lv_iload hx hb dX9_kind_64 (lv_at hl 0 rfl) ?_
          refine lv_if_ne (tgt := 71) hx hb dX9_kind_66 (by decide) (fun h => absurd h (by decide)) (fun _ => ?_)
          refine lv_iconst (v := (-1)) hx hb dX9_kind_69 (by decide) ?_
          have hP9 := hP.sub (ws' := [(h0, .inr (8, [.ref l5, .ref l3, .ref l6, .ref l7, .int (nI kn), .ref l4, .ref l1, .ref l2, .ref rw0, .ref rw1, .ref rw2, .int rm0, w12, w13, w14, w15, w16, w17, w18, w19, w20, w21, w22, w23, w24, w25, w26, w27, w28, w29, w30, w31, w32, w33, w34])), (l5, .inl (kl5, 30, .inl fpr)), (l3, .inl (kl3, 10, .inl fpm)), (l1, .inl (kl1, 10, .inl fll)), (l2, .inl (kl2, 10, .inl fmq)), (l4, .inl (kl4, 100, .inl fln)), (l6, .inl (kl6, 10, .inl fma)), (l7, .inl (kl7, 10, .inl fib)), (rw0, .inl (krw0, 40, .inl frw)), (rw1, .inl (krw1, 4, .inl fat)), (rw2, .inl (krw2, 4, .inl fen))]) [0, 1, 2, 3, 4, 5, 6, 7, 8, 9, 10] rfl
          have hD9 := hD.sub (ws' := [(h0, .inr (8, [.ref l5, .ref l3, .ref l6, .ref l7, .int (nI kn), .ref l4, .ref l1, .ref l2, .ref rw0, .ref rw1, .ref rw2, .int rm0, w12, w13, w14, w15, w16, w17, w18, w19, w20, w21, w22, w23, w24, w25, w26, w27, w28, w29, w30, w31, w32, w33, w34])), (l5, .inl (kl5, 30, .inl fpr)), (l3, .inl (kl3, 10, .inl fpm)), (l1, .inl (kl1, 10, .inl fll)), (l2, .inl (kl2, 10, .inl fmq)), (l4, .inl (kl4, 100, .inl fln)), (l6, .inl (kl6, 10, .inl fma)), (l7, .inl (kl7, 10, .inl fib)), (rw0, .inl (krw0, 40, .inl frw)), (rw1, .inl (krw1, 4, .inl fat)), (rw2, .inl (krw2, 4, .inl fen))]) [0, 1, 2, 3, 4, 5, 6, 7, 8, 9, 10] (by decide) rfl
          have hK9 := hK.sub (tys' := [(kl5, .int), (kl3, .int), (kl1, .int), (kl2, .int), (kl4, .int), (kl6, .int), (kl7, .boolean), (krw0, .int), (krw1, .int), (krw2, .int)]) [0, 1, 2, 3, 4, 5, 6, 7, 8, 9] rfl
          exact W.iret (v := (-1)) hx hb hr (fun t ht hW => ⟨⟨(-1), (), rfl, (by (unfold F_kind; repeat' split) <;> first | rfl | (exfalso; omega)), kn, fpr, fpm, fma, fib, frw, fat, fen, fll, fmq, fln, rm0, (K_no (v := (-1)) (show ((-1) : Int32) = F_kind kn n1 n2 n3 n4 from (by (unfold F_kind; repeat' split) <;> first | rfl | (exfalso; omega))) (by decide)), (KB_no (v := (-1)) (show ((-1) : Int32) = F_kind kn n1 n2 n3 n4 from (by (unfold F_kind; repeat' split) <;> first | rfl | (exfalso; omega))) (by decide)), (KA_no (v := (-1)) (show ((-1) : Int32) = F_kind kn n1 n2 n3 n4 from (by (unfold F_kind; repeat' split) <;> first | rfl | (exfalso; omega))) (by decide)), hkn, hll, hln, hfat, hfen, by rw [ht]; exact hP9, va_K.moved hW.alike hK9, hD9⟩, hS.F ht⟩) hS.2.2 dX9_kind_70
    · skip
      refine lv_if_eq (tgt := 61) hx hb dX9_kind_10 (by decide) (fun _ => ?_) (fun h => absurd (by decide) h)
      refine lv_iconst (v := 0) hx hb dX9_kind_61 (by decide) ?_
      refine lv_istore (lv' := [(5, .int 0), (0, .ref h0), (1, .int n1), (2, .int n2), (3, .int n3), (4, .int n4)]) hx hb dX9_kind_62 hl (by decide) rfl (fun ls hl => ?_)
      refine lv_iload hx hb dX9_kind_64 (lv_at hl 0 rfl) ?_
      refine lv_if_ne (tgt := 71) hx hb dX9_kind_66 (by decide) (fun h => absurd h (by decide)) (fun _ => ?_)
      refine lv_iconst (v := (-1)) hx hb dX9_kind_69 (by decide) ?_
      have hP9 := hP.sub (ws' := [(h0, .inr (8, [.ref l5, .ref l3, .ref l6, .ref l7, .int (nI kn), .ref l4, .ref l1, .ref l2, .ref rw0, .ref rw1, .ref rw2, .int rm0, w12, w13, w14, w15, w16, w17, w18, w19, w20, w21, w22, w23, w24, w25, w26, w27, w28, w29, w30, w31, w32, w33, w34])), (l5, .inl (kl5, 30, .inl fpr)), (l3, .inl (kl3, 10, .inl fpm)), (l1, .inl (kl1, 10, .inl fll)), (l2, .inl (kl2, 10, .inl fmq)), (l4, .inl (kl4, 100, .inl fln)), (l6, .inl (kl6, 10, .inl fma)), (l7, .inl (kl7, 10, .inl fib)), (rw0, .inl (krw0, 40, .inl frw)), (rw1, .inl (krw1, 4, .inl fat)), (rw2, .inl (krw2, 4, .inl fen))]) [0, 1, 2, 3, 4, 5, 6, 7, 8, 9, 10] rfl
      have hD9 := hD.sub (ws' := [(h0, .inr (8, [.ref l5, .ref l3, .ref l6, .ref l7, .int (nI kn), .ref l4, .ref l1, .ref l2, .ref rw0, .ref rw1, .ref rw2, .int rm0, w12, w13, w14, w15, w16, w17, w18, w19, w20, w21, w22, w23, w24, w25, w26, w27, w28, w29, w30, w31, w32, w33, w34])), (l5, .inl (kl5, 30, .inl fpr)), (l3, .inl (kl3, 10, .inl fpm)), (l1, .inl (kl1, 10, .inl fll)), (l2, .inl (kl2, 10, .inl fmq)), (l4, .inl (kl4, 100, .inl fln)), (l6, .inl (kl6, 10, .inl fma)), (l7, .inl (kl7, 10, .inl fib)), (rw0, .inl (krw0, 40, .inl frw)), (rw1, .inl (krw1, 4, .inl fat)), (rw2, .inl (krw2, 4, .inl fen))]) [0, 1, 2, 3, 4, 5, 6, 7, 8, 9, 10] (by decide) rfl
      have hK9 := hK.sub (tys' := [(kl5, .int), (kl3, .int), (kl1, .int), (kl2, .int), (kl4, .int), (kl6, .int), (kl7, .boolean), (krw0, .int), (krw1, .int), (krw2, .int)]) [0, 1, 2, 3, 4, 5, 6, 7, 8, 9] rfl
      exact W.iret (v := (-1)) hx hb hr (fun t ht hW => ⟨⟨(-1), (), rfl, (by (unfold F_kind; repeat' split) <;> first | rfl | (exfalso; omega)), kn, fpr, fpm, fma, fib, frw, fat, fen, fll, fmq, fln, rm0, (K_no (v := (-1)) (show ((-1) : Int32) = F_kind kn n1 n2 n3 n4 from (by (unfold F_kind; repeat' split) <;> first | rfl | (exfalso; omega))) (by decide)), (KB_no (v := (-1)) (show ((-1) : Int32) = F_kind kn n1 n2 n3 n4 from (by (unfold F_kind; repeat' split) <;> first | rfl | (exfalso; omega))) (by decide)), (KA_no (v := (-1)) (show ((-1) : Int32) = F_kind kn n1 n2 n3 n4 from (by (unfold F_kind; repeat' split) <;> first | rfl | (exfalso; omega))) (by decide)), hkn, hll, hln, hfat, hfen, by rw [ht]; exact hP9, va_K.moved hW.alike hK9, hD9⟩, hS.F ht⟩) hS.2.2 dX9_kind_70
