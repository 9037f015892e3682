theorem mw_3_183 : Cond.fieldLink RX9 13 "AnswerLinesModel" "parentMany" "[I" ∈ BG := mB (t3 (i := 183) (by decide +kernel)) (by decide +kernel)
theorem mw_4_68 : Cond.code yX9_nextHead cX9_nextHead 4 (some .int) ∈ BG := mB (t4 (i := 68) rfl) (by decide +kernel)
theorem mw_4_65 : Cond.methodLink RX9 116 yX9_nextHead ∈ BG := mB (t4 (i := 65) (by decide +kernel)) (by decide +kernel)
theorem mw_4_67 : Cond.instanceMethod yX9_nextHead ∈ BG := mB (t4 (i := 67) (by decide +kernel)) (by decide +kernel)
theorem mw_0_17 : Cond.selects RX9 yX9_nextHead yX9_nextHead ∈ BG := mB (t0 (i := 17) (by decide +kernel)) (by decide +kernel)
theorem mw_3_182 : Cond.fieldLink RX9 7 "AnswerLinesModel" "parents" "[I" ∈ BG := mB (t3 (i := 182) (by decide +kernel)) (by decide +kernel)
theorem dX9_layLine_0 : decode cX9_layLine 0 = .ok (.aload_n 0, 1) := by decide +kernel
theorem dX9_layLine_1 : decode cX9_layLine 1 = .ok (.getfield 26, 3) := by decide +kernel
theorem dX9_layLine_4 : decode cX9_layLine 4 = .ok (.iload_n 1, 1) := by decide +kernel
theorem dX9_layLine_5 : decode cX9_layLine 5 = .ok (.iconst 0, 1) := by decide +kernel
theorem dX9_layLine_6 : decode cX9_layLine 6 = .ok (.iastore, 1) := by decide +kernel
theorem dX9_layLine_7 : decode cX9_layLine 7 = .ok (.aload_n 0, 1) := by decide +kernel
theorem dX9_layLine_8 : decode cX9_layLine 8 = .ok (.getfield 29, 3) := by decide +kernel
theorem dX9_layLine_11 : decode cX9_layLine 11 = .ok (.iload_n 1, 1) := by decide +kernel
theorem dX9_layLine_12 : decode cX9_layLine 12 = .ok (.iconst 0, 1) := by decide +kernel
theorem dX9_layLine_13 : decode cX9_layLine 13 = .ok (.iastore, 1) := by decide +kernel
theorem dX9_layLine_14 : decode cX9_layLine 14 = .ok (.aload_n 0, 1) := by decide +kernel
theorem dX9_layLine_15 : decode cX9_layLine 15 = .ok (.aload_n 0, 1) := by decide +kernel
theorem dX9_layLine_16 : decode cX9_layLine 16 = .ok (.getfield 13, 3) := by decide +kernel
theorem dX9_layLine_19 : decode cX9_layLine 19 = .ok (.iload_n 1, 1) := by decide +kernel
theorem dX9_layLine_20 : decode cX9_layLine 20 = .ok (.iaload, 1) := by decide +kernel
theorem dX9_layLine_21 : decode cX9_layLine 21 = .ok (.iconst 1, 1) := by decide +kernel
theorem dX9_layLine_22 : decode cX9_layLine 22 = .ok (.iadd, 1) := by decide +kernel
theorem dX9_layLine_23 : decode cX9_layLine 23 = .ok (.putfield 110, 3) := by decide +kernel
theorem dX9_layLine_26 : decode cX9_layLine 26 = .ok (.iconst 0, 1) := by decide +kernel
theorem dX9_layLine_27 : decode cX9_layLine 27 = .ok (.istore_n 2, 1) := by decide +kernel
theorem dX9_layLine_28 : decode cX9_layLine 28 = .ok (.iload_n 2, 1) := by decide +kernel
theorem dX9_layLine_29 : decode cX9_layLine 29 = .ok (.aload_n 0, 1) := by decide +kernel
theorem dX9_layLine_30 : decode cX9_layLine 30 = .ok (.getfield 13, 3) := by decide +kernel
theorem dX9_layLine_33 : decode cX9_layLine 33 = .ok (.iload_n 1, 1) := by decide +kernel
theorem dX9_layLine_34 : decode cX9_layLine 34 = .ok (.iaload, 1) := by decide +kernel
theorem dX9_layLine_35 : decode cX9_layLine 35 = .ok (.if_icmp .ge 118, 3) := by decide +kernel
theorem dX9_layLine_153 : decode cX9_layLine 153 = .ok (.aload_n 0, 1) := by decide +kernel
theorem dX9_layLine_154 : decode cX9_layLine 154 = .ok (.getfield 35, 3) := by decide +kernel
theorem dX9_layLine_157 : decode cX9_layLine 157 = .ok (.aload_n 0, 1) := by decide +kernel
theorem dX9_layLine_158 : decode cX9_layLine 158 = .ok (.getfield 13, 3) := by decide +kernel
theorem dX9_layLine_161 : decode cX9_layLine 161 = .ok (.iload_n 1, 1) := by decide +kernel
theorem dX9_layLine_162 : decode cX9_layLine 162 = .ok (.iaload, 1) := by decide +kernel
theorem dX9_layLine_163 : decode cX9_layLine 163 = .ok (.iconst 0, 1) := by decide +kernel
theorem dX9_layLine_164 : decode cX9_layLine 164 = .ok (.iastore, 1) := by decide +kernel
theorem dX9_layLine_165 : decode cX9_layLine 165 = .ok (.aload_n 0, 1) := by decide +kernel
theorem dX9_layLine_166 : decode cX9_layLine 166 = .ok (.getfield 38, 3) := by decide +kernel
theorem dX9_layLine_169 : decode cX9_layLine 169 = .ok (.aload_n 0, 1) := by decide +kernel
theorem dX9_layLine_170 : decode cX9_layLine 170 = .ok (.getfield 13, 3) := by decide +kernel
theorem dX9_layLine_173 : decode cX9_layLine 173 = .ok (.iload_n 1, 1) := by decide +kernel
theorem dX9_layLine_174 : decode cX9_layLine 174 = .ok (.iaload, 1) := by decide +kernel
theorem dX9_layLine_175 : decode cX9_layLine 175 = .ok (.aload_n 0, 1) := by decide +kernel
theorem dX9_layLine_176 : decode cX9_layLine 176 = .ok (.getfield 13, 3) := by decide +kernel
theorem dX9_layLine_179 : decode cX9_layLine 179 = .ok (.iload_n 1, 1) := by decide +kernel
theorem dX9_layLine_180 : decode cX9_layLine 180 = .ok (.iaload, 1) := by decide +kernel
theorem dX9_layLine_181 : decode cX9_layLine 181 = .ok (.iastore, 1) := by decide +kernel
theorem dX9_layLine_182 : decode cX9_layLine 182 = .ok (.aload_n 0, 1) := by decide +kernel
theorem dX9_layLine_183 : decode cX9_layLine 183 = .ok (.getfield 23, 3) := by decide +kernel
theorem dX9_layLine_186 : decode cX9_layLine 186 = .ok (.bipush 10, 2) := by decide +kernel
theorem dX9_layLine_188 : decode cX9_layLine 188 = .ok (.iload_n 1, 1) := by decide +kernel
theorem dX9_layLine_189 : decode cX9_layLine 189 = .ok (.imul, 1) := by decide +kernel
theorem dX9_layLine_190 : decode cX9_layLine 190 = .ok (.iload_n 1, 1) := by decide +kernel
theorem dX9_layLine_191 : decode cX9_layLine 191 = .ok (.iastore, 1) := by decide +kernel
theorem dX9_layLine_192 : decode cX9_layLine 192 = .ok (.iconst 1, 1) := by decide +kernel
theorem dX9_layLine_193 : decode cX9_layLine 193 = .ok (.istore_n 2, 1) := by decide +kernel
theorem dX9_layLine_194 : decode cX9_layLine 194 = .ok (.aload_n 0, 1) := by decide +kernel
theorem dX9_layLine_195 : decode cX9_layLine 195 = .ok (.invokevirtual 116, 3) := by decide +kernel
theorem dX9_layLine_198 : decode cX9_layLine 198 = .ok (.istore_n 3, 1) := by decide +kernel
theorem dX9_layLine_199 : decode cX9_layLine 199 = .ok (.iload_n 3, 1) := by decide +kernel
theorem dX9_layLine_200 : decode cX9_layLine 200 = .ok (.ifCond .lt 98, 3) := by decide +kernel
theorem dX9_layLine_298 : decode cX9_layLine 298 = .ok (.iconst 0, 1) := by decide +kernel
theorem dX9_layLine_299 : decode cX9_layLine 299 = .ok (.istore 4, 2) := by decide +kernel
theorem dX9_layLine_301 : decode cX9_layLine 301 = .ok (.iload 4, 2) := by decide +kernel
theorem dX9_layLine_303 : decode cX9_layLine 303 = .ok (.aload_n 0, 1) := by decide +kernel
theorem dX9_layLine_304 : decode cX9_layLine 304 = .ok (.getfield 110, 3) := by decide +kernel
theorem dX9_layLine_307 : decode cX9_layLine 307 = .ok (.if_icmp .ge 59, 3) := by decide +kernel
theorem dX9_layLine_366 : decode cX9_layLine 366 = .ok (.aload_n 0, 1) := by decide +kernel
theorem dX9_layLine_367 : decode cX9_layLine 367 = .ok (.getfield 26, 3) := by decide +kernel
theorem dX9_layLine_370 : decode cX9_layLine 370 = .ok (.iload_n 1, 1) := by decide +kernel
theorem dX9_layLine_371 : decode cX9_layLine 371 = .ok (.aload_n 0, 1) := by decide +kernel
theorem dX9_layLine_372 : decode cX9_layLine 372 = .ok (.getfield 29, 3) := by decide +kernel
theorem dX9_layLine_375 : decode cX9_layLine 375 = .ok (.iload_n 1, 1) := by decide +kernel
theorem dX9_layLine_376 : decode cX9_layLine 376 = .ok (.iaload, 1) := by decide +kernel
theorem dX9_layLine_377 : decode cX9_layLine 377 = .ok (.ifCond .ne 7, 3) := by decide +kernel
theorem dX9_layLine_384 : decode cX9_layLine 384 = .ok (.iconst 0, 1) := by decide +kernel
theorem dX9_layLine_385 : decode cX9_layLine 385 = .ok (.iastore, 1) := by decide +kernel
theorem dX9_layLine_386 : decode cX9_layLine 386 = .ok (.return_, 1) := by decide +kernel
theorem dX9_layLine_380 : decode cX9_layLine 380 = .ok (.iload_n 2, 1) := by decide +kernel
theorem dX9_layLine_381 : decode cX9_layLine 381 = .ok (.goto 4, 3) := by decide +kernel
theorem dX9_layLine_310 : decode cX9_layLine 310 = .ok (.aload_n 0, 1) := by decide +kernel
theorem dX9_layLine_311 : decode cX9_layLine 311 = .ok (.getfield 29, 3) := by decide +kernel
theorem dX9_layLine_314 : decode cX9_layLine 314 = .ok (.iload_n 1, 1) := by decide +kernel
theorem dX9_layLine_315 : decode cX9_layLine 315 = .ok (.dup2, 1) := by decide +kernel
theorem dX9_layLine_316 : decode cX9_layLine 316 = .ok (.iaload, 1) := by decide +kernel
theorem dX9_layLine_317 : decode cX9_layLine 317 = .ok (.aload_n 0, 1) := by decide +kernel
theorem dX9_layLine_318 : decode cX9_layLine 318 = .ok (.getfield 35, 3) := by decide +kernel
theorem dX9_layLine_321 : decode cX9_layLine 321 = .ok (.iload 4, 2) := by decide +kernel
theorem dX9_layLine_323 : decode cX9_layLine 323 = .ok (.iaload, 1) := by decide +kernel
theorem dX9_layLine_324 : decode cX9_layLine 324 = .ok (.aload_n 0, 1) := by decide +kernel
theorem dX9_layLine_325 : decode cX9_layLine 325 = .ok (.getfield 38, 3) := by decide +kernel
theorem dX9_layLine_328 : decode cX9_layLine 328 = .ok (.iload 4, 2) := by decide +kernel
theorem dX9_layLine_330 : decode cX9_layLine 330 = .ok (.iaload, 1) := by decide +kernel
theorem dX9_layLine_331 : decode cX9_layLine 331 = .ok (.if_icmp .ge 26, 3) := by decide +kernel
theorem dX9_layLine_357 : decode cX9_layLine 357 = .ok (.iconst 0, 1) := by decide +kernel
theorem dX9_layLine_358 : decode cX9_layLine 358 = .ok (.ior, 1) := by decide +kernel
theorem dX9_layLine_359 : decode cX9_layLine 359 = .ok (.iastore, 1) := by decide +kernel
theorem dX9_layLine_360 : decode cX9_layLine 360 = .ok (.iinc 4 1, 3) := by decide +kernel
theorem dX9_layLine_363 : decode cX9_layLine 363 = .ok (.goto (-62), 3) := by decide +kernel
theorem dX9_layLine_334 : decode cX9_layLine 334 = .ok (.iconst 1, 1) := by decide +kernel
theorem dX9_layLine_335 : decode cX9_layLine 335 = .ok (.aload_n 0, 1) := by decide +kernel
theorem dX9_layLine_336 : decode cX9_layLine 336 = .ok (.getfield 32, 3) := by decide +kernel
theorem dX9_layLine_339 : decode cX9_layLine 339 = .ok (.bipush 10, 2) := by decide +kernel
theorem dX9_layLine_341 : decode cX9_layLine 341 = .ok (.iload 4, 2) := by decide +kernel
theorem dX9_layLine_343 : decode cX9_layLine 343 = .ok (.imul, 1) := by decide +kernel
theorem dX9_layLine_344 : decode cX9_layLine 344 = .ok (.aload_n 0, 1) := by decide +kernel
theorem dX9_layLine_345 : decode cX9_layLine 345 = .ok (.getfield 35, 3) := by decide +kernel
theorem dX9_layLine_348 : decode cX9_layLine 348 = .ok (.iload 4, 2) := by decide +kernel
theorem dX9_layLine_350 : decode cX9_layLine 350 = .ok (.iaload, 1) := by decide +kernel
theorem dX9_layLine_351 : decode cX9_layLine 351 = .ok (.iadd, 1) := by decide +kernel
theorem dX9_layLine_352 : decode cX9_layLine 352 = .ok (.iaload, 1) := by decide +kernel
theorem dX9_layLine_353 : decode cX9_layLine 353 = .ok (.ishl, 1) := by decide +kernel
theorem dX9_layLine_354 : decode cX9_layLine 354 = .ok (.goto 4, 3) := by decide +kernel
theorem dX9_layLine_203 : decode cX9_layLine 203 = .ok (.aload_n 0, 1) := by decide +kernel
theorem dX9_layLine_204 : decode cX9_layLine 204 = .ok (.getfield 23, 3) := by decide +kernel
theorem dX9_layLine_207 : decode cX9_layLine 207 = .ok (.bipush 10, 2) := by decide +kernel
theorem dX9_layLine_209 : decode cX9_layLine 209 = .ok (.iload_n 1, 1) := by decide +kernel
theorem dX9_layLine_210 : decode cX9_layLine 210 = .ok (.imul, 1) := by decide +kernel
theorem dX9_layLine_211 : decode cX9_layLine 211 = .ok (.iload_n 2, 1) := by decide +kernel
theorem dX9_layLine_212 : decode cX9_layLine 212 = .ok (.iadd, 1) := by decide +kernel
theorem dX9_layLine_213 : decode cX9_layLine 213 = .ok (.iload_n 3, 1) := by decide +kernel
theorem dX9_layLine_214 : decode cX9_layLine 214 = .ok (.iastore, 1) := by decide +kernel
theorem dX9_layLine_215 : decode cX9_layLine 215 = .ok (.iinc 2 1, 3) := by decide +kernel
theorem dX9_layLine_218 : decode cX9_layLine 218 = .ok (.iconst 0, 1) := by decide +kernel
theorem dX9_layLine_219 : decode cX9_layLine 219 = .ok (.istore 4, 2) := by decide +kernel
theorem dX9_layLine_221 : decode cX9_layLine 221 = .ok (.iload 4, 2) := by decide +kernel
theorem dX9_layLine_223 : decode cX9_layLine 223 = .ok (.aload_n 0, 1) := by decide +kernel
theorem dX9_layLine_224 : decode cX9_layLine 224 = .ok (.getfield 110, 3) := by decide +kernel
theorem dX9_layLine_227 : decode cX9_layLine 227 = .ok (.if_icmp .ge 63, 3) := by decide +kernel
theorem dX9_layLine_290 : decode cX9_layLine 290 = .ok (.aload_n 0, 1) := by decide +kernel
theorem dX9_layLine_291 : decode cX9_layLine 291 = .ok (.invokevirtual 116, 3) := by decide +kernel
theorem dX9_layLine_294 : decode cX9_layLine 294 = .ok (.istore_n 3, 1) := by decide +kernel
theorem dX9_layLine_295 : decode cX9_layLine 295 = .ok (.goto (-96), 3) := by decide +kernel
theorem dX9_layLine_230 : decode cX9_layLine 230 = .ok (.aload_n 0, 1) := by decide +kernel
theorem dX9_layLine_231 : decode cX9_layLine 231 = .ok (.getfield 35, 3) := by decide +kernel
theorem dX9_layLine_234 : decode cX9_layLine 234 = .ok (.iload 4, 2) := by decide +kernel
theorem dX9_layLine_236 : decode cX9_layLine 236 = .ok (.dup2, 1) := by decide +kernel
theorem dX9_layLine_237 : decode cX9_layLine 237 = .ok (.iaload, 1) := by decide +kernel
theorem dX9_layLine_238 : decode cX9_layLine 238 = .ok (.aload_n 0, 1) := by decide +kernel
theorem dX9_layLine_239 : decode cX9_layLine 239 = .ok (.getfield 35, 3) := by decide +kernel
theorem dX9_layLine_242 : decode cX9_layLine 242 = .ok (.iload 4, 2) := by decide +kernel
theorem dX9_layLine_244 : decode cX9_layLine 244 = .ok (.iaload, 1) := by decide +kernel
theorem dX9_layLine_245 : decode cX9_layLine 245 = .ok (.aload_n 0, 1) := by decide +kernel
theorem dX9_layLine_246 : decode cX9_layLine 246 = .ok (.getfield 38, 3) := by decide +kernel
theorem dX9_layLine_249 : decode cX9_layLine 249 = .ok (.iload 4, 2) := by decide +kernel
theorem dX9_layLine_251 : decode cX9_layLine 251 = .ok (.iaload, 1) := by decide +kernel
theorem dX9_layLine_252 : decode cX9_layLine 252 = .ok (.if_icmp .ge 29, 3) := by decide +kernel
theorem dX9_layLine_281 : decode cX9_layLine 281 = .ok (.iconst 0, 1) := by decide +kernel
theorem dX9_layLine_282 : decode cX9_layLine 282 = .ok (.iadd, 1) := by decide +kernel
theorem dX9_layLine_283 : decode cX9_layLine 283 = .ok (.iastore, 1) := by decide +kernel
theorem dX9_layLine_284 : decode cX9_layLine 284 = .ok (.iinc 4 1, 3) := by decide +kernel
theorem dX9_layLine_287 : decode cX9_layLine 287 = .ok (.goto (-66), 3) := by decide +kernel
theorem dX9_layLine_255 : decode cX9_layLine 255 = .ok (.aload_n 0, 1) := by decide +kernel
theorem dX9_layLine_256 : decode cX9_layLine 256 = .ok (.getfield 32, 3) := by decide +kernel
theorem dX9_layLine_259 : decode cX9_layLine 259 = .ok (.bipush 10, 2) := by decide +kernel
theorem dX9_layLine_261 : decode cX9_layLine 261 = .ok (.iload 4, 2) := by decide +kernel
theorem dX9_layLine_263 : decode cX9_layLine 263 = .ok (.imul, 1) := by decide +kernel
theorem dX9_layLine_264 : decode cX9_layLine 264 = .ok (.aload_n 0, 1) := by decide +kernel
theorem dX9_layLine_265 : decode cX9_layLine 265 = .ok (.getfield 35, 3) := by decide +kernel
theorem dX9_layLine_268 : decode cX9_layLine 268 = .ok (.iload 4, 2) := by decide +kernel
theorem dX9_layLine_270 : decode cX9_layLine 270 = .ok (.iaload, 1) := by decide +kernel
theorem dX9_layLine_271 : decode cX9_layLine 271 = .ok (.iadd, 1) := by decide +kernel
theorem dX9_layLine_272 : decode cX9_layLine 272 = .ok (.iaload, 1) := by decide +kernel
theorem dX9_layLine_273 : decode cX9_layLine 273 = .ok (.iload_n 3, 1) := by decide +kernel
theorem dX9_layLine_274 : decode cX9_layLine 274 = .ok (.if_icmp .ne 7, 3) := by decide +kernel
theorem dX9_layLine_277 : decode cX9_layLine 277 = .ok (.iconst 1, 1) := by decide +kernel
theorem dX9_layLine_278 : decode cX9_layLine 278 = .ok (.goto 4, 3) := by decide +kernel
theorem dX9_layLine_38 : decode cX9_layLine 38 = .ok (.aload_n 0, 1) := by decide +kernel
theorem dX9_layLine_39 : decode cX9_layLine 39 = .ok (.getfield 7, 3) := by decide +kernel
theorem dX9_layLine_42 : decode cX9_layLine 42 = .ok (.iconst 3, 1) := by decide +kernel
theorem dX9_layLine_43 : decode cX9_layLine 43 = .ok (.iload_n 1, 1) := by decide +kernel
theorem dX9_layLine_44 : decode cX9_layLine 44 = .ok (.imul, 1) := by decide +kernel
theorem dX9_layLine_45 : decode cX9_layLine 45 = .ok (.iload_n 2, 1) := by decide +kernel
theorem dX9_layLine_46 : decode cX9_layLine 46 = .ok (.iadd, 1) := by decide +kernel
theorem dX9_layLine_47 : decode cX9_layLine 47 = .ok (.iaload, 1) := by decide +kernel
theorem dX9_layLine_48 : decode cX9_layLine 48 = .ok (.istore_n 3, 1) := by decide +kernel
theorem dX9_layLine_49 : decode cX9_layLine 49 = .ok (.aload_n 0, 1) := by decide +kernel
theorem dX9_layLine_50 : decode cX9_layLine 50 = .ok (.getfield 26, 3) := by decide +kernel
theorem dX9_layLine_53 : decode cX9_layLine 53 = .ok (.iload_n 3, 1) := by decide +kernel
theorem dX9_layLine_54 : decode cX9_layLine 54 = .ok (.iaload, 1) := by decide +kernel
theorem dX9_layLine_55 : decode cX9_layLine 55 = .ok (.ifCond .ne 12, 3) := by decide +kernel
theorem dX9_layLine_67 : decode cX9_layLine 67 = .ok (.aload_n 0, 1) := by decide +kernel
theorem dX9_layLine_68 : decode cX9_layLine 68 = .ok (.getfield 35, 3) := by decide +kernel
theorem dX9_layLine_71 : decode cX9_layLine 71 = .ok (.iload_n 2, 1) := by decide +kernel
theorem dX9_layLine_72 : decode cX9_layLine 72 = .ok (.iconst 0, 1) := by decide +kernel
theorem dX9_layLine_73 : decode cX9_layLine 73 = .ok (.iastore, 1) := by decide +kernel
theorem dX9_layLine_74 : decode cX9_layLine 74 = .ok (.aload_n 0, 1) := by decide +kernel
theorem dX9_layLine_75 : decode cX9_layLine 75 = .ok (.getfield 38, 3) := by decide +kernel
theorem dX9_layLine_78 : decode cX9_layLine 78 = .ok (.iload_n 2, 1) := by decide +kernel
theorem dX9_layLine_79 : decode cX9_layLine 79 = .ok (.aload_n 0, 1) := by decide +kernel
theorem dX9_layLine_80 : decode cX9_layLine 80 = .ok (.getfield 26, 3) := by decide +kernel
theorem dX9_layLine_83 : decode cX9_layLine 83 = .ok (.iload_n 3, 1) := by decide +kernel
theorem dX9_layLine_84 : decode cX9_layLine 84 = .ok (.iaload, 1) := by decide +kernel
theorem dX9_layLine_85 : decode cX9_layLine 85 = .ok (.iastore, 1) := by decide +kernel
theorem dX9_layLine_86 : decode cX9_layLine 86 = .ok (.iconst 0, 1) := by decide +kernel
theorem dX9_layLine_87 : decode cX9_layLine 87 = .ok (.istore 4, 2) := by decide +kernel
theorem dX9_layLine_89 : decode cX9_layLine 89 = .ok (.iload 4, 2) := by decide +kernel
theorem dX9_layLine_91 : decode cX9_layLine 91 = .ok (.aload_n 0, 1) := by decide +kernel
theorem dX9_layLine_92 : decode cX9_layLine 92 = .ok (.getfield 26, 3) := by decide +kernel
theorem dX9_layLine_95 : decode cX9_layLine 95 = .ok (.iload_n 3, 1) := by decide +kernel
theorem dX9_layLine_96 : decode cX9_layLine 96 = .ok (.iaload, 1) := by decide +kernel
theorem dX9_layLine_97 : decode cX9_layLine 97 = .ok (.if_icmp .ge 33, 3) := by decide +kernel
theorem dX9_layLine_130 : decode cX9_layLine 130 = .ok (.aload_n 0, 1) := by decide +kernel
theorem dX9_layLine_131 : decode cX9_layLine 131 = .ok (.getfield 32, 3) := by decide +kernel
theorem dX9_layLine_134 : decode cX9_layLine 134 = .ok (.bipush 10, 2) := by decide +kernel
theorem dX9_layLine_136 : decode cX9_layLine 136 = .ok (.aload_n 0, 1) := by decide +kernel
theorem dX9_layLine_137 : decode cX9_layLine 137 = .ok (.getfield 13, 3) := by decide +kernel
theorem dX9_layLine_140 : decode cX9_layLine 140 = .ok (.iload_n 1, 1) := by decide +kernel
theorem dX9_layLine_141 : decode cX9_layLine 141 = .ok (.iaload, 1) := by decide +kernel
theorem dX9_layLine_142 : decode cX9_layLine 142 = .ok (.imul, 1) := by decide +kernel
theorem dX9_layLine_143 : decode cX9_layLine 143 = .ok (.iload_n 2, 1) := by decide +kernel
theorem dX9_layLine_144 : decode cX9_layLine 144 = .ok (.iadd, 1) := by decide +kernel
theorem dX9_layLine_145 : decode cX9_layLine 145 = .ok (.iload_n 3, 1) := by decide +kernel
theorem dX9_layLine_146 : decode cX9_layLine 146 = .ok (.iastore, 1) := by decide +kernel
theorem dX9_layLine_147 : decode cX9_layLine 147 = .ok (.iinc 2 1, 3) := by decide +kernel
theorem dX9_layLine_150 : decode cX9_layLine 150 = .ok (.goto (-122), 3) := by decide +kernel
theorem dX9_layLine_100 : decode cX9_layLine 100 = .ok (.aload_n 0, 1) := by decide +kernel
theorem dX9_layLine_101 : decode cX9_layLine 101 = .ok (.getfield 32, 3) := by decide +kernel
theorem dX9_layLine_104 : decode cX9_layLine 104 = .ok (.bipush 10, 2) := by decide +kernel
theorem dX9_layLine_106 : decode cX9_layLine 106 = .ok (.iload_n 2, 1) := by decide +kernel
theorem dX9_layLine_107 : decode cX9_layLine 107 = .ok (.imul, 1) := by decide +kernel
theorem dX9_layLine_108 : decode cX9_layLine 108 = .ok (.iload 4, 2) := by decide +kernel
theorem dX9_layLine_110 : decode cX9_layLine 110 = .ok (.iadd, 1) := by decide +kernel
theorem dX9_layLine_111 : decode cX9_layLine 111 = .ok (.aload_n 0, 1) := by decide +kernel
theorem dX9_layLine_112 : decode cX9_layLine 112 = .ok (.getfield 23, 3) := by decide +kernel
theorem dX9_layLine_115 : decode cX9_layLine 115 = .ok (.bipush 10, 2) := by decide +kernel
theorem dX9_layLine_117 : decode cX9_layLine 117 = .ok (.iload_n 3, 1) := by decide +kernel
theorem dX9_layLine_118 : decode cX9_layLine 118 = .ok (.imul, 1) := by decide +kernel
theorem dX9_layLine_119 : decode cX9_layLine 119 = .ok (.iload 4, 2) := by decide +kernel
theorem dX9_layLine_121 : decode cX9_layLine 121 = .ok (.iadd, 1) := by decide +kernel
theorem dX9_layLine_122 : decode cX9_layLine 122 = .ok (.iaload, 1) := by decide +kernel
theorem dX9_layLine_123 : decode cX9_layLine 123 = .ok (.iastore, 1) := by decide +kernel
theorem dX9_layLine_124 : decode cX9_layLine 124 = .ok (.iinc 4 1, 3) := by decide +kernel
theorem dX9_layLine_127 : decode cX9_layLine 127 = .ok (.goto (-38), 3) := by decide +kernel
theorem dX9_layLine_58 : decode cX9_layLine 58 = .ok (.aload_n 0, 1) := by decide +kernel
theorem dX9_layLine_59 : decode cX9_layLine 59 = .ok (.getfield 29, 3) := by decide +kernel
theorem dX9_layLine_62 : decode cX9_layLine 62 = .ok (.iload_n 1, 1) := by decide +kernel
theorem dX9_layLine_63 : decode cX9_layLine 63 = .ok (.bipush (-5), 2) := by decide +kernel
theorem dX9_layLine_65 : decode cX9_layLine 65 = .ok (.iastore, 1) := by decide +kernel
theorem dX9_layLine_66 : decode cX9_layLine 66 = .ok (.return_, 1) := by decide +kernel
set_option maxHeartbeats 4000000 in
set_option maxRecDepth 100000 in
theorem m_layLine (l : Launch) (dC : Nat → ClassId) (dI : Nat → Nat → Nat) (sz : Nat) (h0 : Nat) (l5 : Nat) (l3 : Nat) (w2 : Value) (w3 : Value) (w4 : Value) (l4 : Nat) (l1 : Nat) (l2 : Nat) (rw0 : Nat) (rw1 : Nat) (rw2 : Nat) (rm0 : Int32) (w12 : Value) (w13 : Value) (w14 : Value) (w15 : Value) (w16 : Value) (w17 : Value) (w18 : Value) (w19 : Value) (w20 : Value) (w21 : Value) (w22 : Value) (w23 : Value) (w24 : Value) (w25 : Value) (w26 : Value) (w27 : Value) (w28 : Value) (w29 : Value) (w30 : Value) (w31 : Value) (w32 : Value) (w33 : Value) (w34 : Value) (kl5 : ClassId) (fpr : Nat → Int32) (kl3 : ClassId) (fpm : Nat → Int32) (kl1 : ClassId) (fll : Nat → Int32) (kl2 : ClassId) (fmq : Nat → Int32) (kl4 : ClassId) (fln : Nat → Int32) (krw0 : ClassId) (frw : Nat → Int32) (krw1 : ClassId) (fat : Nat → Int32) (krw2 : ClassId) (fen : Nat → Int32) (kd : Nat) (jn : Nat) (hkd : kd < 10) (hpm : fpm kd = nI jn) (hjn : jn ≤ 3) (hpr : PrOk fpr kd jn) (hll : BdOk 10 10 fll) (hlnd : LnOk fll fln kd) (hfat : BdOk 4 10 fat) (hfen : BdOk 4 10 fen) : Met l yX9_layLine (wq yX9_layLine cX9_layLine 5 none) ({ frames := 2, cells := 0, slots := 0, locals := 47 }) (va_Pc [.ref h0, .int (nI kd)] (pcW dC dI [(kl5, .int), (kl3, .int), (kl1, .int), (kl2, .int), (kl4, .int), (krw0, .int), (krw1, .int), (krw2, .int)] [(h0, .inr (8, [.ref l5, .ref l3, w2, w3, w4, .ref l4, .ref l1, .ref l2, .ref rw0, .ref rw1, .ref rw2, .int rm0, w12, w13, w14, w15, w16, w17, w18, w19, w20, w21, w22, w23, w24, w25, w26, w27, w28, w29, w30, w31, w32, w33, w34])), (l5, .inl (kl5, 30, .inl fpr)), (l3, .inl (kl3, 10, .inl fpm)), (l1, .inl (kl1, 10, .inl fll)), (l2, .inl (kl2, 10, .inl fmq)), (l4, .inl (kl4, 100, .inl fln)), (rw0, .inl (krw0, 40, .inl frw)), (rw1, .inl (krw1, 4, .inl fat)), (rw2, .inl (krw2, 4, .inl fen))] sz)) (va_Qv (fun _ : Unit => True) (fun _ t => ∃ (frw2 : Nat → Int32) (fat2 : Nat → Int32) (fen2 : Nat → Int32) (fll2 : Nat → Int32) (fmq2 : Nat → Int32) (fln2 : Nat → Int32) (rm2 : Int32), (BdOk 10 10 fll2) ∧ (LnOk fll2 fln2 (kd + 1)) ∧ (BdOk 4 10 fat2) ∧ (BdOk 4 10 fen2) ∧ (KM kd fll fln fmq fll2 fln2 fmq2 (fun i => fpr (3 * kd + i)) jn) ∧ va_P (dC, dI) vwCl [(h0, .inr (8, [.ref l5, .ref l3, w2, w3, w4, .ref l4, .ref l1, .ref l2, .ref rw0, .ref rw1, .ref rw2, .int rm2, w12, w13, w14, w15, w16, w17, w18, w19, w20, w21, w22, w23, w24, w25, w26, w27, w28, w29, w30, w31, w32, w33, w34])), (l5, .inl (kl5, 30, .inl fpr)), (l3, .inl (kl3, 10, .inl fpm)), (l1, .inl (kl1, 10, .inl fll2)), (l2, .inl (kl2, 10, .inl fmq2)), (l4, .inl (kl4, 100, .inl fln2)), (rw0, .inl (krw0, 40, .inl frw2)), (rw1, .inl (krw1, 4, .inl fat2)), (rw2, .inl (krw2, 4, .inl fen2))] t.heap ∧ va_K (dC, dI) vwCl [(kl5, .int), (kl3, .int), (kl1, .int), (kl2, .int), (kl4, .int), (krw0, .int), (krw1, .int), (krw2, .int)] t ∧ va_D (va_A [(h0, .inr (8, [.ref l5, .ref l3, w2, w3, w4, .ref l4, .ref l1, .ref l2, .ref rw0, .ref rw1, .ref rw2, .int rm0, w12, w13, w14, w15, w16, w17, w18, w19, w20, w21, w22, w23, w24, w25, w26, w27, w28, w29, w30, w31, w32, w33, w34])), (l5, .inl (kl5, 30, .inl fpr)), (l3, .inl (kl3, 10, .inl fpm)), (l1, .inl (kl1, 10, .inl fll)), (l2, .inl (kl2, 10, .inl fmq)), (l4, .inl (kl4, 100, .inl fln)), (rw0, .inl (krw0, 40, .inl frw)), (rw1, .inl (krw1, 4, .inl fat)), (rw2, .inl (krw2, 4, .inl fen))] sz) [(h0, .inr (8, [.ref l5, .ref l3, w2, w3, w4, .ref l4, .ref l1, .ref l2, .ref rw0, .ref rw1, .ref rw2, .int rm2, w12, w13, w14, w15, w16, w17, w18, w19, w20, w21, w22, w23, w24, w25, w26, w27, w28, w29, w30, w31, w32, w33, w34])), (l5, .inl (kl5, 30, .inl fpr)), (l3, .inl (kl3, 10, .inl fpm)), (l1, .inl (kl1, 10, .inl fll2)), (l2, .inl (kl2, 10, .inl fmq2)), (l4, .inl (kl4, 100, .inl fln2)), (rw0, .inl (krw0, 40, .inl frw2)), (rw1, .inl (krw1, 4, .inl fat2)), (rw2, .inl (krw2, 4, .inl fen2))]) (va_A [(h0, .inr (8, [.ref l5, .ref l3, w2, w3, w4, .ref l4, .ref l1, .ref l2, .ref rw0, .ref rw1, .ref rw2, .int rm0, w12, w13, w14, w15, w16, w17, w18, w19, w20, w21, w22, w23, w24, w25, w26, w27, w28, w29, w30, w31, w32, w33, w34])), (l5, .inl (kl5, 30, .inl fpr)), (l3, .inl (kl3, 10, .inl fpm)), (l1, .inl (kl1, 10, .inl fll)), (l2, .inl (kl2, 10, .inl fmq)), (l4, .inl (kl4, 100, .inl fln)), (rw0, .inl (krw0, 40, .inl frw)), (rw1, .inl (krw1, 4, .inl fat)), (rw2, .inl (krw2, 4, .inl fen))] sz)) 0 0 (va_A [(h0, .inr (8, [.ref l5, .ref l3, w2, w3, w4, .ref l4, .ref l1, .ref l2, .ref rw0, .ref rw1, .ref rw2, .int rm0, w12, w13, w14, w15, w16, w17, w18, w19, w20, w21, w22, w23, w24, w25, w26, w27, w28, w29, w30, w31, w32, w33, w34])), (l5, .inl (kl5, 30, .inl fpr)), (l3, .inl (kl3, 10, .inl fpm)), (l1, .inl (kl1, 10, .inl fll)), (l2, .inl (kl2, 10, .inl fmq)), (l4, .inl (kl4, 100, .inl fln)), (rw0, .inl (krw0, 40, .inl frw)), (rw1, .inl (krw1, 4, .inl fat)), (rw2, .inl (krw2, 4, .inl fen))] sz) := by
  refine Met.ofW (cc := cX9_layLine) (maxL := 5) (ret := none) (by decide) rfl ?_
  intro p e s m args below meth c s₁ B hml hv
  obtain ⟨rfl, hsz, hN, hP, hK, hD0⟩ := hv
  have hx := B.exec
  have hb := B.bytes
  have hr := B.returns
  have hts0 := atoms_spec (ws := (wq yX9_layLine cX9_layLine 5 none)) B.pre
  have hts : ∀ w ∈ BG, w.before _ s = true := fun w h => hts0 w (List.mem_cons_of_mem _ h)
  have hown : s.vm.findClass RX9 = some m.cls := findClass_of_methodNamed B.named
  have hlocks := B.notSynchronized
  subst hsz
  have hD := hD0.self (sz := s.heap.size)
  generalize hAe : va_A [(h0, .inr (8, [.ref l5, .ref l3, w2, w3, w4, .ref l4, .ref l1, .ref l2, .ref rw0, .ref rw1, .ref rw2, .int rm0, w12, w13, w14, w15, w16, w17, w18, w19, w20, w21, w22, w23, w24, w25, w26, w27, w28, w29, w30, w31, w32, w33, w34])), (l5, .inl (kl5, 30, .inl fpr)), (l3, .inl (kl3, 10, .inl fpm)), (l1, .inl (kl1, 10, .inl fll)), (l2, .inl (kl2, 10, .inl fmq)), (l4, .inl (kl4, 100, .inl fln)), (rw0, .inl (krw0, 40, .inl frw)), (rw1, .inl (krw1, 4, .inl fat)), (rw2, .inl (krw2, 4, .inl fen))] s.heap.size = A at hD ⊢
  have hA : ∀ q : Nat, s.heap.size ≤ q → A q := fun q h => by rw [← hAe]; exact Or.inr h
  have hS : va_S A s.heap s.heap [] := va_S.rf
  clear hAe hD0
  have hP : va_P (dC, dI) vwCl [(h0, .inr (8, [.ref l5, .ref l3, w2, w3, w4, .ref l4, .ref l1, .ref l2, .ref rw0, .ref rw1, .ref rw2, .int rm0, w12, w13, w14, w15, w16, w17, w18, w19, w20, w21, w22, w23, w24, w25, w26, w27, w28, w29, w30, w31, w32, w33, w34])), (l5, .inl (kl5, 30, .inl fpr)), (l3, .inl (kl3, 10, .inl fpm)), (l1, .inl (kl1, 10, .inl fll)), (l2, .inl (kl2, 10, .inl fmq)), (l4, .inl (kl4, 100, .inl fln)), (rw0, .inl (krw0, 40, .inl frw)), (rw1, .inl (krw1, 4, .inl fat)), (rw2, .inl (krw2, 4, .inl fen))] s.heap := hP
  have hl := lv_entry ([.ref h0, .int (nI kd)]) (n := 5) (Nat.le_of_ble_eq_true rfl)
  rw [lg_entry_eq]
  generalize (lg_sl ([.ref h0, .int (nI kd)]) ++ List.replicate (5 - (lg_sl ([.ref h0, .int (nI kd)])).length) Slot.unset).toArray = ls at hl ⊢
  have hl : lv_has ls 5 [(0, .ref h0), (1, .int (nI kd))] := hl
  refine lv_aload_n hx hb dX9_layLine_0 rfl (lv_at hl 0 rfl) ?_
  refine va_get (D := (dC, dI)) (ci := 8) (v := .ref l1) (C := RX9) (T := TX9) (N := 35) hx hb hts inB_9 hown hK hP 0 rfl rfl 6 (by decide) (hts _ mw_3_188) (fun _ h9 => h9) rfl dX9_layLine_1 ?_
  refine lv_iload_n hx hb dX9_layLine_4 rfl (lv_at hl 1 rfl) ?_
  refine lv_iconst (v := 0) hx hb dX9_layLine_5 (by decide) ?_
  refine va_iast hx hb hK hP hD hS 3 2 rfl rfl (show vp_in (nI kd) 10 from vp_in_nI (by omega) (by omega)) dX9_layLine_6 (fun H locs hP hD hS => ?_)
  obtain ⟨f_1, ef_1⟩ : ∃ g : Nat → Int32, g = upd fll (Int32.toNatClampNeg (nI kd)) 0 := ⟨_, rfl⟩
  rw [← ef_1] at hP hD
  have ef_1 : f_1 = upd fll kd 0 := by rw [ef_1, nI_clamp (by omega)]
  have pf_1 : BdOk 10 10 f_1 := by rw [ef_1]; exact bd_upd (z := 0) hll (by omega)
  have hP : va_P (dC, dI) vwCl [(h0, .inr (8, [.ref l5, .ref l3, w2, w3, w4, .ref l4, .ref l1, .ref l2, .ref rw0, .ref rw1, .ref rw2, .int rm0, w12, w13, w14, w15, w16, w17, w18, w19, w20, w21, w22, w23, w24, w25, w26, w27, w28, w29, w30, w31, w32, w33, w34])), (l5, .inl (kl5, 30, .inl fpr)), (l3, .inl (kl3, 10, .inl fpm)), (l1, .inl (kl1, 10, .inl f_1)), (l2, .inl (kl2, 10, .inl fmq)), (l4, .inl (kl4, 100, .inl fln)), (rw0, .inl (krw0, 40, .inl frw)), (rw1, .inl (krw1, 4, .inl fat)), (rw2, .inl (krw2, 4, .inl fen))] H := hP
  have hD : va_D A [(h0, .inr (8, [.ref l5, .ref l3, w2, w3, w4, .ref l4, .ref l1, .ref l2, .ref rw0, .ref rw1, .ref rw2, .int rm0, w12, w13, w14, w15, w16, w17, w18, w19, w20, w21, w22, w23, w24, w25, w26, w27, w28, w29, w30, w31, w32, w33, w34])), (l5, .inl (kl5, 30, .inl fpr)), (l3, .inl (kl3, 10, .inl fpm)), (l1, .inl (kl1, 10, .inl f_1)), (l2, .inl (kl2, 10, .inl fmq)), (l4, .inl (kl4, 100, .inl fln)), (rw0, .inl (krw0, 40, .inl frw)), (rw1, .inl (krw1, 4, .inl fat)), (rw2, .inl (krw2, 4, .inl fen))] := hD
  refine lv_aload_n hx hb dX9_layLine_7 rfl (lv_at hl 0 rfl) ?_
  refine va_get (D := (dC, dI)) (ci := 8) (v := .ref l2) (C := RX9) (T := TX9) (N := 35) hx hb hts inB_9 hown hK hP 0 rfl rfl 7 (by decide) (hts _ mw_3_189) (fun _ h9 => h9) rfl dX9_layLine_8 ?_
  refine lv_iload_n hx hb dX9_layLine_11 rfl (lv_at hl 1 rfl) ?_
  refine lv_iconst (v := 0) hx hb dX9_layLine_12 (by decide) ?_
  refine va_iast hx hb hK hP hD hS 4 3 rfl rfl (show vp_in (nI kd) 10 from vp_in_nI (by omega) (by omega)) dX9_layLine_13 (fun H locs hP hD hS => ?_)
  obtain ⟨f_2, ef_2⟩ : ∃ g : Nat → Int32, g = upd fmq (Int32.toNatClampNeg (nI kd)) 0 := ⟨_, rfl⟩
  rw [← ef_2] at hP hD
  have ef_2 : f_2 = upd fmq kd 0 := by rw [ef_2, nI_clamp (by omega)]
  have hP : va_P (dC, dI) vwCl [(h0, .inr (8, [.ref l5, .ref l3, w2, w3, w4, .ref l4, .ref l1, .ref l2, .ref rw0, .ref rw1, .ref rw2, .int rm0, w12, w13, w14, w15, w16, w17, w18, w19, w20, w21, w22, w23, w24, w25, w26, w27, w28, w29, w30, w31, w32, w33, w34])), (l5, .inl (kl5, 30, .inl fpr)), (l3, .inl (kl3, 10, .inl fpm)), (l1, .inl (kl1, 10, .inl f_1)), (l2, .inl (kl2, 10, .inl f_2)), (l4, .inl (kl4, 100, .inl fln)), (rw0, .inl (krw0, 40, .inl frw)), (rw1, .inl (krw1, 4, .inl fat)), (rw2, .inl (krw2, 4, .inl fen))] H := hP
  have hD : va_D A [(h0, .inr (8, [.ref l5, .ref l3, w2, w3, w4, .ref l4, .ref l1, .ref l2, .ref rw0, .ref rw1, .ref rw2, .int rm0, w12, w13, w14, w15, w16, w17, w18, w19, w20, w21, w22, w23, w24, w25, w26, w27, w28, w29, w30, w31, w32, w33, w34])), (l5, .inl (kl5, 30, .inl fpr)), (l3, .inl (kl3, 10, .inl fpm)), (l1, .inl (kl1, 10, .inl f_1)), (l2, .inl (kl2, 10, .inl f_2)), (l4, .inl (kl4, 100, .inl fln)), (rw0, .inl (krw0, 40, .inl frw)), (rw1, .inl (krw1, 4, .inl fat)), (rw2, .inl (krw2, 4, .inl fen))] := hD
  refine lv_aload_n hx hb dX9_layLine_14 rfl (lv_at hl 0 rfl) ?_
  refine lv_aload_n hx hb dX9_layLine_15 rfl (lv_at hl 0 rfl) ?_
  refine va_get (D := (dC, dI)) (ci := 8) (v := .ref l3) (C := RX9) (T := TX9) (N := 35) hx hb hts inB_9 hown hK hP 0 rfl rfl 1 (by decide) (hts _ mw_3_183) (fun _ h9 => h9) rfl dX9_layLine_16 ?_
  refine lv_iload_n hx hb dX9_layLine_19 rfl (lv_at hl 1 rfl) ?_
  refine va_iald hx hb hK hP 2 1 rfl rfl (show vp_in (nI kd) 10 from vp_in_nI (by omega) (by omega)) dX9_layLine_20 ?_
  refine hx_top (y := (fpm kd)) (congrArg _ (nI_clamp (by omega))) ?_
  refine hx_top (y := (nI jn)) hpm ?_
  refine lv_iconst (v := 1) hx hb dX9_layLine_21 (by decide) ?_
  refine lv_iadd hx hb dX9_layLine_22 ?_
  refine hx_top (y := (nI (jn + 1))) (nI_add jn 1) ?_
  refine va_put (D := (dC, dI)) (ci := 8) (v := .int (nI (jn + 1))) (ty := .int) (C := RX9) (T := TX9) (N := 35) hx hb hts inB_9 tyX9 tyX9_ok nmX9 hown hK hP hD hS 0 rfl rfl 11 (by decide) (hts _ mw_3_193) (fun _ h9 => h9) rfl (by decide +kernel) rfl rfl (Nat.le_of_ble_eq_true rfl) dX9_layLine_23 (fun H locs hP hD hS => ?_)
  have hP : va_P (dC, dI) vwCl [(h0, .inr (8, [.ref l5, .ref l3, w2, w3, w4, .ref l4, .ref l1, .ref l2, .ref rw0, .ref rw1, .ref rw2, .int (nI (jn + 1)), w12, w13, w14, w15, w16, w17, w18, w19, w20, w21, w22, w23, w24, w25, w26, w27, w28, w29, w30, w31, w32, w33, w34])), (l5, .inl (kl5, 30, .inl fpr)), (l3, .inl (kl3, 10, .inl fpm)), (l1, .inl (kl1, 10, .inl f_1)), (l2, .inl (kl2, 10, .inl f_2)), (l4, .inl (kl4, 100, .inl fln)), (rw0, .inl (krw0, 40, .inl frw)), (rw1, .inl (krw1, 4, .inl fat)), (rw2, .inl (krw2, 4, .inl fen))] H := hP
  have hD : va_D A [(h0, .inr (8, [.ref l5, .ref l3, w2, w3, w4, .ref l4, .ref l1, .ref l2, .ref rw0, .ref rw1, .ref rw2, .int (nI (jn + 1)), w12, w13, w14, w15, w16, w17, w18, w19, w20, w21, w22, w23, w24, w25, w26, w27, w28, w29, w30, w31, w32, w33, w34])), (l5, .inl (kl5, 30, .inl fpr)), (l3, .inl (kl3, 10, .inl fpm)), (l1, .inl (kl1, 10, .inl f_1)), (l2, .inl (kl2, 10, .inl f_2)), (l4, .inl (kl4, 100, .inl fln)), (rw0, .inl (krw0, 40, .inl frw)), (rw1, .inl (krw1, 4, .inl fat)), (rw2, .inl (krw2, 4, .inl fen))] := hD
  refine lv_iconst (v := 0) hx hb dX9_layLine_26 (by decide) ?_
  refine lv_istore_n (lv' := [(2, .int 0), (0, .ref h0), (1, .int (nI kd))]) hx hb dX9_layLine_27 rfl hl (by decide) rfl (fun ls hl => ?_)
  have hlnd2 : LnOk f_1 fln kd := ln_upd hlnd ef_1
  have key_3 : ∀ (fu : Nat) (k : Nat) (frx : Nat → Int32) (fax : Nat → Int32) (fex : Nat → Int32), (k ≤ jn) → (BdOk 4 10 fax) → (BdOk 4 10 fex) → (PW frx fex k jn kd) → (RowQ frx fax fex (fun i => fpr (3 * kd + i)) f_1 fln jn k) → (∀ i, i < k → 0 < (f_1 (fpr (3 * kd + i)).toNatClampNeg).toNatClampNeg) → jn - k < fu → ∀ (H : Heap) (locs : List Loc), va_P (dC, dI) vwCl [(h0, .inr (8, [.ref l5, .ref l3, w2, w3, w4, .ref l4, .ref l1, .ref l2, .ref rw0, .ref rw1, .ref rw2, .int (nI (jn + 1)), w12, w13, w14, w15, w16, w17, w18, w19, w20, w21, w22, w23, w24, w25, w26, w27, w28, w29, w30, w31, w32, w33, w34])), (l5, .inl (kl5, 30, .inl fpr)), (l3, .inl (kl3, 10, .inl fpm)), (l1, .inl (kl1, 10, .inl f_1)), (l2, .inl (kl2, 10, .inl f_2)), (l4, .inl (kl4, 100, .inl fln)), (rw0, .inl (krw0, 40, .inl frx)), (rw1, .inl (krw1, 4, .inl fax)), (rw2, .inl (krw2, 4, .inl fex))] H → va_D A [(h0, .inr (8, [.ref l5, .ref l3, w2, w3, w4, .ref l4, .ref l1, .ref l2, .ref rw0, .ref rw1, .ref rw2, .int (nI (jn + 1)), w12, w13, w14, w15, w16, w17, w18, w19, w20, w21, w22, w23, w24, w25, w26, w27, w28, w29, w30, w31, w32, w33, w34])), (l5, .inl (kl5, 30, .inl fpr)), (l3, .inl (kl3, 10, .inl fpm)), (l1, .inl (kl1, 10, .inl f_1)), (l2, .inl (kl2, 10, .inl f_2)), (l4, .inl (kl4, 100, .inl fln)), (rw0, .inl (krw0, 40, .inl frx)), (rw1, .inl (krw1, 4, .inl fax)), (rw2, .inl (krw2, 4, .inl fex))] → va_S A s.heap H locs → ∀ (ls : Array Slot), lv_has ls 5 [(2, .int (nI k)), (0, .ref h0), (1, .int (nI kd))] → W p l e (headSpec (wq yX9_layLine cX9_layLine 5 none) ({ frames := 2, cells := 0, slots := 0, locals := 47 })).room s m (([.ref h0, .int (nI kd)] : List Value)).toArray below meth c H locs 0 0 (MQ below (va_Qv (fun _ : Unit => True) (fun _ t => ∃ (frw2 : Nat → Int32) (fat2 : Nat → Int32) (fen2 : Nat → Int32) (fll2 : Nat → Int32) (fmq2 : Nat → Int32) (fln2 : Nat → Int32) (rm2 : Int32), (BdOk 10 10 fll2) ∧ (LnOk fll2 fln2 (kd + 1)) ∧ (BdOk 4 10 fat2) ∧ (BdOk 4 10 fen2) ∧ (KM kd fll fln fmq fll2 fln2 fmq2 (fun i => fpr (3 * kd + i)) jn) ∧ va_P (dC, dI) vwCl [(h0, .inr (8, [.ref l5, .ref l3, w2, w3, w4, .ref l4, .ref l1, .ref l2, .ref rw0, .ref rw1, .ref rw2, .int rm2, w12, w13, w14, w15, w16, w17, w18, w19, w20, w21, w22, w23, w24, w25, w26, w27, w28, w29, w30, w31, w32, w33, w34])), (l5, .inl (kl5, 30, .inl fpr)), (l3, .inl (kl3, 10, .inl fpm)), (l1, .inl (kl1, 10, .inl fll2)), (l2, .inl (kl2, 10, .inl fmq2)), (l4, .inl (kl4, 100, .inl fln2)), (rw0, .inl (krw0, 40, .inl frw2)), (rw1, .inl (krw1, 4, .inl fat2)), (rw2, .inl (krw2, 4, .inl fen2))] t.heap ∧ va_K (dC, dI) vwCl [(kl5, .int), (kl3, .int), (kl1, .int), (kl2, .int), (kl4, .int), (krw0, .int), (krw1, .int), (krw2, .int)] t ∧ va_D A [(h0, .inr (8, [.ref l5, .ref l3, w2, w3, w4, .ref l4, .ref l1, .ref l2, .ref rw0, .ref rw1, .ref rw2, .int rm2, w12, w13, w14, w15, w16, w17, w18, w19, w20, w21, w22, w23, w24, w25, w26, w27, w28, w29, w30, w31, w32, w33, w34])), (l5, .inl (kl5, 30, .inl fpr)), (l3, .inl (kl3, 10, .inl fpm)), (l1, .inl (kl1, 10, .inl fll2)), (l2, .inl (kl2, 10, .inl fmq2)), (l4, .inl (kl4, 100, .inl fln2)), (rw0, .inl (krw0, 40, .inl frw2)), (rw1, .inl (krw1, 4, .inl fat2)), (rw2, .inl (krw2, 4, .inl fen2))]) A) (([.ref h0, .int (nI kd)] : List Value)).toArray s 0 0 A) (F0 m 28 ls []) := by
    intro fu
    induction fu with
    | zero => intro k frx fax fex hk hax hex hpw hrq hps hme; exact absurd hme (Nat.not_lt_zero _)
    | succ fu ih_4 =>
      intro k frx fax fex hk hax hex hpw hrq hps hme H locs hP hD hS ls hl
      refine lv_iload_n hx hb dX9_layLine_28 rfl (lv_at hl 0 rfl) ?_
      refine lv_aload_n hx hb dX9_layLine_29 rfl (lv_at hl 1 rfl) ?_
      refine va_get (D := (dC, dI)) (ci := 8) (v := .ref l3) (C := RX9) (T := TX9) (N := 35) hx hb hts inB_9 hown hK hP 0 rfl rfl 1 (by decide) (hts _ mw_3_183) (fun _ h9 => h9) rfl dX9_layLine_30 ?_
      refine lv_iload_n hx hb dX9_layLine_33 rfl (lv_at hl 2 rfl) ?_
      refine va_iald hx hb hK hP 2 1 rfl rfl (show vp_in (nI kd) 10 from vp_in_nI (by omega) (by omega)) dX9_layLine_34 ?_
      refine hx_top (y := (fpm kd)) (congrArg _ (nI_clamp (by omega))) ?_
      refine hx_top (y := (nI jn)) hpm ?_
      refine lv_icmp_ge (tgt := 153) hx hb dX9_layLine_35 (by decide) (fun c_5 => ?_) (fun c_5 => ?_)
      · have b_6 := gx_ge (X := ((k : Nat) : Int)) (C := ((jn : Nat) : Int)) (nI_toInt (by omega)) (nI_toInt (by omega)) c_5
        refine lv_aload_n hx hb dX9_layLine_153 rfl (lv_at hl 1 rfl) ?_
        refine va_get (D := (dC, dI)) (ci := 8) (v := .ref rw1) (C := RX9) (T := TX9) (N := 35) hx hb hts inB_9 hown hK hP 0 rfl rfl 9 (by decide) (hts _ mw_3_191) (fun _ h9 => h9) rfl dX9_layLine_154 ?_
        refine lv_aload_n hx hb dX9_layLine_157 rfl (lv_at hl 1 rfl) ?_
        refine va_get (D := (dC, dI)) (ci := 8) (v := .ref l3) (C := RX9) (T := TX9) (N := 35) hx hb hts inB_9 hown hK hP 0 rfl rfl 1 (by decide) (hts _ mw_3_183) (fun _ h9 => h9) rfl dX9_layLine_158 ?_
        refine lv_iload_n hx hb dX9_layLine_161 rfl (lv_at hl 2 rfl) ?_
        refine va_iald hx hb hK hP 2 1 rfl rfl (show vp_in (nI kd) 10 from vp_in_nI (by omega) (by omega)) dX9_layLine_162 ?_
        refine hx_top (y := (fpm kd)) (congrArg _ (nI_clamp (by omega))) ?_
        refine hx_top (y := (nI jn)) hpm ?_
        refine lv_iconst (v := 0) hx hb dX9_layLine_163 (by decide) ?_
        refine va_iast hx hb hK hP hD hS 7 6 rfl rfl (show vp_in (nI jn) 4 from vp_in_nI (by omega) (by omega)) dX9_layLine_164 (fun H locs hP hD hS => ?_)
        obtain ⟨f_7, ef_7⟩ : ∃ g : Nat → Int32, g = upd fax (Int32.toNatClampNeg (nI jn)) 0 := ⟨_, rfl⟩
        rw [← ef_7] at hP hD
        have ef_7 : f_7 = upd fax jn 0 := by rw [ef_7, nI_clamp (by omega)]
        have pf_7 : BdOk 4 10 f_7 := by rw [ef_7]; exact bd_upd (z := 0) hax (by omega)
        have hP : va_P (dC, dI) vwCl [(h0, .inr (8, [.ref l5, .ref l3, w2, w3, w4, .ref l4, .ref l1, .ref l2, .ref rw0, .ref rw1, .ref rw2, .int (nI (jn + 1)), w12, w13, w14, w15, w16, w17, w18, w19, w20, w21, w22, w23, w24, w25, w26, w27, w28, w29, w30, w31, w32, w33, w34])), (l5, .inl (kl5, 30, .inl fpr)), (l3, .inl (kl3, 10, .inl fpm)), (l1, .inl (kl1, 10, .inl f_1)), (l2, .inl (kl2, 10, .inl f_2)), (l4, .inl (kl4, 100, .inl fln)), (rw0, .inl (krw0, 40, .inl frx)), (rw1, .inl (krw1, 4, .inl f_7)), (rw2, .inl (krw2, 4, .inl fex))] H := hP
        have hD : va_D A [(h0, .inr (8, [.ref l5, .ref l3, w2, w3, w4, .ref l4, .ref l1, .ref l2, .ref rw0, .ref rw1, .ref rw2, .int (nI (jn + 1)), w12, w13, w14, w15, w16, w17, w18, w19, w20, w21, w22, w23, w24, w25, w26, w27, w28, w29, w30, w31, w32, w33, w34])), (l5, .inl (kl5, 30, .inl fpr)), (l3, .inl (kl3, 10, .inl fpm)), (l1, .inl (kl1, 10, .inl f_1)), (l2, .inl (kl2, 10, .inl f_2)), (l4, .inl (kl4, 100, .inl fln)), (rw0, .inl (krw0, 40, .inl frx)), (rw1, .inl (krw1, 4, .inl f_7)), (rw2, .inl (krw2, 4, .inl fex))] := hD
        refine lv_aload_n hx hb dX9_layLine_165 rfl (lv_at hl 1 rfl) ?_
        refine va_get (D := (dC, dI)) (ci := 8) (v := .ref rw2) (C := RX9) (T := TX9) (N := 35) hx hb hts inB_9 hown hK hP 0 rfl rfl 10 (by decide) (hts _ mw_3_192) (fun _ h9 => h9) rfl dX9_layLine_166 ?_
        refine lv_aload_n hx hb dX9_layLine_169 rfl (lv_at hl 1 rfl) ?_
        refine va_get (D := (dC, dI)) (ci := 8) (v := .ref l3) (C := RX9) (T := TX9) (N := 35) hx hb hts inB_9 hown hK hP 0 rfl rfl 1 (by decide) (hts _ mw_3_183) (fun _ h9 => h9) rfl dX9_layLine_170 ?_
        refine lv_iload_n hx hb dX9_layLine_173 rfl (lv_at hl 2 rfl) ?_
        refine va_iald hx hb hK hP 2 1 rfl rfl (show vp_in (nI kd) 10 from vp_in_nI (by omega) (by omega)) dX9_layLine_174 ?_
        refine hx_top (y := (fpm kd)) (congrArg _ (nI_clamp (by omega))) ?_
        refine hx_top (y := (nI jn)) hpm ?_
        refine lv_aload_n hx hb dX9_layLine_175 rfl (lv_at hl 1 rfl) ?_
        refine va_get (D := (dC, dI)) (ci := 8) (v := .ref l3) (C := RX9) (T := TX9) (N := 35) hx hb hts inB_9 hown hK hP 0 rfl rfl 1 (by decide) (hts _ mw_3_183) (fun _ h9 => h9) rfl dX9_layLine_176 ?_
        refine lv_iload_n hx hb dX9_layLine_179 rfl (lv_at hl 2 rfl) ?_
        refine va_iald hx hb hK hP 2 1 rfl rfl (show vp_in (nI kd) 10 from vp_in_nI (by omega) (by omega)) dX9_layLine_180 ?_
        refine hx_top (y := (fpm kd)) (congrArg _ (nI_clamp (by omega))) ?_
        refine hx_top (y := (nI jn)) hpm ?_
        refine va_iast hx hb hK hP hD hS 8 7 rfl rfl (show vp_in (nI jn) 4 from vp_in_nI (by omega) (by omega)) dX9_layLine_181 (fun H locs hP hD hS => ?_)
        obtain ⟨f_8, ef_8⟩ : ∃ g : Nat → Int32, g = upd fex (Int32.toNatClampNeg (nI jn)) (nI jn) := ⟨_, rfl⟩
        rw [← ef_8] at hP hD
        have ef_8 : f_8 = upd fex jn (nI jn) := by rw [ef_8, nI_clamp (by omega)]
        have pf_8 : BdOk 4 10 f_8 := by rw [ef_8]; exact bd_upd (z := jn) hex (by omega)
        have hP : va_P (dC, dI) vwCl [(h0, .inr (8, [.ref l5, .ref l3, w2, w3, w4, .ref l4, .ref l1, .ref l2, .ref rw0, .ref rw1, .ref rw2, .int (nI (jn + 1)), w12, w13, w14, w15, w16, w17, w18, w19, w20, w21, w22, w23, w24, w25, w26, w27, w28, w29, w30, w31, w32, w33, w34])), (l5, .inl (kl5, 30, .inl fpr)), (l3, .inl (kl3, 10, .inl fpm)), (l1, .inl (kl1, 10, .inl f_1)), (l2, .inl (kl2, 10, .inl f_2)), (l4, .inl (kl4, 100, .inl fln)), (rw0, .inl (krw0, 40, .inl frx)), (rw1, .inl (krw1, 4, .inl f_7)), (rw2, .inl (krw2, 4, .inl f_8))] H := hP
        have hD : va_D A [(h0, .inr (8, [.ref l5, .ref l3, w2, w3, w4, .ref l4, .ref l1, .ref l2, .ref rw0, .ref rw1, .ref rw2, .int (nI (jn + 1)), w12, w13, w14, w15, w16, w17, w18, w19, w20, w21, w22, w23, w24, w25, w26, w27, w28, w29, w30, w31, w32, w33, w34])), (l5, .inl (kl5, 30, .inl fpr)), (l3, .inl (kl3, 10, .inl fpm)), (l1, .inl (kl1, 10, .inl f_1)), (l2, .inl (kl2, 10, .inl f_2)), (l4, .inl (kl4, 100, .inl fln)), (rw0, .inl (krw0, 40, .inl frx)), (rw1, .inl (krw1, 4, .inl f_7)), (rw2, .inl (krw2, 4, .inl f_8))] := hD
        refine lv_aload_n hx hb dX9_layLine_182 rfl (lv_at hl 1 rfl) ?_
        refine va_get (D := (dC, dI)) (ci := 8) (v := .ref l4) (C := RX9) (T := TX9) (N := 35) hx hb hts inB_9 hown hK hP 0 rfl rfl 5 (by decide) (hts _ mw_3_187) (fun _ h9 => h9) rfl dX9_layLine_183 ?_
        refine lv_bipush (v := 10) hx hb dX9_layLine_186 (by decide) ?_
        refine lv_iload_n hx hb dX9_layLine_188 rfl (lv_at hl 2 rfl) ?_
        refine lv_imul hx hb dX9_layLine_189 ?_
        refine hx_top (y := (nI (10 * kd))) (pk_mul 10 kd) ?_
        refine lv_iload_n hx hb dX9_layLine_190 rfl (lv_at hl 2 rfl) ?_
        refine va_iast hx hb hK hP hD hS 5 4 rfl rfl (show vp_in (nI (10 * kd)) 100 from vp_in_nI (by omega) (by omega)) dX9_layLine_191 (fun H locs hP hD hS => ?_)
        obtain ⟨f_9, ef_9⟩ : ∃ g : Nat → Int32, g = upd fln (Int32.toNatClampNeg (nI (10 * kd))) (nI kd) := ⟨_, rfl⟩
        rw [← ef_9] at hP hD
        have ef_9 : f_9 = upd fln (10 * kd) (nI kd) := by rw [ef_9, nI_clamp (by omega)]
        have hP : va_P (dC, dI) vwCl [(h0, .inr (8, [.ref l5, .ref l3, w2, w3, w4, .ref l4, .ref l1, .ref l2, .ref rw0, .ref rw1, .ref rw2, .int (nI (jn + 1)), w12, w13, w14, w15, w16, w17, w18, w19, w20, w21, w22, w23, w24, w25, w26, w27, w28, w29, w30, w31, w32, w33, w34])), (l5, .inl (kl5, 30, .inl fpr)), (l3, .inl (kl3, 10, .inl fpm)), (l1, .inl (kl1, 10, .inl f_1)), (l2, .inl (kl2, 10, .inl f_2)), (l4, .inl (kl4, 100, .inl f_9)), (rw0, .inl (krw0, 40, .inl frx)), (rw1, .inl (krw1, 4, .inl f_7)), (rw2, .inl (krw2, 4, .inl f_8))] H := hP
        have hD : va_D A [(h0, .inr (8, [.ref l5, .ref l3, w2, w3, w4, .ref l4, .ref l1, .ref l2, .ref rw0, .ref rw1, .ref rw2, .int (nI (jn + 1)), w12, w13, w14, w15, w16, w17, w18, w19, w20, w21, w22, w23, w24, w25, w26, w27, w28, w29, w30, w31, w32, w33, w34])), (l5, .inl (kl5, 30, .inl fpr)), (l3, .inl (kl3, 10, .inl fpm)), (l1, .inl (kl1, 10, .inl f_1)), (l2, .inl (kl2, 10, .inl f_2)), (l4, .inl (kl4, 100, .inl f_9)), (rw0, .inl (krw0, 40, .inl frx)), (rw1, .inl (krw1, 4, .inl f_7)), (rw2, .inl (krw2, 4, .inl f_8))] := hD
        refine lv_iconst (v := 1) hx hb dX9_layLine_192 (by decide) ?_
        refine lv_istore_n (lv' := [(2, .int 1), (0, .ref h0), (1, .int (nI kd))]) hx hb dX9_layLine_193 rfl hl (by decide) rfl (fun ls hl => ?_)
        have hrwd : RwOk frx f_8 (jn + 1) kd := pw_done hpw (by omega) (by omega) ef_8
        have hrs9 : RowS frx f_7 f_8 (fun i => fpr (3 * kd + i)) f_1 fln jn := rq_done hrq (by omega) ef_7 ef_8
        have hps9 : ∀ i, i < jn → 0 < (f_1 (fpr (3 * kd + i)).toNatClampNeg).toNatClampNeg := (fun i hi => hps i (by omega))
        refine lv_aload_n hx hb dX9_layLine_194 rfl (lv_at hl 1 rfl) ?_
        have hPc := hP.sub (ws' := [(h0, .inr (8, [.ref l5, .ref l3, w2, w3, w4, .ref l4, .ref l1, .ref l2, .ref rw0, .ref rw1, .ref rw2, .int (nI (jn + 1)), w12, w13, w14, w15, w16, w17, w18, w19, w20, w21, w22, w23, w24, w25, w26, w27, w28, w29, w30, w31, w32, w33, w34])), (rw0, .inl (krw0, 40, .inl frx)), (rw1, .inl (krw1, 4, .inl f_7)), (rw2, .inl (krw2, 4, .inl f_8))]) [0, 6, 7, 8] rfl
        have hDc := hD.sub (ws' := [(h0, .inr (8, [.ref l5, .ref l3, w2, w3, w4, .ref l4, .ref l1, .ref l2, .ref rw0, .ref rw1, .ref rw2, .int (nI (jn + 1)), w12, w13, w14, w15, w16, w17, w18, w19, w20, w21, w22, w23, w24, w25, w26, w27, w28, w29, w30, w31, w32, w33, w34])), (rw0, .inl (krw0, 40, .inl frx)), (rw1, .inl (krw1, 4, .inl f_7)), (rw2, .inl (krw2, 4, .inl f_8))]) [0, 6, 7, 8] (by decide) rfl
        have hKc := hK.sub (tys' := [(krw0, .int), (krw1, .int), (krw2, .int)]) [5, 6, 7] rfl
        refine va_calli (va_runV (As := []) (rest := []) ⟨hx, hb, hml, hown, hts⟩ (m_nextHead l dC dI H.size h0 (.ref l5) (.ref l3) (w2) (w3) (w4) (.ref l4) (.ref l1) (.ref l2) rw0 rw1 rw2 (jn + 1) (w12) (w13) (w14) (w15) (w16) (w17) (w18) (w19) (w20) (w21) (w22) (w23) (w24) (w25) (w26) (w27) (w28) (w29) (w30) (w31) (w32) (w33) (w34) krw0 frx krw1 f_7 krw2 f_8 kd (by omega) pf_7 pf_8 hrwd (by omega)) (cwV 0 hts (gV mw_4_65 mw_4_67 mw_0_17 mw_1_9 mw_4_68) rfl rfl rfl (by decide +kernel) ⟨Nat.le_of_ble_eq_true rfl, Nat.le_of_ble_eq_true rfl⟩) ⟨pcW_blind, va_recv hKc hPc (ci := 8) (q0 := 0) rfl rfl, pcW_at hPc hKc hDc hN⟩ rfl rfl hl.1 rfl (lv_room (Nat.le_of_ble_eq_true rfl)) dX9_layLine_195 ⟨Nat.le_of_ble_eq_true rfl, Nat.le_of_ble_eq_true rfl⟩) hS (fun q h1 h2 => absurd h2 (Nat.not_le.mpr h1)) (fun q h => hA q (Nat.le_trans hS.1 h)) (fun r_10 u t H1 locs ht hvm hw_10 hB hz1 hk1 hS => ?_)
        have hP := keepP hP hk1
        clear hz1 hk1 hB ht hvm hPc hDc hKc
        generalize H1 = H at hP hS ⊢
        have hly0 : layI frx f_8 (jn + 1) kd 9 (f_7, f_9, 1) = layI frx f_8 (jn + 1) kd 9 (f_7, upd fln (10 * kd) (nI kd), 1) := (by rw [ef_9])
        refine lv_istore_n (lv' := [(3, .int r_10), (2, .int 1), (0, .ref h0), (1, .int (nI kd))]) hx hb dX9_layLine_198 rfl hl (by decide) rfl (fun ls hl => ?_)
        have key_11 : ∀ (fu : Nat) (mn : Nat) (hd : Int32) (tk : Nat → Bool) (flx : Nat → Int32) (fay : Nat → Int32), (hd = nhF frx fay f_8 (jn + 1) 0 (jn + 1)) → (layI frx f_8 (jn + 1) kd (10 - mn) (fay, flx, mn) = layI frx f_8 (jn + 1) kd 9 (f_7, f_9, 1)) → (mn = 1 + cB tk kd) → (HdP frx fay f_8 (jn + 1) kd hd) → (Rem frx fay f_8 (jn + 1) tk) → (BdOk 4 10 fay) → (LxOk fln flx kd mn) → 10 - mn < fu → ∀ (H : Heap) (locs : List Loc), va_P (dC, dI) vwCl [(h0, .inr (8, [.ref l5, .ref l3, w2, w3, w4, .ref l4, .ref l1, .ref l2, .ref rw0, .ref rw1, .ref rw2, .int (nI (jn + 1)), w12, w13, w14, w15, w16, w17, w18, w19, w20, w21, w22, w23, w24, w25, w26, w27, w28, w29, w30, w31, w32, w33, w34])), (l5, .inl (kl5, 30, .inl fpr)), (l3, .inl (kl3, 10, .inl fpm)), (l1, .inl (kl1, 10, .inl f_1)), (l2, .inl (kl2, 10, .inl f_2)), (l4, .inl (kl4, 100, .inl flx)), (rw0, .inl (krw0, 40, .inl frx)), (rw1, .inl (krw1, 4, .inl fay)), (rw2, .inl (krw2, 4, .inl f_8))] H → va_D A [(h0, .inr (8, [.ref l5, .ref l3, w2, w3, w4, .ref l4, .ref l1, .ref l2, .ref rw0, .ref rw1, .ref rw2, .int (nI (jn + 1)), w12, w13, w14, w15, w16, w17, w18, w19, w20, w21, w22, w23, w24, w25, w26, w27, w28, w29, w30, w31, w32, w33, w34])), (l5, .inl (kl5, 30, .inl fpr)), (l3, .inl (kl3, 10, .inl fpm)), (l1, .inl (kl1, 10, .inl f_1)), (l2, .inl (kl2, 10, .inl f_2)), (l4, .inl (kl4, 100, .inl flx)), (rw0, .inl (krw0, 40, .inl frx)), (rw1, .inl (krw1, 4, .inl fay)), (rw2, .inl (krw2, 4, .inl f_8))] → va_S A s.heap H locs → ∀ (ls : Array Slot), lv_has ls 5 [(3, .int hd), (2, .int (nI mn)), (0, .ref h0), (1, .int (nI kd))] → W p l e (headSpec (wq yX9_layLine cX9_layLine 5 none) ({ frames := 2, cells := 0, slots := 0, locals := 47 })).room s m (([.ref h0, .int (nI kd)] : List Value)).toArray below meth c H locs 0 0 (MQ below (va_Qv (fun _ : Unit => True) (fun _ t => ∃ (frw2 : Nat → Int32) (fat2 : Nat → Int32) (fen2 : Nat → Int32) (fll2 : Nat → Int32) (fmq2 : Nat → Int32) (fln2 : Nat → Int32) (rm2 : Int32), (BdOk 10 10 fll2) ∧ (LnOk fll2 fln2 (kd + 1)) ∧ (BdOk 4 10 fat2) ∧ (BdOk 4 10 fen2) ∧ (KM kd fll fln fmq fll2 fln2 fmq2 (fun i => fpr (3 * kd + i)) jn) ∧ va_P (dC, dI) vwCl [(h0, .inr (8, [.ref l5, .ref l3, w2, w3, w4, .ref l4, .ref l1, .ref l2, .ref rw0, .ref rw1, .ref rw2, .int rm2, w12, w13, w14, w15, w16, w17, w18, w19, w20, w21, w22, w23, w24, w25, w26, w27, w28, w29, w30, w31, w32, w33, w34])), (l5, .inl (kl5, 30, .inl fpr)), (l3, .inl (kl3, 10, .inl fpm)), (l1, .inl (kl1, 10, .inl fll2)), (l2, .inl (kl2, 10, .inl fmq2)), (l4, .inl (kl4, 100, .inl fln2)), (rw0, .inl (krw0, 40, .inl frw2)), (rw1, .inl (krw1, 4, .inl fat2)), (rw2, .inl (krw2, 4, .inl fen2))] t.heap ∧ va_K (dC, dI) vwCl [(kl5, .int), (kl3, .int), (kl1, .int), (kl2, .int), (kl4, .int), (krw0, .int), (krw1, .int), (krw2, .int)] t ∧ va_D A [(h0, .inr (8, [.ref l5, .ref l3, w2, w3, w4, .ref l4, .ref l1, .ref l2, .ref rw0, .ref rw1, .ref rw2, .int rm2, w12, w13, w14, w15, w16, w17, w18, w19, w20, w21, w22, w23, w24, w25, w26, w27, w28, w29, w30, w31, w32, w33, w34])), (l5, .inl (kl5, 30, .inl fpr)), (l3, .inl (kl3, 10, .inl fpm)), (l1, .inl (kl1, 10, .inl fll2)), (l2, .inl (kl2, 10, .inl fmq2)), (l4, .inl (kl4, 100, .inl fln2)), (rw0, .inl (krw0, 40, .inl frw2)), (rw1, .inl (krw1, 4, .inl fat2)), (rw2, .inl (krw2, 4, .inl fen2))]) A) (([.ref h0, .int (nI kd)] : List Value)).toArray s 0 0 A) (F0 m 199 ls []) := by
          intro fu
          induction fu with
          | zero => intro mn hd tk flx fay hnh hly hmn hhd hrem hfay hlx hme; exact absurd hme (Nat.not_lt_zero _)
          | succ fu ih_12 =>
            intro mn hd tk flx fay hnh hly hmn hhd hrem hfay hlx hme H locs hP hD hS ls hl
            refine lv_iload_n hx hb dX9_layLine_199 rfl (lv_at hl 0 rfl) ?_
            refine lv_if_lt (tgt := 298) hx hb dX9_layLine_200 (by decide) (fun c_13 => ?_) (fun c_13 => ?_)
            · have b_14 := gx_lt (X := (Int32.toInt hd)) (C := 0) rfl (by decide) c_13
              have hcle := cB_le tk kd
              refine lv_iconst (v := 0) hx hb dX9_layLine_298 (by decide) ?_
              refine lv_istore (lv' := [(4, .int 0), (3, .int hd), (2, .int (nI mn)), (0, .ref h0), (1, .int (nI kd))]) hx hb dX9_layLine_299 hl (by decide) rfl (fun ls hl => ?_)
              have key_15 : ∀ (fu : Nat) (k7 : Nat) (fqx : Nat → Int32), (k7 ≤ (jn + 1)) → (fqx = upd fmq kd (begF frx fay f_8 k7)) → (jn + 1) - k7 < fu → ∀ (H : Heap) (locs : List Loc), va_P (dC, dI) vwCl [(h0, .inr (8, [.ref l5, .ref l3, w2, w3, w4, .ref l4, .ref l1, .ref l2, .ref rw0, .ref rw1, .ref rw2, .int (nI (jn + 1)), w12, w13, w14, w15, w16, w17, w18, w19, w20, w21, w22, w23, w24, w25, w26, w27, w28, w29, w30, w31, w32, w33, w34])), (l5, .inl (kl5, 30, .inl fpr)), (l3, .inl (kl3, 10, .inl fpm)), (l1, .inl (kl1, 10, .inl f_1)), (l2, .inl (kl2, 10, .inl fqx)), (l4, .inl (kl4, 100, .inl flx)), (rw0, .inl (krw0, 40, .inl frx)), (rw1, .inl (krw1, 4, .inl fay)), (rw2, .inl (krw2, 4, .inl f_8))] H → va_D A [(h0, .inr (8, [.ref l5, .ref l3, w2, w3, w4, .ref l4, .ref l1, .ref l2, .ref rw0, .ref rw1, .ref rw2, .int (nI (jn + 1)), w12, w13, w14, w15, w16, w17, w18, w19, w20, w21, w22, w23, w24, w25, w26, w27, w28, w29, w30, w31, w32, w33, w34])), (l5, .inl (kl5, 30, .inl fpr)), (l3, .inl (kl3, 10, .inl fpm)), (l1, .inl (kl1, 10, .inl f_1)), (l2, .inl (kl2, 10, .inl fqx)), (l4, .inl (kl4, 100, .inl flx)), (rw0, .inl (krw0, 40, .inl frx)), (rw1, .inl (krw1, 4, .inl fay)), (rw2, .inl (krw2, 4, .inl f_8))] → va_S A s.heap H locs → ∀ (ls : Array Slot), lv_has ls 5 [(4, .int (nI k7)), (3, .int hd), (2, .int (nI mn)), (0, .ref h0), (1, .int (nI kd))] → W p l e (headSpec (wq yX9_layLine cX9_layLine 5 none) ({ frames := 2, cells := 0, slots := 0, locals := 47 })).room s m (([.ref h0, .int (nI kd)] : List Value)).toArray below meth c H locs 0 0 (MQ below (va_Qv (fun _ : Unit => True) (fun _ t => ∃ (frw2 : Nat → Int32) (fat2 : Nat → Int32) (fen2 : Nat → Int32) (fll2 : Nat → Int32) (fmq2 : Nat → Int32) (fln2 : Nat → Int32) (rm2 : Int32), (BdOk 10 10 fll2) ∧ (LnOk fll2 fln2 (kd + 1)) ∧ (BdOk 4 10 fat2) ∧ (BdOk 4 10 fen2) ∧ (KM kd fll fln fmq fll2 fln2 fmq2 (fun i => fpr (3 * kd + i)) jn) ∧ va_P (dC, dI) vwCl [(h0, .inr (8, [.ref l5, .ref l3, w2, w3, w4, .ref l4, .ref l1, .ref l2, .ref rw0, .ref rw1, .ref rw2, .int rm2, w12, w13, w14, w15, w16, w17, w18, w19, w20, w21, w22, w23, w24, w25, w26, w27, w28, w29, w30, w31, w32, w33, w34])), (l5, .inl (kl5, 30, .inl fpr)), (l3, .inl (kl3, 10, .inl fpm)), (l1, .inl (kl1, 10, .inl fll2)), (l2, .inl (kl2, 10, .inl fmq2)), (l4, .inl (kl4, 100, .inl fln2)), (rw0, .inl (krw0, 40, .inl frw2)), (rw1, .inl (krw1, 4, .inl fat2)), (rw2, .inl (krw2, 4, .inl fen2))] t.heap ∧ va_K (dC, dI) vwCl [(kl5, .int), (kl3, .int), (kl1, .int), (kl2, .int), (kl4, .int), (krw0, .int), (krw1, .int), (krw2, .int)] t ∧ va_D A [(h0, .inr (8, [.ref l5, .ref l3, w2, w3, w4, .ref l4, .ref l1, .ref l2, .ref rw0, .ref rw1, .ref rw2, .int rm2, w12, w13, w14, w15, w16, w17, w18, w19, w20, w21, w22, w23, w24, w25, w26, w27, w28, w29, w30, w31, w32, w33, w34])), (l5, .inl (kl5, 30, .inl fpr)), (l3, .inl (kl3, 10, .inl fpm)), (l1, .inl (kl1, 10, .inl fll2)), (l2, .inl (kl2, 10, .inl fmq2)), (l4, .inl (kl4, 100, .inl fln2)), (rw0, .inl (krw0, 40, .inl frw2)), (rw1, .inl (krw1, 4, .inl fat2)), (rw2, .inl (krw2, 4, .inl fen2))]) A) (([.ref h0, .int (nI kd)] : List Value)).toArray s 0 0 A) (F0 m 301 ls []) := by
                intro fu
                induction fu with
                | zero => intro k7 fqx hk7 hqx hme; exact absurd hme (Nat.not_lt_zero _)
                | succ fu ih_16 =>
                  intro k7 fqx hk7 hqx hme H locs hP hD hS ls hl
                  refine lv_iload hx hb dX9_layLine_301 (lv_at hl 0 rfl) ?_
                  refine lv_aload_n hx hb dX9_layLine_303 rfl (lv_at hl 3 rfl) ?_
                  refine va_get (D := (dC, dI)) (ci := 8) (v := .int (nI (jn + 1))) (C := RX9) (T := TX9) (N := 35) hx hb hts inB_9 hown hK hP 0 rfl rfl 11 (by decide) (hts _ mw_3_193) (fun _ h9 => h9) rfl dX9_layLine_304 ?_
                  refine lv_icmp_ge (tgt := 366) hx hb dX9_layLine_307 (by decide) (fun c_17 => ?_) (fun c_17 => ?_)
                  · have b_18 := gx_ge (X := ((k7 : Nat) : Int)) (C := (((jn + 1) : Nat) : Int)) (nI_toInt (by omega)) (nI_toInt (by omega)) c_17
                    refine lv_aload_n hx hb dX9_layLine_366 rfl (lv_at hl 3 rfl) ?_
                    refine va_get (D := (dC, dI)) (ci := 8) (v := .ref l1) (C := RX9) (T := TX9) (N := 35) hx hb hts inB_9 hown hK hP 0 rfl rfl 6 (by decide) (hts _ mw_3_188) (fun _ h9 => h9) rfl dX9_layLine_367 ?_
                    refine lv_iload_n hx hb dX9_layLine_370 rfl (lv_at hl 4 rfl) ?_
                    refine lv_aload_n hx hb dX9_layLine_371 rfl (lv_at hl 3 rfl) ?_
                    refine va_get (D := (dC, dI)) (ci := 8) (v := .ref l2) (C := RX9) (T := TX9) (N := 35) hx hb hts inB_9 hown hK hP 0 rfl rfl 7 (by decide) (hts _ mw_3_189) (fun _ h9 => h9) rfl dX9_layLine_372 ?_
                    refine lv_iload_n hx hb dX9_layLine_375 rfl (lv_at hl 4 rfl) ?_
                    refine va_iald hx hb hK hP 4 3 rfl rfl (show vp_in (nI kd) 10 from vp_in_nI (by omega) (by omega)) dX9_layLine_376 ?_
                    refine hx_top (y := (fqx kd)) (congrArg _ (nI_clamp (by omega))) ?_
                    refine lv_if_ne (tgt := 384) hx hb dX9_layLine_377 (by decide) (fun c_19 => ?_) (fun c_19 => ?_)
                    · have b_20 := gx_ne (X := (Int32.toInt (fqx kd))) (C := 0) rfl (by decide) c_19
                      refine lv_iconst (v := 0) hx hb dX9_layLine_384 (by decide) ?_
                      refine va_iast hx hb hK hP hD hS 3 2 rfl rfl (show vp_in (nI kd) 10 from vp_in_nI (by omega) (by omega)) dX9_layLine_385 (fun H locs hP hD hS => ?_)
                      obtain ⟨f_21, ef_21⟩ : ∃ g : Nat → Int32, g = upd f_1 (Int32.toNatClampNeg (nI kd)) 0 := ⟨_, rfl⟩
                      rw [← ef_21] at hP hD
                      have ef_21 : f_21 = upd f_1 kd 0 := by rw [ef_21, nI_clamp (by omega)]
                      have pf_21 : BdOk 10 10 f_21 := by rw [ef_21]; exact bd_upd (z := 0) pf_1 (by omega)
                      have hP : va_P (dC, dI) vwCl [(h0, .inr (8, [.ref l5, .ref l3, w2, w3, w4, .ref l4, .ref l1, .ref l2, .ref rw0, .ref rw1, .ref rw2, .int (nI (jn + 1)), w12, w13, w14, w15, w16, w17, w18, w19, w20, w21, w22, w23, w24, w25, w26, w27, w28, w29, w30, w31, w32, w33, w34])), (l5, .inl (kl5, 30, .inl fpr)), (l3, .inl (kl3, 10, .inl fpm)), (l1, .inl (kl1, 10, .inl f_21)), (l2, .inl (kl2, 10, .inl fqx)), (l4, .inl (kl4, 100, .inl flx)), (rw0, .inl (krw0, 40, .inl frx)), (rw1, .inl (krw1, 4, .inl fay)), (rw2, .inl (krw2, 4, .inl f_8))] H := hP
                      have hD : va_D A [(h0, .inr (8, [.ref l5, .ref l3, w2, w3, w4, .ref l4, .ref l1, .ref l2, .ref rw0, .ref rw1, .ref rw2, .int (nI (jn + 1)), w12, w13, w14, w15, w16, w17, w18, w19, w20, w21, w22, w23, w24, w25, w26, w27, w28, w29, w30, w31, w32, w33, w34])), (l5, .inl (kl5, 30, .inl fpr)), (l3, .inl (kl3, 10, .inl fpm)), (l1, .inl (kl1, 10, .inl f_21)), (l2, .inl (kl2, 10, .inl fqx)), (l4, .inl (kl4, 100, .inl flx)), (rw0, .inl (krw0, 40, .inl frx)), (rw1, .inl (krw1, 4, .inl fay)), (rw2, .inl (krw2, 4, .inl f_8))] := hD
                      have hP9 := hP.sub (ws' := [(h0, .inr (8, [.ref l5, .ref l3, w2, w3, w4, .ref l4, .ref l1, .ref l2, .ref rw0, .ref rw1, .ref rw2, .int (nI (jn + 1)), w12, w13, w14, w15, w16, w17, w18, w19, w20, w21, w22, w23, w24, w25, w26, w27, w28, w29, w30, w31, w32, w33, w34])), (l5, .inl (kl5, 30, .inl fpr)), (l3, .inl (kl3, 10, .inl fpm)), (l1, .inl (kl1, 10, .inl f_21)), (l2, .inl (kl2, 10, .inl fqx)), (l4, .inl (kl4, 100, .inl flx)), (rw0, .inl (krw0, 40, .inl frx)), (rw1, .inl (krw1, 4, .inl fay)), (rw2, .inl (krw2, 4, .inl f_8))]) [0, 1, 2, 3, 4, 5, 6, 7, 8] rfl
                      have hD9 := hD.sub (ws' := [(h0, .inr (8, [.ref l5, .ref l3, w2, w3, w4, .ref l4, .ref l1, .ref l2, .ref rw0, .ref rw1, .ref rw2, .int (nI (jn + 1)), w12, w13, w14, w15, w16, w17, w18, w19, w20, w21, w22, w23, w24, w25, w26, w27, w28, w29, w30, w31, w32, w33, w34])), (l5, .inl (kl5, 30, .inl fpr)), (l3, .inl (kl3, 10, .inl fpm)), (l1, .inl (kl1, 10, .inl f_21)), (l2, .inl (kl2, 10, .inl fqx)), (l4, .inl (kl4, 100, .inl flx)), (rw0, .inl (krw0, 40, .inl frx)), (rw1, .inl (krw1, 4, .inl fay)), (rw2, .inl (krw2, 4, .inl f_8))]) [0, 1, 2, 3, 4, 5, 6, 7, 8] (by decide) rfl
                      have hK9 := hK.sub (tys' := [(kl5, .int), (kl3, .int), (kl1, .int), (kl2, .int), (kl4, .int), (krw0, .int), (krw1, .int), (krw2, .int)]) [0, 1, 2, 3, 4, 5, 6, 7] rfl
                      exact W.vret hx hb hr (fun t ht hW => ⟨⟨(), rfl, trivial, frx, fay, f_8, f_21, fqx, flx, (nI (jn + 1)), pf_21, (ln_next (z := 0) hlnd2 pf_1 (by omega) hlx (by omega) (by omega) ef_21), hfay, pf_8, (by have hq9 : fqx = upd fmq kd (begF frx fay f_8 (jn + 1)) := (by rw [hqx, show k7 = jn + 1 from (by omega)]); have q9 := (by have q := c_19; rw [hq9, pk_us] at q; exact q); exact km_lyes (L := 0) (Q := (begF frx fay f_8 (jn + 1))) hpr (by omega) hps9 ef_1 ef_2 ef_21 hq9 (show LayS f_1 fln (fun i => fpr (3 * kd + i)) jn kd _ _ flx from ⟨frx, f_7, f_8, fay, mn, hrs9, (by rw [← hly0, ← hly]; exact lay_end hnh (Or.inl (by omega))), rfl, (if_neg q9).symm⟩)), by rw [ht]; exact hP9, va_K.moved hW.alike hK9, hD9⟩, hS.F ht⟩) hS.2.2 dX9_layLine_386
                    · have b_20 := gn_ne (X := (Int32.toInt (fqx kd))) (C := 0) rfl (by decide) c_19
                      refine lv_iload_n hx hb dX9_layLine_380 rfl (lv_at hl 2 rfl) ?_
                      refine lv_goto (tgt := 385) hx hb dX9_layLine_381 (by decide) ?_
                      refine va_iast hx hb hK hP hD hS 3 2 rfl rfl (show vp_in (nI kd) 10 from vp_in_nI (by omega) (by omega)) dX9_layLine_385 (fun H locs hP hD hS => ?_)
                      obtain ⟨f_22, ef_22⟩ : ∃ g : Nat → Int32, g = upd f_1 (Int32.toNatClampNeg (nI kd)) (nI mn) := ⟨_, rfl⟩
                      rw [← ef_22] at hP hD
                      have ef_22 : f_22 = upd f_1 kd (nI mn) := by rw [ef_22, nI_clamp (by omega)]
                      have pf_22 : BdOk 10 10 f_22 := by rw [ef_22]; exact bd_upd (z := mn) pf_1 (by omega)
                      have hP : va_P (dC, dI) vwCl [(h0, .inr (8, [.ref l5, .ref l3, w2, w3, w4, .ref l4, .ref l1, .ref l2, .ref rw0, .ref rw1, .ref rw2, .int (nI (jn + 1)), w12, w13, w14, w15, w16, w17, w18, w19, w20, w21, w22, w23, w24, w25, w26, w27, w28, w29, w30, w31, w32, w33, w34])), (l5, .inl (kl5, 30, .inl fpr)), (l3, .inl (kl3, 10, .inl fpm)), (l1, .inl (kl1, 10, .inl f_22)), (l2, .inl (kl2, 10, .inl fqx)), (l4, .inl (kl4, 100, .inl flx)), (rw0, .inl (krw0, 40, .inl frx)), (rw1, .inl (krw1, 4, .inl fay)), (rw2, .inl (krw2, 4, .inl f_8))] H := hP
                      have hD : va_D A [(h0, .inr (8, [.ref l5, .ref l3, w2, w3, w4, .ref l4, .ref l1, .ref l2, .ref rw0, .ref rw1, .ref rw2, .int (nI (jn + 1)), w12, w13, w14, w15, w16, w17, w18, w19, w20, w21, w22, w23, w24, w25, w26, w27, w28, w29, w30, w31, w32, w33, w34])), (l5, .inl (kl5, 30, .inl fpr)), (l3, .inl (kl3, 10, .inl fpm)), (l1, .inl (kl1, 10, .inl f_22)), (l2, .inl (kl2, 10, .inl fqx)), (l4, .inl (kl4, 100, .inl flx)), (rw0, .inl (krw0, 40, .inl frx)), (rw1, .inl (krw1, 4, .inl fay)), (rw2, .inl (krw2, 4, .inl f_8))] := hD
                      have hP9 := hP.sub (ws' := [(h0, .inr (8, [.ref l5, .ref l3, w2, w3, w4, .ref l4, .ref l1, .ref l2, .ref rw0, .ref rw1, .ref rw2, .int (nI (jn + 1)), w12, w13, w14, w15, w16, w17, w18, w19, w20, w21, w22, w23, w24, w25, w26, w27, w28, w29, w30, w31, w32, w33, w34])), (l5, .inl (kl5, 30, .inl fpr)), (l3, .inl (kl3, 10, .inl fpm)), (l1, .inl (kl1, 10, .inl f_22)), (l2, .inl (kl2, 10, .inl fqx)), (l4, .inl (kl4, 100, .inl flx)), (rw0, .inl (krw0, 40, .inl frx)), (rw1, .inl (krw1, 4, .inl fay)), (rw2, .inl (krw2, 4, .inl f_8))]) [0, 1, 2, 3, 4, 5, 6, 7, 8] rfl
                      have hD9 := hD.sub (ws' := [(h0, .inr (8, [.ref l5, .ref l3, w2, w3, w4, .ref l4, .ref l1, .ref l2, .ref rw0, .ref rw1, .ref rw2, .int (nI (jn + 1)), w12, w13, w14, w15, w16, w17, w18, w19, w20, w21, w22, w23, w24, w25, w26, w27, w28, w29, w30, w31, w32, w33, w34])), (l5, .inl (kl5, 30, .inl fpr)), (l3, .inl (kl3, 10, .inl fpm)), (l1, .inl (kl1, 10, .inl f_22)), (l2, .inl (kl2, 10, .inl fqx)), (l4, .inl (kl4, 100, .inl flx)), (rw0, .inl (krw0, 40, .inl frx)), (rw1, .inl (krw1, 4, .inl fay)), (rw2, .inl (krw2, 4, .inl f_8))]) [0, 1, 2, 3, 4, 5, 6, 7, 8] (by decide) rfl
                      have hK9 := hK.sub (tys' := [(kl5, .int), (kl3, .int), (kl1, .int), (kl2, .int), (kl4, .int), (krw0, .int), (krw1, .int), (krw2, .int)]) [0, 1, 2, 3, 4, 5, 6, 7] rfl
                      exact W.vret hx hb hr (fun t ht hW => ⟨⟨(), rfl, trivial, frx, fay, f_8, f_22, fqx, flx, (nI (jn + 1)), pf_22, (ln_next (z := mn) hlnd2 pf_1 (by omega) hlx (by omega) (by omega) ef_22), hfay, pf_8, (by have hq9 : fqx = upd fmq kd (begF frx fay f_8 (jn + 1)) := (by rw [hqx, show k7 = jn + 1 from (by omega)]); have q9 := (by have q := c_19; rw [hq9, pk_us] at q; exact q); exact km_lyes (L := (nI mn)) (Q := (begF frx fay f_8 (jn + 1))) hpr (by omega) hps9 ef_1 ef_2 ef_22 hq9 (show LayS f_1 fln (fun i => fpr (3 * kd + i)) jn kd _ _ flx from ⟨frx, f_7, f_8, fay, mn, hrs9, (by rw [← hly0, ← hly]; exact lay_end hnh (Or.inl (by omega))), rfl, (if_pos q9).symm⟩)), by rw [ht]; exact hP9, va_K.moved hW.alike hK9, hD9⟩, hS.F ht⟩) hS.2.2 dX9_layLine_386
                  · have b_18 := gn_ge (X := ((k7 : Nat) : Int)) (C := (((jn + 1) : Nat) : Int)) (nI_toInt (by omega)) (nI_toInt (by omega)) c_17
                    refine lv_aload_n hx hb dX9_layLine_310 rfl (lv_at hl 3 rfl) ?_
                    refine va_get (D := (dC, dI)) (ci := 8) (v := .ref l2) (C := RX9) (T := TX9) (N := 35) hx hb hts inB_9 hown hK hP 0 rfl rfl 7 (by decide) (hts _ mw_3_189) (fun _ h9 => h9) rfl dX9_layLine_311 ?_
                    refine lv_iload_n hx hb dX9_layLine_314 rfl (lv_at hl 4 rfl) ?_
                    refine lv_dup2_11 hx hb dX9_layLine_315 rfl rfl ?_
                    refine va_iald hx hb hK hP 4 3 rfl rfl (show vp_in (nI kd) 10 from vp_in_nI (by omega) (by omega)) dX9_layLine_316 ?_
                    refine hx_top (y := (fqx kd)) (congrArg _ (nI_clamp (by omega))) ?_
                    refine lv_aload_n hx hb dX9_layLine_317 rfl (lv_at hl 3 rfl) ?_
                    refine va_get (D := (dC, dI)) (ci := 8) (v := .ref rw1) (C := RX9) (T := TX9) (N := 35) hx hb hts inB_9 hown hK hP 0 rfl rfl 9 (by decide) (hts _ mw_3_191) (fun _ h9 => h9) rfl dX9_layLine_318 ?_
                    refine lv_iload hx hb dX9_layLine_321 (lv_at hl 0 rfl) ?_
                    refine va_iald hx hb hK hP 7 6 rfl rfl (show vp_in (nI k7) 4 from vp_in_nI (by omega) (by omega)) dX9_layLine_323 ?_
                    refine hx_top (y := (fay k7)) (congrArg _ (nI_clamp (by omega))) ?_
                    obtain ⟨n_23, hn_23, en_23⟩ := hfay k7 (by omega)
                    refine hx_top (y := (nI n_23)) en_23 ?_
                    refine lv_aload_n hx hb dX9_layLine_324 rfl (lv_at hl 3 rfl) ?_
                    refine va_get (D := (dC, dI)) (ci := 8) (v := .ref rw2) (C := RX9) (T := TX9) (N := 35) hx hb hts inB_9 hown hK hP 0 rfl rfl 10 (by decide) (hts _ mw_3_192) (fun _ h9 => h9) rfl dX9_layLine_325 ?_
                    refine lv_iload hx hb dX9_layLine_328 (lv_at hl 0 rfl) ?_
                    refine va_iald hx hb hK hP 8 7 rfl rfl (show vp_in (nI k7) 4 from vp_in_nI (by omega) (by omega)) dX9_layLine_330 ?_
                    refine hx_top (y := (f_8 k7)) (congrArg _ (nI_clamp (by omega))) ?_
                    obtain ⟨n_24, hn_24, en_24⟩ := pf_8 k7 (by omega)
                    refine hx_top (y := (nI n_24)) en_24 ?_
                    refine lv_icmp_ge (tgt := 357) hx hb dX9_layLine_331 (by decide) (fun c_25 => ?_) (fun c_25 => ?_)
                    · have b_26 := gx_ge (X := ((n_23 : Nat) : Int)) (C := ((n_24 : Nat) : Int)) (nI_toInt (by omega)) (nI_toInt (by omega)) c_25
                      refine lv_iconst (v := 0) hx hb dX9_layLine_357 (by decide) ?_
                      refine lv_ior hx hb dX9_layLine_358 ?_
                      refine va_iast hx hb hK hP hD hS 4 3 rfl rfl (show vp_in (nI kd) 10 from vp_in_nI (by omega) (by omega)) dX9_layLine_359 (fun H locs hP hD hS => ?_)
                      obtain ⟨f_27, ef_27⟩ : ∃ g : Nat → Int32, g = upd fqx (Int32.toNatClampNeg (nI kd)) ((fqx kd) ||| 0) := ⟨_, rfl⟩
                      rw [← ef_27] at hP hD
                      have ef_27 : f_27 = upd fqx kd ((fqx kd) ||| 0) := by rw [ef_27, nI_clamp (by omega)]
                      have hP : va_P (dC, dI) vwCl [(h0, .inr (8, [.ref l5, .ref l3, w2, w3, w4, .ref l4, .ref l1, .ref l2, .ref rw0, .ref rw1, .ref rw2, .int (nI (jn + 1)), w12, w13, w14, w15, w16, w17, w18, w19, w20, w21, w22, w23, w24, w25, w26, w27, w28, w29, w30, w31, w32, w33, w34])), (l5, .inl (kl5, 30, .inl fpr)), (l3, .inl (kl3, 10, .inl fpm)), (l1, .inl (kl1, 10, .inl f_1)), (l2, .inl (kl2, 10, .inl f_27)), (l4, .inl (kl4, 100, .inl flx)), (rw0, .inl (krw0, 40, .inl frx)), (rw1, .inl (krw1, 4, .inl fay)), (rw2, .inl (krw2, 4, .inl f_8))] H := hP
                      have hD : va_D A [(h0, .inr (8, [.ref l5, .ref l3, w2, w3, w4, .ref l4, .ref l1, .ref l2, .ref rw0, .ref rw1, .ref rw2, .int (nI (jn + 1)), w12, w13, w14, w15, w16, w17, w18, w19, w20, w21, w22, w23, w24, w25, w26, w27, w28, w29, w30, w31, w32, w33, w34])), (l5, .inl (kl5, 30, .inl fpr)), (l3, .inl (kl3, 10, .inl fpm)), (l1, .inl (kl1, 10, .inl f_1)), (l2, .inl (kl2, 10, .inl f_27)), (l4, .inl (kl4, 100, .inl flx)), (rw0, .inl (krw0, 40, .inl frx)), (rw1, .inl (krw1, 4, .inl fay)), (rw2, .inl (krw2, 4, .inl f_8))] := hD
                      refine lv_iinc (v := (nI (k7 + 1))) (lv' := [(4, .int (nI (k7 + 1))), (3, .int hd), (2, .int (nI mn)), (0, .ref h0), (1, .int (nI kd))]) hx hb dX9_layLine_360 hl (k := 0) rfl (nI_add k7 1) (by decide) rfl (fun ls hl => ?_)
                      refine lv_goto (tgt := 301) hx hb dX9_layLine_363 (by decide) ?_
                      exact ih_16 (k7 + 1) f_27 (by omega) (bgm_no hqx ef_27 (by rw [en_23, en_24, nI_clamp (by omega), nI_clamp (by omega)]; omega)) (by omega) _ _ hP hD hS ls (lv_sub hl [0, 1, 2, 3, 4] rfl)
                    · have b_26 := gn_ge (X := ((n_23 : Nat) : Int)) (C := ((n_24 : Nat) : Int)) (nI_toInt (by omega)) (nI_toInt (by omega)) c_25
                      refine lv_iconst (v := 1) hx hb dX9_layLine_334 (by decide) ?_
                      refine lv_aload_n hx hb dX9_layLine_335 rfl (lv_at hl 3 rfl) ?_
                      refine va_get (D := (dC, dI)) (ci := 8) (v := .ref rw0) (C := RX9) (T := TX9) (N := 35) hx hb hts inB_9 hown hK hP 0 rfl rfl 8 (by decide) (hts _ mw_3_190) (fun _ h9 => h9) rfl dX9_layLine_336 ?_
                      refine lv_bipush (v := 10) hx hb dX9_layLine_339 (by decide) ?_
                      refine lv_iload hx hb dX9_layLine_341 (lv_at hl 0 rfl) ?_
                      refine lv_imul hx hb dX9_layLine_343 ?_
                      refine hx_top (y := (nI (10 * k7))) (pk_mul 10 k7) ?_
                      refine lv_aload_n hx hb dX9_layLine_344 rfl (lv_at hl 3 rfl) ?_
                      refine va_get (D := (dC, dI)) (ci := 8) (v := .ref rw1) (C := RX9) (T := TX9) (N := 35) hx hb hts inB_9 hown hK hP 0 rfl rfl 9 (by decide) (hts _ mw_3_191) (fun _ h9 => h9) rfl dX9_layLine_345 ?_
                      refine lv_iload hx hb dX9_layLine_348 (lv_at hl 0 rfl) ?_
                      refine va_iald hx hb hK hP 7 6 rfl rfl (show vp_in (nI k7) 4 from vp_in_nI (by omega) (by omega)) dX9_layLine_350 ?_
                      refine hx_top (y := (fay k7)) (congrArg _ (nI_clamp (by omega))) ?_
                      refine hx_top (y := (nI n_23)) en_23 ?_
                      refine lv_iadd hx hb dX9_layLine_351 ?_
                      refine hx_top (y := (nI ((10 * k7) + n_23))) (nI_add (10 * k7) n_23) ?_
                      refine va_iald hx hb hK hP 6 5 rfl rfl (show vp_in (nI ((10 * k7) + n_23)) 40 from vp_in_nI (by omega) (by omega)) dX9_layLine_352 ?_
                      refine hx_top (y := (frx ((10 * k7) + n_23))) (congrArg _ (nI_clamp (by omega))) ?_
                      obtain ⟨n_28, hn_28, en_28⟩ := hrwd k7 (by omega) n_23 (by rw [en_24, nI_clamp (by omega)]; omega)
                      refine hx_top (y := (nI n_28)) en_28 ?_
                      refine lv_ishl hx hb dX9_layLine_353 ?_
                      refine lv_goto (tgt := 358) hx hb dX9_layLine_354 (by decide) ?_
                      refine lv_ior hx hb dX9_layLine_358 ?_
                      refine va_iast hx hb hK hP hD hS 4 3 rfl rfl (show vp_in (nI kd) 10 from vp_in_nI (by omega) (by omega)) dX9_layLine_359 (fun H locs hP hD hS => ?_)
                      obtain ⟨f_29, ef_29⟩ : ∃ g : Nat → Int32, g = upd fqx (Int32.toNatClampNeg (nI kd)) ((fqx kd) ||| (1 <<< ((nI n_28) &&& 31))) := ⟨_, rfl⟩
                      rw [← ef_29] at hP hD
                      have ef_29 : f_29 = upd fqx kd ((fqx kd) ||| (1 <<< ((nI n_28) &&& 31))) := by rw [ef_29, nI_clamp (by omega)]
                      have hP : va_P (dC, dI) vwCl [(h0, .inr (8, [.ref l5, .ref l3, w2, w3, w4, .ref l4, .ref l1, .ref l2, .ref rw0, .ref rw1, .ref rw2, .int (nI (jn + 1)), w12, w13, w14, w15, w16, w17, w18, w19, w20, w21, w22, w23, w24, w25, w26, w27, w28, w29, w30, w31, w32, w33, w34])), (l5, .inl (kl5, 30, .inl fpr)), (l3, .inl (kl3, 10, .inl fpm)), (l1, .inl (kl1, 10, .inl f_1)), (l2, .inl (kl2, 10, .inl f_29)), (l4, .inl (kl4, 100, .inl flx)), (rw0, .inl (krw0, 40, .inl frx)), (rw1, .inl (krw1, 4, .inl fay)), (rw2, .inl (krw2, 4, .inl f_8))] H := hP
                      have hD : va_D A [(h0, .inr (8, [.ref l5, .ref l3, w2, w3, w4, .ref l4, .ref l1, .ref l2, .ref rw0, .ref rw1, .ref rw2, .int (nI (jn + 1)), w12, w13, w14, w15, w16, w17, w18, w19, w20, w21, w22, w23, w24, w25, w26, w27, w28, w29, w30, w31, w32, w33, w34])), (l5, .inl (kl5, 30, .inl fpr)), (l3, .inl (kl3, 10, .inl fpm)), (l1, .inl (kl1, 10, .inl f_1)), (l2, .inl (kl2, 10, .inl f_29)), (l4, .inl (kl4, 100, .inl flx)), (rw0, .inl (krw0, 40, .inl frx)), (rw1, .inl (krw1, 4, .inl fay)), (rw2, .inl (krw2, 4, .inl f_8))] := hD
                      refine lv_iinc (v := (nI (k7 + 1))) (lv' := [(4, .int (nI (k7 + 1))), (3, .int hd), (2, .int (nI mn)), (0, .ref h0), (1, .int (nI kd))]) hx hb dX9_layLine_360 hl (k := 0) rfl (nI_add k7 1) (by decide) rfl (fun ls hl => ?_)
                      refine lv_goto (tgt := 301) hx hb dX9_layLine_363 (by decide) ?_
                      exact ih_16 (k7 + 1) f_29 (by omega) (bgm_yes hqx (by rw [en_23, nI_clamp (by omega)]; exact en_28) (by rw [en_23, en_24, nI_clamp (by omega), nI_clamp (by omega)]; omega) ef_29) (by omega) _ _ hP hD hS ls (lv_sub hl [0, 1, 2, 3, 4] rfl)
              exact key_15 (((jn + 1) - 0) + 1) 0 f_2 (by omega) ef_2 (Nat.lt_succ_self _) _ _ hP hD hS ls (lv_sub hl [0, 1, 2, 3, 4] rfl)
            · have b_14 := gn_lt (X := (Int32.toInt hd)) (C := 0) rfl (by decide) c_13
              obtain ⟨q9, rfl, hq9⟩ := hhd.resolve_left (fun z => by rw [z] at b_14; exact absurd b_14 (by decide))
              have hfr := hd_free hq9 hrem
              have hct := cB_lt hfr hq9.1
              have hset := cB_set hfr hq9.1
              have hcl9 := cB_le tk kd
              have hlt9 := hq9.1
              refine lv_aload_n hx hb dX9_layLine_203 rfl (lv_at hl 2 rfl) ?_
              refine va_get (D := (dC, dI)) (ci := 8) (v := .ref l4) (C := RX9) (T := TX9) (N := 35) hx hb hts inB_9 hown hK hP 0 rfl rfl 5 (by decide) (hts _ mw_3_187) (fun _ h9 => h9) rfl dX9_layLine_204 ?_
              refine lv_bipush (v := 10) hx hb dX9_layLine_207 (by decide) ?_
              refine lv_iload_n hx hb dX9_layLine_209 rfl (lv_at hl 3 rfl) ?_
              refine lv_imul hx hb dX9_layLine_210 ?_
              refine hx_top (y := (nI (10 * kd))) (pk_mul 10 kd) ?_
              refine lv_iload_n hx hb dX9_layLine_211 rfl (lv_at hl 1 rfl) ?_
              refine lv_iadd hx hb dX9_layLine_212 ?_
              refine hx_top (y := (nI ((10 * kd) + mn))) (nI_add (10 * kd) mn) ?_
              refine lv_iload_n hx hb dX9_layLine_213 rfl (lv_at hl 0 rfl) ?_
              refine va_iast hx hb hK hP hD hS 5 4 rfl rfl (show vp_in (nI ((10 * kd) + mn)) 100 from vp_in_nI (by omega) (by omega)) dX9_layLine_214 (fun H locs hP hD hS => ?_)
              obtain ⟨f_30, ef_30⟩ : ∃ g : Nat → Int32, g = upd flx (Int32.toNatClampNeg (nI ((10 * kd) + mn))) (nI q9) := ⟨_, rfl⟩
              rw [← ef_30] at hP hD
              have ef_30 : f_30 = upd flx ((10 * kd) + mn) (nI q9) := by rw [ef_30, nI_clamp (by omega)]
              have hP : va_P (dC, dI) vwCl [(h0, .inr (8, [.ref l5, .ref l3, w2, w3, w4, .ref l4, .ref l1, .ref l2, .ref rw0, .ref rw1, .ref rw2, .int (nI (jn + 1)), w12, w13, w14, w15, w16, w17, w18, w19, w20, w21, w22, w23, w24, w25, w26, w27, w28, w29, w30, w31, w32, w33, w34])), (l5, .inl (kl5, 30, .inl fpr)), (l3, .inl (kl3, 10, .inl fpm)), (l1, .inl (kl1, 10, .inl f_1)), (l2, .inl (kl2, 10, .inl f_2)), (l4, .inl (kl4, 100, .inl f_30)), (rw0, .inl (krw0, 40, .inl frx)), (rw1, .inl (krw1, 4, .inl fay)), (rw2, .inl (krw2, 4, .inl f_8))] H := hP
              have hD : va_D A [(h0, .inr (8, [.ref l5, .ref l3, w2, w3, w4, .ref l4, .ref l1, .ref l2, .ref rw0, .ref rw1, .ref rw2, .int (nI (jn + 1)), w12, w13, w14, w15, w16, w17, w18, w19, w20, w21, w22, w23, w24, w25, w26, w27, w28, w29, w30, w31, w32, w33, w34])), (l5, .inl (kl5, 30, .inl fpr)), (l3, .inl (kl3, 10, .inl fpm)), (l1, .inl (kl1, 10, .inl f_1)), (l2, .inl (kl2, 10, .inl f_2)), (l4, .inl (kl4, 100, .inl f_30)), (rw0, .inl (krw0, 40, .inl frx)), (rw1, .inl (krw1, 4, .inl fay)), (rw2, .inl (krw2, 4, .inl f_8))] := hD
              refine lv_iinc (v := (nI (mn + 1))) (lv' := [(2, .int (nI (mn + 1))), (3, .int (nI q9)), (0, .ref h0), (1, .int (nI kd))]) hx hb dX9_layLine_215 hl (k := 1) rfl (nI_add mn 1) (by decide) rfl (fun ls hl => ?_)
              refine lv_iconst (v := 0) hx hb dX9_layLine_218 (by decide) ?_
              refine lv_istore (lv' := [(4, .int 0), (2, .int (nI (mn + 1))), (3, .int (nI q9)), (0, .ref h0), (1, .int (nI kd))]) hx hb dX9_layLine_219 hl (by decide) rfl (fun ls hl => ?_)
              have key_31 : ∀ (fu : Nat) (k : Nat) (faz : Nat → Int32), (k ≤ (jn + 1)) → (BdOk 4 10 faz) → (AdvI frx fay faz f_8 (nI q9) k) → (jn + 1) - k < fu → ∀ (H : Heap) (locs : List Loc), va_P (dC, dI) vwCl [(h0, .inr (8, [.ref l5, .ref l3, w2, w3, w4, .ref l4, .ref l1, .ref l2, .ref rw0, .ref rw1, .ref rw2, .int (nI (jn + 1)), w12, w13, w14, w15, w16, w17, w18, w19, w20, w21, w22, w23, w24, w25, w26, w27, w28, w29, w30, w31, w32, w33, w34])), (l5, .inl (kl5, 30, .inl fpr)), (l3, .inl (kl3, 10, .inl fpm)), (l1, .inl (kl1, 10, .inl f_1)), (l2, .inl (kl2, 10, .inl f_2)), (l4, .inl (kl4, 100, .inl f_30)), (rw0, .inl (krw0, 40, .inl frx)), (rw1, .inl (krw1, 4, .inl faz)), (rw2, .inl (krw2, 4, .inl f_8))] H → va_D A [(h0, .inr (8, [.ref l5, .ref l3, w2, w3, w4, .ref l4, .ref l1, .ref l2, .ref rw0, .ref rw1, .ref rw2, .int (nI (jn + 1)), w12, w13, w14, w15, w16, w17, w18, w19, w20, w21, w22, w23, w24, w25, w26, w27, w28, w29, w30, w31, w32, w33, w34])), (l5, .inl (kl5, 30, .inl fpr)), (l3, .inl (kl3, 10, .inl fpm)), (l1, .inl (kl1, 10, .inl f_1)), (l2, .inl (kl2, 10, .inl f_2)), (l4, .inl (kl4, 100, .inl f_30)), (rw0, .inl (krw0, 40, .inl frx)), (rw1, .inl (krw1, 4, .inl faz)), (rw2, .inl (krw2, 4, .inl f_8))] → va_S A s.heap H locs → ∀ (ls : Array Slot), lv_has ls 5 [(4, .int (nI k)), (2, .int (nI (mn + 1))), (3, .int (nI q9)), (0, .ref h0), (1, .int (nI kd))] → W p l e (headSpec (wq yX9_layLine cX9_layLine 5 none) ({ frames := 2, cells := 0, slots := 0, locals := 47 })).room s m (([.ref h0, .int (nI kd)] : List Value)).toArray below meth c H locs 0 0 (MQ below (va_Qv (fun _ : Unit => True) (fun _ t => ∃ (frw2 : Nat → Int32) (fat2 : Nat → Int32) (fen2 : Nat → Int32) (fll2 : Nat → Int32) (fmq2 : Nat → Int32) (fln2 : Nat → Int32) (rm2 : Int32), (BdOk 10 10 fll2) ∧ (LnOk fll2 fln2 (kd + 1)) ∧ (BdOk 4 10 fat2) ∧ (BdOk 4 10 fen2) ∧ (KM kd fll fln fmq fll2 fln2 fmq2 (fun i => fpr (3 * kd + i)) jn) ∧ va_P (dC, dI) vwCl [(h0, .inr (8, [.ref l5, .ref l3, w2, w3, w4, .ref l4, .ref l1, .ref l2, .ref rw0, .ref rw1, .ref rw2, .int rm2, w12, w13, w14, w15, w16, w17, w18, w19, w20, w21, w22, w23, w24, w25, w26, w27, w28, w29, w30, w31, w32, w33, w34])), (l5, .inl (kl5, 30, .inl fpr)), (l3, .inl (kl3, 10, .inl fpm)), (l1, .inl (kl1, 10, .inl fll2)), (l2, .inl (kl2, 10, .inl fmq2)), (l4, .inl (kl4, 100, .inl fln2)), (rw0, .inl (krw0, 40, .inl frw2)), (rw1, .inl (krw1, 4, .inl fat2)), (rw2, .inl (krw2, 4, .inl fen2))] t.heap ∧ va_K (dC, dI) vwCl [(kl5, .int), (kl3, .int), (kl1, .int), (kl2, .int), (kl4, .int), (krw0, .int), (krw1, .int), (krw2, .int)] t ∧ va_D A [(h0, .inr (8, [.ref l5, .ref l3, w2, w3, w4, .ref l4, .ref l1, .ref l2, .ref rw0, .ref rw1, .ref rw2, .int rm2, w12, w13, w14, w15, w16, w17, w18, w19, w20, w21, w22, w23, w24, w25, w26, w27, w28, w29, w30, w31, w32, w33, w34])), (l5, .inl (kl5, 30, .inl fpr)), (l3, .inl (kl3, 10, .inl fpm)), (l1, .inl (kl1, 10, .inl fll2)), (l2, .inl (kl2, 10, .inl fmq2)), (l4, .inl (kl4, 100, .inl fln2)), (rw0, .inl (krw0, 40, .inl frw2)), (rw1, .inl (krw1, 4, .inl fat2)), (rw2, .inl (krw2, 4, .inl fen2))]) A) (([.ref h0, .int (nI kd)] : List Value)).toArray s 0 0 A) (F0 m 221 ls []) := by
                intro fu
                induction fu with
                | zero => intro k faz hk hfz hadv hme; exact absurd hme (Nat.not_lt_zero _)
                | succ fu ih_32 =>
                  intro k faz hk hfz hadv hme H locs hP hD hS ls hl
                  refine lv_iload hx hb dX9_layLine_221 (lv_at hl 0 rfl) ?_
                  refine lv_aload_n hx hb dX9_layLine_223 rfl (lv_at hl 3 rfl) ?_
                  refine va_get (D := (dC, dI)) (ci := 8) (v := .int (nI (jn + 1))) (C := RX9) (T := TX9) (N := 35) hx hb hts inB_9 hown hK hP 0 rfl rfl 11 (by decide) (hts _ mw_3_193) (fun _ h9 => h9) rfl dX9_layLine_224 ?_
                  refine lv_icmp_ge (tgt := 290) hx hb dX9_layLine_227 (by decide) (fun c_33 => ?_) (fun c_33 => ?_)
                  · have b_34 := gx_ge (X := ((k : Nat) : Int)) (C := (((jn + 1) : Nat) : Int)) (nI_toInt (by omega)) (nI_toInt (by omega)) c_33
                    refine lv_aload_n hx hb dX9_layLine_290 rfl (lv_at hl 3 rfl) ?_
                    have hPc := hP.sub (ws' := [(h0, .inr (8, [.ref l5, .ref l3, w2, w3, w4, .ref l4, .ref l1, .ref l2, .ref rw0, .ref rw1, .ref rw2, .int (nI (jn + 1)), w12, w13, w14, w15, w16, w17, w18, w19, w20, w21, w22, w23, w24, w25, w26, w27, w28, w29, w30, w31, w32, w33, w34])), (rw0, .inl (krw0, 40, .inl frx)), (rw1, .inl (krw1, 4, .inl faz)), (rw2, .inl (krw2, 4, .inl f_8))]) [0, 6, 7, 8] rfl
                    have hDc := hD.sub (ws' := [(h0, .inr (8, [.ref l5, .ref l3, w2, w3, w4, .ref l4, .ref l1, .ref l2, .ref rw0, .ref rw1, .ref rw2, .int (nI (jn + 1)), w12, w13, w14, w15, w16, w17, w18, w19, w20, w21, w22, w23, w24, w25, w26, w27, w28, w29, w30, w31, w32, w33, w34])), (rw0, .inl (krw0, 40, .inl frx)), (rw1, .inl (krw1, 4, .inl faz)), (rw2, .inl (krw2, 4, .inl f_8))]) [0, 6, 7, 8] (by decide) rfl
                    have hKc := hK.sub (tys' := [(krw0, .int), (krw1, .int), (krw2, .int)]) [5, 6, 7] rfl
                    refine va_calli (va_runV (As := []) (rest := []) ⟨hx, hb, hml, hown, hts⟩ (m_nextHead l dC dI H.size h0 (.ref l5) (.ref l3) (w2) (w3) (w4) (.ref l4) (.ref l1) (.ref l2) rw0 rw1 rw2 (jn + 1) (w12) (w13) (w14) (w15) (w16) (w17) (w18) (w19) (w20) (w21) (w22) (w23) (w24) (w25) (w26) (w27) (w28) (w29) (w30) (w31) (w32) (w33) (w34) krw0 frx krw1 faz krw2 f_8 kd (by omega) hfz pf_8 hrwd (by omega)) (cwV 0 hts (gV mw_4_65 mw_4_67 mw_0_17 mw_1_9 mw_4_68) rfl rfl rfl (by decide +kernel) ⟨Nat.le_of_ble_eq_true rfl, Nat.le_of_ble_eq_true rfl⟩) ⟨pcW_blind, va_recv hKc hPc (ci := 8) (q0 := 0) rfl rfl, pcW_at hPc hKc hDc hN⟩ rfl rfl hl.1 rfl (lv_room (Nat.le_of_ble_eq_true rfl)) dX9_layLine_291 ⟨Nat.le_of_ble_eq_true rfl, Nat.le_of_ble_eq_true rfl⟩) hS (fun q h1 h2 => absurd h2 (Nat.not_le.mpr h1)) (fun q h => hA q (Nat.le_trans hS.1 h)) (fun r_35 u t H1 locs ht hvm hw_35 hB hz1 hk1 hS => ?_)
                    have hP := keepP hP hk1
                    clear hz1 hk1 hB ht hvm hPc hDc hKc
                    generalize H1 = H at hP hS ⊢
                    refine lv_istore_n (lv' := [(3, .int r_35), (4, .int (nI k)), (2, .int (nI (mn + 1))), (0, .ref h0), (1, .int (nI kd))]) hx hb dX9_layLine_294 rfl hl (by decide) rfl (fun ls hl => ?_)
                    refine lv_goto (tgt := 199) hx hb dX9_layLine_295 (by decide) ?_
                    exact ih_12 (mn + 1) r_35 (tset tk q9) f_30 faz hw_35.2 ((lay_step hnh (by rw [nI_toInt (by omega)]; omega) (by omega) (by have q : k = jn + 1 := (by omega); rw [q] at hadv; exact hadv) ef_30).symm.trans hly) (by rw [hset]; omega) hw_35.1 (rem_next hfay (by omega) hrem hq9.2.1 hadv (by omega) (by omega)) hfz (lx_step hlx (by omega) ef_30) (by omega) _ _ hP hD hS ls (lv_sub hl [0, 2, 3, 4] rfl)
                  · have b_34 := gn_ge (X := ((k : Nat) : Int)) (C := (((jn + 1) : Nat) : Int)) (nI_toInt (by omega)) (nI_toInt (by omega)) c_33
                    refine lv_aload_n hx hb dX9_layLine_230 rfl (lv_at hl 3 rfl) ?_
                    refine va_get (D := (dC, dI)) (ci := 8) (v := .ref rw1) (C := RX9) (T := TX9) (N := 35) hx hb hts inB_9 hown hK hP 0 rfl rfl 9 (by decide) (hts _ mw_3_191) (fun _ h9 => h9) rfl dX9_layLine_231 ?_
                    refine lv_iload hx hb dX9_layLine_234 (lv_at hl 0 rfl) ?_
                    refine lv_dup2_11 hx hb dX9_layLine_236 rfl rfl ?_
                    refine va_iald hx hb hK hP 7 6 rfl rfl (show vp_in (nI k) 4 from vp_in_nI (by omega) (by omega)) dX9_layLine_237 ?_
                    refine hx_top (y := (faz k)) (congrArg _ (nI_clamp (by omega))) ?_
                    obtain ⟨n_36, hn_36, en_36⟩ := hfz k (by omega)
                    refine hx_top (y := (nI n_36)) en_36 ?_
                    refine lv_aload_n hx hb dX9_layLine_238 rfl (lv_at hl 3 rfl) ?_
                    refine va_get (D := (dC, dI)) (ci := 8) (v := .ref rw1) (C := RX9) (T := TX9) (N := 35) hx hb hts inB_9 hown hK hP 0 rfl rfl 9 (by decide) (hts _ mw_3_191) (fun _ h9 => h9) rfl dX9_layLine_239 ?_
                    refine lv_iload hx hb dX9_layLine_242 (lv_at hl 0 rfl) ?_
                    refine va_iald hx hb hK hP 7 6 rfl rfl (show vp_in (nI k) 4 from vp_in_nI (by omega) (by omega)) dX9_layLine_244 ?_
                    refine hx_top (y := (faz k)) (congrArg _ (nI_clamp (by omega))) ?_
                    refine hx_top (y := (nI n_36)) en_36 ?_
                    refine lv_aload_n hx hb dX9_layLine_245 rfl (lv_at hl 3 rfl) ?_
                    refine va_get (D := (dC, dI)) (ci := 8) (v := .ref rw2) (C := RX9) (T := TX9) (N := 35) hx hb hts inB_9 hown hK hP 0 rfl rfl 10 (by decide) (hts _ mw_3_192) (fun _ h9 => h9) rfl dX9_layLine_246 ?_
                    refine lv_iload hx hb dX9_layLine_249 (lv_at hl 0 rfl) ?_
                    refine va_iald hx hb hK hP 8 7 rfl rfl (show vp_in (nI k) 4 from vp_in_nI (by omega) (by omega)) dX9_layLine_251 ?_
                    refine hx_top (y := (f_8 k)) (congrArg _ (nI_clamp (by omega))) ?_
                    obtain ⟨n_37, hn_37, en_37⟩ := pf_8 k (by omega)
                    refine hx_top (y := (nI n_37)) en_37 ?_
                    refine lv_icmp_ge (tgt := 281) hx hb dX9_layLine_252 (by decide) (fun c_38 => ?_) (fun c_38 => ?_)
                    · have b_39 := gx_ge (X := ((n_36 : Nat) : Int)) (C := ((n_37 : Nat) : Int)) (nI_toInt (by omega)) (nI_toInt (by omega)) c_38
                      refine lv_iconst (v := 0) hx hb dX9_layLine_281 (by decide) ?_
                      refine lv_iadd hx hb dX9_layLine_282 ?_
                      refine hx_top (y := (nI (n_36 + 0))) (nI_add n_36 0) ?_
                      refine va_iast hx hb hK hP hD hS 7 6 rfl rfl (show vp_in (nI k) 4 from vp_in_nI (by omega) (by omega)) dX9_layLine_283 (fun H locs hP hD hS => ?_)
                      obtain ⟨f_40, ef_40⟩ : ∃ g : Nat → Int32, g = upd faz (Int32.toNatClampNeg (nI k)) (nI (n_36 + 0)) := ⟨_, rfl⟩
                      rw [← ef_40] at hP hD
                      have ef_40 : f_40 = upd faz k (nI (n_36 + 0)) := by rw [ef_40, nI_clamp (by omega)]
                      have pf_40 : BdOk 4 10 f_40 := by rw [ef_40]; exact bd_upd (z := (n_36 + 0)) hfz (by omega)
                      have hP : va_P (dC, dI) vwCl [(h0, .inr (8, [.ref l5, .ref l3, w2, w3, w4, .ref l4, .ref l1, .ref l2, .ref rw0, .ref rw1, .ref rw2, .int (nI (jn + 1)), w12, w13, w14, w15, w16, w17, w18, w19, w20, w21, w22, w23, w24, w25, w26, w27, w28, w29, w30, w31, w32, w33, w34])), (l5, .inl (kl5, 30, .inl fpr)), (l3, .inl (kl3, 10, .inl fpm)), (l1, .inl (kl1, 10, .inl f_1)), (l2, .inl (kl2, 10, .inl f_2)), (l4, .inl (kl4, 100, .inl f_30)), (rw0, .inl (krw0, 40, .inl frx)), (rw1, .inl (krw1, 4, .inl f_40)), (rw2, .inl (krw2, 4, .inl f_8))] H := hP
                      have hD : va_D A [(h0, .inr (8, [.ref l5, .ref l3, w2, w3, w4, .ref l4, .ref l1, .ref l2, .ref rw0, .ref rw1, .ref rw2, .int (nI (jn + 1)), w12, w13, w14, w15, w16, w17, w18, w19, w20, w21, w22, w23, w24, w25, w26, w27, w28, w29, w30, w31, w32, w33, w34])), (l5, .inl (kl5, 30, .inl fpr)), (l3, .inl (kl3, 10, .inl fpm)), (l1, .inl (kl1, 10, .inl f_1)), (l2, .inl (kl2, 10, .inl f_2)), (l4, .inl (kl4, 100, .inl f_30)), (rw0, .inl (krw0, 40, .inl frx)), (rw1, .inl (krw1, 4, .inl f_40)), (rw2, .inl (krw2, 4, .inl f_8))] := hD
                      refine lv_iinc (v := (nI (k + 1))) (lv' := [(4, .int (nI (k + 1))), (2, .int (nI (mn + 1))), (3, .int (nI q9)), (0, .ref h0), (1, .int (nI kd))]) hx hb dX9_layLine_284 hl (k := 0) rfl (nI_add k 1) (by decide) rfl (fun ls hl => ?_)
                      refine lv_goto (tgt := 221) hx hb dX9_layLine_287 (by decide) ?_
                      exact ih_32 (k + 1) f_40 (by omega) pf_40 (adv_no hadv en_36 (by omega) en_37 (by omega) (fun z => absurd z.1 (by omega)) ef_40) (by omega) _ _ hP hD hS ls (lv_sub hl [0, 1, 2, 3, 4] rfl)
                    · have b_39 := gn_ge (X := ((n_36 : Nat) : Int)) (C := ((n_37 : Nat) : Int)) (nI_toInt (by omega)) (nI_toInt (by omega)) c_38
                      refine lv_aload_n hx hb dX9_layLine_255 rfl (lv_at hl 3 rfl) ?_
                      refine va_get (D := (dC, dI)) (ci := 8) (v := .ref rw0) (C := RX9) (T := TX9) (N := 35) hx hb hts inB_9 hown hK hP 0 rfl rfl 8 (by decide) (hts _ mw_3_190) (fun _ h9 => h9) rfl dX9_layLine_256 ?_
                      refine lv_bipush (v := 10) hx hb dX9_layLine_259 (by decide) ?_
                      refine lv_iload hx hb dX9_layLine_261 (lv_at hl 0 rfl) ?_
                      refine lv_imul hx hb dX9_layLine_263 ?_
                      refine hx_top (y := (nI (10 * k))) (pk_mul 10 k) ?_
                      refine lv_aload_n hx hb dX9_layLine_264 rfl (lv_at hl 3 rfl) ?_
                      refine va_get (D := (dC, dI)) (ci := 8) (v := .ref rw1) (C := RX9) (T := TX9) (N := 35) hx hb hts inB_9 hown hK hP 0 rfl rfl 9 (by decide) (hts _ mw_3_191) (fun _ h9 => h9) rfl dX9_layLine_265 ?_
                      refine lv_iload hx hb dX9_layLine_268 (lv_at hl 0 rfl) ?_
                      refine va_iald hx hb hK hP 7 6 rfl rfl (show vp_in (nI k) 4 from vp_in_nI (by omega) (by omega)) dX9_layLine_270 ?_
                      refine hx_top (y := (faz k)) (congrArg _ (nI_clamp (by omega))) ?_
                      refine hx_top (y := (nI n_36)) en_36 ?_
                      refine lv_iadd hx hb dX9_layLine_271 ?_
                      refine hx_top (y := (nI ((10 * k) + n_36))) (nI_add (10 * k) n_36) ?_
                      refine va_iald hx hb hK hP 6 5 rfl rfl (show vp_in (nI ((10 * k) + n_36)) 40 from vp_in_nI (by omega) (by omega)) dX9_layLine_272 ?_
                      refine hx_top (y := (frx ((10 * k) + n_36))) (congrArg _ (nI_clamp (by omega))) ?_
                      obtain ⟨n_41, hn_41, en_41⟩ := hrwd k (by omega) n_36 (by rw [en_37, nI_clamp (by omega)]; omega)
                      refine hx_top (y := (nI n_41)) en_41 ?_
                      refine lv_iload_n hx hb dX9_layLine_273 rfl (lv_at hl 2 rfl) ?_
                      refine lv_icmp_ne (tgt := 281) hx hb dX9_layLine_274 (by decide) (fun c_42 => ?_) (fun c_42 => ?_)
                      · have b_43 := gx_ne (X := ((n_41 : Nat) : Int)) (C := ((q9 : Nat) : Int)) (nI_toInt (by omega)) (nI_toInt (by omega)) c_42
                        refine lv_iconst (v := 0) hx hb dX9_layLine_281 (by decide) ?_
                        refine lv_iadd hx hb dX9_layLine_282 ?_
                        refine hx_top (y := (nI (n_36 + 0))) (nI_add n_36 0) ?_
                        refine va_iast hx hb hK hP hD hS 7 6 rfl rfl (show vp_in (nI k) 4 from vp_in_nI (by omega) (by omega)) dX9_layLine_283 (fun H locs hP hD hS => ?_)
                        obtain ⟨f_44, ef_44⟩ : ∃ g : Nat → Int32, g = upd faz (Int32.toNatClampNeg (nI k)) (nI (n_36 + 0)) := ⟨_, rfl⟩
                        rw [← ef_44] at hP hD
                        have ef_44 : f_44 = upd faz k (nI (n_36 + 0)) := by rw [ef_44, nI_clamp (by omega)]
                        have pf_44 : BdOk 4 10 f_44 := by rw [ef_44]; exact bd_upd (z := (n_36 + 0)) hfz (by omega)
                        have hP : va_P (dC, dI) vwCl [(h0, .inr (8, [.ref l5, .ref l3, w2, w3, w4, .ref l4, .ref l1, .ref l2, .ref rw0, .ref rw1, .ref rw2, .int (nI (jn + 1)), w12, w13, w14, w15, w16, w17, w18, w19, w20, w21, w22, w23, w24, w25, w26, w27, w28, w29, w30, w31, w32, w33, w34])), (l5, .inl (kl5, 30, .inl fpr)), (l3, .inl (kl3, 10, .inl fpm)), (l1, .inl (kl1, 10, .inl f_1)), (l2, .inl (kl2, 10, .inl f_2)), (l4, .inl (kl4, 100, .inl f_30)), (rw0, .inl (krw0, 40, .inl frx)), (rw1, .inl (krw1, 4, .inl f_44)), (rw2, .inl (krw2, 4, .inl f_8))] H := hP
                        have hD : va_D A [(h0, .inr (8, [.ref l5, .ref l3, w2, w3, w4, .ref l4, .ref l1, .ref l2, .ref rw0, .ref rw1, .ref rw2, .int (nI (jn + 1)), w12, w13, w14, w15, w16, w17, w18, w19, w20, w21, w22, w23, w24, w25, w26, w27, w28, w29, w30, w31, w32, w33, w34])), (l5, .inl (kl5, 30, .inl fpr)), (l3, .inl (kl3, 10, .inl fpm)), (l1, .inl (kl1, 10, .inl f_1)), (l2, .inl (kl2, 10, .inl f_2)), (l4, .inl (kl4, 100, .inl f_30)), (rw0, .inl (krw0, 40, .inl frx)), (rw1, .inl (krw1, 4, .inl f_44)), (rw2, .inl (krw2, 4, .inl f_8))] := hD
                        refine lv_iinc (v := (nI (k + 1))) (lv' := [(4, .int (nI (k + 1))), (2, .int (nI (mn + 1))), (3, .int (nI q9)), (0, .ref h0), (1, .int (nI kd))]) hx hb dX9_layLine_284 hl (k := 0) rfl (nI_add k 1) (by decide) rfl (fun ls hl => ?_)
                        refine lv_goto (tgt := 221) hx hb dX9_layLine_287 (by decide) ?_
                        exact ih_32 (k + 1) f_44 (by omega) pf_44 (adv_no hadv en_36 (by omega) en_37 (by omega) (fun z => c_42 (en_41.symm.trans z.2)) ef_44) (by omega) _ _ hP hD hS ls (lv_sub hl [0, 1, 2, 3, 4] rfl)
                      · have b_43 := gn_ne (X := ((n_41 : Nat) : Int)) (C := ((q9 : Nat) : Int)) (nI_toInt (by omega)) (nI_toInt (by omega)) c_42
                        refine lv_iconst (v := 1) hx hb dX9_layLine_277 (by decide) ?_
                        refine lv_goto (tgt := 282) hx hb dX9_layLine_278 (by decide) ?_
                        refine lv_iadd hx hb dX9_layLine_282 ?_
                        refine hx_top (y := (nI (n_36 + 1))) (nI_add n_36 1) ?_
                        refine va_iast hx hb hK hP hD hS 7 6 rfl rfl (show vp_in (nI k) 4 from vp_in_nI (by omega) (by omega)) dX9_layLine_283 (fun H locs hP hD hS => ?_)
                        obtain ⟨f_45, ef_45⟩ : ∃ g : Nat → Int32, g = upd faz (Int32.toNatClampNeg (nI k)) (nI (n_36 + 1)) := ⟨_, rfl⟩
                        rw [← ef_45] at hP hD
                        have ef_45 : f_45 = upd faz k (nI (n_36 + 1)) := by rw [ef_45, nI_clamp (by omega)]
                        have pf_45 : BdOk 4 10 f_45 := by rw [ef_45]; exact bd_upd (z := (n_36 + 1)) hfz (by omega)
                        have hP : va_P (dC, dI) vwCl [(h0, .inr (8, [.ref l5, .ref l3, w2, w3, w4, .ref l4, .ref l1, .ref l2, .ref rw0, .ref rw1, .ref rw2, .int (nI (jn + 1)), w12, w13, w14, w15, w16, w17, w18, w19, w20, w21, w22, w23, w24, w25, w26, w27, w28, w29, w30, w31, w32, w33, w34])), (l5, .inl (kl5, 30, .inl fpr)), (l3, .inl (kl3, 10, .inl fpm)), (l1, .inl (kl1, 10, .inl f_1)), (l2, .inl (kl2, 10, .inl f_2)), (l4, .inl (kl4, 100, .inl f_30)), (rw0, .inl (krw0, 40, .inl frx)), (rw1, .inl (krw1, 4, .inl f_45)), (rw2, .inl (krw2, 4, .inl f_8))] H := hP
                        have hD : va_D A [(h0, .inr (8, [.ref l5, .ref l3, w2, w3, w4, .ref l4, .ref l1, .ref l2, .ref rw0, .ref rw1, .ref rw2, .int (nI (jn + 1)), w12, w13, w14, w15, w16, w17, w18, w19, w20, w21, w22, w23, w24, w25, w26, w27, w28, w29, w30, w31, w32, w33, w34])), (l5, .inl (kl5, 30, .inl fpr)), (l3, .inl (kl3, 10, .inl fpm)), (l1, .inl (kl1, 10, .inl f_1)), (l2, .inl (kl2, 10, .inl f_2)), (l4, .inl (kl4, 100, .inl f_30)), (rw0, .inl (krw0, 40, .inl frx)), (rw1, .inl (krw1, 4, .inl f_45)), (rw2, .inl (krw2, 4, .inl f_8))] := hD
                        refine lv_iinc (v := (nI (k + 1))) (lv' := [(4, .int (nI (k + 1))), (2, .int (nI (mn + 1))), (3, .int (nI q9)), (0, .ref h0), (1, .int (nI kd))]) hx hb dX9_layLine_284 hl (k := 0) rfl (nI_add k 1) (by decide) rfl (fun ls hl => ?_)
                        refine lv_goto (tgt := 221) hx hb dX9_layLine_287 (by decide) ?_
                        exact ih_32 (k + 1) f_45 (by omega) pf_45 (adv_yes hadv en_36 en_37 (by omega) (by omega) (en_41.trans c_42) ef_45) (by omega) _ _ hP hD hS ls (lv_sub hl [0, 1, 2, 3, 4] rfl)
              exact key_31 (((jn + 1) - 0) + 1) 0 fay (by omega) hfay adv_0 (Nat.lt_succ_self _) _ _ hP hD hS ls (lv_sub hl [0, 1, 2, 3, 4] rfl)
        exact key_11 ((10 - 1) + 1) 1 r_10 (fun _ => false) f_9 f_7 hw_10.2 rfl (by rw [cB_none]) hw_10.1 (fun _ _ _ _ _ _ _ => rfl) pf_7 (lx_1 ef_9) (Nat.lt_succ_self _) _ _ hP hD hS ls (lv_sub hl [0, 1, 2, 3] rfl)
      · have b_6 := gn_ge (X := ((k : Nat) : Int)) (C := ((jn : Nat) : Int)) (nI_toInt (by omega)) (nI_toInt (by omega)) c_5
        refine lv_aload_n hx hb dX9_layLine_38 rfl (lv_at hl 1 rfl) ?_
        refine va_get (D := (dC, dI)) (ci := 8) (v := .ref l5) (C := RX9) (T := TX9) (N := 35) hx hb hts inB_9 hown hK hP 0 rfl rfl 0 (by decide) (hts _ mw_3_182) (fun _ h9 => h9) rfl dX9_layLine_39 ?_
        refine lv_iconst (v := 3) hx hb dX9_layLine_42 (by decide) ?_
        refine lv_iload_n hx hb dX9_layLine_43 rfl (lv_at hl 2 rfl) ?_
        refine lv_imul hx hb dX9_layLine_44 ?_
        refine hx_top (y := (nI (3 * kd))) (pk_mul 3 kd) ?_
        refine lv_iload_n hx hb dX9_layLine_45 rfl (lv_at hl 0 rfl) ?_
        refine lv_iadd hx hb dX9_layLine_46 ?_
        refine hx_top (y := (nI ((3 * kd) + k))) (nI_add (3 * kd) k) ?_
        refine va_iald hx hb hK hP 1 0 rfl rfl (show vp_in (nI ((3 * kd) + k)) 30 from vp_in_nI (by omega) (by omega)) dX9_layLine_47 ?_
        refine hx_top (y := (fpr ((3 * kd) + k))) (congrArg _ (nI_clamp (by omega))) ?_
        obtain ⟨n_46, hn_46, en_46⟩ := hpr k (by omega)
        refine hx_top (y := (nI n_46)) en_46 ?_
        refine lv_istore_n (lv' := [(3, .int (nI n_46)), (2, .int (nI k)), (0, .ref h0), (1, .int (nI kd))]) hx hb dX9_layLine_48 rfl hl (by decide) rfl (fun ls hl => ?_)
        refine lv_aload_n hx hb dX9_layLine_49 rfl (lv_at hl 2 rfl) ?_
        refine va_get (D := (dC, dI)) (ci := 8) (v := .ref l1) (C := RX9) (T := TX9) (N := 35) hx hb hts inB_9 hown hK hP 0 rfl rfl 6 (by decide) (hts _ mw_3_188) (fun _ h9 => h9) rfl dX9_layLine_50 ?_
        refine lv_iload_n hx hb dX9_layLine_53 rfl (lv_at hl 0 rfl) ?_
        refine va_iald hx hb hK hP 3 2 rfl rfl (show vp_in (nI n_46) 10 from vp_in_nI (by omega) (by omega)) dX9_layLine_54 ?_
        refine hx_top (y := (f_1 n_46)) (congrArg _ (nI_clamp (by omega))) ?_
        obtain ⟨n_47, hn_47, en_47⟩ := pf_1 n_46 (by omega)
        refine hx_top (y := (nI n_47)) en_47 ?_
        refine lv_if_ne (tgt := 67) hx hb dX9_layLine_55 (by decide) (fun c_48 => ?_) (fun c_48 => ?_)
        · have b_49 := gx_ne (X := ((n_47 : Nat) : Int)) (C := 0) (nI_toInt (by omega)) (by decide) c_48
          refine lv_aload_n hx hb dX9_layLine_67 rfl (lv_at hl 2 rfl) ?_
          refine va_get (D := (dC, dI)) (ci := 8) (v := .ref rw1) (C := RX9) (T := TX9) (N := 35) hx hb hts inB_9 hown hK hP 0 rfl rfl 9 (by decide) (hts _ mw_3_191) (fun _ h9 => h9) rfl dX9_layLine_68 ?_
          refine lv_iload_n hx hb dX9_layLine_71 rfl (lv_at hl 1 rfl) ?_
          refine lv_iconst (v := 0) hx hb dX9_layLine_72 (by decide) ?_
          refine va_iast hx hb hK hP hD hS 7 6 rfl rfl (show vp_in (nI k) 4 from vp_in_nI (by omega) (by omega)) dX9_layLine_73 (fun H locs hP hD hS => ?_)
          obtain ⟨f_50, ef_50⟩ : ∃ g : Nat → Int32, g = upd fax (Int32.toNatClampNeg (nI k)) 0 := ⟨_, rfl⟩
          rw [← ef_50] at hP hD
          have ef_50 : f_50 = upd fax k 0 := by rw [ef_50, nI_clamp (by omega)]
          have pf_50 : BdOk 4 10 f_50 := by rw [ef_50]; exact bd_upd (z := 0) hax (by omega)
          have hP : va_P (dC, dI) vwCl [(h0, .inr (8, [.ref l5, .ref l3, w2, w3, w4, .ref l4, .ref l1, .ref l2, .ref rw0, .ref rw1, .ref rw2, .int (nI (jn + 1)), w12, w13, w14, w15, w16, w17, w18, w19, w20, w21, w22, w23, w24, w25, w26, w27, w28, w29, w30, w31, w32, w33, w34])), (l5, .inl (kl5, 30, .inl fpr)), (l3, .inl (kl3, 10, .inl fpm)), (l1, .inl (kl1, 10, .inl f_1)), (l2, .inl (kl2, 10, .inl f_2)), (l4, .inl (kl4, 100, .inl fln)), (rw0, .inl (krw0, 40, .inl frx)), (rw1, .inl (krw1, 4, .inl f_50)), (rw2, .inl (krw2, 4, .inl fex))] H := hP
          have hD : va_D A [(h0, .inr (8, [.ref l5, .ref l3, w2, w3, w4, .ref l4, .ref l1, .ref l2, .ref rw0, .ref rw1, .ref rw2, .int (nI (jn + 1)), w12, w13, w14, w15, w16, w17, w18, w19, w20, w21, w22, w23, w24, w25, w26, w27, w28, w29, w30, w31, w32, w33, w34])), (l5, .inl (kl5, 30, .inl fpr)), (l3, .inl (kl3, 10, .inl fpm)), (l1, .inl (kl1, 10, .inl f_1)), (l2, .inl (kl2, 10, .inl f_2)), (l4, .inl (kl4, 100, .inl fln)), (rw0, .inl (krw0, 40, .inl frx)), (rw1, .inl (krw1, 4, .inl f_50)), (rw2, .inl (krw2, 4, .inl fex))] := hD
          refine lv_aload_n hx hb dX9_layLine_74 rfl (lv_at hl 2 rfl) ?_
          refine va_get (D := (dC, dI)) (ci := 8) (v := .ref rw2) (C := RX9) (T := TX9) (N := 35) hx hb hts inB_9 hown hK hP 0 rfl rfl 10 (by decide) (hts _ mw_3_192) (fun _ h9 => h9) rfl dX9_layLine_75 ?_
          refine lv_iload_n hx hb dX9_layLine_78 rfl (lv_at hl 1 rfl) ?_
          refine lv_aload_n hx hb dX9_layLine_79 rfl (lv_at hl 2 rfl) ?_
          refine va_get (D := (dC, dI)) (ci := 8) (v := .ref l1) (C := RX9) (T := TX9) (N := 35) hx hb hts inB_9 hown hK hP 0 rfl rfl 6 (by decide) (hts _ mw_3_188) (fun _ h9 => h9) rfl dX9_layLine_80 ?_
          refine lv_iload_n hx hb dX9_layLine_83 rfl (lv_at hl 0 rfl) ?_
          refine va_iald hx hb hK hP 3 2 rfl rfl (show vp_in (nI n_46) 10 from vp_in_nI (by omega) (by omega)) dX9_layLine_84 ?_
          refine hx_top (y := (f_1 n_46)) (congrArg _ (nI_clamp (by omega))) ?_
          refine hx_top (y := (nI n_47)) en_47 ?_
          refine va_iast hx hb hK hP hD hS 8 7 rfl rfl (show vp_in (nI k) 4 from vp_in_nI (by omega) (by omega)) dX9_layLine_85 (fun H locs hP hD hS => ?_)
          obtain ⟨f_51, ef_51⟩ : ∃ g : Nat → Int32, g = upd fex (Int32.toNatClampNeg (nI k)) (nI n_47) := ⟨_, rfl⟩
          rw [← ef_51] at hP hD
          have ef_51 : f_51 = upd fex k (nI n_47) := by rw [ef_51, nI_clamp (by omega)]
          have pf_51 : BdOk 4 10 f_51 := by rw [ef_51]; exact bd_upd (z := n_47) hex (by omega)
          have hP : va_P (dC, dI) vwCl [(h0, .inr (8, [.ref l5, .ref l3, w2, w3, w4, .ref l4, .ref l1, .ref l2, .ref rw0, .ref rw1, .ref rw2, .int (nI (jn + 1)), w12, w13, w14, w15, w16, w17, w18, w19, w20, w21, w22, w23, w24, w25, w26, w27, w28, w29, w30, w31, w32, w33, w34])), (l5, .inl (kl5, 30, .inl fpr)), (l3, .inl (kl3, 10, .inl fpm)), (l1, .inl (kl1, 10, .inl f_1)), (l2, .inl (kl2, 10, .inl f_2)), (l4, .inl (kl4, 100, .inl fln)), (rw0, .inl (krw0, 40, .inl frx)), (rw1, .inl (krw1, 4, .inl f_50)), (rw2, .inl (krw2, 4, .inl f_51))] H := hP
          have hD : va_D A [(h0, .inr (8, [.ref l5, .ref l3, w2, w3, w4, .ref l4, .ref l1, .ref l2, .ref rw0, .ref rw1, .ref rw2, .int (nI (jn + 1)), w12, w13, w14, w15, w16, w17, w18, w19, w20, w21, w22, w23, w24, w25, w26, w27, w28, w29, w30, w31, w32, w33, w34])), (l5, .inl (kl5, 30, .inl fpr)), (l3, .inl (kl3, 10, .inl fpm)), (l1, .inl (kl1, 10, .inl f_1)), (l2, .inl (kl2, 10, .inl f_2)), (l4, .inl (kl4, 100, .inl fln)), (rw0, .inl (krw0, 40, .inl frx)), (rw1, .inl (krw1, 4, .inl f_50)), (rw2, .inl (krw2, 4, .inl f_51))] := hD
          refine lv_iconst (v := 0) hx hb dX9_layLine_86 (by decide) ?_
          refine lv_istore (lv' := [(4, .int 0), (3, .int (nI n_46)), (2, .int (nI k)), (0, .ref h0), (1, .int (nI kd))]) hx hb dX9_layLine_87 hl (by decide) rfl (fun ls hl => ?_)
          have key_52 : ∀ (fu : Nat) (i9 : Nat) (fry : Nat → Int32), (i9 ≤ 10) → (PWi fry f_51 k jn kd i9) → (RowM fry f_50 f_51 (fun i => fpr (3 * kd + i)) f_1 fln jn k i9) → 10 - i9 < fu → ∀ (H : Heap) (locs : List Loc), va_P (dC, dI) vwCl [(h0, .inr (8, [.ref l5, .ref l3, w2, w3, w4, .ref l4, .ref l1, .ref l2, .ref rw0, .ref rw1, .ref rw2, .int (nI (jn + 1)), w12, w13, w14, w15, w16, w17, w18, w19, w20, w21, w22, w23, w24, w25, w26, w27, w28, w29, w30, w31, w32, w33, w34])), (l5, .inl (kl5, 30, .inl fpr)), (l3, .inl (kl3, 10, .inl fpm)), (l1, .inl (kl1, 10, .inl f_1)), (l2, .inl (kl2, 10, .inl f_2)), (l4, .inl (kl4, 100, .inl fln)), (rw0, .inl (krw0, 40, .inl fry)), (rw1, .inl (krw1, 4, .inl f_50)), (rw2, .inl (krw2, 4, .inl f_51))] H → va_D A [(h0, .inr (8, [.ref l5, .ref l3, w2, w3, w4, .ref l4, .ref l1, .ref l2, .ref rw0, .ref rw1, .ref rw2, .int (nI (jn + 1)), w12, w13, w14, w15, w16, w17, w18, w19, w20, w21, w22, w23, w24, w25, w26, w27, w28, w29, w30, w31, w32, w33, w34])), (l5, .inl (kl5, 30, .inl fpr)), (l3, .inl (kl3, 10, .inl fpm)), (l1, .inl (kl1, 10, .inl f_1)), (l2, .inl (kl2, 10, .inl f_2)), (l4, .inl (kl4, 100, .inl fln)), (rw0, .inl (krw0, 40, .inl fry)), (rw1, .inl (krw1, 4, .inl f_50)), (rw2, .inl (krw2, 4, .inl f_51))] → va_S A s.heap H locs → ∀ (ls : Array Slot), lv_has ls 5 [(4, .int (nI i9)), (3, .int (nI n_46)), (2, .int (nI k)), (0, .ref h0), (1, .int (nI kd))] → W p l e (headSpec (wq yX9_layLine cX9_layLine 5 none) ({ frames := 2, cells := 0, slots := 0, locals := 47 })).room s m (([.ref h0, .int (nI kd)] : List Value)).toArray below meth c H locs 0 0 (MQ below (va_Qv (fun _ : Unit => True) (fun _ t => ∃ (frw2 : Nat → Int32) (fat2 : Nat → Int32) (fen2 : Nat → Int32) (fll2 : Nat → Int32) (fmq2 : Nat → Int32) (fln2 : Nat → Int32) (rm2 : Int32), (BdOk 10 10 fll2) ∧ (LnOk fll2 fln2 (kd + 1)) ∧ (BdOk 4 10 fat2) ∧ (BdOk 4 10 fen2) ∧ (KM kd fll fln fmq fll2 fln2 fmq2 (fun i => fpr (3 * kd + i)) jn) ∧ va_P (dC, dI) vwCl [(h0, .inr (8, [.ref l5, .ref l3, w2, w3, w4, .ref l4, .ref l1, .ref l2, .ref rw0, .ref rw1, .ref rw2, .int rm2, w12, w13, w14, w15, w16, w17, w18, w19, w20, w21, w22, w23, w24, w25, w26, w27, w28, w29, w30, w31, w32, w33, w34])), (l5, .inl (kl5, 30, .inl fpr)), (l3, .inl (kl3, 10, .inl fpm)), (l1, .inl (kl1, 10, .inl fll2)), (l2, .inl (kl2, 10, .inl fmq2)), (l4, .inl (kl4, 100, .inl fln2)), (rw0, .inl (krw0, 40, .inl frw2)), (rw1, .inl (krw1, 4, .inl fat2)), (rw2, .inl (krw2, 4, .inl fen2))] t.heap ∧ va_K (dC, dI) vwCl [(kl5, .int), (kl3, .int), (kl1, .int), (kl2, .int), (kl4, .int), (krw0, .int), (krw1, .int), (krw2, .int)] t ∧ va_D A [(h0, .inr (8, [.ref l5, .ref l3, w2, w3, w4, .ref l4, .ref l1, .ref l2, .ref rw0, .ref rw1, .ref rw2, .int rm2, w12, w13, w14, w15, w16, w17, w18, w19, w20, w21, w22, w23, w24, w25, w26, w27, w28, w29, w30, w31, w32, w33, w34])), (l5, .inl (kl5, 30, .inl fpr)), (l3, .inl (kl3, 10, .inl fpm)), (l1, .inl (kl1, 10, .inl fll2)), (l2, .inl (kl2, 10, .inl fmq2)), (l4, .inl (kl4, 100, .inl fln2)), (rw0, .inl (krw0, 40, .inl frw2)), (rw1, .inl (krw1, 4, .inl fat2)), (rw2, .inl (krw2, 4, .inl fen2))]) A) (([.ref h0, .int (nI kd)] : List Value)).toArray s 0 0 A) (F0 m 89 ls []) := by
            intro fu
            induction fu with
            | zero => intro i9 fry hi9 hpwi hrm hme; exact absurd hme (Nat.not_lt_zero _)
            | succ fu ih_53 =>
              intro i9 fry hi9 hpwi hrm hme H locs hP hD hS ls hl
              refine lv_iload hx hb dX9_layLine_89 (lv_at hl 0 rfl) ?_
              refine lv_aload_n hx hb dX9_layLine_91 rfl (lv_at hl 3 rfl) ?_
              refine va_get (D := (dC, dI)) (ci := 8) (v := .ref l1) (C := RX9) (T := TX9) (N := 35) hx hb hts inB_9 hown hK hP 0 rfl rfl 6 (by decide) (hts _ mw_3_188) (fun _ h9 => h9) rfl dX9_layLine_92 ?_
              refine lv_iload_n hx hb dX9_layLine_95 rfl (lv_at hl 1 rfl) ?_
              refine va_iald hx hb hK hP 3 2 rfl rfl (show vp_in (nI n_46) 10 from vp_in_nI (by omega) (by omega)) dX9_layLine_96 ?_
              refine hx_top (y := (f_1 n_46)) (congrArg _ (nI_clamp (by omega))) ?_
              refine hx_top (y := (nI n_47)) en_47 ?_
              refine lv_icmp_ge (tgt := 130) hx hb dX9_layLine_97 (by decide) (fun c_54 => ?_) (fun c_54 => ?_)
              · have b_55 := gx_ge (X := ((i9 : Nat) : Int)) (C := ((n_47 : Nat) : Int)) (nI_toInt (by omega)) (nI_toInt (by omega)) c_54
                refine lv_aload_n hx hb dX9_layLine_130 rfl (lv_at hl 3 rfl) ?_
                refine va_get (D := (dC, dI)) (ci := 8) (v := .ref rw0) (C := RX9) (T := TX9) (N := 35) hx hb hts inB_9 hown hK hP 0 rfl rfl 8 (by decide) (hts _ mw_3_190) (fun _ h9 => h9) rfl dX9_layLine_131 ?_
                refine lv_bipush (v := 10) hx hb dX9_layLine_134 (by decide) ?_
                refine lv_aload_n hx hb dX9_layLine_136 rfl (lv_at hl 3 rfl) ?_
                refine va_get (D := (dC, dI)) (ci := 8) (v := .ref l3) (C := RX9) (T := TX9) (N := 35) hx hb hts inB_9 hown hK hP 0 rfl rfl 1 (by decide) (hts _ mw_3_183) (fun _ h9 => h9) rfl dX9_layLine_137 ?_
                refine lv_iload_n hx hb dX9_layLine_140 rfl (lv_at hl 4 rfl) ?_
                refine va_iald hx hb hK hP 2 1 rfl rfl (show vp_in (nI kd) 10 from vp_in_nI (by omega) (by omega)) dX9_layLine_141 ?_
                refine hx_top (y := (fpm kd)) (congrArg _ (nI_clamp (by omega))) ?_
                refine hx_top (y := (nI jn)) hpm ?_
                refine lv_imul hx hb dX9_layLine_142 ?_
                refine hx_top (y := (nI (10 * jn))) (pk_mul 10 jn) ?_
                refine lv_iload_n hx hb dX9_layLine_143 rfl (lv_at hl 2 rfl) ?_
                refine lv_iadd hx hb dX9_layLine_144 ?_
                refine hx_top (y := (nI ((10 * jn) + k))) (nI_add (10 * jn) k) ?_
                refine lv_iload_n hx hb dX9_layLine_145 rfl (lv_at hl 1 rfl) ?_
                refine va_iast hx hb hK hP hD hS 6 5 rfl rfl (show vp_in (nI ((10 * jn) + k)) 40 from vp_in_nI (by omega) (by omega)) dX9_layLine_146 (fun H locs hP hD hS => ?_)
                obtain ⟨f_56, ef_56⟩ : ∃ g : Nat → Int32, g = upd fry (Int32.toNatClampNeg (nI ((10 * jn) + k))) (nI n_46) := ⟨_, rfl⟩
                rw [← ef_56] at hP hD
                have ef_56 : f_56 = upd fry ((10 * jn) + k) (nI n_46) := by rw [ef_56, nI_clamp (by omega)]
                have hP : va_P (dC, dI) vwCl [(h0, .inr (8, [.ref l5, .ref l3, w2, w3, w4, .ref l4, .ref l1, .ref l2, .ref rw0, .ref rw1, .ref rw2, .int (nI (jn + 1)), w12, w13, w14, w15, w16, w17, w18, w19, w20, w21, w22, w23, w24, w25, w26, w27, w28, w29, w30, w31, w32, w33, w34])), (l5, .inl (kl5, 30, .inl fpr)), (l3, .inl (kl3, 10, .inl fpm)), (l1, .inl (kl1, 10, .inl f_1)), (l2, .inl (kl2, 10, .inl f_2)), (l4, .inl (kl4, 100, .inl fln)), (rw0, .inl (krw0, 40, .inl f_56)), (rw1, .inl (krw1, 4, .inl f_50)), (rw2, .inl (krw2, 4, .inl f_51))] H := hP
                have hD : va_D A [(h0, .inr (8, [.ref l5, .ref l3, w2, w3, w4, .ref l4, .ref l1, .ref l2, .ref rw0, .ref rw1, .ref rw2, .int (nI (jn + 1)), w12, w13, w14, w15, w16, w17, w18, w19, w20, w21, w22, w23, w24, w25, w26, w27, w28, w29, w30, w31, w32, w33, w34])), (l5, .inl (kl5, 30, .inl fpr)), (l3, .inl (kl3, 10, .inl fpm)), (l1, .inl (kl1, 10, .inl f_1)), (l2, .inl (kl2, 10, .inl f_2)), (l4, .inl (kl4, 100, .inl fln)), (rw0, .inl (krw0, 40, .inl f_56)), (rw1, .inl (krw1, 4, .inl f_50)), (rw2, .inl (krw2, 4, .inl f_51))] := hD
                refine lv_iinc (v := (nI (k + 1))) (lv' := [(2, .int (nI (k + 1))), (4, .int (nI i9)), (3, .int (nI n_46)), (0, .ref h0), (1, .int (nI kd))]) hx hb dX9_layLine_147 hl (k := 2) rfl (nI_add k 1) (by decide) rfl (fun ls hl => ?_)
                refine lv_goto (tgt := 28) hx hb dX9_layLine_150 (by decide) ?_
                exact ih_4 (k + 1) f_56 f_50 f_51 (by omega) pf_50 pf_51 (pw_next hpwi (by assumption) (by omega) (by omega) (by rw [ef_51, pk_us, nI_clamp (by omega)]; omega) hn_46 ef_56) (rm_next hrm pf_1 (by omega) (by omega) (fun i hi => by obtain ⟨x, h1, h2⟩ := hpr i (by omega); show (fpr (3 * kd + i)).toNatClampNeg < 10; rw [h2, nI_clamp (by omega)]; omega) (by show (f_1 (fpr (3 * kd + k)).toNatClampNeg).toNatClampNeg ≤ i9; rw [(show (fpr (3 * kd + k)).toNatClampNeg = n_46 from by rw [en_46, nI_clamp (by omega)]), en_47, nI_clamp (by omega)]; omega) en_46.symm ef_56) (ps_next (p := (fun i => fpr (3 * kd + i))) hps (by show 0 < (f_1 (fpr (3 * kd + k)).toNatClampNeg).toNatClampNeg; rw [(show (fpr (3 * kd + k)).toNatClampNeg = n_46 from by rw [en_46, nI_clamp (by omega)]), en_47, nI_clamp (by omega)]; omega)) (by omega) _ _ hP hD hS ls (lv_sub hl [0, 3, 4] rfl)
              · have b_55 := gn_ge (X := ((i9 : Nat) : Int)) (C := ((n_47 : Nat) : Int)) (nI_toInt (by omega)) (nI_toInt (by omega)) c_54
                refine lv_aload_n hx hb dX9_layLine_100 rfl (lv_at hl 3 rfl) ?_
                refine va_get (D := (dC, dI)) (ci := 8) (v := .ref rw0) (C := RX9) (T := TX9) (N := 35) hx hb hts inB_9 hown hK hP 0 rfl rfl 8 (by decide) (hts _ mw_3_190) (fun _ h9 => h9) rfl dX9_layLine_101 ?_
                refine lv_bipush (v := 10) hx hb dX9_layLine_104 (by decide) ?_
                refine lv_iload_n hx hb dX9_layLine_106 rfl (lv_at hl 2 rfl) ?_
                refine lv_imul hx hb dX9_layLine_107 ?_
                refine hx_top (y := (nI (10 * k))) (pk_mul 10 k) ?_
                refine lv_iload hx hb dX9_layLine_108 (lv_at hl 0 rfl) ?_
                refine lv_iadd hx hb dX9_layLine_110 ?_
                refine hx_top (y := (nI ((10 * k) + i9))) (nI_add (10 * k) i9) ?_
                refine lv_aload_n hx hb dX9_layLine_111 rfl (lv_at hl 3 rfl) ?_
                refine va_get (D := (dC, dI)) (ci := 8) (v := .ref l4) (C := RX9) (T := TX9) (N := 35) hx hb hts inB_9 hown hK hP 0 rfl rfl 5 (by decide) (hts _ mw_3_187) (fun _ h9 => h9) rfl dX9_layLine_112 ?_
                refine lv_bipush (v := 10) hx hb dX9_layLine_115 (by decide) ?_
                refine lv_iload_n hx hb dX9_layLine_117 rfl (lv_at hl 1 rfl) ?_
                refine lv_imul hx hb dX9_layLine_118 ?_
                refine hx_top (y := (nI (10 * n_46))) (pk_mul 10 n_46) ?_
                refine lv_iload hx hb dX9_layLine_119 (lv_at hl 0 rfl) ?_
                refine lv_iadd hx hb dX9_layLine_121 ?_
                refine hx_top (y := (nI ((10 * n_46) + i9))) (nI_add (10 * n_46) i9) ?_
                refine va_iald hx hb hK hP 5 4 rfl rfl (show vp_in (nI ((10 * n_46) + i9)) 100 from vp_in_nI (by omega) (by omega)) dX9_layLine_122 ?_
                refine hx_top (y := (fln ((10 * n_46) + i9))) (congrArg _ (nI_clamp (by omega))) ?_
                obtain ⟨n_57, hn_57, en_57⟩ := hlnd2 n_46 (by omega) i9 (by rw [en_47, nI_clamp (by omega)]; omega)
                refine hx_top (y := (nI n_57)) en_57 ?_
                refine va_iast hx hb hK hP hD hS 6 5 rfl rfl (show vp_in (nI ((10 * k) + i9)) 40 from vp_in_nI (by omega) (by omega)) dX9_layLine_123 (fun H locs hP hD hS => ?_)
                obtain ⟨f_58, ef_58⟩ : ∃ g : Nat → Int32, g = upd fry (Int32.toNatClampNeg (nI ((10 * k) + i9))) (nI n_57) := ⟨_, rfl⟩
                rw [← ef_58] at hP hD
                have ef_58 : f_58 = upd fry ((10 * k) + i9) (nI n_57) := by rw [ef_58, nI_clamp (by omega)]
                have hP : va_P (dC, dI) vwCl [(h0, .inr (8, [.ref l5, .ref l3, w2, w3, w4, .ref l4, .ref l1, .ref l2, .ref rw0, .ref rw1, .ref rw2, .int (nI (jn + 1)), w12, w13, w14, w15, w16, w17, w18, w19, w20, w21, w22, w23, w24, w25, w26, w27, w28, w29, w30, w31, w32, w33, w34])), (l5, .inl (kl5, 30, .inl fpr)), (l3, .inl (kl3, 10, .inl fpm)), (l1, .inl (kl1, 10, .inl f_1)), (l2, .inl (kl2, 10, .inl f_2)), (l4, .inl (kl4, 100, .inl fln)), (rw0, .inl (krw0, 40, .inl f_58)), (rw1, .inl (krw1, 4, .inl f_50)), (rw2, .inl (krw2, 4, .inl f_51))] H := hP
                have hD : va_D A [(h0, .inr (8, [.ref l5, .ref l3, w2, w3, w4, .ref l4, .ref l1, .ref l2, .ref rw0, .ref rw1, .ref rw2, .int (nI (jn + 1)), w12, w13, w14, w15, w16, w17, w18, w19, w20, w21, w22, w23, w24, w25, w26, w27, w28, w29, w30, w31, w32, w33, w34])), (l5, .inl (kl5, 30, .inl fpr)), (l3, .inl (kl3, 10, .inl fpm)), (l1, .inl (kl1, 10, .inl f_1)), (l2, .inl (kl2, 10, .inl f_2)), (l4, .inl (kl4, 100, .inl fln)), (rw0, .inl (krw0, 40, .inl f_58)), (rw1, .inl (krw1, 4, .inl f_50)), (rw2, .inl (krw2, 4, .inl f_51))] := hD
                refine lv_iinc (v := (nI (i9 + 1))) (lv' := [(4, .int (nI (i9 + 1))), (3, .int (nI n_46)), (2, .int (nI k)), (0, .ref h0), (1, .int (nI kd))]) hx hb dX9_layLine_124 hl (k := 0) rfl (nI_add i9 1) (by decide) rfl (fun ls hl => ?_)
                refine lv_goto (tgt := 89) hx hb dX9_layLine_127 (by decide) ?_
                exact ih_53 (i9 + 1) f_58 (by omega) (pwi_step hpwi pf_51 (by omega) (by omega) (by omega) (by omega) ef_58) (rm_step hrm pf_1 (by omega) (by omega) (by omega) (fun i hi => by obtain ⟨x, h1, h2⟩ := hpr i (by omega); show (fpr (3 * kd + i)).toNatClampNeg < 10; rw [h2, nI_clamp (by omega)]; omega) (by show _ = fln (10 * (fpr (3 * kd + k)).toNatClampNeg + i9); rw [(show (fpr (3 * kd + k)).toNatClampNeg = n_46 from by rw [en_46, nI_clamp (by omega)])]; exact en_57.symm) ef_58) (by omega) _ _ hP hD hS ls (lv_sub hl [0, 1, 2, 3, 4] rfl)
          exact key_52 ((10 - 0) + 1) 0 frx (by omega) (pwi_0 hpw ef_51) (rm_0 hrq ef_50 ef_51 (by show _ = f_1 (fpr (3 * kd + k)).toNatClampNeg; rw [(show (fpr (3 * kd + k)).toNatClampNeg = n_46 from by rw [en_46, nI_clamp (by omega)]), en_47])) (Nat.lt_succ_self _) _ _ hP hD hS ls (lv_sub hl [0, 1, 2, 3, 4] rfl)
        · have b_49 := gn_ne (X := ((n_47 : Nat) : Int)) (C := 0) (nI_toInt (by omega)) (by decide) c_48
          refine lv_aload_n hx hb dX9_layLine_58 rfl (lv_at hl 2 rfl) ?_
          refine va_get (D := (dC, dI)) (ci := 8) (v := .ref l2) (C := RX9) (T := TX9) (N := 35) hx hb hts inB_9 hown hK hP 0 rfl rfl 7 (by decide) (hts _ mw_3_189) (fun _ h9 => h9) rfl dX9_layLine_59 ?_
          refine lv_iload_n hx hb dX9_layLine_62 rfl (lv_at hl 3 rfl) ?_
          refine lv_bipush (v := (-5)) hx hb dX9_layLine_63 (by decide) ?_
          refine va_iast hx hb hK hP hD hS 4 3 rfl rfl (show vp_in (nI kd) 10 from vp_in_nI (by omega) (by omega)) dX9_layLine_65 (fun H locs hP hD hS => ?_)
          obtain ⟨f_59, ef_59⟩ : ∃ g : Nat → Int32, g = upd f_2 (Int32.toNatClampNeg (nI kd)) (-5) := ⟨_, rfl⟩
          rw [← ef_59] at hP hD
          have ef_59 : f_59 = upd f_2 kd (-5) := by rw [ef_59, nI_clamp (by omega)]
          have hP : va_P (dC, dI) vwCl [(h0, .inr (8, [.ref l5, .ref l3, w2, w3, w4, .ref l4, .ref l1, .ref l2, .ref rw0, .ref rw1, .ref rw2, .int (nI (jn + 1)), w12, w13, w14, w15, w16, w17, w18, w19, w20, w21, w22, w23, w24, w25, w26, w27, w28, w29, w30, w31, w32, w33, w34])), (l5, .inl (kl5, 30, .inl fpr)), (l3, .inl (kl3, 10, .inl fpm)), (l1, .inl (kl1, 10, .inl f_1)), (l2, .inl (kl2, 10, .inl f_59)), (l4, .inl (kl4, 100, .inl fln)), (rw0, .inl (krw0, 40, .inl frx)), (rw1, .inl (krw1, 4, .inl fax)), (rw2, .inl (krw2, 4, .inl fex))] H := hP
          have hD : va_D A [(h0, .inr (8, [.ref l5, .ref l3, w2, w3, w4, .ref l4, .ref l1, .ref l2, .ref rw0, .ref rw1, .ref rw2, .int (nI (jn + 1)), w12, w13, w14, w15, w16, w17, w18, w19, w20, w21, w22, w23, w24, w25, w26, w27, w28, w29, w30, w31, w32, w33, w34])), (l5, .inl (kl5, 30, .inl fpr)), (l3, .inl (kl3, 10, .inl fpm)), (l1, .inl (kl1, 10, .inl f_1)), (l2, .inl (kl2, 10, .inl f_59)), (l4, .inl (kl4, 100, .inl fln)), (rw0, .inl (krw0, 40, .inl frx)), (rw1, .inl (krw1, 4, .inl fax)), (rw2, .inl (krw2, 4, .inl fex))] := hD
          have hP9 := hP.sub (ws' := [(h0, .inr (8, [.ref l5, .ref l3, w2, w3, w4, .ref l4, .ref l1, .ref l2, .ref rw0, .ref rw1, .ref rw2, .int (nI (jn + 1)), w12, w13, w14, w15, w16, w17, w18, w19, w20, w21, w22, w23, w24, w25, w26, w27, w28, w29, w30, w31, w32, w33, w34])), (l5, .inl (kl5, 30, .inl fpr)), (l3, .inl (kl3, 10, .inl fpm)), (l1, .inl (kl1, 10, .inl f_1)), (l2, .inl (kl2, 10, .inl f_59)), (l4, .inl (kl4, 100, .inl fln)), (rw0, .inl (krw0, 40, .inl frx)), (rw1, .inl (krw1, 4, .inl fax)), (rw2, .inl (krw2, 4, .inl fex))]) [0, 1, 2, 3, 4, 5, 6, 7, 8] rfl
          have hD9 := hD.sub (ws' := [(h0, .inr (8, [.ref l5, .ref l3, w2, w3, w4, .ref l4, .ref l1, .ref l2, .ref rw0, .ref rw1, .ref rw2, .int (nI (jn + 1)), w12, w13, w14, w15, w16, w17, w18, w19, w20, w21, w22, w23, w24, w25, w26, w27, w28, w29, w30, w31, w32, w33, w34])), (l5, .inl (kl5, 30, .inl fpr)), (l3, .inl (kl3, 10, .inl fpm)), (l1, .inl (kl1, 10, .inl f_1)), (l2, .inl (kl2, 10, .inl f_59)), (l4, .inl (kl4, 100, .inl fln)), (rw0, .inl (krw0, 40, .inl frx)), (rw1, .inl (krw1, 4, .inl fax)), (rw2, .inl (krw2, 4, .inl fex))]) [0, 1, 2, 3, 4, 5, 6, 7, 8] (by decide) rfl
          have hK9 := hK.sub (tys' := [(kl5, .int), (kl3, .int), (kl1, .int), (kl2, .int), (kl4, .int), (krw0, .int), (krw1, .int), (krw2, .int)]) [0, 1, 2, 3, 4, 5, 6, 7] rfl
          exact W.vret hx hb hr (fun t ht hW => ⟨⟨(), rfl, trivial, frx, fax, fex, f_1, f_59, fln, (nI (jn + 1)), pf_1, (ln_zero hlnd2 (by rw [ef_1]; exact pk_us)), hax, hex, (km_lno (k := k) hpr (by omega) (by omega) ef_1 ef_2 ef_59 (by show (f_1 (fpr (3 * kd + k)).toNatClampNeg).toNatClampNeg = 0; rw [(show (fpr (3 * kd + k)).toNatClampNeg = n_46 from by rw [en_46, nI_clamp (by omega)]), en_47, nI_clamp (by omega)]; omega)), by rw [ht]; exact hP9, va_K.moved hW.alike hK9, hD9⟩, hS.F ht⟩) hS.2.2 dX9_layLine_66
  exact key_3 ((jn - 0) + 1) 0 frw fat fen (by omega) hfat hfen pw_0 rq_0 (fun i h => absurd h (Nat.not_lt_zero i)) (Nat.lt_succ_self _) _ _ hP hD hS ls (lv_sub hl [0, 1, 2] rfl)
