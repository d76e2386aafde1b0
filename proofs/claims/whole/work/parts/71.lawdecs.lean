/-! Small rows for the law's blocks. -/
theorem lw_ws {s : State} {args : Array Value} {y : MethodName} {bytes : ByteArray} {maxL : Nat} {ret : Option FieldType} {hh : List (Nat × Nat × Nat × Nat)} (hts : ∀ w ∈ bc_G, w.before args s = true) (hc : (Cond.codeWith y bytes maxL ret hh).before args s = true) : ∀ w ∈ (Cond.codeWith y bytes maxL ret hh :: bc_G), ∀ (a' : Array Value) (U : State), s.WarmedH U.vm → w.before a' U = true := by
  intro w hw a' U hW
  rcases List.mem_cons.mp hw with rfl | h
  · exact word_at hW (Or.inl (by first | rfl | simp [Cond.onTables, Cond.keeps, Cond.steady])) hc
  · exact word_at hW (bc_G_good w h) (hts w h)
theorem lw_ix {i L : Nat} {k : Int32} (hi : i + 4 ≤ L) (hL : L ≤ 2048) (hk : k = nI 1 ∨ k = nI 2 ∨ k = nI 3) : vp_in (nI i + k) L := by
  rcases hk with rfl | rfl | rfl <;> rw [nI_add] <;> exact vp_in_nI (by omega) (by omega)
theorem d_LA_law_0 : decode code 0 = .ok (.new 8, 3) := by decide +kernel
theorem d_LA_law_3 : decode code 3 = .ok (.dup, 1) := by decide +kernel
theorem d_LA_law_4 : decode code 4 = .ok (.invokespecial 58, 3) := by decide +kernel
theorem d_LA_law_7 : decode code 7 = .ok (.astore_n 1, 1) := by decide +kernel
theorem d_LA_law_8 : decode code 8 = .ok (.new 59, 3) := by decide +kernel
theorem d_LA_law_11 : decode code 11 = .ok (.dup, 1) := by decide +kernel
theorem d_LA_law_12 : decode code 12 = .ok (.invokespecial 61, 3) := by decide +kernel
theorem d_LA_law_15 : decode code 15 = .ok (.astore_n 2, 1) := by decide +kernel
theorem d_LA_law_16 : decode code 16 = .ok (.iconst 1, 1) := by decide +kernel
theorem d_LA_law_17 : decode code 17 = .ok (.newarray .long, 2) := by decide +kernel
theorem d_LA_law_19 : decode code 19 = .ok (.astore_n 3, 1) := by decide +kernel
theorem d_LA_law_20 : decode code 20 = .ok (.iconst 0, 1) := by decide +kernel
theorem d_LA_law_21 : decode code 21 = .ok (.istore 4, 2) := by decide +kernel
theorem d_LA_law_23 : decode code 23 = .ok (.iload 4, 2) := by decide +kernel
theorem d_LA_law_25 : decode code 25 = .ok (.aload_n 0, 1) := by decide +kernel
theorem d_LA_law_26 : decode code 26 = .ok (.arraylength, 1) := by decide +kernel
theorem d_LA_law_27 : decode code 27 = .ok (.iconst 4, 1) := by decide +kernel
theorem d_LA_law_28 : decode code 28 = .ok (.isub, 1) := by decide +kernel
theorem d_LA_law_29 : decode code 29 = .ok (.if_icmp .gt 814, 3) := by decide +kernel
theorem d_LA_law_32 : decode code 32 = .ok (.aload_n 0, 1) := by decide +kernel
theorem d_LA_law_33 : decode code 33 = .ok (.iload 4, 2) := by decide +kernel
theorem d_LA_law_35 : decode code 35 = .ok (.iaload, 1) := by decide +kernel
theorem d_LA_law_36 : decode code 36 = .ok (.bipush 15, 2) := by decide +kernel
theorem d_LA_law_38 : decode code 38 = .ok (.iand, 1) := by decide +kernel
theorem d_LA_law_39 : decode code 39 = .ok (.tableswitch 798 0 12 #[65, 145, 225, 261, 305, 329, 385, 445, 513, 526, 582, 650, 718], 65) := by decide +kernel
theorem d_LA_law_104 : decode code 104 = .ok (.aload_n 1, 1) := by decide +kernel
theorem d_LA_law_105 : decode code 105 = .ok (.aload_n 0, 1) := by decide +kernel
theorem d_LA_law_106 : decode code 106 = .ok (.iload 4, 2) := by decide +kernel
theorem d_LA_law_108 : decode code 108 = .ok (.iconst 1, 1) := by decide +kernel
theorem d_LA_law_109 : decode code 109 = .ok (.iadd, 1) := by decide +kernel
theorem d_LA_law_110 : decode code 110 = .ok (.iaload, 1) := by decide +kernel
theorem d_LA_law_111 : decode code 111 = .ok (.i2l, 1) := by decide +kernel
theorem d_LA_law_112 : decode code 112 = .ok (.bipush 32, 2) := by decide +kernel
theorem d_LA_law_114 : decode code 114 = .ok (.lshl, 1) := by decide +kernel
theorem d_LA_law_115 : decode code 115 = .ok (.aload_n 0, 1) := by decide +kernel
theorem d_LA_law_116 : decode code 116 = .ok (.iload 4, 2) := by decide +kernel
theorem d_LA_law_118 : decode code 118 = .ok (.iconst 2, 1) := by decide +kernel
theorem d_LA_law_119 : decode code 119 = .ok (.iadd, 1) := by decide +kernel
theorem d_LA_law_120 : decode code 120 = .ok (.iaload, 1) := by decide +kernel
theorem d_LA_law_121 : decode code 121 = .ok (.i2l, 1) := by decide +kernel
theorem d_LA_law_122 : decode code 122 = .ok (.ldc2_w 62, 3) := by decide +kernel
theorem d_LA_law_125 : decode code 125 = .ok (.land, 1) := by decide +kernel
theorem d_LA_law_126 : decode code 126 = .ok (.lor, 1) := by decide +kernel
theorem d_LA_law_127 : decode code 127 = .ok (.aload_n 0, 1) := by decide +kernel
theorem d_LA_law_128 : decode code 128 = .ok (.iload 4, 2) := by decide +kernel
theorem d_LA_law_130 : decode code 130 = .ok (.iconst 3, 1) := by decide +kernel
theorem d_LA_law_131 : decode code 131 = .ok (.iadd, 1) := by decide +kernel
theorem d_LA_law_132 : decode code 132 = .ok (.iaload, 1) := by decide +kernel
theorem d_LA_law_133 : decode code 133 = .ok (.invokestatic 64, 3) := by decide +kernel
theorem d_LA_law_136 : decode code 136 = .ok (.istore 5, 2) := by decide +kernel
theorem d_LA_law_138 : decode code 138 = .ok (.aload_n 2, 1) := by decide +kernel
theorem d_LA_law_139 : decode code 139 = .ok (.aload_n 0, 1) := by decide +kernel
theorem d_LA_law_140 : decode code 140 = .ok (.iload 4, 2) := by decide +kernel
theorem d_LA_law_142 : decode code 142 = .ok (.iconst 1, 1) := by decide +kernel
theorem d_LA_law_143 : decode code 143 = .ok (.iadd, 1) := by decide +kernel
theorem d_LA_law_144 : decode code 144 = .ok (.iaload, 1) := by decide +kernel
theorem d_LA_law_145 : decode code 145 = .ok (.i2l, 1) := by decide +kernel
theorem d_LA_law_146 : decode code 146 = .ok (.bipush 32, 2) := by decide +kernel
theorem d_LA_law_148 : decode code 148 = .ok (.lshl, 1) := by decide +kernel
theorem d_LA_law_149 : decode code 149 = .ok (.aload_n 0, 1) := by decide +kernel
theorem d_LA_law_150 : decode code 150 = .ok (.iload 4, 2) := by decide +kernel
theorem d_LA_law_152 : decode code 152 = .ok (.iconst 2, 1) := by decide +kernel
theorem d_LA_law_153 : decode code 153 = .ok (.iadd, 1) := by decide +kernel
theorem d_LA_law_154 : decode code 154 = .ok (.iaload, 1) := by decide +kernel
theorem d_LA_law_155 : decode code 155 = .ok (.i2l, 1) := by decide +kernel
theorem d_LA_law_156 : decode code 156 = .ok (.ldc2_w 62, 3) := by decide +kernel
theorem d_LA_law_159 : decode code 159 = .ok (.land, 1) := by decide +kernel
theorem d_LA_law_160 : decode code 160 = .ok (.lor, 1) := by decide +kernel
theorem d_LA_law_161 : decode code 161 = .ok (.aload_n 0, 1) := by decide +kernel
theorem d_LA_law_162 : decode code 162 = .ok (.iload 4, 2) := by decide +kernel
theorem d_LA_law_164 : decode code 164 = .ok (.iconst 3, 1) := by decide +kernel
theorem d_LA_law_165 : decode code 165 = .ok (.iadd, 1) := by decide +kernel
theorem d_LA_law_166 : decode code 166 = .ok (.iaload, 1) := by decide +kernel
theorem d_LA_law_167 : decode code 167 = .ok (.invokevirtual 69, 3) := by decide +kernel
theorem d_LA_law_170 : decode code 170 = .ok (.aload_n 2, 1) := by decide +kernel
theorem d_LA_law_171 : decode code 171 = .ok (.invokevirtual 70, 3) := by decide +kernel
theorem d_LA_law_174 : decode code 174 = .ok (.iload 5, 2) := by decide +kernel
theorem d_LA_law_176 : decode code 176 = .ok (.if_icmp .eq 5, 3) := by decide +kernel
theorem d_LA_law_179 : decode code 179 = .ok (.iconst 0, 1) := by decide +kernel
theorem d_LA_law_180 : decode code 180 = .ok (.ireturn, 1) := by decide +kernel
theorem d_LA_law_181 : decode code 181 = .ok (.goto 656, 3) := by decide +kernel
theorem d_LA_law_184 : decode code 184 = .ok (.aload_n 1, 1) := by decide +kernel
theorem d_LA_law_185 : decode code 185 = .ok (.aload_n 0, 1) := by decide +kernel
theorem d_LA_law_186 : decode code 186 = .ok (.iload 4, 2) := by decide +kernel
theorem d_LA_law_188 : decode code 188 = .ok (.iconst 1, 1) := by decide +kernel
theorem d_LA_law_189 : decode code 189 = .ok (.iadd, 1) := by decide +kernel
theorem d_LA_law_190 : decode code 190 = .ok (.iaload, 1) := by decide +kernel
theorem d_LA_law_191 : decode code 191 = .ok (.aload_n 0, 1) := by decide +kernel
theorem d_LA_law_192 : decode code 192 = .ok (.iload 4, 2) := by decide +kernel
theorem d_LA_law_194 : decode code 194 = .ok (.iconst 2, 1) := by decide +kernel
theorem d_LA_law_195 : decode code 195 = .ok (.iadd, 1) := by decide +kernel
theorem d_LA_law_196 : decode code 196 = .ok (.iaload, 1) := by decide +kernel
theorem d_LA_law_197 : decode code 197 = .ok (.aload_n 0, 1) := by decide +kernel
theorem d_LA_law_198 : decode code 198 = .ok (.iload 4, 2) := by decide +kernel
theorem d_LA_law_200 : decode code 200 = .ok (.iconst 3, 1) := by decide +kernel
theorem d_LA_law_201 : decode code 201 = .ok (.iadd, 1) := by decide +kernel
theorem d_LA_law_202 : decode code 202 = .ok (.iaload, 1) := by decide +kernel
theorem d_LA_law_203 : decode code 203 = .ok (.aload_n 3, 1) := by decide +kernel
theorem d_LA_law_204 : decode code 204 = .ok (.invokestatic 73, 3) := by decide +kernel
theorem d_LA_law_207 : decode code 207 = .ok (.istore 5, 2) := by decide +kernel
theorem d_LA_law_209 : decode code 209 = .ok (.aload_n 2, 1) := by decide +kernel
theorem d_LA_law_210 : decode code 210 = .ok (.aload_n 0, 1) := by decide +kernel
theorem d_LA_law_211 : decode code 211 = .ok (.iload 4, 2) := by decide +kernel
theorem d_LA_law_213 : decode code 213 = .ok (.iconst 1, 1) := by decide +kernel
theorem d_LA_law_214 : decode code 214 = .ok (.iadd, 1) := by decide +kernel
theorem d_LA_law_215 : decode code 215 = .ok (.iaload, 1) := by decide +kernel
theorem d_LA_law_216 : decode code 216 = .ok (.aload_n 0, 1) := by decide +kernel
theorem d_LA_law_217 : decode code 217 = .ok (.iload 4, 2) := by decide +kernel
theorem d_LA_law_219 : decode code 219 = .ok (.iconst 2, 1) := by decide +kernel
theorem d_LA_law_220 : decode code 220 = .ok (.iadd, 1) := by decide +kernel
theorem d_LA_law_221 : decode code 221 = .ok (.iaload, 1) := by decide +kernel
theorem d_LA_law_222 : decode code 222 = .ok (.aload_n 0, 1) := by decide +kernel
theorem d_LA_law_223 : decode code 223 = .ok (.iload 4, 2) := by decide +kernel
theorem d_LA_law_225 : decode code 225 = .ok (.iconst 3, 1) := by decide +kernel
theorem d_LA_law_226 : decode code 226 = .ok (.iadd, 1) := by decide +kernel
theorem d_LA_law_227 : decode code 227 = .ok (.iaload, 1) := by decide +kernel
theorem d_LA_law_228 : decode code 228 = .ok (.invokevirtual 76, 3) := by decide +kernel
theorem d_LA_law_231 : decode code 231 = .ok (.istore 6, 2) := by decide +kernel
theorem d_LA_law_233 : decode code 233 = .ok (.aload_n 2, 1) := by decide +kernel
theorem d_LA_law_234 : decode code 234 = .ok (.invokevirtual 70, 3) := by decide +kernel
theorem d_LA_law_237 : decode code 237 = .ok (.iload 5, 2) := by decide +kernel
theorem d_LA_law_239 : decode code 239 = .ok (.if_icmp .eq 5, 3) := by decide +kernel
theorem d_LA_law_242 : decode code 242 = .ok (.iconst 0, 1) := by decide +kernel
theorem d_LA_law_243 : decode code 243 = .ok (.ireturn, 1) := by decide +kernel
theorem d_LA_law_244 : decode code 244 = .ok (.iload 5, 2) := by decide +kernel
theorem d_LA_law_246 : decode code 246 = .ok (.ifCond .ne 15, 3) := by decide +kernel
theorem d_LA_law_249 : decode code 249 = .ok (.aload_n 3, 1) := by decide +kernel
theorem d_LA_law_250 : decode code 250 = .ok (.iconst 0, 1) := by decide +kernel
theorem d_LA_law_251 : decode code 251 = .ok (.laload, 1) := by decide +kernel
theorem d_LA_law_252 : decode code 252 = .ok (.iload 6, 2) := by decide +kernel
theorem d_LA_law_254 : decode code 254 = .ok (.i2l, 1) := by decide +kernel
theorem d_LA_law_255 : decode code 255 = .ok (.lcmp, 1) := by decide +kernel
theorem d_LA_law_256 : decode code 256 = .ok (.ifCond .eq 5, 3) := by decide +kernel
theorem d_LA_law_259 : decode code 259 = .ok (.iconst 0, 1) := by decide +kernel
theorem d_LA_law_260 : decode code 260 = .ok (.ireturn, 1) := by decide +kernel
theorem d_LA_law_261 : decode code 261 = .ok (.goto 576, 3) := by decide +kernel
theorem d_LA_law_264 : decode code 264 = .ok (.aload_n 1, 1) := by decide +kernel
theorem d_LA_law_265 : decode code 265 = .ok (.aload_n 0, 1) := by decide +kernel
theorem d_LA_law_266 : decode code 266 = .ok (.iload 4, 2) := by decide +kernel
theorem d_LA_law_268 : decode code 268 = .ok (.iconst 1, 1) := by decide +kernel
theorem d_LA_law_269 : decode code 269 = .ok (.iadd, 1) := by decide +kernel
theorem d_LA_law_270 : decode code 270 = .ok (.iaload, 1) := by decide +kernel
theorem d_LA_law_271 : decode code 271 = .ok (.invokestatic 77, 3) := by decide +kernel
theorem d_LA_law_274 : decode code 274 = .ok (.istore 5, 2) := by decide +kernel
theorem d_LA_law_276 : decode code 276 = .ok (.aload_n 2, 1) := by decide +kernel
theorem d_LA_law_277 : decode code 277 = .ok (.aload_n 0, 1) := by decide +kernel
theorem d_LA_law_278 : decode code 278 = .ok (.iload 4, 2) := by decide +kernel
theorem d_LA_law_280 : decode code 280 = .ok (.iconst 1, 1) := by decide +kernel
theorem d_LA_law_281 : decode code 281 = .ok (.iadd, 1) := by decide +kernel
theorem d_LA_law_282 : decode code 282 = .ok (.iaload, 1) := by decide +kernel
theorem d_LA_law_283 : decode code 283 = .ok (.invokevirtual 80, 3) := by decide +kernel
theorem d_LA_law_286 : decode code 286 = .ok (.aload_n 2, 1) := by decide +kernel
theorem d_LA_law_287 : decode code 287 = .ok (.invokevirtual 70, 3) := by decide +kernel
theorem d_LA_law_290 : decode code 290 = .ok (.iload 5, 2) := by decide +kernel
theorem d_LA_law_292 : decode code 292 = .ok (.if_icmp .eq 5, 3) := by decide +kernel
theorem d_LA_law_295 : decode code 295 = .ok (.iconst 0, 1) := by decide +kernel
theorem d_LA_law_296 : decode code 296 = .ok (.ireturn, 1) := by decide +kernel
theorem d_LA_law_297 : decode code 297 = .ok (.goto 540, 3) := by decide +kernel
theorem d_LA_law_300 : decode code 300 = .ok (.aload_n 1, 1) := by decide +kernel
theorem d_LA_law_301 : decode code 301 = .ok (.aload_n 3, 1) := by decide +kernel
theorem d_LA_law_302 : decode code 302 = .ok (.invokestatic 81, 3) := by decide +kernel
theorem d_LA_law_305 : decode code 305 = .ok (.istore 5, 2) := by decide +kernel
theorem d_LA_law_307 : decode code 307 = .ok (.aload_n 2, 1) := by decide +kernel
theorem d_LA_law_308 : decode code 308 = .ok (.invokevirtual 84, 3) := by decide +kernel
theorem d_LA_law_311 : decode code 311 = .ok (.istore 6, 2) := by decide +kernel
theorem d_LA_law_313 : decode code 313 = .ok (.aload_n 2, 1) := by decide +kernel
theorem d_LA_law_314 : decode code 314 = .ok (.invokevirtual 70, 3) := by decide +kernel
theorem d_LA_law_317 : decode code 317 = .ok (.iload 5, 2) := by decide +kernel
theorem d_LA_law_319 : decode code 319 = .ok (.if_icmp .eq 5, 3) := by decide +kernel
theorem d_LA_law_322 : decode code 322 = .ok (.iconst 0, 1) := by decide +kernel
theorem d_LA_law_323 : decode code 323 = .ok (.ireturn, 1) := by decide +kernel
theorem d_LA_law_324 : decode code 324 = .ok (.iload 5, 2) := by decide +kernel
theorem d_LA_law_326 : decode code 326 = .ok (.ifCond .ne 15, 3) := by decide +kernel
theorem d_LA_law_329 : decode code 329 = .ok (.aload_n 3, 1) := by decide +kernel
theorem d_LA_law_330 : decode code 330 = .ok (.iconst 0, 1) := by decide +kernel
theorem d_LA_law_331 : decode code 331 = .ok (.laload, 1) := by decide +kernel
theorem d_LA_law_332 : decode code 332 = .ok (.iload 6, 2) := by decide +kernel
theorem d_LA_law_334 : decode code 334 = .ok (.i2l, 1) := by decide +kernel
theorem d_LA_law_335 : decode code 335 = .ok (.lcmp, 1) := by decide +kernel
theorem d_LA_law_336 : decode code 336 = .ok (.ifCond .eq 5, 3) := by decide +kernel
theorem d_LA_law_339 : decode code 339 = .ok (.iconst 0, 1) := by decide +kernel
theorem d_LA_law_340 : decode code 340 = .ok (.ireturn, 1) := by decide +kernel
theorem d_LA_law_341 : decode code 341 = .ok (.goto 496, 3) := by decide +kernel
theorem d_LA_law_344 : decode code 344 = .ok (.aload_n 1, 1) := by decide +kernel
theorem d_LA_law_345 : decode code 345 = .ok (.invokestatic 85, 3) := by decide +kernel
theorem d_LA_law_348 : decode code 348 = .ok (.istore 5, 2) := by decide +kernel
theorem d_LA_law_350 : decode code 350 = .ok (.aload_n 2, 1) := by decide +kernel
theorem d_LA_law_351 : decode code 351 = .ok (.invokevirtual 88, 3) := by decide +kernel
theorem d_LA_law_354 : decode code 354 = .ok (.aload_n 2, 1) := by decide +kernel
theorem d_LA_law_355 : decode code 355 = .ok (.invokevirtual 70, 3) := by decide +kernel
theorem d_LA_law_358 : decode code 358 = .ok (.iload 5, 2) := by decide +kernel
theorem d_LA_law_360 : decode code 360 = .ok (.if_icmp .eq 5, 3) := by decide +kernel
theorem d_LA_law_363 : decode code 363 = .ok (.iconst 0, 1) := by decide +kernel
theorem d_LA_law_364 : decode code 364 = .ok (.ireturn, 1) := by decide +kernel
theorem d_LA_law_365 : decode code 365 = .ok (.goto 472, 3) := by decide +kernel
theorem d_LA_law_368 : decode code 368 = .ok (.aload_n 1, 1) := by decide +kernel
theorem d_LA_law_369 : decode code 369 = .ok (.aload_n 0, 1) := by decide +kernel
theorem d_LA_law_370 : decode code 370 = .ok (.iload 4, 2) := by decide +kernel
theorem d_LA_law_372 : decode code 372 = .ok (.iconst 1, 1) := by decide +kernel
theorem d_LA_law_373 : decode code 373 = .ok (.iadd, 1) := by decide +kernel
theorem d_LA_law_374 : decode code 374 = .ok (.iaload, 1) := by decide +kernel
theorem d_LA_law_375 : decode code 375 = .ok (.aload_n 3, 1) := by decide +kernel
theorem d_LA_law_376 : decode code 376 = .ok (.invokestatic 89, 3) := by decide +kernel
theorem d_LA_law_379 : decode code 379 = .ok (.istore 5, 2) := by decide +kernel
theorem d_LA_law_381 : decode code 381 = .ok (.aload_n 2, 1) := by decide +kernel
theorem d_LA_law_382 : decode code 382 = .ok (.aload_n 0, 1) := by decide +kernel
theorem d_LA_law_383 : decode code 383 = .ok (.iload 4, 2) := by decide +kernel
theorem d_LA_law_385 : decode code 385 = .ok (.iconst 1, 1) := by decide +kernel
theorem d_LA_law_386 : decode code 386 = .ok (.iadd, 1) := by decide +kernel
theorem d_LA_law_387 : decode code 387 = .ok (.iaload, 1) := by decide +kernel
theorem d_LA_law_388 : decode code 388 = .ok (.invokevirtual 92, 3) := by decide +kernel
theorem d_LA_law_391 : decode code 391 = .ok (.istore 6, 2) := by decide +kernel
theorem d_LA_law_393 : decode code 393 = .ok (.aload_n 2, 1) := by decide +kernel
theorem d_LA_law_394 : decode code 394 = .ok (.invokevirtual 70, 3) := by decide +kernel
theorem d_LA_law_397 : decode code 397 = .ok (.iload 5, 2) := by decide +kernel
theorem d_LA_law_399 : decode code 399 = .ok (.if_icmp .eq 5, 3) := by decide +kernel
theorem d_LA_law_402 : decode code 402 = .ok (.iconst 0, 1) := by decide +kernel
theorem d_LA_law_403 : decode code 403 = .ok (.ireturn, 1) := by decide +kernel
theorem d_LA_law_404 : decode code 404 = .ok (.iload 5, 2) := by decide +kernel
theorem d_LA_law_406 : decode code 406 = .ok (.ifCond .ne 15, 3) := by decide +kernel
theorem d_LA_law_409 : decode code 409 = .ok (.aload_n 3, 1) := by decide +kernel
theorem d_LA_law_410 : decode code 410 = .ok (.iconst 0, 1) := by decide +kernel
theorem d_LA_law_411 : decode code 411 = .ok (.laload, 1) := by decide +kernel
theorem d_LA_law_412 : decode code 412 = .ok (.iload 6, 2) := by decide +kernel
theorem d_LA_law_414 : decode code 414 = .ok (.i2l, 1) := by decide +kernel
theorem d_LA_law_415 : decode code 415 = .ok (.lcmp, 1) := by decide +kernel
theorem d_LA_law_416 : decode code 416 = .ok (.ifCond .eq 5, 3) := by decide +kernel
theorem d_LA_law_419 : decode code 419 = .ok (.iconst 0, 1) := by decide +kernel
theorem d_LA_law_420 : decode code 420 = .ok (.ireturn, 1) := by decide +kernel
theorem d_LA_law_421 : decode code 421 = .ok (.goto 416, 3) := by decide +kernel
theorem d_LA_law_424 : decode code 424 = .ok (.aload_n 1, 1) := by decide +kernel
theorem d_LA_law_425 : decode code 425 = .ok (.aload_n 0, 1) := by decide +kernel
theorem d_LA_law_426 : decode code 426 = .ok (.iload 4, 2) := by decide +kernel
theorem d_LA_law_428 : decode code 428 = .ok (.iconst 1, 1) := by decide +kernel
theorem d_LA_law_429 : decode code 429 = .ok (.iadd, 1) := by decide +kernel
theorem d_LA_law_430 : decode code 430 = .ok (.iaload, 1) := by decide +kernel
theorem d_LA_law_431 : decode code 431 = .ok (.aload_n 0, 1) := by decide +kernel
theorem d_LA_law_432 : decode code 432 = .ok (.iload 4, 2) := by decide +kernel
theorem d_LA_law_434 : decode code 434 = .ok (.iconst 2, 1) := by decide +kernel
theorem d_LA_law_435 : decode code 435 = .ok (.iadd, 1) := by decide +kernel
theorem d_LA_law_436 : decode code 436 = .ok (.iaload, 1) := by decide +kernel
theorem d_LA_law_437 : decode code 437 = .ok (.aload_n 0, 1) := by decide +kernel
theorem d_LA_law_438 : decode code 438 = .ok (.iload 4, 2) := by decide +kernel
theorem d_LA_law_440 : decode code 440 = .ok (.iconst 3, 1) := by decide +kernel
theorem d_LA_law_441 : decode code 441 = .ok (.iadd, 1) := by decide +kernel
theorem d_LA_law_442 : decode code 442 = .ok (.iaload, 1) := by decide +kernel
theorem d_LA_law_443 : decode code 443 = .ok (.invokestatic 93, 3) := by decide +kernel
theorem d_LA_law_446 : decode code 446 = .ok (.istore 5, 2) := by decide +kernel
theorem d_LA_law_448 : decode code 448 = .ok (.aload_n 2, 1) := by decide +kernel
theorem d_LA_law_449 : decode code 449 = .ok (.aload_n 0, 1) := by decide +kernel
theorem d_LA_law_450 : decode code 450 = .ok (.iload 4, 2) := by decide +kernel
theorem d_LA_law_452 : decode code 452 = .ok (.iconst 1, 1) := by decide +kernel
theorem d_LA_law_453 : decode code 453 = .ok (.iadd, 1) := by decide +kernel
theorem d_LA_law_454 : decode code 454 = .ok (.iaload, 1) := by decide +kernel
theorem d_LA_law_455 : decode code 455 = .ok (.aload_n 0, 1) := by decide +kernel
theorem d_LA_law_456 : decode code 456 = .ok (.iload 4, 2) := by decide +kernel
theorem d_LA_law_458 : decode code 458 = .ok (.iconst 2, 1) := by decide +kernel
theorem d_LA_law_459 : decode code 459 = .ok (.iadd, 1) := by decide +kernel
theorem d_LA_law_460 : decode code 460 = .ok (.iaload, 1) := by decide +kernel
theorem d_LA_law_461 : decode code 461 = .ok (.aload_n 0, 1) := by decide +kernel
theorem d_LA_law_462 : decode code 462 = .ok (.iload 4, 2) := by decide +kernel
theorem d_LA_law_464 : decode code 464 = .ok (.iconst 3, 1) := by decide +kernel
theorem d_LA_law_465 : decode code 465 = .ok (.iadd, 1) := by decide +kernel
theorem d_LA_law_466 : decode code 466 = .ok (.iaload, 1) := by decide +kernel
theorem d_LA_law_467 : decode code 467 = .ok (.invokevirtual 96, 3) := by decide +kernel
theorem d_LA_law_470 : decode code 470 = .ok (.aload_n 2, 1) := by decide +kernel
theorem d_LA_law_471 : decode code 471 = .ok (.invokevirtual 70, 3) := by decide +kernel
theorem d_LA_law_474 : decode code 474 = .ok (.iload 5, 2) := by decide +kernel
theorem d_LA_law_476 : decode code 476 = .ok (.if_icmp .eq 5, 3) := by decide +kernel
theorem d_LA_law_479 : decode code 479 = .ok (.iconst 0, 1) := by decide +kernel
theorem d_LA_law_480 : decode code 480 = .ok (.ireturn, 1) := by decide +kernel
theorem d_LA_law_481 : decode code 481 = .ok (.goto 356, 3) := by decide +kernel
theorem d_LA_law_484 : decode code 484 = .ok (.aload_n 1, 1) := by decide +kernel
theorem d_LA_law_485 : decode code 485 = .ok (.aload_n 0, 1) := by decide +kernel
theorem d_LA_law_486 : decode code 486 = .ok (.iload 4, 2) := by decide +kernel
theorem d_LA_law_488 : decode code 488 = .ok (.iconst 1, 1) := by decide +kernel
theorem d_LA_law_489 : decode code 489 = .ok (.iadd, 1) := by decide +kernel
theorem d_LA_law_490 : decode code 490 = .ok (.iaload, 1) := by decide +kernel
theorem d_LA_law_491 : decode code 491 = .ok (.aload_n 0, 1) := by decide +kernel
theorem d_LA_law_492 : decode code 492 = .ok (.iload 4, 2) := by decide +kernel
theorem d_LA_law_494 : decode code 494 = .ok (.iconst 2, 1) := by decide +kernel
theorem d_LA_law_495 : decode code 495 = .ok (.iadd, 1) := by decide +kernel
theorem d_LA_law_496 : decode code 496 = .ok (.iaload, 1) := by decide +kernel
theorem d_LA_law_497 : decode code 497 = .ok (.aload_n 3, 1) := by decide +kernel
theorem d_LA_law_498 : decode code 498 = .ok (.invokestatic 97, 3) := by decide +kernel
theorem d_LA_law_501 : decode code 501 = .ok (.istore 5, 2) := by decide +kernel
theorem d_LA_law_503 : decode code 503 = .ok (.aload_n 2, 1) := by decide +kernel
theorem d_LA_law_504 : decode code 504 = .ok (.aload_n 0, 1) := by decide +kernel
theorem d_LA_law_505 : decode code 505 = .ok (.iload 4, 2) := by decide +kernel
theorem d_LA_law_507 : decode code 507 = .ok (.iconst 1, 1) := by decide +kernel
theorem d_LA_law_508 : decode code 508 = .ok (.iadd, 1) := by decide +kernel
theorem d_LA_law_509 : decode code 509 = .ok (.iaload, 1) := by decide +kernel
theorem d_LA_law_510 : decode code 510 = .ok (.aload_n 0, 1) := by decide +kernel
theorem d_LA_law_511 : decode code 511 = .ok (.iload 4, 2) := by decide +kernel
theorem d_LA_law_513 : decode code 513 = .ok (.iconst 2, 1) := by decide +kernel
theorem d_LA_law_514 : decode code 514 = .ok (.iadd, 1) := by decide +kernel
theorem d_LA_law_515 : decode code 515 = .ok (.iaload, 1) := by decide +kernel
theorem d_LA_law_516 : decode code 516 = .ok (.invokevirtual 100, 3) := by decide +kernel
theorem d_LA_law_519 : decode code 519 = .ok (.istore 6, 2) := by decide +kernel
theorem d_LA_law_521 : decode code 521 = .ok (.aload_n 2, 1) := by decide +kernel
theorem d_LA_law_522 : decode code 522 = .ok (.invokevirtual 70, 3) := by decide +kernel
theorem d_LA_law_525 : decode code 525 = .ok (.iload 5, 2) := by decide +kernel
theorem d_LA_law_527 : decode code 527 = .ok (.if_icmp .eq 5, 3) := by decide +kernel
theorem d_LA_law_530 : decode code 530 = .ok (.iconst 0, 1) := by decide +kernel
theorem d_LA_law_531 : decode code 531 = .ok (.ireturn, 1) := by decide +kernel
theorem d_LA_law_532 : decode code 532 = .ok (.iload 5, 2) := by decide +kernel
theorem d_LA_law_534 : decode code 534 = .ok (.ifCond .ne 15, 3) := by decide +kernel
theorem d_LA_law_537 : decode code 537 = .ok (.aload_n 3, 1) := by decide +kernel
theorem d_LA_law_538 : decode code 538 = .ok (.iconst 0, 1) := by decide +kernel
theorem d_LA_law_539 : decode code 539 = .ok (.laload, 1) := by decide +kernel
theorem d_LA_law_540 : decode code 540 = .ok (.iload 6, 2) := by decide +kernel
theorem d_LA_law_542 : decode code 542 = .ok (.i2l, 1) := by decide +kernel
theorem d_LA_law_543 : decode code 543 = .ok (.lcmp, 1) := by decide +kernel
theorem d_LA_law_544 : decode code 544 = .ok (.ifCond .eq 5, 3) := by decide +kernel
theorem d_LA_law_547 : decode code 547 = .ok (.iconst 0, 1) := by decide +kernel
theorem d_LA_law_548 : decode code 548 = .ok (.ireturn, 1) := by decide +kernel
theorem d_LA_law_549 : decode code 549 = .ok (.goto 288, 3) := by decide +kernel
theorem d_LA_law_552 : decode code 552 = .ok (.aload_n 1, 1) := by decide +kernel
theorem d_LA_law_553 : decode code 553 = .ok (.invokevirtual 101, 3) := by decide +kernel
theorem d_LA_law_556 : decode code 556 = .ok (.aload_n 2, 1) := by decide +kernel
theorem d_LA_law_557 : decode code 557 = .ok (.invokevirtual 104, 3) := by decide +kernel
theorem d_LA_law_560 : decode code 560 = .ok (.if_icmp .eq 277, 3) := by decide +kernel
theorem d_LA_law_563 : decode code 563 = .ok (.iconst 0, 1) := by decide +kernel
theorem d_LA_law_564 : decode code 564 = .ok (.ireturn, 1) := by decide +kernel
theorem d_LA_law_565 : decode code 565 = .ok (.aload_n 1, 1) := by decide +kernel
theorem d_LA_law_566 : decode code 566 = .ok (.aload_n 0, 1) := by decide +kernel
theorem d_LA_law_567 : decode code 567 = .ok (.iload 4, 2) := by decide +kernel
theorem d_LA_law_569 : decode code 569 = .ok (.iconst 1, 1) := by decide +kernel
theorem d_LA_law_570 : decode code 570 = .ok (.iadd, 1) := by decide +kernel
theorem d_LA_law_571 : decode code 571 = .ok (.iaload, 1) := by decide +kernel
theorem d_LA_law_572 : decode code 572 = .ok (.aload_n 3, 1) := by decide +kernel
theorem d_LA_law_573 : decode code 573 = .ok (.invokestatic 105, 3) := by decide +kernel
theorem d_LA_law_576 : decode code 576 = .ok (.istore 5, 2) := by decide +kernel
theorem d_LA_law_578 : decode code 578 = .ok (.aload_n 2, 1) := by decide +kernel
theorem d_LA_law_579 : decode code 579 = .ok (.aload_n 0, 1) := by decide +kernel
theorem d_LA_law_580 : decode code 580 = .ok (.iload 4, 2) := by decide +kernel
theorem d_LA_law_582 : decode code 582 = .ok (.iconst 1, 1) := by decide +kernel
theorem d_LA_law_583 : decode code 583 = .ok (.iadd, 1) := by decide +kernel
theorem d_LA_law_584 : decode code 584 = .ok (.iaload, 1) := by decide +kernel
theorem d_LA_law_585 : decode code 585 = .ok (.invokevirtual 107, 3) := by decide +kernel
theorem d_LA_law_588 : decode code 588 = .ok (.istore 6, 2) := by decide +kernel
theorem d_LA_law_590 : decode code 590 = .ok (.aload_n 2, 1) := by decide +kernel
theorem d_LA_law_591 : decode code 591 = .ok (.invokevirtual 70, 3) := by decide +kernel
theorem d_LA_law_594 : decode code 594 = .ok (.iload 5, 2) := by decide +kernel
theorem d_LA_law_596 : decode code 596 = .ok (.if_icmp .eq 5, 3) := by decide +kernel
theorem d_LA_law_599 : decode code 599 = .ok (.iconst 0, 1) := by decide +kernel
theorem d_LA_law_600 : decode code 600 = .ok (.ireturn, 1) := by decide +kernel
theorem d_LA_law_601 : decode code 601 = .ok (.iload 5, 2) := by decide +kernel
theorem d_LA_law_603 : decode code 603 = .ok (.ifCond .ne 15, 3) := by decide +kernel
theorem d_LA_law_606 : decode code 606 = .ok (.aload_n 3, 1) := by decide +kernel
theorem d_LA_law_607 : decode code 607 = .ok (.iconst 0, 1) := by decide +kernel
theorem d_LA_law_608 : decode code 608 = .ok (.laload, 1) := by decide +kernel
theorem d_LA_law_609 : decode code 609 = .ok (.iload 6, 2) := by decide +kernel
theorem d_LA_law_611 : decode code 611 = .ok (.i2l, 1) := by decide +kernel
theorem d_LA_law_612 : decode code 612 = .ok (.lcmp, 1) := by decide +kernel
theorem d_LA_law_613 : decode code 613 = .ok (.ifCond .eq 5, 3) := by decide +kernel
theorem d_LA_law_616 : decode code 616 = .ok (.iconst 0, 1) := by decide +kernel
theorem d_LA_law_617 : decode code 617 = .ok (.ireturn, 1) := by decide +kernel
theorem d_LA_law_618 : decode code 618 = .ok (.goto 219, 3) := by decide +kernel
theorem d_LA_law_621 : decode code 621 = .ok (.aload_n 1, 1) := by decide +kernel
theorem d_LA_law_622 : decode code 622 = .ok (.aload_n 0, 1) := by decide +kernel
theorem d_LA_law_623 : decode code 623 = .ok (.iload 4, 2) := by decide +kernel
theorem d_LA_law_625 : decode code 625 = .ok (.iconst 1, 1) := by decide +kernel
theorem d_LA_law_626 : decode code 626 = .ok (.iadd, 1) := by decide +kernel
theorem d_LA_law_627 : decode code 627 = .ok (.iaload, 1) := by decide +kernel
theorem d_LA_law_628 : decode code 628 = .ok (.aload_n 0, 1) := by decide +kernel
theorem d_LA_law_629 : decode code 629 = .ok (.iload 4, 2) := by decide +kernel
theorem d_LA_law_631 : decode code 631 = .ok (.iconst 2, 1) := by decide +kernel
theorem d_LA_law_632 : decode code 632 = .ok (.iadd, 1) := by decide +kernel
theorem d_LA_law_633 : decode code 633 = .ok (.iaload, 1) := by decide +kernel
theorem d_LA_law_634 : decode code 634 = .ok (.aload_n 3, 1) := by decide +kernel
theorem d_LA_law_635 : decode code 635 = .ok (.invokestatic 108, 3) := by decide +kernel
theorem d_LA_law_638 : decode code 638 = .ok (.istore 5, 2) := by decide +kernel
theorem d_LA_law_640 : decode code 640 = .ok (.aload_n 2, 1) := by decide +kernel
theorem d_LA_law_641 : decode code 641 = .ok (.aload_n 0, 1) := by decide +kernel
theorem d_LA_law_642 : decode code 642 = .ok (.iload 4, 2) := by decide +kernel
theorem d_LA_law_644 : decode code 644 = .ok (.iconst 1, 1) := by decide +kernel
theorem d_LA_law_645 : decode code 645 = .ok (.iadd, 1) := by decide +kernel
theorem d_LA_law_646 : decode code 646 = .ok (.iaload, 1) := by decide +kernel
theorem d_LA_law_647 : decode code 647 = .ok (.aload_n 0, 1) := by decide +kernel
theorem d_LA_law_648 : decode code 648 = .ok (.iload 4, 2) := by decide +kernel
theorem d_LA_law_650 : decode code 650 = .ok (.iconst 2, 1) := by decide +kernel
theorem d_LA_law_651 : decode code 651 = .ok (.iadd, 1) := by decide +kernel
theorem d_LA_law_652 : decode code 652 = .ok (.iaload, 1) := by decide +kernel
theorem d_LA_law_653 : decode code 653 = .ok (.invokevirtual 110, 3) := by decide +kernel
theorem d_LA_law_656 : decode code 656 = .ok (.istore 6, 2) := by decide +kernel
theorem d_LA_law_658 : decode code 658 = .ok (.aload_n 2, 1) := by decide +kernel
theorem d_LA_law_659 : decode code 659 = .ok (.invokevirtual 70, 3) := by decide +kernel
theorem d_LA_law_662 : decode code 662 = .ok (.iload 5, 2) := by decide +kernel
theorem d_LA_law_664 : decode code 664 = .ok (.if_icmp .eq 5, 3) := by decide +kernel
theorem d_LA_law_667 : decode code 667 = .ok (.iconst 0, 1) := by decide +kernel
theorem d_LA_law_668 : decode code 668 = .ok (.ireturn, 1) := by decide +kernel
theorem d_LA_law_669 : decode code 669 = .ok (.iload 5, 2) := by decide +kernel
theorem d_LA_law_671 : decode code 671 = .ok (.ifCond .ne 15, 3) := by decide +kernel
theorem d_LA_law_674 : decode code 674 = .ok (.aload_n 3, 1) := by decide +kernel
theorem d_LA_law_675 : decode code 675 = .ok (.iconst 0, 1) := by decide +kernel
theorem d_LA_law_676 : decode code 676 = .ok (.laload, 1) := by decide +kernel
theorem d_LA_law_677 : decode code 677 = .ok (.iload 6, 2) := by decide +kernel
theorem d_LA_law_679 : decode code 679 = .ok (.i2l, 1) := by decide +kernel
theorem d_LA_law_680 : decode code 680 = .ok (.lcmp, 1) := by decide +kernel
theorem d_LA_law_681 : decode code 681 = .ok (.ifCond .eq 5, 3) := by decide +kernel
theorem d_LA_law_684 : decode code 684 = .ok (.iconst 0, 1) := by decide +kernel
theorem d_LA_law_685 : decode code 685 = .ok (.ireturn, 1) := by decide +kernel
theorem d_LA_law_686 : decode code 686 = .ok (.goto 151, 3) := by decide +kernel
theorem d_LA_law_689 : decode code 689 = .ok (.aload_n 1, 1) := by decide +kernel
theorem d_LA_law_690 : decode code 690 = .ok (.aload_n 0, 1) := by decide +kernel
theorem d_LA_law_691 : decode code 691 = .ok (.iload 4, 2) := by decide +kernel
theorem d_LA_law_693 : decode code 693 = .ok (.iconst 1, 1) := by decide +kernel
theorem d_LA_law_694 : decode code 694 = .ok (.iadd, 1) := by decide +kernel
theorem d_LA_law_695 : decode code 695 = .ok (.iaload, 1) := by decide +kernel
theorem d_LA_law_696 : decode code 696 = .ok (.aload_n 0, 1) := by decide +kernel
theorem d_LA_law_697 : decode code 697 = .ok (.iload 4, 2) := by decide +kernel
theorem d_LA_law_699 : decode code 699 = .ok (.iconst 2, 1) := by decide +kernel
theorem d_LA_law_700 : decode code 700 = .ok (.iadd, 1) := by decide +kernel
theorem d_LA_law_701 : decode code 701 = .ok (.iaload, 1) := by decide +kernel
theorem d_LA_law_702 : decode code 702 = .ok (.aload_n 3, 1) := by decide +kernel
theorem d_LA_law_703 : decode code 703 = .ok (.invokestatic 111, 3) := by decide +kernel
theorem d_LA_law_706 : decode code 706 = .ok (.istore 5, 2) := by decide +kernel
theorem d_LA_law_708 : decode code 708 = .ok (.aload_n 2, 1) := by decide +kernel
theorem d_LA_law_709 : decode code 709 = .ok (.aload_n 0, 1) := by decide +kernel
theorem d_LA_law_710 : decode code 710 = .ok (.iload 4, 2) := by decide +kernel
theorem d_LA_law_712 : decode code 712 = .ok (.iconst 1, 1) := by decide +kernel
theorem d_LA_law_713 : decode code 713 = .ok (.iadd, 1) := by decide +kernel
theorem d_LA_law_714 : decode code 714 = .ok (.iaload, 1) := by decide +kernel
theorem d_LA_law_715 : decode code 715 = .ok (.aload_n 0, 1) := by decide +kernel
theorem d_LA_law_716 : decode code 716 = .ok (.iload 4, 2) := by decide +kernel
theorem d_LA_law_718 : decode code 718 = .ok (.iconst 2, 1) := by decide +kernel
theorem d_LA_law_719 : decode code 719 = .ok (.iadd, 1) := by decide +kernel
theorem d_LA_law_720 : decode code 720 = .ok (.iaload, 1) := by decide +kernel
theorem d_LA_law_721 : decode code 721 = .ok (.invokevirtual 113, 3) := by decide +kernel
theorem d_LA_law_724 : decode code 724 = .ok (.istore 6, 2) := by decide +kernel
theorem d_LA_law_726 : decode code 726 = .ok (.aload_n 2, 1) := by decide +kernel
theorem d_LA_law_727 : decode code 727 = .ok (.invokevirtual 70, 3) := by decide +kernel
theorem d_LA_law_730 : decode code 730 = .ok (.iload 5, 2) := by decide +kernel
theorem d_LA_law_732 : decode code 732 = .ok (.if_icmp .eq 5, 3) := by decide +kernel
theorem d_LA_law_735 : decode code 735 = .ok (.iconst 0, 1) := by decide +kernel
theorem d_LA_law_736 : decode code 736 = .ok (.ireturn, 1) := by decide +kernel
theorem d_LA_law_737 : decode code 737 = .ok (.iload 5, 2) := by decide +kernel
theorem d_LA_law_739 : decode code 739 = .ok (.ifCond .ne 15, 3) := by decide +kernel
theorem d_LA_law_742 : decode code 742 = .ok (.aload_n 3, 1) := by decide +kernel
theorem d_LA_law_743 : decode code 743 = .ok (.iconst 0, 1) := by decide +kernel
theorem d_LA_law_744 : decode code 744 = .ok (.laload, 1) := by decide +kernel
theorem d_LA_law_745 : decode code 745 = .ok (.iload 6, 2) := by decide +kernel
theorem d_LA_law_747 : decode code 747 = .ok (.i2l, 1) := by decide +kernel
theorem d_LA_law_748 : decode code 748 = .ok (.lcmp, 1) := by decide +kernel
theorem d_LA_law_749 : decode code 749 = .ok (.ifCond .eq 5, 3) := by decide +kernel
theorem d_LA_law_752 : decode code 752 = .ok (.iconst 0, 1) := by decide +kernel
theorem d_LA_law_753 : decode code 753 = .ok (.ireturn, 1) := by decide +kernel
theorem d_LA_law_754 : decode code 754 = .ok (.goto 83, 3) := by decide +kernel
theorem d_LA_law_757 : decode code 757 = .ok (.aload_n 1, 1) := by decide +kernel
theorem d_LA_law_758 : decode code 758 = .ok (.aload_n 0, 1) := by decide +kernel
theorem d_LA_law_759 : decode code 759 = .ok (.iload 4, 2) := by decide +kernel
theorem d_LA_law_761 : decode code 761 = .ok (.iconst 1, 1) := by decide +kernel
theorem d_LA_law_762 : decode code 762 = .ok (.iadd, 1) := by decide +kernel
theorem d_LA_law_763 : decode code 763 = .ok (.iaload, 1) := by decide +kernel
theorem d_LA_law_764 : decode code 764 = .ok (.aload_n 0, 1) := by decide +kernel
theorem d_LA_law_765 : decode code 765 = .ok (.iload 4, 2) := by decide +kernel
theorem d_LA_law_767 : decode code 767 = .ok (.iconst 2, 1) := by decide +kernel
theorem d_LA_law_768 : decode code 768 = .ok (.iadd, 1) := by decide +kernel
theorem d_LA_law_769 : decode code 769 = .ok (.iaload, 1) := by decide +kernel
theorem d_LA_law_770 : decode code 770 = .ok (.aload_n 0, 1) := by decide +kernel
theorem d_LA_law_771 : decode code 771 = .ok (.iload 4, 2) := by decide +kernel
theorem d_LA_law_773 : decode code 773 = .ok (.iconst 3, 1) := by decide +kernel
theorem d_LA_law_774 : decode code 774 = .ok (.iadd, 1) := by decide +kernel
theorem d_LA_law_775 : decode code 775 = .ok (.iaload, 1) := by decide +kernel
theorem d_LA_law_776 : decode code 776 = .ok (.aload_n 3, 1) := by decide +kernel
theorem d_LA_law_777 : decode code 777 = .ok (.invokestatic 114, 3) := by decide +kernel
theorem d_LA_law_780 : decode code 780 = .ok (.istore 5, 2) := by decide +kernel
theorem d_LA_law_782 : decode code 782 = .ok (.aload_n 2, 1) := by decide +kernel
theorem d_LA_law_783 : decode code 783 = .ok (.aload_n 0, 1) := by decide +kernel
theorem d_LA_law_784 : decode code 784 = .ok (.iload 4, 2) := by decide +kernel
theorem d_LA_law_786 : decode code 786 = .ok (.iconst 1, 1) := by decide +kernel
theorem d_LA_law_787 : decode code 787 = .ok (.iadd, 1) := by decide +kernel
theorem d_LA_law_788 : decode code 788 = .ok (.iaload, 1) := by decide +kernel
theorem d_LA_law_789 : decode code 789 = .ok (.aload_n 0, 1) := by decide +kernel
theorem d_LA_law_790 : decode code 790 = .ok (.iload 4, 2) := by decide +kernel
theorem d_LA_law_792 : decode code 792 = .ok (.iconst 2, 1) := by decide +kernel
theorem d_LA_law_793 : decode code 793 = .ok (.iadd, 1) := by decide +kernel
theorem d_LA_law_794 : decode code 794 = .ok (.iaload, 1) := by decide +kernel
theorem d_LA_law_795 : decode code 795 = .ok (.aload_n 0, 1) := by decide +kernel
theorem d_LA_law_796 : decode code 796 = .ok (.iload 4, 2) := by decide +kernel
theorem d_LA_law_798 : decode code 798 = .ok (.iconst 3, 1) := by decide +kernel
theorem d_LA_law_799 : decode code 799 = .ok (.iadd, 1) := by decide +kernel
theorem d_LA_law_800 : decode code 800 = .ok (.iaload, 1) := by decide +kernel
theorem d_LA_law_801 : decode code 801 = .ok (.invokevirtual 116, 3) := by decide +kernel
theorem d_LA_law_804 : decode code 804 = .ok (.istore 6, 2) := by decide +kernel
theorem d_LA_law_806 : decode code 806 = .ok (.aload_n 2, 1) := by decide +kernel
theorem d_LA_law_807 : decode code 807 = .ok (.invokevirtual 70, 3) := by decide +kernel
theorem d_LA_law_810 : decode code 810 = .ok (.iload 5, 2) := by decide +kernel
theorem d_LA_law_812 : decode code 812 = .ok (.if_icmp .eq 5, 3) := by decide +kernel
theorem d_LA_law_815 : decode code 815 = .ok (.iconst 0, 1) := by decide +kernel
theorem d_LA_law_816 : decode code 816 = .ok (.ireturn, 1) := by decide +kernel
theorem d_LA_law_817 : decode code 817 = .ok (.iload 5, 2) := by decide +kernel
theorem d_LA_law_819 : decode code 819 = .ok (.ifCond .ne 15, 3) := by decide +kernel
theorem d_LA_law_822 : decode code 822 = .ok (.aload_n 3, 1) := by decide +kernel
theorem d_LA_law_823 : decode code 823 = .ok (.iconst 0, 1) := by decide +kernel
theorem d_LA_law_824 : decode code 824 = .ok (.laload, 1) := by decide +kernel
theorem d_LA_law_825 : decode code 825 = .ok (.iload 6, 2) := by decide +kernel
theorem d_LA_law_827 : decode code 827 = .ok (.i2l, 1) := by decide +kernel
theorem d_LA_law_828 : decode code 828 = .ok (.lcmp, 1) := by decide +kernel
theorem d_LA_law_829 : decode code 829 = .ok (.ifCond .eq 5, 3) := by decide +kernel
theorem d_LA_law_832 : decode code 832 = .ok (.iconst 0, 1) := by decide +kernel
theorem d_LA_law_833 : decode code 833 = .ok (.ireturn, 1) := by decide +kernel
theorem d_LA_law_834 : decode code 834 = .ok (.goto 3, 3) := by decide +kernel
theorem d_LA_law_837 : decode code 837 = .ok (.iinc 4 4, 3) := by decide +kernel
theorem d_LA_law_840 : decode code 840 = .ok (.goto (-817), 3) := by decide +kernel
theorem d_LA_law_843 : decode code 843 = .ok (.iconst 1, 1) := by decide +kernel
theorem d_LA_law_844 : decode code 844 = .ok (.ireturn, 1) := by decide +kernel
