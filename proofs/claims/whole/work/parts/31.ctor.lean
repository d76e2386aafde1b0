-- MO_init
theorem d_MO_init_0 : decode prog_8_method_1_code 0 = .ok (.aload_n 0, 1) := by decide +kernel
theorem d_MO_init_1 : decode prog_8_method_1_code 1 = .ok (.invokespecial 1, 3) := by decide +kernel
theorem d_MO_init_4 : decode prog_8_method_1_code 4 = .ok (.aload_n 0, 1) := by decide +kernel
theorem d_MO_init_5 : decode prog_8_method_1_code 5 = .ok (.bipush 70, 2) := by decide +kernel
theorem d_MO_init_7 : decode prog_8_method_1_code 7 = .ok (.newarray .int, 2) := by decide +kernel
theorem d_MO_init_9 : decode prog_8_method_1_code 9 = .ok (.putfield 7, 3) := by decide +kernel
theorem d_MO_init_12 : decode prog_8_method_1_code 12 = .ok (.aload_n 0, 1) := by decide +kernel
theorem d_MO_init_13 : decode prog_8_method_1_code 13 = .ok (.iconst 2, 1) := by decide +kernel
theorem d_MO_init_14 : decode prog_8_method_1_code 14 = .ok (.newarray .int, 2) := by decide +kernel
theorem d_MO_init_16 : decode prog_8_method_1_code 16 = .ok (.putfield 13, 3) := by decide +kernel
theorem d_MO_init_19 : decode prog_8_method_1_code 19 = .ok (.aload_n 0, 1) := by decide +kernel
theorem d_MO_init_20 : decode prog_8_method_1_code 20 = .ok (.iconst 2, 1) := by decide +kernel
theorem d_MO_init_21 : decode prog_8_method_1_code 21 = .ok (.newarray .int, 2) := by decide +kernel
theorem d_MO_init_23 : decode prog_8_method_1_code 23 = .ok (.putfield 16, 3) := by decide +kernel
theorem d_MO_init_26 : decode prog_8_method_1_code 26 = .ok (.aload_n 0, 1) := by decide +kernel
theorem d_MO_init_27 : decode prog_8_method_1_code 27 = .ok (.bipush 16, 2) := by decide +kernel
theorem d_MO_init_29 : decode prog_8_method_1_code 29 = .ok (.newarray .int, 2) := by decide +kernel
theorem d_MO_init_31 : decode prog_8_method_1_code 31 = .ok (.putfield 19, 3) := by decide +kernel
theorem d_MO_init_34 : decode prog_8_method_1_code 34 = .ok (.aload_n 0, 1) := by decide +kernel
theorem d_MO_init_35 : decode prog_8_method_1_code 35 = .ok (.iconst (-1), 1) := by decide +kernel
theorem d_MO_init_36 : decode prog_8_method_1_code 36 = .ok (.putfield 22, 3) := by decide +kernel
theorem d_MO_init_39 : decode prog_8_method_1_code 39 = .ok (.aload_n 0, 1) := by decide +kernel
theorem d_MO_init_40 : decode prog_8_method_1_code 40 = .ok (.bipush 24, 2) := by decide +kernel
theorem d_MO_init_42 : decode prog_8_method_1_code 42 = .ok (.newarray .int, 2) := by decide +kernel
theorem d_MO_init_44 : decode prog_8_method_1_code 44 = .ok (.putfield 26, 3) := by decide +kernel
theorem d_MO_init_47 : decode prog_8_method_1_code 47 = .ok (.aload_n 0, 1) := by decide +kernel
theorem d_MO_init_48 : decode prog_8_method_1_code 48 = .ok (.bipush 64, 2) := by decide +kernel
theorem d_MO_init_50 : decode prog_8_method_1_code 50 = .ok (.newarray .long, 2) := by decide +kernel
theorem d_MO_init_52 : decode prog_8_method_1_code 52 = .ok (.putfield 29, 3) := by decide +kernel
theorem d_MO_init_55 : decode prog_8_method_1_code 55 = .ok (.aload_n 0, 1) := by decide +kernel
theorem d_MO_init_56 : decode prog_8_method_1_code 56 = .ok (.bipush 8, 2) := by decide +kernel
theorem d_MO_init_58 : decode prog_8_method_1_code 58 = .ok (.newarray .long, 2) := by decide +kernel
theorem d_MO_init_60 : decode prog_8_method_1_code 60 = .ok (.putfield 33, 3) := by decide +kernel
theorem d_MO_init_63 : decode prog_8_method_1_code 63 = .ok (.aload_n 0, 1) := by decide +kernel
theorem d_MO_init_64 : decode prog_8_method_1_code 64 = .ok (.bipush 48, 2) := by decide +kernel
theorem d_MO_init_66 : decode prog_8_method_1_code 66 = .ok (.newarray .long, 2) := by decide +kernel
theorem d_MO_init_68 : decode prog_8_method_1_code 68 = .ok (.putfield 36, 3) := by decide +kernel
theorem d_MO_init_71 : decode prog_8_method_1_code 71 = .ok (.aload_n 0, 1) := by decide +kernel
theorem d_MO_init_72 : decode prog_8_method_1_code 72 = .ok (.bipush 64, 2) := by decide +kernel
theorem d_MO_init_74 : decode prog_8_method_1_code 74 = .ok (.newarray .long, 2) := by decide +kernel
theorem d_MO_init_76 : decode prog_8_method_1_code 76 = .ok (.putfield 39, 3) := by decide +kernel
theorem d_MO_init_79 : decode prog_8_method_1_code 79 = .ok (.aload_n 0, 1) := by decide +kernel
theorem d_MO_init_80 : decode prog_8_method_1_code 80 = .ok (.bipush 8, 2) := by decide +kernel
theorem d_MO_init_82 : decode prog_8_method_1_code 82 = .ok (.newarray .long, 2) := by decide +kernel
theorem d_MO_init_84 : decode prog_8_method_1_code 84 = .ok (.putfield 42, 3) := by decide +kernel
theorem d_MO_init_87 : decode prog_8_method_1_code 87 = .ok (.aload_n 0, 1) := by decide +kernel
theorem d_MO_init_88 : decode prog_8_method_1_code 88 = .ok (.bipush 8, 2) := by decide +kernel
theorem d_MO_init_90 : decode prog_8_method_1_code 90 = .ok (.newarray .long, 2) := by decide +kernel
theorem d_MO_init_92 : decode prog_8_method_1_code 92 = .ok (.putfield 45, 3) := by decide +kernel
theorem d_MO_init_95 : decode prog_8_method_1_code 95 = .ok (.aload_n 0, 1) := by decide +kernel
theorem d_MO_init_96 : decode prog_8_method_1_code 96 = .ok (.bipush 8, 2) := by decide +kernel
theorem d_MO_init_98 : decode prog_8_method_1_code 98 = .ok (.newarray .int, 2) := by decide +kernel
theorem d_MO_init_100 : decode prog_8_method_1_code 100 = .ok (.putfield 48, 3) := by decide +kernel
theorem d_MO_init_103 : decode prog_8_method_1_code 103 = .ok (.aload_n 0, 1) := by decide +kernel
theorem d_MO_init_104 : decode prog_8_method_1_code 104 = .ok (.getfield 29, 3) := by decide +kernel
theorem d_MO_init_107 : decode prog_8_method_1_code 107 = .ok (.iconst 0, 1) := by decide +kernel
theorem d_MO_init_108 : decode prog_8_method_1_code 108 = .ok (.ldc2_w 51, 3) := by decide +kernel
theorem d_MO_init_111 : decode prog_8_method_1_code 111 = .ok (.lastore, 1) := by decide +kernel
theorem d_MO_init_112 : decode prog_8_method_1_code 112 = .ok (.aload_n 0, 1) := by decide +kernel
theorem d_MO_init_113 : decode prog_8_method_1_code 113 = .ok (.getfield 29, 3) := by decide +kernel
theorem d_MO_init_116 : decode prog_8_method_1_code 116 = .ok (.iconst 1, 1) := by decide +kernel
theorem d_MO_init_117 : decode prog_8_method_1_code 117 = .ok (.ldc2_w 53, 3) := by decide +kernel
theorem d_MO_init_120 : decode prog_8_method_1_code 120 = .ok (.lastore, 1) := by decide +kernel
theorem d_MO_init_121 : decode prog_8_method_1_code 121 = .ok (.aload_n 0, 1) := by decide +kernel
theorem d_MO_init_122 : decode prog_8_method_1_code 122 = .ok (.getfield 29, 3) := by decide +kernel
theorem d_MO_init_125 : decode prog_8_method_1_code 125 = .ok (.iconst 2, 1) := by decide +kernel
theorem d_MO_init_126 : decode prog_8_method_1_code 126 = .ok (.ldc2_w 55, 3) := by decide +kernel
theorem d_MO_init_129 : decode prog_8_method_1_code 129 = .ok (.lastore, 1) := by decide +kernel
theorem d_MO_init_130 : decode prog_8_method_1_code 130 = .ok (.aload_n 0, 1) := by decide +kernel
theorem d_MO_init_131 : decode prog_8_method_1_code 131 = .ok (.getfield 29, 3) := by decide +kernel
theorem d_MO_init_134 : decode prog_8_method_1_code 134 = .ok (.iconst 3, 1) := by decide +kernel
theorem d_MO_init_135 : decode prog_8_method_1_code 135 = .ok (.ldc2_w 57, 3) := by decide +kernel
theorem d_MO_init_138 : decode prog_8_method_1_code 138 = .ok (.lastore, 1) := by decide +kernel
theorem d_MO_init_139 : decode prog_8_method_1_code 139 = .ok (.aload_n 0, 1) := by decide +kernel
theorem d_MO_init_140 : decode prog_8_method_1_code 140 = .ok (.getfield 29, 3) := by decide +kernel
theorem d_MO_init_143 : decode prog_8_method_1_code 143 = .ok (.iconst 4, 1) := by decide +kernel
theorem d_MO_init_144 : decode prog_8_method_1_code 144 = .ok (.ldc2_w 59, 3) := by decide +kernel
theorem d_MO_init_147 : decode prog_8_method_1_code 147 = .ok (.lastore, 1) := by decide +kernel
theorem d_MO_init_148 : decode prog_8_method_1_code 148 = .ok (.aload_n 0, 1) := by decide +kernel
theorem d_MO_init_149 : decode prog_8_method_1_code 149 = .ok (.getfield 29, 3) := by decide +kernel
theorem d_MO_init_152 : decode prog_8_method_1_code 152 = .ok (.iconst 5, 1) := by decide +kernel
theorem d_MO_init_153 : decode prog_8_method_1_code 153 = .ok (.ldc2_w 61, 3) := by decide +kernel
theorem d_MO_init_156 : decode prog_8_method_1_code 156 = .ok (.lastore, 1) := by decide +kernel
theorem d_MO_init_157 : decode prog_8_method_1_code 157 = .ok (.aload_n 0, 1) := by decide +kernel
theorem d_MO_init_158 : decode prog_8_method_1_code 158 = .ok (.getfield 29, 3) := by decide +kernel
theorem d_MO_init_161 : decode prog_8_method_1_code 161 = .ok (.bipush 6, 2) := by decide +kernel
theorem d_MO_init_163 : decode prog_8_method_1_code 163 = .ok (.ldc2_w 63, 3) := by decide +kernel
theorem d_MO_init_166 : decode prog_8_method_1_code 166 = .ok (.lastore, 1) := by decide +kernel
theorem d_MO_init_167 : decode prog_8_method_1_code 167 = .ok (.aload_n 0, 1) := by decide +kernel
theorem d_MO_init_168 : decode prog_8_method_1_code 168 = .ok (.getfield 29, 3) := by decide +kernel
theorem d_MO_init_171 : decode prog_8_method_1_code 171 = .ok (.bipush 7, 2) := by decide +kernel
theorem d_MO_init_173 : decode prog_8_method_1_code 173 = .ok (.ldc2_w 65, 3) := by decide +kernel
theorem d_MO_init_176 : decode prog_8_method_1_code 176 = .ok (.lastore, 1) := by decide +kernel
theorem d_MO_init_177 : decode prog_8_method_1_code 177 = .ok (.aload_n 0, 1) := by decide +kernel
theorem d_MO_init_178 : decode prog_8_method_1_code 178 = .ok (.getfield 29, 3) := by decide +kernel
theorem d_MO_init_181 : decode prog_8_method_1_code 181 = .ok (.bipush 8, 2) := by decide +kernel
theorem d_MO_init_183 : decode prog_8_method_1_code 183 = .ok (.ldc2_w 67, 3) := by decide +kernel
theorem d_MO_init_186 : decode prog_8_method_1_code 186 = .ok (.lastore, 1) := by decide +kernel
theorem d_MO_init_187 : decode prog_8_method_1_code 187 = .ok (.aload_n 0, 1) := by decide +kernel
theorem d_MO_init_188 : decode prog_8_method_1_code 188 = .ok (.getfield 29, 3) := by decide +kernel
theorem d_MO_init_191 : decode prog_8_method_1_code 191 = .ok (.bipush 9, 2) := by decide +kernel
theorem d_MO_init_193 : decode prog_8_method_1_code 193 = .ok (.ldc2_w 69, 3) := by decide +kernel
theorem d_MO_init_196 : decode prog_8_method_1_code 196 = .ok (.lastore, 1) := by decide +kernel
theorem d_MO_init_197 : decode prog_8_method_1_code 197 = .ok (.aload_n 0, 1) := by decide +kernel
theorem d_MO_init_198 : decode prog_8_method_1_code 198 = .ok (.getfield 29, 3) := by decide +kernel
theorem d_MO_init_201 : decode prog_8_method_1_code 201 = .ok (.bipush 10, 2) := by decide +kernel
theorem d_MO_init_203 : decode prog_8_method_1_code 203 = .ok (.ldc2_w 71, 3) := by decide +kernel
theorem d_MO_init_206 : decode prog_8_method_1_code 206 = .ok (.lastore, 1) := by decide +kernel
theorem d_MO_init_207 : decode prog_8_method_1_code 207 = .ok (.aload_n 0, 1) := by decide +kernel
theorem d_MO_init_208 : decode prog_8_method_1_code 208 = .ok (.getfield 29, 3) := by decide +kernel
theorem d_MO_init_211 : decode prog_8_method_1_code 211 = .ok (.bipush 11, 2) := by decide +kernel
theorem d_MO_init_213 : decode prog_8_method_1_code 213 = .ok (.ldc2_w 73, 3) := by decide +kernel
theorem d_MO_init_216 : decode prog_8_method_1_code 216 = .ok (.lastore, 1) := by decide +kernel
theorem d_MO_init_217 : decode prog_8_method_1_code 217 = .ok (.aload_n 0, 1) := by decide +kernel
theorem d_MO_init_218 : decode prog_8_method_1_code 218 = .ok (.getfield 29, 3) := by decide +kernel
theorem d_MO_init_221 : decode prog_8_method_1_code 221 = .ok (.bipush 12, 2) := by decide +kernel
theorem d_MO_init_223 : decode prog_8_method_1_code 223 = .ok (.ldc2_w 75, 3) := by decide +kernel
theorem d_MO_init_226 : decode prog_8_method_1_code 226 = .ok (.lastore, 1) := by decide +kernel
theorem d_MO_init_227 : decode prog_8_method_1_code 227 = .ok (.aload_n 0, 1) := by decide +kernel
theorem d_MO_init_228 : decode prog_8_method_1_code 228 = .ok (.getfield 29, 3) := by decide +kernel
theorem d_MO_init_231 : decode prog_8_method_1_code 231 = .ok (.bipush 13, 2) := by decide +kernel
theorem d_MO_init_233 : decode prog_8_method_1_code 233 = .ok (.ldc2_w 77, 3) := by decide +kernel
theorem d_MO_init_236 : decode prog_8_method_1_code 236 = .ok (.lastore, 1) := by decide +kernel
theorem d_MO_init_237 : decode prog_8_method_1_code 237 = .ok (.aload_n 0, 1) := by decide +kernel
theorem d_MO_init_238 : decode prog_8_method_1_code 238 = .ok (.getfield 29, 3) := by decide +kernel
theorem d_MO_init_241 : decode prog_8_method_1_code 241 = .ok (.bipush 14, 2) := by decide +kernel
theorem d_MO_init_243 : decode prog_8_method_1_code 243 = .ok (.ldc2_w 79, 3) := by decide +kernel
theorem d_MO_init_246 : decode prog_8_method_1_code 246 = .ok (.lastore, 1) := by decide +kernel
theorem d_MO_init_247 : decode prog_8_method_1_code 247 = .ok (.aload_n 0, 1) := by decide +kernel
theorem d_MO_init_248 : decode prog_8_method_1_code 248 = .ok (.getfield 29, 3) := by decide +kernel
theorem d_MO_init_251 : decode prog_8_method_1_code 251 = .ok (.bipush 15, 2) := by decide +kernel
theorem d_MO_init_253 : decode prog_8_method_1_code 253 = .ok (.ldc2_w 81, 3) := by decide +kernel
theorem d_MO_init_256 : decode prog_8_method_1_code 256 = .ok (.lastore, 1) := by decide +kernel
theorem d_MO_init_257 : decode prog_8_method_1_code 257 = .ok (.aload_n 0, 1) := by decide +kernel
theorem d_MO_init_258 : decode prog_8_method_1_code 258 = .ok (.getfield 29, 3) := by decide +kernel
theorem d_MO_init_261 : decode prog_8_method_1_code 261 = .ok (.bipush 16, 2) := by decide +kernel
theorem d_MO_init_263 : decode prog_8_method_1_code 263 = .ok (.ldc2_w 83, 3) := by decide +kernel
theorem d_MO_init_266 : decode prog_8_method_1_code 266 = .ok (.lastore, 1) := by decide +kernel
theorem d_MO_init_267 : decode prog_8_method_1_code 267 = .ok (.aload_n 0, 1) := by decide +kernel
theorem d_MO_init_268 : decode prog_8_method_1_code 268 = .ok (.getfield 29, 3) := by decide +kernel
theorem d_MO_init_271 : decode prog_8_method_1_code 271 = .ok (.bipush 17, 2) := by decide +kernel
theorem d_MO_init_273 : decode prog_8_method_1_code 273 = .ok (.ldc2_w 85, 3) := by decide +kernel
theorem d_MO_init_276 : decode prog_8_method_1_code 276 = .ok (.lastore, 1) := by decide +kernel
theorem d_MO_init_277 : decode prog_8_method_1_code 277 = .ok (.aload_n 0, 1) := by decide +kernel
theorem d_MO_init_278 : decode prog_8_method_1_code 278 = .ok (.getfield 29, 3) := by decide +kernel
theorem d_MO_init_281 : decode prog_8_method_1_code 281 = .ok (.bipush 18, 2) := by decide +kernel
theorem d_MO_init_283 : decode prog_8_method_1_code 283 = .ok (.ldc2_w 87, 3) := by decide +kernel
theorem d_MO_init_286 : decode prog_8_method_1_code 286 = .ok (.lastore, 1) := by decide +kernel
theorem d_MO_init_287 : decode prog_8_method_1_code 287 = .ok (.aload_n 0, 1) := by decide +kernel
theorem d_MO_init_288 : decode prog_8_method_1_code 288 = .ok (.getfield 29, 3) := by decide +kernel
theorem d_MO_init_291 : decode prog_8_method_1_code 291 = .ok (.bipush 19, 2) := by decide +kernel
theorem d_MO_init_293 : decode prog_8_method_1_code 293 = .ok (.ldc2_w 89, 3) := by decide +kernel
theorem d_MO_init_296 : decode prog_8_method_1_code 296 = .ok (.lastore, 1) := by decide +kernel
theorem d_MO_init_297 : decode prog_8_method_1_code 297 = .ok (.aload_n 0, 1) := by decide +kernel
theorem d_MO_init_298 : decode prog_8_method_1_code 298 = .ok (.getfield 29, 3) := by decide +kernel
theorem d_MO_init_301 : decode prog_8_method_1_code 301 = .ok (.bipush 20, 2) := by decide +kernel
theorem d_MO_init_303 : decode prog_8_method_1_code 303 = .ok (.ldc2_w 91, 3) := by decide +kernel
theorem d_MO_init_306 : decode prog_8_method_1_code 306 = .ok (.lastore, 1) := by decide +kernel
theorem d_MO_init_307 : decode prog_8_method_1_code 307 = .ok (.aload_n 0, 1) := by decide +kernel
theorem d_MO_init_308 : decode prog_8_method_1_code 308 = .ok (.getfield 29, 3) := by decide +kernel
theorem d_MO_init_311 : decode prog_8_method_1_code 311 = .ok (.bipush 21, 2) := by decide +kernel
theorem d_MO_init_313 : decode prog_8_method_1_code 313 = .ok (.ldc2_w 93, 3) := by decide +kernel
theorem d_MO_init_316 : decode prog_8_method_1_code 316 = .ok (.lastore, 1) := by decide +kernel
theorem d_MO_init_317 : decode prog_8_method_1_code 317 = .ok (.aload_n 0, 1) := by decide +kernel
theorem d_MO_init_318 : decode prog_8_method_1_code 318 = .ok (.getfield 29, 3) := by decide +kernel
theorem d_MO_init_321 : decode prog_8_method_1_code 321 = .ok (.bipush 22, 2) := by decide +kernel
theorem d_MO_init_323 : decode prog_8_method_1_code 323 = .ok (.ldc2_w 95, 3) := by decide +kernel
theorem d_MO_init_326 : decode prog_8_method_1_code 326 = .ok (.lastore, 1) := by decide +kernel
theorem d_MO_init_327 : decode prog_8_method_1_code 327 = .ok (.aload_n 0, 1) := by decide +kernel
theorem d_MO_init_328 : decode prog_8_method_1_code 328 = .ok (.getfield 29, 3) := by decide +kernel
theorem d_MO_init_331 : decode prog_8_method_1_code 331 = .ok (.bipush 23, 2) := by decide +kernel
theorem d_MO_init_333 : decode prog_8_method_1_code 333 = .ok (.ldc2_w 97, 3) := by decide +kernel
theorem d_MO_init_336 : decode prog_8_method_1_code 336 = .ok (.lastore, 1) := by decide +kernel
theorem d_MO_init_337 : decode prog_8_method_1_code 337 = .ok (.aload_n 0, 1) := by decide +kernel
theorem d_MO_init_338 : decode prog_8_method_1_code 338 = .ok (.getfield 29, 3) := by decide +kernel
theorem d_MO_init_341 : decode prog_8_method_1_code 341 = .ok (.bipush 24, 2) := by decide +kernel
theorem d_MO_init_343 : decode prog_8_method_1_code 343 = .ok (.ldc2_w 99, 3) := by decide +kernel
theorem d_MO_init_346 : decode prog_8_method_1_code 346 = .ok (.lastore, 1) := by decide +kernel
theorem d_MO_init_347 : decode prog_8_method_1_code 347 = .ok (.aload_n 0, 1) := by decide +kernel
theorem d_MO_init_348 : decode prog_8_method_1_code 348 = .ok (.getfield 29, 3) := by decide +kernel
theorem d_MO_init_351 : decode prog_8_method_1_code 351 = .ok (.bipush 25, 2) := by decide +kernel
theorem d_MO_init_353 : decode prog_8_method_1_code 353 = .ok (.ldc2_w 101, 3) := by decide +kernel
theorem d_MO_init_356 : decode prog_8_method_1_code 356 = .ok (.lastore, 1) := by decide +kernel
theorem d_MO_init_357 : decode prog_8_method_1_code 357 = .ok (.aload_n 0, 1) := by decide +kernel
theorem d_MO_init_358 : decode prog_8_method_1_code 358 = .ok (.getfield 29, 3) := by decide +kernel
theorem d_MO_init_361 : decode prog_8_method_1_code 361 = .ok (.bipush 26, 2) := by decide +kernel
theorem d_MO_init_363 : decode prog_8_method_1_code 363 = .ok (.ldc2_w 103, 3) := by decide +kernel
theorem d_MO_init_366 : decode prog_8_method_1_code 366 = .ok (.lastore, 1) := by decide +kernel
theorem d_MO_init_367 : decode prog_8_method_1_code 367 = .ok (.aload_n 0, 1) := by decide +kernel
theorem d_MO_init_368 : decode prog_8_method_1_code 368 = .ok (.getfield 29, 3) := by decide +kernel
theorem d_MO_init_371 : decode prog_8_method_1_code 371 = .ok (.bipush 27, 2) := by decide +kernel
theorem d_MO_init_373 : decode prog_8_method_1_code 373 = .ok (.ldc2_w 105, 3) := by decide +kernel
theorem d_MO_init_376 : decode prog_8_method_1_code 376 = .ok (.lastore, 1) := by decide +kernel
theorem d_MO_init_377 : decode prog_8_method_1_code 377 = .ok (.aload_n 0, 1) := by decide +kernel
theorem d_MO_init_378 : decode prog_8_method_1_code 378 = .ok (.getfield 29, 3) := by decide +kernel
theorem d_MO_init_381 : decode prog_8_method_1_code 381 = .ok (.bipush 28, 2) := by decide +kernel
theorem d_MO_init_383 : decode prog_8_method_1_code 383 = .ok (.ldc2_w 107, 3) := by decide +kernel
theorem d_MO_init_386 : decode prog_8_method_1_code 386 = .ok (.lastore, 1) := by decide +kernel
theorem d_MO_init_387 : decode prog_8_method_1_code 387 = .ok (.aload_n 0, 1) := by decide +kernel
theorem d_MO_init_388 : decode prog_8_method_1_code 388 = .ok (.getfield 29, 3) := by decide +kernel
theorem d_MO_init_391 : decode prog_8_method_1_code 391 = .ok (.bipush 29, 2) := by decide +kernel
theorem d_MO_init_393 : decode prog_8_method_1_code 393 = .ok (.ldc2_w 109, 3) := by decide +kernel
theorem d_MO_init_396 : decode prog_8_method_1_code 396 = .ok (.lastore, 1) := by decide +kernel
theorem d_MO_init_397 : decode prog_8_method_1_code 397 = .ok (.aload_n 0, 1) := by decide +kernel
theorem d_MO_init_398 : decode prog_8_method_1_code 398 = .ok (.getfield 29, 3) := by decide +kernel
theorem d_MO_init_401 : decode prog_8_method_1_code 401 = .ok (.bipush 30, 2) := by decide +kernel
theorem d_MO_init_403 : decode prog_8_method_1_code 403 = .ok (.ldc2_w 111, 3) := by decide +kernel
theorem d_MO_init_406 : decode prog_8_method_1_code 406 = .ok (.lastore, 1) := by decide +kernel
theorem d_MO_init_407 : decode prog_8_method_1_code 407 = .ok (.aload_n 0, 1) := by decide +kernel
theorem d_MO_init_408 : decode prog_8_method_1_code 408 = .ok (.getfield 29, 3) := by decide +kernel
theorem d_MO_init_411 : decode prog_8_method_1_code 411 = .ok (.bipush 31, 2) := by decide +kernel
theorem d_MO_init_413 : decode prog_8_method_1_code 413 = .ok (.ldc2_w 113, 3) := by decide +kernel
theorem d_MO_init_416 : decode prog_8_method_1_code 416 = .ok (.lastore, 1) := by decide +kernel
theorem d_MO_init_417 : decode prog_8_method_1_code 417 = .ok (.aload_n 0, 1) := by decide +kernel
theorem d_MO_init_418 : decode prog_8_method_1_code 418 = .ok (.getfield 29, 3) := by decide +kernel
theorem d_MO_init_421 : decode prog_8_method_1_code 421 = .ok (.bipush 32, 2) := by decide +kernel
theorem d_MO_init_423 : decode prog_8_method_1_code 423 = .ok (.ldc2_w 115, 3) := by decide +kernel
theorem d_MO_init_426 : decode prog_8_method_1_code 426 = .ok (.lastore, 1) := by decide +kernel
theorem d_MO_init_427 : decode prog_8_method_1_code 427 = .ok (.aload_n 0, 1) := by decide +kernel
theorem d_MO_init_428 : decode prog_8_method_1_code 428 = .ok (.getfield 29, 3) := by decide +kernel
theorem d_MO_init_431 : decode prog_8_method_1_code 431 = .ok (.bipush 33, 2) := by decide +kernel
theorem d_MO_init_433 : decode prog_8_method_1_code 433 = .ok (.ldc2_w 117, 3) := by decide +kernel
theorem d_MO_init_436 : decode prog_8_method_1_code 436 = .ok (.lastore, 1) := by decide +kernel
theorem d_MO_init_437 : decode prog_8_method_1_code 437 = .ok (.aload_n 0, 1) := by decide +kernel
theorem d_MO_init_438 : decode prog_8_method_1_code 438 = .ok (.getfield 29, 3) := by decide +kernel
theorem d_MO_init_441 : decode prog_8_method_1_code 441 = .ok (.bipush 34, 2) := by decide +kernel
theorem d_MO_init_443 : decode prog_8_method_1_code 443 = .ok (.ldc2_w 119, 3) := by decide +kernel
theorem d_MO_init_446 : decode prog_8_method_1_code 446 = .ok (.lastore, 1) := by decide +kernel
theorem d_MO_init_447 : decode prog_8_method_1_code 447 = .ok (.aload_n 0, 1) := by decide +kernel
theorem d_MO_init_448 : decode prog_8_method_1_code 448 = .ok (.getfield 29, 3) := by decide +kernel
theorem d_MO_init_451 : decode prog_8_method_1_code 451 = .ok (.bipush 35, 2) := by decide +kernel
theorem d_MO_init_453 : decode prog_8_method_1_code 453 = .ok (.ldc2_w 121, 3) := by decide +kernel
theorem d_MO_init_456 : decode prog_8_method_1_code 456 = .ok (.lastore, 1) := by decide +kernel
theorem d_MO_init_457 : decode prog_8_method_1_code 457 = .ok (.aload_n 0, 1) := by decide +kernel
theorem d_MO_init_458 : decode prog_8_method_1_code 458 = .ok (.getfield 29, 3) := by decide +kernel
theorem d_MO_init_461 : decode prog_8_method_1_code 461 = .ok (.bipush 36, 2) := by decide +kernel
theorem d_MO_init_463 : decode prog_8_method_1_code 463 = .ok (.ldc2_w 123, 3) := by decide +kernel
theorem d_MO_init_466 : decode prog_8_method_1_code 466 = .ok (.lastore, 1) := by decide +kernel
theorem d_MO_init_467 : decode prog_8_method_1_code 467 = .ok (.aload_n 0, 1) := by decide +kernel
theorem d_MO_init_468 : decode prog_8_method_1_code 468 = .ok (.getfield 29, 3) := by decide +kernel
theorem d_MO_init_471 : decode prog_8_method_1_code 471 = .ok (.bipush 37, 2) := by decide +kernel
theorem d_MO_init_473 : decode prog_8_method_1_code 473 = .ok (.ldc2_w 125, 3) := by decide +kernel
theorem d_MO_init_476 : decode prog_8_method_1_code 476 = .ok (.lastore, 1) := by decide +kernel
theorem d_MO_init_477 : decode prog_8_method_1_code 477 = .ok (.aload_n 0, 1) := by decide +kernel
theorem d_MO_init_478 : decode prog_8_method_1_code 478 = .ok (.getfield 29, 3) := by decide +kernel
theorem d_MO_init_481 : decode prog_8_method_1_code 481 = .ok (.bipush 38, 2) := by decide +kernel
theorem d_MO_init_483 : decode prog_8_method_1_code 483 = .ok (.ldc2_w 127, 3) := by decide +kernel
theorem d_MO_init_486 : decode prog_8_method_1_code 486 = .ok (.lastore, 1) := by decide +kernel
theorem d_MO_init_487 : decode prog_8_method_1_code 487 = .ok (.aload_n 0, 1) := by decide +kernel
theorem d_MO_init_488 : decode prog_8_method_1_code 488 = .ok (.getfield 29, 3) := by decide +kernel
theorem d_MO_init_491 : decode prog_8_method_1_code 491 = .ok (.bipush 39, 2) := by decide +kernel
theorem d_MO_init_493 : decode prog_8_method_1_code 493 = .ok (.ldc2_w 129, 3) := by decide +kernel
theorem d_MO_init_496 : decode prog_8_method_1_code 496 = .ok (.lastore, 1) := by decide +kernel
theorem d_MO_init_497 : decode prog_8_method_1_code 497 = .ok (.aload_n 0, 1) := by decide +kernel
theorem d_MO_init_498 : decode prog_8_method_1_code 498 = .ok (.getfield 29, 3) := by decide +kernel
theorem d_MO_init_501 : decode prog_8_method_1_code 501 = .ok (.bipush 40, 2) := by decide +kernel
theorem d_MO_init_503 : decode prog_8_method_1_code 503 = .ok (.ldc2_w 131, 3) := by decide +kernel
theorem d_MO_init_506 : decode prog_8_method_1_code 506 = .ok (.lastore, 1) := by decide +kernel
theorem d_MO_init_507 : decode prog_8_method_1_code 507 = .ok (.aload_n 0, 1) := by decide +kernel
theorem d_MO_init_508 : decode prog_8_method_1_code 508 = .ok (.getfield 29, 3) := by decide +kernel
theorem d_MO_init_511 : decode prog_8_method_1_code 511 = .ok (.bipush 41, 2) := by decide +kernel
theorem d_MO_init_513 : decode prog_8_method_1_code 513 = .ok (.ldc2_w 133, 3) := by decide +kernel
theorem d_MO_init_516 : decode prog_8_method_1_code 516 = .ok (.lastore, 1) := by decide +kernel
theorem d_MO_init_517 : decode prog_8_method_1_code 517 = .ok (.aload_n 0, 1) := by decide +kernel
theorem d_MO_init_518 : decode prog_8_method_1_code 518 = .ok (.getfield 29, 3) := by decide +kernel
theorem d_MO_init_521 : decode prog_8_method_1_code 521 = .ok (.bipush 42, 2) := by decide +kernel
theorem d_MO_init_523 : decode prog_8_method_1_code 523 = .ok (.ldc2_w 135, 3) := by decide +kernel
theorem d_MO_init_526 : decode prog_8_method_1_code 526 = .ok (.lastore, 1) := by decide +kernel
theorem d_MO_init_527 : decode prog_8_method_1_code 527 = .ok (.aload_n 0, 1) := by decide +kernel
theorem d_MO_init_528 : decode prog_8_method_1_code 528 = .ok (.getfield 29, 3) := by decide +kernel
theorem d_MO_init_531 : decode prog_8_method_1_code 531 = .ok (.bipush 43, 2) := by decide +kernel
theorem d_MO_init_533 : decode prog_8_method_1_code 533 = .ok (.ldc2_w 137, 3) := by decide +kernel
theorem d_MO_init_536 : decode prog_8_method_1_code 536 = .ok (.lastore, 1) := by decide +kernel
theorem d_MO_init_537 : decode prog_8_method_1_code 537 = .ok (.aload_n 0, 1) := by decide +kernel
theorem d_MO_init_538 : decode prog_8_method_1_code 538 = .ok (.getfield 29, 3) := by decide +kernel
theorem d_MO_init_541 : decode prog_8_method_1_code 541 = .ok (.bipush 44, 2) := by decide +kernel
theorem d_MO_init_543 : decode prog_8_method_1_code 543 = .ok (.ldc2_w 139, 3) := by decide +kernel
theorem d_MO_init_546 : decode prog_8_method_1_code 546 = .ok (.lastore, 1) := by decide +kernel
theorem d_MO_init_547 : decode prog_8_method_1_code 547 = .ok (.aload_n 0, 1) := by decide +kernel
theorem d_MO_init_548 : decode prog_8_method_1_code 548 = .ok (.getfield 29, 3) := by decide +kernel
theorem d_MO_init_551 : decode prog_8_method_1_code 551 = .ok (.bipush 45, 2) := by decide +kernel
theorem d_MO_init_553 : decode prog_8_method_1_code 553 = .ok (.ldc2_w 141, 3) := by decide +kernel
theorem d_MO_init_556 : decode prog_8_method_1_code 556 = .ok (.lastore, 1) := by decide +kernel
theorem d_MO_init_557 : decode prog_8_method_1_code 557 = .ok (.aload_n 0, 1) := by decide +kernel
theorem d_MO_init_558 : decode prog_8_method_1_code 558 = .ok (.getfield 29, 3) := by decide +kernel
theorem d_MO_init_561 : decode prog_8_method_1_code 561 = .ok (.bipush 46, 2) := by decide +kernel
theorem d_MO_init_563 : decode prog_8_method_1_code 563 = .ok (.ldc2_w 143, 3) := by decide +kernel
theorem d_MO_init_566 : decode prog_8_method_1_code 566 = .ok (.lastore, 1) := by decide +kernel
theorem d_MO_init_567 : decode prog_8_method_1_code 567 = .ok (.aload_n 0, 1) := by decide +kernel
theorem d_MO_init_568 : decode prog_8_method_1_code 568 = .ok (.getfield 29, 3) := by decide +kernel
theorem d_MO_init_571 : decode prog_8_method_1_code 571 = .ok (.bipush 47, 2) := by decide +kernel
theorem d_MO_init_573 : decode prog_8_method_1_code 573 = .ok (.ldc2_w 145, 3) := by decide +kernel
theorem d_MO_init_576 : decode prog_8_method_1_code 576 = .ok (.lastore, 1) := by decide +kernel
theorem d_MO_init_577 : decode prog_8_method_1_code 577 = .ok (.aload_n 0, 1) := by decide +kernel
theorem d_MO_init_578 : decode prog_8_method_1_code 578 = .ok (.getfield 29, 3) := by decide +kernel
theorem d_MO_init_581 : decode prog_8_method_1_code 581 = .ok (.bipush 48, 2) := by decide +kernel
theorem d_MO_init_583 : decode prog_8_method_1_code 583 = .ok (.ldc2_w 147, 3) := by decide +kernel
theorem d_MO_init_586 : decode prog_8_method_1_code 586 = .ok (.lastore, 1) := by decide +kernel
theorem d_MO_init_587 : decode prog_8_method_1_code 587 = .ok (.aload_n 0, 1) := by decide +kernel
theorem d_MO_init_588 : decode prog_8_method_1_code 588 = .ok (.getfield 29, 3) := by decide +kernel
theorem d_MO_init_591 : decode prog_8_method_1_code 591 = .ok (.bipush 49, 2) := by decide +kernel
theorem d_MO_init_593 : decode prog_8_method_1_code 593 = .ok (.ldc2_w 149, 3) := by decide +kernel
theorem d_MO_init_596 : decode prog_8_method_1_code 596 = .ok (.lastore, 1) := by decide +kernel
theorem d_MO_init_597 : decode prog_8_method_1_code 597 = .ok (.aload_n 0, 1) := by decide +kernel
theorem d_MO_init_598 : decode prog_8_method_1_code 598 = .ok (.getfield 29, 3) := by decide +kernel
theorem d_MO_init_601 : decode prog_8_method_1_code 601 = .ok (.bipush 50, 2) := by decide +kernel
theorem d_MO_init_603 : decode prog_8_method_1_code 603 = .ok (.ldc2_w 151, 3) := by decide +kernel
theorem d_MO_init_606 : decode prog_8_method_1_code 606 = .ok (.lastore, 1) := by decide +kernel
theorem d_MO_init_607 : decode prog_8_method_1_code 607 = .ok (.aload_n 0, 1) := by decide +kernel
theorem d_MO_init_608 : decode prog_8_method_1_code 608 = .ok (.getfield 29, 3) := by decide +kernel
theorem d_MO_init_611 : decode prog_8_method_1_code 611 = .ok (.bipush 51, 2) := by decide +kernel
theorem d_MO_init_613 : decode prog_8_method_1_code 613 = .ok (.ldc2_w 153, 3) := by decide +kernel
theorem d_MO_init_616 : decode prog_8_method_1_code 616 = .ok (.lastore, 1) := by decide +kernel
theorem d_MO_init_617 : decode prog_8_method_1_code 617 = .ok (.aload_n 0, 1) := by decide +kernel
theorem d_MO_init_618 : decode prog_8_method_1_code 618 = .ok (.getfield 29, 3) := by decide +kernel
theorem d_MO_init_621 : decode prog_8_method_1_code 621 = .ok (.bipush 52, 2) := by decide +kernel
theorem d_MO_init_623 : decode prog_8_method_1_code 623 = .ok (.ldc2_w 155, 3) := by decide +kernel
theorem d_MO_init_626 : decode prog_8_method_1_code 626 = .ok (.lastore, 1) := by decide +kernel
theorem d_MO_init_627 : decode prog_8_method_1_code 627 = .ok (.aload_n 0, 1) := by decide +kernel
theorem d_MO_init_628 : decode prog_8_method_1_code 628 = .ok (.getfield 29, 3) := by decide +kernel
theorem d_MO_init_631 : decode prog_8_method_1_code 631 = .ok (.bipush 53, 2) := by decide +kernel
theorem d_MO_init_633 : decode prog_8_method_1_code 633 = .ok (.ldc2_w 157, 3) := by decide +kernel
theorem d_MO_init_636 : decode prog_8_method_1_code 636 = .ok (.lastore, 1) := by decide +kernel
theorem d_MO_init_637 : decode prog_8_method_1_code 637 = .ok (.aload_n 0, 1) := by decide +kernel
theorem d_MO_init_638 : decode prog_8_method_1_code 638 = .ok (.getfield 29, 3) := by decide +kernel
theorem d_MO_init_641 : decode prog_8_method_1_code 641 = .ok (.bipush 54, 2) := by decide +kernel
theorem d_MO_init_643 : decode prog_8_method_1_code 643 = .ok (.ldc2_w 159, 3) := by decide +kernel
theorem d_MO_init_646 : decode prog_8_method_1_code 646 = .ok (.lastore, 1) := by decide +kernel
theorem d_MO_init_647 : decode prog_8_method_1_code 647 = .ok (.aload_n 0, 1) := by decide +kernel
theorem d_MO_init_648 : decode prog_8_method_1_code 648 = .ok (.getfield 29, 3) := by decide +kernel
theorem d_MO_init_651 : decode prog_8_method_1_code 651 = .ok (.bipush 55, 2) := by decide +kernel
theorem d_MO_init_653 : decode prog_8_method_1_code 653 = .ok (.ldc2_w 161, 3) := by decide +kernel
theorem d_MO_init_656 : decode prog_8_method_1_code 656 = .ok (.lastore, 1) := by decide +kernel
theorem d_MO_init_657 : decode prog_8_method_1_code 657 = .ok (.aload_n 0, 1) := by decide +kernel
theorem d_MO_init_658 : decode prog_8_method_1_code 658 = .ok (.getfield 29, 3) := by decide +kernel
theorem d_MO_init_661 : decode prog_8_method_1_code 661 = .ok (.bipush 56, 2) := by decide +kernel
theorem d_MO_init_663 : decode prog_8_method_1_code 663 = .ok (.ldc2_w 163, 3) := by decide +kernel
theorem d_MO_init_666 : decode prog_8_method_1_code 666 = .ok (.lastore, 1) := by decide +kernel
theorem d_MO_init_667 : decode prog_8_method_1_code 667 = .ok (.aload_n 0, 1) := by decide +kernel
theorem d_MO_init_668 : decode prog_8_method_1_code 668 = .ok (.getfield 29, 3) := by decide +kernel
theorem d_MO_init_671 : decode prog_8_method_1_code 671 = .ok (.bipush 57, 2) := by decide +kernel
theorem d_MO_init_673 : decode prog_8_method_1_code 673 = .ok (.ldc2_w 165, 3) := by decide +kernel
theorem d_MO_init_676 : decode prog_8_method_1_code 676 = .ok (.lastore, 1) := by decide +kernel
theorem d_MO_init_677 : decode prog_8_method_1_code 677 = .ok (.aload_n 0, 1) := by decide +kernel
theorem d_MO_init_678 : decode prog_8_method_1_code 678 = .ok (.getfield 29, 3) := by decide +kernel
theorem d_MO_init_681 : decode prog_8_method_1_code 681 = .ok (.bipush 58, 2) := by decide +kernel
theorem d_MO_init_683 : decode prog_8_method_1_code 683 = .ok (.ldc2_w 167, 3) := by decide +kernel
theorem d_MO_init_686 : decode prog_8_method_1_code 686 = .ok (.lastore, 1) := by decide +kernel
theorem d_MO_init_687 : decode prog_8_method_1_code 687 = .ok (.aload_n 0, 1) := by decide +kernel
theorem d_MO_init_688 : decode prog_8_method_1_code 688 = .ok (.getfield 29, 3) := by decide +kernel
theorem d_MO_init_691 : decode prog_8_method_1_code 691 = .ok (.bipush 59, 2) := by decide +kernel
theorem d_MO_init_693 : decode prog_8_method_1_code 693 = .ok (.ldc2_w 169, 3) := by decide +kernel
theorem d_MO_init_696 : decode prog_8_method_1_code 696 = .ok (.lastore, 1) := by decide +kernel
theorem d_MO_init_697 : decode prog_8_method_1_code 697 = .ok (.aload_n 0, 1) := by decide +kernel
theorem d_MO_init_698 : decode prog_8_method_1_code 698 = .ok (.getfield 29, 3) := by decide +kernel
theorem d_MO_init_701 : decode prog_8_method_1_code 701 = .ok (.bipush 60, 2) := by decide +kernel
theorem d_MO_init_703 : decode prog_8_method_1_code 703 = .ok (.ldc2_w 171, 3) := by decide +kernel
theorem d_MO_init_706 : decode prog_8_method_1_code 706 = .ok (.lastore, 1) := by decide +kernel
theorem d_MO_init_707 : decode prog_8_method_1_code 707 = .ok (.aload_n 0, 1) := by decide +kernel
theorem d_MO_init_708 : decode prog_8_method_1_code 708 = .ok (.getfield 29, 3) := by decide +kernel
theorem d_MO_init_711 : decode prog_8_method_1_code 711 = .ok (.bipush 61, 2) := by decide +kernel
theorem d_MO_init_713 : decode prog_8_method_1_code 713 = .ok (.ldc2_w 173, 3) := by decide +kernel
theorem d_MO_init_716 : decode prog_8_method_1_code 716 = .ok (.lastore, 1) := by decide +kernel
theorem d_MO_init_717 : decode prog_8_method_1_code 717 = .ok (.aload_n 0, 1) := by decide +kernel
theorem d_MO_init_718 : decode prog_8_method_1_code 718 = .ok (.getfield 29, 3) := by decide +kernel
theorem d_MO_init_721 : decode prog_8_method_1_code 721 = .ok (.bipush 62, 2) := by decide +kernel
theorem d_MO_init_723 : decode prog_8_method_1_code 723 = .ok (.ldc2_w 175, 3) := by decide +kernel
theorem d_MO_init_726 : decode prog_8_method_1_code 726 = .ok (.lastore, 1) := by decide +kernel
theorem d_MO_init_727 : decode prog_8_method_1_code 727 = .ok (.aload_n 0, 1) := by decide +kernel
theorem d_MO_init_728 : decode prog_8_method_1_code 728 = .ok (.getfield 29, 3) := by decide +kernel
theorem d_MO_init_731 : decode prog_8_method_1_code 731 = .ok (.bipush 63, 2) := by decide +kernel
theorem d_MO_init_733 : decode prog_8_method_1_code 733 = .ok (.ldc2_w 177, 3) := by decide +kernel
theorem d_MO_init_736 : decode prog_8_method_1_code 736 = .ok (.lastore, 1) := by decide +kernel
theorem d_MO_init_737 : decode prog_8_method_1_code 737 = .ok (.aload_n 0, 1) := by decide +kernel
theorem d_MO_init_738 : decode prog_8_method_1_code 738 = .ok (.getfield 33, 3) := by decide +kernel
theorem d_MO_init_741 : decode prog_8_method_1_code 741 = .ok (.iconst 0, 1) := by decide +kernel
theorem d_MO_init_742 : decode prog_8_method_1_code 742 = .ok (.ldc2_w 179, 3) := by decide +kernel
theorem d_MO_init_745 : decode prog_8_method_1_code 745 = .ok (.lastore, 1) := by decide +kernel
theorem d_MO_init_746 : decode prog_8_method_1_code 746 = .ok (.aload_n 0, 1) := by decide +kernel
theorem d_MO_init_747 : decode prog_8_method_1_code 747 = .ok (.getfield 33, 3) := by decide +kernel
theorem d_MO_init_750 : decode prog_8_method_1_code 750 = .ok (.iconst 1, 1) := by decide +kernel
theorem d_MO_init_751 : decode prog_8_method_1_code 751 = .ok (.ldc2_w 181, 3) := by decide +kernel
theorem d_MO_init_754 : decode prog_8_method_1_code 754 = .ok (.lastore, 1) := by decide +kernel
theorem d_MO_init_755 : decode prog_8_method_1_code 755 = .ok (.aload_n 0, 1) := by decide +kernel
theorem d_MO_init_756 : decode prog_8_method_1_code 756 = .ok (.getfield 33, 3) := by decide +kernel
theorem d_MO_init_759 : decode prog_8_method_1_code 759 = .ok (.iconst 2, 1) := by decide +kernel
theorem d_MO_init_760 : decode prog_8_method_1_code 760 = .ok (.ldc2_w 183, 3) := by decide +kernel
theorem d_MO_init_763 : decode prog_8_method_1_code 763 = .ok (.lastore, 1) := by decide +kernel
theorem d_MO_init_764 : decode prog_8_method_1_code 764 = .ok (.aload_n 0, 1) := by decide +kernel
theorem d_MO_init_765 : decode prog_8_method_1_code 765 = .ok (.getfield 33, 3) := by decide +kernel
theorem d_MO_init_768 : decode prog_8_method_1_code 768 = .ok (.iconst 3, 1) := by decide +kernel
theorem d_MO_init_769 : decode prog_8_method_1_code 769 = .ok (.ldc2_w 185, 3) := by decide +kernel
theorem d_MO_init_772 : decode prog_8_method_1_code 772 = .ok (.lastore, 1) := by decide +kernel
theorem d_MO_init_773 : decode prog_8_method_1_code 773 = .ok (.aload_n 0, 1) := by decide +kernel
theorem d_MO_init_774 : decode prog_8_method_1_code 774 = .ok (.getfield 33, 3) := by decide +kernel
theorem d_MO_init_777 : decode prog_8_method_1_code 777 = .ok (.iconst 4, 1) := by decide +kernel
theorem d_MO_init_778 : decode prog_8_method_1_code 778 = .ok (.ldc2_w 187, 3) := by decide +kernel
theorem d_MO_init_781 : decode prog_8_method_1_code 781 = .ok (.lastore, 1) := by decide +kernel
theorem d_MO_init_782 : decode prog_8_method_1_code 782 = .ok (.aload_n 0, 1) := by decide +kernel
theorem d_MO_init_783 : decode prog_8_method_1_code 783 = .ok (.getfield 33, 3) := by decide +kernel
theorem d_MO_init_786 : decode prog_8_method_1_code 786 = .ok (.iconst 5, 1) := by decide +kernel
theorem d_MO_init_787 : decode prog_8_method_1_code 787 = .ok (.ldc2_w 189, 3) := by decide +kernel
theorem d_MO_init_790 : decode prog_8_method_1_code 790 = .ok (.lastore, 1) := by decide +kernel
theorem d_MO_init_791 : decode prog_8_method_1_code 791 = .ok (.aload_n 0, 1) := by decide +kernel
theorem d_MO_init_792 : decode prog_8_method_1_code 792 = .ok (.getfield 33, 3) := by decide +kernel
theorem d_MO_init_795 : decode prog_8_method_1_code 795 = .ok (.bipush 6, 2) := by decide +kernel
theorem d_MO_init_797 : decode prog_8_method_1_code 797 = .ok (.ldc2_w 191, 3) := by decide +kernel
theorem d_MO_init_800 : decode prog_8_method_1_code 800 = .ok (.lastore, 1) := by decide +kernel
theorem d_MO_init_801 : decode prog_8_method_1_code 801 = .ok (.aload_n 0, 1) := by decide +kernel
theorem d_MO_init_802 : decode prog_8_method_1_code 802 = .ok (.getfield 33, 3) := by decide +kernel
theorem d_MO_init_805 : decode prog_8_method_1_code 805 = .ok (.bipush 7, 2) := by decide +kernel
theorem d_MO_init_807 : decode prog_8_method_1_code 807 = .ok (.ldc2_w 193, 3) := by decide +kernel
theorem d_MO_init_810 : decode prog_8_method_1_code 810 = .ok (.lastore, 1) := by decide +kernel
theorem d_MO_init_811 : decode prog_8_method_1_code 811 = .ok (.aload_n 0, 1) := by decide +kernel
theorem d_MO_init_812 : decode prog_8_method_1_code 812 = .ok (.getfield 16, 3) := by decide +kernel
theorem d_MO_init_815 : decode prog_8_method_1_code 815 = .ok (.iconst 0, 1) := by decide +kernel
theorem d_MO_init_816 : decode prog_8_method_1_code 816 = .ok (.iconst (-1), 1) := by decide +kernel
theorem d_MO_init_817 : decode prog_8_method_1_code 817 = .ok (.iastore, 1) := by decide +kernel
theorem d_MO_init_818 : decode prog_8_method_1_code 818 = .ok (.aload_n 0, 1) := by decide +kernel
theorem d_MO_init_819 : decode prog_8_method_1_code 819 = .ok (.getfield 16, 3) := by decide +kernel
theorem d_MO_init_822 : decode prog_8_method_1_code 822 = .ok (.iconst 1, 1) := by decide +kernel
theorem d_MO_init_823 : decode prog_8_method_1_code 823 = .ok (.iconst (-1), 1) := by decide +kernel
theorem d_MO_init_824 : decode prog_8_method_1_code 824 = .ok (.iastore, 1) := by decide +kernel
theorem d_MO_init_825 : decode prog_8_method_1_code 825 = .ok (.return_, 1) := by decide +kernel
def y_MO_init : MethodName := ⟨"BootChainModel", "<init>", "()V"⟩
def ws_MO_init : List Cond := .code y_MO_init prog_8_method_1_code 1 none :: bc_G
def mo_k_3 : Nat → Int32 := (upd (upd (fun _ => 0) ((0 : Int32)).toNatClampNeg (-1 : Int32)) ((1 : Int32)).toNatClampNeg (-1 : Int32))
def mo_k_6 : Nat → Int64 := (vp_updL (vp_updL (vp_updL (vp_updL (vp_updL (vp_updL (vp_updL (vp_updL (vp_updL (vp_updL (vp_updL (vp_updL (vp_updL (vp_updL (vp_updL (vp_updL (vp_updL (vp_updL (vp_updL (vp_updL (vp_updL (vp_updL (vp_updL (vp_updL (vp_updL (vp_updL (vp_updL (vp_updL (vp_updL (vp_updL (vp_updL (vp_updL (vp_updL (vp_updL (vp_updL (vp_updL (vp_updL (vp_updL (vp_updL (vp_updL (vp_updL (vp_updL (vp_updL (vp_updL (vp_updL (vp_updL (vp_updL (vp_updL (vp_updL (vp_updL (vp_updL (vp_updL (vp_updL (vp_updL (vp_updL (vp_updL (vp_updL (vp_updL (vp_updL (vp_updL (vp_updL (vp_updL (vp_updL (vp_updL (fun _ => 0) ((0 : Int32)).toNatClampNeg (1116352408 : Int64)) ((1 : Int32)).toNatClampNeg (1899447441 : Int64)) ((2 : Int32)).toNatClampNeg (3049323471 : Int64)) ((3 : Int32)).toNatClampNeg (3921009573 : Int64)) ((4 : Int32)).toNatClampNeg (961987163 : Int64)) ((5 : Int32)).toNatClampNeg (1508970993 : Int64)) ((6 : Int32)).toNatClampNeg (2453635748 : Int64)) ((7 : Int32)).toNatClampNeg (2870763221 : Int64)) ((8 : Int32)).toNatClampNeg (3624381080 : Int64)) ((9 : Int32)).toNatClampNeg (310598401 : Int64)) ((10 : Int32)).toNatClampNeg (607225278 : Int64)) ((11 : Int32)).toNatClampNeg (1426881987 : Int64)) ((12 : Int32)).toNatClampNeg (1925078388 : Int64)) ((13 : Int32)).toNatClampNeg (2162078206 : Int64)) ((14 : Int32)).toNatClampNeg (2614888103 : Int64)) ((15 : Int32)).toNatClampNeg (3248222580 : Int64)) ((16 : Int32)).toNatClampNeg (3835390401 : Int64)) ((17 : Int32)).toNatClampNeg (4022224774 : Int64)) ((18 : Int32)).toNatClampNeg (264347078 : Int64)) ((19 : Int32)).toNatClampNeg (604807628 : Int64)) ((20 : Int32)).toNatClampNeg (770255983 : Int64)) ((21 : Int32)).toNatClampNeg (1249150122 : Int64)) ((22 : Int32)).toNatClampNeg (1555081692 : Int64)) ((23 : Int32)).toNatClampNeg (1996064986 : Int64)) ((24 : Int32)).toNatClampNeg (2554220882 : Int64)) ((25 : Int32)).toNatClampNeg (2821834349 : Int64)) ((26 : Int32)).toNatClampNeg (2952996808 : Int64)) ((27 : Int32)).toNatClampNeg (3210313671 : Int64)) ((28 : Int32)).toNatClampNeg (3336571891 : Int64)) ((29 : Int32)).toNatClampNeg (3584528711 : Int64)) ((30 : Int32)).toNatClampNeg (113926993 : Int64)) ((31 : Int32)).toNatClampNeg (338241895 : Int64)) ((32 : Int32)).toNatClampNeg (666307205 : Int64)) ((33 : Int32)).toNatClampNeg (773529912 : Int64)) ((34 : Int32)).toNatClampNeg (1294757372 : Int64)) ((35 : Int32)).toNatClampNeg (1396182291 : Int64)) ((36 : Int32)).toNatClampNeg (1695183700 : Int64)) ((37 : Int32)).toNatClampNeg (1986661051 : Int64)) ((38 : Int32)).toNatClampNeg (2177026350 : Int64)) ((39 : Int32)).toNatClampNeg (2456956037 : Int64)) ((40 : Int32)).toNatClampNeg (2730485921 : Int64)) ((41 : Int32)).toNatClampNeg (2820302411 : Int64)) ((42 : Int32)).toNatClampNeg (3259730800 : Int64)) ((43 : Int32)).toNatClampNeg (3345764771 : Int64)) ((44 : Int32)).toNatClampNeg (3516065817 : Int64)) ((45 : Int32)).toNatClampNeg (3600352804 : Int64)) ((46 : Int32)).toNatClampNeg (4094571909 : Int64)) ((47 : Int32)).toNatClampNeg (275423344 : Int64)) ((48 : Int32)).toNatClampNeg (430227734 : Int64)) ((49 : Int32)).toNatClampNeg (506948616 : Int64)) ((50 : Int32)).toNatClampNeg (659060556 : Int64)) ((51 : Int32)).toNatClampNeg (883997877 : Int64)) ((52 : Int32)).toNatClampNeg (958139571 : Int64)) ((53 : Int32)).toNatClampNeg (1322822218 : Int64)) ((54 : Int32)).toNatClampNeg (1537002063 : Int64)) ((55 : Int32)).toNatClampNeg (1747873779 : Int64)) ((56 : Int32)).toNatClampNeg (1955562222 : Int64)) ((57 : Int32)).toNatClampNeg (2024104815 : Int64)) ((58 : Int32)).toNatClampNeg (2227730452 : Int64)) ((59 : Int32)).toNatClampNeg (2361852424 : Int64)) ((60 : Int32)).toNatClampNeg (2428436474 : Int64)) ((61 : Int32)).toNatClampNeg (2756734187 : Int64)) ((62 : Int32)).toNatClampNeg (3204031479 : Int64)) ((63 : Int32)).toNatClampNeg (3329325298 : Int64))
def mo_k_7 : Nat → Int64 := (vp_updL (vp_updL (vp_updL (vp_updL (vp_updL (vp_updL (vp_updL (vp_updL (fun _ => 0) ((0 : Int32)).toNatClampNeg (1779033703 : Int64)) ((1 : Int32)).toNatClampNeg (3144134277 : Int64)) ((2 : Int32)).toNatClampNeg (1013904242 : Int64)) ((3 : Int32)).toNatClampNeg (2773480762 : Int64)) ((4 : Int32)).toNatClampNeg (1359893119 : Int64)) ((5 : Int32)).toNatClampNeg (2600822924 : Int64)) ((6 : Int32)).toNatClampNeg (528734635 : Int64)) ((7 : Int32)).toNatClampNeg (1541459225 : Int64))
set_option maxHeartbeats 40000000 in
set_option maxRecDepth 100000 in
theorem c_MO_init (l : Launch) (dC : Nat → ClassId) (dI : Nat → Nat → Nat) (cI cJ : ClassId) (h : Nat) (sz : Nat) : Met l y_MO_init ws_MO_init ({ frames := 1, cells := 12, slots := 322, locals := 20 } : Room) (va_Pc [.ref h] (bc_pre (dC, dI) cI cJ [(h, .inr (5, [.int 0, .null, .null, .null, .null, .int 0, .int 0, .int 0, .null, .null, .null, .int 0, .null, .null, .null, .null, .null]))] sz)) (va_Qv (fun (_ : Nat × Nat × Nat × Nat × Nat × Nat × Nat × Nat × Nat × Nat × Nat × Nat) => True) (fun u => bc_post (dC, dI) cI cJ (va_A [(h, .inr (5, [.int 0, .null, .null, .null, .null, .int 0, .int 0, .int 0, .null, .null, .null, .int 0, .null, .null, .null, .null, .null]))] sz) [(h, .inr (5, [.int 0, .ref (u.1), .ref (u.2.1), .ref (u.2.2.1), .ref (u.2.2.2.1), .int (-1 : Int32), .int 0, .int 0, .ref (u.2.2.2.2.1), .ref (u.2.2.2.2.2.1), .ref (u.2.2.2.2.2.2.1), .int 0, .ref (u.2.2.2.2.2.2.2.1), .ref (u.2.2.2.2.2.2.2.2.1), .ref (u.2.2.2.2.2.2.2.2.2.1), .ref (u.2.2.2.2.2.2.2.2.2.2.1), .ref (u.2.2.2.2.2.2.2.2.2.2.2)])), ((u.1), .inl (cI, 70, .inl (fun _ => 0))), ((u.2.1), .inl (cI, 2, .inl (fun _ => 0))), ((u.2.2.1), .inl (cI, 2, .inl mo_k_3)), ((u.2.2.2.1), .inl (cI, 16, .inl (fun _ => 0))), ((u.2.2.2.2.1), .inl (cI, 24, .inl (fun _ => 0))), ((u.2.2.2.2.2.1), .inl (cJ, 64, .inr (.inl mo_k_6))), ((u.2.2.2.2.2.2.1), .inl (cJ, 8, .inr (.inl mo_k_7))), ((u.2.2.2.2.2.2.2.1), .inl (cJ, 48, .inr (.inl (fun _ => 0)))), ((u.2.2.2.2.2.2.2.2.1), .inl (cJ, 64, .inr (.inl (fun _ => 0)))), ((u.2.2.2.2.2.2.2.2.2.1), .inl (cJ, 8, .inr (.inl (fun _ => 0)))), ((u.2.2.2.2.2.2.2.2.2.2.1), .inl (cJ, 8, .inr (.inl (fun _ => 0)))), ((u.2.2.2.2.2.2.2.2.2.2.2), .inl (cI, 8, .inl (fun _ => 0)))]) (va_A [(h, .inr (5, [.int 0, .null, .null, .null, .null, .int 0, .int 0, .int 0, .null, .null, .null, .int 0, .null, .null, .null, .null, .null]))] sz)) 12 322 (va_A [(h, .inr (5, [.int 0, .null, .null, .null, .null, .int 0, .int 0, .int 0, .null, .null, .null, .int 0, .null, .null, .null, .null, .null]))] sz) := by
  refine Met.ofW (cc := prog_8_method_1_code) (maxL := 1) (ret := none) (by decide) rfl ?_
  intro p e s m args below meth c s₁ B hml hv
  obtain ⟨rfl, hsz, hP, hK, hD0, hE⟩ := hv
  have hx := B.exec
  have hb := B.bytes
  have hr := B.returns
  have hts : ∀ w ∈ bc_G, w.before ([.ref h] : List Value).toArray s = true := fun w h => atoms_spec (ws := ws_MO_init) B.pre w (List.mem_cons_of_mem _ h)
  have hown : s.vm.findClass "BootChainModel" = some m.cls := findClass_of_methodNamed B.named
  have hlocks := B.notSynchronized
  have hin : meth.name = "<init>" := (name_of_methodNamed B.named B.method).1
  subst hsz
  have hD := hD0.self (sz := s.heap.size)
  generalize hAe : va_A [(h, .inr (5, [.int 0, .null, .null, .null, .null, .int 0, .int 0, .int 0, .null, .null, .null, .int 0, .null, .null, .null, .null, .null]))] s.heap.size = A at hD hE ⊢
  have hA : ∀ q : Nat, s.heap.size ≤ q → A q := fun q h => by rw [← hAe]; exact Or.inr h
  have hS : va_S A s.heap s.heap [] := va_S.rf
  have hl := lv_entry ([.ref h]) (n := 1) (Nat.le_of_ble_eq_true rfl)
  rw [lg_entry_eq]
  generalize (lg_sl ([.ref h]) ++ List.replicate (1 - (lg_sl ([.ref h])).length) Slot.unset).toArray = ls at hl ⊢
  have hl : lv_has ls 1 [(0, .ref h)] := hl
  refine lv_aload_n hx hb d_MO_init_0 rfl (lv_at hl 0 rfl) ?_
  refine W.objInit hx hb hown (hts _ gw_445) (hts _ gw_20) (hts _ gw_21) rfl (by rw [hml]; exact hl.1) rfl d_MO_init_1 (Nat.le_of_ble_eq_true rfl) (Nat.le_of_ble_eq_true rfl) ?_
  refine W.eq (g2 := F0 m 4 ls []) rfl ?_
  refine lv_aload_n hx hb d_MO_init_4 rfl (lv_at hl 0 rfl) ?_
  refine lv_bipush (v := 70) hx hb d_MO_init_5 (by decide) ?_
  refine va_newa (atype := .int) (ty := .int) (a0 := (70, .inl (fun _ => 0))) hx hb (hts _ gw_32) rfl hK hP hD hS hA (fun _ => rfl) (by decide) (by decide) (by decide) (Nat.le_of_ble_eq_true rfl) (Nat.le_of_ble_eq_true rfl) d_MO_init_7 (fun q7 cA H hK9 hP hD hS => ?_)
  have e9 := bc_sameI hK9
  subst e9
  have hP : va_P (dC, dI) classes [(h, .inr (5, [.int 0, .null, .null, .null, .null, .int 0, .int 0, .int 0, .null, .null, .null, .int 0, .null, .null, .null, .null, .null])), (q7, .inl (cI, 70, .inl (fun _ => 0)))] H := hP
  have hD : va_D A [(h, .inr (5, [.int 0, .null, .null, .null, .null, .int 0, .int 0, .int 0, .null, .null, .null, .int 0, .null, .null, .null, .null, .null])), (q7, .inl (cI, 70, .inl (fun _ => 0)))] := hD
  refine va_putF (D := (dC, dI)) (ci := 5) (v := .ref q7) (ty := (.array .int)) (C := R_MO) (T := F_MO) (N := 17) hx hb hts in_MO t_MO t_MO_ok n_MO hown hK hP hD hS 0 rfl rfl 1 (by decide) (hts _ gw_519) (fun _ h9 => h9) rfl hin rfl (by decide +kernel) rfl rfl (Nat.le_of_ble_eq_true rfl) d_MO_init_9 (fun H locs hP hD hS => ?_)
  have hP : va_P (dC, dI) classes [(h, .inr (5, [.int 0, .ref q7, .null, .null, .null, .int 0, .int 0, .int 0, .null, .null, .null, .int 0, .null, .null, .null, .null, .null])), (q7, .inl (cI, 70, .inl (fun _ => 0)))] H := hP
  have hD : va_D A [(h, .inr (5, [.int 0, .ref q7, .null, .null, .null, .int 0, .int 0, .int 0, .null, .null, .null, .int 0, .null, .null, .null, .null, .null])), (q7, .inl (cI, 70, .inl (fun _ => 0)))] := hD
  refine lv_aload_n hx hb d_MO_init_12 rfl (lv_at hl 0 rfl) ?_
  refine lv_iconst (v := 2) hx hb d_MO_init_13 (by decide) ?_
  refine va_newa (atype := .int) (ty := .int) (a0 := (2, .inl (fun _ => 0))) hx hb (hts _ gw_32) rfl hK hP hD hS hA (fun _ => rfl) (by decide) (by decide) (by decide) (Nat.le_of_ble_eq_true rfl) (Nat.le_of_ble_eq_true rfl) d_MO_init_14 (fun q14 cA H hK9 hP hD hS => ?_)
  have e9 := bc_sameI hK9
  subst e9
  have hP : va_P (dC, dI) classes [(h, .inr (5, [.int 0, .ref q7, .null, .null, .null, .int 0, .int 0, .int 0, .null, .null, .null, .int 0, .null, .null, .null, .null, .null])), (q7, .inl (cI, 70, .inl (fun _ => 0))), (q14, .inl (cI, 2, .inl (fun _ => 0)))] H := hP
  have hD : va_D A [(h, .inr (5, [.int 0, .ref q7, .null, .null, .null, .int 0, .int 0, .int 0, .null, .null, .null, .int 0, .null, .null, .null, .null, .null])), (q7, .inl (cI, 70, .inl (fun _ => 0))), (q14, .inl (cI, 2, .inl (fun _ => 0)))] := hD
  refine va_putF (D := (dC, dI)) (ci := 5) (v := .ref q14) (ty := (.array .int)) (C := R_MO) (T := F_MO) (N := 17) hx hb hts in_MO t_MO t_MO_ok n_MO hown hK hP hD hS 0 rfl rfl 2 (by decide) (hts _ gw_520) (fun _ h9 => h9) rfl hin rfl (by decide +kernel) rfl rfl (Nat.le_of_ble_eq_true rfl) d_MO_init_16 (fun H locs hP hD hS => ?_)
  have hP : va_P (dC, dI) classes [(h, .inr (5, [.int 0, .ref q7, .ref q14, .null, .null, .int 0, .int 0, .int 0, .null, .null, .null, .int 0, .null, .null, .null, .null, .null])), (q7, .inl (cI, 70, .inl (fun _ => 0))), (q14, .inl (cI, 2, .inl (fun _ => 0)))] H := hP
  have hD : va_D A [(h, .inr (5, [.int 0, .ref q7, .ref q14, .null, .null, .int 0, .int 0, .int 0, .null, .null, .null, .int 0, .null, .null, .null, .null, .null])), (q7, .inl (cI, 70, .inl (fun _ => 0))), (q14, .inl (cI, 2, .inl (fun _ => 0)))] := hD
  refine lv_aload_n hx hb d_MO_init_19 rfl (lv_at hl 0 rfl) ?_
  refine lv_iconst (v := 2) hx hb d_MO_init_20 (by decide) ?_
  refine va_newa (atype := .int) (ty := .int) (a0 := (2, .inl (fun _ => 0))) hx hb (hts _ gw_32) rfl hK hP hD hS hA (fun _ => rfl) (by decide) (by decide) (by decide) (Nat.le_of_ble_eq_true rfl) (Nat.le_of_ble_eq_true rfl) d_MO_init_21 (fun q21 cA H hK9 hP hD hS => ?_)
  have e9 := bc_sameI hK9
  subst e9
  have hP : va_P (dC, dI) classes [(h, .inr (5, [.int 0, .ref q7, .ref q14, .null, .null, .int 0, .int 0, .int 0, .null, .null, .null, .int 0, .null, .null, .null, .null, .null])), (q7, .inl (cI, 70, .inl (fun _ => 0))), (q14, .inl (cI, 2, .inl (fun _ => 0))), (q21, .inl (cI, 2, .inl (fun _ => 0)))] H := hP
  have hD : va_D A [(h, .inr (5, [.int 0, .ref q7, .ref q14, .null, .null, .int 0, .int 0, .int 0, .null, .null, .null, .int 0, .null, .null, .null, .null, .null])), (q7, .inl (cI, 70, .inl (fun _ => 0))), (q14, .inl (cI, 2, .inl (fun _ => 0))), (q21, .inl (cI, 2, .inl (fun _ => 0)))] := hD
  refine va_putF (D := (dC, dI)) (ci := 5) (v := .ref q21) (ty := (.array .int)) (C := R_MO) (T := F_MO) (N := 17) hx hb hts in_MO t_MO t_MO_ok n_MO hown hK hP hD hS 0 rfl rfl 3 (by decide) (hts _ gw_521) (fun _ h9 => h9) rfl hin rfl (by decide +kernel) rfl rfl (Nat.le_of_ble_eq_true rfl) d_MO_init_23 (fun H locs hP hD hS => ?_)
  have hP : va_P (dC, dI) classes [(h, .inr (5, [.int 0, .ref q7, .ref q14, .ref q21, .null, .int 0, .int 0, .int 0, .null, .null, .null, .int 0, .null, .null, .null, .null, .null])), (q7, .inl (cI, 70, .inl (fun _ => 0))), (q14, .inl (cI, 2, .inl (fun _ => 0))), (q21, .inl (cI, 2, .inl (fun _ => 0)))] H := hP
  have hD : va_D A [(h, .inr (5, [.int 0, .ref q7, .ref q14, .ref q21, .null, .int 0, .int 0, .int 0, .null, .null, .null, .int 0, .null, .null, .null, .null, .null])), (q7, .inl (cI, 70, .inl (fun _ => 0))), (q14, .inl (cI, 2, .inl (fun _ => 0))), (q21, .inl (cI, 2, .inl (fun _ => 0)))] := hD
  refine lv_aload_n hx hb d_MO_init_26 rfl (lv_at hl 0 rfl) ?_
  refine lv_bipush (v := 16) hx hb d_MO_init_27 (by decide) ?_
  refine va_newa (atype := .int) (ty := .int) (a0 := (16, .inl (fun _ => 0))) hx hb (hts _ gw_32) rfl hK hP hD hS hA (fun _ => rfl) (by decide) (by decide) (by decide) (Nat.le_of_ble_eq_true rfl) (Nat.le_of_ble_eq_true rfl) d_MO_init_29 (fun q29 cA H hK9 hP hD hS => ?_)
  have e9 := bc_sameI hK9
  subst e9
  have hP : va_P (dC, dI) classes [(h, .inr (5, [.int 0, .ref q7, .ref q14, .ref q21, .null, .int 0, .int 0, .int 0, .null, .null, .null, .int 0, .null, .null, .null, .null, .null])), (q7, .inl (cI, 70, .inl (fun _ => 0))), (q14, .inl (cI, 2, .inl (fun _ => 0))), (q21, .inl (cI, 2, .inl (fun _ => 0))), (q29, .inl (cI, 16, .inl (fun _ => 0)))] H := hP
  have hD : va_D A [(h, .inr (5, [.int 0, .ref q7, .ref q14, .ref q21, .null, .int 0, .int 0, .int 0, .null, .null, .null, .int 0, .null, .null, .null, .null, .null])), (q7, .inl (cI, 70, .inl (fun _ => 0))), (q14, .inl (cI, 2, .inl (fun _ => 0))), (q21, .inl (cI, 2, .inl (fun _ => 0))), (q29, .inl (cI, 16, .inl (fun _ => 0)))] := hD
  refine va_putF (D := (dC, dI)) (ci := 5) (v := .ref q29) (ty := (.array .int)) (C := R_MO) (T := F_MO) (N := 17) hx hb hts in_MO t_MO t_MO_ok n_MO hown hK hP hD hS 0 rfl rfl 4 (by decide) (hts _ gw_522) (fun _ h9 => h9) rfl hin rfl (by decide +kernel) rfl rfl (Nat.le_of_ble_eq_true rfl) d_MO_init_31 (fun H locs hP hD hS => ?_)
  have hP : va_P (dC, dI) classes [(h, .inr (5, [.int 0, .ref q7, .ref q14, .ref q21, .ref q29, .int 0, .int 0, .int 0, .null, .null, .null, .int 0, .null, .null, .null, .null, .null])), (q7, .inl (cI, 70, .inl (fun _ => 0))), (q14, .inl (cI, 2, .inl (fun _ => 0))), (q21, .inl (cI, 2, .inl (fun _ => 0))), (q29, .inl (cI, 16, .inl (fun _ => 0)))] H := hP
  have hD : va_D A [(h, .inr (5, [.int 0, .ref q7, .ref q14, .ref q21, .ref q29, .int 0, .int 0, .int 0, .null, .null, .null, .int 0, .null, .null, .null, .null, .null])), (q7, .inl (cI, 70, .inl (fun _ => 0))), (q14, .inl (cI, 2, .inl (fun _ => 0))), (q21, .inl (cI, 2, .inl (fun _ => 0))), (q29, .inl (cI, 16, .inl (fun _ => 0)))] := hD
  refine lv_aload_n hx hb d_MO_init_34 rfl (lv_at hl 0 rfl) ?_
  refine lv_iconst (v := (-1)) hx hb d_MO_init_35 (by decide) ?_
  refine va_put (D := (dC, dI)) (ci := 5) (v := .int (-1 : Int32)) (ty := .int) (C := R_MO) (T := F_MO) (N := 17) hx hb hts in_MO t_MO t_MO_ok n_MO hown hK hP hD hS 0 rfl rfl 5 (by decide) (hts _ gw_523) (fun _ h9 => h9) rfl (by decide +kernel) rfl rfl (Nat.le_of_ble_eq_true rfl) d_MO_init_36 (fun H locs hP hD hS => ?_)
  have hP : va_P (dC, dI) classes [(h, .inr (5, [.int 0, .ref q7, .ref q14, .ref q21, .ref q29, .int (-1 : Int32), .int 0, .int 0, .null, .null, .null, .int 0, .null, .null, .null, .null, .null])), (q7, .inl (cI, 70, .inl (fun _ => 0))), (q14, .inl (cI, 2, .inl (fun _ => 0))), (q21, .inl (cI, 2, .inl (fun _ => 0))), (q29, .inl (cI, 16, .inl (fun _ => 0)))] H := hP
  have hD : va_D A [(h, .inr (5, [.int 0, .ref q7, .ref q14, .ref q21, .ref q29, .int (-1 : Int32), .int 0, .int 0, .null, .null, .null, .int 0, .null, .null, .null, .null, .null])), (q7, .inl (cI, 70, .inl (fun _ => 0))), (q14, .inl (cI, 2, .inl (fun _ => 0))), (q21, .inl (cI, 2, .inl (fun _ => 0))), (q29, .inl (cI, 16, .inl (fun _ => 0)))] := hD
  refine lv_aload_n hx hb d_MO_init_39 rfl (lv_at hl 0 rfl) ?_
  refine lv_bipush (v := 24) hx hb d_MO_init_40 (by decide) ?_
  refine va_newa (atype := .int) (ty := .int) (a0 := (24, .inl (fun _ => 0))) hx hb (hts _ gw_32) rfl hK hP hD hS hA (fun _ => rfl) (by decide) (by decide) (by decide) (Nat.le_of_ble_eq_true rfl) (Nat.le_of_ble_eq_true rfl) d_MO_init_42 (fun q42 cA H hK9 hP hD hS => ?_)
  have e9 := bc_sameI hK9
  subst e9
  have hP : va_P (dC, dI) classes [(h, .inr (5, [.int 0, .ref q7, .ref q14, .ref q21, .ref q29, .int (-1 : Int32), .int 0, .int 0, .null, .null, .null, .int 0, .null, .null, .null, .null, .null])), (q7, .inl (cI, 70, .inl (fun _ => 0))), (q14, .inl (cI, 2, .inl (fun _ => 0))), (q21, .inl (cI, 2, .inl (fun _ => 0))), (q29, .inl (cI, 16, .inl (fun _ => 0))), (q42, .inl (cI, 24, .inl (fun _ => 0)))] H := hP
  have hD : va_D A [(h, .inr (5, [.int 0, .ref q7, .ref q14, .ref q21, .ref q29, .int (-1 : Int32), .int 0, .int 0, .null, .null, .null, .int 0, .null, .null, .null, .null, .null])), (q7, .inl (cI, 70, .inl (fun _ => 0))), (q14, .inl (cI, 2, .inl (fun _ => 0))), (q21, .inl (cI, 2, .inl (fun _ => 0))), (q29, .inl (cI, 16, .inl (fun _ => 0))), (q42, .inl (cI, 24, .inl (fun _ => 0)))] := hD
  refine va_putF (D := (dC, dI)) (ci := 5) (v := .ref q42) (ty := (.array .int)) (C := R_MO) (T := F_MO) (N := 17) hx hb hts in_MO t_MO t_MO_ok n_MO hown hK hP hD hS 0 rfl rfl 8 (by decide) (hts _ gw_526) (fun _ h9 => h9) rfl hin rfl (by decide +kernel) rfl rfl (Nat.le_of_ble_eq_true rfl) d_MO_init_44 (fun H locs hP hD hS => ?_)
  have hP : va_P (dC, dI) classes [(h, .inr (5, [.int 0, .ref q7, .ref q14, .ref q21, .ref q29, .int (-1 : Int32), .int 0, .int 0, .ref q42, .null, .null, .int 0, .null, .null, .null, .null, .null])), (q7, .inl (cI, 70, .inl (fun _ => 0))), (q14, .inl (cI, 2, .inl (fun _ => 0))), (q21, .inl (cI, 2, .inl (fun _ => 0))), (q29, .inl (cI, 16, .inl (fun _ => 0))), (q42, .inl (cI, 24, .inl (fun _ => 0)))] H := hP
  have hD : va_D A [(h, .inr (5, [.int 0, .ref q7, .ref q14, .ref q21, .ref q29, .int (-1 : Int32), .int 0, .int 0, .ref q42, .null, .null, .int 0, .null, .null, .null, .null, .null])), (q7, .inl (cI, 70, .inl (fun _ => 0))), (q14, .inl (cI, 2, .inl (fun _ => 0))), (q21, .inl (cI, 2, .inl (fun _ => 0))), (q29, .inl (cI, 16, .inl (fun _ => 0))), (q42, .inl (cI, 24, .inl (fun _ => 0)))] := hD
  refine lv_aload_n hx hb d_MO_init_47 rfl (lv_at hl 0 rfl) ?_
  refine lv_bipush (v := 64) hx hb d_MO_init_48 (by decide) ?_
  refine va_newa (atype := .long) (ty := .long) (a0 := (64, .inr (.inl (fun _ => 0)))) hx hb (hts _ gw_553) rfl hK hP hD hS hA (fun _ => rfl) (by decide) (by decide) (by decide) (Nat.le_of_ble_eq_true rfl) (Nat.le_of_ble_eq_true rfl) d_MO_init_50 (fun q50 cA H hK9 hP hD hS => ?_)
  have e9 := bc_sameJ hK9
  subst e9
  have hP : va_P (dC, dI) classes [(h, .inr (5, [.int 0, .ref q7, .ref q14, .ref q21, .ref q29, .int (-1 : Int32), .int 0, .int 0, .ref q42, .null, .null, .int 0, .null, .null, .null, .null, .null])), (q7, .inl (cI, 70, .inl (fun _ => 0))), (q14, .inl (cI, 2, .inl (fun _ => 0))), (q21, .inl (cI, 2, .inl (fun _ => 0))), (q29, .inl (cI, 16, .inl (fun _ => 0))), (q42, .inl (cI, 24, .inl (fun _ => 0))), (q50, .inl (cJ, 64, .inr (.inl (fun _ => 0))))] H := hP
  have hD : va_D A [(h, .inr (5, [.int 0, .ref q7, .ref q14, .ref q21, .ref q29, .int (-1 : Int32), .int 0, .int 0, .ref q42, .null, .null, .int 0, .null, .null, .null, .null, .null])), (q7, .inl (cI, 70, .inl (fun _ => 0))), (q14, .inl (cI, 2, .inl (fun _ => 0))), (q21, .inl (cI, 2, .inl (fun _ => 0))), (q29, .inl (cI, 16, .inl (fun _ => 0))), (q42, .inl (cI, 24, .inl (fun _ => 0))), (q50, .inl (cJ, 64, .inr (.inl (fun _ => 0))))] := hD
  refine va_putF (D := (dC, dI)) (ci := 5) (v := .ref q50) (ty := (.array .long)) (C := R_MO) (T := F_MO) (N := 17) hx hb hts in_MO t_MO t_MO_ok n_MO hown hK hP hD hS 0 rfl rfl 9 (by decide) (hts _ gw_527) (fun _ h9 => h9) rfl hin rfl (by decide +kernel) rfl rfl (Nat.le_of_ble_eq_true rfl) d_MO_init_52 (fun H locs hP hD hS => ?_)
  have hP : va_P (dC, dI) classes [(h, .inr (5, [.int 0, .ref q7, .ref q14, .ref q21, .ref q29, .int (-1 : Int32), .int 0, .int 0, .ref q42, .ref q50, .null, .int 0, .null, .null, .null, .null, .null])), (q7, .inl (cI, 70, .inl (fun _ => 0))), (q14, .inl (cI, 2, .inl (fun _ => 0))), (q21, .inl (cI, 2, .inl (fun _ => 0))), (q29, .inl (cI, 16, .inl (fun _ => 0))), (q42, .inl (cI, 24, .inl (fun _ => 0))), (q50, .inl (cJ, 64, .inr (.inl (fun _ => 0))))] H := hP
  have hD : va_D A [(h, .inr (5, [.int 0, .ref q7, .ref q14, .ref q21, .ref q29, .int (-1 : Int32), .int 0, .int 0, .ref q42, .ref q50, .null, .int 0, .null, .null, .null, .null, .null])), (q7, .inl (cI, 70, .inl (fun _ => 0))), (q14, .inl (cI, 2, .inl (fun _ => 0))), (q21, .inl (cI, 2, .inl (fun _ => 0))), (q29, .inl (cI, 16, .inl (fun _ => 0))), (q42, .inl (cI, 24, .inl (fun _ => 0))), (q50, .inl (cJ, 64, .inr (.inl (fun _ => 0))))] := hD
  refine lv_aload_n hx hb d_MO_init_55 rfl (lv_at hl 0 rfl) ?_
  refine lv_bipush (v := 8) hx hb d_MO_init_56 (by decide) ?_
  refine va_newa (atype := .long) (ty := .long) (a0 := (8, .inr (.inl (fun _ => 0)))) hx hb (hts _ gw_553) rfl hK hP hD hS hA (fun _ => rfl) (by decide) (by decide) (by decide) (Nat.le_of_ble_eq_true rfl) (Nat.le_of_ble_eq_true rfl) d_MO_init_58 (fun q58 cA H hK9 hP hD hS => ?_)
  have e9 := bc_sameJ hK9
  subst e9
  have hP : va_P (dC, dI) classes [(h, .inr (5, [.int 0, .ref q7, .ref q14, .ref q21, .ref q29, .int (-1 : Int32), .int 0, .int 0, .ref q42, .ref q50, .null, .int 0, .null, .null, .null, .null, .null])), (q7, .inl (cI, 70, .inl (fun _ => 0))), (q14, .inl (cI, 2, .inl (fun _ => 0))), (q21, .inl (cI, 2, .inl (fun _ => 0))), (q29, .inl (cI, 16, .inl (fun _ => 0))), (q42, .inl (cI, 24, .inl (fun _ => 0))), (q50, .inl (cJ, 64, .inr (.inl (fun _ => 0)))), (q58, .inl (cJ, 8, .inr (.inl (fun _ => 0))))] H := hP
  have hD : va_D A [(h, .inr (5, [.int 0, .ref q7, .ref q14, .ref q21, .ref q29, .int (-1 : Int32), .int 0, .int 0, .ref q42, .ref q50, .null, .int 0, .null, .null, .null, .null, .null])), (q7, .inl (cI, 70, .inl (fun _ => 0))), (q14, .inl (cI, 2, .inl (fun _ => 0))), (q21, .inl (cI, 2, .inl (fun _ => 0))), (q29, .inl (cI, 16, .inl (fun _ => 0))), (q42, .inl (cI, 24, .inl (fun _ => 0))), (q50, .inl (cJ, 64, .inr (.inl (fun _ => 0)))), (q58, .inl (cJ, 8, .inr (.inl (fun _ => 0))))] := hD
  refine va_putF (D := (dC, dI)) (ci := 5) (v := .ref q58) (ty := (.array .long)) (C := R_MO) (T := F_MO) (N := 17) hx hb hts in_MO t_MO t_MO_ok n_MO hown hK hP hD hS 0 rfl rfl 10 (by decide) (hts _ gw_528) (fun _ h9 => h9) rfl hin rfl (by decide +kernel) rfl rfl (Nat.le_of_ble_eq_true rfl) d_MO_init_60 (fun H locs hP hD hS => ?_)
  have hP : va_P (dC, dI) classes [(h, .inr (5, [.int 0, .ref q7, .ref q14, .ref q21, .ref q29, .int (-1 : Int32), .int 0, .int 0, .ref q42, .ref q50, .ref q58, .int 0, .null, .null, .null, .null, .null])), (q7, .inl (cI, 70, .inl (fun _ => 0))), (q14, .inl (cI, 2, .inl (fun _ => 0))), (q21, .inl (cI, 2, .inl (fun _ => 0))), (q29, .inl (cI, 16, .inl (fun _ => 0))), (q42, .inl (cI, 24, .inl (fun _ => 0))), (q50, .inl (cJ, 64, .inr (.inl (fun _ => 0)))), (q58, .inl (cJ, 8, .inr (.inl (fun _ => 0))))] H := hP
  have hD : va_D A [(h, .inr (5, [.int 0, .ref q7, .ref q14, .ref q21, .ref q29, .int (-1 : Int32), .int 0, .int 0, .ref q42, .ref q50, .ref q58, .int 0, .null, .null, .null, .null, .null])), (q7, .inl (cI, 70, .inl (fun _ => 0))), (q14, .inl (cI, 2, .inl (fun _ => 0))), (q21, .inl (cI, 2, .inl (fun _ => 0))), (q29, .inl (cI, 16, .inl (fun _ => 0))), (q42, .inl (cI, 24, .inl (fun _ => 0))), (q50, .inl (cJ, 64, .inr (.inl (fun _ => 0)))), (q58, .inl (cJ, 8, .inr (.inl (fun _ => 0))))] := hD
  refine lv_aload_n hx hb d_MO_init_63 rfl (lv_at hl 0 rfl) ?_
  refine lv_bipush (v := 48) hx hb d_MO_init_64 (by decide) ?_
  refine va_newa (atype := .long) (ty := .long) (a0 := (48, .inr (.inl (fun _ => 0)))) hx hb (hts _ gw_553) rfl hK hP hD hS hA (fun _ => rfl) (by decide) (by decide) (by decide) (Nat.le_of_ble_eq_true rfl) (Nat.le_of_ble_eq_true rfl) d_MO_init_66 (fun q66 cA H hK9 hP hD hS => ?_)
  have e9 := bc_sameJ hK9
  subst e9
  have hP : va_P (dC, dI) classes [(h, .inr (5, [.int 0, .ref q7, .ref q14, .ref q21, .ref q29, .int (-1 : Int32), .int 0, .int 0, .ref q42, .ref q50, .ref q58, .int 0, .null, .null, .null, .null, .null])), (q7, .inl (cI, 70, .inl (fun _ => 0))), (q14, .inl (cI, 2, .inl (fun _ => 0))), (q21, .inl (cI, 2, .inl (fun _ => 0))), (q29, .inl (cI, 16, .inl (fun _ => 0))), (q42, .inl (cI, 24, .inl (fun _ => 0))), (q50, .inl (cJ, 64, .inr (.inl (fun _ => 0)))), (q58, .inl (cJ, 8, .inr (.inl (fun _ => 0)))), (q66, .inl (cJ, 48, .inr (.inl (fun _ => 0))))] H := hP
  have hD : va_D A [(h, .inr (5, [.int 0, .ref q7, .ref q14, .ref q21, .ref q29, .int (-1 : Int32), .int 0, .int 0, .ref q42, .ref q50, .ref q58, .int 0, .null, .null, .null, .null, .null])), (q7, .inl (cI, 70, .inl (fun _ => 0))), (q14, .inl (cI, 2, .inl (fun _ => 0))), (q21, .inl (cI, 2, .inl (fun _ => 0))), (q29, .inl (cI, 16, .inl (fun _ => 0))), (q42, .inl (cI, 24, .inl (fun _ => 0))), (q50, .inl (cJ, 64, .inr (.inl (fun _ => 0)))), (q58, .inl (cJ, 8, .inr (.inl (fun _ => 0)))), (q66, .inl (cJ, 48, .inr (.inl (fun _ => 0))))] := hD
  refine va_putF (D := (dC, dI)) (ci := 5) (v := .ref q66) (ty := (.array .long)) (C := R_MO) (T := F_MO) (N := 17) hx hb hts in_MO t_MO t_MO_ok n_MO hown hK hP hD hS 0 rfl rfl 12 (by decide) (hts _ gw_530) (fun _ h9 => h9) rfl hin rfl (by decide +kernel) rfl rfl (Nat.le_of_ble_eq_true rfl) d_MO_init_68 (fun H locs hP hD hS => ?_)
  have hP : va_P (dC, dI) classes [(h, .inr (5, [.int 0, .ref q7, .ref q14, .ref q21, .ref q29, .int (-1 : Int32), .int 0, .int 0, .ref q42, .ref q50, .ref q58, .int 0, .ref q66, .null, .null, .null, .null])), (q7, .inl (cI, 70, .inl (fun _ => 0))), (q14, .inl (cI, 2, .inl (fun _ => 0))), (q21, .inl (cI, 2, .inl (fun _ => 0))), (q29, .inl (cI, 16, .inl (fun _ => 0))), (q42, .inl (cI, 24, .inl (fun _ => 0))), (q50, .inl (cJ, 64, .inr (.inl (fun _ => 0)))), (q58, .inl (cJ, 8, .inr (.inl (fun _ => 0)))), (q66, .inl (cJ, 48, .inr (.inl (fun _ => 0))))] H := hP
  have hD : va_D A [(h, .inr (5, [.int 0, .ref q7, .ref q14, .ref q21, .ref q29, .int (-1 : Int32), .int 0, .int 0, .ref q42, .ref q50, .ref q58, .int 0, .ref q66, .null, .null, .null, .null])), (q7, .inl (cI, 70, .inl (fun _ => 0))), (q14, .inl (cI, 2, .inl (fun _ => 0))), (q21, .inl (cI, 2, .inl (fun _ => 0))), (q29, .inl (cI, 16, .inl (fun _ => 0))), (q42, .inl (cI, 24, .inl (fun _ => 0))), (q50, .inl (cJ, 64, .inr (.inl (fun _ => 0)))), (q58, .inl (cJ, 8, .inr (.inl (fun _ => 0)))), (q66, .inl (cJ, 48, .inr (.inl (fun _ => 0))))] := hD
  refine lv_aload_n hx hb d_MO_init_71 rfl (lv_at hl 0 rfl) ?_
  refine lv_bipush (v := 64) hx hb d_MO_init_72 (by decide) ?_
  refine va_newa (atype := .long) (ty := .long) (a0 := (64, .inr (.inl (fun _ => 0)))) hx hb (hts _ gw_553) rfl hK hP hD hS hA (fun _ => rfl) (by decide) (by decide) (by decide) (Nat.le_of_ble_eq_true rfl) (Nat.le_of_ble_eq_true rfl) d_MO_init_74 (fun q74 cA H hK9 hP hD hS => ?_)
  have e9 := bc_sameJ hK9
  subst e9
  have hP : va_P (dC, dI) classes [(h, .inr (5, [.int 0, .ref q7, .ref q14, .ref q21, .ref q29, .int (-1 : Int32), .int 0, .int 0, .ref q42, .ref q50, .ref q58, .int 0, .ref q66, .null, .null, .null, .null])), (q7, .inl (cI, 70, .inl (fun _ => 0))), (q14, .inl (cI, 2, .inl (fun _ => 0))), (q21, .inl (cI, 2, .inl (fun _ => 0))), (q29, .inl (cI, 16, .inl (fun _ => 0))), (q42, .inl (cI, 24, .inl (fun _ => 0))), (q50, .inl (cJ, 64, .inr (.inl (fun _ => 0)))), (q58, .inl (cJ, 8, .inr (.inl (fun _ => 0)))), (q66, .inl (cJ, 48, .inr (.inl (fun _ => 0)))), (q74, .inl (cJ, 64, .inr (.inl (fun _ => 0))))] H := hP
  have hD : va_D A [(h, .inr (5, [.int 0, .ref q7, .ref q14, .ref q21, .ref q29, .int (-1 : Int32), .int 0, .int 0, .ref q42, .ref q50, .ref q58, .int 0, .ref q66, .null, .null, .null, .null])), (q7, .inl (cI, 70, .inl (fun _ => 0))), (q14, .inl (cI, 2, .inl (fun _ => 0))), (q21, .inl (cI, 2, .inl (fun _ => 0))), (q29, .inl (cI, 16, .inl (fun _ => 0))), (q42, .inl (cI, 24, .inl (fun _ => 0))), (q50, .inl (cJ, 64, .inr (.inl (fun _ => 0)))), (q58, .inl (cJ, 8, .inr (.inl (fun _ => 0)))), (q66, .inl (cJ, 48, .inr (.inl (fun _ => 0)))), (q74, .inl (cJ, 64, .inr (.inl (fun _ => 0))))] := hD
  refine va_putF (D := (dC, dI)) (ci := 5) (v := .ref q74) (ty := (.array .long)) (C := R_MO) (T := F_MO) (N := 17) hx hb hts in_MO t_MO t_MO_ok n_MO hown hK hP hD hS 0 rfl rfl 13 (by decide) (hts _ gw_531) (fun _ h9 => h9) rfl hin rfl (by decide +kernel) rfl rfl (Nat.le_of_ble_eq_true rfl) d_MO_init_76 (fun H locs hP hD hS => ?_)
  have hP : va_P (dC, dI) classes [(h, .inr (5, [.int 0, .ref q7, .ref q14, .ref q21, .ref q29, .int (-1 : Int32), .int 0, .int 0, .ref q42, .ref q50, .ref q58, .int 0, .ref q66, .ref q74, .null, .null, .null])), (q7, .inl (cI, 70, .inl (fun _ => 0))), (q14, .inl (cI, 2, .inl (fun _ => 0))), (q21, .inl (cI, 2, .inl (fun _ => 0))), (q29, .inl (cI, 16, .inl (fun _ => 0))), (q42, .inl (cI, 24, .inl (fun _ => 0))), (q50, .inl (cJ, 64, .inr (.inl (fun _ => 0)))), (q58, .inl (cJ, 8, .inr (.inl (fun _ => 0)))), (q66, .inl (cJ, 48, .inr (.inl (fun _ => 0)))), (q74, .inl (cJ, 64, .inr (.inl (fun _ => 0))))] H := hP
  have hD : va_D A [(h, .inr (5, [.int 0, .ref q7, .ref q14, .ref q21, .ref q29, .int (-1 : Int32), .int 0, .int 0, .ref q42, .ref q50, .ref q58, .int 0, .ref q66, .ref q74, .null, .null, .null])), (q7, .inl (cI, 70, .inl (fun _ => 0))), (q14, .inl (cI, 2, .inl (fun _ => 0))), (q21, .inl (cI, 2, .inl (fun _ => 0))), (q29, .inl (cI, 16, .inl (fun _ => 0))), (q42, .inl (cI, 24, .inl (fun _ => 0))), (q50, .inl (cJ, 64, .inr (.inl (fun _ => 0)))), (q58, .inl (cJ, 8, .inr (.inl (fun _ => 0)))), (q66, .inl (cJ, 48, .inr (.inl (fun _ => 0)))), (q74, .inl (cJ, 64, .inr (.inl (fun _ => 0))))] := hD
  refine lv_aload_n hx hb d_MO_init_79 rfl (lv_at hl 0 rfl) ?_
  refine lv_bipush (v := 8) hx hb d_MO_init_80 (by decide) ?_
  refine va_newa (atype := .long) (ty := .long) (a0 := (8, .inr (.inl (fun _ => 0)))) hx hb (hts _ gw_553) rfl hK hP hD hS hA (fun _ => rfl) (by decide) (by decide) (by decide) (Nat.le_of_ble_eq_true rfl) (Nat.le_of_ble_eq_true rfl) d_MO_init_82 (fun q82 cA H hK9 hP hD hS => ?_)
  have e9 := bc_sameJ hK9
  subst e9
  have hP : va_P (dC, dI) classes [(h, .inr (5, [.int 0, .ref q7, .ref q14, .ref q21, .ref q29, .int (-1 : Int32), .int 0, .int 0, .ref q42, .ref q50, .ref q58, .int 0, .ref q66, .ref q74, .null, .null, .null])), (q7, .inl (cI, 70, .inl (fun _ => 0))), (q14, .inl (cI, 2, .inl (fun _ => 0))), (q21, .inl (cI, 2, .inl (fun _ => 0))), (q29, .inl (cI, 16, .inl (fun _ => 0))), (q42, .inl (cI, 24, .inl (fun _ => 0))), (q50, .inl (cJ, 64, .inr (.inl (fun _ => 0)))), (q58, .inl (cJ, 8, .inr (.inl (fun _ => 0)))), (q66, .inl (cJ, 48, .inr (.inl (fun _ => 0)))), (q74, .inl (cJ, 64, .inr (.inl (fun _ => 0)))), (q82, .inl (cJ, 8, .inr (.inl (fun _ => 0))))] H := hP
  have hD : va_D A [(h, .inr (5, [.int 0, .ref q7, .ref q14, .ref q21, .ref q29, .int (-1 : Int32), .int 0, .int 0, .ref q42, .ref q50, .ref q58, .int 0, .ref q66, .ref q74, .null, .null, .null])), (q7, .inl (cI, 70, .inl (fun _ => 0))), (q14, .inl (cI, 2, .inl (fun _ => 0))), (q21, .inl (cI, 2, .inl (fun _ => 0))), (q29, .inl (cI, 16, .inl (fun _ => 0))), (q42, .inl (cI, 24, .inl (fun _ => 0))), (q50, .inl (cJ, 64, .inr (.inl (fun _ => 0)))), (q58, .inl (cJ, 8, .inr (.inl (fun _ => 0)))), (q66, .inl (cJ, 48, .inr (.inl (fun _ => 0)))), (q74, .inl (cJ, 64, .inr (.inl (fun _ => 0)))), (q82, .inl (cJ, 8, .inr (.inl (fun _ => 0))))] := hD
  refine va_putF (D := (dC, dI)) (ci := 5) (v := .ref q82) (ty := (.array .long)) (C := R_MO) (T := F_MO) (N := 17) hx hb hts in_MO t_MO t_MO_ok n_MO hown hK hP hD hS 0 rfl rfl 14 (by decide) (hts _ gw_532) (fun _ h9 => h9) rfl hin rfl (by decide +kernel) rfl rfl (Nat.le_of_ble_eq_true rfl) d_MO_init_84 (fun H locs hP hD hS => ?_)
  have hP : va_P (dC, dI) classes [(h, .inr (5, [.int 0, .ref q7, .ref q14, .ref q21, .ref q29, .int (-1 : Int32), .int 0, .int 0, .ref q42, .ref q50, .ref q58, .int 0, .ref q66, .ref q74, .ref q82, .null, .null])), (q7, .inl (cI, 70, .inl (fun _ => 0))), (q14, .inl (cI, 2, .inl (fun _ => 0))), (q21, .inl (cI, 2, .inl (fun _ => 0))), (q29, .inl (cI, 16, .inl (fun _ => 0))), (q42, .inl (cI, 24, .inl (fun _ => 0))), (q50, .inl (cJ, 64, .inr (.inl (fun _ => 0)))), (q58, .inl (cJ, 8, .inr (.inl (fun _ => 0)))), (q66, .inl (cJ, 48, .inr (.inl (fun _ => 0)))), (q74, .inl (cJ, 64, .inr (.inl (fun _ => 0)))), (q82, .inl (cJ, 8, .inr (.inl (fun _ => 0))))] H := hP
  have hD : va_D A [(h, .inr (5, [.int 0, .ref q7, .ref q14, .ref q21, .ref q29, .int (-1 : Int32), .int 0, .int 0, .ref q42, .ref q50, .ref q58, .int 0, .ref q66, .ref q74, .ref q82, .null, .null])), (q7, .inl (cI, 70, .inl (fun _ => 0))), (q14, .inl (cI, 2, .inl (fun _ => 0))), (q21, .inl (cI, 2, .inl (fun _ => 0))), (q29, .inl (cI, 16, .inl (fun _ => 0))), (q42, .inl (cI, 24, .inl (fun _ => 0))), (q50, .inl (cJ, 64, .inr (.inl (fun _ => 0)))), (q58, .inl (cJ, 8, .inr (.inl (fun _ => 0)))), (q66, .inl (cJ, 48, .inr (.inl (fun _ => 0)))), (q74, .inl (cJ, 64, .inr (.inl (fun _ => 0)))), (q82, .inl (cJ, 8, .inr (.inl (fun _ => 0))))] := hD
  refine lv_aload_n hx hb d_MO_init_87 rfl (lv_at hl 0 rfl) ?_
  refine lv_bipush (v := 8) hx hb d_MO_init_88 (by decide) ?_
  refine va_newa (atype := .long) (ty := .long) (a0 := (8, .inr (.inl (fun _ => 0)))) hx hb (hts _ gw_553) rfl hK hP hD hS hA (fun _ => rfl) (by decide) (by decide) (by decide) (Nat.le_of_ble_eq_true rfl) (Nat.le_of_ble_eq_true rfl) d_MO_init_90 (fun q90 cA H hK9 hP hD hS => ?_)
  have e9 := bc_sameJ hK9
  subst e9
  have hP : va_P (dC, dI) classes [(h, .inr (5, [.int 0, .ref q7, .ref q14, .ref q21, .ref q29, .int (-1 : Int32), .int 0, .int 0, .ref q42, .ref q50, .ref q58, .int 0, .ref q66, .ref q74, .ref q82, .null, .null])), (q7, .inl (cI, 70, .inl (fun _ => 0))), (q14, .inl (cI, 2, .inl (fun _ => 0))), (q21, .inl (cI, 2, .inl (fun _ => 0))), (q29, .inl (cI, 16, .inl (fun _ => 0))), (q42, .inl (cI, 24, .inl (fun _ => 0))), (q50, .inl (cJ, 64, .inr (.inl (fun _ => 0)))), (q58, .inl (cJ, 8, .inr (.inl (fun _ => 0)))), (q66, .inl (cJ, 48, .inr (.inl (fun _ => 0)))), (q74, .inl (cJ, 64, .inr (.inl (fun _ => 0)))), (q82, .inl (cJ, 8, .inr (.inl (fun _ => 0)))), (q90, .inl (cJ, 8, .inr (.inl (fun _ => 0))))] H := hP
  have hD : va_D A [(h, .inr (5, [.int 0, .ref q7, .ref q14, .ref q21, .ref q29, .int (-1 : Int32), .int 0, .int 0, .ref q42, .ref q50, .ref q58, .int 0, .ref q66, .ref q74, .ref q82, .null, .null])), (q7, .inl (cI, 70, .inl (fun _ => 0))), (q14, .inl (cI, 2, .inl (fun _ => 0))), (q21, .inl (cI, 2, .inl (fun _ => 0))), (q29, .inl (cI, 16, .inl (fun _ => 0))), (q42, .inl (cI, 24, .inl (fun _ => 0))), (q50, .inl (cJ, 64, .inr (.inl (fun _ => 0)))), (q58, .inl (cJ, 8, .inr (.inl (fun _ => 0)))), (q66, .inl (cJ, 48, .inr (.inl (fun _ => 0)))), (q74, .inl (cJ, 64, .inr (.inl (fun _ => 0)))), (q82, .inl (cJ, 8, .inr (.inl (fun _ => 0)))), (q90, .inl (cJ, 8, .inr (.inl (fun _ => 0))))] := hD
  refine va_putF (D := (dC, dI)) (ci := 5) (v := .ref q90) (ty := (.array .long)) (C := R_MO) (T := F_MO) (N := 17) hx hb hts in_MO t_MO t_MO_ok n_MO hown hK hP hD hS 0 rfl rfl 15 (by decide) (hts _ gw_533) (fun _ h9 => h9) rfl hin rfl (by decide +kernel) rfl rfl (Nat.le_of_ble_eq_true rfl) d_MO_init_92 (fun H locs hP hD hS => ?_)
  have hP : va_P (dC, dI) classes [(h, .inr (5, [.int 0, .ref q7, .ref q14, .ref q21, .ref q29, .int (-1 : Int32), .int 0, .int 0, .ref q42, .ref q50, .ref q58, .int 0, .ref q66, .ref q74, .ref q82, .ref q90, .null])), (q7, .inl (cI, 70, .inl (fun _ => 0))), (q14, .inl (cI, 2, .inl (fun _ => 0))), (q21, .inl (cI, 2, .inl (fun _ => 0))), (q29, .inl (cI, 16, .inl (fun _ => 0))), (q42, .inl (cI, 24, .inl (fun _ => 0))), (q50, .inl (cJ, 64, .inr (.inl (fun _ => 0)))), (q58, .inl (cJ, 8, .inr (.inl (fun _ => 0)))), (q66, .inl (cJ, 48, .inr (.inl (fun _ => 0)))), (q74, .inl (cJ, 64, .inr (.inl (fun _ => 0)))), (q82, .inl (cJ, 8, .inr (.inl (fun _ => 0)))), (q90, .inl (cJ, 8, .inr (.inl (fun _ => 0))))] H := hP
  have hD : va_D A [(h, .inr (5, [.int 0, .ref q7, .ref q14, .ref q21, .ref q29, .int (-1 : Int32), .int 0, .int 0, .ref q42, .ref q50, .ref q58, .int 0, .ref q66, .ref q74, .ref q82, .ref q90, .null])), (q7, .inl (cI, 70, .inl (fun _ => 0))), (q14, .inl (cI, 2, .inl (fun _ => 0))), (q21, .inl (cI, 2, .inl (fun _ => 0))), (q29, .inl (cI, 16, .inl (fun _ => 0))), (q42, .inl (cI, 24, .inl (fun _ => 0))), (q50, .inl (cJ, 64, .inr (.inl (fun _ => 0)))), (q58, .inl (cJ, 8, .inr (.inl (fun _ => 0)))), (q66, .inl (cJ, 48, .inr (.inl (fun _ => 0)))), (q74, .inl (cJ, 64, .inr (.inl (fun _ => 0)))), (q82, .inl (cJ, 8, .inr (.inl (fun _ => 0)))), (q90, .inl (cJ, 8, .inr (.inl (fun _ => 0))))] := hD
  refine lv_aload_n hx hb d_MO_init_95 rfl (lv_at hl 0 rfl) ?_
  refine lv_bipush (v := 8) hx hb d_MO_init_96 (by decide) ?_
  refine va_newa (atype := .int) (ty := .int) (a0 := (8, .inl (fun _ => 0))) hx hb (hts _ gw_32) rfl hK hP hD hS hA (fun _ => rfl) (by decide) (by decide) (by decide) (Nat.le_of_ble_eq_true rfl) (Nat.le_of_ble_eq_true rfl) d_MO_init_98 (fun q98 cA H hK9 hP hD hS => ?_)
  have e9 := bc_sameI hK9
  subst e9
  have hP : va_P (dC, dI) classes [(h, .inr (5, [.int 0, .ref q7, .ref q14, .ref q21, .ref q29, .int (-1 : Int32), .int 0, .int 0, .ref q42, .ref q50, .ref q58, .int 0, .ref q66, .ref q74, .ref q82, .ref q90, .null])), (q7, .inl (cI, 70, .inl (fun _ => 0))), (q14, .inl (cI, 2, .inl (fun _ => 0))), (q21, .inl (cI, 2, .inl (fun _ => 0))), (q29, .inl (cI, 16, .inl (fun _ => 0))), (q42, .inl (cI, 24, .inl (fun _ => 0))), (q50, .inl (cJ, 64, .inr (.inl (fun _ => 0)))), (q58, .inl (cJ, 8, .inr (.inl (fun _ => 0)))), (q66, .inl (cJ, 48, .inr (.inl (fun _ => 0)))), (q74, .inl (cJ, 64, .inr (.inl (fun _ => 0)))), (q82, .inl (cJ, 8, .inr (.inl (fun _ => 0)))), (q90, .inl (cJ, 8, .inr (.inl (fun _ => 0)))), (q98, .inl (cI, 8, .inl (fun _ => 0)))] H := hP
  have hD : va_D A [(h, .inr (5, [.int 0, .ref q7, .ref q14, .ref q21, .ref q29, .int (-1 : Int32), .int 0, .int 0, .ref q42, .ref q50, .ref q58, .int 0, .ref q66, .ref q74, .ref q82, .ref q90, .null])), (q7, .inl (cI, 70, .inl (fun _ => 0))), (q14, .inl (cI, 2, .inl (fun _ => 0))), (q21, .inl (cI, 2, .inl (fun _ => 0))), (q29, .inl (cI, 16, .inl (fun _ => 0))), (q42, .inl (cI, 24, .inl (fun _ => 0))), (q50, .inl (cJ, 64, .inr (.inl (fun _ => 0)))), (q58, .inl (cJ, 8, .inr (.inl (fun _ => 0)))), (q66, .inl (cJ, 48, .inr (.inl (fun _ => 0)))), (q74, .inl (cJ, 64, .inr (.inl (fun _ => 0)))), (q82, .inl (cJ, 8, .inr (.inl (fun _ => 0)))), (q90, .inl (cJ, 8, .inr (.inl (fun _ => 0)))), (q98, .inl (cI, 8, .inl (fun _ => 0)))] := hD
  refine va_putF (D := (dC, dI)) (ci := 5) (v := .ref q98) (ty := (.array .int)) (C := R_MO) (T := F_MO) (N := 17) hx hb hts in_MO t_MO t_MO_ok n_MO hown hK hP hD hS 0 rfl rfl 16 (by decide) (hts _ gw_534) (fun _ h9 => h9) rfl hin rfl (by decide +kernel) rfl rfl (Nat.le_of_ble_eq_true rfl) d_MO_init_100 (fun H locs hP hD hS => ?_)
  have hP : va_P (dC, dI) classes [(h, .inr (5, [.int 0, .ref q7, .ref q14, .ref q21, .ref q29, .int (-1 : Int32), .int 0, .int 0, .ref q42, .ref q50, .ref q58, .int 0, .ref q66, .ref q74, .ref q82, .ref q90, .ref q98])), (q7, .inl (cI, 70, .inl (fun _ => 0))), (q14, .inl (cI, 2, .inl (fun _ => 0))), (q21, .inl (cI, 2, .inl (fun _ => 0))), (q29, .inl (cI, 16, .inl (fun _ => 0))), (q42, .inl (cI, 24, .inl (fun _ => 0))), (q50, .inl (cJ, 64, .inr (.inl (fun _ => 0)))), (q58, .inl (cJ, 8, .inr (.inl (fun _ => 0)))), (q66, .inl (cJ, 48, .inr (.inl (fun _ => 0)))), (q74, .inl (cJ, 64, .inr (.inl (fun _ => 0)))), (q82, .inl (cJ, 8, .inr (.inl (fun _ => 0)))), (q90, .inl (cJ, 8, .inr (.inl (fun _ => 0)))), (q98, .inl (cI, 8, .inl (fun _ => 0)))] H := hP
  have hD : va_D A [(h, .inr (5, [.int 0, .ref q7, .ref q14, .ref q21, .ref q29, .int (-1 : Int32), .int 0, .int 0, .ref q42, .ref q50, .ref q58, .int 0, .ref q66, .ref q74, .ref q82, .ref q90, .ref q98])), (q7, .inl (cI, 70, .inl (fun _ => 0))), (q14, .inl (cI, 2, .inl (fun _ => 0))), (q21, .inl (cI, 2, .inl (fun _ => 0))), (q29, .inl (cI, 16, .inl (fun _ => 0))), (q42, .inl (cI, 24, .inl (fun _ => 0))), (q50, .inl (cJ, 64, .inr (.inl (fun _ => 0)))), (q58, .inl (cJ, 8, .inr (.inl (fun _ => 0)))), (q66, .inl (cJ, 48, .inr (.inl (fun _ => 0)))), (q74, .inl (cJ, 64, .inr (.inl (fun _ => 0)))), (q82, .inl (cJ, 8, .inr (.inl (fun _ => 0)))), (q90, .inl (cJ, 8, .inr (.inl (fun _ => 0)))), (q98, .inl (cI, 8, .inl (fun _ => 0)))] := hD
  refine lv_aload_n hx hb d_MO_init_103 rfl (lv_at hl 0 rfl) ?_
  refine va_get (D := (dC, dI)) (ci := 5) (v := .ref q50) (C := R_MO) (T := F_MO) (N := 17) hx hb hts in_MO hown hK hP 0 rfl rfl 9 (by decide) (hts _ gw_527) (fun _ h9 => h9) rfl d_MO_init_104 ?_
  refine lv_iconst (v := 0) hx hb d_MO_init_107 (by decide) ?_
  refine lv_ldc2 (v := 1116352408) hx hb hown (hts _ gw_446) d_MO_init_108 ?_
  refine va_last hx hb hK hP hD hS 6 1 rfl rfl (by unfold vp_in; decide +kernel) d_MO_init_111 (fun H locs hP hD hS => ?_)
  generalize hg111 : (vp_updL (fun _ => 0) ((0 : Int32)).toNatClampNeg (1116352408 : Int64)) = g111 at hP hD
  have hP : va_P (dC, dI) classes [(h, .inr (5, [.int 0, .ref q7, .ref q14, .ref q21, .ref q29, .int (-1 : Int32), .int 0, .int 0, .ref q42, .ref q50, .ref q58, .int 0, .ref q66, .ref q74, .ref q82, .ref q90, .ref q98])), (q7, .inl (cI, 70, .inl (fun _ => 0))), (q14, .inl (cI, 2, .inl (fun _ => 0))), (q21, .inl (cI, 2, .inl (fun _ => 0))), (q29, .inl (cI, 16, .inl (fun _ => 0))), (q42, .inl (cI, 24, .inl (fun _ => 0))), (q50, .inl (cJ, 64, .inr (.inl g111))), (q58, .inl (cJ, 8, .inr (.inl (fun _ => 0)))), (q66, .inl (cJ, 48, .inr (.inl (fun _ => 0)))), (q74, .inl (cJ, 64, .inr (.inl (fun _ => 0)))), (q82, .inl (cJ, 8, .inr (.inl (fun _ => 0)))), (q90, .inl (cJ, 8, .inr (.inl (fun _ => 0)))), (q98, .inl (cI, 8, .inl (fun _ => 0)))] H := hP
  have hD : va_D A [(h, .inr (5, [.int 0, .ref q7, .ref q14, .ref q21, .ref q29, .int (-1 : Int32), .int 0, .int 0, .ref q42, .ref q50, .ref q58, .int 0, .ref q66, .ref q74, .ref q82, .ref q90, .ref q98])), (q7, .inl (cI, 70, .inl (fun _ => 0))), (q14, .inl (cI, 2, .inl (fun _ => 0))), (q21, .inl (cI, 2, .inl (fun _ => 0))), (q29, .inl (cI, 16, .inl (fun _ => 0))), (q42, .inl (cI, 24, .inl (fun _ => 0))), (q50, .inl (cJ, 64, .inr (.inl g111))), (q58, .inl (cJ, 8, .inr (.inl (fun _ => 0)))), (q66, .inl (cJ, 48, .inr (.inl (fun _ => 0)))), (q74, .inl (cJ, 64, .inr (.inl (fun _ => 0)))), (q82, .inl (cJ, 8, .inr (.inl (fun _ => 0)))), (q90, .inl (cJ, 8, .inr (.inl (fun _ => 0)))), (q98, .inl (cI, 8, .inl (fun _ => 0)))] := hD
  refine lv_aload_n hx hb d_MO_init_112 rfl (lv_at hl 0 rfl) ?_
  refine va_get (D := (dC, dI)) (ci := 5) (v := .ref q50) (C := R_MO) (T := F_MO) (N := 17) hx hb hts in_MO hown hK hP 0 rfl rfl 9 (by decide) (hts _ gw_527) (fun _ h9 => h9) rfl d_MO_init_113 ?_
  refine lv_iconst (v := 1) hx hb d_MO_init_116 (by decide) ?_
  refine lv_ldc2 (v := 1899447441) hx hb hown (hts _ gw_447) d_MO_init_117 ?_
  refine va_last hx hb hK hP hD hS 6 1 rfl rfl (by unfold vp_in; decide +kernel) d_MO_init_120 (fun H locs hP hD hS => ?_)
  generalize hg120 : (vp_updL g111 ((1 : Int32)).toNatClampNeg (1899447441 : Int64)) = g120 at hP hD
  have hP : va_P (dC, dI) classes [(h, .inr (5, [.int 0, .ref q7, .ref q14, .ref q21, .ref q29, .int (-1 : Int32), .int 0, .int 0, .ref q42, .ref q50, .ref q58, .int 0, .ref q66, .ref q74, .ref q82, .ref q90, .ref q98])), (q7, .inl (cI, 70, .inl (fun _ => 0))), (q14, .inl (cI, 2, .inl (fun _ => 0))), (q21, .inl (cI, 2, .inl (fun _ => 0))), (q29, .inl (cI, 16, .inl (fun _ => 0))), (q42, .inl (cI, 24, .inl (fun _ => 0))), (q50, .inl (cJ, 64, .inr (.inl g120))), (q58, .inl (cJ, 8, .inr (.inl (fun _ => 0)))), (q66, .inl (cJ, 48, .inr (.inl (fun _ => 0)))), (q74, .inl (cJ, 64, .inr (.inl (fun _ => 0)))), (q82, .inl (cJ, 8, .inr (.inl (fun _ => 0)))), (q90, .inl (cJ, 8, .inr (.inl (fun _ => 0)))), (q98, .inl (cI, 8, .inl (fun _ => 0)))] H := hP
  have hD : va_D A [(h, .inr (5, [.int 0, .ref q7, .ref q14, .ref q21, .ref q29, .int (-1 : Int32), .int 0, .int 0, .ref q42, .ref q50, .ref q58, .int 0, .ref q66, .ref q74, .ref q82, .ref q90, .ref q98])), (q7, .inl (cI, 70, .inl (fun _ => 0))), (q14, .inl (cI, 2, .inl (fun _ => 0))), (q21, .inl (cI, 2, .inl (fun _ => 0))), (q29, .inl (cI, 16, .inl (fun _ => 0))), (q42, .inl (cI, 24, .inl (fun _ => 0))), (q50, .inl (cJ, 64, .inr (.inl g120))), (q58, .inl (cJ, 8, .inr (.inl (fun _ => 0)))), (q66, .inl (cJ, 48, .inr (.inl (fun _ => 0)))), (q74, .inl (cJ, 64, .inr (.inl (fun _ => 0)))), (q82, .inl (cJ, 8, .inr (.inl (fun _ => 0)))), (q90, .inl (cJ, 8, .inr (.inl (fun _ => 0)))), (q98, .inl (cI, 8, .inl (fun _ => 0)))] := hD
  refine lv_aload_n hx hb d_MO_init_121 rfl (lv_at hl 0 rfl) ?_
  refine va_get (D := (dC, dI)) (ci := 5) (v := .ref q50) (C := R_MO) (T := F_MO) (N := 17) hx hb hts in_MO hown hK hP 0 rfl rfl 9 (by decide) (hts _ gw_527) (fun _ h9 => h9) rfl d_MO_init_122 ?_
  refine lv_iconst (v := 2) hx hb d_MO_init_125 (by decide) ?_
  refine lv_ldc2 (v := 3049323471) hx hb hown (hts _ gw_448) d_MO_init_126 ?_
  refine va_last hx hb hK hP hD hS 6 1 rfl rfl (by unfold vp_in; decide +kernel) d_MO_init_129 (fun H locs hP hD hS => ?_)
  generalize hg129 : (vp_updL g120 ((2 : Int32)).toNatClampNeg (3049323471 : Int64)) = g129 at hP hD
  have hP : va_P (dC, dI) classes [(h, .inr (5, [.int 0, .ref q7, .ref q14, .ref q21, .ref q29, .int (-1 : Int32), .int 0, .int 0, .ref q42, .ref q50, .ref q58, .int 0, .ref q66, .ref q74, .ref q82, .ref q90, .ref q98])), (q7, .inl (cI, 70, .inl (fun _ => 0))), (q14, .inl (cI, 2, .inl (fun _ => 0))), (q21, .inl (cI, 2, .inl (fun _ => 0))), (q29, .inl (cI, 16, .inl (fun _ => 0))), (q42, .inl (cI, 24, .inl (fun _ => 0))), (q50, .inl (cJ, 64, .inr (.inl g129))), (q58, .inl (cJ, 8, .inr (.inl (fun _ => 0)))), (q66, .inl (cJ, 48, .inr (.inl (fun _ => 0)))), (q74, .inl (cJ, 64, .inr (.inl (fun _ => 0)))), (q82, .inl (cJ, 8, .inr (.inl (fun _ => 0)))), (q90, .inl (cJ, 8, .inr (.inl (fun _ => 0)))), (q98, .inl (cI, 8, .inl (fun _ => 0)))] H := hP
  have hD : va_D A [(h, .inr (5, [.int 0, .ref q7, .ref q14, .ref q21, .ref q29, .int (-1 : Int32), .int 0, .int 0, .ref q42, .ref q50, .ref q58, .int 0, .ref q66, .ref q74, .ref q82, .ref q90, .ref q98])), (q7, .inl (cI, 70, .inl (fun _ => 0))), (q14, .inl (cI, 2, .inl (fun _ => 0))), (q21, .inl (cI, 2, .inl (fun _ => 0))), (q29, .inl (cI, 16, .inl (fun _ => 0))), (q42, .inl (cI, 24, .inl (fun _ => 0))), (q50, .inl (cJ, 64, .inr (.inl g129))), (q58, .inl (cJ, 8, .inr (.inl (fun _ => 0)))), (q66, .inl (cJ, 48, .inr (.inl (fun _ => 0)))), (q74, .inl (cJ, 64, .inr (.inl (fun _ => 0)))), (q82, .inl (cJ, 8, .inr (.inl (fun _ => 0)))), (q90, .inl (cJ, 8, .inr (.inl (fun _ => 0)))), (q98, .inl (cI, 8, .inl (fun _ => 0)))] := hD
  refine lv_aload_n hx hb d_MO_init_130 rfl (lv_at hl 0 rfl) ?_
  refine va_get (D := (dC, dI)) (ci := 5) (v := .ref q50) (C := R_MO) (T := F_MO) (N := 17) hx hb hts in_MO hown hK hP 0 rfl rfl 9 (by decide) (hts _ gw_527) (fun _ h9 => h9) rfl d_MO_init_131 ?_
  refine lv_iconst (v := 3) hx hb d_MO_init_134 (by decide) ?_
  refine lv_ldc2 (v := 3921009573) hx hb hown (hts _ gw_449) d_MO_init_135 ?_
  refine va_last hx hb hK hP hD hS 6 1 rfl rfl (by unfold vp_in; decide +kernel) d_MO_init_138 (fun H locs hP hD hS => ?_)
  generalize hg138 : (vp_updL g129 ((3 : Int32)).toNatClampNeg (3921009573 : Int64)) = g138 at hP hD
  have hP : va_P (dC, dI) classes [(h, .inr (5, [.int 0, .ref q7, .ref q14, .ref q21, .ref q29, .int (-1 : Int32), .int 0, .int 0, .ref q42, .ref q50, .ref q58, .int 0, .ref q66, .ref q74, .ref q82, .ref q90, .ref q98])), (q7, .inl (cI, 70, .inl (fun _ => 0))), (q14, .inl (cI, 2, .inl (fun _ => 0))), (q21, .inl (cI, 2, .inl (fun _ => 0))), (q29, .inl (cI, 16, .inl (fun _ => 0))), (q42, .inl (cI, 24, .inl (fun _ => 0))), (q50, .inl (cJ, 64, .inr (.inl g138))), (q58, .inl (cJ, 8, .inr (.inl (fun _ => 0)))), (q66, .inl (cJ, 48, .inr (.inl (fun _ => 0)))), (q74, .inl (cJ, 64, .inr (.inl (fun _ => 0)))), (q82, .inl (cJ, 8, .inr (.inl (fun _ => 0)))), (q90, .inl (cJ, 8, .inr (.inl (fun _ => 0)))), (q98, .inl (cI, 8, .inl (fun _ => 0)))] H := hP
  have hD : va_D A [(h, .inr (5, [.int 0, .ref q7, .ref q14, .ref q21, .ref q29, .int (-1 : Int32), .int 0, .int 0, .ref q42, .ref q50, .ref q58, .int 0, .ref q66, .ref q74, .ref q82, .ref q90, .ref q98])), (q7, .inl (cI, 70, .inl (fun _ => 0))), (q14, .inl (cI, 2, .inl (fun _ => 0))), (q21, .inl (cI, 2, .inl (fun _ => 0))), (q29, .inl (cI, 16, .inl (fun _ => 0))), (q42, .inl (cI, 24, .inl (fun _ => 0))), (q50, .inl (cJ, 64, .inr (.inl g138))), (q58, .inl (cJ, 8, .inr (.inl (fun _ => 0)))), (q66, .inl (cJ, 48, .inr (.inl (fun _ => 0)))), (q74, .inl (cJ, 64, .inr (.inl (fun _ => 0)))), (q82, .inl (cJ, 8, .inr (.inl (fun _ => 0)))), (q90, .inl (cJ, 8, .inr (.inl (fun _ => 0)))), (q98, .inl (cI, 8, .inl (fun _ => 0)))] := hD
  refine lv_aload_n hx hb d_MO_init_139 rfl (lv_at hl 0 rfl) ?_
  refine va_get (D := (dC, dI)) (ci := 5) (v := .ref q50) (C := R_MO) (T := F_MO) (N := 17) hx hb hts in_MO hown hK hP 0 rfl rfl 9 (by decide) (hts _ gw_527) (fun _ h9 => h9) rfl d_MO_init_140 ?_
  refine lv_iconst (v := 4) hx hb d_MO_init_143 (by decide) ?_
  refine lv_ldc2 (v := 961987163) hx hb hown (hts _ gw_450) d_MO_init_144 ?_
  refine va_last hx hb hK hP hD hS 6 1 rfl rfl (by unfold vp_in; decide +kernel) d_MO_init_147 (fun H locs hP hD hS => ?_)
  generalize hg147 : (vp_updL g138 ((4 : Int32)).toNatClampNeg (961987163 : Int64)) = g147 at hP hD
  have hP : va_P (dC, dI) classes [(h, .inr (5, [.int 0, .ref q7, .ref q14, .ref q21, .ref q29, .int (-1 : Int32), .int 0, .int 0, .ref q42, .ref q50, .ref q58, .int 0, .ref q66, .ref q74, .ref q82, .ref q90, .ref q98])), (q7, .inl (cI, 70, .inl (fun _ => 0))), (q14, .inl (cI, 2, .inl (fun _ => 0))), (q21, .inl (cI, 2, .inl (fun _ => 0))), (q29, .inl (cI, 16, .inl (fun _ => 0))), (q42, .inl (cI, 24, .inl (fun _ => 0))), (q50, .inl (cJ, 64, .inr (.inl g147))), (q58, .inl (cJ, 8, .inr (.inl (fun _ => 0)))), (q66, .inl (cJ, 48, .inr (.inl (fun _ => 0)))), (q74, .inl (cJ, 64, .inr (.inl (fun _ => 0)))), (q82, .inl (cJ, 8, .inr (.inl (fun _ => 0)))), (q90, .inl (cJ, 8, .inr (.inl (fun _ => 0)))), (q98, .inl (cI, 8, .inl (fun _ => 0)))] H := hP
  have hD : va_D A [(h, .inr (5, [.int 0, .ref q7, .ref q14, .ref q21, .ref q29, .int (-1 : Int32), .int 0, .int 0, .ref q42, .ref q50, .ref q58, .int 0, .ref q66, .ref q74, .ref q82, .ref q90, .ref q98])), (q7, .inl (cI, 70, .inl (fun _ => 0))), (q14, .inl (cI, 2, .inl (fun _ => 0))), (q21, .inl (cI, 2, .inl (fun _ => 0))), (q29, .inl (cI, 16, .inl (fun _ => 0))), (q42, .inl (cI, 24, .inl (fun _ => 0))), (q50, .inl (cJ, 64, .inr (.inl g147))), (q58, .inl (cJ, 8, .inr (.inl (fun _ => 0)))), (q66, .inl (cJ, 48, .inr (.inl (fun _ => 0)))), (q74, .inl (cJ, 64, .inr (.inl (fun _ => 0)))), (q82, .inl (cJ, 8, .inr (.inl (fun _ => 0)))), (q90, .inl (cJ, 8, .inr (.inl (fun _ => 0)))), (q98, .inl (cI, 8, .inl (fun _ => 0)))] := hD
  refine lv_aload_n hx hb d_MO_init_148 rfl (lv_at hl 0 rfl) ?_
  refine va_get (D := (dC, dI)) (ci := 5) (v := .ref q50) (C := R_MO) (T := F_MO) (N := 17) hx hb hts in_MO hown hK hP 0 rfl rfl 9 (by decide) (hts _ gw_527) (fun _ h9 => h9) rfl d_MO_init_149 ?_
  refine lv_iconst (v := 5) hx hb d_MO_init_152 (by decide) ?_
  refine lv_ldc2 (v := 1508970993) hx hb hown (hts _ gw_451) d_MO_init_153 ?_
  refine va_last hx hb hK hP hD hS 6 1 rfl rfl (by unfold vp_in; decide +kernel) d_MO_init_156 (fun H locs hP hD hS => ?_)
  generalize hg156 : (vp_updL g147 ((5 : Int32)).toNatClampNeg (1508970993 : Int64)) = g156 at hP hD
  have hP : va_P (dC, dI) classes [(h, .inr (5, [.int 0, .ref q7, .ref q14, .ref q21, .ref q29, .int (-1 : Int32), .int 0, .int 0, .ref q42, .ref q50, .ref q58, .int 0, .ref q66, .ref q74, .ref q82, .ref q90, .ref q98])), (q7, .inl (cI, 70, .inl (fun _ => 0))), (q14, .inl (cI, 2, .inl (fun _ => 0))), (q21, .inl (cI, 2, .inl (fun _ => 0))), (q29, .inl (cI, 16, .inl (fun _ => 0))), (q42, .inl (cI, 24, .inl (fun _ => 0))), (q50, .inl (cJ, 64, .inr (.inl g156))), (q58, .inl (cJ, 8, .inr (.inl (fun _ => 0)))), (q66, .inl (cJ, 48, .inr (.inl (fun _ => 0)))), (q74, .inl (cJ, 64, .inr (.inl (fun _ => 0)))), (q82, .inl (cJ, 8, .inr (.inl (fun _ => 0)))), (q90, .inl (cJ, 8, .inr (.inl (fun _ => 0)))), (q98, .inl (cI, 8, .inl (fun _ => 0)))] H := hP
  have hD : va_D A [(h, .inr (5, [.int 0, .ref q7, .ref q14, .ref q21, .ref q29, .int (-1 : Int32), .int 0, .int 0, .ref q42, .ref q50, .ref q58, .int 0, .ref q66, .ref q74, .ref q82, .ref q90, .ref q98])), (q7, .inl (cI, 70, .inl (fun _ => 0))), (q14, .inl (cI, 2, .inl (fun _ => 0))), (q21, .inl (cI, 2, .inl (fun _ => 0))), (q29, .inl (cI, 16, .inl (fun _ => 0))), (q42, .inl (cI, 24, .inl (fun _ => 0))), (q50, .inl (cJ, 64, .inr (.inl g156))), (q58, .inl (cJ, 8, .inr (.inl (fun _ => 0)))), (q66, .inl (cJ, 48, .inr (.inl (fun _ => 0)))), (q74, .inl (cJ, 64, .inr (.inl (fun _ => 0)))), (q82, .inl (cJ, 8, .inr (.inl (fun _ => 0)))), (q90, .inl (cJ, 8, .inr (.inl (fun _ => 0)))), (q98, .inl (cI, 8, .inl (fun _ => 0)))] := hD
  refine lv_aload_n hx hb d_MO_init_157 rfl (lv_at hl 0 rfl) ?_
  refine va_get (D := (dC, dI)) (ci := 5) (v := .ref q50) (C := R_MO) (T := F_MO) (N := 17) hx hb hts in_MO hown hK hP 0 rfl rfl 9 (by decide) (hts _ gw_527) (fun _ h9 => h9) rfl d_MO_init_158 ?_
  refine lv_bipush (v := 6) hx hb d_MO_init_161 (by decide) ?_
  refine lv_ldc2 (v := 2453635748) hx hb hown (hts _ gw_452) d_MO_init_163 ?_
  refine va_last hx hb hK hP hD hS 6 1 rfl rfl (by unfold vp_in; decide +kernel) d_MO_init_166 (fun H locs hP hD hS => ?_)
  generalize hg166 : (vp_updL g156 ((6 : Int32)).toNatClampNeg (2453635748 : Int64)) = g166 at hP hD
  have hP : va_P (dC, dI) classes [(h, .inr (5, [.int 0, .ref q7, .ref q14, .ref q21, .ref q29, .int (-1 : Int32), .int 0, .int 0, .ref q42, .ref q50, .ref q58, .int 0, .ref q66, .ref q74, .ref q82, .ref q90, .ref q98])), (q7, .inl (cI, 70, .inl (fun _ => 0))), (q14, .inl (cI, 2, .inl (fun _ => 0))), (q21, .inl (cI, 2, .inl (fun _ => 0))), (q29, .inl (cI, 16, .inl (fun _ => 0))), (q42, .inl (cI, 24, .inl (fun _ => 0))), (q50, .inl (cJ, 64, .inr (.inl g166))), (q58, .inl (cJ, 8, .inr (.inl (fun _ => 0)))), (q66, .inl (cJ, 48, .inr (.inl (fun _ => 0)))), (q74, .inl (cJ, 64, .inr (.inl (fun _ => 0)))), (q82, .inl (cJ, 8, .inr (.inl (fun _ => 0)))), (q90, .inl (cJ, 8, .inr (.inl (fun _ => 0)))), (q98, .inl (cI, 8, .inl (fun _ => 0)))] H := hP
  have hD : va_D A [(h, .inr (5, [.int 0, .ref q7, .ref q14, .ref q21, .ref q29, .int (-1 : Int32), .int 0, .int 0, .ref q42, .ref q50, .ref q58, .int 0, .ref q66, .ref q74, .ref q82, .ref q90, .ref q98])), (q7, .inl (cI, 70, .inl (fun _ => 0))), (q14, .inl (cI, 2, .inl (fun _ => 0))), (q21, .inl (cI, 2, .inl (fun _ => 0))), (q29, .inl (cI, 16, .inl (fun _ => 0))), (q42, .inl (cI, 24, .inl (fun _ => 0))), (q50, .inl (cJ, 64, .inr (.inl g166))), (q58, .inl (cJ, 8, .inr (.inl (fun _ => 0)))), (q66, .inl (cJ, 48, .inr (.inl (fun _ => 0)))), (q74, .inl (cJ, 64, .inr (.inl (fun _ => 0)))), (q82, .inl (cJ, 8, .inr (.inl (fun _ => 0)))), (q90, .inl (cJ, 8, .inr (.inl (fun _ => 0)))), (q98, .inl (cI, 8, .inl (fun _ => 0)))] := hD
  refine lv_aload_n hx hb d_MO_init_167 rfl (lv_at hl 0 rfl) ?_
  refine va_get (D := (dC, dI)) (ci := 5) (v := .ref q50) (C := R_MO) (T := F_MO) (N := 17) hx hb hts in_MO hown hK hP 0 rfl rfl 9 (by decide) (hts _ gw_527) (fun _ h9 => h9) rfl d_MO_init_168 ?_
  refine lv_bipush (v := 7) hx hb d_MO_init_171 (by decide) ?_
  refine lv_ldc2 (v := 2870763221) hx hb hown (hts _ gw_453) d_MO_init_173 ?_
  refine va_last hx hb hK hP hD hS 6 1 rfl rfl (by unfold vp_in; decide +kernel) d_MO_init_176 (fun H locs hP hD hS => ?_)
  generalize hg176 : (vp_updL g166 ((7 : Int32)).toNatClampNeg (2870763221 : Int64)) = g176 at hP hD
  have hP : va_P (dC, dI) classes [(h, .inr (5, [.int 0, .ref q7, .ref q14, .ref q21, .ref q29, .int (-1 : Int32), .int 0, .int 0, .ref q42, .ref q50, .ref q58, .int 0, .ref q66, .ref q74, .ref q82, .ref q90, .ref q98])), (q7, .inl (cI, 70, .inl (fun _ => 0))), (q14, .inl (cI, 2, .inl (fun _ => 0))), (q21, .inl (cI, 2, .inl (fun _ => 0))), (q29, .inl (cI, 16, .inl (fun _ => 0))), (q42, .inl (cI, 24, .inl (fun _ => 0))), (q50, .inl (cJ, 64, .inr (.inl g176))), (q58, .inl (cJ, 8, .inr (.inl (fun _ => 0)))), (q66, .inl (cJ, 48, .inr (.inl (fun _ => 0)))), (q74, .inl (cJ, 64, .inr (.inl (fun _ => 0)))), (q82, .inl (cJ, 8, .inr (.inl (fun _ => 0)))), (q90, .inl (cJ, 8, .inr (.inl (fun _ => 0)))), (q98, .inl (cI, 8, .inl (fun _ => 0)))] H := hP
  have hD : va_D A [(h, .inr (5, [.int 0, .ref q7, .ref q14, .ref q21, .ref q29, .int (-1 : Int32), .int 0, .int 0, .ref q42, .ref q50, .ref q58, .int 0, .ref q66, .ref q74, .ref q82, .ref q90, .ref q98])), (q7, .inl (cI, 70, .inl (fun _ => 0))), (q14, .inl (cI, 2, .inl (fun _ => 0))), (q21, .inl (cI, 2, .inl (fun _ => 0))), (q29, .inl (cI, 16, .inl (fun _ => 0))), (q42, .inl (cI, 24, .inl (fun _ => 0))), (q50, .inl (cJ, 64, .inr (.inl g176))), (q58, .inl (cJ, 8, .inr (.inl (fun _ => 0)))), (q66, .inl (cJ, 48, .inr (.inl (fun _ => 0)))), (q74, .inl (cJ, 64, .inr (.inl (fun _ => 0)))), (q82, .inl (cJ, 8, .inr (.inl (fun _ => 0)))), (q90, .inl (cJ, 8, .inr (.inl (fun _ => 0)))), (q98, .inl (cI, 8, .inl (fun _ => 0)))] := hD
  refine lv_aload_n hx hb d_MO_init_177 rfl (lv_at hl 0 rfl) ?_
  refine va_get (D := (dC, dI)) (ci := 5) (v := .ref q50) (C := R_MO) (T := F_MO) (N := 17) hx hb hts in_MO hown hK hP 0 rfl rfl 9 (by decide) (hts _ gw_527) (fun _ h9 => h9) rfl d_MO_init_178 ?_
  refine lv_bipush (v := 8) hx hb d_MO_init_181 (by decide) ?_
  refine lv_ldc2 (v := 3624381080) hx hb hown (hts _ gw_454) d_MO_init_183 ?_
  refine va_last hx hb hK hP hD hS 6 1 rfl rfl (by unfold vp_in; decide +kernel) d_MO_init_186 (fun H locs hP hD hS => ?_)
  generalize hg186 : (vp_updL g176 ((8 : Int32)).toNatClampNeg (3624381080 : Int64)) = g186 at hP hD
  have hP : va_P (dC, dI) classes [(h, .inr (5, [.int 0, .ref q7, .ref q14, .ref q21, .ref q29, .int (-1 : Int32), .int 0, .int 0, .ref q42, .ref q50, .ref q58, .int 0, .ref q66, .ref q74, .ref q82, .ref q90, .ref q98])), (q7, .inl (cI, 70, .inl (fun _ => 0))), (q14, .inl (cI, 2, .inl (fun _ => 0))), (q21, .inl (cI, 2, .inl (fun _ => 0))), (q29, .inl (cI, 16, .inl (fun _ => 0))), (q42, .inl (cI, 24, .inl (fun _ => 0))), (q50, .inl (cJ, 64, .inr (.inl g186))), (q58, .inl (cJ, 8, .inr (.inl (fun _ => 0)))), (q66, .inl (cJ, 48, .inr (.inl (fun _ => 0)))), (q74, .inl (cJ, 64, .inr (.inl (fun _ => 0)))), (q82, .inl (cJ, 8, .inr (.inl (fun _ => 0)))), (q90, .inl (cJ, 8, .inr (.inl (fun _ => 0)))), (q98, .inl (cI, 8, .inl (fun _ => 0)))] H := hP
  have hD : va_D A [(h, .inr (5, [.int 0, .ref q7, .ref q14, .ref q21, .ref q29, .int (-1 : Int32), .int 0, .int 0, .ref q42, .ref q50, .ref q58, .int 0, .ref q66, .ref q74, .ref q82, .ref q90, .ref q98])), (q7, .inl (cI, 70, .inl (fun _ => 0))), (q14, .inl (cI, 2, .inl (fun _ => 0))), (q21, .inl (cI, 2, .inl (fun _ => 0))), (q29, .inl (cI, 16, .inl (fun _ => 0))), (q42, .inl (cI, 24, .inl (fun _ => 0))), (q50, .inl (cJ, 64, .inr (.inl g186))), (q58, .inl (cJ, 8, .inr (.inl (fun _ => 0)))), (q66, .inl (cJ, 48, .inr (.inl (fun _ => 0)))), (q74, .inl (cJ, 64, .inr (.inl (fun _ => 0)))), (q82, .inl (cJ, 8, .inr (.inl (fun _ => 0)))), (q90, .inl (cJ, 8, .inr (.inl (fun _ => 0)))), (q98, .inl (cI, 8, .inl (fun _ => 0)))] := hD
  refine lv_aload_n hx hb d_MO_init_187 rfl (lv_at hl 0 rfl) ?_
  refine va_get (D := (dC, dI)) (ci := 5) (v := .ref q50) (C := R_MO) (T := F_MO) (N := 17) hx hb hts in_MO hown hK hP 0 rfl rfl 9 (by decide) (hts _ gw_527) (fun _ h9 => h9) rfl d_MO_init_188 ?_
  refine lv_bipush (v := 9) hx hb d_MO_init_191 (by decide) ?_
  refine lv_ldc2 (v := 310598401) hx hb hown (hts _ gw_455) d_MO_init_193 ?_
  refine va_last hx hb hK hP hD hS 6 1 rfl rfl (by unfold vp_in; decide +kernel) d_MO_init_196 (fun H locs hP hD hS => ?_)
  generalize hg196 : (vp_updL g186 ((9 : Int32)).toNatClampNeg (310598401 : Int64)) = g196 at hP hD
  have hP : va_P (dC, dI) classes [(h, .inr (5, [.int 0, .ref q7, .ref q14, .ref q21, .ref q29, .int (-1 : Int32), .int 0, .int 0, .ref q42, .ref q50, .ref q58, .int 0, .ref q66, .ref q74, .ref q82, .ref q90, .ref q98])), (q7, .inl (cI, 70, .inl (fun _ => 0))), (q14, .inl (cI, 2, .inl (fun _ => 0))), (q21, .inl (cI, 2, .inl (fun _ => 0))), (q29, .inl (cI, 16, .inl (fun _ => 0))), (q42, .inl (cI, 24, .inl (fun _ => 0))), (q50, .inl (cJ, 64, .inr (.inl g196))), (q58, .inl (cJ, 8, .inr (.inl (fun _ => 0)))), (q66, .inl (cJ, 48, .inr (.inl (fun _ => 0)))), (q74, .inl (cJ, 64, .inr (.inl (fun _ => 0)))), (q82, .inl (cJ, 8, .inr (.inl (fun _ => 0)))), (q90, .inl (cJ, 8, .inr (.inl (fun _ => 0)))), (q98, .inl (cI, 8, .inl (fun _ => 0)))] H := hP
  have hD : va_D A [(h, .inr (5, [.int 0, .ref q7, .ref q14, .ref q21, .ref q29, .int (-1 : Int32), .int 0, .int 0, .ref q42, .ref q50, .ref q58, .int 0, .ref q66, .ref q74, .ref q82, .ref q90, .ref q98])), (q7, .inl (cI, 70, .inl (fun _ => 0))), (q14, .inl (cI, 2, .inl (fun _ => 0))), (q21, .inl (cI, 2, .inl (fun _ => 0))), (q29, .inl (cI, 16, .inl (fun _ => 0))), (q42, .inl (cI, 24, .inl (fun _ => 0))), (q50, .inl (cJ, 64, .inr (.inl g196))), (q58, .inl (cJ, 8, .inr (.inl (fun _ => 0)))), (q66, .inl (cJ, 48, .inr (.inl (fun _ => 0)))), (q74, .inl (cJ, 64, .inr (.inl (fun _ => 0)))), (q82, .inl (cJ, 8, .inr (.inl (fun _ => 0)))), (q90, .inl (cJ, 8, .inr (.inl (fun _ => 0)))), (q98, .inl (cI, 8, .inl (fun _ => 0)))] := hD
  refine lv_aload_n hx hb d_MO_init_197 rfl (lv_at hl 0 rfl) ?_
  refine va_get (D := (dC, dI)) (ci := 5) (v := .ref q50) (C := R_MO) (T := F_MO) (N := 17) hx hb hts in_MO hown hK hP 0 rfl rfl 9 (by decide) (hts _ gw_527) (fun _ h9 => h9) rfl d_MO_init_198 ?_
  refine lv_bipush (v := 10) hx hb d_MO_init_201 (by decide) ?_
  refine lv_ldc2 (v := 607225278) hx hb hown (hts _ gw_456) d_MO_init_203 ?_
  refine va_last hx hb hK hP hD hS 6 1 rfl rfl (by unfold vp_in; decide +kernel) d_MO_init_206 (fun H locs hP hD hS => ?_)
  generalize hg206 : (vp_updL g196 ((10 : Int32)).toNatClampNeg (607225278 : Int64)) = g206 at hP hD
  have hP : va_P (dC, dI) classes [(h, .inr (5, [.int 0, .ref q7, .ref q14, .ref q21, .ref q29, .int (-1 : Int32), .int 0, .int 0, .ref q42, .ref q50, .ref q58, .int 0, .ref q66, .ref q74, .ref q82, .ref q90, .ref q98])), (q7, .inl (cI, 70, .inl (fun _ => 0))), (q14, .inl (cI, 2, .inl (fun _ => 0))), (q21, .inl (cI, 2, .inl (fun _ => 0))), (q29, .inl (cI, 16, .inl (fun _ => 0))), (q42, .inl (cI, 24, .inl (fun _ => 0))), (q50, .inl (cJ, 64, .inr (.inl g206))), (q58, .inl (cJ, 8, .inr (.inl (fun _ => 0)))), (q66, .inl (cJ, 48, .inr (.inl (fun _ => 0)))), (q74, .inl (cJ, 64, .inr (.inl (fun _ => 0)))), (q82, .inl (cJ, 8, .inr (.inl (fun _ => 0)))), (q90, .inl (cJ, 8, .inr (.inl (fun _ => 0)))), (q98, .inl (cI, 8, .inl (fun _ => 0)))] H := hP
  have hD : va_D A [(h, .inr (5, [.int 0, .ref q7, .ref q14, .ref q21, .ref q29, .int (-1 : Int32), .int 0, .int 0, .ref q42, .ref q50, .ref q58, .int 0, .ref q66, .ref q74, .ref q82, .ref q90, .ref q98])), (q7, .inl (cI, 70, .inl (fun _ => 0))), (q14, .inl (cI, 2, .inl (fun _ => 0))), (q21, .inl (cI, 2, .inl (fun _ => 0))), (q29, .inl (cI, 16, .inl (fun _ => 0))), (q42, .inl (cI, 24, .inl (fun _ => 0))), (q50, .inl (cJ, 64, .inr (.inl g206))), (q58, .inl (cJ, 8, .inr (.inl (fun _ => 0)))), (q66, .inl (cJ, 48, .inr (.inl (fun _ => 0)))), (q74, .inl (cJ, 64, .inr (.inl (fun _ => 0)))), (q82, .inl (cJ, 8, .inr (.inl (fun _ => 0)))), (q90, .inl (cJ, 8, .inr (.inl (fun _ => 0)))), (q98, .inl (cI, 8, .inl (fun _ => 0)))] := hD
  refine lv_aload_n hx hb d_MO_init_207 rfl (lv_at hl 0 rfl) ?_
  refine va_get (D := (dC, dI)) (ci := 5) (v := .ref q50) (C := R_MO) (T := F_MO) (N := 17) hx hb hts in_MO hown hK hP 0 rfl rfl 9 (by decide) (hts _ gw_527) (fun _ h9 => h9) rfl d_MO_init_208 ?_
  refine lv_bipush (v := 11) hx hb d_MO_init_211 (by decide) ?_
  refine lv_ldc2 (v := 1426881987) hx hb hown (hts _ gw_457) d_MO_init_213 ?_
  refine va_last hx hb hK hP hD hS 6 1 rfl rfl (by unfold vp_in; decide +kernel) d_MO_init_216 (fun H locs hP hD hS => ?_)
  generalize hg216 : (vp_updL g206 ((11 : Int32)).toNatClampNeg (1426881987 : Int64)) = g216 at hP hD
  have hP : va_P (dC, dI) classes [(h, .inr (5, [.int 0, .ref q7, .ref q14, .ref q21, .ref q29, .int (-1 : Int32), .int 0, .int 0, .ref q42, .ref q50, .ref q58, .int 0, .ref q66, .ref q74, .ref q82, .ref q90, .ref q98])), (q7, .inl (cI, 70, .inl (fun _ => 0))), (q14, .inl (cI, 2, .inl (fun _ => 0))), (q21, .inl (cI, 2, .inl (fun _ => 0))), (q29, .inl (cI, 16, .inl (fun _ => 0))), (q42, .inl (cI, 24, .inl (fun _ => 0))), (q50, .inl (cJ, 64, .inr (.inl g216))), (q58, .inl (cJ, 8, .inr (.inl (fun _ => 0)))), (q66, .inl (cJ, 48, .inr (.inl (fun _ => 0)))), (q74, .inl (cJ, 64, .inr (.inl (fun _ => 0)))), (q82, .inl (cJ, 8, .inr (.inl (fun _ => 0)))), (q90, .inl (cJ, 8, .inr (.inl (fun _ => 0)))), (q98, .inl (cI, 8, .inl (fun _ => 0)))] H := hP
  have hD : va_D A [(h, .inr (5, [.int 0, .ref q7, .ref q14, .ref q21, .ref q29, .int (-1 : Int32), .int 0, .int 0, .ref q42, .ref q50, .ref q58, .int 0, .ref q66, .ref q74, .ref q82, .ref q90, .ref q98])), (q7, .inl (cI, 70, .inl (fun _ => 0))), (q14, .inl (cI, 2, .inl (fun _ => 0))), (q21, .inl (cI, 2, .inl (fun _ => 0))), (q29, .inl (cI, 16, .inl (fun _ => 0))), (q42, .inl (cI, 24, .inl (fun _ => 0))), (q50, .inl (cJ, 64, .inr (.inl g216))), (q58, .inl (cJ, 8, .inr (.inl (fun _ => 0)))), (q66, .inl (cJ, 48, .inr (.inl (fun _ => 0)))), (q74, .inl (cJ, 64, .inr (.inl (fun _ => 0)))), (q82, .inl (cJ, 8, .inr (.inl (fun _ => 0)))), (q90, .inl (cJ, 8, .inr (.inl (fun _ => 0)))), (q98, .inl (cI, 8, .inl (fun _ => 0)))] := hD
  refine lv_aload_n hx hb d_MO_init_217 rfl (lv_at hl 0 rfl) ?_
  refine va_get (D := (dC, dI)) (ci := 5) (v := .ref q50) (C := R_MO) (T := F_MO) (N := 17) hx hb hts in_MO hown hK hP 0 rfl rfl 9 (by decide) (hts _ gw_527) (fun _ h9 => h9) rfl d_MO_init_218 ?_
  refine lv_bipush (v := 12) hx hb d_MO_init_221 (by decide) ?_
  refine lv_ldc2 (v := 1925078388) hx hb hown (hts _ gw_458) d_MO_init_223 ?_
  refine va_last hx hb hK hP hD hS 6 1 rfl rfl (by unfold vp_in; decide +kernel) d_MO_init_226 (fun H locs hP hD hS => ?_)
  generalize hg226 : (vp_updL g216 ((12 : Int32)).toNatClampNeg (1925078388 : Int64)) = g226 at hP hD
  have hP : va_P (dC, dI) classes [(h, .inr (5, [.int 0, .ref q7, .ref q14, .ref q21, .ref q29, .int (-1 : Int32), .int 0, .int 0, .ref q42, .ref q50, .ref q58, .int 0, .ref q66, .ref q74, .ref q82, .ref q90, .ref q98])), (q7, .inl (cI, 70, .inl (fun _ => 0))), (q14, .inl (cI, 2, .inl (fun _ => 0))), (q21, .inl (cI, 2, .inl (fun _ => 0))), (q29, .inl (cI, 16, .inl (fun _ => 0))), (q42, .inl (cI, 24, .inl (fun _ => 0))), (q50, .inl (cJ, 64, .inr (.inl g226))), (q58, .inl (cJ, 8, .inr (.inl (fun _ => 0)))), (q66, .inl (cJ, 48, .inr (.inl (fun _ => 0)))), (q74, .inl (cJ, 64, .inr (.inl (fun _ => 0)))), (q82, .inl (cJ, 8, .inr (.inl (fun _ => 0)))), (q90, .inl (cJ, 8, .inr (.inl (fun _ => 0)))), (q98, .inl (cI, 8, .inl (fun _ => 0)))] H := hP
  have hD : va_D A [(h, .inr (5, [.int 0, .ref q7, .ref q14, .ref q21, .ref q29, .int (-1 : Int32), .int 0, .int 0, .ref q42, .ref q50, .ref q58, .int 0, .ref q66, .ref q74, .ref q82, .ref q90, .ref q98])), (q7, .inl (cI, 70, .inl (fun _ => 0))), (q14, .inl (cI, 2, .inl (fun _ => 0))), (q21, .inl (cI, 2, .inl (fun _ => 0))), (q29, .inl (cI, 16, .inl (fun _ => 0))), (q42, .inl (cI, 24, .inl (fun _ => 0))), (q50, .inl (cJ, 64, .inr (.inl g226))), (q58, .inl (cJ, 8, .inr (.inl (fun _ => 0)))), (q66, .inl (cJ, 48, .inr (.inl (fun _ => 0)))), (q74, .inl (cJ, 64, .inr (.inl (fun _ => 0)))), (q82, .inl (cJ, 8, .inr (.inl (fun _ => 0)))), (q90, .inl (cJ, 8, .inr (.inl (fun _ => 0)))), (q98, .inl (cI, 8, .inl (fun _ => 0)))] := hD
  refine lv_aload_n hx hb d_MO_init_227 rfl (lv_at hl 0 rfl) ?_
  refine va_get (D := (dC, dI)) (ci := 5) (v := .ref q50) (C := R_MO) (T := F_MO) (N := 17) hx hb hts in_MO hown hK hP 0 rfl rfl 9 (by decide) (hts _ gw_527) (fun _ h9 => h9) rfl d_MO_init_228 ?_
  refine lv_bipush (v := 13) hx hb d_MO_init_231 (by decide) ?_
  refine lv_ldc2 (v := 2162078206) hx hb hown (hts _ gw_459) d_MO_init_233 ?_
  refine va_last hx hb hK hP hD hS 6 1 rfl rfl (by unfold vp_in; decide +kernel) d_MO_init_236 (fun H locs hP hD hS => ?_)
  generalize hg236 : (vp_updL g226 ((13 : Int32)).toNatClampNeg (2162078206 : Int64)) = g236 at hP hD
  have hP : va_P (dC, dI) classes [(h, .inr (5, [.int 0, .ref q7, .ref q14, .ref q21, .ref q29, .int (-1 : Int32), .int 0, .int 0, .ref q42, .ref q50, .ref q58, .int 0, .ref q66, .ref q74, .ref q82, .ref q90, .ref q98])), (q7, .inl (cI, 70, .inl (fun _ => 0))), (q14, .inl (cI, 2, .inl (fun _ => 0))), (q21, .inl (cI, 2, .inl (fun _ => 0))), (q29, .inl (cI, 16, .inl (fun _ => 0))), (q42, .inl (cI, 24, .inl (fun _ => 0))), (q50, .inl (cJ, 64, .inr (.inl g236))), (q58, .inl (cJ, 8, .inr (.inl (fun _ => 0)))), (q66, .inl (cJ, 48, .inr (.inl (fun _ => 0)))), (q74, .inl (cJ, 64, .inr (.inl (fun _ => 0)))), (q82, .inl (cJ, 8, .inr (.inl (fun _ => 0)))), (q90, .inl (cJ, 8, .inr (.inl (fun _ => 0)))), (q98, .inl (cI, 8, .inl (fun _ => 0)))] H := hP
  have hD : va_D A [(h, .inr (5, [.int 0, .ref q7, .ref q14, .ref q21, .ref q29, .int (-1 : Int32), .int 0, .int 0, .ref q42, .ref q50, .ref q58, .int 0, .ref q66, .ref q74, .ref q82, .ref q90, .ref q98])), (q7, .inl (cI, 70, .inl (fun _ => 0))), (q14, .inl (cI, 2, .inl (fun _ => 0))), (q21, .inl (cI, 2, .inl (fun _ => 0))), (q29, .inl (cI, 16, .inl (fun _ => 0))), (q42, .inl (cI, 24, .inl (fun _ => 0))), (q50, .inl (cJ, 64, .inr (.inl g236))), (q58, .inl (cJ, 8, .inr (.inl (fun _ => 0)))), (q66, .inl (cJ, 48, .inr (.inl (fun _ => 0)))), (q74, .inl (cJ, 64, .inr (.inl (fun _ => 0)))), (q82, .inl (cJ, 8, .inr (.inl (fun _ => 0)))), (q90, .inl (cJ, 8, .inr (.inl (fun _ => 0)))), (q98, .inl (cI, 8, .inl (fun _ => 0)))] := hD
  refine lv_aload_n hx hb d_MO_init_237 rfl (lv_at hl 0 rfl) ?_
  refine va_get (D := (dC, dI)) (ci := 5) (v := .ref q50) (C := R_MO) (T := F_MO) (N := 17) hx hb hts in_MO hown hK hP 0 rfl rfl 9 (by decide) (hts _ gw_527) (fun _ h9 => h9) rfl d_MO_init_238 ?_
  refine lv_bipush (v := 14) hx hb d_MO_init_241 (by decide) ?_
  refine lv_ldc2 (v := 2614888103) hx hb hown (hts _ gw_460) d_MO_init_243 ?_
  refine va_last hx hb hK hP hD hS 6 1 rfl rfl (by unfold vp_in; decide +kernel) d_MO_init_246 (fun H locs hP hD hS => ?_)
  generalize hg246 : (vp_updL g236 ((14 : Int32)).toNatClampNeg (2614888103 : Int64)) = g246 at hP hD
  have hP : va_P (dC, dI) classes [(h, .inr (5, [.int 0, .ref q7, .ref q14, .ref q21, .ref q29, .int (-1 : Int32), .int 0, .int 0, .ref q42, .ref q50, .ref q58, .int 0, .ref q66, .ref q74, .ref q82, .ref q90, .ref q98])), (q7, .inl (cI, 70, .inl (fun _ => 0))), (q14, .inl (cI, 2, .inl (fun _ => 0))), (q21, .inl (cI, 2, .inl (fun _ => 0))), (q29, .inl (cI, 16, .inl (fun _ => 0))), (q42, .inl (cI, 24, .inl (fun _ => 0))), (q50, .inl (cJ, 64, .inr (.inl g246))), (q58, .inl (cJ, 8, .inr (.inl (fun _ => 0)))), (q66, .inl (cJ, 48, .inr (.inl (fun _ => 0)))), (q74, .inl (cJ, 64, .inr (.inl (fun _ => 0)))), (q82, .inl (cJ, 8, .inr (.inl (fun _ => 0)))), (q90, .inl (cJ, 8, .inr (.inl (fun _ => 0)))), (q98, .inl (cI, 8, .inl (fun _ => 0)))] H := hP
  have hD : va_D A [(h, .inr (5, [.int 0, .ref q7, .ref q14, .ref q21, .ref q29, .int (-1 : Int32), .int 0, .int 0, .ref q42, .ref q50, .ref q58, .int 0, .ref q66, .ref q74, .ref q82, .ref q90, .ref q98])), (q7, .inl (cI, 70, .inl (fun _ => 0))), (q14, .inl (cI, 2, .inl (fun _ => 0))), (q21, .inl (cI, 2, .inl (fun _ => 0))), (q29, .inl (cI, 16, .inl (fun _ => 0))), (q42, .inl (cI, 24, .inl (fun _ => 0))), (q50, .inl (cJ, 64, .inr (.inl g246))), (q58, .inl (cJ, 8, .inr (.inl (fun _ => 0)))), (q66, .inl (cJ, 48, .inr (.inl (fun _ => 0)))), (q74, .inl (cJ, 64, .inr (.inl (fun _ => 0)))), (q82, .inl (cJ, 8, .inr (.inl (fun _ => 0)))), (q90, .inl (cJ, 8, .inr (.inl (fun _ => 0)))), (q98, .inl (cI, 8, .inl (fun _ => 0)))] := hD
  refine lv_aload_n hx hb d_MO_init_247 rfl (lv_at hl 0 rfl) ?_
  refine va_get (D := (dC, dI)) (ci := 5) (v := .ref q50) (C := R_MO) (T := F_MO) (N := 17) hx hb hts in_MO hown hK hP 0 rfl rfl 9 (by decide) (hts _ gw_527) (fun _ h9 => h9) rfl d_MO_init_248 ?_
  refine lv_bipush (v := 15) hx hb d_MO_init_251 (by decide) ?_
  refine lv_ldc2 (v := 3248222580) hx hb hown (hts _ gw_461) d_MO_init_253 ?_
  refine va_last hx hb hK hP hD hS 6 1 rfl rfl (by unfold vp_in; decide +kernel) d_MO_init_256 (fun H locs hP hD hS => ?_)
  generalize hg256 : (vp_updL g246 ((15 : Int32)).toNatClampNeg (3248222580 : Int64)) = g256 at hP hD
  have hP : va_P (dC, dI) classes [(h, .inr (5, [.int 0, .ref q7, .ref q14, .ref q21, .ref q29, .int (-1 : Int32), .int 0, .int 0, .ref q42, .ref q50, .ref q58, .int 0, .ref q66, .ref q74, .ref q82, .ref q90, .ref q98])), (q7, .inl (cI, 70, .inl (fun _ => 0))), (q14, .inl (cI, 2, .inl (fun _ => 0))), (q21, .inl (cI, 2, .inl (fun _ => 0))), (q29, .inl (cI, 16, .inl (fun _ => 0))), (q42, .inl (cI, 24, .inl (fun _ => 0))), (q50, .inl (cJ, 64, .inr (.inl g256))), (q58, .inl (cJ, 8, .inr (.inl (fun _ => 0)))), (q66, .inl (cJ, 48, .inr (.inl (fun _ => 0)))), (q74, .inl (cJ, 64, .inr (.inl (fun _ => 0)))), (q82, .inl (cJ, 8, .inr (.inl (fun _ => 0)))), (q90, .inl (cJ, 8, .inr (.inl (fun _ => 0)))), (q98, .inl (cI, 8, .inl (fun _ => 0)))] H := hP
  have hD : va_D A [(h, .inr (5, [.int 0, .ref q7, .ref q14, .ref q21, .ref q29, .int (-1 : Int32), .int 0, .int 0, .ref q42, .ref q50, .ref q58, .int 0, .ref q66, .ref q74, .ref q82, .ref q90, .ref q98])), (q7, .inl (cI, 70, .inl (fun _ => 0))), (q14, .inl (cI, 2, .inl (fun _ => 0))), (q21, .inl (cI, 2, .inl (fun _ => 0))), (q29, .inl (cI, 16, .inl (fun _ => 0))), (q42, .inl (cI, 24, .inl (fun _ => 0))), (q50, .inl (cJ, 64, .inr (.inl g256))), (q58, .inl (cJ, 8, .inr (.inl (fun _ => 0)))), (q66, .inl (cJ, 48, .inr (.inl (fun _ => 0)))), (q74, .inl (cJ, 64, .inr (.inl (fun _ => 0)))), (q82, .inl (cJ, 8, .inr (.inl (fun _ => 0)))), (q90, .inl (cJ, 8, .inr (.inl (fun _ => 0)))), (q98, .inl (cI, 8, .inl (fun _ => 0)))] := hD
  refine lv_aload_n hx hb d_MO_init_257 rfl (lv_at hl 0 rfl) ?_
  refine va_get (D := (dC, dI)) (ci := 5) (v := .ref q50) (C := R_MO) (T := F_MO) (N := 17) hx hb hts in_MO hown hK hP 0 rfl rfl 9 (by decide) (hts _ gw_527) (fun _ h9 => h9) rfl d_MO_init_258 ?_
  refine lv_bipush (v := 16) hx hb d_MO_init_261 (by decide) ?_
  refine lv_ldc2 (v := 3835390401) hx hb hown (hts _ gw_462) d_MO_init_263 ?_
  refine va_last hx hb hK hP hD hS 6 1 rfl rfl (by unfold vp_in; decide +kernel) d_MO_init_266 (fun H locs hP hD hS => ?_)
  generalize hg266 : (vp_updL g256 ((16 : Int32)).toNatClampNeg (3835390401 : Int64)) = g266 at hP hD
  have hP : va_P (dC, dI) classes [(h, .inr (5, [.int 0, .ref q7, .ref q14, .ref q21, .ref q29, .int (-1 : Int32), .int 0, .int 0, .ref q42, .ref q50, .ref q58, .int 0, .ref q66, .ref q74, .ref q82, .ref q90, .ref q98])), (q7, .inl (cI, 70, .inl (fun _ => 0))), (q14, .inl (cI, 2, .inl (fun _ => 0))), (q21, .inl (cI, 2, .inl (fun _ => 0))), (q29, .inl (cI, 16, .inl (fun _ => 0))), (q42, .inl (cI, 24, .inl (fun _ => 0))), (q50, .inl (cJ, 64, .inr (.inl g266))), (q58, .inl (cJ, 8, .inr (.inl (fun _ => 0)))), (q66, .inl (cJ, 48, .inr (.inl (fun _ => 0)))), (q74, .inl (cJ, 64, .inr (.inl (fun _ => 0)))), (q82, .inl (cJ, 8, .inr (.inl (fun _ => 0)))), (q90, .inl (cJ, 8, .inr (.inl (fun _ => 0)))), (q98, .inl (cI, 8, .inl (fun _ => 0)))] H := hP
  have hD : va_D A [(h, .inr (5, [.int 0, .ref q7, .ref q14, .ref q21, .ref q29, .int (-1 : Int32), .int 0, .int 0, .ref q42, .ref q50, .ref q58, .int 0, .ref q66, .ref q74, .ref q82, .ref q90, .ref q98])), (q7, .inl (cI, 70, .inl (fun _ => 0))), (q14, .inl (cI, 2, .inl (fun _ => 0))), (q21, .inl (cI, 2, .inl (fun _ => 0))), (q29, .inl (cI, 16, .inl (fun _ => 0))), (q42, .inl (cI, 24, .inl (fun _ => 0))), (q50, .inl (cJ, 64, .inr (.inl g266))), (q58, .inl (cJ, 8, .inr (.inl (fun _ => 0)))), (q66, .inl (cJ, 48, .inr (.inl (fun _ => 0)))), (q74, .inl (cJ, 64, .inr (.inl (fun _ => 0)))), (q82, .inl (cJ, 8, .inr (.inl (fun _ => 0)))), (q90, .inl (cJ, 8, .inr (.inl (fun _ => 0)))), (q98, .inl (cI, 8, .inl (fun _ => 0)))] := hD
  refine lv_aload_n hx hb d_MO_init_267 rfl (lv_at hl 0 rfl) ?_
  refine va_get (D := (dC, dI)) (ci := 5) (v := .ref q50) (C := R_MO) (T := F_MO) (N := 17) hx hb hts in_MO hown hK hP 0 rfl rfl 9 (by decide) (hts _ gw_527) (fun _ h9 => h9) rfl d_MO_init_268 ?_
  refine lv_bipush (v := 17) hx hb d_MO_init_271 (by decide) ?_
  refine lv_ldc2 (v := 4022224774) hx hb hown (hts _ gw_463) d_MO_init_273 ?_
  refine va_last hx hb hK hP hD hS 6 1 rfl rfl (by unfold vp_in; decide +kernel) d_MO_init_276 (fun H locs hP hD hS => ?_)
  generalize hg276 : (vp_updL g266 ((17 : Int32)).toNatClampNeg (4022224774 : Int64)) = g276 at hP hD
  have hP : va_P (dC, dI) classes [(h, .inr (5, [.int 0, .ref q7, .ref q14, .ref q21, .ref q29, .int (-1 : Int32), .int 0, .int 0, .ref q42, .ref q50, .ref q58, .int 0, .ref q66, .ref q74, .ref q82, .ref q90, .ref q98])), (q7, .inl (cI, 70, .inl (fun _ => 0))), (q14, .inl (cI, 2, .inl (fun _ => 0))), (q21, .inl (cI, 2, .inl (fun _ => 0))), (q29, .inl (cI, 16, .inl (fun _ => 0))), (q42, .inl (cI, 24, .inl (fun _ => 0))), (q50, .inl (cJ, 64, .inr (.inl g276))), (q58, .inl (cJ, 8, .inr (.inl (fun _ => 0)))), (q66, .inl (cJ, 48, .inr (.inl (fun _ => 0)))), (q74, .inl (cJ, 64, .inr (.inl (fun _ => 0)))), (q82, .inl (cJ, 8, .inr (.inl (fun _ => 0)))), (q90, .inl (cJ, 8, .inr (.inl (fun _ => 0)))), (q98, .inl (cI, 8, .inl (fun _ => 0)))] H := hP
  have hD : va_D A [(h, .inr (5, [.int 0, .ref q7, .ref q14, .ref q21, .ref q29, .int (-1 : Int32), .int 0, .int 0, .ref q42, .ref q50, .ref q58, .int 0, .ref q66, .ref q74, .ref q82, .ref q90, .ref q98])), (q7, .inl (cI, 70, .inl (fun _ => 0))), (q14, .inl (cI, 2, .inl (fun _ => 0))), (q21, .inl (cI, 2, .inl (fun _ => 0))), (q29, .inl (cI, 16, .inl (fun _ => 0))), (q42, .inl (cI, 24, .inl (fun _ => 0))), (q50, .inl (cJ, 64, .inr (.inl g276))), (q58, .inl (cJ, 8, .inr (.inl (fun _ => 0)))), (q66, .inl (cJ, 48, .inr (.inl (fun _ => 0)))), (q74, .inl (cJ, 64, .inr (.inl (fun _ => 0)))), (q82, .inl (cJ, 8, .inr (.inl (fun _ => 0)))), (q90, .inl (cJ, 8, .inr (.inl (fun _ => 0)))), (q98, .inl (cI, 8, .inl (fun _ => 0)))] := hD
  refine lv_aload_n hx hb d_MO_init_277 rfl (lv_at hl 0 rfl) ?_
  refine va_get (D := (dC, dI)) (ci := 5) (v := .ref q50) (C := R_MO) (T := F_MO) (N := 17) hx hb hts in_MO hown hK hP 0 rfl rfl 9 (by decide) (hts _ gw_527) (fun _ h9 => h9) rfl d_MO_init_278 ?_
  refine lv_bipush (v := 18) hx hb d_MO_init_281 (by decide) ?_
  refine lv_ldc2 (v := 264347078) hx hb hown (hts _ gw_464) d_MO_init_283 ?_
  refine va_last hx hb hK hP hD hS 6 1 rfl rfl (by unfold vp_in; decide +kernel) d_MO_init_286 (fun H locs hP hD hS => ?_)
  generalize hg286 : (vp_updL g276 ((18 : Int32)).toNatClampNeg (264347078 : Int64)) = g286 at hP hD
  have hP : va_P (dC, dI) classes [(h, .inr (5, [.int 0, .ref q7, .ref q14, .ref q21, .ref q29, .int (-1 : Int32), .int 0, .int 0, .ref q42, .ref q50, .ref q58, .int 0, .ref q66, .ref q74, .ref q82, .ref q90, .ref q98])), (q7, .inl (cI, 70, .inl (fun _ => 0))), (q14, .inl (cI, 2, .inl (fun _ => 0))), (q21, .inl (cI, 2, .inl (fun _ => 0))), (q29, .inl (cI, 16, .inl (fun _ => 0))), (q42, .inl (cI, 24, .inl (fun _ => 0))), (q50, .inl (cJ, 64, .inr (.inl g286))), (q58, .inl (cJ, 8, .inr (.inl (fun _ => 0)))), (q66, .inl (cJ, 48, .inr (.inl (fun _ => 0)))), (q74, .inl (cJ, 64, .inr (.inl (fun _ => 0)))), (q82, .inl (cJ, 8, .inr (.inl (fun _ => 0)))), (q90, .inl (cJ, 8, .inr (.inl (fun _ => 0)))), (q98, .inl (cI, 8, .inl (fun _ => 0)))] H := hP
  have hD : va_D A [(h, .inr (5, [.int 0, .ref q7, .ref q14, .ref q21, .ref q29, .int (-1 : Int32), .int 0, .int 0, .ref q42, .ref q50, .ref q58, .int 0, .ref q66, .ref q74, .ref q82, .ref q90, .ref q98])), (q7, .inl (cI, 70, .inl (fun _ => 0))), (q14, .inl (cI, 2, .inl (fun _ => 0))), (q21, .inl (cI, 2, .inl (fun _ => 0))), (q29, .inl (cI, 16, .inl (fun _ => 0))), (q42, .inl (cI, 24, .inl (fun _ => 0))), (q50, .inl (cJ, 64, .inr (.inl g286))), (q58, .inl (cJ, 8, .inr (.inl (fun _ => 0)))), (q66, .inl (cJ, 48, .inr (.inl (fun _ => 0)))), (q74, .inl (cJ, 64, .inr (.inl (fun _ => 0)))), (q82, .inl (cJ, 8, .inr (.inl (fun _ => 0)))), (q90, .inl (cJ, 8, .inr (.inl (fun _ => 0)))), (q98, .inl (cI, 8, .inl (fun _ => 0)))] := hD
  refine lv_aload_n hx hb d_MO_init_287 rfl (lv_at hl 0 rfl) ?_
  refine va_get (D := (dC, dI)) (ci := 5) (v := .ref q50) (C := R_MO) (T := F_MO) (N := 17) hx hb hts in_MO hown hK hP 0 rfl rfl 9 (by decide) (hts _ gw_527) (fun _ h9 => h9) rfl d_MO_init_288 ?_
  refine lv_bipush (v := 19) hx hb d_MO_init_291 (by decide) ?_
  refine lv_ldc2 (v := 604807628) hx hb hown (hts _ gw_465) d_MO_init_293 ?_
  refine va_last hx hb hK hP hD hS 6 1 rfl rfl (by unfold vp_in; decide +kernel) d_MO_init_296 (fun H locs hP hD hS => ?_)
  generalize hg296 : (vp_updL g286 ((19 : Int32)).toNatClampNeg (604807628 : Int64)) = g296 at hP hD
  have hP : va_P (dC, dI) classes [(h, .inr (5, [.int 0, .ref q7, .ref q14, .ref q21, .ref q29, .int (-1 : Int32), .int 0, .int 0, .ref q42, .ref q50, .ref q58, .int 0, .ref q66, .ref q74, .ref q82, .ref q90, .ref q98])), (q7, .inl (cI, 70, .inl (fun _ => 0))), (q14, .inl (cI, 2, .inl (fun _ => 0))), (q21, .inl (cI, 2, .inl (fun _ => 0))), (q29, .inl (cI, 16, .inl (fun _ => 0))), (q42, .inl (cI, 24, .inl (fun _ => 0))), (q50, .inl (cJ, 64, .inr (.inl g296))), (q58, .inl (cJ, 8, .inr (.inl (fun _ => 0)))), (q66, .inl (cJ, 48, .inr (.inl (fun _ => 0)))), (q74, .inl (cJ, 64, .inr (.inl (fun _ => 0)))), (q82, .inl (cJ, 8, .inr (.inl (fun _ => 0)))), (q90, .inl (cJ, 8, .inr (.inl (fun _ => 0)))), (q98, .inl (cI, 8, .inl (fun _ => 0)))] H := hP
  have hD : va_D A [(h, .inr (5, [.int 0, .ref q7, .ref q14, .ref q21, .ref q29, .int (-1 : Int32), .int 0, .int 0, .ref q42, .ref q50, .ref q58, .int 0, .ref q66, .ref q74, .ref q82, .ref q90, .ref q98])), (q7, .inl (cI, 70, .inl (fun _ => 0))), (q14, .inl (cI, 2, .inl (fun _ => 0))), (q21, .inl (cI, 2, .inl (fun _ => 0))), (q29, .inl (cI, 16, .inl (fun _ => 0))), (q42, .inl (cI, 24, .inl (fun _ => 0))), (q50, .inl (cJ, 64, .inr (.inl g296))), (q58, .inl (cJ, 8, .inr (.inl (fun _ => 0)))), (q66, .inl (cJ, 48, .inr (.inl (fun _ => 0)))), (q74, .inl (cJ, 64, .inr (.inl (fun _ => 0)))), (q82, .inl (cJ, 8, .inr (.inl (fun _ => 0)))), (q90, .inl (cJ, 8, .inr (.inl (fun _ => 0)))), (q98, .inl (cI, 8, .inl (fun _ => 0)))] := hD
  refine lv_aload_n hx hb d_MO_init_297 rfl (lv_at hl 0 rfl) ?_
  refine va_get (D := (dC, dI)) (ci := 5) (v := .ref q50) (C := R_MO) (T := F_MO) (N := 17) hx hb hts in_MO hown hK hP 0 rfl rfl 9 (by decide) (hts _ gw_527) (fun _ h9 => h9) rfl d_MO_init_298 ?_
  refine lv_bipush (v := 20) hx hb d_MO_init_301 (by decide) ?_
  refine lv_ldc2 (v := 770255983) hx hb hown (hts _ gw_466) d_MO_init_303 ?_
  refine va_last hx hb hK hP hD hS 6 1 rfl rfl (by unfold vp_in; decide +kernel) d_MO_init_306 (fun H locs hP hD hS => ?_)
  generalize hg306 : (vp_updL g296 ((20 : Int32)).toNatClampNeg (770255983 : Int64)) = g306 at hP hD
  have hP : va_P (dC, dI) classes [(h, .inr (5, [.int 0, .ref q7, .ref q14, .ref q21, .ref q29, .int (-1 : Int32), .int 0, .int 0, .ref q42, .ref q50, .ref q58, .int 0, .ref q66, .ref q74, .ref q82, .ref q90, .ref q98])), (q7, .inl (cI, 70, .inl (fun _ => 0))), (q14, .inl (cI, 2, .inl (fun _ => 0))), (q21, .inl (cI, 2, .inl (fun _ => 0))), (q29, .inl (cI, 16, .inl (fun _ => 0))), (q42, .inl (cI, 24, .inl (fun _ => 0))), (q50, .inl (cJ, 64, .inr (.inl g306))), (q58, .inl (cJ, 8, .inr (.inl (fun _ => 0)))), (q66, .inl (cJ, 48, .inr (.inl (fun _ => 0)))), (q74, .inl (cJ, 64, .inr (.inl (fun _ => 0)))), (q82, .inl (cJ, 8, .inr (.inl (fun _ => 0)))), (q90, .inl (cJ, 8, .inr (.inl (fun _ => 0)))), (q98, .inl (cI, 8, .inl (fun _ => 0)))] H := hP
  have hD : va_D A [(h, .inr (5, [.int 0, .ref q7, .ref q14, .ref q21, .ref q29, .int (-1 : Int32), .int 0, .int 0, .ref q42, .ref q50, .ref q58, .int 0, .ref q66, .ref q74, .ref q82, .ref q90, .ref q98])), (q7, .inl (cI, 70, .inl (fun _ => 0))), (q14, .inl (cI, 2, .inl (fun _ => 0))), (q21, .inl (cI, 2, .inl (fun _ => 0))), (q29, .inl (cI, 16, .inl (fun _ => 0))), (q42, .inl (cI, 24, .inl (fun _ => 0))), (q50, .inl (cJ, 64, .inr (.inl g306))), (q58, .inl (cJ, 8, .inr (.inl (fun _ => 0)))), (q66, .inl (cJ, 48, .inr (.inl (fun _ => 0)))), (q74, .inl (cJ, 64, .inr (.inl (fun _ => 0)))), (q82, .inl (cJ, 8, .inr (.inl (fun _ => 0)))), (q90, .inl (cJ, 8, .inr (.inl (fun _ => 0)))), (q98, .inl (cI, 8, .inl (fun _ => 0)))] := hD
  refine lv_aload_n hx hb d_MO_init_307 rfl (lv_at hl 0 rfl) ?_
  refine va_get (D := (dC, dI)) (ci := 5) (v := .ref q50) (C := R_MO) (T := F_MO) (N := 17) hx hb hts in_MO hown hK hP 0 rfl rfl 9 (by decide) (hts _ gw_527) (fun _ h9 => h9) rfl d_MO_init_308 ?_
  refine lv_bipush (v := 21) hx hb d_MO_init_311 (by decide) ?_
  refine lv_ldc2 (v := 1249150122) hx hb hown (hts _ gw_467) d_MO_init_313 ?_
  refine va_last hx hb hK hP hD hS 6 1 rfl rfl (by unfold vp_in; decide +kernel) d_MO_init_316 (fun H locs hP hD hS => ?_)
  generalize hg316 : (vp_updL g306 ((21 : Int32)).toNatClampNeg (1249150122 : Int64)) = g316 at hP hD
  have hP : va_P (dC, dI) classes [(h, .inr (5, [.int 0, .ref q7, .ref q14, .ref q21, .ref q29, .int (-1 : Int32), .int 0, .int 0, .ref q42, .ref q50, .ref q58, .int 0, .ref q66, .ref q74, .ref q82, .ref q90, .ref q98])), (q7, .inl (cI, 70, .inl (fun _ => 0))), (q14, .inl (cI, 2, .inl (fun _ => 0))), (q21, .inl (cI, 2, .inl (fun _ => 0))), (q29, .inl (cI, 16, .inl (fun _ => 0))), (q42, .inl (cI, 24, .inl (fun _ => 0))), (q50, .inl (cJ, 64, .inr (.inl g316))), (q58, .inl (cJ, 8, .inr (.inl (fun _ => 0)))), (q66, .inl (cJ, 48, .inr (.inl (fun _ => 0)))), (q74, .inl (cJ, 64, .inr (.inl (fun _ => 0)))), (q82, .inl (cJ, 8, .inr (.inl (fun _ => 0)))), (q90, .inl (cJ, 8, .inr (.inl (fun _ => 0)))), (q98, .inl (cI, 8, .inl (fun _ => 0)))] H := hP
  have hD : va_D A [(h, .inr (5, [.int 0, .ref q7, .ref q14, .ref q21, .ref q29, .int (-1 : Int32), .int 0, .int 0, .ref q42, .ref q50, .ref q58, .int 0, .ref q66, .ref q74, .ref q82, .ref q90, .ref q98])), (q7, .inl (cI, 70, .inl (fun _ => 0))), (q14, .inl (cI, 2, .inl (fun _ => 0))), (q21, .inl (cI, 2, .inl (fun _ => 0))), (q29, .inl (cI, 16, .inl (fun _ => 0))), (q42, .inl (cI, 24, .inl (fun _ => 0))), (q50, .inl (cJ, 64, .inr (.inl g316))), (q58, .inl (cJ, 8, .inr (.inl (fun _ => 0)))), (q66, .inl (cJ, 48, .inr (.inl (fun _ => 0)))), (q74, .inl (cJ, 64, .inr (.inl (fun _ => 0)))), (q82, .inl (cJ, 8, .inr (.inl (fun _ => 0)))), (q90, .inl (cJ, 8, .inr (.inl (fun _ => 0)))), (q98, .inl (cI, 8, .inl (fun _ => 0)))] := hD
  refine lv_aload_n hx hb d_MO_init_317 rfl (lv_at hl 0 rfl) ?_
  refine va_get (D := (dC, dI)) (ci := 5) (v := .ref q50) (C := R_MO) (T := F_MO) (N := 17) hx hb hts in_MO hown hK hP 0 rfl rfl 9 (by decide) (hts _ gw_527) (fun _ h9 => h9) rfl d_MO_init_318 ?_
  refine lv_bipush (v := 22) hx hb d_MO_init_321 (by decide) ?_
  refine lv_ldc2 (v := 1555081692) hx hb hown (hts _ gw_468) d_MO_init_323 ?_
  refine va_last hx hb hK hP hD hS 6 1 rfl rfl (by unfold vp_in; decide +kernel) d_MO_init_326 (fun H locs hP hD hS => ?_)
  generalize hg326 : (vp_updL g316 ((22 : Int32)).toNatClampNeg (1555081692 : Int64)) = g326 at hP hD
  have hP : va_P (dC, dI) classes [(h, .inr (5, [.int 0, .ref q7, .ref q14, .ref q21, .ref q29, .int (-1 : Int32), .int 0, .int 0, .ref q42, .ref q50, .ref q58, .int 0, .ref q66, .ref q74, .ref q82, .ref q90, .ref q98])), (q7, .inl (cI, 70, .inl (fun _ => 0))), (q14, .inl (cI, 2, .inl (fun _ => 0))), (q21, .inl (cI, 2, .inl (fun _ => 0))), (q29, .inl (cI, 16, .inl (fun _ => 0))), (q42, .inl (cI, 24, .inl (fun _ => 0))), (q50, .inl (cJ, 64, .inr (.inl g326))), (q58, .inl (cJ, 8, .inr (.inl (fun _ => 0)))), (q66, .inl (cJ, 48, .inr (.inl (fun _ => 0)))), (q74, .inl (cJ, 64, .inr (.inl (fun _ => 0)))), (q82, .inl (cJ, 8, .inr (.inl (fun _ => 0)))), (q90, .inl (cJ, 8, .inr (.inl (fun _ => 0)))), (q98, .inl (cI, 8, .inl (fun _ => 0)))] H := hP
  have hD : va_D A [(h, .inr (5, [.int 0, .ref q7, .ref q14, .ref q21, .ref q29, .int (-1 : Int32), .int 0, .int 0, .ref q42, .ref q50, .ref q58, .int 0, .ref q66, .ref q74, .ref q82, .ref q90, .ref q98])), (q7, .inl (cI, 70, .inl (fun _ => 0))), (q14, .inl (cI, 2, .inl (fun _ => 0))), (q21, .inl (cI, 2, .inl (fun _ => 0))), (q29, .inl (cI, 16, .inl (fun _ => 0))), (q42, .inl (cI, 24, .inl (fun _ => 0))), (q50, .inl (cJ, 64, .inr (.inl g326))), (q58, .inl (cJ, 8, .inr (.inl (fun _ => 0)))), (q66, .inl (cJ, 48, .inr (.inl (fun _ => 0)))), (q74, .inl (cJ, 64, .inr (.inl (fun _ => 0)))), (q82, .inl (cJ, 8, .inr (.inl (fun _ => 0)))), (q90, .inl (cJ, 8, .inr (.inl (fun _ => 0)))), (q98, .inl (cI, 8, .inl (fun _ => 0)))] := hD
  refine lv_aload_n hx hb d_MO_init_327 rfl (lv_at hl 0 rfl) ?_
  refine va_get (D := (dC, dI)) (ci := 5) (v := .ref q50) (C := R_MO) (T := F_MO) (N := 17) hx hb hts in_MO hown hK hP 0 rfl rfl 9 (by decide) (hts _ gw_527) (fun _ h9 => h9) rfl d_MO_init_328 ?_
  refine lv_bipush (v := 23) hx hb d_MO_init_331 (by decide) ?_
  refine lv_ldc2 (v := 1996064986) hx hb hown (hts _ gw_469) d_MO_init_333 ?_
  refine va_last hx hb hK hP hD hS 6 1 rfl rfl (by unfold vp_in; decide +kernel) d_MO_init_336 (fun H locs hP hD hS => ?_)
  generalize hg336 : (vp_updL g326 ((23 : Int32)).toNatClampNeg (1996064986 : Int64)) = g336 at hP hD
  have hP : va_P (dC, dI) classes [(h, .inr (5, [.int 0, .ref q7, .ref q14, .ref q21, .ref q29, .int (-1 : Int32), .int 0, .int 0, .ref q42, .ref q50, .ref q58, .int 0, .ref q66, .ref q74, .ref q82, .ref q90, .ref q98])), (q7, .inl (cI, 70, .inl (fun _ => 0))), (q14, .inl (cI, 2, .inl (fun _ => 0))), (q21, .inl (cI, 2, .inl (fun _ => 0))), (q29, .inl (cI, 16, .inl (fun _ => 0))), (q42, .inl (cI, 24, .inl (fun _ => 0))), (q50, .inl (cJ, 64, .inr (.inl g336))), (q58, .inl (cJ, 8, .inr (.inl (fun _ => 0)))), (q66, .inl (cJ, 48, .inr (.inl (fun _ => 0)))), (q74, .inl (cJ, 64, .inr (.inl (fun _ => 0)))), (q82, .inl (cJ, 8, .inr (.inl (fun _ => 0)))), (q90, .inl (cJ, 8, .inr (.inl (fun _ => 0)))), (q98, .inl (cI, 8, .inl (fun _ => 0)))] H := hP
  have hD : va_D A [(h, .inr (5, [.int 0, .ref q7, .ref q14, .ref q21, .ref q29, .int (-1 : Int32), .int 0, .int 0, .ref q42, .ref q50, .ref q58, .int 0, .ref q66, .ref q74, .ref q82, .ref q90, .ref q98])), (q7, .inl (cI, 70, .inl (fun _ => 0))), (q14, .inl (cI, 2, .inl (fun _ => 0))), (q21, .inl (cI, 2, .inl (fun _ => 0))), (q29, .inl (cI, 16, .inl (fun _ => 0))), (q42, .inl (cI, 24, .inl (fun _ => 0))), (q50, .inl (cJ, 64, .inr (.inl g336))), (q58, .inl (cJ, 8, .inr (.inl (fun _ => 0)))), (q66, .inl (cJ, 48, .inr (.inl (fun _ => 0)))), (q74, .inl (cJ, 64, .inr (.inl (fun _ => 0)))), (q82, .inl (cJ, 8, .inr (.inl (fun _ => 0)))), (q90, .inl (cJ, 8, .inr (.inl (fun _ => 0)))), (q98, .inl (cI, 8, .inl (fun _ => 0)))] := hD
  refine lv_aload_n hx hb d_MO_init_337 rfl (lv_at hl 0 rfl) ?_
  refine va_get (D := (dC, dI)) (ci := 5) (v := .ref q50) (C := R_MO) (T := F_MO) (N := 17) hx hb hts in_MO hown hK hP 0 rfl rfl 9 (by decide) (hts _ gw_527) (fun _ h9 => h9) rfl d_MO_init_338 ?_
  refine lv_bipush (v := 24) hx hb d_MO_init_341 (by decide) ?_
  refine lv_ldc2 (v := 2554220882) hx hb hown (hts _ gw_470) d_MO_init_343 ?_
  refine va_last hx hb hK hP hD hS 6 1 rfl rfl (by unfold vp_in; decide +kernel) d_MO_init_346 (fun H locs hP hD hS => ?_)
  generalize hg346 : (vp_updL g336 ((24 : Int32)).toNatClampNeg (2554220882 : Int64)) = g346 at hP hD
  have hP : va_P (dC, dI) classes [(h, .inr (5, [.int 0, .ref q7, .ref q14, .ref q21, .ref q29, .int (-1 : Int32), .int 0, .int 0, .ref q42, .ref q50, .ref q58, .int 0, .ref q66, .ref q74, .ref q82, .ref q90, .ref q98])), (q7, .inl (cI, 70, .inl (fun _ => 0))), (q14, .inl (cI, 2, .inl (fun _ => 0))), (q21, .inl (cI, 2, .inl (fun _ => 0))), (q29, .inl (cI, 16, .inl (fun _ => 0))), (q42, .inl (cI, 24, .inl (fun _ => 0))), (q50, .inl (cJ, 64, .inr (.inl g346))), (q58, .inl (cJ, 8, .inr (.inl (fun _ => 0)))), (q66, .inl (cJ, 48, .inr (.inl (fun _ => 0)))), (q74, .inl (cJ, 64, .inr (.inl (fun _ => 0)))), (q82, .inl (cJ, 8, .inr (.inl (fun _ => 0)))), (q90, .inl (cJ, 8, .inr (.inl (fun _ => 0)))), (q98, .inl (cI, 8, .inl (fun _ => 0)))] H := hP
  have hD : va_D A [(h, .inr (5, [.int 0, .ref q7, .ref q14, .ref q21, .ref q29, .int (-1 : Int32), .int 0, .int 0, .ref q42, .ref q50, .ref q58, .int 0, .ref q66, .ref q74, .ref q82, .ref q90, .ref q98])), (q7, .inl (cI, 70, .inl (fun _ => 0))), (q14, .inl (cI, 2, .inl (fun _ => 0))), (q21, .inl (cI, 2, .inl (fun _ => 0))), (q29, .inl (cI, 16, .inl (fun _ => 0))), (q42, .inl (cI, 24, .inl (fun _ => 0))), (q50, .inl (cJ, 64, .inr (.inl g346))), (q58, .inl (cJ, 8, .inr (.inl (fun _ => 0)))), (q66, .inl (cJ, 48, .inr (.inl (fun _ => 0)))), (q74, .inl (cJ, 64, .inr (.inl (fun _ => 0)))), (q82, .inl (cJ, 8, .inr (.inl (fun _ => 0)))), (q90, .inl (cJ, 8, .inr (.inl (fun _ => 0)))), (q98, .inl (cI, 8, .inl (fun _ => 0)))] := hD
  refine lv_aload_n hx hb d_MO_init_347 rfl (lv_at hl 0 rfl) ?_
  refine va_get (D := (dC, dI)) (ci := 5) (v := .ref q50) (C := R_MO) (T := F_MO) (N := 17) hx hb hts in_MO hown hK hP 0 rfl rfl 9 (by decide) (hts _ gw_527) (fun _ h9 => h9) rfl d_MO_init_348 ?_
  refine lv_bipush (v := 25) hx hb d_MO_init_351 (by decide) ?_
  refine lv_ldc2 (v := 2821834349) hx hb hown (hts _ gw_471) d_MO_init_353 ?_
  refine va_last hx hb hK hP hD hS 6 1 rfl rfl (by unfold vp_in; decide +kernel) d_MO_init_356 (fun H locs hP hD hS => ?_)
  generalize hg356 : (vp_updL g346 ((25 : Int32)).toNatClampNeg (2821834349 : Int64)) = g356 at hP hD
  have hP : va_P (dC, dI) classes [(h, .inr (5, [.int 0, .ref q7, .ref q14, .ref q21, .ref q29, .int (-1 : Int32), .int 0, .int 0, .ref q42, .ref q50, .ref q58, .int 0, .ref q66, .ref q74, .ref q82, .ref q90, .ref q98])), (q7, .inl (cI, 70, .inl (fun _ => 0))), (q14, .inl (cI, 2, .inl (fun _ => 0))), (q21, .inl (cI, 2, .inl (fun _ => 0))), (q29, .inl (cI, 16, .inl (fun _ => 0))), (q42, .inl (cI, 24, .inl (fun _ => 0))), (q50, .inl (cJ, 64, .inr (.inl g356))), (q58, .inl (cJ, 8, .inr (.inl (fun _ => 0)))), (q66, .inl (cJ, 48, .inr (.inl (fun _ => 0)))), (q74, .inl (cJ, 64, .inr (.inl (fun _ => 0)))), (q82, .inl (cJ, 8, .inr (.inl (fun _ => 0)))), (q90, .inl (cJ, 8, .inr (.inl (fun _ => 0)))), (q98, .inl (cI, 8, .inl (fun _ => 0)))] H := hP
  have hD : va_D A [(h, .inr (5, [.int 0, .ref q7, .ref q14, .ref q21, .ref q29, .int (-1 : Int32), .int 0, .int 0, .ref q42, .ref q50, .ref q58, .int 0, .ref q66, .ref q74, .ref q82, .ref q90, .ref q98])), (q7, .inl (cI, 70, .inl (fun _ => 0))), (q14, .inl (cI, 2, .inl (fun _ => 0))), (q21, .inl (cI, 2, .inl (fun _ => 0))), (q29, .inl (cI, 16, .inl (fun _ => 0))), (q42, .inl (cI, 24, .inl (fun _ => 0))), (q50, .inl (cJ, 64, .inr (.inl g356))), (q58, .inl (cJ, 8, .inr (.inl (fun _ => 0)))), (q66, .inl (cJ, 48, .inr (.inl (fun _ => 0)))), (q74, .inl (cJ, 64, .inr (.inl (fun _ => 0)))), (q82, .inl (cJ, 8, .inr (.inl (fun _ => 0)))), (q90, .inl (cJ, 8, .inr (.inl (fun _ => 0)))), (q98, .inl (cI, 8, .inl (fun _ => 0)))] := hD
  refine lv_aload_n hx hb d_MO_init_357 rfl (lv_at hl 0 rfl) ?_
  refine va_get (D := (dC, dI)) (ci := 5) (v := .ref q50) (C := R_MO) (T := F_MO) (N := 17) hx hb hts in_MO hown hK hP 0 rfl rfl 9 (by decide) (hts _ gw_527) (fun _ h9 => h9) rfl d_MO_init_358 ?_
  refine lv_bipush (v := 26) hx hb d_MO_init_361 (by decide) ?_
  refine lv_ldc2 (v := 2952996808) hx hb hown (hts _ gw_472) d_MO_init_363 ?_
  refine va_last hx hb hK hP hD hS 6 1 rfl rfl (by unfold vp_in; decide +kernel) d_MO_init_366 (fun H locs hP hD hS => ?_)
  generalize hg366 : (vp_updL g356 ((26 : Int32)).toNatClampNeg (2952996808 : Int64)) = g366 at hP hD
  have hP : va_P (dC, dI) classes [(h, .inr (5, [.int 0, .ref q7, .ref q14, .ref q21, .ref q29, .int (-1 : Int32), .int 0, .int 0, .ref q42, .ref q50, .ref q58, .int 0, .ref q66, .ref q74, .ref q82, .ref q90, .ref q98])), (q7, .inl (cI, 70, .inl (fun _ => 0))), (q14, .inl (cI, 2, .inl (fun _ => 0))), (q21, .inl (cI, 2, .inl (fun _ => 0))), (q29, .inl (cI, 16, .inl (fun _ => 0))), (q42, .inl (cI, 24, .inl (fun _ => 0))), (q50, .inl (cJ, 64, .inr (.inl g366))), (q58, .inl (cJ, 8, .inr (.inl (fun _ => 0)))), (q66, .inl (cJ, 48, .inr (.inl (fun _ => 0)))), (q74, .inl (cJ, 64, .inr (.inl (fun _ => 0)))), (q82, .inl (cJ, 8, .inr (.inl (fun _ => 0)))), (q90, .inl (cJ, 8, .inr (.inl (fun _ => 0)))), (q98, .inl (cI, 8, .inl (fun _ => 0)))] H := hP
  have hD : va_D A [(h, .inr (5, [.int 0, .ref q7, .ref q14, .ref q21, .ref q29, .int (-1 : Int32), .int 0, .int 0, .ref q42, .ref q50, .ref q58, .int 0, .ref q66, .ref q74, .ref q82, .ref q90, .ref q98])), (q7, .inl (cI, 70, .inl (fun _ => 0))), (q14, .inl (cI, 2, .inl (fun _ => 0))), (q21, .inl (cI, 2, .inl (fun _ => 0))), (q29, .inl (cI, 16, .inl (fun _ => 0))), (q42, .inl (cI, 24, .inl (fun _ => 0))), (q50, .inl (cJ, 64, .inr (.inl g366))), (q58, .inl (cJ, 8, .inr (.inl (fun _ => 0)))), (q66, .inl (cJ, 48, .inr (.inl (fun _ => 0)))), (q74, .inl (cJ, 64, .inr (.inl (fun _ => 0)))), (q82, .inl (cJ, 8, .inr (.inl (fun _ => 0)))), (q90, .inl (cJ, 8, .inr (.inl (fun _ => 0)))), (q98, .inl (cI, 8, .inl (fun _ => 0)))] := hD
  refine lv_aload_n hx hb d_MO_init_367 rfl (lv_at hl 0 rfl) ?_
  refine va_get (D := (dC, dI)) (ci := 5) (v := .ref q50) (C := R_MO) (T := F_MO) (N := 17) hx hb hts in_MO hown hK hP 0 rfl rfl 9 (by decide) (hts _ gw_527) (fun _ h9 => h9) rfl d_MO_init_368 ?_
  refine lv_bipush (v := 27) hx hb d_MO_init_371 (by decide) ?_
  refine lv_ldc2 (v := 3210313671) hx hb hown (hts _ gw_473) d_MO_init_373 ?_
  refine va_last hx hb hK hP hD hS 6 1 rfl rfl (by unfold vp_in; decide +kernel) d_MO_init_376 (fun H locs hP hD hS => ?_)
  generalize hg376 : (vp_updL g366 ((27 : Int32)).toNatClampNeg (3210313671 : Int64)) = g376 at hP hD
  have hP : va_P (dC, dI) classes [(h, .inr (5, [.int 0, .ref q7, .ref q14, .ref q21, .ref q29, .int (-1 : Int32), .int 0, .int 0, .ref q42, .ref q50, .ref q58, .int 0, .ref q66, .ref q74, .ref q82, .ref q90, .ref q98])), (q7, .inl (cI, 70, .inl (fun _ => 0))), (q14, .inl (cI, 2, .inl (fun _ => 0))), (q21, .inl (cI, 2, .inl (fun _ => 0))), (q29, .inl (cI, 16, .inl (fun _ => 0))), (q42, .inl (cI, 24, .inl (fun _ => 0))), (q50, .inl (cJ, 64, .inr (.inl g376))), (q58, .inl (cJ, 8, .inr (.inl (fun _ => 0)))), (q66, .inl (cJ, 48, .inr (.inl (fun _ => 0)))), (q74, .inl (cJ, 64, .inr (.inl (fun _ => 0)))), (q82, .inl (cJ, 8, .inr (.inl (fun _ => 0)))), (q90, .inl (cJ, 8, .inr (.inl (fun _ => 0)))), (q98, .inl (cI, 8, .inl (fun _ => 0)))] H := hP
  have hD : va_D A [(h, .inr (5, [.int 0, .ref q7, .ref q14, .ref q21, .ref q29, .int (-1 : Int32), .int 0, .int 0, .ref q42, .ref q50, .ref q58, .int 0, .ref q66, .ref q74, .ref q82, .ref q90, .ref q98])), (q7, .inl (cI, 70, .inl (fun _ => 0))), (q14, .inl (cI, 2, .inl (fun _ => 0))), (q21, .inl (cI, 2, .inl (fun _ => 0))), (q29, .inl (cI, 16, .inl (fun _ => 0))), (q42, .inl (cI, 24, .inl (fun _ => 0))), (q50, .inl (cJ, 64, .inr (.inl g376))), (q58, .inl (cJ, 8, .inr (.inl (fun _ => 0)))), (q66, .inl (cJ, 48, .inr (.inl (fun _ => 0)))), (q74, .inl (cJ, 64, .inr (.inl (fun _ => 0)))), (q82, .inl (cJ, 8, .inr (.inl (fun _ => 0)))), (q90, .inl (cJ, 8, .inr (.inl (fun _ => 0)))), (q98, .inl (cI, 8, .inl (fun _ => 0)))] := hD
  refine lv_aload_n hx hb d_MO_init_377 rfl (lv_at hl 0 rfl) ?_
  refine va_get (D := (dC, dI)) (ci := 5) (v := .ref q50) (C := R_MO) (T := F_MO) (N := 17) hx hb hts in_MO hown hK hP 0 rfl rfl 9 (by decide) (hts _ gw_527) (fun _ h9 => h9) rfl d_MO_init_378 ?_
  refine lv_bipush (v := 28) hx hb d_MO_init_381 (by decide) ?_
  refine lv_ldc2 (v := 3336571891) hx hb hown (hts _ gw_474) d_MO_init_383 ?_
  refine va_last hx hb hK hP hD hS 6 1 rfl rfl (by unfold vp_in; decide +kernel) d_MO_init_386 (fun H locs hP hD hS => ?_)
  generalize hg386 : (vp_updL g376 ((28 : Int32)).toNatClampNeg (3336571891 : Int64)) = g386 at hP hD
  have hP : va_P (dC, dI) classes [(h, .inr (5, [.int 0, .ref q7, .ref q14, .ref q21, .ref q29, .int (-1 : Int32), .int 0, .int 0, .ref q42, .ref q50, .ref q58, .int 0, .ref q66, .ref q74, .ref q82, .ref q90, .ref q98])), (q7, .inl (cI, 70, .inl (fun _ => 0))), (q14, .inl (cI, 2, .inl (fun _ => 0))), (q21, .inl (cI, 2, .inl (fun _ => 0))), (q29, .inl (cI, 16, .inl (fun _ => 0))), (q42, .inl (cI, 24, .inl (fun _ => 0))), (q50, .inl (cJ, 64, .inr (.inl g386))), (q58, .inl (cJ, 8, .inr (.inl (fun _ => 0)))), (q66, .inl (cJ, 48, .inr (.inl (fun _ => 0)))), (q74, .inl (cJ, 64, .inr (.inl (fun _ => 0)))), (q82, .inl (cJ, 8, .inr (.inl (fun _ => 0)))), (q90, .inl (cJ, 8, .inr (.inl (fun _ => 0)))), (q98, .inl (cI, 8, .inl (fun _ => 0)))] H := hP
  have hD : va_D A [(h, .inr (5, [.int 0, .ref q7, .ref q14, .ref q21, .ref q29, .int (-1 : Int32), .int 0, .int 0, .ref q42, .ref q50, .ref q58, .int 0, .ref q66, .ref q74, .ref q82, .ref q90, .ref q98])), (q7, .inl (cI, 70, .inl (fun _ => 0))), (q14, .inl (cI, 2, .inl (fun _ => 0))), (q21, .inl (cI, 2, .inl (fun _ => 0))), (q29, .inl (cI, 16, .inl (fun _ => 0))), (q42, .inl (cI, 24, .inl (fun _ => 0))), (q50, .inl (cJ, 64, .inr (.inl g386))), (q58, .inl (cJ, 8, .inr (.inl (fun _ => 0)))), (q66, .inl (cJ, 48, .inr (.inl (fun _ => 0)))), (q74, .inl (cJ, 64, .inr (.inl (fun _ => 0)))), (q82, .inl (cJ, 8, .inr (.inl (fun _ => 0)))), (q90, .inl (cJ, 8, .inr (.inl (fun _ => 0)))), (q98, .inl (cI, 8, .inl (fun _ => 0)))] := hD
  refine lv_aload_n hx hb d_MO_init_387 rfl (lv_at hl 0 rfl) ?_
  refine va_get (D := (dC, dI)) (ci := 5) (v := .ref q50) (C := R_MO) (T := F_MO) (N := 17) hx hb hts in_MO hown hK hP 0 rfl rfl 9 (by decide) (hts _ gw_527) (fun _ h9 => h9) rfl d_MO_init_388 ?_
  refine lv_bipush (v := 29) hx hb d_MO_init_391 (by decide) ?_
  refine lv_ldc2 (v := 3584528711) hx hb hown (hts _ gw_475) d_MO_init_393 ?_
  refine va_last hx hb hK hP hD hS 6 1 rfl rfl (by unfold vp_in; decide +kernel) d_MO_init_396 (fun H locs hP hD hS => ?_)
  generalize hg396 : (vp_updL g386 ((29 : Int32)).toNatClampNeg (3584528711 : Int64)) = g396 at hP hD
  have hP : va_P (dC, dI) classes [(h, .inr (5, [.int 0, .ref q7, .ref q14, .ref q21, .ref q29, .int (-1 : Int32), .int 0, .int 0, .ref q42, .ref q50, .ref q58, .int 0, .ref q66, .ref q74, .ref q82, .ref q90, .ref q98])), (q7, .inl (cI, 70, .inl (fun _ => 0))), (q14, .inl (cI, 2, .inl (fun _ => 0))), (q21, .inl (cI, 2, .inl (fun _ => 0))), (q29, .inl (cI, 16, .inl (fun _ => 0))), (q42, .inl (cI, 24, .inl (fun _ => 0))), (q50, .inl (cJ, 64, .inr (.inl g396))), (q58, .inl (cJ, 8, .inr (.inl (fun _ => 0)))), (q66, .inl (cJ, 48, .inr (.inl (fun _ => 0)))), (q74, .inl (cJ, 64, .inr (.inl (fun _ => 0)))), (q82, .inl (cJ, 8, .inr (.inl (fun _ => 0)))), (q90, .inl (cJ, 8, .inr (.inl (fun _ => 0)))), (q98, .inl (cI, 8, .inl (fun _ => 0)))] H := hP
  have hD : va_D A [(h, .inr (5, [.int 0, .ref q7, .ref q14, .ref q21, .ref q29, .int (-1 : Int32), .int 0, .int 0, .ref q42, .ref q50, .ref q58, .int 0, .ref q66, .ref q74, .ref q82, .ref q90, .ref q98])), (q7, .inl (cI, 70, .inl (fun _ => 0))), (q14, .inl (cI, 2, .inl (fun _ => 0))), (q21, .inl (cI, 2, .inl (fun _ => 0))), (q29, .inl (cI, 16, .inl (fun _ => 0))), (q42, .inl (cI, 24, .inl (fun _ => 0))), (q50, .inl (cJ, 64, .inr (.inl g396))), (q58, .inl (cJ, 8, .inr (.inl (fun _ => 0)))), (q66, .inl (cJ, 48, .inr (.inl (fun _ => 0)))), (q74, .inl (cJ, 64, .inr (.inl (fun _ => 0)))), (q82, .inl (cJ, 8, .inr (.inl (fun _ => 0)))), (q90, .inl (cJ, 8, .inr (.inl (fun _ => 0)))), (q98, .inl (cI, 8, .inl (fun _ => 0)))] := hD
  refine lv_aload_n hx hb d_MO_init_397 rfl (lv_at hl 0 rfl) ?_
  refine va_get (D := (dC, dI)) (ci := 5) (v := .ref q50) (C := R_MO) (T := F_MO) (N := 17) hx hb hts in_MO hown hK hP 0 rfl rfl 9 (by decide) (hts _ gw_527) (fun _ h9 => h9) rfl d_MO_init_398 ?_
  refine lv_bipush (v := 30) hx hb d_MO_init_401 (by decide) ?_
  refine lv_ldc2 (v := 113926993) hx hb hown (hts _ gw_476) d_MO_init_403 ?_
  refine va_last hx hb hK hP hD hS 6 1 rfl rfl (by unfold vp_in; decide +kernel) d_MO_init_406 (fun H locs hP hD hS => ?_)
  generalize hg406 : (vp_updL g396 ((30 : Int32)).toNatClampNeg (113926993 : Int64)) = g406 at hP hD
  have hP : va_P (dC, dI) classes [(h, .inr (5, [.int 0, .ref q7, .ref q14, .ref q21, .ref q29, .int (-1 : Int32), .int 0, .int 0, .ref q42, .ref q50, .ref q58, .int 0, .ref q66, .ref q74, .ref q82, .ref q90, .ref q98])), (q7, .inl (cI, 70, .inl (fun _ => 0))), (q14, .inl (cI, 2, .inl (fun _ => 0))), (q21, .inl (cI, 2, .inl (fun _ => 0))), (q29, .inl (cI, 16, .inl (fun _ => 0))), (q42, .inl (cI, 24, .inl (fun _ => 0))), (q50, .inl (cJ, 64, .inr (.inl g406))), (q58, .inl (cJ, 8, .inr (.inl (fun _ => 0)))), (q66, .inl (cJ, 48, .inr (.inl (fun _ => 0)))), (q74, .inl (cJ, 64, .inr (.inl (fun _ => 0)))), (q82, .inl (cJ, 8, .inr (.inl (fun _ => 0)))), (q90, .inl (cJ, 8, .inr (.inl (fun _ => 0)))), (q98, .inl (cI, 8, .inl (fun _ => 0)))] H := hP
  have hD : va_D A [(h, .inr (5, [.int 0, .ref q7, .ref q14, .ref q21, .ref q29, .int (-1 : Int32), .int 0, .int 0, .ref q42, .ref q50, .ref q58, .int 0, .ref q66, .ref q74, .ref q82, .ref q90, .ref q98])), (q7, .inl (cI, 70, .inl (fun _ => 0))), (q14, .inl (cI, 2, .inl (fun _ => 0))), (q21, .inl (cI, 2, .inl (fun _ => 0))), (q29, .inl (cI, 16, .inl (fun _ => 0))), (q42, .inl (cI, 24, .inl (fun _ => 0))), (q50, .inl (cJ, 64, .inr (.inl g406))), (q58, .inl (cJ, 8, .inr (.inl (fun _ => 0)))), (q66, .inl (cJ, 48, .inr (.inl (fun _ => 0)))), (q74, .inl (cJ, 64, .inr (.inl (fun _ => 0)))), (q82, .inl (cJ, 8, .inr (.inl (fun _ => 0)))), (q90, .inl (cJ, 8, .inr (.inl (fun _ => 0)))), (q98, .inl (cI, 8, .inl (fun _ => 0)))] := hD
  refine lv_aload_n hx hb d_MO_init_407 rfl (lv_at hl 0 rfl) ?_
  refine va_get (D := (dC, dI)) (ci := 5) (v := .ref q50) (C := R_MO) (T := F_MO) (N := 17) hx hb hts in_MO hown hK hP 0 rfl rfl 9 (by decide) (hts _ gw_527) (fun _ h9 => h9) rfl d_MO_init_408 ?_
  refine lv_bipush (v := 31) hx hb d_MO_init_411 (by decide) ?_
  refine lv_ldc2 (v := 338241895) hx hb hown (hts _ gw_477) d_MO_init_413 ?_
  refine va_last hx hb hK hP hD hS 6 1 rfl rfl (by unfold vp_in; decide +kernel) d_MO_init_416 (fun H locs hP hD hS => ?_)
  generalize hg416 : (vp_updL g406 ((31 : Int32)).toNatClampNeg (338241895 : Int64)) = g416 at hP hD
  have hP : va_P (dC, dI) classes [(h, .inr (5, [.int 0, .ref q7, .ref q14, .ref q21, .ref q29, .int (-1 : Int32), .int 0, .int 0, .ref q42, .ref q50, .ref q58, .int 0, .ref q66, .ref q74, .ref q82, .ref q90, .ref q98])), (q7, .inl (cI, 70, .inl (fun _ => 0))), (q14, .inl (cI, 2, .inl (fun _ => 0))), (q21, .inl (cI, 2, .inl (fun _ => 0))), (q29, .inl (cI, 16, .inl (fun _ => 0))), (q42, .inl (cI, 24, .inl (fun _ => 0))), (q50, .inl (cJ, 64, .inr (.inl g416))), (q58, .inl (cJ, 8, .inr (.inl (fun _ => 0)))), (q66, .inl (cJ, 48, .inr (.inl (fun _ => 0)))), (q74, .inl (cJ, 64, .inr (.inl (fun _ => 0)))), (q82, .inl (cJ, 8, .inr (.inl (fun _ => 0)))), (q90, .inl (cJ, 8, .inr (.inl (fun _ => 0)))), (q98, .inl (cI, 8, .inl (fun _ => 0)))] H := hP
  have hD : va_D A [(h, .inr (5, [.int 0, .ref q7, .ref q14, .ref q21, .ref q29, .int (-1 : Int32), .int 0, .int 0, .ref q42, .ref q50, .ref q58, .int 0, .ref q66, .ref q74, .ref q82, .ref q90, .ref q98])), (q7, .inl (cI, 70, .inl (fun _ => 0))), (q14, .inl (cI, 2, .inl (fun _ => 0))), (q21, .inl (cI, 2, .inl (fun _ => 0))), (q29, .inl (cI, 16, .inl (fun _ => 0))), (q42, .inl (cI, 24, .inl (fun _ => 0))), (q50, .inl (cJ, 64, .inr (.inl g416))), (q58, .inl (cJ, 8, .inr (.inl (fun _ => 0)))), (q66, .inl (cJ, 48, .inr (.inl (fun _ => 0)))), (q74, .inl (cJ, 64, .inr (.inl (fun _ => 0)))), (q82, .inl (cJ, 8, .inr (.inl (fun _ => 0)))), (q90, .inl (cJ, 8, .inr (.inl (fun _ => 0)))), (q98, .inl (cI, 8, .inl (fun _ => 0)))] := hD
  refine lv_aload_n hx hb d_MO_init_417 rfl (lv_at hl 0 rfl) ?_
  refine va_get (D := (dC, dI)) (ci := 5) (v := .ref q50) (C := R_MO) (T := F_MO) (N := 17) hx hb hts in_MO hown hK hP 0 rfl rfl 9 (by decide) (hts _ gw_527) (fun _ h9 => h9) rfl d_MO_init_418 ?_
  refine lv_bipush (v := 32) hx hb d_MO_init_421 (by decide) ?_
  refine lv_ldc2 (v := 666307205) hx hb hown (hts _ gw_478) d_MO_init_423 ?_
  refine va_last hx hb hK hP hD hS 6 1 rfl rfl (by unfold vp_in; decide +kernel) d_MO_init_426 (fun H locs hP hD hS => ?_)
  generalize hg426 : (vp_updL g416 ((32 : Int32)).toNatClampNeg (666307205 : Int64)) = g426 at hP hD
  have hP : va_P (dC, dI) classes [(h, .inr (5, [.int 0, .ref q7, .ref q14, .ref q21, .ref q29, .int (-1 : Int32), .int 0, .int 0, .ref q42, .ref q50, .ref q58, .int 0, .ref q66, .ref q74, .ref q82, .ref q90, .ref q98])), (q7, .inl (cI, 70, .inl (fun _ => 0))), (q14, .inl (cI, 2, .inl (fun _ => 0))), (q21, .inl (cI, 2, .inl (fun _ => 0))), (q29, .inl (cI, 16, .inl (fun _ => 0))), (q42, .inl (cI, 24, .inl (fun _ => 0))), (q50, .inl (cJ, 64, .inr (.inl g426))), (q58, .inl (cJ, 8, .inr (.inl (fun _ => 0)))), (q66, .inl (cJ, 48, .inr (.inl (fun _ => 0)))), (q74, .inl (cJ, 64, .inr (.inl (fun _ => 0)))), (q82, .inl (cJ, 8, .inr (.inl (fun _ => 0)))), (q90, .inl (cJ, 8, .inr (.inl (fun _ => 0)))), (q98, .inl (cI, 8, .inl (fun _ => 0)))] H := hP
  have hD : va_D A [(h, .inr (5, [.int 0, .ref q7, .ref q14, .ref q21, .ref q29, .int (-1 : Int32), .int 0, .int 0, .ref q42, .ref q50, .ref q58, .int 0, .ref q66, .ref q74, .ref q82, .ref q90, .ref q98])), (q7, .inl (cI, 70, .inl (fun _ => 0))), (q14, .inl (cI, 2, .inl (fun _ => 0))), (q21, .inl (cI, 2, .inl (fun _ => 0))), (q29, .inl (cI, 16, .inl (fun _ => 0))), (q42, .inl (cI, 24, .inl (fun _ => 0))), (q50, .inl (cJ, 64, .inr (.inl g426))), (q58, .inl (cJ, 8, .inr (.inl (fun _ => 0)))), (q66, .inl (cJ, 48, .inr (.inl (fun _ => 0)))), (q74, .inl (cJ, 64, .inr (.inl (fun _ => 0)))), (q82, .inl (cJ, 8, .inr (.inl (fun _ => 0)))), (q90, .inl (cJ, 8, .inr (.inl (fun _ => 0)))), (q98, .inl (cI, 8, .inl (fun _ => 0)))] := hD
  refine lv_aload_n hx hb d_MO_init_427 rfl (lv_at hl 0 rfl) ?_
  refine va_get (D := (dC, dI)) (ci := 5) (v := .ref q50) (C := R_MO) (T := F_MO) (N := 17) hx hb hts in_MO hown hK hP 0 rfl rfl 9 (by decide) (hts _ gw_527) (fun _ h9 => h9) rfl d_MO_init_428 ?_
  refine lv_bipush (v := 33) hx hb d_MO_init_431 (by decide) ?_
  refine lv_ldc2 (v := 773529912) hx hb hown (hts _ gw_479) d_MO_init_433 ?_
  refine va_last hx hb hK hP hD hS 6 1 rfl rfl (by unfold vp_in; decide +kernel) d_MO_init_436 (fun H locs hP hD hS => ?_)
  generalize hg436 : (vp_updL g426 ((33 : Int32)).toNatClampNeg (773529912 : Int64)) = g436 at hP hD
  have hP : va_P (dC, dI) classes [(h, .inr (5, [.int 0, .ref q7, .ref q14, .ref q21, .ref q29, .int (-1 : Int32), .int 0, .int 0, .ref q42, .ref q50, .ref q58, .int 0, .ref q66, .ref q74, .ref q82, .ref q90, .ref q98])), (q7, .inl (cI, 70, .inl (fun _ => 0))), (q14, .inl (cI, 2, .inl (fun _ => 0))), (q21, .inl (cI, 2, .inl (fun _ => 0))), (q29, .inl (cI, 16, .inl (fun _ => 0))), (q42, .inl (cI, 24, .inl (fun _ => 0))), (q50, .inl (cJ, 64, .inr (.inl g436))), (q58, .inl (cJ, 8, .inr (.inl (fun _ => 0)))), (q66, .inl (cJ, 48, .inr (.inl (fun _ => 0)))), (q74, .inl (cJ, 64, .inr (.inl (fun _ => 0)))), (q82, .inl (cJ, 8, .inr (.inl (fun _ => 0)))), (q90, .inl (cJ, 8, .inr (.inl (fun _ => 0)))), (q98, .inl (cI, 8, .inl (fun _ => 0)))] H := hP
  have hD : va_D A [(h, .inr (5, [.int 0, .ref q7, .ref q14, .ref q21, .ref q29, .int (-1 : Int32), .int 0, .int 0, .ref q42, .ref q50, .ref q58, .int 0, .ref q66, .ref q74, .ref q82, .ref q90, .ref q98])), (q7, .inl (cI, 70, .inl (fun _ => 0))), (q14, .inl (cI, 2, .inl (fun _ => 0))), (q21, .inl (cI, 2, .inl (fun _ => 0))), (q29, .inl (cI, 16, .inl (fun _ => 0))), (q42, .inl (cI, 24, .inl (fun _ => 0))), (q50, .inl (cJ, 64, .inr (.inl g436))), (q58, .inl (cJ, 8, .inr (.inl (fun _ => 0)))), (q66, .inl (cJ, 48, .inr (.inl (fun _ => 0)))), (q74, .inl (cJ, 64, .inr (.inl (fun _ => 0)))), (q82, .inl (cJ, 8, .inr (.inl (fun _ => 0)))), (q90, .inl (cJ, 8, .inr (.inl (fun _ => 0)))), (q98, .inl (cI, 8, .inl (fun _ => 0)))] := hD
  refine lv_aload_n hx hb d_MO_init_437 rfl (lv_at hl 0 rfl) ?_
  refine va_get (D := (dC, dI)) (ci := 5) (v := .ref q50) (C := R_MO) (T := F_MO) (N := 17) hx hb hts in_MO hown hK hP 0 rfl rfl 9 (by decide) (hts _ gw_527) (fun _ h9 => h9) rfl d_MO_init_438 ?_
  refine lv_bipush (v := 34) hx hb d_MO_init_441 (by decide) ?_
  refine lv_ldc2 (v := 1294757372) hx hb hown (hts _ gw_480) d_MO_init_443 ?_
  refine va_last hx hb hK hP hD hS 6 1 rfl rfl (by unfold vp_in; decide +kernel) d_MO_init_446 (fun H locs hP hD hS => ?_)
  generalize hg446 : (vp_updL g436 ((34 : Int32)).toNatClampNeg (1294757372 : Int64)) = g446 at hP hD
  have hP : va_P (dC, dI) classes [(h, .inr (5, [.int 0, .ref q7, .ref q14, .ref q21, .ref q29, .int (-1 : Int32), .int 0, .int 0, .ref q42, .ref q50, .ref q58, .int 0, .ref q66, .ref q74, .ref q82, .ref q90, .ref q98])), (q7, .inl (cI, 70, .inl (fun _ => 0))), (q14, .inl (cI, 2, .inl (fun _ => 0))), (q21, .inl (cI, 2, .inl (fun _ => 0))), (q29, .inl (cI, 16, .inl (fun _ => 0))), (q42, .inl (cI, 24, .inl (fun _ => 0))), (q50, .inl (cJ, 64, .inr (.inl g446))), (q58, .inl (cJ, 8, .inr (.inl (fun _ => 0)))), (q66, .inl (cJ, 48, .inr (.inl (fun _ => 0)))), (q74, .inl (cJ, 64, .inr (.inl (fun _ => 0)))), (q82, .inl (cJ, 8, .inr (.inl (fun _ => 0)))), (q90, .inl (cJ, 8, .inr (.inl (fun _ => 0)))), (q98, .inl (cI, 8, .inl (fun _ => 0)))] H := hP
  have hD : va_D A [(h, .inr (5, [.int 0, .ref q7, .ref q14, .ref q21, .ref q29, .int (-1 : Int32), .int 0, .int 0, .ref q42, .ref q50, .ref q58, .int 0, .ref q66, .ref q74, .ref q82, .ref q90, .ref q98])), (q7, .inl (cI, 70, .inl (fun _ => 0))), (q14, .inl (cI, 2, .inl (fun _ => 0))), (q21, .inl (cI, 2, .inl (fun _ => 0))), (q29, .inl (cI, 16, .inl (fun _ => 0))), (q42, .inl (cI, 24, .inl (fun _ => 0))), (q50, .inl (cJ, 64, .inr (.inl g446))), (q58, .inl (cJ, 8, .inr (.inl (fun _ => 0)))), (q66, .inl (cJ, 48, .inr (.inl (fun _ => 0)))), (q74, .inl (cJ, 64, .inr (.inl (fun _ => 0)))), (q82, .inl (cJ, 8, .inr (.inl (fun _ => 0)))), (q90, .inl (cJ, 8, .inr (.inl (fun _ => 0)))), (q98, .inl (cI, 8, .inl (fun _ => 0)))] := hD
  refine lv_aload_n hx hb d_MO_init_447 rfl (lv_at hl 0 rfl) ?_
  refine va_get (D := (dC, dI)) (ci := 5) (v := .ref q50) (C := R_MO) (T := F_MO) (N := 17) hx hb hts in_MO hown hK hP 0 rfl rfl 9 (by decide) (hts _ gw_527) (fun _ h9 => h9) rfl d_MO_init_448 ?_
  refine lv_bipush (v := 35) hx hb d_MO_init_451 (by decide) ?_
  refine lv_ldc2 (v := 1396182291) hx hb hown (hts _ gw_481) d_MO_init_453 ?_
  refine va_last hx hb hK hP hD hS 6 1 rfl rfl (by unfold vp_in; decide +kernel) d_MO_init_456 (fun H locs hP hD hS => ?_)
  generalize hg456 : (vp_updL g446 ((35 : Int32)).toNatClampNeg (1396182291 : Int64)) = g456 at hP hD
  have hP : va_P (dC, dI) classes [(h, .inr (5, [.int 0, .ref q7, .ref q14, .ref q21, .ref q29, .int (-1 : Int32), .int 0, .int 0, .ref q42, .ref q50, .ref q58, .int 0, .ref q66, .ref q74, .ref q82, .ref q90, .ref q98])), (q7, .inl (cI, 70, .inl (fun _ => 0))), (q14, .inl (cI, 2, .inl (fun _ => 0))), (q21, .inl (cI, 2, .inl (fun _ => 0))), (q29, .inl (cI, 16, .inl (fun _ => 0))), (q42, .inl (cI, 24, .inl (fun _ => 0))), (q50, .inl (cJ, 64, .inr (.inl g456))), (q58, .inl (cJ, 8, .inr (.inl (fun _ => 0)))), (q66, .inl (cJ, 48, .inr (.inl (fun _ => 0)))), (q74, .inl (cJ, 64, .inr (.inl (fun _ => 0)))), (q82, .inl (cJ, 8, .inr (.inl (fun _ => 0)))), (q90, .inl (cJ, 8, .inr (.inl (fun _ => 0)))), (q98, .inl (cI, 8, .inl (fun _ => 0)))] H := hP
  have hD : va_D A [(h, .inr (5, [.int 0, .ref q7, .ref q14, .ref q21, .ref q29, .int (-1 : Int32), .int 0, .int 0, .ref q42, .ref q50, .ref q58, .int 0, .ref q66, .ref q74, .ref q82, .ref q90, .ref q98])), (q7, .inl (cI, 70, .inl (fun _ => 0))), (q14, .inl (cI, 2, .inl (fun _ => 0))), (q21, .inl (cI, 2, .inl (fun _ => 0))), (q29, .inl (cI, 16, .inl (fun _ => 0))), (q42, .inl (cI, 24, .inl (fun _ => 0))), (q50, .inl (cJ, 64, .inr (.inl g456))), (q58, .inl (cJ, 8, .inr (.inl (fun _ => 0)))), (q66, .inl (cJ, 48, .inr (.inl (fun _ => 0)))), (q74, .inl (cJ, 64, .inr (.inl (fun _ => 0)))), (q82, .inl (cJ, 8, .inr (.inl (fun _ => 0)))), (q90, .inl (cJ, 8, .inr (.inl (fun _ => 0)))), (q98, .inl (cI, 8, .inl (fun _ => 0)))] := hD
  refine lv_aload_n hx hb d_MO_init_457 rfl (lv_at hl 0 rfl) ?_
  refine va_get (D := (dC, dI)) (ci := 5) (v := .ref q50) (C := R_MO) (T := F_MO) (N := 17) hx hb hts in_MO hown hK hP 0 rfl rfl 9 (by decide) (hts _ gw_527) (fun _ h9 => h9) rfl d_MO_init_458 ?_
  refine lv_bipush (v := 36) hx hb d_MO_init_461 (by decide) ?_
  refine lv_ldc2 (v := 1695183700) hx hb hown (hts _ gw_482) d_MO_init_463 ?_
  refine va_last hx hb hK hP hD hS 6 1 rfl rfl (by unfold vp_in; decide +kernel) d_MO_init_466 (fun H locs hP hD hS => ?_)
  generalize hg466 : (vp_updL g456 ((36 : Int32)).toNatClampNeg (1695183700 : Int64)) = g466 at hP hD
  have hP : va_P (dC, dI) classes [(h, .inr (5, [.int 0, .ref q7, .ref q14, .ref q21, .ref q29, .int (-1 : Int32), .int 0, .int 0, .ref q42, .ref q50, .ref q58, .int 0, .ref q66, .ref q74, .ref q82, .ref q90, .ref q98])), (q7, .inl (cI, 70, .inl (fun _ => 0))), (q14, .inl (cI, 2, .inl (fun _ => 0))), (q21, .inl (cI, 2, .inl (fun _ => 0))), (q29, .inl (cI, 16, .inl (fun _ => 0))), (q42, .inl (cI, 24, .inl (fun _ => 0))), (q50, .inl (cJ, 64, .inr (.inl g466))), (q58, .inl (cJ, 8, .inr (.inl (fun _ => 0)))), (q66, .inl (cJ, 48, .inr (.inl (fun _ => 0)))), (q74, .inl (cJ, 64, .inr (.inl (fun _ => 0)))), (q82, .inl (cJ, 8, .inr (.inl (fun _ => 0)))), (q90, .inl (cJ, 8, .inr (.inl (fun _ => 0)))), (q98, .inl (cI, 8, .inl (fun _ => 0)))] H := hP
  have hD : va_D A [(h, .inr (5, [.int 0, .ref q7, .ref q14, .ref q21, .ref q29, .int (-1 : Int32), .int 0, .int 0, .ref q42, .ref q50, .ref q58, .int 0, .ref q66, .ref q74, .ref q82, .ref q90, .ref q98])), (q7, .inl (cI, 70, .inl (fun _ => 0))), (q14, .inl (cI, 2, .inl (fun _ => 0))), (q21, .inl (cI, 2, .inl (fun _ => 0))), (q29, .inl (cI, 16, .inl (fun _ => 0))), (q42, .inl (cI, 24, .inl (fun _ => 0))), (q50, .inl (cJ, 64, .inr (.inl g466))), (q58, .inl (cJ, 8, .inr (.inl (fun _ => 0)))), (q66, .inl (cJ, 48, .inr (.inl (fun _ => 0)))), (q74, .inl (cJ, 64, .inr (.inl (fun _ => 0)))), (q82, .inl (cJ, 8, .inr (.inl (fun _ => 0)))), (q90, .inl (cJ, 8, .inr (.inl (fun _ => 0)))), (q98, .inl (cI, 8, .inl (fun _ => 0)))] := hD
  refine lv_aload_n hx hb d_MO_init_467 rfl (lv_at hl 0 rfl) ?_
  refine va_get (D := (dC, dI)) (ci := 5) (v := .ref q50) (C := R_MO) (T := F_MO) (N := 17) hx hb hts in_MO hown hK hP 0 rfl rfl 9 (by decide) (hts _ gw_527) (fun _ h9 => h9) rfl d_MO_init_468 ?_
  refine lv_bipush (v := 37) hx hb d_MO_init_471 (by decide) ?_
  refine lv_ldc2 (v := 1986661051) hx hb hown (hts _ gw_483) d_MO_init_473 ?_
  refine va_last hx hb hK hP hD hS 6 1 rfl rfl (by unfold vp_in; decide +kernel) d_MO_init_476 (fun H locs hP hD hS => ?_)
  generalize hg476 : (vp_updL g466 ((37 : Int32)).toNatClampNeg (1986661051 : Int64)) = g476 at hP hD
  have hP : va_P (dC, dI) classes [(h, .inr (5, [.int 0, .ref q7, .ref q14, .ref q21, .ref q29, .int (-1 : Int32), .int 0, .int 0, .ref q42, .ref q50, .ref q58, .int 0, .ref q66, .ref q74, .ref q82, .ref q90, .ref q98])), (q7, .inl (cI, 70, .inl (fun _ => 0))), (q14, .inl (cI, 2, .inl (fun _ => 0))), (q21, .inl (cI, 2, .inl (fun _ => 0))), (q29, .inl (cI, 16, .inl (fun _ => 0))), (q42, .inl (cI, 24, .inl (fun _ => 0))), (q50, .inl (cJ, 64, .inr (.inl g476))), (q58, .inl (cJ, 8, .inr (.inl (fun _ => 0)))), (q66, .inl (cJ, 48, .inr (.inl (fun _ => 0)))), (q74, .inl (cJ, 64, .inr (.inl (fun _ => 0)))), (q82, .inl (cJ, 8, .inr (.inl (fun _ => 0)))), (q90, .inl (cJ, 8, .inr (.inl (fun _ => 0)))), (q98, .inl (cI, 8, .inl (fun _ => 0)))] H := hP
  have hD : va_D A [(h, .inr (5, [.int 0, .ref q7, .ref q14, .ref q21, .ref q29, .int (-1 : Int32), .int 0, .int 0, .ref q42, .ref q50, .ref q58, .int 0, .ref q66, .ref q74, .ref q82, .ref q90, .ref q98])), (q7, .inl (cI, 70, .inl (fun _ => 0))), (q14, .inl (cI, 2, .inl (fun _ => 0))), (q21, .inl (cI, 2, .inl (fun _ => 0))), (q29, .inl (cI, 16, .inl (fun _ => 0))), (q42, .inl (cI, 24, .inl (fun _ => 0))), (q50, .inl (cJ, 64, .inr (.inl g476))), (q58, .inl (cJ, 8, .inr (.inl (fun _ => 0)))), (q66, .inl (cJ, 48, .inr (.inl (fun _ => 0)))), (q74, .inl (cJ, 64, .inr (.inl (fun _ => 0)))), (q82, .inl (cJ, 8, .inr (.inl (fun _ => 0)))), (q90, .inl (cJ, 8, .inr (.inl (fun _ => 0)))), (q98, .inl (cI, 8, .inl (fun _ => 0)))] := hD
  refine lv_aload_n hx hb d_MO_init_477 rfl (lv_at hl 0 rfl) ?_
  refine va_get (D := (dC, dI)) (ci := 5) (v := .ref q50) (C := R_MO) (T := F_MO) (N := 17) hx hb hts in_MO hown hK hP 0 rfl rfl 9 (by decide) (hts _ gw_527) (fun _ h9 => h9) rfl d_MO_init_478 ?_
  refine lv_bipush (v := 38) hx hb d_MO_init_481 (by decide) ?_
  refine lv_ldc2 (v := 2177026350) hx hb hown (hts _ gw_484) d_MO_init_483 ?_
  refine va_last hx hb hK hP hD hS 6 1 rfl rfl (by unfold vp_in; decide +kernel) d_MO_init_486 (fun H locs hP hD hS => ?_)
  generalize hg486 : (vp_updL g476 ((38 : Int32)).toNatClampNeg (2177026350 : Int64)) = g486 at hP hD
  have hP : va_P (dC, dI) classes [(h, .inr (5, [.int 0, .ref q7, .ref q14, .ref q21, .ref q29, .int (-1 : Int32), .int 0, .int 0, .ref q42, .ref q50, .ref q58, .int 0, .ref q66, .ref q74, .ref q82, .ref q90, .ref q98])), (q7, .inl (cI, 70, .inl (fun _ => 0))), (q14, .inl (cI, 2, .inl (fun _ => 0))), (q21, .inl (cI, 2, .inl (fun _ => 0))), (q29, .inl (cI, 16, .inl (fun _ => 0))), (q42, .inl (cI, 24, .inl (fun _ => 0))), (q50, .inl (cJ, 64, .inr (.inl g486))), (q58, .inl (cJ, 8, .inr (.inl (fun _ => 0)))), (q66, .inl (cJ, 48, .inr (.inl (fun _ => 0)))), (q74, .inl (cJ, 64, .inr (.inl (fun _ => 0)))), (q82, .inl (cJ, 8, .inr (.inl (fun _ => 0)))), (q90, .inl (cJ, 8, .inr (.inl (fun _ => 0)))), (q98, .inl (cI, 8, .inl (fun _ => 0)))] H := hP
  have hD : va_D A [(h, .inr (5, [.int 0, .ref q7, .ref q14, .ref q21, .ref q29, .int (-1 : Int32), .int 0, .int 0, .ref q42, .ref q50, .ref q58, .int 0, .ref q66, .ref q74, .ref q82, .ref q90, .ref q98])), (q7, .inl (cI, 70, .inl (fun _ => 0))), (q14, .inl (cI, 2, .inl (fun _ => 0))), (q21, .inl (cI, 2, .inl (fun _ => 0))), (q29, .inl (cI, 16, .inl (fun _ => 0))), (q42, .inl (cI, 24, .inl (fun _ => 0))), (q50, .inl (cJ, 64, .inr (.inl g486))), (q58, .inl (cJ, 8, .inr (.inl (fun _ => 0)))), (q66, .inl (cJ, 48, .inr (.inl (fun _ => 0)))), (q74, .inl (cJ, 64, .inr (.inl (fun _ => 0)))), (q82, .inl (cJ, 8, .inr (.inl (fun _ => 0)))), (q90, .inl (cJ, 8, .inr (.inl (fun _ => 0)))), (q98, .inl (cI, 8, .inl (fun _ => 0)))] := hD
  refine lv_aload_n hx hb d_MO_init_487 rfl (lv_at hl 0 rfl) ?_
  refine va_get (D := (dC, dI)) (ci := 5) (v := .ref q50) (C := R_MO) (T := F_MO) (N := 17) hx hb hts in_MO hown hK hP 0 rfl rfl 9 (by decide) (hts _ gw_527) (fun _ h9 => h9) rfl d_MO_init_488 ?_
  refine lv_bipush (v := 39) hx hb d_MO_init_491 (by decide) ?_
  refine lv_ldc2 (v := 2456956037) hx hb hown (hts _ gw_485) d_MO_init_493 ?_
  refine va_last hx hb hK hP hD hS 6 1 rfl rfl (by unfold vp_in; decide +kernel) d_MO_init_496 (fun H locs hP hD hS => ?_)
  generalize hg496 : (vp_updL g486 ((39 : Int32)).toNatClampNeg (2456956037 : Int64)) = g496 at hP hD
  have hP : va_P (dC, dI) classes [(h, .inr (5, [.int 0, .ref q7, .ref q14, .ref q21, .ref q29, .int (-1 : Int32), .int 0, .int 0, .ref q42, .ref q50, .ref q58, .int 0, .ref q66, .ref q74, .ref q82, .ref q90, .ref q98])), (q7, .inl (cI, 70, .inl (fun _ => 0))), (q14, .inl (cI, 2, .inl (fun _ => 0))), (q21, .inl (cI, 2, .inl (fun _ => 0))), (q29, .inl (cI, 16, .inl (fun _ => 0))), (q42, .inl (cI, 24, .inl (fun _ => 0))), (q50, .inl (cJ, 64, .inr (.inl g496))), (q58, .inl (cJ, 8, .inr (.inl (fun _ => 0)))), (q66, .inl (cJ, 48, .inr (.inl (fun _ => 0)))), (q74, .inl (cJ, 64, .inr (.inl (fun _ => 0)))), (q82, .inl (cJ, 8, .inr (.inl (fun _ => 0)))), (q90, .inl (cJ, 8, .inr (.inl (fun _ => 0)))), (q98, .inl (cI, 8, .inl (fun _ => 0)))] H := hP
  have hD : va_D A [(h, .inr (5, [.int 0, .ref q7, .ref q14, .ref q21, .ref q29, .int (-1 : Int32), .int 0, .int 0, .ref q42, .ref q50, .ref q58, .int 0, .ref q66, .ref q74, .ref q82, .ref q90, .ref q98])), (q7, .inl (cI, 70, .inl (fun _ => 0))), (q14, .inl (cI, 2, .inl (fun _ => 0))), (q21, .inl (cI, 2, .inl (fun _ => 0))), (q29, .inl (cI, 16, .inl (fun _ => 0))), (q42, .inl (cI, 24, .inl (fun _ => 0))), (q50, .inl (cJ, 64, .inr (.inl g496))), (q58, .inl (cJ, 8, .inr (.inl (fun _ => 0)))), (q66, .inl (cJ, 48, .inr (.inl (fun _ => 0)))), (q74, .inl (cJ, 64, .inr (.inl (fun _ => 0)))), (q82, .inl (cJ, 8, .inr (.inl (fun _ => 0)))), (q90, .inl (cJ, 8, .inr (.inl (fun _ => 0)))), (q98, .inl (cI, 8, .inl (fun _ => 0)))] := hD
  refine lv_aload_n hx hb d_MO_init_497 rfl (lv_at hl 0 rfl) ?_
  refine va_get (D := (dC, dI)) (ci := 5) (v := .ref q50) (C := R_MO) (T := F_MO) (N := 17) hx hb hts in_MO hown hK hP 0 rfl rfl 9 (by decide) (hts _ gw_527) (fun _ h9 => h9) rfl d_MO_init_498 ?_
  refine lv_bipush (v := 40) hx hb d_MO_init_501 (by decide) ?_
  refine lv_ldc2 (v := 2730485921) hx hb hown (hts _ gw_486) d_MO_init_503 ?_
  refine va_last hx hb hK hP hD hS 6 1 rfl rfl (by unfold vp_in; decide +kernel) d_MO_init_506 (fun H locs hP hD hS => ?_)
  generalize hg506 : (vp_updL g496 ((40 : Int32)).toNatClampNeg (2730485921 : Int64)) = g506 at hP hD
  have hP : va_P (dC, dI) classes [(h, .inr (5, [.int 0, .ref q7, .ref q14, .ref q21, .ref q29, .int (-1 : Int32), .int 0, .int 0, .ref q42, .ref q50, .ref q58, .int 0, .ref q66, .ref q74, .ref q82, .ref q90, .ref q98])), (q7, .inl (cI, 70, .inl (fun _ => 0))), (q14, .inl (cI, 2, .inl (fun _ => 0))), (q21, .inl (cI, 2, .inl (fun _ => 0))), (q29, .inl (cI, 16, .inl (fun _ => 0))), (q42, .inl (cI, 24, .inl (fun _ => 0))), (q50, .inl (cJ, 64, .inr (.inl g506))), (q58, .inl (cJ, 8, .inr (.inl (fun _ => 0)))), (q66, .inl (cJ, 48, .inr (.inl (fun _ => 0)))), (q74, .inl (cJ, 64, .inr (.inl (fun _ => 0)))), (q82, .inl (cJ, 8, .inr (.inl (fun _ => 0)))), (q90, .inl (cJ, 8, .inr (.inl (fun _ => 0)))), (q98, .inl (cI, 8, .inl (fun _ => 0)))] H := hP
  have hD : va_D A [(h, .inr (5, [.int 0, .ref q7, .ref q14, .ref q21, .ref q29, .int (-1 : Int32), .int 0, .int 0, .ref q42, .ref q50, .ref q58, .int 0, .ref q66, .ref q74, .ref q82, .ref q90, .ref q98])), (q7, .inl (cI, 70, .inl (fun _ => 0))), (q14, .inl (cI, 2, .inl (fun _ => 0))), (q21, .inl (cI, 2, .inl (fun _ => 0))), (q29, .inl (cI, 16, .inl (fun _ => 0))), (q42, .inl (cI, 24, .inl (fun _ => 0))), (q50, .inl (cJ, 64, .inr (.inl g506))), (q58, .inl (cJ, 8, .inr (.inl (fun _ => 0)))), (q66, .inl (cJ, 48, .inr (.inl (fun _ => 0)))), (q74, .inl (cJ, 64, .inr (.inl (fun _ => 0)))), (q82, .inl (cJ, 8, .inr (.inl (fun _ => 0)))), (q90, .inl (cJ, 8, .inr (.inl (fun _ => 0)))), (q98, .inl (cI, 8, .inl (fun _ => 0)))] := hD
  refine lv_aload_n hx hb d_MO_init_507 rfl (lv_at hl 0 rfl) ?_
  refine va_get (D := (dC, dI)) (ci := 5) (v := .ref q50) (C := R_MO) (T := F_MO) (N := 17) hx hb hts in_MO hown hK hP 0 rfl rfl 9 (by decide) (hts _ gw_527) (fun _ h9 => h9) rfl d_MO_init_508 ?_
  refine lv_bipush (v := 41) hx hb d_MO_init_511 (by decide) ?_
  refine lv_ldc2 (v := 2820302411) hx hb hown (hts _ gw_487) d_MO_init_513 ?_
  refine va_last hx hb hK hP hD hS 6 1 rfl rfl (by unfold vp_in; decide +kernel) d_MO_init_516 (fun H locs hP hD hS => ?_)
  generalize hg516 : (vp_updL g506 ((41 : Int32)).toNatClampNeg (2820302411 : Int64)) = g516 at hP hD
  have hP : va_P (dC, dI) classes [(h, .inr (5, [.int 0, .ref q7, .ref q14, .ref q21, .ref q29, .int (-1 : Int32), .int 0, .int 0, .ref q42, .ref q50, .ref q58, .int 0, .ref q66, .ref q74, .ref q82, .ref q90, .ref q98])), (q7, .inl (cI, 70, .inl (fun _ => 0))), (q14, .inl (cI, 2, .inl (fun _ => 0))), (q21, .inl (cI, 2, .inl (fun _ => 0))), (q29, .inl (cI, 16, .inl (fun _ => 0))), (q42, .inl (cI, 24, .inl (fun _ => 0))), (q50, .inl (cJ, 64, .inr (.inl g516))), (q58, .inl (cJ, 8, .inr (.inl (fun _ => 0)))), (q66, .inl (cJ, 48, .inr (.inl (fun _ => 0)))), (q74, .inl (cJ, 64, .inr (.inl (fun _ => 0)))), (q82, .inl (cJ, 8, .inr (.inl (fun _ => 0)))), (q90, .inl (cJ, 8, .inr (.inl (fun _ => 0)))), (q98, .inl (cI, 8, .inl (fun _ => 0)))] H := hP
  have hD : va_D A [(h, .inr (5, [.int 0, .ref q7, .ref q14, .ref q21, .ref q29, .int (-1 : Int32), .int 0, .int 0, .ref q42, .ref q50, .ref q58, .int 0, .ref q66, .ref q74, .ref q82, .ref q90, .ref q98])), (q7, .inl (cI, 70, .inl (fun _ => 0))), (q14, .inl (cI, 2, .inl (fun _ => 0))), (q21, .inl (cI, 2, .inl (fun _ => 0))), (q29, .inl (cI, 16, .inl (fun _ => 0))), (q42, .inl (cI, 24, .inl (fun _ => 0))), (q50, .inl (cJ, 64, .inr (.inl g516))), (q58, .inl (cJ, 8, .inr (.inl (fun _ => 0)))), (q66, .inl (cJ, 48, .inr (.inl (fun _ => 0)))), (q74, .inl (cJ, 64, .inr (.inl (fun _ => 0)))), (q82, .inl (cJ, 8, .inr (.inl (fun _ => 0)))), (q90, .inl (cJ, 8, .inr (.inl (fun _ => 0)))), (q98, .inl (cI, 8, .inl (fun _ => 0)))] := hD
  refine lv_aload_n hx hb d_MO_init_517 rfl (lv_at hl 0 rfl) ?_
  refine va_get (D := (dC, dI)) (ci := 5) (v := .ref q50) (C := R_MO) (T := F_MO) (N := 17) hx hb hts in_MO hown hK hP 0 rfl rfl 9 (by decide) (hts _ gw_527) (fun _ h9 => h9) rfl d_MO_init_518 ?_
  refine lv_bipush (v := 42) hx hb d_MO_init_521 (by decide) ?_
  refine lv_ldc2 (v := 3259730800) hx hb hown (hts _ gw_488) d_MO_init_523 ?_
  refine va_last hx hb hK hP hD hS 6 1 rfl rfl (by unfold vp_in; decide +kernel) d_MO_init_526 (fun H locs hP hD hS => ?_)
  generalize hg526 : (vp_updL g516 ((42 : Int32)).toNatClampNeg (3259730800 : Int64)) = g526 at hP hD
  have hP : va_P (dC, dI) classes [(h, .inr (5, [.int 0, .ref q7, .ref q14, .ref q21, .ref q29, .int (-1 : Int32), .int 0, .int 0, .ref q42, .ref q50, .ref q58, .int 0, .ref q66, .ref q74, .ref q82, .ref q90, .ref q98])), (q7, .inl (cI, 70, .inl (fun _ => 0))), (q14, .inl (cI, 2, .inl (fun _ => 0))), (q21, .inl (cI, 2, .inl (fun _ => 0))), (q29, .inl (cI, 16, .inl (fun _ => 0))), (q42, .inl (cI, 24, .inl (fun _ => 0))), (q50, .inl (cJ, 64, .inr (.inl g526))), (q58, .inl (cJ, 8, .inr (.inl (fun _ => 0)))), (q66, .inl (cJ, 48, .inr (.inl (fun _ => 0)))), (q74, .inl (cJ, 64, .inr (.inl (fun _ => 0)))), (q82, .inl (cJ, 8, .inr (.inl (fun _ => 0)))), (q90, .inl (cJ, 8, .inr (.inl (fun _ => 0)))), (q98, .inl (cI, 8, .inl (fun _ => 0)))] H := hP
  have hD : va_D A [(h, .inr (5, [.int 0, .ref q7, .ref q14, .ref q21, .ref q29, .int (-1 : Int32), .int 0, .int 0, .ref q42, .ref q50, .ref q58, .int 0, .ref q66, .ref q74, .ref q82, .ref q90, .ref q98])), (q7, .inl (cI, 70, .inl (fun _ => 0))), (q14, .inl (cI, 2, .inl (fun _ => 0))), (q21, .inl (cI, 2, .inl (fun _ => 0))), (q29, .inl (cI, 16, .inl (fun _ => 0))), (q42, .inl (cI, 24, .inl (fun _ => 0))), (q50, .inl (cJ, 64, .inr (.inl g526))), (q58, .inl (cJ, 8, .inr (.inl (fun _ => 0)))), (q66, .inl (cJ, 48, .inr (.inl (fun _ => 0)))), (q74, .inl (cJ, 64, .inr (.inl (fun _ => 0)))), (q82, .inl (cJ, 8, .inr (.inl (fun _ => 0)))), (q90, .inl (cJ, 8, .inr (.inl (fun _ => 0)))), (q98, .inl (cI, 8, .inl (fun _ => 0)))] := hD
  refine lv_aload_n hx hb d_MO_init_527 rfl (lv_at hl 0 rfl) ?_
  refine va_get (D := (dC, dI)) (ci := 5) (v := .ref q50) (C := R_MO) (T := F_MO) (N := 17) hx hb hts in_MO hown hK hP 0 rfl rfl 9 (by decide) (hts _ gw_527) (fun _ h9 => h9) rfl d_MO_init_528 ?_
  refine lv_bipush (v := 43) hx hb d_MO_init_531 (by decide) ?_
  refine lv_ldc2 (v := 3345764771) hx hb hown (hts _ gw_489) d_MO_init_533 ?_
  refine va_last hx hb hK hP hD hS 6 1 rfl rfl (by unfold vp_in; decide +kernel) d_MO_init_536 (fun H locs hP hD hS => ?_)
  generalize hg536 : (vp_updL g526 ((43 : Int32)).toNatClampNeg (3345764771 : Int64)) = g536 at hP hD
  have hP : va_P (dC, dI) classes [(h, .inr (5, [.int 0, .ref q7, .ref q14, .ref q21, .ref q29, .int (-1 : Int32), .int 0, .int 0, .ref q42, .ref q50, .ref q58, .int 0, .ref q66, .ref q74, .ref q82, .ref q90, .ref q98])), (q7, .inl (cI, 70, .inl (fun _ => 0))), (q14, .inl (cI, 2, .inl (fun _ => 0))), (q21, .inl (cI, 2, .inl (fun _ => 0))), (q29, .inl (cI, 16, .inl (fun _ => 0))), (q42, .inl (cI, 24, .inl (fun _ => 0))), (q50, .inl (cJ, 64, .inr (.inl g536))), (q58, .inl (cJ, 8, .inr (.inl (fun _ => 0)))), (q66, .inl (cJ, 48, .inr (.inl (fun _ => 0)))), (q74, .inl (cJ, 64, .inr (.inl (fun _ => 0)))), (q82, .inl (cJ, 8, .inr (.inl (fun _ => 0)))), (q90, .inl (cJ, 8, .inr (.inl (fun _ => 0)))), (q98, .inl (cI, 8, .inl (fun _ => 0)))] H := hP
  have hD : va_D A [(h, .inr (5, [.int 0, .ref q7, .ref q14, .ref q21, .ref q29, .int (-1 : Int32), .int 0, .int 0, .ref q42, .ref q50, .ref q58, .int 0, .ref q66, .ref q74, .ref q82, .ref q90, .ref q98])), (q7, .inl (cI, 70, .inl (fun _ => 0))), (q14, .inl (cI, 2, .inl (fun _ => 0))), (q21, .inl (cI, 2, .inl (fun _ => 0))), (q29, .inl (cI, 16, .inl (fun _ => 0))), (q42, .inl (cI, 24, .inl (fun _ => 0))), (q50, .inl (cJ, 64, .inr (.inl g536))), (q58, .inl (cJ, 8, .inr (.inl (fun _ => 0)))), (q66, .inl (cJ, 48, .inr (.inl (fun _ => 0)))), (q74, .inl (cJ, 64, .inr (.inl (fun _ => 0)))), (q82, .inl (cJ, 8, .inr (.inl (fun _ => 0)))), (q90, .inl (cJ, 8, .inr (.inl (fun _ => 0)))), (q98, .inl (cI, 8, .inl (fun _ => 0)))] := hD
  refine lv_aload_n hx hb d_MO_init_537 rfl (lv_at hl 0 rfl) ?_
  refine va_get (D := (dC, dI)) (ci := 5) (v := .ref q50) (C := R_MO) (T := F_MO) (N := 17) hx hb hts in_MO hown hK hP 0 rfl rfl 9 (by decide) (hts _ gw_527) (fun _ h9 => h9) rfl d_MO_init_538 ?_
  refine lv_bipush (v := 44) hx hb d_MO_init_541 (by decide) ?_
  refine lv_ldc2 (v := 3516065817) hx hb hown (hts _ gw_490) d_MO_init_543 ?_
  refine va_last hx hb hK hP hD hS 6 1 rfl rfl (by unfold vp_in; decide +kernel) d_MO_init_546 (fun H locs hP hD hS => ?_)
  generalize hg546 : (vp_updL g536 ((44 : Int32)).toNatClampNeg (3516065817 : Int64)) = g546 at hP hD
  have hP : va_P (dC, dI) classes [(h, .inr (5, [.int 0, .ref q7, .ref q14, .ref q21, .ref q29, .int (-1 : Int32), .int 0, .int 0, .ref q42, .ref q50, .ref q58, .int 0, .ref q66, .ref q74, .ref q82, .ref q90, .ref q98])), (q7, .inl (cI, 70, .inl (fun _ => 0))), (q14, .inl (cI, 2, .inl (fun _ => 0))), (q21, .inl (cI, 2, .inl (fun _ => 0))), (q29, .inl (cI, 16, .inl (fun _ => 0))), (q42, .inl (cI, 24, .inl (fun _ => 0))), (q50, .inl (cJ, 64, .inr (.inl g546))), (q58, .inl (cJ, 8, .inr (.inl (fun _ => 0)))), (q66, .inl (cJ, 48, .inr (.inl (fun _ => 0)))), (q74, .inl (cJ, 64, .inr (.inl (fun _ => 0)))), (q82, .inl (cJ, 8, .inr (.inl (fun _ => 0)))), (q90, .inl (cJ, 8, .inr (.inl (fun _ => 0)))), (q98, .inl (cI, 8, .inl (fun _ => 0)))] H := hP
  have hD : va_D A [(h, .inr (5, [.int 0, .ref q7, .ref q14, .ref q21, .ref q29, .int (-1 : Int32), .int 0, .int 0, .ref q42, .ref q50, .ref q58, .int 0, .ref q66, .ref q74, .ref q82, .ref q90, .ref q98])), (q7, .inl (cI, 70, .inl (fun _ => 0))), (q14, .inl (cI, 2, .inl (fun _ => 0))), (q21, .inl (cI, 2, .inl (fun _ => 0))), (q29, .inl (cI, 16, .inl (fun _ => 0))), (q42, .inl (cI, 24, .inl (fun _ => 0))), (q50, .inl (cJ, 64, .inr (.inl g546))), (q58, .inl (cJ, 8, .inr (.inl (fun _ => 0)))), (q66, .inl (cJ, 48, .inr (.inl (fun _ => 0)))), (q74, .inl (cJ, 64, .inr (.inl (fun _ => 0)))), (q82, .inl (cJ, 8, .inr (.inl (fun _ => 0)))), (q90, .inl (cJ, 8, .inr (.inl (fun _ => 0)))), (q98, .inl (cI, 8, .inl (fun _ => 0)))] := hD
  refine lv_aload_n hx hb d_MO_init_547 rfl (lv_at hl 0 rfl) ?_
  refine va_get (D := (dC, dI)) (ci := 5) (v := .ref q50) (C := R_MO) (T := F_MO) (N := 17) hx hb hts in_MO hown hK hP 0 rfl rfl 9 (by decide) (hts _ gw_527) (fun _ h9 => h9) rfl d_MO_init_548 ?_
  refine lv_bipush (v := 45) hx hb d_MO_init_551 (by decide) ?_
  refine lv_ldc2 (v := 3600352804) hx hb hown (hts _ gw_491) d_MO_init_553 ?_
  refine va_last hx hb hK hP hD hS 6 1 rfl rfl (by unfold vp_in; decide +kernel) d_MO_init_556 (fun H locs hP hD hS => ?_)
  generalize hg556 : (vp_updL g546 ((45 : Int32)).toNatClampNeg (3600352804 : Int64)) = g556 at hP hD
  have hP : va_P (dC, dI) classes [(h, .inr (5, [.int 0, .ref q7, .ref q14, .ref q21, .ref q29, .int (-1 : Int32), .int 0, .int 0, .ref q42, .ref q50, .ref q58, .int 0, .ref q66, .ref q74, .ref q82, .ref q90, .ref q98])), (q7, .inl (cI, 70, .inl (fun _ => 0))), (q14, .inl (cI, 2, .inl (fun _ => 0))), (q21, .inl (cI, 2, .inl (fun _ => 0))), (q29, .inl (cI, 16, .inl (fun _ => 0))), (q42, .inl (cI, 24, .inl (fun _ => 0))), (q50, .inl (cJ, 64, .inr (.inl g556))), (q58, .inl (cJ, 8, .inr (.inl (fun _ => 0)))), (q66, .inl (cJ, 48, .inr (.inl (fun _ => 0)))), (q74, .inl (cJ, 64, .inr (.inl (fun _ => 0)))), (q82, .inl (cJ, 8, .inr (.inl (fun _ => 0)))), (q90, .inl (cJ, 8, .inr (.inl (fun _ => 0)))), (q98, .inl (cI, 8, .inl (fun _ => 0)))] H := hP
  have hD : va_D A [(h, .inr (5, [.int 0, .ref q7, .ref q14, .ref q21, .ref q29, .int (-1 : Int32), .int 0, .int 0, .ref q42, .ref q50, .ref q58, .int 0, .ref q66, .ref q74, .ref q82, .ref q90, .ref q98])), (q7, .inl (cI, 70, .inl (fun _ => 0))), (q14, .inl (cI, 2, .inl (fun _ => 0))), (q21, .inl (cI, 2, .inl (fun _ => 0))), (q29, .inl (cI, 16, .inl (fun _ => 0))), (q42, .inl (cI, 24, .inl (fun _ => 0))), (q50, .inl (cJ, 64, .inr (.inl g556))), (q58, .inl (cJ, 8, .inr (.inl (fun _ => 0)))), (q66, .inl (cJ, 48, .inr (.inl (fun _ => 0)))), (q74, .inl (cJ, 64, .inr (.inl (fun _ => 0)))), (q82, .inl (cJ, 8, .inr (.inl (fun _ => 0)))), (q90, .inl (cJ, 8, .inr (.inl (fun _ => 0)))), (q98, .inl (cI, 8, .inl (fun _ => 0)))] := hD
  refine lv_aload_n hx hb d_MO_init_557 rfl (lv_at hl 0 rfl) ?_
  refine va_get (D := (dC, dI)) (ci := 5) (v := .ref q50) (C := R_MO) (T := F_MO) (N := 17) hx hb hts in_MO hown hK hP 0 rfl rfl 9 (by decide) (hts _ gw_527) (fun _ h9 => h9) rfl d_MO_init_558 ?_
  refine lv_bipush (v := 46) hx hb d_MO_init_561 (by decide) ?_
  refine lv_ldc2 (v := 4094571909) hx hb hown (hts _ gw_492) d_MO_init_563 ?_
  refine va_last hx hb hK hP hD hS 6 1 rfl rfl (by unfold vp_in; decide +kernel) d_MO_init_566 (fun H locs hP hD hS => ?_)
  generalize hg566 : (vp_updL g556 ((46 : Int32)).toNatClampNeg (4094571909 : Int64)) = g566 at hP hD
  have hP : va_P (dC, dI) classes [(h, .inr (5, [.int 0, .ref q7, .ref q14, .ref q21, .ref q29, .int (-1 : Int32), .int 0, .int 0, .ref q42, .ref q50, .ref q58, .int 0, .ref q66, .ref q74, .ref q82, .ref q90, .ref q98])), (q7, .inl (cI, 70, .inl (fun _ => 0))), (q14, .inl (cI, 2, .inl (fun _ => 0))), (q21, .inl (cI, 2, .inl (fun _ => 0))), (q29, .inl (cI, 16, .inl (fun _ => 0))), (q42, .inl (cI, 24, .inl (fun _ => 0))), (q50, .inl (cJ, 64, .inr (.inl g566))), (q58, .inl (cJ, 8, .inr (.inl (fun _ => 0)))), (q66, .inl (cJ, 48, .inr (.inl (fun _ => 0)))), (q74, .inl (cJ, 64, .inr (.inl (fun _ => 0)))), (q82, .inl (cJ, 8, .inr (.inl (fun _ => 0)))), (q90, .inl (cJ, 8, .inr (.inl (fun _ => 0)))), (q98, .inl (cI, 8, .inl (fun _ => 0)))] H := hP
  have hD : va_D A [(h, .inr (5, [.int 0, .ref q7, .ref q14, .ref q21, .ref q29, .int (-1 : Int32), .int 0, .int 0, .ref q42, .ref q50, .ref q58, .int 0, .ref q66, .ref q74, .ref q82, .ref q90, .ref q98])), (q7, .inl (cI, 70, .inl (fun _ => 0))), (q14, .inl (cI, 2, .inl (fun _ => 0))), (q21, .inl (cI, 2, .inl (fun _ => 0))), (q29, .inl (cI, 16, .inl (fun _ => 0))), (q42, .inl (cI, 24, .inl (fun _ => 0))), (q50, .inl (cJ, 64, .inr (.inl g566))), (q58, .inl (cJ, 8, .inr (.inl (fun _ => 0)))), (q66, .inl (cJ, 48, .inr (.inl (fun _ => 0)))), (q74, .inl (cJ, 64, .inr (.inl (fun _ => 0)))), (q82, .inl (cJ, 8, .inr (.inl (fun _ => 0)))), (q90, .inl (cJ, 8, .inr (.inl (fun _ => 0)))), (q98, .inl (cI, 8, .inl (fun _ => 0)))] := hD
  refine lv_aload_n hx hb d_MO_init_567 rfl (lv_at hl 0 rfl) ?_
  refine va_get (D := (dC, dI)) (ci := 5) (v := .ref q50) (C := R_MO) (T := F_MO) (N := 17) hx hb hts in_MO hown hK hP 0 rfl rfl 9 (by decide) (hts _ gw_527) (fun _ h9 => h9) rfl d_MO_init_568 ?_
  refine lv_bipush (v := 47) hx hb d_MO_init_571 (by decide) ?_
  refine lv_ldc2 (v := 275423344) hx hb hown (hts _ gw_493) d_MO_init_573 ?_
  refine va_last hx hb hK hP hD hS 6 1 rfl rfl (by unfold vp_in; decide +kernel) d_MO_init_576 (fun H locs hP hD hS => ?_)
  generalize hg576 : (vp_updL g566 ((47 : Int32)).toNatClampNeg (275423344 : Int64)) = g576 at hP hD
  have hP : va_P (dC, dI) classes [(h, .inr (5, [.int 0, .ref q7, .ref q14, .ref q21, .ref q29, .int (-1 : Int32), .int 0, .int 0, .ref q42, .ref q50, .ref q58, .int 0, .ref q66, .ref q74, .ref q82, .ref q90, .ref q98])), (q7, .inl (cI, 70, .inl (fun _ => 0))), (q14, .inl (cI, 2, .inl (fun _ => 0))), (q21, .inl (cI, 2, .inl (fun _ => 0))), (q29, .inl (cI, 16, .inl (fun _ => 0))), (q42, .inl (cI, 24, .inl (fun _ => 0))), (q50, .inl (cJ, 64, .inr (.inl g576))), (q58, .inl (cJ, 8, .inr (.inl (fun _ => 0)))), (q66, .inl (cJ, 48, .inr (.inl (fun _ => 0)))), (q74, .inl (cJ, 64, .inr (.inl (fun _ => 0)))), (q82, .inl (cJ, 8, .inr (.inl (fun _ => 0)))), (q90, .inl (cJ, 8, .inr (.inl (fun _ => 0)))), (q98, .inl (cI, 8, .inl (fun _ => 0)))] H := hP
  have hD : va_D A [(h, .inr (5, [.int 0, .ref q7, .ref q14, .ref q21, .ref q29, .int (-1 : Int32), .int 0, .int 0, .ref q42, .ref q50, .ref q58, .int 0, .ref q66, .ref q74, .ref q82, .ref q90, .ref q98])), (q7, .inl (cI, 70, .inl (fun _ => 0))), (q14, .inl (cI, 2, .inl (fun _ => 0))), (q21, .inl (cI, 2, .inl (fun _ => 0))), (q29, .inl (cI, 16, .inl (fun _ => 0))), (q42, .inl (cI, 24, .inl (fun _ => 0))), (q50, .inl (cJ, 64, .inr (.inl g576))), (q58, .inl (cJ, 8, .inr (.inl (fun _ => 0)))), (q66, .inl (cJ, 48, .inr (.inl (fun _ => 0)))), (q74, .inl (cJ, 64, .inr (.inl (fun _ => 0)))), (q82, .inl (cJ, 8, .inr (.inl (fun _ => 0)))), (q90, .inl (cJ, 8, .inr (.inl (fun _ => 0)))), (q98, .inl (cI, 8, .inl (fun _ => 0)))] := hD
  refine lv_aload_n hx hb d_MO_init_577 rfl (lv_at hl 0 rfl) ?_
  refine va_get (D := (dC, dI)) (ci := 5) (v := .ref q50) (C := R_MO) (T := F_MO) (N := 17) hx hb hts in_MO hown hK hP 0 rfl rfl 9 (by decide) (hts _ gw_527) (fun _ h9 => h9) rfl d_MO_init_578 ?_
  refine lv_bipush (v := 48) hx hb d_MO_init_581 (by decide) ?_
  refine lv_ldc2 (v := 430227734) hx hb hown (hts _ gw_494) d_MO_init_583 ?_
  refine va_last hx hb hK hP hD hS 6 1 rfl rfl (by unfold vp_in; decide +kernel) d_MO_init_586 (fun H locs hP hD hS => ?_)
  generalize hg586 : (vp_updL g576 ((48 : Int32)).toNatClampNeg (430227734 : Int64)) = g586 at hP hD
  have hP : va_P (dC, dI) classes [(h, .inr (5, [.int 0, .ref q7, .ref q14, .ref q21, .ref q29, .int (-1 : Int32), .int 0, .int 0, .ref q42, .ref q50, .ref q58, .int 0, .ref q66, .ref q74, .ref q82, .ref q90, .ref q98])), (q7, .inl (cI, 70, .inl (fun _ => 0))), (q14, .inl (cI, 2, .inl (fun _ => 0))), (q21, .inl (cI, 2, .inl (fun _ => 0))), (q29, .inl (cI, 16, .inl (fun _ => 0))), (q42, .inl (cI, 24, .inl (fun _ => 0))), (q50, .inl (cJ, 64, .inr (.inl g586))), (q58, .inl (cJ, 8, .inr (.inl (fun _ => 0)))), (q66, .inl (cJ, 48, .inr (.inl (fun _ => 0)))), (q74, .inl (cJ, 64, .inr (.inl (fun _ => 0)))), (q82, .inl (cJ, 8, .inr (.inl (fun _ => 0)))), (q90, .inl (cJ, 8, .inr (.inl (fun _ => 0)))), (q98, .inl (cI, 8, .inl (fun _ => 0)))] H := hP
  have hD : va_D A [(h, .inr (5, [.int 0, .ref q7, .ref q14, .ref q21, .ref q29, .int (-1 : Int32), .int 0, .int 0, .ref q42, .ref q50, .ref q58, .int 0, .ref q66, .ref q74, .ref q82, .ref q90, .ref q98])), (q7, .inl (cI, 70, .inl (fun _ => 0))), (q14, .inl (cI, 2, .inl (fun _ => 0))), (q21, .inl (cI, 2, .inl (fun _ => 0))), (q29, .inl (cI, 16, .inl (fun _ => 0))), (q42, .inl (cI, 24, .inl (fun _ => 0))), (q50, .inl (cJ, 64, .inr (.inl g586))), (q58, .inl (cJ, 8, .inr (.inl (fun _ => 0)))), (q66, .inl (cJ, 48, .inr (.inl (fun _ => 0)))), (q74, .inl (cJ, 64, .inr (.inl (fun _ => 0)))), (q82, .inl (cJ, 8, .inr (.inl (fun _ => 0)))), (q90, .inl (cJ, 8, .inr (.inl (fun _ => 0)))), (q98, .inl (cI, 8, .inl (fun _ => 0)))] := hD
  refine lv_aload_n hx hb d_MO_init_587 rfl (lv_at hl 0 rfl) ?_
  refine va_get (D := (dC, dI)) (ci := 5) (v := .ref q50) (C := R_MO) (T := F_MO) (N := 17) hx hb hts in_MO hown hK hP 0 rfl rfl 9 (by decide) (hts _ gw_527) (fun _ h9 => h9) rfl d_MO_init_588 ?_
  refine lv_bipush (v := 49) hx hb d_MO_init_591 (by decide) ?_
  refine lv_ldc2 (v := 506948616) hx hb hown (hts _ gw_495) d_MO_init_593 ?_
  refine va_last hx hb hK hP hD hS 6 1 rfl rfl (by unfold vp_in; decide +kernel) d_MO_init_596 (fun H locs hP hD hS => ?_)
  generalize hg596 : (vp_updL g586 ((49 : Int32)).toNatClampNeg (506948616 : Int64)) = g596 at hP hD
  have hP : va_P (dC, dI) classes [(h, .inr (5, [.int 0, .ref q7, .ref q14, .ref q21, .ref q29, .int (-1 : Int32), .int 0, .int 0, .ref q42, .ref q50, .ref q58, .int 0, .ref q66, .ref q74, .ref q82, .ref q90, .ref q98])), (q7, .inl (cI, 70, .inl (fun _ => 0))), (q14, .inl (cI, 2, .inl (fun _ => 0))), (q21, .inl (cI, 2, .inl (fun _ => 0))), (q29, .inl (cI, 16, .inl (fun _ => 0))), (q42, .inl (cI, 24, .inl (fun _ => 0))), (q50, .inl (cJ, 64, .inr (.inl g596))), (q58, .inl (cJ, 8, .inr (.inl (fun _ => 0)))), (q66, .inl (cJ, 48, .inr (.inl (fun _ => 0)))), (q74, .inl (cJ, 64, .inr (.inl (fun _ => 0)))), (q82, .inl (cJ, 8, .inr (.inl (fun _ => 0)))), (q90, .inl (cJ, 8, .inr (.inl (fun _ => 0)))), (q98, .inl (cI, 8, .inl (fun _ => 0)))] H := hP
  have hD : va_D A [(h, .inr (5, [.int 0, .ref q7, .ref q14, .ref q21, .ref q29, .int (-1 : Int32), .int 0, .int 0, .ref q42, .ref q50, .ref q58, .int 0, .ref q66, .ref q74, .ref q82, .ref q90, .ref q98])), (q7, .inl (cI, 70, .inl (fun _ => 0))), (q14, .inl (cI, 2, .inl (fun _ => 0))), (q21, .inl (cI, 2, .inl (fun _ => 0))), (q29, .inl (cI, 16, .inl (fun _ => 0))), (q42, .inl (cI, 24, .inl (fun _ => 0))), (q50, .inl (cJ, 64, .inr (.inl g596))), (q58, .inl (cJ, 8, .inr (.inl (fun _ => 0)))), (q66, .inl (cJ, 48, .inr (.inl (fun _ => 0)))), (q74, .inl (cJ, 64, .inr (.inl (fun _ => 0)))), (q82, .inl (cJ, 8, .inr (.inl (fun _ => 0)))), (q90, .inl (cJ, 8, .inr (.inl (fun _ => 0)))), (q98, .inl (cI, 8, .inl (fun _ => 0)))] := hD
  refine lv_aload_n hx hb d_MO_init_597 rfl (lv_at hl 0 rfl) ?_
  refine va_get (D := (dC, dI)) (ci := 5) (v := .ref q50) (C := R_MO) (T := F_MO) (N := 17) hx hb hts in_MO hown hK hP 0 rfl rfl 9 (by decide) (hts _ gw_527) (fun _ h9 => h9) rfl d_MO_init_598 ?_
  refine lv_bipush (v := 50) hx hb d_MO_init_601 (by decide) ?_
  refine lv_ldc2 (v := 659060556) hx hb hown (hts _ gw_496) d_MO_init_603 ?_
  refine va_last hx hb hK hP hD hS 6 1 rfl rfl (by unfold vp_in; decide +kernel) d_MO_init_606 (fun H locs hP hD hS => ?_)
  generalize hg606 : (vp_updL g596 ((50 : Int32)).toNatClampNeg (659060556 : Int64)) = g606 at hP hD
  have hP : va_P (dC, dI) classes [(h, .inr (5, [.int 0, .ref q7, .ref q14, .ref q21, .ref q29, .int (-1 : Int32), .int 0, .int 0, .ref q42, .ref q50, .ref q58, .int 0, .ref q66, .ref q74, .ref q82, .ref q90, .ref q98])), (q7, .inl (cI, 70, .inl (fun _ => 0))), (q14, .inl (cI, 2, .inl (fun _ => 0))), (q21, .inl (cI, 2, .inl (fun _ => 0))), (q29, .inl (cI, 16, .inl (fun _ => 0))), (q42, .inl (cI, 24, .inl (fun _ => 0))), (q50, .inl (cJ, 64, .inr (.inl g606))), (q58, .inl (cJ, 8, .inr (.inl (fun _ => 0)))), (q66, .inl (cJ, 48, .inr (.inl (fun _ => 0)))), (q74, .inl (cJ, 64, .inr (.inl (fun _ => 0)))), (q82, .inl (cJ, 8, .inr (.inl (fun _ => 0)))), (q90, .inl (cJ, 8, .inr (.inl (fun _ => 0)))), (q98, .inl (cI, 8, .inl (fun _ => 0)))] H := hP
  have hD : va_D A [(h, .inr (5, [.int 0, .ref q7, .ref q14, .ref q21, .ref q29, .int (-1 : Int32), .int 0, .int 0, .ref q42, .ref q50, .ref q58, .int 0, .ref q66, .ref q74, .ref q82, .ref q90, .ref q98])), (q7, .inl (cI, 70, .inl (fun _ => 0))), (q14, .inl (cI, 2, .inl (fun _ => 0))), (q21, .inl (cI, 2, .inl (fun _ => 0))), (q29, .inl (cI, 16, .inl (fun _ => 0))), (q42, .inl (cI, 24, .inl (fun _ => 0))), (q50, .inl (cJ, 64, .inr (.inl g606))), (q58, .inl (cJ, 8, .inr (.inl (fun _ => 0)))), (q66, .inl (cJ, 48, .inr (.inl (fun _ => 0)))), (q74, .inl (cJ, 64, .inr (.inl (fun _ => 0)))), (q82, .inl (cJ, 8, .inr (.inl (fun _ => 0)))), (q90, .inl (cJ, 8, .inr (.inl (fun _ => 0)))), (q98, .inl (cI, 8, .inl (fun _ => 0)))] := hD
  refine lv_aload_n hx hb d_MO_init_607 rfl (lv_at hl 0 rfl) ?_
  refine va_get (D := (dC, dI)) (ci := 5) (v := .ref q50) (C := R_MO) (T := F_MO) (N := 17) hx hb hts in_MO hown hK hP 0 rfl rfl 9 (by decide) (hts _ gw_527) (fun _ h9 => h9) rfl d_MO_init_608 ?_
  refine lv_bipush (v := 51) hx hb d_MO_init_611 (by decide) ?_
  refine lv_ldc2 (v := 883997877) hx hb hown (hts _ gw_497) d_MO_init_613 ?_
  refine va_last hx hb hK hP hD hS 6 1 rfl rfl (by unfold vp_in; decide +kernel) d_MO_init_616 (fun H locs hP hD hS => ?_)
  generalize hg616 : (vp_updL g606 ((51 : Int32)).toNatClampNeg (883997877 : Int64)) = g616 at hP hD
  have hP : va_P (dC, dI) classes [(h, .inr (5, [.int 0, .ref q7, .ref q14, .ref q21, .ref q29, .int (-1 : Int32), .int 0, .int 0, .ref q42, .ref q50, .ref q58, .int 0, .ref q66, .ref q74, .ref q82, .ref q90, .ref q98])), (q7, .inl (cI, 70, .inl (fun _ => 0))), (q14, .inl (cI, 2, .inl (fun _ => 0))), (q21, .inl (cI, 2, .inl (fun _ => 0))), (q29, .inl (cI, 16, .inl (fun _ => 0))), (q42, .inl (cI, 24, .inl (fun _ => 0))), (q50, .inl (cJ, 64, .inr (.inl g616))), (q58, .inl (cJ, 8, .inr (.inl (fun _ => 0)))), (q66, .inl (cJ, 48, .inr (.inl (fun _ => 0)))), (q74, .inl (cJ, 64, .inr (.inl (fun _ => 0)))), (q82, .inl (cJ, 8, .inr (.inl (fun _ => 0)))), (q90, .inl (cJ, 8, .inr (.inl (fun _ => 0)))), (q98, .inl (cI, 8, .inl (fun _ => 0)))] H := hP
  have hD : va_D A [(h, .inr (5, [.int 0, .ref q7, .ref q14, .ref q21, .ref q29, .int (-1 : Int32), .int 0, .int 0, .ref q42, .ref q50, .ref q58, .int 0, .ref q66, .ref q74, .ref q82, .ref q90, .ref q98])), (q7, .inl (cI, 70, .inl (fun _ => 0))), (q14, .inl (cI, 2, .inl (fun _ => 0))), (q21, .inl (cI, 2, .inl (fun _ => 0))), (q29, .inl (cI, 16, .inl (fun _ => 0))), (q42, .inl (cI, 24, .inl (fun _ => 0))), (q50, .inl (cJ, 64, .inr (.inl g616))), (q58, .inl (cJ, 8, .inr (.inl (fun _ => 0)))), (q66, .inl (cJ, 48, .inr (.inl (fun _ => 0)))), (q74, .inl (cJ, 64, .inr (.inl (fun _ => 0)))), (q82, .inl (cJ, 8, .inr (.inl (fun _ => 0)))), (q90, .inl (cJ, 8, .inr (.inl (fun _ => 0)))), (q98, .inl (cI, 8, .inl (fun _ => 0)))] := hD
  refine lv_aload_n hx hb d_MO_init_617 rfl (lv_at hl 0 rfl) ?_
  refine va_get (D := (dC, dI)) (ci := 5) (v := .ref q50) (C := R_MO) (T := F_MO) (N := 17) hx hb hts in_MO hown hK hP 0 rfl rfl 9 (by decide) (hts _ gw_527) (fun _ h9 => h9) rfl d_MO_init_618 ?_
  refine lv_bipush (v := 52) hx hb d_MO_init_621 (by decide) ?_
  refine lv_ldc2 (v := 958139571) hx hb hown (hts _ gw_498) d_MO_init_623 ?_
  refine va_last hx hb hK hP hD hS 6 1 rfl rfl (by unfold vp_in; decide +kernel) d_MO_init_626 (fun H locs hP hD hS => ?_)
  generalize hg626 : (vp_updL g616 ((52 : Int32)).toNatClampNeg (958139571 : Int64)) = g626 at hP hD
  have hP : va_P (dC, dI) classes [(h, .inr (5, [.int 0, .ref q7, .ref q14, .ref q21, .ref q29, .int (-1 : Int32), .int 0, .int 0, .ref q42, .ref q50, .ref q58, .int 0, .ref q66, .ref q74, .ref q82, .ref q90, .ref q98])), (q7, .inl (cI, 70, .inl (fun _ => 0))), (q14, .inl (cI, 2, .inl (fun _ => 0))), (q21, .inl (cI, 2, .inl (fun _ => 0))), (q29, .inl (cI, 16, .inl (fun _ => 0))), (q42, .inl (cI, 24, .inl (fun _ => 0))), (q50, .inl (cJ, 64, .inr (.inl g626))), (q58, .inl (cJ, 8, .inr (.inl (fun _ => 0)))), (q66, .inl (cJ, 48, .inr (.inl (fun _ => 0)))), (q74, .inl (cJ, 64, .inr (.inl (fun _ => 0)))), (q82, .inl (cJ, 8, .inr (.inl (fun _ => 0)))), (q90, .inl (cJ, 8, .inr (.inl (fun _ => 0)))), (q98, .inl (cI, 8, .inl (fun _ => 0)))] H := hP
  have hD : va_D A [(h, .inr (5, [.int 0, .ref q7, .ref q14, .ref q21, .ref q29, .int (-1 : Int32), .int 0, .int 0, .ref q42, .ref q50, .ref q58, .int 0, .ref q66, .ref q74, .ref q82, .ref q90, .ref q98])), (q7, .inl (cI, 70, .inl (fun _ => 0))), (q14, .inl (cI, 2, .inl (fun _ => 0))), (q21, .inl (cI, 2, .inl (fun _ => 0))), (q29, .inl (cI, 16, .inl (fun _ => 0))), (q42, .inl (cI, 24, .inl (fun _ => 0))), (q50, .inl (cJ, 64, .inr (.inl g626))), (q58, .inl (cJ, 8, .inr (.inl (fun _ => 0)))), (q66, .inl (cJ, 48, .inr (.inl (fun _ => 0)))), (q74, .inl (cJ, 64, .inr (.inl (fun _ => 0)))), (q82, .inl (cJ, 8, .inr (.inl (fun _ => 0)))), (q90, .inl (cJ, 8, .inr (.inl (fun _ => 0)))), (q98, .inl (cI, 8, .inl (fun _ => 0)))] := hD
  refine lv_aload_n hx hb d_MO_init_627 rfl (lv_at hl 0 rfl) ?_
  refine va_get (D := (dC, dI)) (ci := 5) (v := .ref q50) (C := R_MO) (T := F_MO) (N := 17) hx hb hts in_MO hown hK hP 0 rfl rfl 9 (by decide) (hts _ gw_527) (fun _ h9 => h9) rfl d_MO_init_628 ?_
  refine lv_bipush (v := 53) hx hb d_MO_init_631 (by decide) ?_
  refine lv_ldc2 (v := 1322822218) hx hb hown (hts _ gw_499) d_MO_init_633 ?_
  refine va_last hx hb hK hP hD hS 6 1 rfl rfl (by unfold vp_in; decide +kernel) d_MO_init_636 (fun H locs hP hD hS => ?_)
  generalize hg636 : (vp_updL g626 ((53 : Int32)).toNatClampNeg (1322822218 : Int64)) = g636 at hP hD
  have hP : va_P (dC, dI) classes [(h, .inr (5, [.int 0, .ref q7, .ref q14, .ref q21, .ref q29, .int (-1 : Int32), .int 0, .int 0, .ref q42, .ref q50, .ref q58, .int 0, .ref q66, .ref q74, .ref q82, .ref q90, .ref q98])), (q7, .inl (cI, 70, .inl (fun _ => 0))), (q14, .inl (cI, 2, .inl (fun _ => 0))), (q21, .inl (cI, 2, .inl (fun _ => 0))), (q29, .inl (cI, 16, .inl (fun _ => 0))), (q42, .inl (cI, 24, .inl (fun _ => 0))), (q50, .inl (cJ, 64, .inr (.inl g636))), (q58, .inl (cJ, 8, .inr (.inl (fun _ => 0)))), (q66, .inl (cJ, 48, .inr (.inl (fun _ => 0)))), (q74, .inl (cJ, 64, .inr (.inl (fun _ => 0)))), (q82, .inl (cJ, 8, .inr (.inl (fun _ => 0)))), (q90, .inl (cJ, 8, .inr (.inl (fun _ => 0)))), (q98, .inl (cI, 8, .inl (fun _ => 0)))] H := hP
  have hD : va_D A [(h, .inr (5, [.int 0, .ref q7, .ref q14, .ref q21, .ref q29, .int (-1 : Int32), .int 0, .int 0, .ref q42, .ref q50, .ref q58, .int 0, .ref q66, .ref q74, .ref q82, .ref q90, .ref q98])), (q7, .inl (cI, 70, .inl (fun _ => 0))), (q14, .inl (cI, 2, .inl (fun _ => 0))), (q21, .inl (cI, 2, .inl (fun _ => 0))), (q29, .inl (cI, 16, .inl (fun _ => 0))), (q42, .inl (cI, 24, .inl (fun _ => 0))), (q50, .inl (cJ, 64, .inr (.inl g636))), (q58, .inl (cJ, 8, .inr (.inl (fun _ => 0)))), (q66, .inl (cJ, 48, .inr (.inl (fun _ => 0)))), (q74, .inl (cJ, 64, .inr (.inl (fun _ => 0)))), (q82, .inl (cJ, 8, .inr (.inl (fun _ => 0)))), (q90, .inl (cJ, 8, .inr (.inl (fun _ => 0)))), (q98, .inl (cI, 8, .inl (fun _ => 0)))] := hD
  refine lv_aload_n hx hb d_MO_init_637 rfl (lv_at hl 0 rfl) ?_
  refine va_get (D := (dC, dI)) (ci := 5) (v := .ref q50) (C := R_MO) (T := F_MO) (N := 17) hx hb hts in_MO hown hK hP 0 rfl rfl 9 (by decide) (hts _ gw_527) (fun _ h9 => h9) rfl d_MO_init_638 ?_
  refine lv_bipush (v := 54) hx hb d_MO_init_641 (by decide) ?_
  refine lv_ldc2 (v := 1537002063) hx hb hown (hts _ gw_500) d_MO_init_643 ?_
  refine va_last hx hb hK hP hD hS 6 1 rfl rfl (by unfold vp_in; decide +kernel) d_MO_init_646 (fun H locs hP hD hS => ?_)
  generalize hg646 : (vp_updL g636 ((54 : Int32)).toNatClampNeg (1537002063 : Int64)) = g646 at hP hD
  have hP : va_P (dC, dI) classes [(h, .inr (5, [.int 0, .ref q7, .ref q14, .ref q21, .ref q29, .int (-1 : Int32), .int 0, .int 0, .ref q42, .ref q50, .ref q58, .int 0, .ref q66, .ref q74, .ref q82, .ref q90, .ref q98])), (q7, .inl (cI, 70, .inl (fun _ => 0))), (q14, .inl (cI, 2, .inl (fun _ => 0))), (q21, .inl (cI, 2, .inl (fun _ => 0))), (q29, .inl (cI, 16, .inl (fun _ => 0))), (q42, .inl (cI, 24, .inl (fun _ => 0))), (q50, .inl (cJ, 64, .inr (.inl g646))), (q58, .inl (cJ, 8, .inr (.inl (fun _ => 0)))), (q66, .inl (cJ, 48, .inr (.inl (fun _ => 0)))), (q74, .inl (cJ, 64, .inr (.inl (fun _ => 0)))), (q82, .inl (cJ, 8, .inr (.inl (fun _ => 0)))), (q90, .inl (cJ, 8, .inr (.inl (fun _ => 0)))), (q98, .inl (cI, 8, .inl (fun _ => 0)))] H := hP
  have hD : va_D A [(h, .inr (5, [.int 0, .ref q7, .ref q14, .ref q21, .ref q29, .int (-1 : Int32), .int 0, .int 0, .ref q42, .ref q50, .ref q58, .int 0, .ref q66, .ref q74, .ref q82, .ref q90, .ref q98])), (q7, .inl (cI, 70, .inl (fun _ => 0))), (q14, .inl (cI, 2, .inl (fun _ => 0))), (q21, .inl (cI, 2, .inl (fun _ => 0))), (q29, .inl (cI, 16, .inl (fun _ => 0))), (q42, .inl (cI, 24, .inl (fun _ => 0))), (q50, .inl (cJ, 64, .inr (.inl g646))), (q58, .inl (cJ, 8, .inr (.inl (fun _ => 0)))), (q66, .inl (cJ, 48, .inr (.inl (fun _ => 0)))), (q74, .inl (cJ, 64, .inr (.inl (fun _ => 0)))), (q82, .inl (cJ, 8, .inr (.inl (fun _ => 0)))), (q90, .inl (cJ, 8, .inr (.inl (fun _ => 0)))), (q98, .inl (cI, 8, .inl (fun _ => 0)))] := hD
  refine lv_aload_n hx hb d_MO_init_647 rfl (lv_at hl 0 rfl) ?_
  refine va_get (D := (dC, dI)) (ci := 5) (v := .ref q50) (C := R_MO) (T := F_MO) (N := 17) hx hb hts in_MO hown hK hP 0 rfl rfl 9 (by decide) (hts _ gw_527) (fun _ h9 => h9) rfl d_MO_init_648 ?_
  refine lv_bipush (v := 55) hx hb d_MO_init_651 (by decide) ?_
  refine lv_ldc2 (v := 1747873779) hx hb hown (hts _ gw_501) d_MO_init_653 ?_
  refine va_last hx hb hK hP hD hS 6 1 rfl rfl (by unfold vp_in; decide +kernel) d_MO_init_656 (fun H locs hP hD hS => ?_)
  generalize hg656 : (vp_updL g646 ((55 : Int32)).toNatClampNeg (1747873779 : Int64)) = g656 at hP hD
  have hP : va_P (dC, dI) classes [(h, .inr (5, [.int 0, .ref q7, .ref q14, .ref q21, .ref q29, .int (-1 : Int32), .int 0, .int 0, .ref q42, .ref q50, .ref q58, .int 0, .ref q66, .ref q74, .ref q82, .ref q90, .ref q98])), (q7, .inl (cI, 70, .inl (fun _ => 0))), (q14, .inl (cI, 2, .inl (fun _ => 0))), (q21, .inl (cI, 2, .inl (fun _ => 0))), (q29, .inl (cI, 16, .inl (fun _ => 0))), (q42, .inl (cI, 24, .inl (fun _ => 0))), (q50, .inl (cJ, 64, .inr (.inl g656))), (q58, .inl (cJ, 8, .inr (.inl (fun _ => 0)))), (q66, .inl (cJ, 48, .inr (.inl (fun _ => 0)))), (q74, .inl (cJ, 64, .inr (.inl (fun _ => 0)))), (q82, .inl (cJ, 8, .inr (.inl (fun _ => 0)))), (q90, .inl (cJ, 8, .inr (.inl (fun _ => 0)))), (q98, .inl (cI, 8, .inl (fun _ => 0)))] H := hP
  have hD : va_D A [(h, .inr (5, [.int 0, .ref q7, .ref q14, .ref q21, .ref q29, .int (-1 : Int32), .int 0, .int 0, .ref q42, .ref q50, .ref q58, .int 0, .ref q66, .ref q74, .ref q82, .ref q90, .ref q98])), (q7, .inl (cI, 70, .inl (fun _ => 0))), (q14, .inl (cI, 2, .inl (fun _ => 0))), (q21, .inl (cI, 2, .inl (fun _ => 0))), (q29, .inl (cI, 16, .inl (fun _ => 0))), (q42, .inl (cI, 24, .inl (fun _ => 0))), (q50, .inl (cJ, 64, .inr (.inl g656))), (q58, .inl (cJ, 8, .inr (.inl (fun _ => 0)))), (q66, .inl (cJ, 48, .inr (.inl (fun _ => 0)))), (q74, .inl (cJ, 64, .inr (.inl (fun _ => 0)))), (q82, .inl (cJ, 8, .inr (.inl (fun _ => 0)))), (q90, .inl (cJ, 8, .inr (.inl (fun _ => 0)))), (q98, .inl (cI, 8, .inl (fun _ => 0)))] := hD
  refine lv_aload_n hx hb d_MO_init_657 rfl (lv_at hl 0 rfl) ?_
  refine va_get (D := (dC, dI)) (ci := 5) (v := .ref q50) (C := R_MO) (T := F_MO) (N := 17) hx hb hts in_MO hown hK hP 0 rfl rfl 9 (by decide) (hts _ gw_527) (fun _ h9 => h9) rfl d_MO_init_658 ?_
  refine lv_bipush (v := 56) hx hb d_MO_init_661 (by decide) ?_
  refine lv_ldc2 (v := 1955562222) hx hb hown (hts _ gw_502) d_MO_init_663 ?_
  refine va_last hx hb hK hP hD hS 6 1 rfl rfl (by unfold vp_in; decide +kernel) d_MO_init_666 (fun H locs hP hD hS => ?_)
  generalize hg666 : (vp_updL g656 ((56 : Int32)).toNatClampNeg (1955562222 : Int64)) = g666 at hP hD
  have hP : va_P (dC, dI) classes [(h, .inr (5, [.int 0, .ref q7, .ref q14, .ref q21, .ref q29, .int (-1 : Int32), .int 0, .int 0, .ref q42, .ref q50, .ref q58, .int 0, .ref q66, .ref q74, .ref q82, .ref q90, .ref q98])), (q7, .inl (cI, 70, .inl (fun _ => 0))), (q14, .inl (cI, 2, .inl (fun _ => 0))), (q21, .inl (cI, 2, .inl (fun _ => 0))), (q29, .inl (cI, 16, .inl (fun _ => 0))), (q42, .inl (cI, 24, .inl (fun _ => 0))), (q50, .inl (cJ, 64, .inr (.inl g666))), (q58, .inl (cJ, 8, .inr (.inl (fun _ => 0)))), (q66, .inl (cJ, 48, .inr (.inl (fun _ => 0)))), (q74, .inl (cJ, 64, .inr (.inl (fun _ => 0)))), (q82, .inl (cJ, 8, .inr (.inl (fun _ => 0)))), (q90, .inl (cJ, 8, .inr (.inl (fun _ => 0)))), (q98, .inl (cI, 8, .inl (fun _ => 0)))] H := hP
  have hD : va_D A [(h, .inr (5, [.int 0, .ref q7, .ref q14, .ref q21, .ref q29, .int (-1 : Int32), .int 0, .int 0, .ref q42, .ref q50, .ref q58, .int 0, .ref q66, .ref q74, .ref q82, .ref q90, .ref q98])), (q7, .inl (cI, 70, .inl (fun _ => 0))), (q14, .inl (cI, 2, .inl (fun _ => 0))), (q21, .inl (cI, 2, .inl (fun _ => 0))), (q29, .inl (cI, 16, .inl (fun _ => 0))), (q42, .inl (cI, 24, .inl (fun _ => 0))), (q50, .inl (cJ, 64, .inr (.inl g666))), (q58, .inl (cJ, 8, .inr (.inl (fun _ => 0)))), (q66, .inl (cJ, 48, .inr (.inl (fun _ => 0)))), (q74, .inl (cJ, 64, .inr (.inl (fun _ => 0)))), (q82, .inl (cJ, 8, .inr (.inl (fun _ => 0)))), (q90, .inl (cJ, 8, .inr (.inl (fun _ => 0)))), (q98, .inl (cI, 8, .inl (fun _ => 0)))] := hD
  refine lv_aload_n hx hb d_MO_init_667 rfl (lv_at hl 0 rfl) ?_
  refine va_get (D := (dC, dI)) (ci := 5) (v := .ref q50) (C := R_MO) (T := F_MO) (N := 17) hx hb hts in_MO hown hK hP 0 rfl rfl 9 (by decide) (hts _ gw_527) (fun _ h9 => h9) rfl d_MO_init_668 ?_
  refine lv_bipush (v := 57) hx hb d_MO_init_671 (by decide) ?_
  refine lv_ldc2 (v := 2024104815) hx hb hown (hts _ gw_503) d_MO_init_673 ?_
  refine va_last hx hb hK hP hD hS 6 1 rfl rfl (by unfold vp_in; decide +kernel) d_MO_init_676 (fun H locs hP hD hS => ?_)
  generalize hg676 : (vp_updL g666 ((57 : Int32)).toNatClampNeg (2024104815 : Int64)) = g676 at hP hD
  have hP : va_P (dC, dI) classes [(h, .inr (5, [.int 0, .ref q7, .ref q14, .ref q21, .ref q29, .int (-1 : Int32), .int 0, .int 0, .ref q42, .ref q50, .ref q58, .int 0, .ref q66, .ref q74, .ref q82, .ref q90, .ref q98])), (q7, .inl (cI, 70, .inl (fun _ => 0))), (q14, .inl (cI, 2, .inl (fun _ => 0))), (q21, .inl (cI, 2, .inl (fun _ => 0))), (q29, .inl (cI, 16, .inl (fun _ => 0))), (q42, .inl (cI, 24, .inl (fun _ => 0))), (q50, .inl (cJ, 64, .inr (.inl g676))), (q58, .inl (cJ, 8, .inr (.inl (fun _ => 0)))), (q66, .inl (cJ, 48, .inr (.inl (fun _ => 0)))), (q74, .inl (cJ, 64, .inr (.inl (fun _ => 0)))), (q82, .inl (cJ, 8, .inr (.inl (fun _ => 0)))), (q90, .inl (cJ, 8, .inr (.inl (fun _ => 0)))), (q98, .inl (cI, 8, .inl (fun _ => 0)))] H := hP
  have hD : va_D A [(h, .inr (5, [.int 0, .ref q7, .ref q14, .ref q21, .ref q29, .int (-1 : Int32), .int 0, .int 0, .ref q42, .ref q50, .ref q58, .int 0, .ref q66, .ref q74, .ref q82, .ref q90, .ref q98])), (q7, .inl (cI, 70, .inl (fun _ => 0))), (q14, .inl (cI, 2, .inl (fun _ => 0))), (q21, .inl (cI, 2, .inl (fun _ => 0))), (q29, .inl (cI, 16, .inl (fun _ => 0))), (q42, .inl (cI, 24, .inl (fun _ => 0))), (q50, .inl (cJ, 64, .inr (.inl g676))), (q58, .inl (cJ, 8, .inr (.inl (fun _ => 0)))), (q66, .inl (cJ, 48, .inr (.inl (fun _ => 0)))), (q74, .inl (cJ, 64, .inr (.inl (fun _ => 0)))), (q82, .inl (cJ, 8, .inr (.inl (fun _ => 0)))), (q90, .inl (cJ, 8, .inr (.inl (fun _ => 0)))), (q98, .inl (cI, 8, .inl (fun _ => 0)))] := hD
  refine lv_aload_n hx hb d_MO_init_677 rfl (lv_at hl 0 rfl) ?_
  refine va_get (D := (dC, dI)) (ci := 5) (v := .ref q50) (C := R_MO) (T := F_MO) (N := 17) hx hb hts in_MO hown hK hP 0 rfl rfl 9 (by decide) (hts _ gw_527) (fun _ h9 => h9) rfl d_MO_init_678 ?_
  refine lv_bipush (v := 58) hx hb d_MO_init_681 (by decide) ?_
  refine lv_ldc2 (v := 2227730452) hx hb hown (hts _ gw_504) d_MO_init_683 ?_
  refine va_last hx hb hK hP hD hS 6 1 rfl rfl (by unfold vp_in; decide +kernel) d_MO_init_686 (fun H locs hP hD hS => ?_)
  generalize hg686 : (vp_updL g676 ((58 : Int32)).toNatClampNeg (2227730452 : Int64)) = g686 at hP hD
  have hP : va_P (dC, dI) classes [(h, .inr (5, [.int 0, .ref q7, .ref q14, .ref q21, .ref q29, .int (-1 : Int32), .int 0, .int 0, .ref q42, .ref q50, .ref q58, .int 0, .ref q66, .ref q74, .ref q82, .ref q90, .ref q98])), (q7, .inl (cI, 70, .inl (fun _ => 0))), (q14, .inl (cI, 2, .inl (fun _ => 0))), (q21, .inl (cI, 2, .inl (fun _ => 0))), (q29, .inl (cI, 16, .inl (fun _ => 0))), (q42, .inl (cI, 24, .inl (fun _ => 0))), (q50, .inl (cJ, 64, .inr (.inl g686))), (q58, .inl (cJ, 8, .inr (.inl (fun _ => 0)))), (q66, .inl (cJ, 48, .inr (.inl (fun _ => 0)))), (q74, .inl (cJ, 64, .inr (.inl (fun _ => 0)))), (q82, .inl (cJ, 8, .inr (.inl (fun _ => 0)))), (q90, .inl (cJ, 8, .inr (.inl (fun _ => 0)))), (q98, .inl (cI, 8, .inl (fun _ => 0)))] H := hP
  have hD : va_D A [(h, .inr (5, [.int 0, .ref q7, .ref q14, .ref q21, .ref q29, .int (-1 : Int32), .int 0, .int 0, .ref q42, .ref q50, .ref q58, .int 0, .ref q66, .ref q74, .ref q82, .ref q90, .ref q98])), (q7, .inl (cI, 70, .inl (fun _ => 0))), (q14, .inl (cI, 2, .inl (fun _ => 0))), (q21, .inl (cI, 2, .inl (fun _ => 0))), (q29, .inl (cI, 16, .inl (fun _ => 0))), (q42, .inl (cI, 24, .inl (fun _ => 0))), (q50, .inl (cJ, 64, .inr (.inl g686))), (q58, .inl (cJ, 8, .inr (.inl (fun _ => 0)))), (q66, .inl (cJ, 48, .inr (.inl (fun _ => 0)))), (q74, .inl (cJ, 64, .inr (.inl (fun _ => 0)))), (q82, .inl (cJ, 8, .inr (.inl (fun _ => 0)))), (q90, .inl (cJ, 8, .inr (.inl (fun _ => 0)))), (q98, .inl (cI, 8, .inl (fun _ => 0)))] := hD
  refine lv_aload_n hx hb d_MO_init_687 rfl (lv_at hl 0 rfl) ?_
  refine va_get (D := (dC, dI)) (ci := 5) (v := .ref q50) (C := R_MO) (T := F_MO) (N := 17) hx hb hts in_MO hown hK hP 0 rfl rfl 9 (by decide) (hts _ gw_527) (fun _ h9 => h9) rfl d_MO_init_688 ?_
  refine lv_bipush (v := 59) hx hb d_MO_init_691 (by decide) ?_
  refine lv_ldc2 (v := 2361852424) hx hb hown (hts _ gw_505) d_MO_init_693 ?_
  refine va_last hx hb hK hP hD hS 6 1 rfl rfl (by unfold vp_in; decide +kernel) d_MO_init_696 (fun H locs hP hD hS => ?_)
  generalize hg696 : (vp_updL g686 ((59 : Int32)).toNatClampNeg (2361852424 : Int64)) = g696 at hP hD
  have hP : va_P (dC, dI) classes [(h, .inr (5, [.int 0, .ref q7, .ref q14, .ref q21, .ref q29, .int (-1 : Int32), .int 0, .int 0, .ref q42, .ref q50, .ref q58, .int 0, .ref q66, .ref q74, .ref q82, .ref q90, .ref q98])), (q7, .inl (cI, 70, .inl (fun _ => 0))), (q14, .inl (cI, 2, .inl (fun _ => 0))), (q21, .inl (cI, 2, .inl (fun _ => 0))), (q29, .inl (cI, 16, .inl (fun _ => 0))), (q42, .inl (cI, 24, .inl (fun _ => 0))), (q50, .inl (cJ, 64, .inr (.inl g696))), (q58, .inl (cJ, 8, .inr (.inl (fun _ => 0)))), (q66, .inl (cJ, 48, .inr (.inl (fun _ => 0)))), (q74, .inl (cJ, 64, .inr (.inl (fun _ => 0)))), (q82, .inl (cJ, 8, .inr (.inl (fun _ => 0)))), (q90, .inl (cJ, 8, .inr (.inl (fun _ => 0)))), (q98, .inl (cI, 8, .inl (fun _ => 0)))] H := hP
  have hD : va_D A [(h, .inr (5, [.int 0, .ref q7, .ref q14, .ref q21, .ref q29, .int (-1 : Int32), .int 0, .int 0, .ref q42, .ref q50, .ref q58, .int 0, .ref q66, .ref q74, .ref q82, .ref q90, .ref q98])), (q7, .inl (cI, 70, .inl (fun _ => 0))), (q14, .inl (cI, 2, .inl (fun _ => 0))), (q21, .inl (cI, 2, .inl (fun _ => 0))), (q29, .inl (cI, 16, .inl (fun _ => 0))), (q42, .inl (cI, 24, .inl (fun _ => 0))), (q50, .inl (cJ, 64, .inr (.inl g696))), (q58, .inl (cJ, 8, .inr (.inl (fun _ => 0)))), (q66, .inl (cJ, 48, .inr (.inl (fun _ => 0)))), (q74, .inl (cJ, 64, .inr (.inl (fun _ => 0)))), (q82, .inl (cJ, 8, .inr (.inl (fun _ => 0)))), (q90, .inl (cJ, 8, .inr (.inl (fun _ => 0)))), (q98, .inl (cI, 8, .inl (fun _ => 0)))] := hD
  refine lv_aload_n hx hb d_MO_init_697 rfl (lv_at hl 0 rfl) ?_
  refine va_get (D := (dC, dI)) (ci := 5) (v := .ref q50) (C := R_MO) (T := F_MO) (N := 17) hx hb hts in_MO hown hK hP 0 rfl rfl 9 (by decide) (hts _ gw_527) (fun _ h9 => h9) rfl d_MO_init_698 ?_
  refine lv_bipush (v := 60) hx hb d_MO_init_701 (by decide) ?_
  refine lv_ldc2 (v := 2428436474) hx hb hown (hts _ gw_506) d_MO_init_703 ?_
  refine va_last hx hb hK hP hD hS 6 1 rfl rfl (by unfold vp_in; decide +kernel) d_MO_init_706 (fun H locs hP hD hS => ?_)
  generalize hg706 : (vp_updL g696 ((60 : Int32)).toNatClampNeg (2428436474 : Int64)) = g706 at hP hD
  have hP : va_P (dC, dI) classes [(h, .inr (5, [.int 0, .ref q7, .ref q14, .ref q21, .ref q29, .int (-1 : Int32), .int 0, .int 0, .ref q42, .ref q50, .ref q58, .int 0, .ref q66, .ref q74, .ref q82, .ref q90, .ref q98])), (q7, .inl (cI, 70, .inl (fun _ => 0))), (q14, .inl (cI, 2, .inl (fun _ => 0))), (q21, .inl (cI, 2, .inl (fun _ => 0))), (q29, .inl (cI, 16, .inl (fun _ => 0))), (q42, .inl (cI, 24, .inl (fun _ => 0))), (q50, .inl (cJ, 64, .inr (.inl g706))), (q58, .inl (cJ, 8, .inr (.inl (fun _ => 0)))), (q66, .inl (cJ, 48, .inr (.inl (fun _ => 0)))), (q74, .inl (cJ, 64, .inr (.inl (fun _ => 0)))), (q82, .inl (cJ, 8, .inr (.inl (fun _ => 0)))), (q90, .inl (cJ, 8, .inr (.inl (fun _ => 0)))), (q98, .inl (cI, 8, .inl (fun _ => 0)))] H := hP
  have hD : va_D A [(h, .inr (5, [.int 0, .ref q7, .ref q14, .ref q21, .ref q29, .int (-1 : Int32), .int 0, .int 0, .ref q42, .ref q50, .ref q58, .int 0, .ref q66, .ref q74, .ref q82, .ref q90, .ref q98])), (q7, .inl (cI, 70, .inl (fun _ => 0))), (q14, .inl (cI, 2, .inl (fun _ => 0))), (q21, .inl (cI, 2, .inl (fun _ => 0))), (q29, .inl (cI, 16, .inl (fun _ => 0))), (q42, .inl (cI, 24, .inl (fun _ => 0))), (q50, .inl (cJ, 64, .inr (.inl g706))), (q58, .inl (cJ, 8, .inr (.inl (fun _ => 0)))), (q66, .inl (cJ, 48, .inr (.inl (fun _ => 0)))), (q74, .inl (cJ, 64, .inr (.inl (fun _ => 0)))), (q82, .inl (cJ, 8, .inr (.inl (fun _ => 0)))), (q90, .inl (cJ, 8, .inr (.inl (fun _ => 0)))), (q98, .inl (cI, 8, .inl (fun _ => 0)))] := hD
  refine lv_aload_n hx hb d_MO_init_707 rfl (lv_at hl 0 rfl) ?_
  refine va_get (D := (dC, dI)) (ci := 5) (v := .ref q50) (C := R_MO) (T := F_MO) (N := 17) hx hb hts in_MO hown hK hP 0 rfl rfl 9 (by decide) (hts _ gw_527) (fun _ h9 => h9) rfl d_MO_init_708 ?_
  refine lv_bipush (v := 61) hx hb d_MO_init_711 (by decide) ?_
  refine lv_ldc2 (v := 2756734187) hx hb hown (hts _ gw_507) d_MO_init_713 ?_
  refine va_last hx hb hK hP hD hS 6 1 rfl rfl (by unfold vp_in; decide +kernel) d_MO_init_716 (fun H locs hP hD hS => ?_)
  generalize hg716 : (vp_updL g706 ((61 : Int32)).toNatClampNeg (2756734187 : Int64)) = g716 at hP hD
  have hP : va_P (dC, dI) classes [(h, .inr (5, [.int 0, .ref q7, .ref q14, .ref q21, .ref q29, .int (-1 : Int32), .int 0, .int 0, .ref q42, .ref q50, .ref q58, .int 0, .ref q66, .ref q74, .ref q82, .ref q90, .ref q98])), (q7, .inl (cI, 70, .inl (fun _ => 0))), (q14, .inl (cI, 2, .inl (fun _ => 0))), (q21, .inl (cI, 2, .inl (fun _ => 0))), (q29, .inl (cI, 16, .inl (fun _ => 0))), (q42, .inl (cI, 24, .inl (fun _ => 0))), (q50, .inl (cJ, 64, .inr (.inl g716))), (q58, .inl (cJ, 8, .inr (.inl (fun _ => 0)))), (q66, .inl (cJ, 48, .inr (.inl (fun _ => 0)))), (q74, .inl (cJ, 64, .inr (.inl (fun _ => 0)))), (q82, .inl (cJ, 8, .inr (.inl (fun _ => 0)))), (q90, .inl (cJ, 8, .inr (.inl (fun _ => 0)))), (q98, .inl (cI, 8, .inl (fun _ => 0)))] H := hP
  have hD : va_D A [(h, .inr (5, [.int 0, .ref q7, .ref q14, .ref q21, .ref q29, .int (-1 : Int32), .int 0, .int 0, .ref q42, .ref q50, .ref q58, .int 0, .ref q66, .ref q74, .ref q82, .ref q90, .ref q98])), (q7, .inl (cI, 70, .inl (fun _ => 0))), (q14, .inl (cI, 2, .inl (fun _ => 0))), (q21, .inl (cI, 2, .inl (fun _ => 0))), (q29, .inl (cI, 16, .inl (fun _ => 0))), (q42, .inl (cI, 24, .inl (fun _ => 0))), (q50, .inl (cJ, 64, .inr (.inl g716))), (q58, .inl (cJ, 8, .inr (.inl (fun _ => 0)))), (q66, .inl (cJ, 48, .inr (.inl (fun _ => 0)))), (q74, .inl (cJ, 64, .inr (.inl (fun _ => 0)))), (q82, .inl (cJ, 8, .inr (.inl (fun _ => 0)))), (q90, .inl (cJ, 8, .inr (.inl (fun _ => 0)))), (q98, .inl (cI, 8, .inl (fun _ => 0)))] := hD
  refine lv_aload_n hx hb d_MO_init_717 rfl (lv_at hl 0 rfl) ?_
  refine va_get (D := (dC, dI)) (ci := 5) (v := .ref q50) (C := R_MO) (T := F_MO) (N := 17) hx hb hts in_MO hown hK hP 0 rfl rfl 9 (by decide) (hts _ gw_527) (fun _ h9 => h9) rfl d_MO_init_718 ?_
  refine lv_bipush (v := 62) hx hb d_MO_init_721 (by decide) ?_
  refine lv_ldc2 (v := 3204031479) hx hb hown (hts _ gw_508) d_MO_init_723 ?_
  refine va_last hx hb hK hP hD hS 6 1 rfl rfl (by unfold vp_in; decide +kernel) d_MO_init_726 (fun H locs hP hD hS => ?_)
  generalize hg726 : (vp_updL g716 ((62 : Int32)).toNatClampNeg (3204031479 : Int64)) = g726 at hP hD
  have hP : va_P (dC, dI) classes [(h, .inr (5, [.int 0, .ref q7, .ref q14, .ref q21, .ref q29, .int (-1 : Int32), .int 0, .int 0, .ref q42, .ref q50, .ref q58, .int 0, .ref q66, .ref q74, .ref q82, .ref q90, .ref q98])), (q7, .inl (cI, 70, .inl (fun _ => 0))), (q14, .inl (cI, 2, .inl (fun _ => 0))), (q21, .inl (cI, 2, .inl (fun _ => 0))), (q29, .inl (cI, 16, .inl (fun _ => 0))), (q42, .inl (cI, 24, .inl (fun _ => 0))), (q50, .inl (cJ, 64, .inr (.inl g726))), (q58, .inl (cJ, 8, .inr (.inl (fun _ => 0)))), (q66, .inl (cJ, 48, .inr (.inl (fun _ => 0)))), (q74, .inl (cJ, 64, .inr (.inl (fun _ => 0)))), (q82, .inl (cJ, 8, .inr (.inl (fun _ => 0)))), (q90, .inl (cJ, 8, .inr (.inl (fun _ => 0)))), (q98, .inl (cI, 8, .inl (fun _ => 0)))] H := hP
  have hD : va_D A [(h, .inr (5, [.int 0, .ref q7, .ref q14, .ref q21, .ref q29, .int (-1 : Int32), .int 0, .int 0, .ref q42, .ref q50, .ref q58, .int 0, .ref q66, .ref q74, .ref q82, .ref q90, .ref q98])), (q7, .inl (cI, 70, .inl (fun _ => 0))), (q14, .inl (cI, 2, .inl (fun _ => 0))), (q21, .inl (cI, 2, .inl (fun _ => 0))), (q29, .inl (cI, 16, .inl (fun _ => 0))), (q42, .inl (cI, 24, .inl (fun _ => 0))), (q50, .inl (cJ, 64, .inr (.inl g726))), (q58, .inl (cJ, 8, .inr (.inl (fun _ => 0)))), (q66, .inl (cJ, 48, .inr (.inl (fun _ => 0)))), (q74, .inl (cJ, 64, .inr (.inl (fun _ => 0)))), (q82, .inl (cJ, 8, .inr (.inl (fun _ => 0)))), (q90, .inl (cJ, 8, .inr (.inl (fun _ => 0)))), (q98, .inl (cI, 8, .inl (fun _ => 0)))] := hD
  refine lv_aload_n hx hb d_MO_init_727 rfl (lv_at hl 0 rfl) ?_
  refine va_get (D := (dC, dI)) (ci := 5) (v := .ref q50) (C := R_MO) (T := F_MO) (N := 17) hx hb hts in_MO hown hK hP 0 rfl rfl 9 (by decide) (hts _ gw_527) (fun _ h9 => h9) rfl d_MO_init_728 ?_
  refine lv_bipush (v := 63) hx hb d_MO_init_731 (by decide) ?_
  refine lv_ldc2 (v := 3329325298) hx hb hown (hts _ gw_509) d_MO_init_733 ?_
  refine va_last hx hb hK hP hD hS 6 1 rfl rfl (by unfold vp_in; decide +kernel) d_MO_init_736 (fun H locs hP hD hS => ?_)
  generalize hg736 : (vp_updL g726 ((63 : Int32)).toNatClampNeg (3329325298 : Int64)) = g736 at hP hD
  have hP : va_P (dC, dI) classes [(h, .inr (5, [.int 0, .ref q7, .ref q14, .ref q21, .ref q29, .int (-1 : Int32), .int 0, .int 0, .ref q42, .ref q50, .ref q58, .int 0, .ref q66, .ref q74, .ref q82, .ref q90, .ref q98])), (q7, .inl (cI, 70, .inl (fun _ => 0))), (q14, .inl (cI, 2, .inl (fun _ => 0))), (q21, .inl (cI, 2, .inl (fun _ => 0))), (q29, .inl (cI, 16, .inl (fun _ => 0))), (q42, .inl (cI, 24, .inl (fun _ => 0))), (q50, .inl (cJ, 64, .inr (.inl g736))), (q58, .inl (cJ, 8, .inr (.inl (fun _ => 0)))), (q66, .inl (cJ, 48, .inr (.inl (fun _ => 0)))), (q74, .inl (cJ, 64, .inr (.inl (fun _ => 0)))), (q82, .inl (cJ, 8, .inr (.inl (fun _ => 0)))), (q90, .inl (cJ, 8, .inr (.inl (fun _ => 0)))), (q98, .inl (cI, 8, .inl (fun _ => 0)))] H := hP
  have hD : va_D A [(h, .inr (5, [.int 0, .ref q7, .ref q14, .ref q21, .ref q29, .int (-1 : Int32), .int 0, .int 0, .ref q42, .ref q50, .ref q58, .int 0, .ref q66, .ref q74, .ref q82, .ref q90, .ref q98])), (q7, .inl (cI, 70, .inl (fun _ => 0))), (q14, .inl (cI, 2, .inl (fun _ => 0))), (q21, .inl (cI, 2, .inl (fun _ => 0))), (q29, .inl (cI, 16, .inl (fun _ => 0))), (q42, .inl (cI, 24, .inl (fun _ => 0))), (q50, .inl (cJ, 64, .inr (.inl g736))), (q58, .inl (cJ, 8, .inr (.inl (fun _ => 0)))), (q66, .inl (cJ, 48, .inr (.inl (fun _ => 0)))), (q74, .inl (cJ, 64, .inr (.inl (fun _ => 0)))), (q82, .inl (cJ, 8, .inr (.inl (fun _ => 0)))), (q90, .inl (cJ, 8, .inr (.inl (fun _ => 0)))), (q98, .inl (cI, 8, .inl (fun _ => 0)))] := hD
  refine lv_aload_n hx hb d_MO_init_737 rfl (lv_at hl 0 rfl) ?_
  refine va_get (D := (dC, dI)) (ci := 5) (v := .ref q58) (C := R_MO) (T := F_MO) (N := 17) hx hb hts in_MO hown hK hP 0 rfl rfl 10 (by decide) (hts _ gw_528) (fun _ h9 => h9) rfl d_MO_init_738 ?_
  refine lv_iconst (v := 0) hx hb d_MO_init_741 (by decide) ?_
  refine lv_ldc2 (v := 1779033703) hx hb hown (hts _ gw_510) d_MO_init_742 ?_
  refine va_last hx hb hK hP hD hS 7 1 rfl rfl (by unfold vp_in; decide +kernel) d_MO_init_745 (fun H locs hP hD hS => ?_)
  generalize hg745 : (vp_updL (fun _ => 0) ((0 : Int32)).toNatClampNeg (1779033703 : Int64)) = g745 at hP hD
  have hP : va_P (dC, dI) classes [(h, .inr (5, [.int 0, .ref q7, .ref q14, .ref q21, .ref q29, .int (-1 : Int32), .int 0, .int 0, .ref q42, .ref q50, .ref q58, .int 0, .ref q66, .ref q74, .ref q82, .ref q90, .ref q98])), (q7, .inl (cI, 70, .inl (fun _ => 0))), (q14, .inl (cI, 2, .inl (fun _ => 0))), (q21, .inl (cI, 2, .inl (fun _ => 0))), (q29, .inl (cI, 16, .inl (fun _ => 0))), (q42, .inl (cI, 24, .inl (fun _ => 0))), (q50, .inl (cJ, 64, .inr (.inl g736))), (q58, .inl (cJ, 8, .inr (.inl g745))), (q66, .inl (cJ, 48, .inr (.inl (fun _ => 0)))), (q74, .inl (cJ, 64, .inr (.inl (fun _ => 0)))), (q82, .inl (cJ, 8, .inr (.inl (fun _ => 0)))), (q90, .inl (cJ, 8, .inr (.inl (fun _ => 0)))), (q98, .inl (cI, 8, .inl (fun _ => 0)))] H := hP
  have hD : va_D A [(h, .inr (5, [.int 0, .ref q7, .ref q14, .ref q21, .ref q29, .int (-1 : Int32), .int 0, .int 0, .ref q42, .ref q50, .ref q58, .int 0, .ref q66, .ref q74, .ref q82, .ref q90, .ref q98])), (q7, .inl (cI, 70, .inl (fun _ => 0))), (q14, .inl (cI, 2, .inl (fun _ => 0))), (q21, .inl (cI, 2, .inl (fun _ => 0))), (q29, .inl (cI, 16, .inl (fun _ => 0))), (q42, .inl (cI, 24, .inl (fun _ => 0))), (q50, .inl (cJ, 64, .inr (.inl g736))), (q58, .inl (cJ, 8, .inr (.inl g745))), (q66, .inl (cJ, 48, .inr (.inl (fun _ => 0)))), (q74, .inl (cJ, 64, .inr (.inl (fun _ => 0)))), (q82, .inl (cJ, 8, .inr (.inl (fun _ => 0)))), (q90, .inl (cJ, 8, .inr (.inl (fun _ => 0)))), (q98, .inl (cI, 8, .inl (fun _ => 0)))] := hD
  refine lv_aload_n hx hb d_MO_init_746 rfl (lv_at hl 0 rfl) ?_
  refine va_get (D := (dC, dI)) (ci := 5) (v := .ref q58) (C := R_MO) (T := F_MO) (N := 17) hx hb hts in_MO hown hK hP 0 rfl rfl 10 (by decide) (hts _ gw_528) (fun _ h9 => h9) rfl d_MO_init_747 ?_
  refine lv_iconst (v := 1) hx hb d_MO_init_750 (by decide) ?_
  refine lv_ldc2 (v := 3144134277) hx hb hown (hts _ gw_511) d_MO_init_751 ?_
  refine va_last hx hb hK hP hD hS 7 1 rfl rfl (by unfold vp_in; decide +kernel) d_MO_init_754 (fun H locs hP hD hS => ?_)
  generalize hg754 : (vp_updL g745 ((1 : Int32)).toNatClampNeg (3144134277 : Int64)) = g754 at hP hD
  have hP : va_P (dC, dI) classes [(h, .inr (5, [.int 0, .ref q7, .ref q14, .ref q21, .ref q29, .int (-1 : Int32), .int 0, .int 0, .ref q42, .ref q50, .ref q58, .int 0, .ref q66, .ref q74, .ref q82, .ref q90, .ref q98])), (q7, .inl (cI, 70, .inl (fun _ => 0))), (q14, .inl (cI, 2, .inl (fun _ => 0))), (q21, .inl (cI, 2, .inl (fun _ => 0))), (q29, .inl (cI, 16, .inl (fun _ => 0))), (q42, .inl (cI, 24, .inl (fun _ => 0))), (q50, .inl (cJ, 64, .inr (.inl g736))), (q58, .inl (cJ, 8, .inr (.inl g754))), (q66, .inl (cJ, 48, .inr (.inl (fun _ => 0)))), (q74, .inl (cJ, 64, .inr (.inl (fun _ => 0)))), (q82, .inl (cJ, 8, .inr (.inl (fun _ => 0)))), (q90, .inl (cJ, 8, .inr (.inl (fun _ => 0)))), (q98, .inl (cI, 8, .inl (fun _ => 0)))] H := hP
  have hD : va_D A [(h, .inr (5, [.int 0, .ref q7, .ref q14, .ref q21, .ref q29, .int (-1 : Int32), .int 0, .int 0, .ref q42, .ref q50, .ref q58, .int 0, .ref q66, .ref q74, .ref q82, .ref q90, .ref q98])), (q7, .inl (cI, 70, .inl (fun _ => 0))), (q14, .inl (cI, 2, .inl (fun _ => 0))), (q21, .inl (cI, 2, .inl (fun _ => 0))), (q29, .inl (cI, 16, .inl (fun _ => 0))), (q42, .inl (cI, 24, .inl (fun _ => 0))), (q50, .inl (cJ, 64, .inr (.inl g736))), (q58, .inl (cJ, 8, .inr (.inl g754))), (q66, .inl (cJ, 48, .inr (.inl (fun _ => 0)))), (q74, .inl (cJ, 64, .inr (.inl (fun _ => 0)))), (q82, .inl (cJ, 8, .inr (.inl (fun _ => 0)))), (q90, .inl (cJ, 8, .inr (.inl (fun _ => 0)))), (q98, .inl (cI, 8, .inl (fun _ => 0)))] := hD
  refine lv_aload_n hx hb d_MO_init_755 rfl (lv_at hl 0 rfl) ?_
  refine va_get (D := (dC, dI)) (ci := 5) (v := .ref q58) (C := R_MO) (T := F_MO) (N := 17) hx hb hts in_MO hown hK hP 0 rfl rfl 10 (by decide) (hts _ gw_528) (fun _ h9 => h9) rfl d_MO_init_756 ?_
  refine lv_iconst (v := 2) hx hb d_MO_init_759 (by decide) ?_
  refine lv_ldc2 (v := 1013904242) hx hb hown (hts _ gw_512) d_MO_init_760 ?_
  refine va_last hx hb hK hP hD hS 7 1 rfl rfl (by unfold vp_in; decide +kernel) d_MO_init_763 (fun H locs hP hD hS => ?_)
  generalize hg763 : (vp_updL g754 ((2 : Int32)).toNatClampNeg (1013904242 : Int64)) = g763 at hP hD
  have hP : va_P (dC, dI) classes [(h, .inr (5, [.int 0, .ref q7, .ref q14, .ref q21, .ref q29, .int (-1 : Int32), .int 0, .int 0, .ref q42, .ref q50, .ref q58, .int 0, .ref q66, .ref q74, .ref q82, .ref q90, .ref q98])), (q7, .inl (cI, 70, .inl (fun _ => 0))), (q14, .inl (cI, 2, .inl (fun _ => 0))), (q21, .inl (cI, 2, .inl (fun _ => 0))), (q29, .inl (cI, 16, .inl (fun _ => 0))), (q42, .inl (cI, 24, .inl (fun _ => 0))), (q50, .inl (cJ, 64, .inr (.inl g736))), (q58, .inl (cJ, 8, .inr (.inl g763))), (q66, .inl (cJ, 48, .inr (.inl (fun _ => 0)))), (q74, .inl (cJ, 64, .inr (.inl (fun _ => 0)))), (q82, .inl (cJ, 8, .inr (.inl (fun _ => 0)))), (q90, .inl (cJ, 8, .inr (.inl (fun _ => 0)))), (q98, .inl (cI, 8, .inl (fun _ => 0)))] H := hP
  have hD : va_D A [(h, .inr (5, [.int 0, .ref q7, .ref q14, .ref q21, .ref q29, .int (-1 : Int32), .int 0, .int 0, .ref q42, .ref q50, .ref q58, .int 0, .ref q66, .ref q74, .ref q82, .ref q90, .ref q98])), (q7, .inl (cI, 70, .inl (fun _ => 0))), (q14, .inl (cI, 2, .inl (fun _ => 0))), (q21, .inl (cI, 2, .inl (fun _ => 0))), (q29, .inl (cI, 16, .inl (fun _ => 0))), (q42, .inl (cI, 24, .inl (fun _ => 0))), (q50, .inl (cJ, 64, .inr (.inl g736))), (q58, .inl (cJ, 8, .inr (.inl g763))), (q66, .inl (cJ, 48, .inr (.inl (fun _ => 0)))), (q74, .inl (cJ, 64, .inr (.inl (fun _ => 0)))), (q82, .inl (cJ, 8, .inr (.inl (fun _ => 0)))), (q90, .inl (cJ, 8, .inr (.inl (fun _ => 0)))), (q98, .inl (cI, 8, .inl (fun _ => 0)))] := hD
  refine lv_aload_n hx hb d_MO_init_764 rfl (lv_at hl 0 rfl) ?_
  refine va_get (D := (dC, dI)) (ci := 5) (v := .ref q58) (C := R_MO) (T := F_MO) (N := 17) hx hb hts in_MO hown hK hP 0 rfl rfl 10 (by decide) (hts _ gw_528) (fun _ h9 => h9) rfl d_MO_init_765 ?_
  refine lv_iconst (v := 3) hx hb d_MO_init_768 (by decide) ?_
  refine lv_ldc2 (v := 2773480762) hx hb hown (hts _ gw_513) d_MO_init_769 ?_
  refine va_last hx hb hK hP hD hS 7 1 rfl rfl (by unfold vp_in; decide +kernel) d_MO_init_772 (fun H locs hP hD hS => ?_)
  generalize hg772 : (vp_updL g763 ((3 : Int32)).toNatClampNeg (2773480762 : Int64)) = g772 at hP hD
  have hP : va_P (dC, dI) classes [(h, .inr (5, [.int 0, .ref q7, .ref q14, .ref q21, .ref q29, .int (-1 : Int32), .int 0, .int 0, .ref q42, .ref q50, .ref q58, .int 0, .ref q66, .ref q74, .ref q82, .ref q90, .ref q98])), (q7, .inl (cI, 70, .inl (fun _ => 0))), (q14, .inl (cI, 2, .inl (fun _ => 0))), (q21, .inl (cI, 2, .inl (fun _ => 0))), (q29, .inl (cI, 16, .inl (fun _ => 0))), (q42, .inl (cI, 24, .inl (fun _ => 0))), (q50, .inl (cJ, 64, .inr (.inl g736))), (q58, .inl (cJ, 8, .inr (.inl g772))), (q66, .inl (cJ, 48, .inr (.inl (fun _ => 0)))), (q74, .inl (cJ, 64, .inr (.inl (fun _ => 0)))), (q82, .inl (cJ, 8, .inr (.inl (fun _ => 0)))), (q90, .inl (cJ, 8, .inr (.inl (fun _ => 0)))), (q98, .inl (cI, 8, .inl (fun _ => 0)))] H := hP
  have hD : va_D A [(h, .inr (5, [.int 0, .ref q7, .ref q14, .ref q21, .ref q29, .int (-1 : Int32), .int 0, .int 0, .ref q42, .ref q50, .ref q58, .int 0, .ref q66, .ref q74, .ref q82, .ref q90, .ref q98])), (q7, .inl (cI, 70, .inl (fun _ => 0))), (q14, .inl (cI, 2, .inl (fun _ => 0))), (q21, .inl (cI, 2, .inl (fun _ => 0))), (q29, .inl (cI, 16, .inl (fun _ => 0))), (q42, .inl (cI, 24, .inl (fun _ => 0))), (q50, .inl (cJ, 64, .inr (.inl g736))), (q58, .inl (cJ, 8, .inr (.inl g772))), (q66, .inl (cJ, 48, .inr (.inl (fun _ => 0)))), (q74, .inl (cJ, 64, .inr (.inl (fun _ => 0)))), (q82, .inl (cJ, 8, .inr (.inl (fun _ => 0)))), (q90, .inl (cJ, 8, .inr (.inl (fun _ => 0)))), (q98, .inl (cI, 8, .inl (fun _ => 0)))] := hD
  refine lv_aload_n hx hb d_MO_init_773 rfl (lv_at hl 0 rfl) ?_
  refine va_get (D := (dC, dI)) (ci := 5) (v := .ref q58) (C := R_MO) (T := F_MO) (N := 17) hx hb hts in_MO hown hK hP 0 rfl rfl 10 (by decide) (hts _ gw_528) (fun _ h9 => h9) rfl d_MO_init_774 ?_
  refine lv_iconst (v := 4) hx hb d_MO_init_777 (by decide) ?_
  refine lv_ldc2 (v := 1359893119) hx hb hown (hts _ gw_514) d_MO_init_778 ?_
  refine va_last hx hb hK hP hD hS 7 1 rfl rfl (by unfold vp_in; decide +kernel) d_MO_init_781 (fun H locs hP hD hS => ?_)
  generalize hg781 : (vp_updL g772 ((4 : Int32)).toNatClampNeg (1359893119 : Int64)) = g781 at hP hD
  have hP : va_P (dC, dI) classes [(h, .inr (5, [.int 0, .ref q7, .ref q14, .ref q21, .ref q29, .int (-1 : Int32), .int 0, .int 0, .ref q42, .ref q50, .ref q58, .int 0, .ref q66, .ref q74, .ref q82, .ref q90, .ref q98])), (q7, .inl (cI, 70, .inl (fun _ => 0))), (q14, .inl (cI, 2, .inl (fun _ => 0))), (q21, .inl (cI, 2, .inl (fun _ => 0))), (q29, .inl (cI, 16, .inl (fun _ => 0))), (q42, .inl (cI, 24, .inl (fun _ => 0))), (q50, .inl (cJ, 64, .inr (.inl g736))), (q58, .inl (cJ, 8, .inr (.inl g781))), (q66, .inl (cJ, 48, .inr (.inl (fun _ => 0)))), (q74, .inl (cJ, 64, .inr (.inl (fun _ => 0)))), (q82, .inl (cJ, 8, .inr (.inl (fun _ => 0)))), (q90, .inl (cJ, 8, .inr (.inl (fun _ => 0)))), (q98, .inl (cI, 8, .inl (fun _ => 0)))] H := hP
  have hD : va_D A [(h, .inr (5, [.int 0, .ref q7, .ref q14, .ref q21, .ref q29, .int (-1 : Int32), .int 0, .int 0, .ref q42, .ref q50, .ref q58, .int 0, .ref q66, .ref q74, .ref q82, .ref q90, .ref q98])), (q7, .inl (cI, 70, .inl (fun _ => 0))), (q14, .inl (cI, 2, .inl (fun _ => 0))), (q21, .inl (cI, 2, .inl (fun _ => 0))), (q29, .inl (cI, 16, .inl (fun _ => 0))), (q42, .inl (cI, 24, .inl (fun _ => 0))), (q50, .inl (cJ, 64, .inr (.inl g736))), (q58, .inl (cJ, 8, .inr (.inl g781))), (q66, .inl (cJ, 48, .inr (.inl (fun _ => 0)))), (q74, .inl (cJ, 64, .inr (.inl (fun _ => 0)))), (q82, .inl (cJ, 8, .inr (.inl (fun _ => 0)))), (q90, .inl (cJ, 8, .inr (.inl (fun _ => 0)))), (q98, .inl (cI, 8, .inl (fun _ => 0)))] := hD
  refine lv_aload_n hx hb d_MO_init_782 rfl (lv_at hl 0 rfl) ?_
  refine va_get (D := (dC, dI)) (ci := 5) (v := .ref q58) (C := R_MO) (T := F_MO) (N := 17) hx hb hts in_MO hown hK hP 0 rfl rfl 10 (by decide) (hts _ gw_528) (fun _ h9 => h9) rfl d_MO_init_783 ?_
  refine lv_iconst (v := 5) hx hb d_MO_init_786 (by decide) ?_
  refine lv_ldc2 (v := 2600822924) hx hb hown (hts _ gw_515) d_MO_init_787 ?_
  refine va_last hx hb hK hP hD hS 7 1 rfl rfl (by unfold vp_in; decide +kernel) d_MO_init_790 (fun H locs hP hD hS => ?_)
  generalize hg790 : (vp_updL g781 ((5 : Int32)).toNatClampNeg (2600822924 : Int64)) = g790 at hP hD
  have hP : va_P (dC, dI) classes [(h, .inr (5, [.int 0, .ref q7, .ref q14, .ref q21, .ref q29, .int (-1 : Int32), .int 0, .int 0, .ref q42, .ref q50, .ref q58, .int 0, .ref q66, .ref q74, .ref q82, .ref q90, .ref q98])), (q7, .inl (cI, 70, .inl (fun _ => 0))), (q14, .inl (cI, 2, .inl (fun _ => 0))), (q21, .inl (cI, 2, .inl (fun _ => 0))), (q29, .inl (cI, 16, .inl (fun _ => 0))), (q42, .inl (cI, 24, .inl (fun _ => 0))), (q50, .inl (cJ, 64, .inr (.inl g736))), (q58, .inl (cJ, 8, .inr (.inl g790))), (q66, .inl (cJ, 48, .inr (.inl (fun _ => 0)))), (q74, .inl (cJ, 64, .inr (.inl (fun _ => 0)))), (q82, .inl (cJ, 8, .inr (.inl (fun _ => 0)))), (q90, .inl (cJ, 8, .inr (.inl (fun _ => 0)))), (q98, .inl (cI, 8, .inl (fun _ => 0)))] H := hP
  have hD : va_D A [(h, .inr (5, [.int 0, .ref q7, .ref q14, .ref q21, .ref q29, .int (-1 : Int32), .int 0, .int 0, .ref q42, .ref q50, .ref q58, .int 0, .ref q66, .ref q74, .ref q82, .ref q90, .ref q98])), (q7, .inl (cI, 70, .inl (fun _ => 0))), (q14, .inl (cI, 2, .inl (fun _ => 0))), (q21, .inl (cI, 2, .inl (fun _ => 0))), (q29, .inl (cI, 16, .inl (fun _ => 0))), (q42, .inl (cI, 24, .inl (fun _ => 0))), (q50, .inl (cJ, 64, .inr (.inl g736))), (q58, .inl (cJ, 8, .inr (.inl g790))), (q66, .inl (cJ, 48, .inr (.inl (fun _ => 0)))), (q74, .inl (cJ, 64, .inr (.inl (fun _ => 0)))), (q82, .inl (cJ, 8, .inr (.inl (fun _ => 0)))), (q90, .inl (cJ, 8, .inr (.inl (fun _ => 0)))), (q98, .inl (cI, 8, .inl (fun _ => 0)))] := hD
  refine lv_aload_n hx hb d_MO_init_791 rfl (lv_at hl 0 rfl) ?_
  refine va_get (D := (dC, dI)) (ci := 5) (v := .ref q58) (C := R_MO) (T := F_MO) (N := 17) hx hb hts in_MO hown hK hP 0 rfl rfl 10 (by decide) (hts _ gw_528) (fun _ h9 => h9) rfl d_MO_init_792 ?_
  refine lv_bipush (v := 6) hx hb d_MO_init_795 (by decide) ?_
  refine lv_ldc2 (v := 528734635) hx hb hown (hts _ gw_516) d_MO_init_797 ?_
  refine va_last hx hb hK hP hD hS 7 1 rfl rfl (by unfold vp_in; decide +kernel) d_MO_init_800 (fun H locs hP hD hS => ?_)
  generalize hg800 : (vp_updL g790 ((6 : Int32)).toNatClampNeg (528734635 : Int64)) = g800 at hP hD
  have hP : va_P (dC, dI) classes [(h, .inr (5, [.int 0, .ref q7, .ref q14, .ref q21, .ref q29, .int (-1 : Int32), .int 0, .int 0, .ref q42, .ref q50, .ref q58, .int 0, .ref q66, .ref q74, .ref q82, .ref q90, .ref q98])), (q7, .inl (cI, 70, .inl (fun _ => 0))), (q14, .inl (cI, 2, .inl (fun _ => 0))), (q21, .inl (cI, 2, .inl (fun _ => 0))), (q29, .inl (cI, 16, .inl (fun _ => 0))), (q42, .inl (cI, 24, .inl (fun _ => 0))), (q50, .inl (cJ, 64, .inr (.inl g736))), (q58, .inl (cJ, 8, .inr (.inl g800))), (q66, .inl (cJ, 48, .inr (.inl (fun _ => 0)))), (q74, .inl (cJ, 64, .inr (.inl (fun _ => 0)))), (q82, .inl (cJ, 8, .inr (.inl (fun _ => 0)))), (q90, .inl (cJ, 8, .inr (.inl (fun _ => 0)))), (q98, .inl (cI, 8, .inl (fun _ => 0)))] H := hP
  have hD : va_D A [(h, .inr (5, [.int 0, .ref q7, .ref q14, .ref q21, .ref q29, .int (-1 : Int32), .int 0, .int 0, .ref q42, .ref q50, .ref q58, .int 0, .ref q66, .ref q74, .ref q82, .ref q90, .ref q98])), (q7, .inl (cI, 70, .inl (fun _ => 0))), (q14, .inl (cI, 2, .inl (fun _ => 0))), (q21, .inl (cI, 2, .inl (fun _ => 0))), (q29, .inl (cI, 16, .inl (fun _ => 0))), (q42, .inl (cI, 24, .inl (fun _ => 0))), (q50, .inl (cJ, 64, .inr (.inl g736))), (q58, .inl (cJ, 8, .inr (.inl g800))), (q66, .inl (cJ, 48, .inr (.inl (fun _ => 0)))), (q74, .inl (cJ, 64, .inr (.inl (fun _ => 0)))), (q82, .inl (cJ, 8, .inr (.inl (fun _ => 0)))), (q90, .inl (cJ, 8, .inr (.inl (fun _ => 0)))), (q98, .inl (cI, 8, .inl (fun _ => 0)))] := hD
  refine lv_aload_n hx hb d_MO_init_801 rfl (lv_at hl 0 rfl) ?_
  refine va_get (D := (dC, dI)) (ci := 5) (v := .ref q58) (C := R_MO) (T := F_MO) (N := 17) hx hb hts in_MO hown hK hP 0 rfl rfl 10 (by decide) (hts _ gw_528) (fun _ h9 => h9) rfl d_MO_init_802 ?_
  refine lv_bipush (v := 7) hx hb d_MO_init_805 (by decide) ?_
  refine lv_ldc2 (v := 1541459225) hx hb hown (hts _ gw_517) d_MO_init_807 ?_
  refine va_last hx hb hK hP hD hS 7 1 rfl rfl (by unfold vp_in; decide +kernel) d_MO_init_810 (fun H locs hP hD hS => ?_)
  generalize hg810 : (vp_updL g800 ((7 : Int32)).toNatClampNeg (1541459225 : Int64)) = g810 at hP hD
  have hP : va_P (dC, dI) classes [(h, .inr (5, [.int 0, .ref q7, .ref q14, .ref q21, .ref q29, .int (-1 : Int32), .int 0, .int 0, .ref q42, .ref q50, .ref q58, .int 0, .ref q66, .ref q74, .ref q82, .ref q90, .ref q98])), (q7, .inl (cI, 70, .inl (fun _ => 0))), (q14, .inl (cI, 2, .inl (fun _ => 0))), (q21, .inl (cI, 2, .inl (fun _ => 0))), (q29, .inl (cI, 16, .inl (fun _ => 0))), (q42, .inl (cI, 24, .inl (fun _ => 0))), (q50, .inl (cJ, 64, .inr (.inl g736))), (q58, .inl (cJ, 8, .inr (.inl g810))), (q66, .inl (cJ, 48, .inr (.inl (fun _ => 0)))), (q74, .inl (cJ, 64, .inr (.inl (fun _ => 0)))), (q82, .inl (cJ, 8, .inr (.inl (fun _ => 0)))), (q90, .inl (cJ, 8, .inr (.inl (fun _ => 0)))), (q98, .inl (cI, 8, .inl (fun _ => 0)))] H := hP
  have hD : va_D A [(h, .inr (5, [.int 0, .ref q7, .ref q14, .ref q21, .ref q29, .int (-1 : Int32), .int 0, .int 0, .ref q42, .ref q50, .ref q58, .int 0, .ref q66, .ref q74, .ref q82, .ref q90, .ref q98])), (q7, .inl (cI, 70, .inl (fun _ => 0))), (q14, .inl (cI, 2, .inl (fun _ => 0))), (q21, .inl (cI, 2, .inl (fun _ => 0))), (q29, .inl (cI, 16, .inl (fun _ => 0))), (q42, .inl (cI, 24, .inl (fun _ => 0))), (q50, .inl (cJ, 64, .inr (.inl g736))), (q58, .inl (cJ, 8, .inr (.inl g810))), (q66, .inl (cJ, 48, .inr (.inl (fun _ => 0)))), (q74, .inl (cJ, 64, .inr (.inl (fun _ => 0)))), (q82, .inl (cJ, 8, .inr (.inl (fun _ => 0)))), (q90, .inl (cJ, 8, .inr (.inl (fun _ => 0)))), (q98, .inl (cI, 8, .inl (fun _ => 0)))] := hD
  refine lv_aload_n hx hb d_MO_init_811 rfl (lv_at hl 0 rfl) ?_
  refine va_get (D := (dC, dI)) (ci := 5) (v := .ref q21) (C := R_MO) (T := F_MO) (N := 17) hx hb hts in_MO hown hK hP 0 rfl rfl 3 (by decide) (hts _ gw_521) (fun _ h9 => h9) rfl d_MO_init_812 ?_
  refine lv_iconst (v := 0) hx hb d_MO_init_815 (by decide) ?_
  refine lv_iconst (v := (-1)) hx hb d_MO_init_816 (by decide) ?_
  refine va_iast hx hb hK hP hD hS 3 0 rfl rfl (by unfold vp_in; decide +kernel) d_MO_init_817 (fun H locs hP hD hS => ?_)
  generalize hg817 : (upd (fun _ => 0) ((0 : Int32)).toNatClampNeg (-1 : Int32)) = g817 at hP hD
  have hP : va_P (dC, dI) classes [(h, .inr (5, [.int 0, .ref q7, .ref q14, .ref q21, .ref q29, .int (-1 : Int32), .int 0, .int 0, .ref q42, .ref q50, .ref q58, .int 0, .ref q66, .ref q74, .ref q82, .ref q90, .ref q98])), (q7, .inl (cI, 70, .inl (fun _ => 0))), (q14, .inl (cI, 2, .inl (fun _ => 0))), (q21, .inl (cI, 2, .inl g817)), (q29, .inl (cI, 16, .inl (fun _ => 0))), (q42, .inl (cI, 24, .inl (fun _ => 0))), (q50, .inl (cJ, 64, .inr (.inl g736))), (q58, .inl (cJ, 8, .inr (.inl g810))), (q66, .inl (cJ, 48, .inr (.inl (fun _ => 0)))), (q74, .inl (cJ, 64, .inr (.inl (fun _ => 0)))), (q82, .inl (cJ, 8, .inr (.inl (fun _ => 0)))), (q90, .inl (cJ, 8, .inr (.inl (fun _ => 0)))), (q98, .inl (cI, 8, .inl (fun _ => 0)))] H := hP
  have hD : va_D A [(h, .inr (5, [.int 0, .ref q7, .ref q14, .ref q21, .ref q29, .int (-1 : Int32), .int 0, .int 0, .ref q42, .ref q50, .ref q58, .int 0, .ref q66, .ref q74, .ref q82, .ref q90, .ref q98])), (q7, .inl (cI, 70, .inl (fun _ => 0))), (q14, .inl (cI, 2, .inl (fun _ => 0))), (q21, .inl (cI, 2, .inl g817)), (q29, .inl (cI, 16, .inl (fun _ => 0))), (q42, .inl (cI, 24, .inl (fun _ => 0))), (q50, .inl (cJ, 64, .inr (.inl g736))), (q58, .inl (cJ, 8, .inr (.inl g810))), (q66, .inl (cJ, 48, .inr (.inl (fun _ => 0)))), (q74, .inl (cJ, 64, .inr (.inl (fun _ => 0)))), (q82, .inl (cJ, 8, .inr (.inl (fun _ => 0)))), (q90, .inl (cJ, 8, .inr (.inl (fun _ => 0)))), (q98, .inl (cI, 8, .inl (fun _ => 0)))] := hD
  refine lv_aload_n hx hb d_MO_init_818 rfl (lv_at hl 0 rfl) ?_
  refine va_get (D := (dC, dI)) (ci := 5) (v := .ref q21) (C := R_MO) (T := F_MO) (N := 17) hx hb hts in_MO hown hK hP 0 rfl rfl 3 (by decide) (hts _ gw_521) (fun _ h9 => h9) rfl d_MO_init_819 ?_
  refine lv_iconst (v := 1) hx hb d_MO_init_822 (by decide) ?_
  refine lv_iconst (v := (-1)) hx hb d_MO_init_823 (by decide) ?_
  refine va_iast hx hb hK hP hD hS 3 0 rfl rfl (by unfold vp_in; decide +kernel) d_MO_init_824 (fun H locs hP hD hS => ?_)
  generalize hg824 : (upd g817 ((1 : Int32)).toNatClampNeg (-1 : Int32)) = g824 at hP hD
  have hP : va_P (dC, dI) classes [(h, .inr (5, [.int 0, .ref q7, .ref q14, .ref q21, .ref q29, .int (-1 : Int32), .int 0, .int 0, .ref q42, .ref q50, .ref q58, .int 0, .ref q66, .ref q74, .ref q82, .ref q90, .ref q98])), (q7, .inl (cI, 70, .inl (fun _ => 0))), (q14, .inl (cI, 2, .inl (fun _ => 0))), (q21, .inl (cI, 2, .inl g824)), (q29, .inl (cI, 16, .inl (fun _ => 0))), (q42, .inl (cI, 24, .inl (fun _ => 0))), (q50, .inl (cJ, 64, .inr (.inl g736))), (q58, .inl (cJ, 8, .inr (.inl g810))), (q66, .inl (cJ, 48, .inr (.inl (fun _ => 0)))), (q74, .inl (cJ, 64, .inr (.inl (fun _ => 0)))), (q82, .inl (cJ, 8, .inr (.inl (fun _ => 0)))), (q90, .inl (cJ, 8, .inr (.inl (fun _ => 0)))), (q98, .inl (cI, 8, .inl (fun _ => 0)))] H := hP
  have hD : va_D A [(h, .inr (5, [.int 0, .ref q7, .ref q14, .ref q21, .ref q29, .int (-1 : Int32), .int 0, .int 0, .ref q42, .ref q50, .ref q58, .int 0, .ref q66, .ref q74, .ref q82, .ref q90, .ref q98])), (q7, .inl (cI, 70, .inl (fun _ => 0))), (q14, .inl (cI, 2, .inl (fun _ => 0))), (q21, .inl (cI, 2, .inl g824)), (q29, .inl (cI, 16, .inl (fun _ => 0))), (q42, .inl (cI, 24, .inl (fun _ => 0))), (q50, .inl (cJ, 64, .inr (.inl g736))), (q58, .inl (cJ, 8, .inr (.inl g810))), (q66, .inl (cJ, 48, .inr (.inl (fun _ => 0)))), (q74, .inl (cJ, 64, .inr (.inl (fun _ => 0)))), (q82, .inl (cJ, 8, .inr (.inl (fun _ => 0)))), (q90, .inl (cJ, 8, .inr (.inl (fun _ => 0)))), (q98, .inl (cI, 8, .inl (fun _ => 0)))] := hD
  subst hg111
  subst hg120
  subst hg129
  subst hg138
  subst hg147
  subst hg156
  subst hg166
  subst hg176
  subst hg186
  subst hg196
  subst hg206
  subst hg216
  subst hg226
  subst hg236
  subst hg246
  subst hg256
  subst hg266
  subst hg276
  subst hg286
  subst hg296
  subst hg306
  subst hg316
  subst hg326
  subst hg336
  subst hg346
  subst hg356
  subst hg366
  subst hg376
  subst hg386
  subst hg396
  subst hg406
  subst hg416
  subst hg426
  subst hg436
  subst hg446
  subst hg456
  subst hg466
  subst hg476
  subst hg486
  subst hg496
  subst hg506
  subst hg516
  subst hg526
  subst hg536
  subst hg546
  subst hg556
  subst hg566
  subst hg576
  subst hg586
  subst hg596
  subst hg606
  subst hg616
  subst hg626
  subst hg636
  subst hg646
  subst hg656
  subst hg666
  subst hg676
  subst hg686
  subst hg696
  subst hg706
  subst hg716
  subst hg726
  subst hg736
  subst hg745
  subst hg754
  subst hg763
  subst hg772
  subst hg781
  subst hg790
  subst hg800
  subst hg810
  subst hg817
  subst hg824
  exact W.vret hx hb hr (fun t ht hW => ⟨⟨(q7, q14, q21, q29, q42, q50, q58, q66, q74, q82, q90, q98), rfl, trivial, by rw [ht]; exact hP, va_K.moved hW.alike hK, hD⟩, hS.F ht⟩) hS.2.2 d_MO_init_825
