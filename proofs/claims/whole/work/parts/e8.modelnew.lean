/-! the constructor of the model -/
theorem d_X12_init_0 : decode cX12_init 0 = .ok (.aload_n 0, 1) := by decide +kernel
theorem d_X12_init_1 : decode cX12_init 1 = .ok (.invokespecial 1, 3) := by decide +kernel
theorem d_X12_init_4 : decode cX12_init 4 = .ok (.aload_n 0, 1) := by decide +kernel
theorem d_X12_init_5 : decode cX12_init 5 = .ok (.sipush 1000, 3) := by decide +kernel
theorem d_X12_init_8 : decode cX12_init 8 = .ok (.newarray .int, 2) := by decide +kernel
theorem d_X12_init_10 : decode cX12_init 10 = .ok (.putfield 7, 3) := by decide +kernel
theorem d_X12_init_13 : decode cX12_init 13 = .ok (.aload_n 0, 1) := by decide +kernel
theorem d_X12_init_14 : decode cX12_init 14 = .ok (.bipush 72, 2) := by decide +kernel
theorem d_X12_init_16 : decode cX12_init 16 = .ok (.newarray .int, 2) := by decide +kernel
theorem d_X12_init_18 : decode cX12_init 18 = .ok (.putfield 13, 3) := by decide +kernel
theorem d_X12_init_21 : decode cX12_init 21 = .ok (.aload_n 0, 1) := by decide +kernel
theorem d_X12_init_22 : decode cX12_init 22 = .ok (.iconst 5, 1) := by decide +kernel
theorem d_X12_init_23 : decode cX12_init 23 = .ok (.newarray .long, 2) := by decide +kernel
theorem d_X12_init_25 : decode cX12_init 25 = .ok (.putfield 16, 3) := by decide +kernel
theorem d_X12_init_28 : decode cX12_init 28 = .ok (.aload_n 0, 1) := by decide +kernel
theorem d_X12_init_29 : decode cX12_init 29 = .ok (.bipush 30, 2) := by decide +kernel
theorem d_X12_init_31 : decode cX12_init 31 = .ok (.newarray .int, 2) := by decide +kernel
theorem d_X12_init_33 : decode cX12_init 33 = .ok (.putfield 20, 3) := by decide +kernel
theorem d_X12_init_36 : decode cX12_init 36 = .ok (.aload_n 0, 1) := by decide +kernel
theorem d_X12_init_37 : decode cX12_init 37 = .ok (.bipush 30, 2) := by decide +kernel
theorem d_X12_init_39 : decode cX12_init 39 = .ok (.newarray .int, 2) := by decide +kernel
theorem d_X12_init_41 : decode cX12_init 41 = .ok (.putfield 23, 3) := by decide +kernel
theorem d_X12_init_44 : decode cX12_init 44 = .ok (.aload_n 0, 1) := by decide +kernel
theorem d_X12_init_45 : decode cX12_init 45 = .ok (.bipush 30, 2) := by decide +kernel
theorem d_X12_init_47 : decode cX12_init 47 = .ok (.newarray .int, 2) := by decide +kernel
theorem d_X12_init_49 : decode cX12_init 49 = .ok (.putfield 26, 3) := by decide +kernel
theorem d_X12_init_52 : decode cX12_init 52 = .ok (.aload_n 0, 1) := by decide +kernel
theorem d_X12_init_53 : decode cX12_init 53 = .ok (.bipush 30, 2) := by decide +kernel
theorem d_X12_init_55 : decode cX12_init 55 = .ok (.newarray .int, 2) := by decide +kernel
theorem d_X12_init_57 : decode cX12_init 57 = .ok (.putfield 29, 3) := by decide +kernel
theorem d_X12_init_60 : decode cX12_init 60 = .ok (.aload_n 0, 1) := by decide +kernel
theorem d_X12_init_61 : decode cX12_init 61 = .ok (.bipush 30, 2) := by decide +kernel
theorem d_X12_init_63 : decode cX12_init 63 = .ok (.newarray .int, 2) := by decide +kernel
theorem d_X12_init_65 : decode cX12_init 65 = .ok (.putfield 32, 3) := by decide +kernel
theorem d_X12_init_68 : decode cX12_init 68 = .ok (.aload_n 0, 1) := by decide +kernel
theorem d_X12_init_69 : decode cX12_init 69 = .ok (.bipush 30, 2) := by decide +kernel
theorem d_X12_init_71 : decode cX12_init 71 = .ok (.newarray .int, 2) := by decide +kernel
theorem d_X12_init_73 : decode cX12_init 73 = .ok (.putfield 35, 3) := by decide +kernel
theorem d_X12_init_76 : decode cX12_init 76 = .ok (.aload_n 0, 1) := by decide +kernel
theorem d_X12_init_77 : decode cX12_init 77 = .ok (.bipush 30, 2) := by decide +kernel
theorem d_X12_init_79 : decode cX12_init 79 = .ok (.newarray .int, 2) := by decide +kernel
theorem d_X12_init_81 : decode cX12_init 81 = .ok (.putfield 38, 3) := by decide +kernel
theorem d_X12_init_84 : decode cX12_init 84 = .ok (.aload_n 0, 1) := by decide +kernel
theorem d_X12_init_85 : decode cX12_init 85 = .ok (.bipush 30, 2) := by decide +kernel
theorem d_X12_init_87 : decode cX12_init 87 = .ok (.newarray .int, 2) := by decide +kernel
theorem d_X12_init_89 : decode cX12_init 89 = .ok (.putfield 41, 3) := by decide +kernel
theorem d_X12_init_92 : decode cX12_init 92 = .ok (.aload_n 0, 1) := by decide +kernel
theorem d_X12_init_93 : decode cX12_init 93 = .ok (.bipush 30, 2) := by decide +kernel
theorem d_X12_init_95 : decode cX12_init 95 = .ok (.newarray .int, 2) := by decide +kernel
theorem d_X12_init_97 : decode cX12_init 97 = .ok (.putfield 44, 3) := by decide +kernel
theorem d_X12_init_100 : decode cX12_init 100 = .ok (.aload_n 0, 1) := by decide +kernel
theorem d_X12_init_101 : decode cX12_init 101 = .ok (.bipush 30, 2) := by decide +kernel
theorem d_X12_init_103 : decode cX12_init 103 = .ok (.newarray .int, 2) := by decide +kernel
theorem d_X12_init_105 : decode cX12_init 105 = .ok (.putfield 47, 3) := by decide +kernel
theorem d_X12_init_108 : decode cX12_init 108 = .ok (.aload_n 0, 1) := by decide +kernel
theorem d_X12_init_109 : decode cX12_init 109 = .ok (.bipush 48, 2) := by decide +kernel
theorem d_X12_init_111 : decode cX12_init 111 = .ok (.newarray .int, 2) := by decide +kernel
theorem d_X12_init_113 : decode cX12_init 113 = .ok (.putfield 50, 3) := by decide +kernel
theorem d_X12_init_116 : decode cX12_init 116 = .ok (.aload_n 0, 1) := by decide +kernel
theorem d_X12_init_117 : decode cX12_init 117 = .ok (.bipush 48, 2) := by decide +kernel
theorem d_X12_init_119 : decode cX12_init 119 = .ok (.newarray .int, 2) := by decide +kernel
theorem d_X12_init_121 : decode cX12_init 121 = .ok (.putfield 53, 3) := by decide +kernel
theorem d_X12_init_124 : decode cX12_init 124 = .ok (.aload_n 0, 1) := by decide +kernel
theorem d_X12_init_125 : decode cX12_init 125 = .ok (.bipush 18, 2) := by decide +kernel
theorem d_X12_init_127 : decode cX12_init 127 = .ok (.newarray .int, 2) := by decide +kernel
theorem d_X12_init_129 : decode cX12_init 129 = .ok (.putfield 56, 3) := by decide +kernel
theorem d_X12_init_132 : decode cX12_init 132 = .ok (.aload_n 0, 1) := by decide +kernel
theorem d_X12_init_133 : decode cX12_init 133 = .ok (.bipush 18, 2) := by decide +kernel
theorem d_X12_init_135 : decode cX12_init 135 = .ok (.newarray .int, 2) := by decide +kernel
theorem d_X12_init_137 : decode cX12_init 137 = .ok (.putfield 59, 3) := by decide +kernel
theorem d_X12_init_140 : decode cX12_init 140 = .ok (.aload_n 0, 1) := by decide +kernel
theorem d_X12_init_141 : decode cX12_init 141 = .ok (.sipush 6000, 3) := by decide +kernel
theorem d_X12_init_144 : decode cX12_init 144 = .ok (.newarray .int, 2) := by decide +kernel
theorem d_X12_init_146 : decode cX12_init 146 = .ok (.putfield 62, 3) := by decide +kernel
theorem d_X12_init_149 : decode cX12_init 149 = .ok (.aload_n 0, 1) := by decide +kernel
theorem d_X12_init_150 : decode cX12_init 150 = .ok (.bipush 7, 2) := by decide +kernel
theorem d_X12_init_152 : decode cX12_init 152 = .ok (.newarray .int, 2) := by decide +kernel
theorem d_X12_init_154 : decode cX12_init 154 = .ok (.putfield 65, 3) := by decide +kernel
theorem d_X12_init_157 : decode cX12_init 157 = .ok (.aload_n 0, 1) := by decide +kernel
theorem d_X12_init_158 : decode cX12_init 158 = .ok (.bipush 7, 2) := by decide +kernel
theorem d_X12_init_160 : decode cX12_init 160 = .ok (.newarray .boolean, 2) := by decide +kernel
theorem d_X12_init_162 : decode cX12_init 162 = .ok (.putfield 68, 3) := by decide +kernel
theorem d_X12_init_165 : decode cX12_init 165 = .ok (.aload_n 0, 1) := by decide +kernel
theorem d_X12_init_166 : decode cX12_init 166 = .ok (.bipush 7, 2) := by decide +kernel
theorem d_X12_init_168 : decode cX12_init 168 = .ok (.newarray .int, 2) := by decide +kernel
theorem d_X12_init_170 : decode cX12_init 170 = .ok (.putfield 72, 3) := by decide +kernel
theorem d_X12_init_173 : decode cX12_init 173 = .ok (.aload_n 0, 1) := by decide +kernel
theorem d_X12_init_174 : decode cX12_init 174 = .ok (.bipush 7, 2) := by decide +kernel
theorem d_X12_init_176 : decode cX12_init 176 = .ok (.newarray .int, 2) := by decide +kernel
theorem d_X12_init_178 : decode cX12_init 178 = .ok (.putfield 75, 3) := by decide +kernel
theorem d_X12_init_181 : decode cX12_init 181 = .ok (.aload_n 0, 1) := by decide +kernel
theorem d_X12_init_182 : decode cX12_init 182 = .ok (.bipush 7, 2) := by decide +kernel
theorem d_X12_init_184 : decode cX12_init 184 = .ok (.newarray .int, 2) := by decide +kernel
theorem d_X12_init_186 : decode cX12_init 186 = .ok (.putfield 78, 3) := by decide +kernel
theorem d_X12_init_189 : decode cX12_init 189 = .ok (.aload_n 0, 1) := by decide +kernel
theorem d_X12_init_190 : decode cX12_init 190 = .ok (.bipush 7, 2) := by decide +kernel
theorem d_X12_init_192 : decode cX12_init 192 = .ok (.newarray .int, 2) := by decide +kernel
theorem d_X12_init_194 : decode cX12_init 194 = .ok (.putfield 81, 3) := by decide +kernel
theorem d_X12_init_197 : decode cX12_init 197 = .ok (.aload_n 0, 1) := by decide +kernel
theorem d_X12_init_198 : decode cX12_init 198 = .ok (.bipush 7, 2) := by decide +kernel
theorem d_X12_init_200 : decode cX12_init 200 = .ok (.newarray .int, 2) := by decide +kernel
theorem d_X12_init_202 : decode cX12_init 202 = .ok (.putfield 84, 3) := by decide +kernel
theorem d_X12_init_205 : decode cX12_init 205 = .ok (.aload_n 0, 1) := by decide +kernel
theorem d_X12_init_206 : decode cX12_init 206 = .ok (.bipush 7, 2) := by decide +kernel
theorem d_X12_init_208 : decode cX12_init 208 = .ok (.newarray .int, 2) := by decide +kernel
theorem d_X12_init_210 : decode cX12_init 210 = .ok (.putfield 87, 3) := by decide +kernel
theorem d_X12_init_213 : decode cX12_init 213 = .ok (.aload_n 0, 1) := by decide +kernel
theorem d_X12_init_214 : decode cX12_init 214 = .ok (.bipush 7, 2) := by decide +kernel
theorem d_X12_init_216 : decode cX12_init 216 = .ok (.newarray .int, 2) := by decide +kernel
theorem d_X12_init_218 : decode cX12_init 218 = .ok (.putfield 90, 3) := by decide +kernel
theorem d_X12_init_221 : decode cX12_init 221 = .ok (.aload_n 0, 1) := by decide +kernel
theorem d_X12_init_222 : decode cX12_init 222 = .ok (.bipush 7, 2) := by decide +kernel
theorem d_X12_init_224 : decode cX12_init 224 = .ok (.newarray .int, 2) := by decide +kernel
theorem d_X12_init_226 : decode cX12_init 226 = .ok (.putfield 93, 3) := by decide +kernel
theorem d_X12_init_229 : decode cX12_init 229 = .ok (.aload_n 0, 1) := by decide +kernel
theorem d_X12_init_230 : decode cX12_init 230 = .ok (.bipush 7, 2) := by decide +kernel
theorem d_X12_init_232 : decode cX12_init 232 = .ok (.newarray .int, 2) := by decide +kernel
theorem d_X12_init_234 : decode cX12_init 234 = .ok (.putfield 96, 3) := by decide +kernel
theorem d_X12_init_237 : decode cX12_init 237 = .ok (.aload_n 0, 1) := by decide +kernel
theorem d_X12_init_238 : decode cX12_init 238 = .ok (.bipush 20, 2) := by decide +kernel
theorem d_X12_init_240 : decode cX12_init 240 = .ok (.newarray .int, 2) := by decide +kernel
theorem d_X12_init_242 : decode cX12_init 242 = .ok (.putfield 99, 3) := by decide +kernel
theorem d_X12_init_245 : decode cX12_init 245 = .ok (.aload_n 0, 1) := by decide +kernel
theorem d_X12_init_246 : decode cX12_init 246 = .ok (.bipush 116, 2) := by decide +kernel
theorem d_X12_init_248 : decode cX12_init 248 = .ok (.newarray .int, 2) := by decide +kernel
theorem d_X12_init_250 : decode cX12_init 250 = .ok (.putfield 102, 3) := by decide +kernel
theorem d_X12_init_253 : decode cX12_init 253 = .ok (.aload_n 0, 1) := by decide +kernel
theorem d_X12_init_254 : decode cX12_init 254 = .ok (.sipush 464, 3) := by decide +kernel
theorem d_X12_init_257 : decode cX12_init 257 = .ok (.newarray .int, 2) := by decide +kernel
theorem d_X12_init_259 : decode cX12_init 259 = .ok (.putfield 105, 3) := by decide +kernel
theorem d_X12_init_262 : decode cX12_init 262 = .ok (.aload_n 0, 1) := by decide +kernel
theorem d_X12_init_263 : decode cX12_init 263 = .ok (.sipush 1392, 3) := by decide +kernel
theorem d_X12_init_266 : decode cX12_init 266 = .ok (.newarray .int, 2) := by decide +kernel
theorem d_X12_init_268 : decode cX12_init 268 = .ok (.putfield 108, 3) := by decide +kernel
theorem d_X12_init_271 : decode cX12_init 271 = .ok (.aload_n 0, 1) := by decide +kernel
theorem d_X12_init_272 : decode cX12_init 272 = .ok (.sipush 14600, 3) := by decide +kernel
theorem d_X12_init_275 : decode cX12_init 275 = .ok (.newarray .int, 2) := by decide +kernel
theorem d_X12_init_277 : decode cX12_init 277 = .ok (.putfield 111, 3) := by decide +kernel
theorem d_X12_init_280 : decode cX12_init 280 = .ok (.aload_n 0, 1) := by decide +kernel
theorem d_X12_init_281 : decode cX12_init 281 = .ok (.sipush 14600, 3) := by decide +kernel
theorem d_X12_init_284 : decode cX12_init 284 = .ok (.newarray .boolean, 2) := by decide +kernel
theorem d_X12_init_286 : decode cX12_init 286 = .ok (.putfield 114, 3) := by decide +kernel
theorem d_X12_init_289 : decode cX12_init 289 = .ok (.aload_n 0, 1) := by decide +kernel
theorem d_X12_init_290 : decode cX12_init 290 = .ok (.bipush 73, 2) := by decide +kernel
theorem d_X12_init_292 : decode cX12_init 292 = .ok (.newarray .int, 2) := by decide +kernel
theorem d_X12_init_294 : decode cX12_init 294 = .ok (.putfield 117, 3) := by decide +kernel
theorem d_X12_init_297 : decode cX12_init 297 = .ok (.aload_n 0, 1) := by decide +kernel
theorem d_X12_init_298 : decode cX12_init 298 = .ok (.bipush 73, 2) := by decide +kernel
theorem d_X12_init_300 : decode cX12_init 300 = .ok (.newarray .int, 2) := by decide +kernel
theorem d_X12_init_302 : decode cX12_init 302 = .ok (.putfield 120, 3) := by decide +kernel
theorem d_X12_init_305 : decode cX12_init 305 = .ok (.aload_n 0, 1) := by decide +kernel
theorem d_X12_init_306 : decode cX12_init 306 = .ok (.iconst 5, 1) := by decide +kernel
theorem d_X12_init_307 : decode cX12_init 307 = .ok (.newarray .int, 2) := by decide +kernel
theorem d_X12_init_309 : decode cX12_init 309 = .ok (.putfield 123, 3) := by decide +kernel
theorem d_X12_init_312 : decode cX12_init 312 = .ok (.aload_n 0, 1) := by decide +kernel
theorem d_X12_init_313 : decode cX12_init 313 = .ok (.iconst 5, 1) := by decide +kernel
theorem d_X12_init_314 : decode cX12_init 314 = .ok (.newarray .int, 2) := by decide +kernel
theorem d_X12_init_316 : decode cX12_init 316 = .ok (.putfield 126, 3) := by decide +kernel
theorem d_X12_init_319 : decode cX12_init 319 = .ok (.aload_n 0, 1) := by decide +kernel
theorem d_X12_init_320 : decode cX12_init 320 = .ok (.iconst 5, 1) := by decide +kernel
theorem d_X12_init_321 : decode cX12_init 321 = .ok (.newarray .int, 2) := by decide +kernel
theorem d_X12_init_323 : decode cX12_init 323 = .ok (.putfield 129, 3) := by decide +kernel
theorem d_X12_init_326 : decode cX12_init 326 = .ok (.aload_n 0, 1) := by decide +kernel
theorem d_X12_init_327 : decode cX12_init 327 = .ok (.iconst 5, 1) := by decide +kernel
theorem d_X12_init_328 : decode cX12_init 328 = .ok (.newarray .int, 2) := by decide +kernel
theorem d_X12_init_330 : decode cX12_init 330 = .ok (.putfield 132, 3) := by decide +kernel
theorem d_X12_init_333 : decode cX12_init 333 = .ok (.aload_n 0, 1) := by decide +kernel
theorem d_X12_init_334 : decode cX12_init 334 = .ok (.iconst 5, 1) := by decide +kernel
theorem d_X12_init_335 : decode cX12_init 335 = .ok (.newarray .int, 2) := by decide +kernel
theorem d_X12_init_337 : decode cX12_init 337 = .ok (.putfield 135, 3) := by decide +kernel
theorem d_X12_init_340 : decode cX12_init 340 = .ok (.aload_n 0, 1) := by decide +kernel
theorem d_X12_init_341 : decode cX12_init 341 = .ok (.iconst 5, 1) := by decide +kernel
theorem d_X12_init_342 : decode cX12_init 342 = .ok (.newarray .int, 2) := by decide +kernel
theorem d_X12_init_344 : decode cX12_init 344 = .ok (.putfield 138, 3) := by decide +kernel
theorem d_X12_init_347 : decode cX12_init 347 = .ok (.aload_n 0, 1) := by decide +kernel
theorem d_X12_init_348 : decode cX12_init 348 = .ok (.iconst 5, 1) := by decide +kernel
theorem d_X12_init_349 : decode cX12_init 349 = .ok (.newarray .int, 2) := by decide +kernel
theorem d_X12_init_351 : decode cX12_init 351 = .ok (.putfield 141, 3) := by decide +kernel
theorem d_X12_init_354 : decode cX12_init 354 = .ok (.aload_n 0, 1) := by decide +kernel
theorem d_X12_init_355 : decode cX12_init 355 = .ok (.iconst 5, 1) := by decide +kernel
theorem d_X12_init_356 : decode cX12_init 356 = .ok (.newarray .int, 2) := by decide +kernel
theorem d_X12_init_358 : decode cX12_init 358 = .ok (.putfield 144, 3) := by decide +kernel
theorem d_X12_init_361 : decode cX12_init 361 = .ok (.aload_n 0, 1) := by decide +kernel
theorem d_X12_init_362 : decode cX12_init 362 = .ok (.iconst 5, 1) := by decide +kernel
theorem d_X12_init_363 : decode cX12_init 363 = .ok (.newarray .int, 2) := by decide +kernel
theorem d_X12_init_365 : decode cX12_init 365 = .ok (.putfield 147, 3) := by decide +kernel
theorem d_X12_init_368 : decode cX12_init 368 = .ok (.aload_n 0, 1) := by decide +kernel
theorem d_X12_init_369 : decode cX12_init 369 = .ok (.iconst 5, 1) := by decide +kernel
theorem d_X12_init_370 : decode cX12_init 370 = .ok (.newarray .int, 2) := by decide +kernel
theorem d_X12_init_372 : decode cX12_init 372 = .ok (.putfield 150, 3) := by decide +kernel
theorem d_X12_init_375 : decode cX12_init 375 = .ok (.aload_n 0, 1) := by decide +kernel
theorem d_X12_init_376 : decode cX12_init 376 = .ok (.iconst 5, 1) := by decide +kernel
theorem d_X12_init_377 : decode cX12_init 377 = .ok (.newarray .int, 2) := by decide +kernel
theorem d_X12_init_379 : decode cX12_init 379 = .ok (.putfield 153, 3) := by decide +kernel
theorem d_X12_init_382 : decode cX12_init 382 = .ok (.aload_n 0, 1) := by decide +kernel
theorem d_X12_init_383 : decode cX12_init 383 = .ok (.iconst 3, 1) := by decide +kernel
theorem d_X12_init_384 : decode cX12_init 384 = .ok (.newarray .int, 2) := by decide +kernel
theorem d_X12_init_386 : decode cX12_init 386 = .ok (.putfield 156, 3) := by decide +kernel
theorem d_X12_init_389 : decode cX12_init 389 = .ok (.aload_n 0, 1) := by decide +kernel
theorem d_X12_init_390 : decode cX12_init 390 = .ok (.iconst 3, 1) := by decide +kernel
theorem d_X12_init_391 : decode cX12_init 391 = .ok (.newarray .int, 2) := by decide +kernel
theorem d_X12_init_393 : decode cX12_init 393 = .ok (.putfield 159, 3) := by decide +kernel
theorem d_X12_init_396 : decode cX12_init 396 = .ok (.aload_n 0, 1) := by decide +kernel
theorem d_X12_init_397 : decode cX12_init 397 = .ok (.iconst 4, 1) := by decide +kernel
theorem d_X12_init_398 : decode cX12_init 398 = .ok (.newarray .boolean, 2) := by decide +kernel
theorem d_X12_init_400 : decode cX12_init 400 = .ok (.putfield 162, 3) := by decide +kernel
theorem d_X12_init_403 : decode cX12_init 403 = .ok (.aload_n 0, 1) := by decide +kernel
theorem d_X12_init_404 : decode cX12_init 404 = .ok (.iconst 0, 1) := by decide +kernel
theorem d_X12_init_405 : decode cX12_init 405 = .ok (.invokevirtual 165, 3) := by decide +kernel
theorem d_X12_init_408 : decode cX12_init 408 = .ok (.return_, 1) := by decide +kernel
theorem frq_12 : ∀ b ∈ basL.getD 12 [], ∀ k ∈ List.range (nf 12), ((k : Int) ∈ ([75, 73, 72, 70, 69, 62, 61, 60, 59, 58, 57, 56, 55, 54, 53, 52, 51, 50, 45, 44, 43, 41, 40, 39, 38, 37, 36, 35, 34, 33, 32, 31, 30, 26, 25, 24, 23, 22, 21, 20, 19, 18, 17, 16, 15, 14, 13, 12, 11, 10, 2] : List Int) ∨ dfl 12 (k : Int) = Fz b (k : Int)) := by decide +kernel
section NEW12
variable {d : Nat} {G : Mem} {Q : Int → Mem → Prop}
theorem i_12 (hd : ∀ k : Nat, k < nf 12 → G 311 k = dfl 12 k) (h : ∀ G1 G2, (∀ q k : Int, q < 311 → G1 q k = G q k) → Fr Fz G1 311 363 → PnF 0 313 324 327 328 G1 G2 → Q 0 G2) : Ct (d + 1) M_X12_init 312 51 38989 none [(2, 311)] G Q := by
  refine Ct.of (by decide +kernel) (Nat.le_of_ble_eq_true rfl) ?_
  show Rn (d + 1) M_X12_init (312, 0, 0, 51, 38989, none) 0 [(0, (2, 311))] [] G Q
  have P0 : PA Fz 311 G G 312 [] := PA.rf (by omega)
  refine r_aload_n d_X12_init_0 0 rfl rfl (r_obj d_X12_init_1 (gk6 110 rfl rfl) (Nat.le_of_ble_eq_true rfl) ?_)
  refine r_aload_n d_X12_init_4 0 rfl rfl (r_sipush d_X12_init_5 (by decide +kernel) (n_arr (ci := 12) (f := 2) (fI := 2) (len := 1000) (t := 0) (q := 312) P0 rfl d_X12_init_8 d_X12_init_10 rfl (by decide) (gk1 91 rfl rfl) fl_X12_7 (by decide) (fun r hr => by cases hr; exact ⟨rfl, rfl⟩) rfl bs_12 (by decide) (by decide) (ly_12_2 bs_12).2.2 (Fz_lay (ly_12_2 bs_12)) (Fz_arr (ly_12_2 bs_12).2.2 (by decide)) (by decide) ⟨by decide, by decide⟩ (fun G1 P1 => ?_)))
  show Rn (d + 1) M_X12_init (313, 1, 1000, 51, 38989, none) 13 [(0, (2, 311))] [] G1 Q
  refine r_aload_n d_X12_init_13 0 rfl rfl (r_bipush d_X12_init_14 (by decide +kernel) (n_arr (ci := 12) (f := 10) (fI := 10) (len := 72) (t := 0) (q := 313) P1 rfl d_X12_init_16 d_X12_init_18 rfl (by decide) (gk1 91 rfl rfl) fl_X12_13 (by decide) (fun r hr => by cases hr; exact ⟨rfl, rfl⟩) rfl bs_12 (by decide) (by decide) (ly_12_10 bs_12).2.2 (Fz_lay (ly_12_10 bs_12)) (Fz_arr (ly_12_10 bs_12).2.2 (by decide)) (by decide) ⟨by decide, by decide⟩ (fun G2 P2 => ?_)))
  clear P1
  show Rn (d + 1) M_X12_init (314, 2, 1072, 51, 38989, none) 21 [(0, (2, 311))] [] G2 Q
  refine r_aload_n d_X12_init_21 0 rfl rfl (r_iconst d_X12_init_22 (n_arr (ci := 12) (f := 11) (fI := 11) (len := 5) (t := 3) (q := 314) P2 rfl d_X12_init_23 d_X12_init_25 rfl (by decide) (gk1 90 rfl rfl) fl_X12_16 (by decide) (fun r hr => by cases hr; exact ⟨rfl, rfl⟩) rfl bs_12 (by decide) (by decide) (ly_12_11 bs_12).2.2 (Fz_lay (ly_12_11 bs_12)) (Fz_arr (ly_12_11 bs_12).2.2 (by decide)) (by decide) ⟨by decide, by decide⟩ (fun G3 P3 => ?_)))
  clear P2
  show Rn (d + 1) M_X12_init (315, 3, 1077, 51, 38989, none) 28 [(0, (2, 311))] [] G3 Q
  refine r_aload_n d_X12_init_28 0 rfl rfl (r_bipush d_X12_init_29 (by decide +kernel) (n_arr (ci := 12) (f := 12) (fI := 12) (len := 30) (t := 0) (q := 315) P3 rfl d_X12_init_31 d_X12_init_33 rfl (by decide) (gk1 91 rfl rfl) fl_X12_20 (by decide) (fun r hr => by cases hr; exact ⟨rfl, rfl⟩) rfl bs_12 (by decide) (by decide) (ly_12_12 bs_12).2.2 (Fz_lay (ly_12_12 bs_12)) (Fz_arr (ly_12_12 bs_12).2.2 (by decide)) (by decide) ⟨by decide, by decide⟩ (fun G4 P4 => ?_)))
  clear P3
  show Rn (d + 1) M_X12_init (316, 4, 1107, 51, 38989, none) 36 [(0, (2, 311))] [] G4 Q
  refine r_aload_n d_X12_init_36 0 rfl rfl (r_bipush d_X12_init_37 (by decide +kernel) (n_arr (ci := 12) (f := 13) (fI := 13) (len := 30) (t := 0) (q := 316) P4 rfl d_X12_init_39 d_X12_init_41 rfl (by decide) (gk1 91 rfl rfl) fl_X12_23 (by decide) (fun r hr => by cases hr; exact ⟨rfl, rfl⟩) rfl bs_12 (by decide) (by decide) (ly_12_13 bs_12).2.2 (Fz_lay (ly_12_13 bs_12)) (Fz_arr (ly_12_13 bs_12).2.2 (by decide)) (by decide) ⟨by decide, by decide⟩ (fun G5 P5 => ?_)))
  clear P4
  show Rn (d + 1) M_X12_init (317, 5, 1137, 51, 38989, none) 44 [(0, (2, 311))] [] G5 Q
  refine r_aload_n d_X12_init_44 0 rfl rfl (r_bipush d_X12_init_45 (by decide +kernel) (n_arr (ci := 12) (f := 14) (fI := 14) (len := 30) (t := 0) (q := 317) P5 rfl d_X12_init_47 d_X12_init_49 rfl (by decide) (gk1 91 rfl rfl) fl_X12_26 (by decide) (fun r hr => by cases hr; exact ⟨rfl, rfl⟩) rfl bs_12 (by decide) (by decide) (ly_12_14 bs_12).2.2 (Fz_lay (ly_12_14 bs_12)) (Fz_arr (ly_12_14 bs_12).2.2 (by decide)) (by decide) ⟨by decide, by decide⟩ (fun G6 P6 => ?_)))
  clear P5
  show Rn (d + 1) M_X12_init (318, 6, 1167, 51, 38989, none) 52 [(0, (2, 311))] [] G6 Q
  refine r_aload_n d_X12_init_52 0 rfl rfl (r_bipush d_X12_init_53 (by decide +kernel) (n_arr (ci := 12) (f := 15) (fI := 15) (len := 30) (t := 0) (q := 318) P6 rfl d_X12_init_55 d_X12_init_57 rfl (by decide) (gk1 91 rfl rfl) fl_X12_29 (by decide) (fun r hr => by cases hr; exact ⟨rfl, rfl⟩) rfl bs_12 (by decide) (by decide) (ly_12_15 bs_12).2.2 (Fz_lay (ly_12_15 bs_12)) (Fz_arr (ly_12_15 bs_12).2.2 (by decide)) (by decide) ⟨by decide, by decide⟩ (fun G7 P7 => ?_)))
  clear P6
  show Rn (d + 1) M_X12_init (319, 7, 1197, 51, 38989, none) 60 [(0, (2, 311))] [] G7 Q
  refine r_aload_n d_X12_init_60 0 rfl rfl (r_bipush d_X12_init_61 (by decide +kernel) (n_arr (ci := 12) (f := 16) (fI := 16) (len := 30) (t := 0) (q := 319) P7 rfl d_X12_init_63 d_X12_init_65 rfl (by decide) (gk1 91 rfl rfl) fl_X12_32 (by decide) (fun r hr => by cases hr; exact ⟨rfl, rfl⟩) rfl bs_12 (by decide) (by decide) (ly_12_16 bs_12).2.2 (Fz_lay (ly_12_16 bs_12)) (Fz_arr (ly_12_16 bs_12).2.2 (by decide)) (by decide) ⟨by decide, by decide⟩ (fun G8 P8 => ?_)))
  clear P7
  show Rn (d + 1) M_X12_init (320, 8, 1227, 51, 38989, none) 68 [(0, (2, 311))] [] G8 Q
  refine r_aload_n d_X12_init_68 0 rfl rfl (r_bipush d_X12_init_69 (by decide +kernel) (n_arr (ci := 12) (f := 17) (fI := 17) (len := 30) (t := 0) (q := 320) P8 rfl d_X12_init_71 d_X12_init_73 rfl (by decide) (gk1 91 rfl rfl) fl_X12_35 (by decide) (fun r hr => by cases hr; exact ⟨rfl, rfl⟩) rfl bs_12 (by decide) (by decide) (ly_12_17 bs_12).2.2 (Fz_lay (ly_12_17 bs_12)) (Fz_arr (ly_12_17 bs_12).2.2 (by decide)) (by decide) ⟨by decide, by decide⟩ (fun G9 P9 => ?_)))
  clear P8
  show Rn (d + 1) M_X12_init (321, 9, 1257, 51, 38989, none) 76 [(0, (2, 311))] [] G9 Q
  refine r_aload_n d_X12_init_76 0 rfl rfl (r_bipush d_X12_init_77 (by decide +kernel) (n_arr (ci := 12) (f := 18) (fI := 18) (len := 30) (t := 0) (q := 321) P9 rfl d_X12_init_79 d_X12_init_81 rfl (by decide) (gk1 91 rfl rfl) fl_X12_38 (by decide) (fun r hr => by cases hr; exact ⟨rfl, rfl⟩) rfl bs_12 (by decide) (by decide) (ly_12_18 bs_12).2.2 (Fz_lay (ly_12_18 bs_12)) (Fz_arr (ly_12_18 bs_12).2.2 (by decide)) (by decide) ⟨by decide, by decide⟩ (fun G10 P10 => ?_)))
  clear P9
  show Rn (d + 1) M_X12_init (322, 10, 1287, 51, 38989, none) 84 [(0, (2, 311))] [] G10 Q
  refine r_aload_n d_X12_init_84 0 rfl rfl (r_bipush d_X12_init_85 (by decide +kernel) (n_arr (ci := 12) (f := 19) (fI := 19) (len := 30) (t := 0) (q := 322) P10 rfl d_X12_init_87 d_X12_init_89 rfl (by decide) (gk1 91 rfl rfl) fl_X12_41 (by decide) (fun r hr => by cases hr; exact ⟨rfl, rfl⟩) rfl bs_12 (by decide) (by decide) (ly_12_19 bs_12).2.2 (Fz_lay (ly_12_19 bs_12)) (Fz_arr (ly_12_19 bs_12).2.2 (by decide)) (by decide) ⟨by decide, by decide⟩ (fun G11 P11 => ?_)))
  clear P10
  show Rn (d + 1) M_X12_init (323, 11, 1317, 51, 38989, none) 92 [(0, (2, 311))] [] G11 Q
  refine r_aload_n d_X12_init_92 0 rfl rfl (r_bipush d_X12_init_93 (by decide +kernel) (n_arr (ci := 12) (f := 20) (fI := 20) (len := 30) (t := 0) (q := 323) P11 rfl d_X12_init_95 d_X12_init_97 rfl (by decide) (gk1 91 rfl rfl) fl_X12_44 (by decide) (fun r hr => by cases hr; exact ⟨rfl, rfl⟩) rfl bs_12 (by decide) (by decide) (ly_12_20 bs_12).2.2 (Fz_lay (ly_12_20 bs_12)) (Fz_arr (ly_12_20 bs_12).2.2 (by decide)) (by decide) ⟨by decide, by decide⟩ (fun G12 P12 => ?_)))
  clear P11
  show Rn (d + 1) M_X12_init (324, 12, 1347, 51, 38989, none) 100 [(0, (2, 311))] [] G12 Q
  refine r_aload_n d_X12_init_100 0 rfl rfl (r_bipush d_X12_init_101 (by decide +kernel) (n_arr (ci := 12) (f := 21) (fI := 21) (len := 30) (t := 0) (q := 324) P12 rfl d_X12_init_103 d_X12_init_105 rfl (by decide) (gk1 91 rfl rfl) fl_X12_47 (by decide) (fun r hr => by cases hr; exact ⟨rfl, rfl⟩) rfl bs_12 (by decide) (by decide) (ly_12_21 bs_12).2.2 (Fz_lay (ly_12_21 bs_12)) (Fz_arr (ly_12_21 bs_12).2.2 (by decide)) (by decide) ⟨by decide, by decide⟩ (fun G13 P13 => ?_)))
  clear P12
  show Rn (d + 1) M_X12_init (325, 13, 1377, 51, 38989, none) 108 [(0, (2, 311))] [] G13 Q
  refine r_aload_n d_X12_init_108 0 rfl rfl (r_bipush d_X12_init_109 (by decide +kernel) (n_arr (ci := 12) (f := 22) (fI := 22) (len := 48) (t := 0) (q := 325) P13 rfl d_X12_init_111 d_X12_init_113 rfl (by decide) (gk1 91 rfl rfl) fl_X12_50 (by decide) (fun r hr => by cases hr; exact ⟨rfl, rfl⟩) rfl bs_12 (by decide) (by decide) (ly_12_22 bs_12).2.2 (Fz_lay (ly_12_22 bs_12)) (Fz_arr (ly_12_22 bs_12).2.2 (by decide)) (by decide) ⟨by decide, by decide⟩ (fun G14 P14 => ?_)))
  clear P13
  show Rn (d + 1) M_X12_init (326, 14, 1425, 51, 38989, none) 116 [(0, (2, 311))] [] G14 Q
  refine r_aload_n d_X12_init_116 0 rfl rfl (r_bipush d_X12_init_117 (by decide +kernel) (n_arr (ci := 12) (f := 23) (fI := 23) (len := 48) (t := 0) (q := 326) P14 rfl d_X12_init_119 d_X12_init_121 rfl (by decide) (gk1 91 rfl rfl) fl_X12_53 (by decide) (fun r hr => by cases hr; exact ⟨rfl, rfl⟩) rfl bs_12 (by decide) (by decide) (ly_12_23 bs_12).2.2 (Fz_lay (ly_12_23 bs_12)) (Fz_arr (ly_12_23 bs_12).2.2 (by decide)) (by decide) ⟨by decide, by decide⟩ (fun G15 P15 => ?_)))
  clear P14
  show Rn (d + 1) M_X12_init (327, 15, 1473, 51, 38989, none) 124 [(0, (2, 311))] [] G15 Q
  refine r_aload_n d_X12_init_124 0 rfl rfl (r_bipush d_X12_init_125 (by decide +kernel) (n_arr (ci := 12) (f := 24) (fI := 24) (len := 18) (t := 0) (q := 327) P15 rfl d_X12_init_127 d_X12_init_129 rfl (by decide) (gk1 91 rfl rfl) fl_X12_56 (by decide) (fun r hr => by cases hr; exact ⟨rfl, rfl⟩) rfl bs_12 (by decide) (by decide) (ly_12_24 bs_12).2.2 (Fz_lay (ly_12_24 bs_12)) (Fz_arr (ly_12_24 bs_12).2.2 (by decide)) (by decide) ⟨by decide, by decide⟩ (fun G16 P16 => ?_)))
  clear P15
  show Rn (d + 1) M_X12_init (328, 16, 1491, 51, 38989, none) 132 [(0, (2, 311))] [] G16 Q
  refine r_aload_n d_X12_init_132 0 rfl rfl (r_bipush d_X12_init_133 (by decide +kernel) (n_arr (ci := 12) (f := 25) (fI := 25) (len := 18) (t := 0) (q := 328) P16 rfl d_X12_init_135 d_X12_init_137 rfl (by decide) (gk1 91 rfl rfl) fl_X12_59 (by decide) (fun r hr => by cases hr; exact ⟨rfl, rfl⟩) rfl bs_12 (by decide) (by decide) (ly_12_25 bs_12).2.2 (Fz_lay (ly_12_25 bs_12)) (Fz_arr (ly_12_25 bs_12).2.2 (by decide)) (by decide) ⟨by decide, by decide⟩ (fun G17 P17 => ?_)))
  clear P16
  show Rn (d + 1) M_X12_init (329, 17, 1509, 51, 38989, none) 140 [(0, (2, 311))] [] G17 Q
  refine r_aload_n d_X12_init_140 0 rfl rfl (r_sipush d_X12_init_141 (by decide +kernel) (n_arr (ci := 12) (f := 26) (fI := 26) (len := 6000) (t := 0) (q := 329) P17 rfl d_X12_init_144 d_X12_init_146 rfl (by decide) (gk1 91 rfl rfl) fl_X12_62 (by decide) (fun r hr => by cases hr; exact ⟨rfl, rfl⟩) rfl bs_12 (by decide) (by decide) (ly_12_26 bs_12).2.2 (Fz_lay (ly_12_26 bs_12)) (Fz_arr (ly_12_26 bs_12).2.2 (by decide)) (by decide) ⟨by decide, by decide⟩ (fun G18 P18 => ?_)))
  clear P17
  show Rn (d + 1) M_X12_init (330, 18, 7509, 51, 38989, none) 149 [(0, (2, 311))] [] G18 Q
  refine r_aload_n d_X12_init_149 0 rfl rfl (r_bipush d_X12_init_150 (by decide +kernel) (n_arr (ci := 12) (f := 30) (fI := 30) (len := 7) (t := 0) (q := 330) P18 rfl d_X12_init_152 d_X12_init_154 rfl (by decide) (gk1 91 rfl rfl) fl_X12_65 (by decide) (fun r hr => by cases hr; exact ⟨rfl, rfl⟩) rfl bs_12 (by decide) (by decide) (ly_12_30 bs_12).2.2 (Fz_lay (ly_12_30 bs_12)) (Fz_arr (ly_12_30 bs_12).2.2 (by decide)) (by decide) ⟨by decide, by decide⟩ (fun G19 P19 => ?_)))
  clear P18
  show Rn (d + 1) M_X12_init (331, 19, 7516, 51, 38989, none) 157 [(0, (2, 311))] [] G19 Q
  refine r_aload_n d_X12_init_157 0 rfl rfl (r_bipush d_X12_init_158 (by decide +kernel) (n_arr (ci := 12) (f := 31) (fI := 31) (len := 7) (t := 1) (q := 331) P19 rfl d_X12_init_160 d_X12_init_162 rfl (by decide) (gk1 151 rfl rfl) fl_X12_68 (by decide) (fun r hr => by cases hr; exact ⟨rfl, rfl⟩) rfl bs_12 (by decide) (by decide) (ly_12_31 bs_12).2.2 (Fz_lay (ly_12_31 bs_12)) (Fz_arr (ly_12_31 bs_12).2.2 (by decide)) (by decide) ⟨by decide, by decide⟩ (fun G20 P20 => ?_)))
  clear P19
  show Rn (d + 1) M_X12_init (332, 20, 7523, 51, 38989, none) 165 [(0, (2, 311))] [] G20 Q
  refine r_aload_n d_X12_init_165 0 rfl rfl (r_bipush d_X12_init_166 (by decide +kernel) (n_arr (ci := 12) (f := 32) (fI := 32) (len := 7) (t := 0) (q := 332) P20 rfl d_X12_init_168 d_X12_init_170 rfl (by decide) (gk1 91 rfl rfl) fl_X12_72 (by decide) (fun r hr => by cases hr; exact ⟨rfl, rfl⟩) rfl bs_12 (by decide) (by decide) (ly_12_32 bs_12).2.2 (Fz_lay (ly_12_32 bs_12)) (Fz_arr (ly_12_32 bs_12).2.2 (by decide)) (by decide) ⟨by decide, by decide⟩ (fun G21 P21 => ?_)))
  clear P20
  show Rn (d + 1) M_X12_init (333, 21, 7530, 51, 38989, none) 173 [(0, (2, 311))] [] G21 Q
  refine r_aload_n d_X12_init_173 0 rfl rfl (r_bipush d_X12_init_174 (by decide +kernel) (n_arr (ci := 12) (f := 33) (fI := 33) (len := 7) (t := 0) (q := 333) P21 rfl d_X12_init_176 d_X12_init_178 rfl (by decide) (gk1 91 rfl rfl) fl_X12_75 (by decide) (fun r hr => by cases hr; exact ⟨rfl, rfl⟩) rfl bs_12 (by decide) (by decide) (ly_12_33 bs_12).2.2 (Fz_lay (ly_12_33 bs_12)) (Fz_arr (ly_12_33 bs_12).2.2 (by decide)) (by decide) ⟨by decide, by decide⟩ (fun G22 P22 => ?_)))
  clear P21
  show Rn (d + 1) M_X12_init (334, 22, 7537, 51, 38989, none) 181 [(0, (2, 311))] [] G22 Q
  refine r_aload_n d_X12_init_181 0 rfl rfl (r_bipush d_X12_init_182 (by decide +kernel) (n_arr (ci := 12) (f := 34) (fI := 34) (len := 7) (t := 0) (q := 334) P22 rfl d_X12_init_184 d_X12_init_186 rfl (by decide) (gk1 91 rfl rfl) fl_X12_78 (by decide) (fun r hr => by cases hr; exact ⟨rfl, rfl⟩) rfl bs_12 (by decide) (by decide) (ly_12_34 bs_12).2.2 (Fz_lay (ly_12_34 bs_12)) (Fz_arr (ly_12_34 bs_12).2.2 (by decide)) (by decide) ⟨by decide, by decide⟩ (fun G23 P23 => ?_)))
  clear P22
  show Rn (d + 1) M_X12_init (335, 23, 7544, 51, 38989, none) 189 [(0, (2, 311))] [] G23 Q
  refine r_aload_n d_X12_init_189 0 rfl rfl (r_bipush d_X12_init_190 (by decide +kernel) (n_arr (ci := 12) (f := 35) (fI := 35) (len := 7) (t := 0) (q := 335) P23 rfl d_X12_init_192 d_X12_init_194 rfl (by decide) (gk1 91 rfl rfl) fl_X12_81 (by decide) (fun r hr => by cases hr; exact ⟨rfl, rfl⟩) rfl bs_12 (by decide) (by decide) (ly_12_35 bs_12).2.2 (Fz_lay (ly_12_35 bs_12)) (Fz_arr (ly_12_35 bs_12).2.2 (by decide)) (by decide) ⟨by decide, by decide⟩ (fun G24 P24 => ?_)))
  clear P23
  show Rn (d + 1) M_X12_init (336, 24, 7551, 51, 38989, none) 197 [(0, (2, 311))] [] G24 Q
  refine r_aload_n d_X12_init_197 0 rfl rfl (r_bipush d_X12_init_198 (by decide +kernel) (n_arr (ci := 12) (f := 36) (fI := 36) (len := 7) (t := 0) (q := 336) P24 rfl d_X12_init_200 d_X12_init_202 rfl (by decide) (gk1 91 rfl rfl) fl_X12_84 (by decide) (fun r hr => by cases hr; exact ⟨rfl, rfl⟩) rfl bs_12 (by decide) (by decide) (ly_12_36 bs_12).2.2 (Fz_lay (ly_12_36 bs_12)) (Fz_arr (ly_12_36 bs_12).2.2 (by decide)) (by decide) ⟨by decide, by decide⟩ (fun G25 P25 => ?_)))
  clear P24
  show Rn (d + 1) M_X12_init (337, 25, 7558, 51, 38989, none) 205 [(0, (2, 311))] [] G25 Q
  refine r_aload_n d_X12_init_205 0 rfl rfl (r_bipush d_X12_init_206 (by decide +kernel) (n_arr (ci := 12) (f := 37) (fI := 37) (len := 7) (t := 0) (q := 337) P25 rfl d_X12_init_208 d_X12_init_210 rfl (by decide) (gk1 91 rfl rfl) fl_X12_87 (by decide) (fun r hr => by cases hr; exact ⟨rfl, rfl⟩) rfl bs_12 (by decide) (by decide) (ly_12_37 bs_12).2.2 (Fz_lay (ly_12_37 bs_12)) (Fz_arr (ly_12_37 bs_12).2.2 (by decide)) (by decide) ⟨by decide, by decide⟩ (fun G26 P26 => ?_)))
  clear P25
  show Rn (d + 1) M_X12_init (338, 26, 7565, 51, 38989, none) 213 [(0, (2, 311))] [] G26 Q
  refine r_aload_n d_X12_init_213 0 rfl rfl (r_bipush d_X12_init_214 (by decide +kernel) (n_arr (ci := 12) (f := 38) (fI := 38) (len := 7) (t := 0) (q := 338) P26 rfl d_X12_init_216 d_X12_init_218 rfl (by decide) (gk1 91 rfl rfl) fl_X12_90 (by decide) (fun r hr => by cases hr; exact ⟨rfl, rfl⟩) rfl bs_12 (by decide) (by decide) (ly_12_38 bs_12).2.2 (Fz_lay (ly_12_38 bs_12)) (Fz_arr (ly_12_38 bs_12).2.2 (by decide)) (by decide) ⟨by decide, by decide⟩ (fun G27 P27 => ?_)))
  clear P26
  show Rn (d + 1) M_X12_init (339, 27, 7572, 51, 38989, none) 221 [(0, (2, 311))] [] G27 Q
  refine r_aload_n d_X12_init_221 0 rfl rfl (r_bipush d_X12_init_222 (by decide +kernel) (n_arr (ci := 12) (f := 39) (fI := 39) (len := 7) (t := 0) (q := 339) P27 rfl d_X12_init_224 d_X12_init_226 rfl (by decide) (gk1 91 rfl rfl) fl_X12_93 (by decide) (fun r hr => by cases hr; exact ⟨rfl, rfl⟩) rfl bs_12 (by decide) (by decide) (ly_12_39 bs_12).2.2 (Fz_lay (ly_12_39 bs_12)) (Fz_arr (ly_12_39 bs_12).2.2 (by decide)) (by decide) ⟨by decide, by decide⟩ (fun G28 P28 => ?_)))
  clear P27
  show Rn (d + 1) M_X12_init (340, 28, 7579, 51, 38989, none) 229 [(0, (2, 311))] [] G28 Q
  refine r_aload_n d_X12_init_229 0 rfl rfl (r_bipush d_X12_init_230 (by decide +kernel) (n_arr (ci := 12) (f := 40) (fI := 40) (len := 7) (t := 0) (q := 340) P28 rfl d_X12_init_232 d_X12_init_234 rfl (by decide) (gk1 91 rfl rfl) fl_X12_96 (by decide) (fun r hr => by cases hr; exact ⟨rfl, rfl⟩) rfl bs_12 (by decide) (by decide) (ly_12_40 bs_12).2.2 (Fz_lay (ly_12_40 bs_12)) (Fz_arr (ly_12_40 bs_12).2.2 (by decide)) (by decide) ⟨by decide, by decide⟩ (fun G29 P29 => ?_)))
  clear P28
  show Rn (d + 1) M_X12_init (341, 29, 7586, 51, 38989, none) 237 [(0, (2, 311))] [] G29 Q
  refine r_aload_n d_X12_init_237 0 rfl rfl (r_bipush d_X12_init_238 (by decide +kernel) (n_arr (ci := 12) (f := 41) (fI := 41) (len := 20) (t := 0) (q := 341) P29 rfl d_X12_init_240 d_X12_init_242 rfl (by decide) (gk1 91 rfl rfl) fl_X12_99 (by decide) (fun r hr => by cases hr; exact ⟨rfl, rfl⟩) rfl bs_12 (by decide) (by decide) (ly_12_41 bs_12).2.2 (Fz_lay (ly_12_41 bs_12)) (Fz_arr (ly_12_41 bs_12).2.2 (by decide)) (by decide) ⟨by decide, by decide⟩ (fun G30 P30 => ?_)))
  clear P29
  show Rn (d + 1) M_X12_init (342, 30, 7606, 51, 38989, none) 245 [(0, (2, 311))] [] G30 Q
  refine r_aload_n d_X12_init_245 0 rfl rfl (r_bipush d_X12_init_246 (by decide +kernel) (n_arr (ci := 12) (f := 43) (fI := 43) (len := 116) (t := 0) (q := 342) P30 rfl d_X12_init_248 d_X12_init_250 rfl (by decide) (gk1 91 rfl rfl) fl_X12_102 (by decide) (fun r hr => by cases hr; exact ⟨rfl, rfl⟩) rfl bs_12 (by decide) (by decide) (ly_12_43 bs_12).2.2 (Fz_lay (ly_12_43 bs_12)) (Fz_arr (ly_12_43 bs_12).2.2 (by decide)) (by decide) ⟨by decide, by decide⟩ (fun G31 P31 => ?_)))
  clear P30
  show Rn (d + 1) M_X12_init (343, 31, 7722, 51, 38989, none) 253 [(0, (2, 311))] [] G31 Q
  refine r_aload_n d_X12_init_253 0 rfl rfl (r_sipush d_X12_init_254 (by decide +kernel) (n_arr (ci := 12) (f := 44) (fI := 44) (len := 464) (t := 0) (q := 343) P31 rfl d_X12_init_257 d_X12_init_259 rfl (by decide) (gk1 91 rfl rfl) fl_X12_105 (by decide) (fun r hr => by cases hr; exact ⟨rfl, rfl⟩) rfl bs_12 (by decide) (by decide) (ly_12_44 bs_12).2.2 (Fz_lay (ly_12_44 bs_12)) (Fz_arr (ly_12_44 bs_12).2.2 (by decide)) (by decide) ⟨by decide, by decide⟩ (fun G32 P32 => ?_)))
  clear P31
  show Rn (d + 1) M_X12_init (344, 32, 8186, 51, 38989, none) 262 [(0, (2, 311))] [] G32 Q
  refine r_aload_n d_X12_init_262 0 rfl rfl (r_sipush d_X12_init_263 (by decide +kernel) (n_arr (ci := 12) (f := 45) (fI := 45) (len := 1392) (t := 0) (q := 344) P32 rfl d_X12_init_266 d_X12_init_268 rfl (by decide) (gk1 91 rfl rfl) fl_X12_108 (by decide) (fun r hr => by cases hr; exact ⟨rfl, rfl⟩) rfl bs_12 (by decide) (by decide) (ly_12_45 bs_12).2.2 (Fz_lay (ly_12_45 bs_12)) (Fz_arr (ly_12_45 bs_12).2.2 (by decide)) (by decide) ⟨by decide, by decide⟩ (fun G33 P33 => ?_)))
  clear P32
  show Rn (d + 1) M_X12_init (345, 33, 9578, 51, 38989, none) 271 [(0, (2, 311))] [] G33 Q
  refine r_aload_n d_X12_init_271 0 rfl rfl (r_sipush d_X12_init_272 (by decide +kernel) (n_arr (ci := 12) (f := 50) (fI := 50) (len := 14600) (t := 0) (q := 345) P33 rfl d_X12_init_275 d_X12_init_277 rfl (by decide) (gk1 91 rfl rfl) fl_X12_111 (by decide) (fun r hr => by cases hr; exact ⟨rfl, rfl⟩) rfl bs_12 (by decide) (by decide) (ly_12_50 bs_12).2.2 (Fz_lay (ly_12_50 bs_12)) (Fz_arr (ly_12_50 bs_12).2.2 (by decide)) (by decide) ⟨by decide, by decide⟩ (fun G34 P34 => ?_)))
  clear P33
  show Rn (d + 1) M_X12_init (346, 34, 24178, 51, 38989, none) 280 [(0, (2, 311))] [] G34 Q
  refine r_aload_n d_X12_init_280 0 rfl rfl (r_sipush d_X12_init_281 (by decide +kernel) (n_arr (ci := 12) (f := 51) (fI := 51) (len := 14600) (t := 1) (q := 346) P34 rfl d_X12_init_284 d_X12_init_286 rfl (by decide) (gk1 151 rfl rfl) fl_X12_114 (by decide) (fun r hr => by cases hr; exact ⟨rfl, rfl⟩) rfl bs_12 (by decide) (by decide) (ly_12_51 bs_12).2.2 (Fz_lay (ly_12_51 bs_12)) (Fz_arr (ly_12_51 bs_12).2.2 (by decide)) (by decide) ⟨by decide, by decide⟩ (fun G35 P35 => ?_)))
  clear P34
  show Rn (d + 1) M_X12_init (347, 35, 38778, 51, 38989, none) 289 [(0, (2, 311))] [] G35 Q
  refine r_aload_n d_X12_init_289 0 rfl rfl (r_bipush d_X12_init_290 (by decide +kernel) (n_arr (ci := 12) (f := 52) (fI := 52) (len := 73) (t := 0) (q := 347) P35 rfl d_X12_init_292 d_X12_init_294 rfl (by decide) (gk1 91 rfl rfl) fl_X12_117 (by decide) (fun r hr => by cases hr; exact ⟨rfl, rfl⟩) rfl bs_12 (by decide) (by decide) (ly_12_52 bs_12).2.2 (Fz_lay (ly_12_52 bs_12)) (Fz_arr (ly_12_52 bs_12).2.2 (by decide)) (by decide) ⟨by decide, by decide⟩ (fun G36 P36 => ?_)))
  clear P35
  show Rn (d + 1) M_X12_init (348, 36, 38851, 51, 38989, none) 297 [(0, (2, 311))] [] G36 Q
  refine r_aload_n d_X12_init_297 0 rfl rfl (r_bipush d_X12_init_298 (by decide +kernel) (n_arr (ci := 12) (f := 53) (fI := 53) (len := 73) (t := 0) (q := 348) P36 rfl d_X12_init_300 d_X12_init_302 rfl (by decide) (gk1 91 rfl rfl) fl_X12_120 (by decide) (fun r hr => by cases hr; exact ⟨rfl, rfl⟩) rfl bs_12 (by decide) (by decide) (ly_12_53 bs_12).2.2 (Fz_lay (ly_12_53 bs_12)) (Fz_arr (ly_12_53 bs_12).2.2 (by decide)) (by decide) ⟨by decide, by decide⟩ (fun G37 P37 => ?_)))
  clear P36
  show Rn (d + 1) M_X12_init (349, 37, 38924, 51, 38989, none) 305 [(0, (2, 311))] [] G37 Q
  refine r_aload_n d_X12_init_305 0 rfl rfl (r_iconst d_X12_init_306 (n_arr (ci := 12) (f := 54) (fI := 54) (len := 5) (t := 0) (q := 349) P37 rfl d_X12_init_307 d_X12_init_309 rfl (by decide) (gk1 91 rfl rfl) fl_X12_123 (by decide) (fun r hr => by cases hr; exact ⟨rfl, rfl⟩) rfl bs_12 (by decide) (by decide) (ly_12_54 bs_12).2.2 (Fz_lay (ly_12_54 bs_12)) (Fz_arr (ly_12_54 bs_12).2.2 (by decide)) (by decide) ⟨by decide, by decide⟩ (fun G38 P38 => ?_)))
  clear P37
  show Rn (d + 1) M_X12_init (350, 38, 38929, 51, 38989, none) 312 [(0, (2, 311))] [] G38 Q
  refine r_aload_n d_X12_init_312 0 rfl rfl (r_iconst d_X12_init_313 (n_arr (ci := 12) (f := 55) (fI := 55) (len := 5) (t := 0) (q := 350) P38 rfl d_X12_init_314 d_X12_init_316 rfl (by decide) (gk1 91 rfl rfl) fl_X12_126 (by decide) (fun r hr => by cases hr; exact ⟨rfl, rfl⟩) rfl bs_12 (by decide) (by decide) (ly_12_55 bs_12).2.2 (Fz_lay (ly_12_55 bs_12)) (Fz_arr (ly_12_55 bs_12).2.2 (by decide)) (by decide) ⟨by decide, by decide⟩ (fun G39 P39 => ?_)))
  clear P38
  show Rn (d + 1) M_X12_init (351, 39, 38934, 51, 38989, none) 319 [(0, (2, 311))] [] G39 Q
  refine r_aload_n d_X12_init_319 0 rfl rfl (r_iconst d_X12_init_320 (n_arr (ci := 12) (f := 56) (fI := 56) (len := 5) (t := 0) (q := 351) P39 rfl d_X12_init_321 d_X12_init_323 rfl (by decide) (gk1 91 rfl rfl) fl_X12_129 (by decide) (fun r hr => by cases hr; exact ⟨rfl, rfl⟩) rfl bs_12 (by decide) (by decide) (ly_12_56 bs_12).2.2 (Fz_lay (ly_12_56 bs_12)) (Fz_arr (ly_12_56 bs_12).2.2 (by decide)) (by decide) ⟨by decide, by decide⟩ (fun G40 P40 => ?_)))
  clear P39
  show Rn (d + 1) M_X12_init (352, 40, 38939, 51, 38989, none) 326 [(0, (2, 311))] [] G40 Q
  refine r_aload_n d_X12_init_326 0 rfl rfl (r_iconst d_X12_init_327 (n_arr (ci := 12) (f := 57) (fI := 57) (len := 5) (t := 0) (q := 352) P40 rfl d_X12_init_328 d_X12_init_330 rfl (by decide) (gk1 91 rfl rfl) fl_X12_132 (by decide) (fun r hr => by cases hr; exact ⟨rfl, rfl⟩) rfl bs_12 (by decide) (by decide) (ly_12_57 bs_12).2.2 (Fz_lay (ly_12_57 bs_12)) (Fz_arr (ly_12_57 bs_12).2.2 (by decide)) (by decide) ⟨by decide, by decide⟩ (fun G41 P41 => ?_)))
  clear P40
  show Rn (d + 1) M_X12_init (353, 41, 38944, 51, 38989, none) 333 [(0, (2, 311))] [] G41 Q
  refine r_aload_n d_X12_init_333 0 rfl rfl (r_iconst d_X12_init_334 (n_arr (ci := 12) (f := 58) (fI := 58) (len := 5) (t := 0) (q := 353) P41 rfl d_X12_init_335 d_X12_init_337 rfl (by decide) (gk1 91 rfl rfl) fl_X12_135 (by decide) (fun r hr => by cases hr; exact ⟨rfl, rfl⟩) rfl bs_12 (by decide) (by decide) (ly_12_58 bs_12).2.2 (Fz_lay (ly_12_58 bs_12)) (Fz_arr (ly_12_58 bs_12).2.2 (by decide)) (by decide) ⟨by decide, by decide⟩ (fun G42 P42 => ?_)))
  clear P41
  show Rn (d + 1) M_X12_init (354, 42, 38949, 51, 38989, none) 340 [(0, (2, 311))] [] G42 Q
  refine r_aload_n d_X12_init_340 0 rfl rfl (r_iconst d_X12_init_341 (n_arr (ci := 12) (f := 59) (fI := 59) (len := 5) (t := 0) (q := 354) P42 rfl d_X12_init_342 d_X12_init_344 rfl (by decide) (gk1 91 rfl rfl) fl_X12_138 (by decide) (fun r hr => by cases hr; exact ⟨rfl, rfl⟩) rfl bs_12 (by decide) (by decide) (ly_12_59 bs_12).2.2 (Fz_lay (ly_12_59 bs_12)) (Fz_arr (ly_12_59 bs_12).2.2 (by decide)) (by decide) ⟨by decide, by decide⟩ (fun G43 P43 => ?_)))
  clear P42
  show Rn (d + 1) M_X12_init (355, 43, 38954, 51, 38989, none) 347 [(0, (2, 311))] [] G43 Q
  refine r_aload_n d_X12_init_347 0 rfl rfl (r_iconst d_X12_init_348 (n_arr (ci := 12) (f := 60) (fI := 60) (len := 5) (t := 0) (q := 355) P43 rfl d_X12_init_349 d_X12_init_351 rfl (by decide) (gk1 91 rfl rfl) fl_X12_141 (by decide) (fun r hr => by cases hr; exact ⟨rfl, rfl⟩) rfl bs_12 (by decide) (by decide) (ly_12_60 bs_12).2.2 (Fz_lay (ly_12_60 bs_12)) (Fz_arr (ly_12_60 bs_12).2.2 (by decide)) (by decide) ⟨by decide, by decide⟩ (fun G44 P44 => ?_)))
  clear P43
  show Rn (d + 1) M_X12_init (356, 44, 38959, 51, 38989, none) 354 [(0, (2, 311))] [] G44 Q
  refine r_aload_n d_X12_init_354 0 rfl rfl (r_iconst d_X12_init_355 (n_arr (ci := 12) (f := 61) (fI := 61) (len := 5) (t := 0) (q := 356) P44 rfl d_X12_init_356 d_X12_init_358 rfl (by decide) (gk1 91 rfl rfl) fl_X12_144 (by decide) (fun r hr => by cases hr; exact ⟨rfl, rfl⟩) rfl bs_12 (by decide) (by decide) (ly_12_61 bs_12).2.2 (Fz_lay (ly_12_61 bs_12)) (Fz_arr (ly_12_61 bs_12).2.2 (by decide)) (by decide) ⟨by decide, by decide⟩ (fun G45 P45 => ?_)))
  clear P44
  show Rn (d + 1) M_X12_init (357, 45, 38964, 51, 38989, none) 361 [(0, (2, 311))] [] G45 Q
  refine r_aload_n d_X12_init_361 0 rfl rfl (r_iconst d_X12_init_362 (n_arr (ci := 12) (f := 62) (fI := 62) (len := 5) (t := 0) (q := 357) P45 rfl d_X12_init_363 d_X12_init_365 rfl (by decide) (gk1 91 rfl rfl) fl_X12_147 (by decide) (fun r hr => by cases hr; exact ⟨rfl, rfl⟩) rfl bs_12 (by decide) (by decide) (ly_12_62 bs_12).2.2 (Fz_lay (ly_12_62 bs_12)) (Fz_arr (ly_12_62 bs_12).2.2 (by decide)) (by decide) ⟨by decide, by decide⟩ (fun G46 P46 => ?_)))
  clear P45
  show Rn (d + 1) M_X12_init (358, 46, 38969, 51, 38989, none) 368 [(0, (2, 311))] [] G46 Q
  refine r_aload_n d_X12_init_368 0 rfl rfl (r_iconst d_X12_init_369 (n_arr (ci := 12) (f := 69) (fI := 69) (len := 5) (t := 0) (q := 358) P46 rfl d_X12_init_370 d_X12_init_372 rfl (by decide) (gk1 91 rfl rfl) fl_X12_150 (by decide) (fun r hr => by cases hr; exact ⟨rfl, rfl⟩) rfl bs_12 (by decide) (by decide) (ly_12_69 bs_12).2.2 (Fz_lay (ly_12_69 bs_12)) (Fz_arr (ly_12_69 bs_12).2.2 (by decide)) (by decide) ⟨by decide, by decide⟩ (fun G47 P47 => ?_)))
  clear P46
  show Rn (d + 1) M_X12_init (359, 47, 38974, 51, 38989, none) 375 [(0, (2, 311))] [] G47 Q
  refine r_aload_n d_X12_init_375 0 rfl rfl (r_iconst d_X12_init_376 (n_arr (ci := 12) (f := 70) (fI := 70) (len := 5) (t := 0) (q := 359) P47 rfl d_X12_init_377 d_X12_init_379 rfl (by decide) (gk1 91 rfl rfl) fl_X12_153 (by decide) (fun r hr => by cases hr; exact ⟨rfl, rfl⟩) rfl bs_12 (by decide) (by decide) (ly_12_70 bs_12).2.2 (Fz_lay (ly_12_70 bs_12)) (Fz_arr (ly_12_70 bs_12).2.2 (by decide)) (by decide) ⟨by decide, by decide⟩ (fun G48 P48 => ?_)))
  clear P47
  show Rn (d + 1) M_X12_init (360, 48, 38979, 51, 38989, none) 382 [(0, (2, 311))] [] G48 Q
  refine r_aload_n d_X12_init_382 0 rfl rfl (r_iconst d_X12_init_383 (n_arr (ci := 12) (f := 72) (fI := 72) (len := 3) (t := 0) (q := 360) P48 rfl d_X12_init_384 d_X12_init_386 rfl (by decide) (gk1 91 rfl rfl) fl_X12_156 (by decide) (fun r hr => by cases hr; exact ⟨rfl, rfl⟩) rfl bs_12 (by decide) (by decide) (ly_12_72 bs_12).2.2 (Fz_lay (ly_12_72 bs_12)) (Fz_arr (ly_12_72 bs_12).2.2 (by decide)) (by decide) ⟨by decide, by decide⟩ (fun G49 P49 => ?_)))
  clear P48
  show Rn (d + 1) M_X12_init (361, 49, 38982, 51, 38989, none) 389 [(0, (2, 311))] [] G49 Q
  refine r_aload_n d_X12_init_389 0 rfl rfl (r_iconst d_X12_init_390 (n_arr (ci := 12) (f := 73) (fI := 73) (len := 3) (t := 0) (q := 361) P49 rfl d_X12_init_391 d_X12_init_393 rfl (by decide) (gk1 91 rfl rfl) fl_X12_159 (by decide) (fun r hr => by cases hr; exact ⟨rfl, rfl⟩) rfl bs_12 (by decide) (by decide) (ly_12_73 bs_12).2.2 (Fz_lay (ly_12_73 bs_12)) (Fz_arr (ly_12_73 bs_12).2.2 (by decide)) (by decide) ⟨by decide, by decide⟩ (fun G50 P50 => ?_)))
  clear P49
  show Rn (d + 1) M_X12_init (362, 50, 38985, 51, 38989, none) 396 [(0, (2, 311))] [] G50 Q
  refine r_aload_n d_X12_init_396 0 rfl rfl (r_iconst d_X12_init_397 (n_arr (ci := 12) (f := 75) (fI := 75) (len := 4) (t := 1) (q := 362) P50 rfl d_X12_init_398 d_X12_init_400 rfl (by decide) (gk1 151 rfl rfl) fl_X12_162 (by decide) (fun r hr => by cases hr; exact ⟨rfl, rfl⟩) rfl bs_12 (by decide) (by decide) (ly_12_75 bs_12).2.2 (Fz_lay (ly_12_75 bs_12)) (Fz_arr (ly_12_75 bs_12).2.2 (by decide)) (by decide) ⟨by decide, by decide⟩ (fun G51 P51 => ?_)))
  clear P50
  show Rn (d + 1) M_X12_init (363, 51, 38989, 51, 38989, none) 403 [(0, (2, 311))] [] G51 Q
  have hFr := PA.fin (hi := 363) frq_12 bs_12 P51 hd (by decide)
  have rf : ∀ (k v : Int), 0 ≤ k → k < 76 → lay 311 k = v → 0 ≤ v → G51 311 k = v := fun k v k0 k1 hl hv => by
    rw [hFr 311 k (by decide) (by decide) k0 (by rw [show (shp (311 : Int).toNat).2 = 76 by decide +kernel]; exact k1)]
    exact Fz_lay (P := True) ⟨hl, hv, trivial⟩
  refine r_aload_n d_X12_init_403 0 rfl rfl (r_iconst d_X12_init_404 (r_callV (d := d) (ci := 12) (mc' := 0) (ms' := 0) (M' := M_X12_plain) [(0, 0)] d_X12_init_405 cl_X12_165 rfl (by decide) ⟨by decide, by decide⟩ (by decide) rfl ⟨by decide, by decide, (bs_ob bs_12).2.2⟩ (c_plain (a := 313) (c := 324) (e := 327) (f := 328) ⟨by decide, by decide, (bs_ob bs_12).2.2⟩ ⟨by decide, by decide⟩ (fun G' hG => ?_) ⟨by decide, by decide, by decide, by decide⟩ ⟨by decide, by decide, (ly_12_10 bs_12).2.2.2.2⟩ ⟨by decide, by decide, (ly_12_21 bs_12).2.2.2.2⟩ ⟨by decide, by decide, (ly_12_24 bs_12).2.2.2.2⟩ ⟨by decide, by decide, (ly_12_25 bs_12).2.2.2.2⟩ (by decide) (fun G' hp => ?_))))
  · refine ⟨(hG 10).trans (rf 10 _ (by decide) (by decide) (ly_12_10 bs_12).1 (by decide)), (hG 21).trans (rf 21 _ (by decide) (by decide) (ly_12_21 bs_12).1 (by decide)), (hG 24).trans (rf 24 _ (by decide) (by decide) (ly_12_24 bs_12).1 (by decide)), (hG 25).trans (rf 25 _ (by decide) (by decide) (ly_12_25 bs_12).1 (by decide))⟩
  · show Rn (d + 1) M_X12_init (363, 51, 38989, 51, 38989, none) 408 [(0, (2, 311))] [] G' Q
    exact r_ret d_X12_init_408 rfl ⟨by decide, Nat.le_refl _, Nat.le_refl _⟩ (h G51 G' (fun q k hq => P51.1 q k hq) hFr hp)
end NEW12
